/-! METHODS WITH HANDLERS (the law's own): they catch what they call -/
def o_EW (G : o_G) (hh : List (Nat × Nat × Nat × Nat)) (v : Option Value) (σ' : o_S) (X : o_X) : Prop := o_E G v σ' X ∧ (x_c X).exceptionTable.toList = tableOf hh
def o_EvW (G : o_G) (y : MethodName) (cc : ByteArray) (nL : Nat) (ret : Option FieldType) (hh : List (Nat × Nat × Nat × Nat)) (k : Nat) (av : List Value) (σ : o_S) (v : Option Value) (σ' : o_S) : Prop :=
  o_k σ ≤ o_k σ' ∧ ∀ d, k ≤ d → Met (g_l G) y (Cond.codeWith y cc nL ret hh :: o_WS) (o_RM d (o_k σ' - o_k σ)) (va_Pc av (o_P G σ)) (o_QR G v σ') (o_k σ' - o_k σ) (2 * (o_k σ' - o_k σ)) (g_A G)
section
variable {G : o_G} {own : String} {cc : ByteArray} {ret : Option FieldType} {nL kd : Nat} {En : o_X → Prop} {k' : Nat} {σ : o_S} {pc : Nat} {L : List (Nat × Value)} {st : List Value}
theorem o_Z.mono {En' : o_X → Prop} (k : o_Z G own cc ret nL kd En' k' σ pc L st) (h : ∀ X, En X → En' X) : o_Z G own cc ret nL kd En k' σ pc L st := ⟨k.1, fun X C E => k.2 X C (h X E)⟩
theorem o_EvW.mk {y : MethodName} {hh : List (Nat × Nat × Nat × Nat)} {av : List Value} {v : Option Value} {σ' : o_S} (hy : plainName y.cls = true) (hlen : (lg_sl av).length ≤ nL) (hZ : o_Z G y.cls cc ret nL kd (o_EW G hh v σ') (o_k σ') σ 0 (lv_args 0 av) []) : o_EvW G y cc nL ret hh kd av σ v σ' := by
  refine ⟨hZ.1, fun d hd => ?_⟩
  refine va_MetW (cc := cc) (maxL := nL) (ret := ret) (hh := hh) hy rfl ?_
  intro p e s m args below meth c s₁ B hml hv
  obtain ⟨rfl, hSF, hH⟩ := hv
  have hts := atoms_spec (ws := Cond.codeWith y cc nL ret hh :: o_WS) B.pre
  have htab := vx_table (x := y) B (hts _ List.mem_cons_self)
  rw [lg_entry_eq]
  exact hZ.2 (p, e, o_RM d (o_k σ' - o_k σ), s, m, av.toArray, below, meth, c, MQ below (o_QR G v σ') av.toArray s (o_k σ' - o_k σ) (2 * (o_k σ' - o_k σ)) (g_A G)) ⟨B.exec, B.bytes, B.returns, hml, findClass_of_methodNamed B.named, fun w h => hts w (List.mem_cons_of_mem _ h), B.notSynchronized, hSF, hd, Nat.le_refl _⟩ ⟨rfl, htab⟩ s.heap [] _ 0 0 hH va_S.rf (lv_entry av hlen) (Nat.le_of_eq (Nat.zero_add _)) (Nat.le_of_eq (Nat.zero_add _))
theorem zw_iret {hh : List (Nat × Nat × Nat × Nat)} {v : Int32} (hr : ret = some .int) (hE : En = o_EW G hh (some (.int v)) σ) (hk : k' = o_k σ) (hd : decode cc pc = .ok (.ireturn, 1)) : o_Z G own cc ret nL kd En k' σ pc L [.int v] := by
  subst hE
  exact (z_iret hr rfl hk hd).mono fun X h => h.1
/-- a call that may throw; this method's table catches it -/
theorem zw_callV {y : MethodName} {cy : ByteArray} {nY kY n i b : Nat} {rY : Option FieldType} {As rest : List Value} {σ1 : o_S} {o : Nat ⊕ Option Value} {hh : List (Nat × Nat × Nat × Nat)}
    (hE : o_EvX G y cy nY rY kY (.ref b :: As) σ o σ1) (hk : kY + 1 ≤ kd) (hM : o_MI y cy nY rY n) (hml : Cond.methodLink own i y ∈ o_WS) (hn : As.length = n) (hst : st = As.reverse ++ .ref b :: rest) (hro : (rest.map fun v => v.category).sum ≤ 8) (hrv : o_RV G b y.cls) (hd : decode cc pc = .ok (.invokevirtual i, 3))
    (htab : ∀ X, En X → (x_c X).exceptionTable.toList = tableOf hh)
    (kx : ∀ e, o = .inl e → ∃ (pre : List ExceptionTableEntry) (x : ExceptionTableEntry) (suf : List ExceptionTableEntry), tableOf hh = pre ++ x :: suf ∧ (∀ z ∈ pre, z.catchType ≠ 0 ∧ ∃ nm : String, Cond.classLink own z.catchType nm ∈ o_WS ∧ (o_exn e, nm) ∈ o_ncs) ∧ covers x pc = true ∧ x.catchType ≠ 0 ∧ Cond.classLink own x.catchType (o_exn e) ∈ o_WS ∧ (o_exn e, o_exn e) ∈ o_casts ∧ ∀ q, o_Z G own cc ret nL kd En k' σ1 x.handlerPc L [.ref q])
    (k : ∀ v, o = .inr v → o_Z G own cc ret nL kd En k' σ1 (pc + 3) L (v.toList ++ rest)) : o_Z G own cc ret nL kd En k' σ pc L st := by
  have hk1 : o_k σ1 ≤ k' := by
    cases o with
    | inl e =>
      obtain ⟨pre, x, suf, -, -, -, -, -, -, hz⟩ := kx e rfl
      exact (hz 0).1
    | inr v => exact (k v rfl).1
  refine ⟨Nat.le_trans hE.1 hk1, fun X C E H locs ls cells slots hP hS hl h1 h2 => ?_⟩
  obtain ⟨hx, hb, hr, hmx, hown, hts, hlk, hSF, hfr, hlo⟩ := id C
  obtain ⟨m1, m2, m3, m4, m5, m6⟩ := hM
  have q1 := hE.1
  have hrun := vx_runV (R := x_R X) (H := H) (p := x_p X) (e := x_e X) (below := x_b X) (meth := x_me X) (locs := locs) (cells := cells) (slots := slots) (g := F0 (x_m X) pc ls st) (As := As) (rest := rest) (b := b) (C := y.cls) (n := n) ⟨hx, hb, hmx, hown, hts⟩ (hE.2 ((x_R X).frames - 1) (by omega)) ⟨callB_of n hts (o_GoodIn m4) rfl rfl rfl (hts _ m3) (hts _ hml) m6 ⟨by show (x_R X).frames - 1 + 1 ≤ _; omega, by show 8 + (nY + 11) + 40 * ((x_R X).frames - 1) ≤ _; omega⟩, hts _ m1, hts _ m2⟩ ⟨o_blind G σ _, hrv.cell hSF hP, fun U hU hW => ⟨rfl, hSF.moved hW hU hS, by rw [hU]; exact hP⟩⟩ rfl hn hl.1 hst (lv_room hro) hd ⟨by omega, by omega⟩
  intro T hT Xs
  rcases hrun T hT Xs with ⟨v', st₀, t, T', Lc, h0, X', hL, e1, e2, ⟨⟨v, ho, hv⟩, hH1, hF⟩, go⟩ | ⟨q, st₀, t, T', Lc, En', ce, h0, X', hL, e1, e2, ⟨⟨en, ho, hen⟩, hH1, hF⟩, hce, hcv, hcl, go⟩
  · cases hv
    have hS' := (vx_keep h0 e1 hS (fun _ _ h => h) (fun _ h => h) hL hF).2.2
    obtain ⟨t2, a1, b1⟩ := (k _ ho).2 X C E T'.heap (locs ++ Lc) ls (cells + (o_k σ1 - o_k σ)) (slots + 2 * (o_k σ1 - o_k σ)) (by rw [e1]; exact hH1) hS' hl (by omega) (by omega) T' rfl X'
    exact ⟨t2, go t2 a1, b1⟩
  · obtain ⟨pre, x, suf, ht, hpass, hcov, hct, hlink, hcast, hz⟩ := kx en ho
    have hS' := (vx_keep h0 e1 hS (fun _ _ h => h) (fun _ h => h) hL hF).2.2
    have W2 : vx_W (x_p X) (g_l G) (x_e X) (x_R X) (x_s X) (x_m X) (x_a X) (x_b X) (x_me X) (x_c X) T'.heap (locs ++ Lc) (cells + (o_k σ1 - o_k σ)) (slots + 2 * (o_k σ1 - o_k σ)) (x_Q X) (F0 (x_m X) pc ls rest) q := by
      subst hen
      refine vx_catch (name := o_exn en) hown pre x suf ((htab X E).trans ht) (fun z hz2 => ?_) hcov hct (hts _ hlink) (va_Nw.use rfl (hSF.2.2.2.2.2.2.2.2.2.1 _ hcast)) (by rw [e1]; exact hce) hcv hcl ?_
      · obtain ⟨z1, nm, z2, z3⟩ := hpass z hz2
        exact Or.inr ⟨z1, nm, hts _ z2, hSF.2.2.2.2.2.2.1 _ z3⟩
      · exact (hz q).2 X C E T'.heap (locs ++ Lc) ls _ _ (by rw [e1]; exact hH1) hS' hl (by omega) (by omega)
    obtain ⟨t2, a1, b1⟩ := W2 T' rfl X'
    exact ⟨t2, go.trans a1, b1⟩
/-- a static method with handlers that can be called -/
def o_MW (y : MethodName) (cy : ByteArray) (nY : Nat) (rY : Option FieldType) (hh : List (Nat × Nat × Nat × Nat)) (n : Nat) : Prop :=
  Cond.static y ∈ o_WS ∧ Cond.initialized y.cls ∈ o_WS ∧ Cond.codeWith y cy nY rY hh ∈ o_WS ∧ nY ≤ 21 ∧ (y.cls ≠ "java/lang/invoke/MethodHandle" ∧ y.cls ≠ "java/lang/invoke/VarHandle" ∧ (parseMethodDescriptor y.desc).map (fun d => d.parameters.length) = some n)
theorem z_callWi {y : MethodName} {cy : ByteArray} {nY kY n i : Nat} {rY : Option FieldType} {hh : List (Nat × Nat × Nat × Nat)} {As rest : List Value} {σ1 : o_S} {v : Int32}
    (hE : o_EvW G y cy nY rY hh kY As σ (some (.int v)) σ1) (hk : kY + 1 ≤ kd) (hM : o_MW y cy nY rY hh n) (hml : Cond.methodLink own i y ∈ o_WS) (hn : As.length = n) (hst : st = As.reverse ++ rest) (hro : (rest.map fun v => v.category).sum ≤ 8) (hd : decode cc pc = .ok (.invokestatic i, 3))
    (k : o_Z G own cc ret nL kd En k' σ1 (pc + 3) L (.int v :: rest)) : o_Z G own cc ret nL kd En k' σ pc L st := by
  refine ⟨Nat.le_trans hE.1 k.1, fun X C E H locs ls cells slots hP hS hl h1 h2 => ?_⟩
  obtain ⟨hx, hb, hr, hmx, hown, hts, hlk, hSF, hfr, hlo⟩ := id C
  obtain ⟨m1, m3, m4, m5, m6⟩ := hM
  have q1 := hE.1
  have q2 := k.1
  refine o_after (v := some (.int v)) C E hl hS (vx_runSW (As := As) (rest := rest) (n := n) ⟨hx, hb, hmx, hown, hts⟩ (hE.2 ((x_R X).frames - 1) (by omega)) (vx_cwSW n hts ?_ rfl rfl rfl m6 ⟨?_, ?_⟩) ⟨o_blind G σ _, fun U hU hW => ⟨rfl, hSF.moved hW hU hS, by rw [hU]; exact hP⟩⟩ rfl hn hl.1 hst (lv_room hro) hd ⟨?_, ?_⟩) k ?_ ?_
  · intro w hw
    have hm : w ∈ o_WS := by
      rcases List.mem_append.mp hw with h | h
      · simp only [List.mem_cons, List.not_mem_nil, or_false] at h
        rcases h with rfl | rfl | rfl
        · exact hml
        · exact m1
        · exact m3
      · exact (List.mem_cons.mp h).elim (fun e => e ▸ m4) id
    exact ⟨hm, good_of_word (List.mem_filter.mp hm).2⟩
  · show (x_R X).frames - 1 + 1 ≤ _; omega
  · show 8 + (nY + 11) + 40 * ((x_R X).frames - 1) ≤ _; omega
  · omega
  · omega
  · omega
  · omega
end
