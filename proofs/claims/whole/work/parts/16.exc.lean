/-! EXCEPTIONS: a method that returns or throws -/
def o_exn (n : Nat) : String := if n = 1 then "java/lang/IllegalArgumentException" else if n = 2 then "java/lang/IllegalStateException" else "java/lang/IndexOutOfBoundsException"
def o_QX (G : o_G) (o : Nat ⊕ Option Value) (σ' : o_S) : Array Value → State → Outcome → State → Prop := fun _ st oc t => (∃ v, o = .inr v ∧ oc = .returned v) ∧ o_H G σ' t.heap ∧ va_F (g_A G) st t
def o_XC (G : o_G) (o : Nat ⊕ Option Value) (σ' : o_S) : String → State → State → Prop := fun E st t => (∃ n, o = .inl n ∧ E = o_exn n) ∧ o_H G σ' t.heap ∧ va_F (g_A G) st t
def o_EvX (G : o_G) (y : MethodName) (cc : ByteArray) (nL : Nat) (ret : Option FieldType) (k : Nat) (av : List Value) (σ : o_S) (o : Nat ⊕ Option Value) (σ' : o_S) : Prop :=
  o_k σ ≤ o_k σ' ∧ ∀ d, k ≤ d → vx_Met (g_l G) y (Cond.code y cc nL ret :: o_WS) (o_RM d (o_k σ' - o_k σ)) (va_Pc av (o_P G σ)) (o_QX G o σ') (o_XC G o σ') (o_k σ' - o_k σ) (2 * (o_k σ' - o_k σ)) (g_A G)
def o_EX (G : o_G) (o : Nat ⊕ Option Value) (σ' : o_S) (X : o_X) : Prop := x_Q X = vx_MQ (x_b X) (o_QX G o σ') (o_XC G o σ') (x_a X) (x_s X) (x_R X).cells (x_R X).slots (g_A G) ∧ ∀ x ∈ (x_c X).exceptionTable.toList, False
def o_names : List String := ["java/lang/RuntimeException", "java/lang/Exception"]
def o_odd : List Cond := o_casts.map (fun q => Cond.castable q.1 q.2) ++ o_decls.map Cond.declares
theorem o_odd_ok {G : o_G} {s : State} (h : o_SF G s) {args : Array Value} : ∀ w ∈ o_odd, w.before args s = true := by
  intro w hw
  obtain ⟨-, -, -, -, -, -, -, -, -, h10, h11⟩ := h
  rcases List.mem_append.mp hw with h | h
  · obtain ⟨q, hq, rfl⟩ := List.mem_map.mp h
    exact va_Nw.use rfl (h10 q hq)
  · obtain ⟨q, hq, rfl⟩ := List.mem_map.mp h
    exact va_Nw.use rfl (h11 q hq)
set_option maxRecDepth 20000 in
theorem o_atA : (∀ w ∈ (vx_atS RX6 83 (o_exn 1) o_names).filter goodWord, w ∈ o_WS) ∧ (∀ w ∈ (vx_atS RX6 83 (o_exn 1) o_names).filter (fun w => !goodWord w), w ∈ o_odd) ∧ (∀ w ∈ vx_atS RX6 83 (o_exn 1) o_names, vx_ot w = true) := by decide +kernel
set_option maxRecDepth 20000 in
theorem o_atS : (∀ w ∈ (vx_atS RX6 90 (o_exn 2) o_names).filter goodWord, w ∈ o_WS) ∧ (∀ w ∈ (vx_atS RX6 90 (o_exn 2) o_names).filter (fun w => !goodWord w), w ∈ o_odd) ∧ (∀ w ∈ vx_atS RX6 90 (o_exn 2) o_names, vx_ot w = true) := by decide +kernel
set_option maxRecDepth 20000 in
theorem o_atI : (∀ w ∈ (vx_atS RX6 119 (o_exn 3) o_names).filter goodWord, w ∈ o_WS) ∧ (∀ w ∈ (vx_atS RX6 119 (o_exn 3) o_names).filter (fun w => !goodWord w), w ∈ o_odd) ∧ (∀ w ∈ vx_atS RX6 119 (o_exn 3) o_names, vx_ot w = true) := by decide +kernel
section
variable {G : o_G} {own : String} {cc : ByteArray} {ret : Option FieldType} {nL kd : Nat} {En : o_X → Prop} {k' : Nat} {σ : o_S} {pc : Nat} {L : List (Nat × Value)} {st : List Value}
theorem o_EvX.mk {y : MethodName} {av : List Value} {o : Nat ⊕ Option Value} {σ' : o_S} (hy : plainName y.cls = true) (hlen : (lg_sl av).length ≤ nL) (hZ : o_Z G y.cls cc ret nL kd (o_EX G o σ') (o_k σ') σ 0 (lv_args 0 av) []) : o_EvX G y cc nL ret kd av σ o σ' := by
  refine ⟨hZ.1, fun d hd => ?_⟩
  refine vx_ofW (cc := cc) (maxL := nL) (ret := ret) hy rfl ?_
  intro p e s m args below meth c s₁ B hml htab hv
  obtain ⟨rfl, hSF, hH⟩ := hv
  have hts := atoms_spec (ws := Cond.code y cc nL ret :: o_WS) B.pre
  rw [lg_entry_eq]
  exact hZ.2 (p, e, o_RM d (o_k σ' - o_k σ), s, m, av.toArray, below, meth, c, vx_MQ below (o_QX G o σ') (o_XC G o σ') av.toArray s (o_k σ' - o_k σ) (2 * (o_k σ' - o_k σ)) (g_A G)) ⟨B.exec, B.bytes, B.returns, hml, findClass_of_methodNamed B.named, fun w h => hts w (List.mem_cons_of_mem _ h), B.notSynchronized, hSF, hd, Nat.le_refl _⟩ ⟨rfl, htab⟩ s.heap [] _ 0 0 hH va_S.rf (lv_entry av hlen) (Nat.le_of_eq (Nat.zero_add _)) (Nat.le_of_eq (Nat.zero_add _))
theorem zx_iret {v : Int32} (hr : ret = some .int) (hE : En = o_EX G (.inr (some (.int v))) σ) (hk : k' = o_k σ) (hd : decode cc pc = .ok (.ireturn, 1)) : o_Z G own cc ret nL kd En k' σ pc L [.int v] := by
  subst hr hE hk
  refine ⟨Nat.le_refl _, fun X C E H locs ls cells slots hP hS hl h1 h2 => ?_⟩
  have e : x_Q X = _ := E.1
  show W _ _ _ _ _ _ _ _ _ _ _ _ _ _ (x_Q X) _
  rw [e]
  exact vx_ret (W.widen (Nat.le_trans (Nat.le_add_right _ _) h1) (Nat.le_trans (Nat.le_add_right _ _) h2) (W.iret C.1 C.2.1 C.2.2.1 (fun t ht hW => ⟨⟨_, rfl, rfl⟩, by rw [ht]; exact hP, hS.F ht⟩) hS.2.2 hd C.2.2.2.2.2.2.1))
theorem zx_vret (hr : ret = none) (hE : En = o_EX G (.inr none) σ) (hk : k' = o_k σ) (hd : decode cc pc = .ok (.return_, 1)) : o_Z G own cc ret nL kd En k' σ pc L [] := by
  subst hr hE hk
  refine ⟨Nat.le_refl _, fun X C E H locs ls cells slots hP hS hl h1 h2 => ?_⟩
  have e : x_Q X = _ := E.1
  show W _ _ _ _ _ _ _ _ _ _ _ _ _ _ (x_Q X) _
  rw [e]
  exact vx_ret (W.widen (Nat.le_trans (Nat.le_add_right _ _) h1) (Nat.le_trans (Nat.le_add_right _ _) h2) (W.vret C.1 C.2.1 C.2.2.1 (fun t ht hW => ⟨⟨_, rfl, rfl⟩, by rw [ht]; exact hP, hS.F ht⟩) hS.2.2 hd C.2.2.2.2.2.2.1))
/-- the cells stay where they are, as others come -/
theorem o_H.kept {H H1 : Heap} (h : o_H G σ H) (hk : ∀ q : Nat, q < H.size → H1[q]? = H[q]?) : o_H G σ H1 := by
  obtain ⟨ra, gf, hr, hp, hq⟩ := h
  exact ⟨ra, gf, hr, fun k q h => (hp k q h).kept (hk _ (hp k q h).lt), hq⟩
theorem zx_throw {n ik is ic : Nat} {text : String} (hE : En = o_EX G (.inl n) (o_addK σ 3)) (hk : k' = o_k σ + 3) (hkd : 6 ≤ kd) (hcl : Cond.classLink own ik (o_exn n) ∈ o_WS) (hini : Cond.initialized (o_exn n) ∈ o_WS) (hfit : Bundle.fit (o_exn n) = true) (hstr : (own, is, text) ∈ o_strs)
    (hat : (∀ w ∈ (vx_atS own ic (o_exn n) o_names).filter goodWord, w ∈ o_WS) ∧ (∀ w ∈ (vx_atS own ic (o_exn n) o_names).filter (fun w => !goodWord w), w ∈ o_odd) ∧ (∀ w ∈ vx_atS own ic (o_exn n) o_names, vx_ot w = true))
    (d0 : decode cc pc = .ok (.new ik, 3)) (d3 : decode cc (pc + 3) = .ok (.dup, 1)) (d4 : decode cc (pc + 4) = .ok (.ldc is, 2)) (d6 : decode cc (pc + 6) = .ok (.invokespecial ic, 3)) (d9 : decode cc (pc + 9) = .ok (.athrow, 1)) (hro : (st.map fun v => v.category).sum ≤ 8) : o_Z G own cc ret nL kd En k' σ pc L st := by
  subst hE hk
  refine ⟨Nat.le_add_right _ _, fun X C E H locs ls cells slots hP hS hl h1 h2 => ?_⟩
  obtain ⟨hx, hb, hrt, hmx, hown, hts, hlk, hSF, hfr, hlo⟩ := id C
  obtain ⟨sa, hsa⟩ := hSF.2.2.2.2.2.1 _ hstr
  have e : x_Q X = _ := E.1
  show W _ _ _ _ _ _ _ _ _ _ _ _ _ _ (x_Q X) _
  rw [e]
  have h1 : cells + 3 ≤ (x_R X).cells := by omega
  have h2 : slots + 6 ≤ (x_R X).slots := by omega
  refine vx_throwS (names := o_names) hx hb hSF.2.2.2.2.2.2.2.2.1 hown hfit (by decide) (hts _ hcl) (hts _ hini) hsa (vx_hat (fun w hw => hts _ (hat.1 w hw)) hat.2.1 (o_odd_ok hSF)) ?_ hSF.2.1 hSF.2.2.1 hS (hl.1.trans hmx.symm) d0 d3 d4 d6 d9 (fun x hx => (E.2 x hx).elim) ?_ ?_ (by omega) (by omega) hlk ?_ hS.2.2 (by omega) (by omega)
  · intro w hw
    rcases List.mem_cons.mp hw with rfl | hw
    · exact Bool.or_eq_true_iff.mpr (Or.inr (List.mem_filter.mp hcl).2)
    rcases List.mem_cons.mp hw with rfl | hw
    · exact Bool.or_eq_true_iff.mpr (Or.inr (List.mem_filter.mp hini).2)
    · exact hat.2.2 w hw
  · show 2 + 3 < (x_R X).frames; omega
  · show _ + (13 * (2 + 1) + 43) ≤ (x_R X).locals; omega
  · intro t hal hsz hq
    exact ⟨⟨n, rfl, rfl⟩, hP.kept hq, Nat.le_trans hS.1 hsz, fun q hq1 hq2 => by rw [hq q (Nat.lt_of_lt_of_le hq1 hS.1)]; exact hS.2.1 q hq1 hq2⟩
/-- a call that may throw; what it throws goes on to the caller -/
theorem zx_callV {y : MethodName} {cy : ByteArray} {nY kY n i b : Nat} {rY : Option FieldType} {As rest : List Value} {σ1 : o_S} {o : Nat ⊕ Option Value}
    (hE : o_EvX G y cy nY rY kY (.ref b :: As) σ o σ1) (hk : kY + 1 ≤ kd) (hM : o_MI y cy nY rY n) (hml : Cond.methodLink own i y ∈ o_WS) (hn : As.length = n) (hst : st = As.reverse ++ .ref b :: rest) (hro : (rest.map fun v => v.category).sum ≤ 8) (hrv : o_RV G b y.cls) (hd : decode cc pc = .ok (.invokevirtual i, 3))
    (kx : ∀ e, o = .inl e → En = o_EX G (.inl e) σ1 ∧ k' = o_k σ1) (k : ∀ v, o = .inr v → o_Z G own cc ret nL kd En k' σ1 (pc + 3) L (v.toList ++ rest)) : o_Z G own cc ret nL kd En k' σ pc L st := by
  have hk1 : o_k σ1 ≤ k' := by
    cases o with
    | inl e => exact Nat.le_of_eq (kx e rfl).2.symm
    | inr v => exact (k v rfl).1
  refine ⟨Nat.le_trans hE.1 hk1, fun X C E H locs ls cells slots hP hS hl h1 h2 => ?_⟩
  obtain ⟨hx, hb, hr, hmx, hown, hts, hlk, hSF, hfr, hlo⟩ := id C
  obtain ⟨m1, m2, m3, m4, m5, m6⟩ := hM
  have q1 := hE.1
  have hrun := vx_runV (R := x_R X) (H := H) (p := x_p X) (e := x_e X) (below := x_b X) (meth := x_me X) (locs := locs) (cells := cells) (slots := slots) (g := F0 (x_m X) pc ls st) (As := As) (rest := rest) (b := b) (C := y.cls) (n := n) ⟨hx, hb, hmx, hown, hts⟩ (hE.2 ((x_R X).frames - 1) (by omega)) ⟨callB_of n hts (o_GoodIn m4) rfl rfl rfl (hts _ m3) (hts _ hml) m6 ⟨by show (x_R X).frames - 1 + 1 ≤ _; omega, by show 8 + (nY + 11) + 40 * ((x_R X).frames - 1) ≤ _; omega⟩, hts _ m1, hts _ m2⟩ ⟨o_blind G σ _, hrv.cell hSF hP, fun U hU hW => ⟨rfl, hSF.moved hW hU hS, by rw [hU]; exact hP⟩⟩ rfl hn hl.1 hst (lv_room hro) hd ⟨by omega, by omega⟩
  intro T hT Xs
  rcases hrun T hT Xs with ⟨v', st₀, t, T', Lc, h0, X', hL, e1, e2, ⟨⟨v, ho, hv⟩, hH1, hF⟩, go⟩ | ⟨q, st₀, t, T', Lc, En', ce, h0, X', hL, e1, e2, ⟨⟨en, ho, hen⟩, hH1, hF⟩, hce, hcv, hcl, go⟩
  · cases hv
    have hS' := (vx_keep h0 e1 hS (fun _ _ h => h) (fun _ h => h) hL hF).2.2
    obtain ⟨t2, a1, b1⟩ := (k _ ho).2 X C E T'.heap (locs ++ Lc) ls (cells + (o_k σ1 - o_k σ)) (slots + 2 * (o_k σ1 - o_k σ)) (by rw [e1]; exact hH1) hS' hl (by omega) (by omega) T' rfl X'
    exact ⟨t2, go t2 a1, b1⟩
  · obtain ⟨eE, ek⟩ := kx en ho
    subst eE
    have hS' := (vx_keep h0 e1 hS (fun _ _ h => h) (fun _ h => h) hL hF).2.2
    have W2 : vx_W (x_p X) (g_l G) (x_e X) (x_R X) (x_s X) (x_m X) (x_a X) (x_b X) (x_me X) (x_c X) T'.heap (locs ++ Lc) (cells + (o_k σ1 - o_k σ)) (slots + 2 * (o_k σ1 - o_k σ)) (x_Q X) (F0 (x_m X) pc ls rest) q := by
      have e : x_Q X = _ := E.1
      rw [e]
      exact vx_out (fun x hx => (E.2 x hx).elim) hlk (by rw [e1]; exact hce) hcv hcl (fun t9 ht9 ha9 => ⟨⟨en, rfl, hen⟩, by rw [ht9, e1]; exact hH1, hS'.F ht9⟩) hS'.2.2 (by omega) (by omega)
    obtain ⟨t2, a1, b1⟩ := W2 T' rfl X'
    exact ⟨t2, go.trans a1, b1⟩
end
