section
variable {G : o_G} {own : String} {cc : ByteArray} {ret : Option FieldType} {nL kd : Nat} {En : o_X → Prop} {k' : Nat} {σ : o_S} {pc : Nat} {L : List (Nat × Value)} {st : List Value}
/-- a method's contract out of its walk -/
theorem o_Ev.mk {y : MethodName} {av : List Value} {v : Option Value} {σ' : o_S} (hy : plainName y.cls = true) (hlen : (lg_sl av).length ≤ nL) (hZ : o_Z G y.cls cc ret nL kd (o_E G v σ') (o_k σ') σ 0 (lv_args 0 av) []) : o_Ev G y cc nL ret kd av σ v σ' := by
  refine ⟨hZ.1, fun d hd => ?_⟩
  refine Met.ofW (cc := cc) (maxL := nL) (ret := ret) hy rfl ?_
  intro p e s m args below meth c s₁ B hml hv
  obtain ⟨rfl, hSF, hH⟩ := hv
  have hts := atoms_spec (ws := Cond.code y cc nL ret :: o_WS) B.pre
  rw [lg_entry_eq]
  exact hZ.2 (p, e, o_RM d (o_k σ' - o_k σ), s, m, av.toArray, below, meth, c, MQ below (o_QR G v σ') av.toArray s (o_k σ' - o_k σ) (2 * (o_k σ' - o_k σ)) (g_A G)) ⟨B.exec, B.bytes, B.returns, hml, findClass_of_methodNamed B.named, fun w h => hts w (List.mem_cons_of_mem _ h), B.notSynchronized, hSF, hd, Nat.le_refl _⟩ rfl s.heap [] _ 0 0 hH va_S.rf (lv_entry av hlen) (Nat.le_of_eq (Nat.zero_add _)) (Nat.le_of_eq (Nat.zero_add _))
theorem z_iret {v : Int32} (hr : ret = some .int) (hE : En = o_E G (some (.int v)) σ) (hk : k' = o_k σ) (hd : decode cc pc = .ok (.ireturn, 1)) : o_Z G own cc ret nL kd En k' σ pc L [.int v] := by
  subst hr hE hk
  refine ⟨Nat.le_refl _, fun X C E H locs ls cells slots hP hS hl h1 h2 => ?_⟩
  have e : x_Q X = _ := E
  show W _ _ _ _ _ _ _ _ _ _ _ _ _ _ (x_Q X) _
  rw [e]
  exact W.widen (Nat.le_trans (Nat.le_add_right _ _) h1) (Nat.le_trans (Nat.le_add_right _ _) h2) (W.iret C.1 C.2.1 C.2.2.1 (fun t ht hW => ⟨rfl, by rw [ht]; exact hP, hS.F ht⟩) hS.2.2 hd C.2.2.2.2.2.2.1)
theorem z_zret {v : Int32} (hv : v &&& 1 = v) (hr : ret = some .boolean) (hE : En = o_E G (some (.int v)) σ) (hk : k' = o_k σ) (hd : decode cc pc = .ok (.ireturn, 1)) : o_Z G own cc ret nL kd En k' σ pc L [.int v] := by
  subst hr hE hk
  refine ⟨Nat.le_refl _, fun X C E H locs ls cells slots hP hS hl h1 h2 => ?_⟩
  have e : x_Q X = _ := E
  show W _ _ _ _ _ _ _ _ _ _ _ _ _ _ (x_Q X) _
  rw [e]
  exact W.widen (Nat.le_trans (Nat.le_add_right _ _) h1) (Nat.le_trans (Nat.le_add_right _ _) h2) (W.zret C.1 C.2.1 C.2.2.1 (congrArg Value.int hv) (fun t ht hW => ⟨rfl, by rw [ht]; exact hP, hS.F ht⟩) hS.2.2 hd C.2.2.2.2.2.2.1)
theorem z_lret {v : Int64} (hr : ret = some .long) (hE : En = o_E G (some (.long v)) σ) (hk : k' = o_k σ) (hd : decode cc pc = .ok (.lreturn, 1)) : o_Z G own cc ret nL kd En k' σ pc L [.long v] := by
  subst hr hE hk
  refine ⟨Nat.le_refl _, fun X C E H locs ls cells slots hP hS hl h1 h2 => ?_⟩
  have e : x_Q X = _ := E
  show W _ _ _ _ _ _ _ _ _ _ _ _ _ _ (x_Q X) _
  rw [e]
  exact W.widen (Nat.le_trans (Nat.le_add_right _ _) h1) (Nat.le_trans (Nat.le_add_right _ _) h2) (W.lret C.1 C.2.1 C.2.2.1 (fun t ht hW => ⟨rfl, by rw [ht]; exact hP, hS.F ht⟩) hS.2.2 hd C.2.2.2.2.2.2.1)
theorem z_vret (hr : ret = none) (hE : En = o_E G none σ) (hk : k' = o_k σ) (hd : decode cc pc = .ok (.return_, 1)) : o_Z G own cc ret nL kd En k' σ pc L [] := by
  subst hr hE hk
  refine ⟨Nat.le_refl _, fun X C E H locs ls cells slots hP hS hl h1 h2 => ?_⟩
  have e : x_Q X = _ := E
  show W _ _ _ _ _ _ _ _ _ _ _ _ _ _ (x_Q X) _
  rw [e]
  exact W.widen (Nat.le_trans (Nat.le_add_right _ _) h1) (Nat.le_trans (Nat.le_add_right _ _) h2) (W.vret C.1 C.2.1 C.2.2.1 (fun t ht hW => ⟨rfl, by rw [ht]; exact hP, hS.F ht⟩) hS.2.2 hd C.2.2.2.2.2.2.1)
/-- a method that can be called on an object; n arguments -/
def o_MI (y : MethodName) (cy : ByteArray) (nY : Nat) (rY : Option FieldType) (n : Nat) : Prop :=
  Cond.instanceMethod y ∈ o_WS ∧ Cond.selects y.cls y y ∈ o_WS ∧ Cond.initialized y.cls ∈ o_WS ∧ Cond.code y cy nY rY ∈ o_WS ∧ nY ≤ 21 ∧ (y.cls ≠ "java/lang/invoke/MethodHandle" ∧ y.cls ≠ "java/lang/invoke/VarHandle" ∧ (parseMethodDescriptor y.desc).map (fun d => d.parameters.length) = some n)
def o_MS (y : MethodName) (cy : ByteArray) (nY : Nat) (rY : Option FieldType) (n : Nat) : Prop :=
  Cond.static y ∈ o_WS ∧ Cond.initialized y.cls ∈ o_WS ∧ Cond.code y cy nY rY ∈ o_WS ∧ nY ≤ 21 ∧ (y.cls ≠ "java/lang/invoke/MethodHandle" ∧ y.cls ≠ "java/lang/invoke/VarHandle" ∧ (parseMethodDescriptor y.desc).map (fun d => d.parameters.length) = some n)
/-- an object of the world, of the class Cn -/
def o_RV (G : o_G) (b : Nat) (Cn : String) : Prop := ∀ (ra : Nat → Nat) (gf : Nat → Nat → Int32) (σ : o_S), ∃ (q0 ci : Nat) (fs : List Value) (q : vw_C), (o_W G ra gf σ)[q0]? = some (b, .inr (ci, fs)) ∧ o_cl[ci]? = some q ∧ q.1 = Cn
theorem o_RV.cell {b : Nat} {Cn : String} (h : o_RV G b Cn) {s : State} {H : Heap} (hS : o_SF G s) (hP : o_H G σ H) : ∃ cell : Cell, H[b]? = some cell ∧ cell.vm.isStatics = false ∧ s.vm.findClass Cn = some cell.cls := by
  obtain ⟨ra, gf, hr, hp, hq⟩ := hP
  obtain ⟨q0, ci, fs, q, h1, h2, rfl⟩ := h ra gf σ
  exact va_recv hS.1 hp h2 h1
/-- what a call leaves behind it -/
theorem o_after {X : o_X} {H : Heap} {locs : List Loc} {ls : Array Slot} {cells slots mc ms : Nat} {rest : List Value} {a : Array Value} {v : Option Value} {σ1 : o_S} (C : o_C G X own cc ret nL kd) (E : En X) (hl : lv_has ls nL L) (hS : va_S (g_A G) (x_s X).heap H locs)
    (hr : va_Run (x_p X) (g_l G) (x_e X) (x_R X) (x_s X) (x_m X) (x_a X) (x_b X) (x_me X) (x_c X) H locs cells slots mc ms (F0 (x_m X) pc ls st) rest (o_QR G v σ1 a) (g_A G))
    (k : o_Z G own cc ret nL kd En k' σ1 (pc + 3) L (v.toList ++ rest)) (h1 : (cells + mc) + (k' - o_k σ1) ≤ (x_R X).cells) (h2 : (slots + ms) + 2 * (k' - o_k σ1) ≤ (x_R X).slots) : o_Wf G X H locs cells slots pc ls st := by
  intro T hT Xs
  obtain ⟨v', st₀, t, T', Lc, h0, X', hL, e1, e2, ⟨hv, hH1, hF⟩, go⟩ := hr T hT Xs
  cases hv
  have hS' := (vx_keep h0 e1 hS (fun _ _ h => h) (fun _ h => h) hL hF).2.2
  obtain ⟨t2, a1, b1⟩ := k.2 X C E T'.heap (locs ++ Lc) ls (cells + mc) (slots + ms) (by rw [e1]; exact hH1) hS' hl h1 h2 T' rfl X'
  exact ⟨t2, go t2 a1, b1⟩
theorem z_callV {y : MethodName} {cy : ByteArray} {nY kY n i b : Nat} {rY : Option FieldType} {As rest : List Value} {σ1 : o_S} {v : Option Value}
    (hE : o_Ev G y cy nY rY kY (.ref b :: As) σ v σ1) (hk : kY + 1 ≤ kd) (hM : o_MI y cy nY rY n) (hml : Cond.methodLink own i y ∈ o_WS) (hn : As.length = n) (hst : st = As.reverse ++ .ref b :: rest) (hro : (rest.map fun v => v.category).sum ≤ 8) (hrv : o_RV G b y.cls) (hd : decode cc pc = .ok (.invokevirtual i, 3))
    (k : o_Z G own cc ret nL kd En k' σ1 (pc + 3) L (v.toList ++ rest)) : o_Z G own cc ret nL kd En k' σ pc L st := by
  refine ⟨Nat.le_trans hE.1 k.1, fun X C E H locs ls cells slots hP hS hl h1 h2 => ?_⟩
  obtain ⟨hx, hb, hr, hmx, hown, hts, hlk, hSF, hfr, hlo⟩ := id C
  obtain ⟨m1, m2, m3, m4, m5, m6⟩ := hM
  have q1 := hE.1
  have q2 := k.1
  refine o_after C E hl hS (va_runV (As := As) (rest := rest) (b := b) (C := y.cls) (n := n) ⟨hx, hb, hmx, hown, hts⟩ (hE.2 ((x_R X).frames - 1) (by omega)) ⟨callB_of n hts (o_GoodIn m4) rfl rfl rfl (hts _ m3) (hts _ hml) m6 ⟨?_, ?_⟩, hts _ m1, hts _ m2⟩ ⟨o_blind G σ _, hrv.cell hSF hP, fun U hU hW => ⟨rfl, hSF.moved hW hU hS, by rw [hU]; exact hP⟩⟩ rfl hn hl.1 hst (lv_room hro) hd ⟨?_, ?_⟩) k ?_ ?_
  · show (x_R X).frames - 1 + 1 ≤ _; omega
  · show 8 + (nY + 11) + 40 * ((x_R X).frames - 1) ≤ _; omega
  · omega
  · omega
  · omega
  · omega
theorem z_callS {y : MethodName} {cy : ByteArray} {nY kY n i : Nat} {rY : Option FieldType} {As rest : List Value} {σ1 : o_S} {v : Option Value}
    (hE : o_Ev G y cy nY rY kY As σ v σ1) (hk : kY + 1 ≤ kd) (hM : o_MS y cy nY rY n) (hml : Cond.methodLink own i y ∈ o_WS) (hn : As.length = n) (hst : st = As.reverse ++ rest) (hro : (rest.map fun v => v.category).sum ≤ 8) (hd : decode cc pc = .ok (.invokestatic i, 3))
    (k : o_Z G own cc ret nL kd En k' σ1 (pc + 3) L (v.toList ++ rest)) : o_Z G own cc ret nL kd En k' σ pc L st := by
  refine ⟨Nat.le_trans hE.1 k.1, fun X C E H locs ls cells slots hP hS hl h1 h2 => ?_⟩
  obtain ⟨hx, hb, hr, hmx, hown, hts, hlk, hSF, hfr, hlo⟩ := id C
  obtain ⟨m1, m3, m4, m5, m6⟩ := hM
  have q1 := hE.1
  have q2 := k.1
  refine o_after C E hl hS (va_runS (As := As) (rest := rest) (n := n) ⟨hx, hb, hmx, hown, hts⟩ (hE.2 ((x_R X).frames - 1) (by omega)) ⟨callB_of n hts (o_GoodIn m4) rfl rfl rfl (hts _ m3) (hts _ hml) m6 ⟨?_, ?_⟩, hts _ m1⟩ ⟨o_blind G σ _, fun U hU hW => ⟨rfl, hSF.moved hW hU hS, by rw [hU]; exact hP⟩⟩ rfl hn hl.1 hst (lv_room hro) hd ⟨?_, ?_⟩) k ?_ ?_
  · show (x_R X).frames - 1 + 1 ≤ _; omega
  · show 8 + (nY + 11) + 40 * ((x_R X).frames - 1) ≤ _; omega
  · omega
  · omega
  · omega
  · omega
theorem z_callSN {y : MethodName} {cy : ByteArray} {nY kY n i : Nat} {host : String} {rY : Option FieldType} {As rest : List Value} {σ1 : o_S} {v : Option Value}
    (hE : o_Ev G y cy nY rY kY As σ v σ1) (hk : kY + 1 ≤ kd) (hM : o_MS y cy nY rY n) (hml : (own, i, y, host) ∈ o_nestM) (hn : As.length = n) (hst : st = As.reverse ++ rest) (hro : (rest.map fun v => v.category).sum ≤ 8) (hd : decode cc pc = .ok (.invokestatic i, 3))
    (k : o_Z G own cc ret nL kd En k' σ1 (pc + 3) L (v.toList ++ rest)) : o_Z G own cc ret nL kd En k' σ pc L st := by
  refine ⟨Nat.le_trans hE.1 k.1, fun X C E H locs ls cells slots hP hS hl h1 h2 => ?_⟩
  obtain ⟨hx, hb, hr, hmx, hown, hts, hlk, hSF, hfr, hlo⟩ := id C
  obtain ⟨m1, m3, m4, m5, m6⟩ := hM
  have q1 := hE.1
  have q2 := k.1
  refine o_after C E hl hS (va_runSN (As := As) (rest := rest) (n := n) ⟨hx, hb, hmx, hown, hts⟩ (hE.2 ((x_R X).frames - 1) (by omega)) ⟨va_cnB n hts (o_GoodIn m4) rfl rfl rfl (hSF.2.2.2.2.1 _ hml) (hts _ m3) m6 ⟨?_, ?_⟩, hts _ m1, trivial⟩ ⟨o_blind G σ _, fun U hU hW => ⟨rfl, hSF.moved hW hU hS, by rw [hU]; exact hP⟩⟩ rfl hn hl.1 hst (lv_room hro) hd ⟨?_, ?_⟩) k ?_ ?_
  · show (x_R X).frames - 1 + 1 ≤ _; omega
  · show 8 + (nY + 11) + 40 * ((x_R X).frames - 1) ≤ _; omega
  · omega
  · omega
  · omega
  · omega
theorem o_bd {α β : Type} {a : Option α} {f : α → Option β} {r : β} (h : a.bind f = some r) : ∃ x, a = some x ∧ f x = some r := Option.bind_eq_some_iff.mp h
theorem o_ip {α : Type} {c : Prop} [Decidable c] {a b : Option α} {r : α} (hc : c) (h : (if c then a else b) = some r) : a = some r := by rwa [if_pos hc] at h
theorem o_in {α : Type} {c : Prop} [Decidable c] {a b : Option α} {r : α} (hc : ¬ c) (h : (if c then a else b) = some r) : b = some r := by rwa [if_neg hc] at h
/-- a guarded step: c holds, else there is no answer -/
theorem o_gd {α : Type} {c : Prop} [Decidable c] {a : Option α} {r : α} (h : (if c then none else a) = some r) : ¬ c ∧ a = some r := by
  by_cases hc : c
  · rw [if_pos hc] at h; cases h
  · rw [if_neg hc] at h; exact ⟨hc, h⟩
end
