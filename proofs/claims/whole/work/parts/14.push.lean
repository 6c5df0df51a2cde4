theorem oa_I : Cond.arrayClass .int ∈ o_WS := o_mem (List.mem_of_getElem? (i := 108) (by decide +kernel)) rfl
theorem oa_J : Cond.arrayClass .long ∈ o_WS := o_mem (List.mem_of_getElem? (i := 1259) (by decide +kernel)) rfl
theorem oa_stat : Cond.static arraycopyName ∈ o_WS := o_mem (List.mem_of_getElem? (i := 276) (by decide +kernel)) rfl
theorem oa_nat : Cond.native arraycopyName ∈ o_WS := o_mem (List.mem_of_getElem? (i := 277) (by decide +kernel)) rfl
section
variable {G : o_G} {ra : Nat → Nat} {gf : Nat → Nat → Int32} {σ : o_S} {r : Nat}
def o_rau (ra : Nat → Nat) (r q : Nat) : Nat → Nat := fun z => if z = r then q else ra z
/-- the row's new array takes the old one's place -/
theorem o_W_grow (hr : r < 9) (q N' : Nat) (f : Nat → Int32) : ((o_W G ra gf σ).set (6 + r) (g_ad G (7 + r), .inr (4, [.ref q, .int (nI (o_R σ r).length)]))).set (15 + r) (q, .inl (g_I G, N', .inl f)) = o_W G (o_rau ra r q) (o_gfu gf r f) (o_setR σ r N' (o_R σ r)) := by
  rcases o_r9 hr with rfl | rfl | rfl | rfl | rfl | rfl | rfl | rfl | rfl <;> rfl
theorem o_W_lt (hr : r < 9) : 15 + r < (o_W G ra gf σ).length := (List.getElem?_eq_some_iff.mp (o_W_arr (G := G) (ra := ra) (gf := gf) (σ := σ) hr)).1
theorem o_P_swap {D : va_G} {cl : List vw_C} {X : va_W} {e : Nat × va_E} {H : Heap} (h : va_P D cl (X ++ [e]) H) (i : Nat) : va_P D cl (X.set i e) H := by
  intro k q hk
  have he : va_at D cl e H := h X.length e (by rw [List.getElem?_append_right (Nat.le_refl _), Nat.sub_self]; rfl)
  rw [List.getElem?_set] at hk
  split at hk
  · split at hk
    · cases hk; exact he
    · cases hk
  · exact h k q (by rw [List.getElem?_append_left (List.getElem?_eq_some_iff.mp hk).1]; exact hk)
theorem o_D_swap {A : Nat → Prop} {X : va_W} {e : Nat × va_E} (h : va_D A (X ++ [e])) (i : Nat) : va_D A (X.set i e) := by
  have he : (X ++ [e])[X.length]? = some e := by rw [List.getElem?_append_right (Nat.le_refl _), Nat.sub_self]; rfl
  have key : ∀ k q, (X.set i e)[k]? = some q → (k ≠ i ∧ k < X.length ∧ (X ++ [e])[k]? = some q) ∨ (k = i ∧ q = e) := by
    intro k q hk
    rw [List.getElem?_set] at hk
    split at hk
    · next h1 => split at hk
                 · cases hk; exact Or.inr ⟨h1.symm, rfl⟩
                 · cases hk
    · next h1 => exact Or.inl ⟨fun z => h1 z.symm, (List.getElem?_eq_some_iff.mp hk).1, by rw [List.getElem?_append_left (List.getElem?_eq_some_iff.mp hk).1]; exact hk⟩
  refine ⟨fun a b p q ha hb e1 => ?_, fun k q hk => ?_⟩
  · rcases key a p ha with ⟨h1, h1', h2⟩ | ⟨h1, rfl⟩
    · rcases key b q hb with ⟨h3, h3', h4⟩ | ⟨h3, rfl⟩
      · exact h.1 a b p q h2 h4 e1
      · have := h.1 a X.length p q h2 he e1; omega
    · rcases key b q hb with ⟨h3, h3', h4⟩ | ⟨h3, rfl⟩
      · have := h.1 X.length b p q he h4 e1; omega
      · rw [h1, h3]
  · rcases key k q hk with ⟨-, -, h2⟩ | ⟨-, rfl⟩
    · exact h.2 k q h2
    · exact h.2 _ q he
theorem o_app_get (hr : r < 9) {e : Nat × va_E} : (o_W G ra gf σ ++ [e])[6 + r]? = some (g_ad G (7 + r), .inr (4, [.ref (ra r), .int (nI (o_R σ r).length)])) := by
  rcases o_r9 hr with rfl | rfl | rfl | rfl | rfl | rfl | rfl | rfl | rfl <;> rfl
theorem o_app_arr (hr : r < 9) {e : Nat × va_E} : (o_W G ra gf σ ++ [e])[15 + r]? = some (ra r, .inl (g_I G, o_cap σ r, .inl (gf r))) := by
  rcases o_r9 hr with rfl | rfl | rfl | rfl | rfl | rfl | rfl | rfl | rfl <;> rfl
theorem o_app_last {e : Nat × va_E} : (o_W G ra gf σ ++ [e])[(o_W G ra gf σ).length]? = some e := by rw [List.getElem?_append_right (Nat.le_refl _), Nat.sub_self]; rfl
theorem o_app_set {X : va_W} {e e2 : Nat × va_E} : (X ++ [e]).set X.length e2 = X ++ [e2] := by rw [List.set_append_right _ _ (Nat.le_refl _), Nat.sub_self]; rfl
/-- Arrays.copyOf of a row's array, to another length: a new array with the old one's beginning -/
theorem e_copyOf (hr : r < 9) (hrw : o_RW gf σ) {N' : Nat} (hN : o_cap σ r < N') (hN2 : N' ≤ 1000000) (d : Nat) (hd : 3 ≤ d) :
    Met (g_l G) yJ7_copyOf_59c91 (Cond.code yJ7_copyOf_59c91 cJ7_copyOf_59c91 3 (some (.array .int)) :: o_WS) { frames := d, cells := 1, slots := N', locals := 40 * d }
      (va_Pc [.ref (ra r), .int (nI N')] (fun U => o_SF G U ∧ va_P (g_D G) o_cl (o_W G ra gf σ) U.heap ∧ va_D (g_A G) (o_W G ra gf σ)))
      (fun _ s0 oc t => ∃ (q : Nat) (f : Nat → Int32), oc = .returned (some (.ref q)) ∧ (∀ i, i < o_cap σ r → f i = gf r i) ∧ va_P (g_D G) o_cl (o_W G ra gf σ ++ [(q, .inl (g_I G, N', .inl f))]) t.heap ∧ va_D (g_A G) (o_W G ra gf σ ++ [(q, .inl (g_I G, N', .inl f))]) ∧ va_F (g_A G) s0 t) 1 N' (g_A G) := by
  refine Met.ofW (cc := cJ7_copyOf_59c91) (maxL := 3) (ret := some (.array .int)) (by decide) rfl ?_
  intro p e s m args below meth c s₁ B hml hv
  obtain ⟨rfl, hSF, hP, hD⟩ := hv
  have hx := B.exec
  have hb := B.bytes
  have hrt := B.returns
  have hts0 := atoms_spec (ws := Cond.code yJ7_copyOf_59c91 cJ7_copyOf_59c91 3 (some (.array .int)) :: o_WS) B.pre
  have hts : ∀ w ∈ o_WS, w.before _ s = true := fun w h => hts0 w (List.mem_cons_of_mem _ h)
  have hown : s.vm.findClass RJ7 = some m.cls := findClass_of_methodNamed B.named
  have hlocks := B.notSynchronized
  have hK := hSF.1
  have hS : va_S (g_A G) s.heap s.heap [] := va_S.rf
  have hA : ∀ q, s.heap.size ≤ q → g_A G q := fun q h => Nat.le_trans hSF.2.2.2.2.2.2.2.1 h
  obtain ⟨w1, w2, w3, w4⟩ := hrw r hr
  have hl := lv_entry ([.ref (ra r), .int (nI N')]) (n := 3) (by show 2 ≤ 3; decide)
  rw [lg_entry_eq]
  generalize (lg_sl ([.ref (ra r), .int (nI N')]) ++ List.replicate (3 - (lg_sl ([.ref (ra r), .int (nI N')])).length) Slot.unset).toArray = ls at hl ⊢
  have hl : lv_has ls 3 [(0, .ref (ra r)), (1, .int (nI N'))] := hl
  refine lv_iload_n hx hb dJ7_copyOf_59c91_0 rfl (lv_at hl 1 rfl) ?_
  refine lv_aload_n hx hb dJ7_copyOf_59c91_1 rfl (lv_at hl 0 rfl) ?_
  refine va_alen hx hb hK hP (15 + r) 0 (o_W_arr hr) rfl (v := nI (o_cap σ r)) rfl dJ7_copyOf_59c91_2 ?_
  refine lv_icmp_ne (tgt := 14) hx hb dJ7_copyOf_59c91_3 (by decide) (fun hc => ?_) (fun hc => ?_)
  · refine lv_iload_n hx hb dJ7_copyOf_59c91_14 rfl (lv_at hl 1 rfl) ?_
    refine va_newa (atype := .int) (ty := .int) (N' := N') (a0 := (N', .inl (fun _ => 0))) hx hb (hts _ oa_I) rfl hK hP hD hS hA (fun cA => rfl) (nI_pos (by omega)) (nI_clamp (by omega)) (by show N' * 4 ≤ _; omega) (Nat.le_refl 1) (by show 0 + N' ≤ N'; omega) dJ7_copyOf_59c91_15 (fun q cA H1 hK1 hP hD hS => ?_)
    have ec : cA = g_I G := by
      have z1 : s.vm.findClass ("[" ++ FieldType.int.toString) = some cA := (hK1.2 2 _ rfl).2
      have z2 : s.vm.findClass ("[" ++ FieldType.int.toString) = some (g_I G) := (hK1.2 0 _ rfl).2
      exact Option.some.inj (z1.symm.trans z2)
    subst ec
    refine lv_astore_n (lv' := [(2, .ref q), (0, .ref (ra r)), (1, .int (nI N'))]) hx hb dJ7_copyOf_59c91_17 rfl hl (by decide) rfl (fun ls hl => ?_)
    refine lv_aload_n hx hb dJ7_copyOf_59c91_18 rfl (lv_at hl 1 rfl) ?_
    refine lv_iconst (v := 0) hx hb dJ7_copyOf_59c91_19 (by decide) ?_
    refine lv_aload_n hx hb dJ7_copyOf_59c91_20 rfl (lv_at hl 0 rfl) ?_
    refine lv_iconst (v := 0) hx hb dJ7_copyOf_59c91_21 (by decide) ?_
    refine lv_aload_n hx hb dJ7_copyOf_59c91_22 rfl (lv_at hl 1 rfl) ?_
    refine va_alen hx hb hK hP (15 + r) 0 (o_app_arr hr) rfl (v := nI (o_cap σ r)) rfl dJ7_copyOf_59c91_23 ?_
    refine lv_iload_n hx hb dJ7_copyOf_59c91_24 rfl (lv_at hl 2 rfl) ?_
    refine va_mmin hx hb (hml.trans hl.1.symm) hown (hts _ ml_J7_304) (hts _ sm_J9_min_7cf53) (hts _ in_J9) (hts _ co_J9_min_7cf53) (by show 1 ≤ d; omega) (by show 4 + 13 ≤ 40 * d; omega) (by show 0 + 1 ≤ 1; decide) (by show 0 + N' ≤ N'; omega) dJ7_copyOf_59c91_25 ?_
    rw [if_neg (fun z => by have := (nI_ltI (a := N') (b := o_cap σ r) (by omega) (by omega)).mp z; omega)]
    refine va_copyi hx hb (hml.trans hl.1.symm) hown (hts _ ml_J7_150) (hts _ oa_nat) (hts _ oa_stat) (hts _ in_J10) hK1 hP hD hS (15 + r) (o_W G ra gf σ).length 0 0 (o_app_arr hr) o_app_last rfl rfl rfl (by decide) (by decide) (nI_pos (by omega)) (by show 0 + _ ≤ _; rw [nI_clamp (by omega)]; omega) (by show 0 + _ ≤ _; rw [nI_clamp (by omega)]; omega) (fun _ _ => rfl) (by show 1 ≤ d; omega) (by show 0 + _ ≤ 40 * d; exact Nat.le_trans (Nat.le_of_ble_eq_true rfl : _ ≤ 120) (by omega)) dJ7_copyOf_59c91_28 (fun H1 locs1 hP hD hS => ?_)
    rw [o_app_set] at hP hD
    refine lv_aload_n hx hb dJ7_copyOf_59c91_31 rfl (lv_at hl 0 rfl) ?_
    refine W.widen (k := 1) (n := N') (by omega) (by omega) ?_
    have hP : va_P (g_D G) o_cl (o_W G ra gf σ ++ [(q, .inl (g_I G, N', .inl (va_cpy (gf r) (fun _ => 0) 0 0 (nI (o_cap σ r)).toNatClampNeg)))]) H1 := hP
    have hD : va_D (g_A G) (o_W G ra gf σ ++ [(q, .inl (g_I G, N', .inl (va_cpy (gf r) (fun _ => 0) 0 0 (nI (o_cap σ r)).toNatClampNeg)))]) := hD
    exact W.aret hx hb hrt (Or.inr ⟨_, rfl⟩) (Or.inr ⟨q, rfl⟩) (fun t ht hW => ⟨q, _, rfl, fun i hi => by rw [nI_clamp (by omega)]; exact sb_cpy0 hi, by rw [ht]; exact hP, hD, hS.F ht⟩) hS.2.2 dJ7_copyOf_59c91_32
  · exact absurd ((nI_eq (by omega) (by omega)).mp hc) (by omega)
end
section
variable {G : o_G} {own : String} {cc : ByteArray} {ret : Option FieldType} {nL kd : Nat} {En : o_X → Prop} {k' : Nat} {σ : o_S} {pc r : Nat} {L : List (Nat × Value)} {st : List Value}
theorem rm_copyOf : o_MS yJ7_copyOf_59c91 cJ7_copyOf_59c91 3 (some (.array .int)) 2 := ⟨sm_J7_copyOf_59c91, in_J7, co_J7_copyOf_59c91, by decide, by decide, by decide, by decide +kernel⟩
/-- cells = Arrays.copyOf(cells, 2 * count), where the row is full -/
theorem zr_grow (hr : r < 9) (hkd : 5 ≤ kd) (hf : ¬ (o_R σ r).length < o_cap σ r) (hlen : (o_R σ r).length < 65536) (hl0 : L[0]? = some (0, .ref (g_ad G (7 + r)))) {i1 i2 i3 : Nat} (hw1 : Cond.fieldLink own i1 "OffsideParser$Row" "cells" "[I" ∈ o_WS) (hw2 : Cond.fieldLink own i2 "OffsideParser$Row" "count" "I" ∈ o_WS) (hw3 : Cond.methodLink own i3 yJ7_copyOf_59c91 ∈ o_WS)
    (d0 : decode cc pc = .ok (.aload_n 0, 1)) (d1 : decode cc (pc + 1) = .ok (.aload_n 0, 1)) (d2 : decode cc (pc + 2) = .ok (.getfield i1, 3)) (d5 : decode cc (pc + 5) = .ok (.iconst 2, 1)) (d6 : decode cc (pc + 6) = .ok (.aload_n 0, 1)) (d7 : decode cc (pc + 7) = .ok (.getfield i2, 3)) (d10 : decode cc (pc + 10) = .ok (.imul, 1)) (d11 : decode cc (pc + 11) = .ok (.invokestatic i3, 3)) (d14 : decode cc (pc + 14) = .ok (.putfield i1, 3))
    (k : o_Z G own cc ret nL kd En k' (o_addK (o_setR σ r (2 * (o_R σ r).length) (o_R σ r)) (o_R σ r).length) (pc + 17) L []) : o_Z G own cc ret nL kd En k' σ pc L [] := by
  have q2 : o_k σ + (o_R σ r).length ≤ k' := k.1
  refine ⟨by omega, fun X C E H locs ls cells slots hP hS hl h1 h2 => ?_⟩
  obtain ⟨hx, hb, hrt, hmx, hown, hts, hlk, hSF, hfr, hlo⟩ := id C
  obtain ⟨ra, gf, hrw, hp, hq⟩ := hP
  obtain ⟨w1, w2, w3, w4⟩ := hrw r hr
  have hK := hSF.1
  refine lv_aload_n hx hb d0 rfl (lv_at hl 0 hl0) ?_
  refine lv_aload_n hx hb d1 rfl (lv_at hl 0 hl0) ?_
  refine va_get (D := g_D G) (ci := 4) (C := RX4) (T := TX4) (N := 2) hx hb hts oi_X4 hown hK hp (6 + r) (o_W_obj hr) rfl 0 (by decide) (hts _ hw1) (fun _ h => h) rfl d2 ?_
  refine lv_iconst (v := 2) hx hb d5 (by decide) ?_
  refine lv_aload_n hx hb d6 rfl (lv_at hl 0 hl0) ?_
  refine va_get (D := g_D G) (ci := 4) (C := RX4) (T := TX4) (N := 2) hx hb hts oi_X4 hown hK hp (6 + r) (o_W_obj hr) rfl 1 (by decide) (hts _ hw2) (fun _ h => h) rfl d7 ?_
  refine lv_imul hx hb d10 ?_
  have e2 : (2 : Int32) * nI (o_R σ r).length = nI (2 * (o_R σ r).length) := pk_mul 2 _
  rw [e2]
  obtain ⟨m1, m3, m4, m5, m6⟩ := rm_copyOf
  have hrun := va_runS (g := F0 (x_m X) (pc + 11) ls [.int (nI (2 * (o_R σ r).length)), .ref (ra r), .ref (g_ad G (7 + r))]) (R := x_R X) (locs := locs) (cells := cells) (slots := slots) (below := x_b X) (meth := x_me X) (e := x_e X) (H := H) (As := [.ref (ra r), .int (nI (2 * (o_R σ r).length))]) (rest := [.ref (g_ad G (7 + r))]) (n := 2) ⟨hx, hb, hmx, hown, hts⟩ (e_copyOf (G := G) (ra := ra) (gf := gf) (σ := σ) hr hrw (N' := 2 * (o_R σ r).length) (by omega) (by omega) ((x_R X).frames - 1) (by omega)) ⟨callB_of 2 hts (o_GoodIn m4) rfl rfl rfl (hts _ m3) (hts _ hw3) m6 ⟨by show (x_R X).frames - 1 + 1 ≤ _; omega, by show 8 + (3 + 11) + 40 * ((x_R X).frames - 1) ≤ _; omega⟩, hts _ m1⟩ ⟨fun a U g mk q => ⟨q.1, q.2.1.calling g mk a, q.2.2⟩, fun U hU hW => ⟨rfl, hSF.moved hW hU hS, by rw [hU]; exact hp, hq⟩⟩ rfl rfl hl.1 rfl (by show 2 * 0 + 1 ≤ 8; decide) d11 ⟨by omega, by omega⟩
  intro T hT Xs
  obtain ⟨v', st₀, t, T', Lc, h0, X', hL, e1, e2', ⟨q, f, hv, hcp, hp1, hq1, hF⟩, go⟩ := hrun T hT Xs
  cases hv
  have hS' := (vx_keep h0 e1 hS (fun _ _ h => h) (fun _ h => h) hL hF).2.2
  rw [← e1] at hp1
  have W2 : o_Wf G X T'.heap (locs ++ Lc) (cells + 1) (slots + 2 * (o_R σ r).length) (pc + 14) ls [.ref q, .ref (g_ad G (7 + r))] := by
    refine va_put (D := g_D G) (ci := 4) (v := .ref q) (ty := .array .int) (C := RX4) (T := TX4) (N := 2) hx hb hts oi_X4 tyX4 tyX4_ok nmX4 hown hK hp1 hq1 hS' (6 + r) (o_app_get hr) rfl 0 (by decide) (hts _ hw1) (fun _ h => h) rfl (by decide +kernel) rfl rfl (Nat.le_of_ble_eq_true rfl) d14 (fun H1 locs1 a b c => ?_)
    refine W.widen (k := cells + (o_R σ r).length) (n := slots + 2 * (o_R σ r).length) (by omega) (Nat.le_refl _) ?_
    have hg := o_W_grow (G := G) (ra := ra) (gf := gf) (σ := σ) hr q (2 * (o_R σ r).length) f
    have a : va_P (g_D G) o_cl ((o_W G ra gf σ ++ ([(q, .inl (g_I G, 2 * (o_R σ r).length, .inl f))] : va_W)).set (6 + r) (g_ad G (7 + r), .inr (4, [.ref q, .int (nI (o_R σ r).length)]))) H1 := a
    have b : va_D (g_A G) ((o_W G ra gf σ ++ ([(q, .inl (g_I G, 2 * (o_R σ r).length, .inl f))] : va_W)).set (6 + r) (g_ad G (7 + r), .inr (4, [.ref q, .int (nI (o_R σ r).length)]))) := b
    rw [List.set_append_left _ _ (Nat.lt_trans (by omega) (o_W_lt hr))] at a b
    have a := o_P_swap a (15 + r)
    have b := o_D_swap b (15 + r)
    rw [hg] at a b
    refine k.2 X C E H1 locs1 ls _ _ ⟨o_rau ra r q, o_gfu gf r f, ?_, a, b⟩ c hl ?_ ?_
    · exact hrw.set (by omega) (by omega) (by omega) (fun i v hi => by
        have hlt := (List.getElem?_eq_some_iff.mp hi).1
        rw [hcp i (by omega)]; exact w4 _ _ hi)
    · show cells + (o_R σ r).length + (k' - (o_k σ + (o_R σ r).length)) ≤ _; omega
    · show slots + 2 * (o_R σ r).length + 2 * (k' - (o_k σ + (o_R σ r).length)) ≤ _; omega
  obtain ⟨t2, a1, b1⟩ := W2 T' rfl X'
  exact ⟨t2, go t2 a1, b1⟩
/-- cells[count] = v; count++, where v is in local 1 and there is room -/
theorem zr_app (hr : r < 9) {v : Int32} (hf : (o_R σ r).length < o_cap σ r) (hl0 : L[0]? = some (0, .ref (g_ad G (7 + r)))) (hl1 : L[1]? = some (1, .int v)) {i1 i2 : Nat} (hw1 : Cond.fieldLink own i1 "OffsideParser$Row" "cells" "[I" ∈ o_WS) (hw2 : Cond.fieldLink own i2 "OffsideParser$Row" "count" "I" ∈ o_WS)
    (d0 : decode cc pc = .ok (.aload_n 0, 1)) (d1 : decode cc (pc + 1) = .ok (.getfield i1, 3)) (d4 : decode cc (pc + 4) = .ok (.aload_n 0, 1)) (d5 : decode cc (pc + 5) = .ok (.getfield i2, 3)) (d8 : decode cc (pc + 8) = .ok (.iload_n 1, 1)) (d9 : decode cc (pc + 9) = .ok (.iastore, 1)) (d10 : decode cc (pc + 10) = .ok (.aload_n 0, 1)) (d11 : decode cc (pc + 11) = .ok (.dup, 1)) (d12 : decode cc (pc + 12) = .ok (.getfield i2, 3)) (d15 : decode cc (pc + 15) = .ok (.iconst 1, 1)) (d16 : decode cc (pc + 16) = .ok (.iadd, 1)) (d17 : decode cc (pc + 17) = .ok (.putfield i2, 3))
    (k : o_Z G own cc ret nL kd En k' (o_app σ r v) (pc + 20) L []) : o_Z G own cc ret nL kd En k' σ pc L [] := by
  refine ⟨k.1, fun X C E H locs ls cells slots hP hS hl h1 h2 => ?_⟩
  obtain ⟨hx, hb, hrt, hmx, hown, hts, hlk, hSF, hfr, hlo⟩ := id C
  obtain ⟨ra, gf, hrw, hp, hq⟩ := hP
  obtain ⟨w1, w2, w3, w4⟩ := hrw r hr
  have hK := hSF.1
  refine lv_aload_n hx hb d0 rfl (lv_at hl 0 hl0) ?_
  refine va_get (D := g_D G) (ci := 4) (C := RX4) (T := TX4) (N := 2) hx hb hts oi_X4 hown hK hp (6 + r) (o_W_obj hr) rfl 0 (by decide) (hts _ hw1) (fun _ h => h) rfl d1 ?_
  refine lv_aload_n hx hb d4 rfl (lv_at hl 0 hl0) ?_
  refine va_get (D := g_D G) (ci := 4) (C := RX4) (T := TX4) (N := 2) hx hb hts oi_X4 hown hK hp (6 + r) (o_W_obj hr) rfl 1 (by decide) (hts _ hw2) (fun _ h => h) rfl d5 ?_
  refine lv_iload_n hx hb d8 rfl (lv_at hl 1 hl1) ?_
  refine va_iast hx hb hK hp hq hS (15 + r) 0 (o_W_arr hr) rfl (by have := vp_in_nI (n := (o_R σ r).length) (N := o_cap σ r) hf (by omega); exact this) d9 (fun H1 locs1 a b c => ?_)
  rw [o_W_seta hr] at a b
  refine lv_aload_n hx hb d10 rfl (lv_at hl 0 hl0) ?_
  refine lv_dup hx hb d11 rfl ?_
  refine va_get (D := g_D G) (ci := 4) (C := RX4) (T := TX4) (N := 2) hx hb hts oi_X4 hown hK a (6 + r) (o_W_obj hr) rfl 1 (by decide) (hts _ hw2) (fun _ h => h) rfl d12 ?_
  refine lv_iconst (v := 1) hx hb d15 (by decide) ?_
  refine lv_iadd hx hb d16 ?_
  have e2 : nI (o_R σ r).length + 1 = nI (o_R σ r ++ [v]).length := by rw [List.length_append]; exact nI_1 _
  rw [e2]
  refine va_put (D := g_D G) (ci := 4) (v := .int _) (ty := .int) (C := RX4) (T := TX4) (N := 2) hx hb hts oi_X4 tyX4 tyX4_ok nmX4 hown hK a b c (6 + r) (o_W_obj hr) rfl 1 (by decide) (hts _ hw2) (fun _ h => h) rfl (by decide +kernel) rfl rfl (Nat.le_of_ble_eq_true rfl) d17 (fun H2 locs2 a2 b2 c2 => ?_)
  have a2 : va_P (g_D G) o_cl ((o_W G ra (o_gfu gf r (upd (gf r) (nI (o_R σ r).length).toNatClampNeg v)) σ).set (6 + r) (g_ad G (7 + r), .inr (4, [.ref (ra r), .int (nI (o_R σ r ++ [v]).length)]))) H2 := a2
  have b2 : va_D (g_A G) ((o_W G ra (o_gfu gf r (upd (gf r) (nI (o_R σ r).length).toNatClampNeg v)) σ).set (6 + r) (g_ad G (7 + r), .inr (4, [.ref (ra r), .int (nI (o_R σ r ++ [v]).length)]))) := b2
  rw [o_W_setc hr] at a2 b2
  refine k.2 X C E H2 locs2 ls cells slots ⟨ra, _, hrw.set (by rw [List.length_append]; exact hf) w2 w3 (fun j y hy => ?_), a2, b2⟩ c2 hl h1 h2
  rw [nI_clamp (by omega)]
  unfold upd
  by_cases e : j = (o_R σ r).length
  · subst e
    rw [if_pos rfl]
    rw [List.getElem?_append_right (Nat.le_refl _), Nat.sub_self] at hy
    exact Option.some.inj hy
  · rw [if_neg e]
    have hlt := (List.getElem?_eq_some_iff.mp hy).1
    rw [List.length_append] at hlt
    have hlt2 : j < (o_R σ r).length := by
      have : j < (o_R σ r).length + 1 := hlt
      omega
    rw [List.getElem?_append_left hlt2] at hy
    exact w4 _ _ hy
end
