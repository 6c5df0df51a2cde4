section
variable {G : o_G} {own : String} {cc : ByteArray} {ret : Option FieldType} {nL kd : Nat} {En : o_X → Prop} {k' : Nat} {σ : o_S} {pc r : Nat} {L : List (Nat × Value)} {st : List Value}
theorem zr_alen (hr : r < 9) {i : Nat} (hw : Cond.fieldLink own i "OffsideParser$Row" "cells" "[I" ∈ o_WS) (hd : decode cc pc = .ok (.getfield i, 3)) (hd3 : decode cc (pc + 3) = .ok (.arraylength, 1)) (k : o_Z G own cc ret nL kd En k' σ (pc + 4) L (.int (nI (o_cap σ r)) :: st)) : o_Z G own cc ret nL kd En k' σ pc L (.ref (g_ad G (7 + r)) :: st) :=
  ⟨k.1, fun X C E H locs ls cells slots hP hS hl h1 h2 => by
    obtain ⟨ra, gf, hrw, hp, hq⟩ := id hP
    refine va_get (D := g_D G) (ci := 4) (C := RX4) (T := TX4) (N := 2) C.1 C.2.1 C.2.2.2.2.2.1 oi_X4 C.2.2.2.2.1 C.2.2.2.2.2.2.2.1.1 hp (6 + r) (o_W_obj hr) rfl 0 (by decide) (C.2.2.2.2.2.1 _ hw) (fun _ h => h) rfl hd ?_
    exact va_alen C.1 C.2.1 C.2.2.2.2.2.2.2.1.1 hp (15 + r) 0 (o_W_arr hr) rfl (v := nI (o_cap σ r)) rfl hd3 (k.2 X C E H locs ls cells slots hP hS hl h1 h2)⟩
/-- a fact of the rows' room, wanted at a place -/
theorem z_rw (k : (∀ r, r < 9 → (o_R σ r).length ≤ o_cap σ r ∧ 64 ≤ o_cap σ r ∧ o_cap σ r ≤ 131072) → o_Z G own cc ret nL kd En k' σ pc L st) (h0 : o_k σ ≤ k') : o_Z G own cc ret nL kd En k' σ pc L st :=
  ⟨h0, fun X C E H locs ls cells slots hP hS hl h1 h2 => by
    obtain ⟨ra, gf, hrw, hp, hq⟩ := id hP
    exact (k (fun r hr => ⟨(hrw r hr).1, (hrw r hr).2.1, (hrw r hr).2.2.1⟩)).2 X C E H locs ls cells slots hP hS hl h1 h2⟩
theorem o_grow_k (σ : o_S) (r : Nat) : o_k σ ≤ o_k (o_grow σ r) := by
  unfold o_grow; split
  · exact Nat.le_refl _
  · show o_k σ ≤ o_k σ + _; omega
theorem o_grow_R (σ : o_S) (r q : Nat) : o_R (o_grow σ r) q = o_R σ q := by
  unfold o_grow; split
  · rfl
  · show o_R (o_setR σ r _ _) q = _
    rw [o_R_setR]; split
    · next h => rw [h]
    · rfl
theorem e_row_push (hr : r < 9) (hkd : 5 ≤ kd) {v : Int32} {σ' : o_S} (h : o_push σ r v = some σ') : o_Ev G yX4_push cX4_push 2 none kd [.ref (g_ad G (7 + r)), .int v] σ none σ' := by
  unfold o_push at h
  obtain ⟨hlen, h⟩ := o_gd h
  cases h
  have hlen : (o_R σ r).length < 65536 := Nat.not_le.mp hlen
  refine o_Ev.mk rfl (by show 2 ≤ 2; decide) ?_
  refine z_rw (fun hw => ?_) (o_grow_k σ r)
  obtain ⟨w1, w2, w3⟩ := hw r hr
  refine z_aload_n dX4_push_0 0 rfl ?_
  refine zr_count hr fl_X4_15 dX4_push_1 ?_
  refine z_ldc cn_X4_19 dX4_push_4 ?_
  refine z_icmp_lt (tgt := 10) dX4_push_6 (by decide) (fun _ => ?_) (fun hc => ?_)
  · refine z_aload_n dX4_push_10 0 rfl ?_
    refine zr_count hr fl_X4_15 dX4_push_11 ?_
    refine z_aload_n dX4_push_14 0 rfl ?_
    refine zr_alen hr fl_X4_11 dX4_push_15 dX4_push_18 ?_
    refine z_icmp_lt (tgt := 39) dX4_push_19 (by decide) (fun hc => ?_) (fun hc => ?_)
    · have hc : (o_R σ r).length < o_cap σ r := (nI_ltI (by omega) (by omega)).mp hc
      have eg : o_grow σ r = σ := by unfold o_grow; rw [if_pos hc]
      rw [eg]
      refine zr_app hr hc rfl rfl fl_X4_11 fl_X4_15 dX4_push_39 dX4_push_40 dX4_push_43 dX4_push_44 dX4_push_47 dX4_push_48 dX4_push_49 dX4_push_50 dX4_push_51 dX4_push_54 dX4_push_55 dX4_push_56 ?_
      exact z_vret rfl rfl rfl dX4_push_59
    · have hc : ¬ (o_R σ r).length < o_cap σ r := fun q => hc ((nI_ltI (by omega) (by omega)).mpr q)
      have eg : o_grow σ r = o_addK (o_setR σ r (2 * (o_R σ r).length) (o_R σ r)) (o_R σ r).length := by unfold o_grow; rw [if_neg hc]
      have eR : o_R (o_addK (o_setR σ r (2 * (o_R σ r).length) (o_R σ r)) (o_R σ r).length) r = o_R σ r := by
        show o_R (o_setR σ r _ _) r = _
        rw [o_R_setR, if_pos rfl]
      have eC : o_cap (o_addK (o_setR σ r (2 * (o_R σ r).length) (o_R σ r)) (o_R σ r).length) r = 2 * (o_R σ r).length := by
        show o_cap (o_setR σ r _ _) r = _
        rw [o_cap_setR, if_pos rfl]
      rw [eg]
      refine zr_grow hr hkd hc hlen rfl fl_X4_11 fl_X4_15 ml_X4_20 dX4_push_22 dX4_push_23 dX4_push_24 dX4_push_27 dX4_push_28 dX4_push_29 dX4_push_32 dX4_push_33 dX4_push_36 ?_
      refine zr_app hr (by rw [eR, eC]; omega) rfl rfl fl_X4_11 fl_X4_15 dX4_push_39 dX4_push_40 dX4_push_43 dX4_push_44 dX4_push_47 dX4_push_48 dX4_push_49 dX4_push_50 dX4_push_51 dX4_push_54 dX4_push_55 dX4_push_56 ?_
      exact z_vret rfl rfl rfl dX4_push_59
  · exact absurd (nI_lt (a := (o_R σ r).length) (b := 1048576) (by omega) (by decide)) hc
theorem rm_at : o_MI yX4_at cX4_at 2 (some .int) 1 := ⟨im_X4_at, se_X4_at, in_X4, co_X4_at, by decide, by decide, by decide, by decide +kernel⟩
theorem rm_put : o_MI yX4_put cX4_put 3 none 2 := ⟨im_X4_put, se_X4_put, in_X4, co_X4_put, by decide, by decide, by decide, by decide +kernel⟩
theorem rm_size : o_MI yX4_size cX4_size 1 (some .int) 0 := ⟨im_X4_size, se_X4_size, in_X4, co_X4_size, by decide, by decide, by decide, by decide +kernel⟩
theorem rm_push : o_MI yX4_push cX4_push 2 none 1 := ⟨im_X4_push, se_X4_push, in_X4, co_X4_push, by decide, by decide, by decide, by decide +kernel⟩
theorem rm_cut : o_MI yX4_cut cX4_cut 2 none 1 := ⟨im_X4_cut, se_X4_cut, in_X4, co_X4_cut, by decide, by decide, by decide, by decide +kernel⟩
theorem rm_reverse : o_MI yX4_reverse cX4_reverse 6 none 2 := ⟨im_X4_reverse, se_X4_reverse, in_X4, co_X4_reverse, by decide, by decide, by decide, by decide +kernel⟩
theorem rm_turn : o_MI yX4_turn cX4_turn 4 none 3 := ⟨im_X4_turn, se_X4_turn, in_X4, co_X4_turn, by decide, by decide, by decide, by decide +kernel⟩
theorem s_rev (hr : r < 9) (hkd : 1 ≤ kd) {σ' : o_S} : ∀ (n : Nat) (i j a b : Int32) (σ : o_S), o_revL r n i j σ = some σ' → o_Z G RX4 cX4_reverse none 6 kd (o_E G none σ') (o_k σ') σ 7 [(4, .int i), (3, .int j), (0, .ref (g_ad G (7 + r))), (1, .int a), (2, .int b)] [] := by
  intro n
  induction n with
  | zero => intro i j a b σ h; cases h
  | succ n ih =>
    intro i j a b σ h
    rw [o_revL] at h
    refine z_iload dX4_reverse_7 0 rfl ?_
    refine z_iload_n dX4_reverse_9 1 rfl ?_
    refine z_icmp_ge (tgt := 48) dX4_reverse_10 (by decide) (fun hc => ?_) (fun hc => ?_)
    · have h := o_ip hc h
      cases h
      exact z_vret rfl rfl rfl dX4_reverse_48
    · have h := o_in hc h
      refine z_aload_n dX4_reverse_13 2 rfl ?_
      refine z_iload dX4_reverse_14 0 rfl ?_
      refine z_callV (As := [.int i]) (e_row_at (kd := 0) hr i) hkd rm_at ml_X4_30 rfl rfl (by decide) (rv_row hr) dX4_reverse_16 ?_
      refine z_istore (L' := [(5, .int _), (4, .int _), (3, .int _), (0, .ref _), (1, .int _), (2, .int _)]) dX4_reverse_19 (by decide) rfl ?_
      refine z_aload_n dX4_reverse_21 3 rfl ?_
      refine z_iload dX4_reverse_22 1 rfl ?_
      refine z_aload_n dX4_reverse_24 3 rfl ?_
      refine z_iload_n dX4_reverse_25 2 rfl ?_
      refine z_callV (As := [.int j]) (e_row_at (kd := 0) hr j) hkd rm_at ml_X4_30 rfl rfl (by show 2 ≤ 8; decide) (rv_row hr) dX4_reverse_26 ?_
      refine z_callV (As := [.int i, .int _]) (e_row_put (kd := 0) hr i _) hkd rm_put ml_X4_34 rfl rfl (by decide) (rv_row hr) dX4_reverse_29 ?_
      refine z_aload_n dX4_reverse_32 3 rfl ?_
      refine z_iload_n dX4_reverse_33 2 rfl ?_
      refine z_iload dX4_reverse_34 0 rfl ?_
      refine z_callV (As := [.int j, .int _]) (e_row_put (kd := 0) hr j _) hkd rm_put ml_X4_34 rfl rfl (by decide) (rv_row hr) dX4_reverse_36 ?_
      refine z_iinc (v := j + -1) (L' := [(3, .int _), (5, .int _), (4, .int _), (0, .ref _), (1, .int _), (2, .int _)]) dX4_reverse_39 2 rfl rfl (by decide) rfl ?_
      refine z_iinc (v := i + 1) (L' := [(4, .int _), (3, .int _), (5, .int _), (0, .ref _), (1, .int _), (2, .int _)]) dX4_reverse_42 2 rfl rfl (by decide) rfl ?_
      refine z_goto (tgt := 7) dX4_reverse_45 (by decide) ?_
      exact o_Z.sub [0, 1, 3, 4, 5] rfl (ih _ _ _ _ _ h)
theorem e_row_reverse (hr : r < 9) (hkd : 1 ≤ kd) {n : Nat} {a b : Int32} {σ' : o_S} (h : o_revL r n a (b - 1) σ = some σ') : o_Ev G yX4_reverse cX4_reverse 6 none kd [.ref (g_ad G (7 + r)), .int a, .int b] σ none σ' := by
  refine o_Ev.mk rfl (by show 3 ≤ 6; decide) ?_
  refine z_iload_n dX4_reverse_0 2 rfl ?_
  refine z_iconst (v := 1) dX4_reverse_1 (by decide) ?_
  refine z_isub dX4_reverse_2 ?_
  refine z_istore_n (L' := [(3, .int _), (0, .ref _), (1, .int _), (2, .int _)]) dX4_reverse_3 (by decide) rfl ?_
  refine z_iload_n dX4_reverse_4 2 rfl ?_
  refine z_istore (L' := [(4, .int _), (3, .int _), (0, .ref _), (1, .int _), (2, .int _)]) dX4_reverse_5 (by decide) rfl ?_
  exact s_rev hr hkd n _ _ _ _ _ h
theorem e_row_turn (hr : r < 9) (hkd : 2 ≤ kd) {N : Nat} {a b c : Int32} {σ' : o_S} (h : o_turn N r a b c σ = some σ') : o_Ev G yX4_turn cX4_turn 4 none kd [.ref (g_ad G (7 + r)), .int a, .int b, .int c] σ none σ' := by
  unfold o_turn at h
  obtain ⟨σ1, h1, h⟩ := o_bd h
  obtain ⟨σ2, h2, h3⟩ := o_bd h
  refine o_Ev.mk rfl (by show 4 ≤ 4; decide) ?_
  refine z_aload_n dX4_turn_0 0 rfl ?_
  refine z_iload_n dX4_turn_1 1 rfl ?_
  refine z_iload_n dX4_turn_2 2 rfl ?_
  refine z_callV (As := [.int a, .int b]) (e_row_reverse (kd := 1) hr (Nat.le_refl 1) h1) hkd rm_reverse ml_X4_26 rfl rfl (by decide) (rv_row hr) dX4_turn_3 ?_
  refine z_aload_n dX4_turn_6 0 rfl ?_
  refine z_iload_n dX4_turn_7 2 rfl ?_
  refine z_iload_n dX4_turn_8 3 rfl ?_
  refine z_callV (As := [.int b, .int c]) (e_row_reverse (kd := 1) hr (Nat.le_refl 1) h2) hkd rm_reverse ml_X4_26 rfl rfl (by decide) (rv_row hr) dX4_turn_9 ?_
  refine z_aload_n dX4_turn_12 0 rfl ?_
  refine z_iload_n dX4_turn_13 1 rfl ?_
  refine z_iload_n dX4_turn_14 3 rfl ?_
  refine z_callV (As := [.int a, .int c]) (e_row_reverse (kd := 1) hr (Nat.le_refl 1) h3) hkd rm_reverse ml_X4_26 rfl rfl (by decide) (rv_row hr) dX4_turn_15 ?_
  exact z_vret rfl rfl rfl dX4_turn_18
end
