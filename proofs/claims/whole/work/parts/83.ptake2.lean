section
variable {N e n d k a z : Nat} {c r : o_S} {T : List Int32} {kd lv dp : Nat → Nat} {w : Nat → List Int32} {nd : Nat → Nat}
theorem p_has {bg : Bool} {i : Nat} (h : BR e bg c r T n kd lv dp w d nd k) (hk : kd (nd (d - 1)) = 0) (hi : (o_R c 7).getD (d - 1) 0 = nI i) (hi2 : i < 2 ^ 31) (q v : Int32) : f_X0_addPart N q v c = f_X5_add N (nI i) q (o_F c 10) (o_F c 11) v c := by
  obtain ⟨t1, t2, t3, t4⟩ := top_5 (N := N) h.2.2.1
  have hx := xis (N := N) h 0 (by decide)
  rw [if_pos hk] at hx
  unfold f_X0_addPart
  rw [t1, bi_s, do_e, t2, show (0 : Int32) = nI 0 from rfl, hx, bi_s, if_neg (by decide), do_e, t4, if_neg (by rw [hi]; exact nI_nm1 hi2), do_e, hi, b83_]
/-- aligned, and done -/
theorem p_aa (hN : 2000 ≤ N) (h : BR e true c r T n kd lv dp w d nd k) (h1 : kd (n - 1) ≠ 1) (hk0 : kd (nd (d - 1)) = 0) (htd : TD T a z c r) (h14 : o_F c 14 = 0) (h22 : o_F r 22 = 0) (hn : n ≤ 2 * a + 1) (hkk : k ≤ 2 * a) (h4 : (o_R c 4).length ≤ 9 * a) (hsm : smw n kd w ≤ a) : ∃ c1 c' r', f_X0_alignToColumn N c = some c1 ∧ f_X0_placeInBlock N c1 = some c' ∧ f_X7_accept_b209 N 0 r = some r' ∧ BI e true T z c' r' ∧ CF c c' ∧ RF r r' := by
  obtain ⟨e1, e2, e3, e4, e5, e6, e7, e8, e9, e10, e11, e12, e13, e14, e15, e16, e17⟩ := id htd
  obtain ⟨u1, u2, u3, u4, u5⟩ := top_7 (N := N) h.2.2.1
  have u3 := u3 (Or.inl rfl)
  have d1 := h.2.2.1.1
  have d31 := h.2.2.1.2.1
  by_cases h12 : o_F c 12 = 0
  · obtain ⟨c', r', b1, b2, b3, b4, b5⟩ := p_act (N := N) hN h h1 hk0 htd h14 h22 hn (by omega) h4 hsm
    refine ⟨c, c', r', by unfold f_X0_alignToColumn; rw [if_pos h12], b1, ?_, b3, b4, b5⟩
    unfold f_X7_accept_b209
    rw [if_pos rfl, e13, if_pos h12, b2, bv_s]
  · by_cases hc6 : (o_R c 6).getD (d - 1) 0 = -1
    · obtain ⟨c1, g1, g2, g3, g4, g5⟩ := c_noalign (N := N) hN h htd hc6
      obtain ⟨c', r', b1, b2, b3, b4, b5⟩ := p_act (N := N) hN g2 h1 hk0 (htd.cg g3 (RF.rf r)) (by rw [g4]; exact h14) h22 hn (by omega) (by rw [g5]; exact h4) hsm
      refine ⟨c1, c', r', g1, b1, ?_, b3, g3.tr b4, b5⟩
      unfold f_X7_accept_b209
      rw [if_pos rfl, e13, if_neg h12, u1, bi_s, ld_ (show d - 1 < 32 by omega) (by decide), u3, if_pos hc6, b2, bv_s]
    · have h12' : o_F c 12 = 1 := by rcases e15 with q | q
                                     · exact absurd q h12
                                     · exact q
      obtain ⟨c1, r1, d', k', g1, g2, g3, g4, g5, g6, g7, g8, g9, g10⟩ := p_align (N := N) hN h h1 hk0 htd h12' hc6 hkk
      obtain ⟨c', r', b1, b2, b3, b4, b5⟩ := p_act (N := N) hN g3 h1 g4 (htd.cg g6 g7) (by rw [g8 14 (by decide)]; exact h14) (by rw [g9 22 (by decide) (by decide)]; exact h22) hn (by omega) (by rw [g10]; exact h4) hsm
      refine ⟨c1, c', r', g1, b1, ?_, b3, g6.tr b4, g7.tr b5⟩
      unfold f_X7_accept_b209
      rw [if_pos rfl, e13, if_neg h12, u1, bi_s, ld_ (show d - 1 < 32 by omega) (by decide), u3, if_neg hc6, g2, bv_s, b2, bv_s]
/-- a token in a group -/
theorem p_ingrp {bg : Bool} (hN : 2000 ≤ N) (h : BR e bg c r T n kd lv dp w d nd k) (h1 : kd (n - 1) ≠ 1) (hk4 : kd (nd (d - 1)) = 4) (htd : TD T a z c r) (h14 : o_F c 14 = 0) (h22 : o_F r 22 = 0) (hn : n ≤ 2 * a + 1) (hkk : k ≤ 2 * a) (h4 : (o_R c 4).length ≤ 9 * a) (hsm : smw n kd w ≤ a) : ∃ c' r', f_X0_placeInGroup N c = some c' ∧ (if (o_F r 23) = (41 : Int32) then (o_do (o_setF r 21 ((o_F r 21) - (1 : Int32))) fun s81 => some s81) else (o_bi (f_X7_isPart N r) fun x70 s68 => if x70 = 0 then (o_bv (f_X7_repair N (1 : Int32) s68) fun s72 => some s72) else (o_bi (f_X7_top N s68) fun x76 s74 => if x76 < 0 ∨ 32 ≤ Int32.toNatClampNeg x76 then none else o_do (o_A s74 15 (Int32.toNatClampNeg x76)) fun x78 => o_bv (f_X7_addPart N x78 s74) fun s79 => some s79))) = some r' ∧ BI e bg T z c' r' ∧ CF c c' ∧ RF r r' := by
  obtain ⟨e1, e2, e3, e4, e5, e6, e7, e8, e9, e10, e11, e12, e13, e14, e15, e16, e17⟩ := id htd
  obtain ⟨t1, t2, t3, t4⟩ := top_5 (N := N) h.2.2.1
  obtain ⟨u1, u2, u3, u4, u5⟩ := top_7 (N := N) h.2.2.1
  have d1 := h.2.2.1.1
  have d31 := h.2.2.1.2.1
  have f21 := h.2.2.1.2.2.2.2.2.1
  have hg := tg_grp h.2.2.1 hk4 h1
  have hap := fun q v => p_grp (N := N) h hk4 q v
  have rep : ∀ v : Int32, ∃ c' r', f_X0_report N v c = some c' ∧ f_X7_repair N v r = some r' ∧ BI e bg T z c' r' ∧ CF c c' ∧ RF r r' := by
    intro v
    obtain ⟨c', r', b1, b2, b3, b4, b5, b6, b7, b8⟩ := p_report (N := N) h (by omega) v e11 e12
    exact ⟨c', r', b1, b2, br_bi b3 h1 (by rw [b6 14 (by decide)]; exact h14) (by rw [b7 22 (by decide)]; exact h22) (by omega) (by omega) (by rw [b8 4 (by decide)]; omega) (by omega), b4, b5⟩
  have hd2 : 2 ≤ d := by
    rcases Nat.eq_or_lt_of_le d1 with q | q
    · rw [← q, h.2.2.1.2.2.2.2.2.2.1, h.2.1.2.1.2.1] at hk4; omega
    · exact q
  rcases e17 with h8 | h8 | h8 | h8 | h8 | h8 | h8 | h8 <;> (have h23 := e10; rw [h8] at h23)
  · obtain ⟨c', r', b1, b2, b3, b4, b5, b6, b7⟩ := p_word (N := N) (a := a) (z := z) (n0 := n + 1) (f10 := o_F c 10) (f11 := o_F c 11) hN h (by omega) hg e1 e2 e4 e5 h4 hsm e6 e7 e8 e9 h23 e11 e12 (by omega)
    refine ⟨c', r', ?_, ?_, bx_bi b3 (by omega) (by omega) (by rw [b6 14 (by decide)]; exact h14) (by rw [b7 22 (by decide)]; exact h22), b4, b5⟩
    · unfold f_X0_placeInGroup f_X0_addWord
      rw [h8, if_pos rfl, hap, b1, bv_s]
    · unfold f_X7_isPart
      rw [h23, if_neg (by decide), if_pos rfl, bi_s, if_neg (by decide), u1, bi_s, ld_ (show d - 1 < 32 by omega) (by decide), u2, b2, bv_s]
  · obtain ⟨v, v1, v2, v3⟩ := nm_L (N := N) (c := c) (r := r) (b := z) e1 e2 e3 e5 e7 e9 (nI (nd (d - 1))) (z - a) a N N 0 (by omega) (by omega) (by omega) (by decide) (e16 h8)
    obtain ⟨c', r', b1, b2, b3, b4, b5, b6, b7⟩ := p_num (N := N) (a := a) (z := z) (n0 := n + 1) (v := v) (f10 := o_F c 10) (f11 := o_F c 11) hN h (by omega) hg v1 e4 h4 hsm e11 e12 (by omega)
    refine ⟨c', r', ?_, ?_, bx_bi b3 (by omega) (by omega) (by rw [b6 14 (by decide)]; exact h14) (by rw [b7 22 (by decide)]; exact h22), b4, b5⟩
    · unfold f_X0_placeInGroup f_X1_numberRead
      rw [h8, if_neg (by decide), if_pos rfl, e6, show (0 : Int64) = Int64.ofNat 0 from rfl, v2, bi_s, hap, b1, bi_s]
    · unfold f_X7_isPart
      rw [h23, if_neg (by decide), if_neg (by decide), if_pos rfl, bi_s, if_neg (by decide), u1, bi_s, ld_ (show d - 1 < 32 by omega) (by decide), u2]
      unfold f_X7_addPart
      rw [h23, if_neg (by decide), if_neg (by decide), e8, show (0 : Int64) = Int64.ofNat 0 from rfl, v3, b2, bi_s, bv_s]
  · by_cases hd : d ≤ 30
    · obtain ⟨c2, r2, c', r', b1, b2, b3, b4, b5, b6, ⟨kd', lv', dp', w', b7, b8, b9⟩, b10, b11, b12, b13, b14, b15, b16⟩ := p_open (N := N) (q := 4) (a := a) (z := z) (n0 := n + 1) (v := 0) (cl := -1) (f10 := o_F c 10) (f11 := o_F c 11) hN h (by omega) hg (Or.inl rfl) hd e4 h4 hsm e11 e12 (by omega)
      refine ⟨c', r', ?_, ?_, br_bi b7 (by rw [Nat.add_sub_cancel, b8]; decide) (by rw [b12 14 (by decide)]; exact h14) (by rw [b13 22 (by decide) (by decide)]; exact h22) (by omega) (by omega) (by rw [b14]; omega) (by omega), b10, b11⟩
      · unfold f_X0_placeInGroup f_X0_openGroup f_X0_isDeep
        rw [h8, if_neg (by decide), if_neg (by decide), if_pos rfl, t1, bi_s, if_llt 30 30 rfl (by omega) (by decide), if_pos (by omega), bi_s, if_pos rfl, hap, show (4 : Int32) = nI 4 from rfl, b1, bi_s, b5, bv_s, bv_s]
      · unfold f_X7_isPart
        rw [h23, if_neg (by decide), if_neg (by decide), if_neg (by decide), if_pos rfl, bi_s, if_neg (by decide), u1, bi_s, ld_ (show d - 1 < 32 by omega) (by decide), u2]
        unfold f_X7_addPart
        rw [h23, if_pos rfl, f21, if_lle 30 30 rfl (by omega) (by decide), if_pos hd, show (4 : Int32) = nI 4 from rfl, b2, bi_s, b6, bv_s, bv_s]
    · obtain ⟨c', r', b1, b2, b3, b4, b5⟩ := rep 5
      refine ⟨c', r', ?_, ?_, b3, b4, b5⟩
      · unfold f_X0_placeInGroup f_X0_openGroup f_X0_isDeep
        rw [h8, if_neg (by decide), if_neg (by decide), if_pos rfl, t1, bi_s, if_llt 30 30 rfl (by omega) (by decide), if_neg (by omega), bi_s, if_neg (by decide), b1, bv_s, bv_s]
      · unfold f_X7_isPart
        rw [h23, if_neg (by decide), if_neg (by decide), if_neg (by decide), if_pos rfl, bi_s, if_neg (by decide), u1, bi_s, ld_ (show d - 1 < 32 by omega) (by decide), u2]
        unfold f_X7_addPart
        rw [h23, if_pos rfl, f21, if_lle 30 30 rfl (by omega) (by decide), if_neg hd, b2, bv_s, bv_s]
  · obtain ⟨c', b1, b2, b3, b4, b5, b6, b7, b8⟩ := p_close (N := N) (d' := d - 1) h (by omega) (by omega)
    refine ⟨c', _, ?_, ?_, br_bi b2 h1 (by rw [b5]; exact h14) (by rw [sF_F, if_neg (by decide)]; exact h22) (by omega) (by omega) (by rw [b6]; omega) (by omega), b3, b4⟩
    · unfold f_X0_placeInGroup
      rw [h8, if_neg (by decide), if_neg (by decide), if_neg (by decide), if_pos rfl, t1, bi_s, b1, bv_s]
    · rw [h23, if_pos rfl, f21, ni_s1 (by omega)]; rfl
  all_goals
    obtain ⟨c', r', b1, b2, b3, b4, b5⟩ := rep 1
    refine ⟨c', r', ?_, ?_, b3, b4, b5⟩
    · unfold f_X0_placeInGroup
      rw [h8, if_neg (by decide), if_neg (by decide), if_neg (by decide), if_neg (by decide), b1, bv_s]
    · unfold f_X7_isPart
      rw [h23, if_neg (by decide), if_neg (by decide), if_neg (by decide), if_neg (by decide), bi_s, if_pos rfl, b2, bv_s]
theorem p_b37 {ro : o_S} {col : Nat} (hN : 2000 ≤ N) (h : BR e true c r T n kd lv dp w d nd k) (h1 : kd (n - 1) ≠ 1) (htd : TD T a z c r) (h14 : o_F c 14 = 0) (hro : r = o_setF ro 22 0) (hl : o_F ro 22 = nI col) (hcol : col = 0 ∨ (col = 1 ∧ d ≤ 30 ∧ (o_R c 7).getD (d - 1) 0 ≠ -1)) (hn : n + col ≤ 2 * a + 1) (hkk : k ≤ 2 * a) (h4 : (o_R c 4).length ≤ 9 * a) (hsm : smw n kd w ≤ a) : ∃ c' r', f_X0_take_b37 N (nI col) c = some c' ∧ f_X7_accept N ro = some r' ∧ BI e true T z c' r' ∧ CF c c' ∧ RF r r' := by
  obtain ⟨e1, e2, e3, e4, e5, e6, e7, e8, e9, e10, e11, e12, e13, e14, e15, e16, e17⟩ := id htd
  obtain ⟨t1, t2, t3, t4⟩ := top_5 (N := N) h.2.2.1
  obtain ⟨u1, u2, u3, u4, u5⟩ := top_7 (N := N) h.2.2.1
  have u3 := u3 (Or.inl rfl)
  have d1 := h.2.2.1.1
  have d31 := h.2.2.1.2.1
  have hnn := h.2.1.2.1.1.2.1
  have h22 : o_F r 22 = 0 := by rw [hro, sF_F, if_pos rfl]
  have hx4 := xis (N := N) h 4 (by decide)
  have hA1 := (h.2.1.2.2.2.2.1 (nd (d - 1)) u5.1).1
  have hig : f_X7_isGroupOpen N r = some (if kd (nd (d - 1)) = 4 then 1 else 0, r) := by
    unfold f_X7_isGroupOpen
    rw [u1, bi_s, ld_ (show d - 1 < 32 by omega) (by decide), u2, ld_ (show nd (d - 1) < 1500 by have := u5.1; omega) (by decide), hA1, if_lit 4 4 rfl (by rcases u5.2.2.1 with q | q <;> omega) (by decide)]
    by_cases q : kd (nd (d - 1)) = 4
    · rw [if_pos q, if_pos q]
    · rw [if_neg q, if_neg q]
  rcases u5.2.2.1 with hk0 | hk4
  · -- in a block
    rw [if_neg (by omega)] at hx4 hig
    have hb37 : f_X0_take_b37 N (nI col) c = if nI col = 0 then f_X0_take_b96 N (nI col) c else (if (o_F c 8) = (123 : Int32) then (o_bi (f_X0_addPart N (0 : Int32) (1 : Int32) c) fun x39 s37 => o_bv (f_X0_enter N x39 (-1 : Int32) s37) fun s40 => some s40) else f_X0_take_b96 N (nI col) c) := by
      unfold f_X0_take_b37
      rw [t1, bi_s, do_e, t2, show (4 : Int32) = nI 4 from rfl, hx4, bi_s, if_pos rfl]
    have hacc : f_X7_accept N ro = if nI col = 0 then f_X7_accept_b110 N (nI col) r else (if (o_F r 23) = (123 : Int32) then (o_bi (f_X7_add N (0 : Int32) ((o_R c 7).getD (d - 1) 0) (o_F r 26) (o_F r 27) (1 : Int32) r) fun x64 s62 => o_bv (f_X7_push N x64 (-1 : Int32) s62) fun s65 => some s65) else f_X7_accept_b110 N (nI col) r) := by
      unfold f_X7_accept
      rw [do_e, ← hro, hig, bi_s, if_pos rfl, hl, u1, bi_s, ld_ (show d - 1 < 32 by omega) (by decide), u4]
    rcases hcol with rfl | ⟨rfl, hd, hv⟩
    · rw [if_pos (show nI 0 = (0 : Int32) from rfl)] at hb37 hacc
      obtain ⟨c1, c', r', g1, g2, g3, g4, g5, g6⟩ := p_aa (N := N) hN h h1 hk0 htd h14 h22 (by omega) hkk h4 hsm
      refine ⟨c', r', ?_, ?_, g4, g5, g6⟩
      · rw [hb37]; unfold f_X0_take_b96 f_X0_take_b127
        rw [if_pos (show nI 0 = (0 : Int32) from rfl), if_pos (show nI 0 = (0 : Int32) from rfl), g1, bv_s, g2, bv_s]
      · rw [hacc]; unfold f_X7_accept_b110 f_X7_accept_b142
        rw [if_pos rfl, if_pos (show nI 0 = (0 : Int32) from rfl), if_pos (show nI 0 = (0 : Int32) from rfl)]; exact g3
    · rw [if_neg (show ¬ nI 1 = (0 : Int32) by decide)] at hb37 hacc
      obtain ⟨i, i1, i2, i3, i4⟩ := tg_it h.2.2.1 h1 hv
      have hap := fun q v => p_has (N := N) h hk0 i1 (by have := i2.1; omega) q v
      rw [i1] at hacc
      by_cases h123 : o_F c 8 = 123
      · obtain ⟨c2, r2, c', r', b1, b2, b3, b4, b5, b6, ⟨kd', lv', dp', w', b7, b8, b9⟩, b10, b11, b12, b13, b14, b15, b16⟩ := p_open (N := N) (q := 0) (a := a) (z := z) (n0 := n + 1) (v := 1) (cl := -1) (f10 := o_F c 10) (f11 := o_F c 11) hN h (by omega) i2 (Or.inr ⟨rfl, i3⟩) hd e4 h4 hsm e11 e12 (by omega)
        refine ⟨c', r', ?_, ?_, br_bi b7 (by rw [Nat.add_sub_cancel, b8]; decide) (by rw [b12 14 (by decide)]; exact h14) (by rw [b13 22 (by decide) (by decide)]; exact h22) (by omega) (by omega) (by rw [b14]; omega) (by omega), b10, b11⟩
        · rw [hb37, if_pos h123, hap, show (0 : Int32) = nI 0 from rfl, b1, bi_s, b5, bv_s]
        · rw [hacc, e10, if_pos h123, show (0 : Int32) = nI 0 from rfl, b2, bi_s, b6, bv_s]
      · rw [if_neg h123] at hb37
        rw [e10, if_neg h123] at hacc
        -- does a block begin?
        have hbeg : ∃ y : Bool, f_X0_beginsBlock N c = some (if y then 1 else 0, c) ∧ f_X7_accept_b110 N (nI 1) r = f_X7_accept_b142 N (nI 1) (if y then 1 else 0) r := by
          have yes : (o_F c 8 = 2 ∨ o_F c 8 = 3 ∨ o_F c 8 = 40) → ∃ y : Bool, f_X0_beginsBlock N c = some (if y then 1 else 0, c) ∧ f_X7_accept_b110 N (nI 1) r = f_X7_accept_b142 N (nI 1) (if y then 1 else 0) r := by
            intro ht
            have s1 : f_X0_beginsBlock N c = if (o_F c 11) ≤ (o_R c 6).getD (d - 1) 0 then some ((0 : Int32), c) else some ((1 : Int32), c) := by
              unfold f_X0_beginsBlock f_X0_beginsBlock_b39
              rw [t1, bi_s, do_e, t3]
              rcases ht with q | q | q <;> rw [q]
              · rw [if_pos rfl, if_neg (by decide)]
              · rw [if_neg (by decide), if_pos rfl, if_neg (by decide)]
              · rw [if_neg (by decide), if_neg (by decide), if_pos rfl, if_neg (by decide)]
            have s2 : f_X7_isPart N r = some (1, r) := by
              unfold f_X7_isPart
              rw [e10]
              rcases ht with q | q | q <;> rw [q]
              · rw [if_pos rfl]
              · rw [if_neg (by decide), if_pos rfl]
              · rw [if_neg (by decide), if_neg (by decide), if_pos rfl]
            have s3 : f_X7_accept_b110 N (nI 1) r = if o_F c 11 ≤ (o_R c 6).getD (d - 1) 0 then f_X7_accept_b142 N (nI 1) (0 : Int32) r else f_X7_accept_b142 N (nI 1) (1 : Int32) r := by
              unfold f_X7_accept_b110
              rw [if_neg (by decide), s2, bi_s, if_neg (by decide), u1, bi_s, ld_ (show d - 1 < 32 by omega) (by decide), u3, e12]
            by_cases y : o_F c 11 ≤ (o_R c 6).getD (d - 1) 0
            · refine ⟨false, ?_, ?_⟩
              · rw [s1, if_pos y]; rfl
              · rw [s3, if_pos y]; rfl
            · refine ⟨true, ?_, ?_⟩
              · rw [s1, if_neg y]; rfl
              · rw [s3, if_neg y]; rfl
          have no : ¬ o_F c 8 = 2 → ¬ o_F c 8 = 3 → ¬ o_F c 8 = 40 → ∃ y : Bool, f_X0_beginsBlock N c = some (if y then 1 else 0, c) ∧ f_X7_accept_b110 N (nI 1) r = f_X7_accept_b142 N (nI 1) (if y then 1 else 0) r := by
            intro q1 q2 q3
            refine ⟨false, ?_, ?_⟩
            · unfold f_X0_beginsBlock f_X0_beginsBlock_b39
              rw [if_neg q1, if_neg q2, if_neg q3, if_pos rfl]; rfl
            · unfold f_X7_accept_b110 f_X7_isPart
              rw [if_neg (by decide), e10, if_neg q1, if_neg q2, if_neg q3, bi_s, if_pos rfl]; rfl
          by_cases q1 : o_F c 8 = 2
          · exact yes (Or.inl q1)
          · by_cases q2 : o_F c 8 = 3
            · exact yes (Or.inr (Or.inl q2))
            · by_cases q3 : o_F c 8 = 40
              · exact yes (Or.inr (Or.inr q3))
              · exact no q1 q2 q3
        obtain ⟨y, y1, y2⟩ := hbeg
        cases y with
        | true =>
          obtain ⟨c2, r2, c', r', b1, b2, b3, b4, b5, b6, ⟨kd', lv', dp', w', b7, b8, b9⟩, b10, b11, b12, b13, b14, b15, b16⟩ := p_open (N := N) (q := 0) (a := a) (z := z) (n0 := n + 1) (v := 0) (cl := o_F c 11) (f10 := o_F c 10) (f11 := o_F c 11) hN h (by omega) i2 (Or.inr ⟨rfl, i3⟩) hd e4 h4 hsm e11 e12 (by omega)
          obtain ⟨c'', r'', j1, j2, j3, j4, j5⟩ := p_act (N := N) hN b7 (by rw [Nat.add_sub_cancel, b8]; decide) (by rw [Nat.add_sub_cancel, ap_e]; exact b8) (htd.cg b10 b11) (by rw [b12 14 (by decide)]; exact h14) (by rw [b13 22 (by decide) (by decide)]; exact h22) (by omega) (by omega) (by rw [b14]; exact h4) (by omega)
          refine ⟨c'', r'', ?_, ?_, j3, b10.tr j4, b11.tr j5⟩
          · rw [hb37]; unfold f_X0_take_b96
            rw [if_neg (show ¬ nI 1 = (0 : Int32) by decide), y1, bi_s, if_neg (by decide), hap, show (0 : Int32) = nI 0 from rfl, show (nI 0 : Int32) = 0 from rfl, show f_X5_add N (nI i) 0 (o_F c 10) (o_F c 11) 0 c = some (nI n, c2) from b1, bi_s, b3 11 (by decide), b5, bv_s, j1, bv_s]
          · rw [hacc, y2]; unfold f_X7_accept_b142
            rw [if_neg (by decide), u1, bi_s, ld_ (show d - 1 < 32 by omega) (by decide), u4, i1, show f_X7_add N 0 (nI i) (o_F r 26) (o_F r 27) 0 r = some (nI n, r2) from b2, bi_s, b4 27 (by decide), e12, b6, bv_s]
            unfold f_X7_accept_b209
            rw [if_neg (by decide), j2, bv_s]
        | false =>
          obtain ⟨g1, g2, g3, g4, g5, g6, g7⟩ := id i2
          obtain ⟨c1, r1, b1, b2, b3, b4, b5, b6, b7, b8, b9⟩ := p_add0 (N := N) hN h (by omega) g1 g2 g3 g4 (q := 0) (by decide) (by decide) (Or.inr (Or.inl ⟨i3, Or.inl rfl⟩)) g6 (fun _ => by rw [tg_dp i2]; omega) (o_F c 10) (o_F c 11) 0 (fun q => by omega)
          have hsm1 : smw (n + 1) (ap n kd 0) (ap n w []) = smw n kd w := by rw [smw_ap, if_neg (by decide), Nat.add_zero]
          obtain ⟨c2, c', r', j1, j2, j3, j4, j5, j6⟩ := p_aa (N := N) hN b3 (by rw [Nat.add_sub_cancel, ap_e]; decide) (by rw [ap_l u5.1]; exact hk0) (htd.cg b4 b5) (by rw [b6 14 (by decide)]; exact h14) (by rw [b7 22 (by decide)]; exact h22) (by omega) hkk (by rw [b8 4 (by decide)]; exact h4) (by omega)
          refine ⟨c', r', ?_, ?_, j4, b4.tr j5, b5.tr j6⟩
          · rw [hb37]; unfold f_X0_take_b96 f_X0_take_b127
            rw [if_neg (show ¬ nI 1 = (0 : Int32) by decide), y1, bi_s, if_pos (by rfl), if_neg (show ¬ nI 1 = (0 : Int32) by decide), hap, show f_X5_add N (nI i) 0 (o_F c 10) (o_F c 11) 0 c = some (nI n, c1) from b1, bi_s, j1, bv_s, j2, bv_s]
          · rw [hacc, y2]; unfold f_X7_accept_b142
            rw [if_pos (by rfl), if_neg (show ¬ nI 1 = (0 : Int32) by decide), u1, bi_s, ld_ (show d - 1 < 32 by omega) (by decide), u4, i1, e11, e12, show f_X7_add N 0 (nI i) (o_F c 10) (o_F c 11) 0 r = some (nI n, r1) from b2, bi_s]
            exact j3
  · -- in a group
    rw [if_pos hk4] at hx4 hig
    obtain ⟨c', r', b1, b2, b3, b4, b5⟩ := p_ingrp (N := N) hN h h1 hk4 htd h14 h22 (by omega) hkk h4 hsm
    refine ⟨c', r', ?_, ?_, b3, b4, b5⟩
    · unfold f_X0_take_b37
      rw [t1, bi_s, do_e, t2, show (4 : Int32) = nI 4 from rfl, hx4, bi_s, if_neg (by decide), b1, bv_s]
    · unfold f_X7_accept
      rw [do_e, ← hro, hig, bi_s, if_neg (by decide)]
      exact b2
end
