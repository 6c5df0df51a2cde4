/-! PARSE: a token is taken -/
theorem sF_same {s : o_S} {k : Nat} {v : Int32} (h : o_F s k = v) : o_setF s k v = s := by
  obtain ⟨a, b, c, d, e⟩ := s
  refine Prod.ext ?_ rfl
  funext j
  show (if j = k then v else a j) = a j
  by_cases q : j = k
  · rw [if_pos q, q]; exact h.symm
  · rw [if_neg q]
theorem sF_sF (s : o_S) (k : Nat) (u v : Int32) : o_setF (o_setF s k u) k v = o_setF s k v := by
  refine Prod.ext ?_ rfl
  funext j
  show (if j = k then v else if j = k then u else s.1 j) = if j = k then v else s.1 j
  by_cases q : j = k
  · rw [if_pos q, if_pos q]
  · rw [if_neg q, if_neg q, if_neg q]
theorem grp_sub {n g : Nat} {kd lv dp : Nat → Nat} (h : TW n kd lv dp) (hg : g < n) (hk : kd g = 4) : ∀ k, g < k → k < aft lv n g → kd k = 2 ∨ kd k = 3 ∨ kd k = 4 := by
  have a2 := (aft_spec (lv := lv) hg).2.1
  intro k
  induction k using Nat.strongRecOn with
  | _ k ih =>
    intro h1 h2
    obtain ⟨s1, s2⟩ := sub_par h.1 hg h1 h2
    have ok := (h.2.2.2.1 k (by omega) (by omega)).1
    rcases Nat.eq_or_lt_of_le s1 with q | q
    · rw [← q, hk] at ok; unfold kOK at ok; omega
    · have := ih _ s2 q (by omega); unfold kOK at ok; omega
def ald (cols : List Int32) (x : Int32) : Nat → Nat
  | 0 => 0
  | t + 1 => if cols.getD (t + 1) 0 ≤ x then t + 1 else ald cols x t
theorem ald_le (cols : List Int32) (x : Int32) : ∀ t, ald cols x t ≤ t := by
  intro t
  induction t with
  | zero => exact Nat.le_refl _
  | succ t ih => rw [ald]; split <;> omega
theorem lt_of_le_ne {x y : Int32} (h : x ≤ y) (h2 : ¬ y = x) : x < y := by
  rw [le_t] at h; rw [lt_t]
  have : y.toInt ≠ x.toInt := fun z => h2 (Int32.toInt_inj.1 z)
  omega
theorem le_of_lt' {x y : Int32} (h : x < y) : x ≤ y := by rw [lt_t] at h; rw [le_t]; omega
section
variable {N e n d k a z : Nat} {bg : Bool} {c r : o_S} {T : List Int32} {kd lv dp : Nat → Nat} {w : Nat → List Int32} {nd : Nat → Nat}
theorem c_ald (h : SK bg c r n kd lv dp d nd) (l1 : Int32) : ∀ t m, t < d → t < m → f_X0_alignToColumn_L18 N m l1 (nI t) c = f_X0_alignToColumn_b46 N l1 (nI (ald (o_R c 6) (o_F c 11) t)) c := by
  have l6 := h.2.2.2.1
  have d31 := h.2.1
  intro t
  induction t with
  | zero =>
    intro m ht hm
    obtain ⟨m, rfl⟩ : ∃ m', m = m' + 1 := ⟨m - 1, by omega⟩
    rw [f_X0_alignToColumn_L18, if_lle 0 0 rfl (by omega) (by decide), if_pos (by omega)]; rfl
  | succ t ih =>
    intro m ht hm
    obtain ⟨m, rfl⟩ : ∃ m', m = m' + 1 := ⟨m - 1, by omega⟩
    rw [f_X0_alignToColumn_L18, if_lle 0 0 rfl (by omega) (by decide), if_neg (by omega), do_e, at_in (by omega) (by omega), ald]
    by_cases q : (o_R c 6).getD (t + 1) 0 ≤ o_F c 11
    · rw [if_pos q, if_pos q]
    · rw [if_neg q, if_neg q, ni_m1 (by omega), Nat.add_sub_cancel]; exact ih m (by omega) (by omega)
theorem r_ald (h : SK bg c r n kd lv dp d nd) (h27 : o_F r 27 = o_F c 11) : ∀ t m fl, t < d → t < m → f_X7_align_L2 N m fl (o_setF r 21 (nI (t + 1))) = f_X7_align_b40 N (if ald (o_R c 6) (o_F c 11) t = t then fl else 1) (o_setF r 21 (nI (ald (o_R c 6) (o_F c 11) t + 1))) := by
  have d31 := h.2.1
  intro t
  induction t with
  | zero =>
    intro m fl ht hm
    obtain ⟨m, rfl⟩ : ∃ m', m = m' + 1 := ⟨m - 1, by omega⟩
    rw [f_X7_align_L2]
    unfold f_X7_top
    rw [bi_s, sF_F, if_pos rfl, ni_s1 (by omega), if_lle 0 0 rfl (by omega) (by decide), if_pos (by omega), show ald (o_R c 6) (o_F c 11) 0 = 0 from rfl, if_pos rfl]
  | succ t ih =>
    intro m fl ht hm
    obtain ⟨m, rfl⟩ : ∃ m', m = m' + 1 := ⟨m - 1, by omega⟩
    have hle := ald_le (o_R c 6) (o_F c 11) t
    have f27 : o_F (o_setF r 21 (nI (t + 1 + 1))) 27 = o_F c 11 := by rw [sF_F, if_neg (by decide)]; exact h27
    rw [f_X7_align_L2]
    unfold f_X7_top
    rw [bi_s, sF_F, if_pos rfl, ni_s1 (by omega), Nat.add_sub_cancel, if_lle 0 0 rfl (by omega) (by decide), if_neg (by omega), bi_s, ld_ (show t + 1 < 32 by omega) (by decide), sF_A, (h.2.2.2.2.2.2.2 (t + 1) ht).2.2.1 (Or.inr (by omega)), f27, ald]
    by_cases q : (o_R c 6).getD (t + 1) 0 ≤ o_F c 11
    · rw [if_pos q, if_pos q, if_pos rfl]
    · rw [if_neg q, if_neg q, do_e, sF_F, if_pos rfl, ni_s1 (by omega), Nat.add_sub_cancel, sF_sF, ih m 1 (by omega) (by omega), if_neg (show ¬ ald (o_R c 6) (o_F c 11) t = t + 1 by omega), ite_self]
/-- the token's column against the blocks' -/
theorem p_align (hN : 2000 ≤ N) (h : BR e true c r T n kd lv dp w d nd k) (h1 : kd (n - 1) ≠ 1) (hk0 : kd (nd (d - 1)) = 0) (htd : TD T a z c r) (h12 : o_F c 12 = 1) (hc6 : (o_R c 6).getD (d - 1) 0 ≠ -1) (hkk : k ≤ 2 * a) : ∃ c' r' d' k', f_X0_alignToColumn N c = some c' ∧ f_X7_align N r = some r' ∧ BR e true c' r' T n kd lv dp w d' nd k' ∧ kd (nd (d' - 1)) = 0 ∧ k' ≤ k + 1 ∧ CF c c' ∧ RF r r' ∧ (∀ f, f ≠ 0 → o_F c' f = o_F c f) ∧ (∀ f, f ≠ 19 → f ≠ 21 → o_F r' f = o_F r f) ∧ o_R c' 4 = o_R c 4 := by
  obtain ⟨e1, e2, e3, e4, e5, e6, e7, e8, e9, e10, e11, e12, e13, e14, e15, e16, e17⟩ := id htd
  obtain ⟨t1, t2, t3, t4⟩ := top_5 (N := N) h.2.2.1
  obtain ⟨u1, u2, u3, u4, u5⟩ := top_7 (N := N) h.2.2.1
  have d1 := h.2.2.1.1
  have d31 := h.2.2.1.2.1
  have f21 := h.2.2.1.2.2.2.2.2.1
  have hle := ald_le (o_R c 6) (o_F c 11) (d - 1)
  have hc := c_ald (N := N) h.2.2.1 (nI (d - 1)) (d - 1) N (by omega) (by omega)
  have hr := r_ald (N := N) h.2.2.1 e12 (d - 1) N 0 (by omega) (by omega)
  rw [show d - 1 + 1 = d by omega, sF_same f21] at hr
  generalize hA : ald (o_R c 6) (o_F c 11) (d - 1) = A at hc hr hle
  obtain ⟨x, hx1, hx2⟩ := e14
  obtain ⟨c1, b1, b2, b3, b4, b5, b6, b7, b8⟩ := p_close (N := N) (d' := A + 1) h (by omega) (by omega)
  have td1 := htd.cg b3 b4
  obtain ⟨p1, p2, p3, p4⟩ := top_5 (N := N) b2.2.2.1
  obtain ⟨q1, q2, q3, q4, q5⟩ := top_7 (N := N) b2.2.2.1
  rw [Nat.add_sub_cancel] at p1 p2 p3 p4 q1 q2 q3 q4 q5
  have q3 := q3 (Or.inl rfl)
  have hblk : kd (nd A) = 0 := by
    rcases q5.2.2.1 with y | y
    · exact y
    · exfalso
      rcases Nat.eq_or_lt_of_le hle with v | v
      · rw [v] at y; omega
      · have hm := h.2.2.1.mono (d - 1 - A - 1) (A + 1) (by omega)
        have hm2 := (h.2.2.1.2.2.2.2.2.2.2 A (by omega)).2.2.2.2.2.1
        unfold nx at hm2
        rw [if_pos (by omega)] at hm2
        rw [show A + 1 + (d - 1 - A - 1) = d - 1 by omega] at hm
        have := grp_sub h.2.1.2.1 q5.1 y (nd (d - 1)) (by omega) (by rw [q5.2.2.2.2.1]; exact u5.1)
        omega
  have F1 : ∀ f, o_F c1 f = o_F c f := fun f => by rw [b5]
  have stA : f_X0_alignToColumn N c = f_X0_alignToColumn_b46 N (nI (d - 1)) (nI A) c := by
    unfold f_X0_alignToColumn; rw [h12, if_neg (by decide), t1, bi_s]; exact hc
  have stR : f_X7_align N r = f_X7_align_b40 N (if A = d - 1 then 0 else 1) (o_setF r 21 (nI (A + 1))) := by
    unfold f_X7_align; exact hr
  have f27 : o_F (o_setF r 21 (nI (A + 1))) 27 = o_F c 11 := by rw [sF_F, if_neg (by decide)]; exact e12
  have b46 : f_X0_alignToColumn_b46 N (nI (d - 1)) (nI A) c = if (o_R c1 6).getD A 0 = o_F c 11 then (o_bv (f_X0_endItem N c1) fun s21 => some s21) else (if o_F c 11 < (o_R c1 6).getD A 0 then (o_bv (f_X0_report N (2 : Int32) c1) fun s11 => o_bv (f_X0_endItem N s11) fun s13 => some s13) else (if (o_R c1 6).getD A 0 = (-1 : Int32) then some c1 else (if d - 1 ≤ A then some c1 else (o_bv (f_X0_report N (2 : Int32) c1) fun s17 => o_bv (f_X0_endItem N s17) fun s19 => some s19)))) := by
    unfold f_X0_alignToColumn_b46
    rw [ni_p1, b1, bv_s, do_e, p3, F1, if_ni_le (by omega) (by omega)]
  have b40 : f_X7_align_b40 N (if A = d - 1 then 0 else 1) (o_setF r 21 (nI (A + 1))) = if (o_R c1 6).getD A 0 = (-1 : Int32) then some (o_setF r 21 (nI (A + 1))) else (if o_F c 11 ≤ (o_R c1 6).getD A 0 then f_X7_align_b68 N ((o_R c1 6).getD A 0) (o_setF r 21 (nI (A + 1))) else (if (if A = d - 1 then (0 : Int32) else 1) = 0 then some (o_setF r 21 (nI (A + 1))) else f_X7_align_b68 N ((o_R c1 6).getD A 0) (o_setF r 21 (nI (A + 1))))) := by
    unfold f_X7_align_b40
    rw [q1, bi_s, ld_ (show A < 32 by omega) (by decide), q3, f27]
  -- the item ends
  have endI : ∃ c' r', f_X0_endItem N c1 = some c' ∧ (o_setA (o_setF r 21 (nI (A + 1))) 17 A (-1)) = r' ∧ BR e true c' r' T n kd lv dp w (A + 1) nd k ∧ CF c c' ∧ RF r r' ∧ (∀ f, f ≠ 0 → o_F c' f = o_F c f) ∧ (∀ f, f ≠ 19 → f ≠ 21 → o_F r' f = o_F r f) ∧ o_R c' 4 = o_R c 4 := by
    obtain ⟨c', g1, g2, g3, g4, g5, g6, g7⟩ := p_item (v := -1) b2 (Or.inl rfl)
    rw [Nat.add_sub_cancel] at g1 g2 g4
    refine ⟨c', _, ?_, rfl, g2, b3.tr g3, b4.tr g4, fun f _ => by rw [g5]; exact F1 f, fun f _ f21 => by rw [sA_F, sF_F, if_neg f21], by rw [g6 4 (by decide)]; exact b6⟩
    unfold f_X0_endItem; rw [p1, bi_s, do_e, g1]
  have repI : ∃ c2 c' r2 r', f_X0_report N (2 : Int32) c1 = some c2 ∧ f_X0_endItem N c2 = some c' ∧ f_X7_repair N (2 : Int32) (o_setF r 21 (nI (A + 1))) = some r2 ∧ f_X7_top N r2 = some (nI A, r2) ∧ o_setA r2 17 A (-1) = r' ∧ BR e true c' r' T n kd lv dp w (A + 1) nd (k + 1) ∧ CF c c' ∧ RF r r' ∧ (∀ f, f ≠ 0 → o_F c' f = o_F c f) ∧ (∀ f, f ≠ 19 → f ≠ 21 → o_F r' f = o_F r f) ∧ o_R c' 4 = o_R c 4 := by
    obtain ⟨c2, r2, g1, g2, g3, g4, g5, g6, g7, g8⟩ := p_report (N := N) b2 (by omega) 2 td1.2.2.2.2.2.2.2.2.2.2.1 td1.2.2.2.2.2.2.2.2.2.2.2.1
    obtain ⟨c', j1, j2, j3, j4, j5, j6, j7⟩ := p_item (v := -1) g3 (Or.inl rfl)
    have p1' := (top_5 (N := N) g3.2.2.1).1
    have q1' := (top_7 (N := N) g3.2.2.1).1
    rw [Nat.add_sub_cancel] at j1 j2 j4 p1' q1'
    refine ⟨c2, c', r2, _, g1, ?_, g2, q1', rfl, j2, (b3.tr g4).tr j3, (b4.tr g5).tr j4, fun f f0 => by rw [j5, g6 f f0]; exact F1 f, fun f f19 f21 => by rw [sA_F, g7 f f19, sF_F, if_neg f21], by rw [j6 4 (by decide), g8 4 (by decide)]; exact b6⟩
    unfold f_X0_endItem; rw [p1', bi_s, do_e, j1]
  have hX : (-1 : Int32) < o_F c 11 := by rw [hx2]; exact Int32.lt_iff_toInt_lt.mpr (by
    show (-1 : Int) < (nI x).toInt
    have := nI_pos (show x < 2 ^ 31 by omega)
    rw [lt_t] at this
    have e0 : (0 : Int32).toInt = 0 := rfl
    omega)
  have b68r : ∀ v : Int32, ¬ v = o_F c 11 → ∀ r2 r', f_X7_repair N (2 : Int32) (o_setF r 21 (nI (A + 1))) = some r2 → f_X7_top N r2 = some (nI A, r2) → o_setA r2 17 A (-1) = r' → f_X7_align_b68 N v (o_setF r 21 (nI (A + 1))) = some r' := by
    intro v hv r2 r' k1 k2 k3
    unfold f_X7_align_b68
    rw [f27, if_neg hv, k1, bv_s, k2, bi_s, st_ (show A < 32 by omega) (by decide), k3]
  by_cases y1 : (o_R c1 6).getD A 0 = o_F c 11
  · obtain ⟨c', r', k1, k2, k3, k4, k5, k6, k7, k8⟩ := endI
    refine ⟨c', r', A + 1, k, ?_, ?_, k3, by rw [Nat.add_sub_cancel]; exact hblk, by omega, k4, k5, k6, k7, k8⟩
    · rw [stA, b46, if_pos y1, k1, bv_s]
    · rw [stR, b40, y1, if_neg (fun q => by rw [q] at hX; exact absurd hX (by decide)), if_pos (by rw [le_t]; omega)]
      unfold f_X7_align_b68
      rw [f27, if_pos rfl, q1, bi_s, st_ (show A < 32 by omega) (by decide), k2]
  · by_cases y2 : o_F c 11 < (o_R c1 6).getD A 0
    · obtain ⟨c2, c', r2, r', k1, k2, k3, k4, k5, k6, k7, k8, k9, k10, k11⟩ := repI
      refine ⟨c', r', A + 1, k + 1, ?_, ?_, k6, by rw [Nat.add_sub_cancel]; exact hblk, by omega, k7, k8, k9, k10, k11⟩
      · rw [stA, b46, if_neg y1, if_pos y2, k1, bv_s, k2, bv_s]
      · have n1 : ¬ (o_R c1 6).getD A 0 = -1 := fun q => by
          rw [q] at y2; rw [lt_t] at y2 hX; omega
        rw [stR, b40, if_neg n1, if_pos (le_of_lt' y2)]
        exact b68r _ y1 _ _ k3 k4 k5
    · have n2 : ¬ o_F c 11 ≤ (o_R c1 6).getD A 0 := fun q => y2 (lt_of_le_ne q y1)
      by_cases y3 : (o_R c1 6).getD A 0 = -1
      · refine ⟨c1, o_setF r 21 (nI (A + 1)), A + 1, k, ?_, ?_, b2, by rw [Nat.add_sub_cancel]; exact hblk, by omega, b3, b4, fun f _ => F1 f, fun f _ f21 => by rw [sF_F, if_neg f21], b6⟩
        · rw [stA, b46, if_neg y1, if_neg y2, if_pos y3]
        · rw [stR, b40, if_pos y3]
      · by_cases y4 : d - 1 ≤ A
        · refine ⟨c1, o_setF r 21 (nI (A + 1)), A + 1, k, ?_, ?_, b2, by rw [Nat.add_sub_cancel]; exact hblk, by omega, b3, b4, fun f _ => F1 f, fun f _ f21 => by rw [sF_F, if_neg f21], b6⟩
          · rw [stA, b46, if_neg y1, if_neg y2, if_neg y3, if_pos y4]
          · rw [stR, b40, if_neg y3, if_neg n2, if_pos (show A = d - 1 by omega), if_pos rfl]
        · obtain ⟨c2, c', r2, r', k1, k2, k3, k4, k5, k6, k7, k8, k9, k10, k11⟩ := repI
          refine ⟨c', r', A + 1, k + 1, ?_, ?_, k6, by rw [Nat.add_sub_cancel]; exact hblk, by omega, k7, k8, k9, k10, k11⟩
          · rw [stA, b46, if_neg y1, if_neg y2, if_neg y3, if_neg y4, k1, bv_s, k2, bv_s]
          · rw [stR, b40, if_neg y3, if_neg n2, if_neg (show ¬ A = d - 1 by omega), if_neg (by decide)]
            exact b68r _ y1 _ _ k3 k4 k5
/-- a braced block has no column: the class's aligning does nothing there -/
theorem c_noalign (hN : 2000 ≤ N) (h : BR e true c r T n kd lv dp w d nd k) (htd : TD T a z c r) (hc6 : (o_R c 6).getD (d - 1) 0 = -1) : ∃ c', f_X0_alignToColumn N c = some c' ∧ BR e true c' r T n kd lv dp w d nd k ∧ CF c c' ∧ o_F c' = o_F c ∧ o_R c' 4 = o_R c 4 := by
  by_cases h12 : o_F c 12 = 0
  · exact ⟨c, by unfold f_X0_alignToColumn; rw [if_pos h12], h, CF.rf c, rfl, rfl⟩
  · obtain ⟨x, hx1, hx2⟩ := htd.2.2.2.2.2.2.2.2.2.2.2.2.2.1
    obtain ⟨t1, t2, t3, t4⟩ := top_5 (N := N) h.2.2.1
    have d1 := h.2.2.1.1
    have d31 := h.2.2.1.2.1
    have f21 := h.2.2.1.2.2.2.2.2.1
    have hX : (-1 : Int32) < o_F c 11 := by rw [hx2]; exact Int32.lt_iff_toInt_lt.mpr (by
      show (-1 : Int) < (nI x).toInt
      have := nI_pos (show x < 2 ^ 31 by omega)
      rw [lt_t] at this
      have e0 : (0 : Int32).toInt = 0 := rfl
      omega)
    have hA : ald (o_R c 6) (o_F c 11) (d - 1) = d - 1 := by
      rcases Nat.eq_zero_or_pos (d - 1) with q | q
      · rw [q]; rfl
      · obtain ⟨t, ht⟩ : ∃ t, d - 1 = t + 1 := ⟨d - 2, by omega⟩
        rw [ht] at hc6 ⊢
        rw [ald, if_pos (by rw [hc6]; exact le_of_lt' hX)]
    have hc := c_ald (N := N) h.2.2.1 (nI (d - 1)) (d - 1) N (by omega) (by omega)
    rw [hA] at hc
    obtain ⟨c1, b1, b2, b3, b4, b5, b6, b7, b8⟩ := p_close (N := N) (d' := d) h (by omega) (by omega)
    have b2' : BR e true c1 r T n kd lv dp w d nd k := by rw [sF_same f21] at b2; exact b2
    obtain ⟨p1, p2, p3, p4⟩ := top_5 (N := N) b2'.2.2.1
    have c6' : (o_R c1 6).getD (d - 1) 0 = -1 := by
      rw [b7, List.getD_eq_getElem?_getD, List.getElem?_take, if_pos (by omega), ← List.getD_eq_getElem?_getD]; exact hc6
    refine ⟨c1, ?_, b2', b3, b5, b6⟩
    unfold f_X0_alignToColumn
    rw [if_neg h12, t1, bi_s, hc]
    unfold f_X0_alignToColumn_b46
    rw [ni_p1, show d - 1 + 1 = d by omega, b1, bv_s, do_e, p3, c6', b5, if_neg (fun q => by rw [← q] at hX; exact absurd hX (by decide)), if_neg (fun q => by rw [lt_t] at q hX; omega), if_pos rfl]
end
