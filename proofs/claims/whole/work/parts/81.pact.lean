/-! PARSE: what a token does in a block -/
def BI (e : Nat) (bg : Bool) (T : List Int32) (p : Nat) (c r : o_S) : Prop := ∃ n kd lv dp w d nd k col, BR e bg c r T n kd lv dp w d nd k ∧ kd (n - 1) ≠ 1 ∧ ((col = 0 ∧ o_F c 14 = 0 ∧ o_F r 22 = 0) ∨ (col = 1 ∧ o_F c 14 = 1 ∧ o_F r 22 = 1 ∧ d ≤ 30 ∧ (o_R c 7).getD (d - 1) 0 ≠ -1)) ∧ n + col ≤ 2 * p + 1 ∧ k ≤ 2 * p ∧ (o_R c 4).length ≤ 9 * p ∧ smw n kd w ≤ p
def TD (T : List Int32) (a z : Nat) (c r : o_S) : Prop := o_R c 0 = T ∧ T.length ≤ 600 ∧ (∀ j, j < T.length → o_A r 0 j = T.getD j 0) ∧ a < z ∧ z ≤ T.length ∧ o_F c 9 = nI a ∧ o_F c 2 = nI z ∧ o_F r 24 = nI a ∧ o_F r 25 = nI z ∧ o_F r 23 = o_F c 8 ∧ o_F r 26 = o_F c 10 ∧ o_F r 27 = o_F c 11 ∧ o_F r 28 = o_F c 12 ∧ (∃ x, x < 1000 ∧ o_F c 11 = nI x) ∧ (o_F c 12 = 0 ∨ o_F c 12 = 1) ∧ (o_F c 8 = 3 → ∀ j, a ≤ j → j < z → isD (T.getD j 0) = true) ∧ (o_F c 8 = 2 ∨ o_F c 8 = 3 ∨ o_F c 8 = 40 ∨ o_F c 8 = 41 ∨ o_F c 8 = 58 ∨ o_F c 8 = 59 ∨ o_F c 8 = 123 ∨ o_F c 8 = 125)
theorem TD.cg {T : List Int32} {a z : Nat} {c r c' r' : o_S} (h : TD T a z c r) (hc : CF c c') (hr : RF r r') : TD T a z c' r' := by
  have f : ∀ x, x ≠ 0 → x ≠ 1 → x ≠ 14 → o_F c' x = o_F c x := hc.2.2.1
  have g : ∀ x, x ≠ 17 → x ≠ 19 → x ≠ 21 → x ≠ 22 → o_F r' x = o_F r x := hr.2.1
  unfold TD
  rw [hc.2.2.2 0 (Or.inl rfl), hr.2.2 0 (Or.inl rfl), f 9 (by decide) (by decide) (by decide), f 2 (by decide) (by decide) (by decide), f 8 (by decide) (by decide) (by decide), f 10 (by decide) (by decide) (by decide), f 11 (by decide) (by decide) (by decide), f 12 (by decide) (by decide) (by decide), g 24 (by decide) (by decide) (by decide) (by decide), g 25 (by decide) (by decide) (by decide) (by decide), g 23 (by decide) (by decide) (by decide) (by decide), g 26 (by decide) (by decide) (by decide) (by decide), g 27 (by decide) (by decide) (by decide) (by decide), g 28 (by decide) (by decide) (by decide) (by decide)]
  exact h
theorem bx_bi {e z n0 k : Nat} {bg : Bool} {T : List Int32} {c r : o_S} (h : BX e bg T z n0 k c r) (hn : n0 ≤ 2 * z + 1) (hk : k ≤ 2 * z) (h14 : o_F c 14 = 0) (h22 : o_F r 22 = 0) : BI e bg T z c r := by
  obtain ⟨n, kd, lv, dp, w, d, nd, a1, a2, a3, a4, a5⟩ := h
  exact ⟨n, kd, lv, dp, w, d, nd, k, 0, a1, a2, Or.inl ⟨rfl, h14, h22⟩, by omega, hk, a4, a5⟩
section
variable {N e n d k a z : Nat} {bg : Bool} {c r : o_S} {T : List Int32} {kd lv dp : Nat → Nat} {w : Nat → List Int32} {nd : Nat → Nat}
theorem br_bi (h : BR e bg c r T n kd lv dp w d nd k) (h1 : kd (n - 1) ≠ 1) (h14 : o_F c 14 = 0) (h22 : o_F r 22 = 0) (hn : n ≤ 2 * z + 1) (hk : k ≤ 2 * z) (h4 : (o_R c 4).length ≤ 9 * z) (hs : smw n kd w ≤ z) : BI e bg T z c r :=
  ⟨n, kd, lv, dp, w, d, nd, k, 0, h, h1, Or.inl ⟨rfl, h14, h22⟩, hn, hk, h4, hs⟩
/-- a colon -/
theorem p_colon (h : BR e bg c r T n kd lv dp w d nd k) (h1 : kd (n - 1) ≠ 1) (htd : TD T a z c r) (h14 : o_F c 14 = 0) (h22 : o_F r 22 = 0) (hn : n ≤ 2 * a + 1) (hkk : k ≤ 2 * a + 1) (h4 : (o_R c 4).length ≤ 9 * a) (hsm : smw n kd w ≤ a) (h8 : o_F c 8 = 58) : ∃ c' r', f_X0_takeColon N c = some c' ∧ f_X7_act N r = some r' ∧ BI e bg T z c' r' ∧ CF c c' ∧ RF r r' := by
  obtain ⟨e1, e2, e3, e4, e5, e6, e7, e8, e9, e10, e11, e12, e13, e14, e15, e16, e17⟩ := id htd
  obtain ⟨t1, t2, t3, t4⟩ := top_5 (N := N) h.2.2.1
  obtain ⟨u1, u2, u3, u4, u5⟩ := top_7 (N := N) h.2.2.1
  have d1 := h.2.2.1.1
  have d31 := h.2.2.1.2.1
  have f21 := h.2.2.1.2.2.2.2.2.1
  have h23 : o_F r 23 = 58 := by rw [e10, h8]
  have hact : ∀ x, (o_bi (f_X7_top N r) fun x17 s15 => if x17 < 0 ∨ 32 ≤ Int32.toNatClampNeg x17 then none else o_do (o_A s15 17 (Int32.toNatClampNeg x17)) fun x19 => if x19 = (-1 : Int32) then (o_bv (f_X7_repair N (3 : Int32) s15) fun s25 => some s25) else (if (o_F s15 21) ≤ (30 : Int32) then (o_do (o_setF s15 22 (1 : Int32)) fun s22 => some s22) else (o_bv (f_X7_repair N (5 : Int32) s15) fun s23 => some s23))) = x → f_X7_act N r = x := by
    intro x hx
    rw [← hx]
    unfold f_X7_act f_X7_isPart
    rw [h23, if_neg (by decide), if_neg (by decide), if_neg (by decide), bi_s, if_pos rfl, h23, if_neg (by decide), if_pos rfl]
  by_cases hv : (o_R c 7).getD (d - 1) 0 = -1
  · obtain ⟨c', r', b1, b2, b3, b4, b5, b6, b7, b8⟩ := p_report (N := N) h (by omega) 3 e11 e12
    refine ⟨c', r', ?_, hact _ ?_, br_bi b3 h1 (by rw [b6 14 (by decide)]; exact h14) (by rw [b7 22 (by decide)]; exact h22) (by omega) (by omega) (by rw [b8 4 (by decide)]; omega) (by omega), b4, b5⟩
    · unfold f_X0_takeColon; rw [t1, bi_s, do_e, t4, if_pos hv, b1, bv_s]
    · rw [u1, bi_s, ld_ (show d - 1 < 32 by omega) (by decide), u4, if_pos hv, b2, bv_s]
  · by_cases hd : d ≤ 30
    · refine ⟨o_setF c 14 1, o_setF r 22 1, ?_, hact _ ?_, ⟨n, kd, lv, dp, w, d, nd, k, 1, ⟨h.1.F _ _, h.2.1.cg rfl rfl rfl rfl (fun _ _ _ => rfl), h.2.2.1.cg rfl rfl rfl rfl rfl rfl rfl, h.2.2.2.cg rfl rfl rfl rfl⟩, h1, Or.inr ⟨rfl, by rw [sF_F, if_pos rfl], by rw [sF_F, if_pos rfl], hd, hv⟩, by omega, by omega, by show (o_R c 4).length ≤ _; omega, by omega⟩, ⟨rfl, rfl, fun f _ _ f14 => by rw [sF_F, if_neg f14], fun _ _ => rfl⟩, ⟨(RQ.rf r).F _ _, fun f _ _ _ f22 => by rw [sF_F, if_neg f22], fun _ _ => rfl⟩⟩
      · unfold f_X0_takeColon f_X0_isDeep; rw [t1, bi_s, do_e, t4, if_neg hv, t1, bi_s, if_llt 30 30 rfl (by omega) (by decide), if_pos (by omega), bi_s, if_pos rfl]; rfl
      · rw [u1, bi_s, ld_ (show d - 1 < 32 by omega) (by decide), u4, if_neg hv, f21, if_lle 30 30 rfl (by omega) (by decide), if_pos hd]; rfl
    · obtain ⟨c', r', b1, b2, b3, b4, b5, b6, b7, b8⟩ := p_report (N := N) h (by omega) 5 e11 e12
      refine ⟨c', r', ?_, hact _ ?_, br_bi b3 h1 (by rw [b6 14 (by decide)]; exact h14) (by rw [b7 22 (by decide)]; exact h22) (by omega) (by omega) (by rw [b8 4 (by decide)]; omega) (by omega), b4, b5⟩
      · unfold f_X0_takeColon f_X0_isDeep; rw [t1, bi_s, do_e, t4, if_neg hv, t1, bi_s, if_llt 30 30 rfl (by omega) (by decide), if_neg (by omega), bi_s, if_neg (by decide), b1, bv_s]
      · rw [u1, bi_s, ld_ (show d - 1 < 32 by omega) (by decide), u4, if_neg hv, f21, if_lle 30 30 rfl (by omega) (by decide), if_neg hd, b2, bv_s]
/-- a closing brace -/
def brd (cols : List Int32) : Nat → Nat
  | 0 => 0
  | t + 1 => if cols.getD (t + 1) 0 = -1 then t + 1 else brd cols t
theorem brd_le (cols : List Int32) : ∀ t, brd cols t ≤ t := by
  intro t
  induction t with
  | zero => exact Nat.le_refl _
  | succ t ih => rw [brd]; split <;> omega
theorem c_brd (h : SK bg c r n kd lv dp d nd) : ∀ t m, t < d → t < m → f_X0_closeBraces_L5 N m (nI t) c = f_X0_closeBraces_b27 N (nI (brd (o_R c 6) t)) c := by
  have l6 := h.2.2.2.1
  have d31 := h.2.1
  intro t
  induction t with
  | zero =>
    intro m ht hm
    obtain ⟨m, rfl⟩ : ∃ m', m = m' + 1 := ⟨m - 1, by omega⟩
    rw [f_X0_closeBraces_L5, if_lle 0 0 rfl (by omega) (by decide), if_pos (by omega)]; rfl
  | succ t ih =>
    intro m ht hm
    obtain ⟨m, rfl⟩ : ∃ m', m = m' + 1 := ⟨m - 1, by omega⟩
    rw [f_X0_closeBraces_L5, if_lle 0 0 rfl (by omega) (by decide), if_neg (by omega), do_e, at_in (by omega) (by omega), brd]
    by_cases q : (o_R c 6).getD (t + 1) 0 = -1
    · rw [if_pos q, if_pos q]
    · rw [if_neg q, if_neg q, ni_m1 (by omega), Nat.add_sub_cancel]; exact ih m (by omega) (by omega)
theorem r_brd (h : SK bg c r n kd lv dp d nd) : ∀ t m, t < d → t < m → f_X7_close_L5 N m (nI t) r = f_X7_close_b25 N (nI (brd (o_R c 6) t)) r := by
  have d31 := h.2.1
  intro t
  induction t with
  | zero =>
    intro m ht hm
    obtain ⟨m, rfl⟩ : ∃ m', m = m' + 1 := ⟨m - 1, by omega⟩
    rw [f_X7_close_L5, if_lle 0 0 rfl (by omega) (by decide), if_pos (by omega)]; rfl
  | succ t ih =>
    intro m ht hm
    obtain ⟨m, rfl⟩ : ∃ m', m = m' + 1 := ⟨m - 1, by omega⟩
    rw [f_X7_close_L5, if_lle 0 0 rfl (by omega) (by decide), if_neg (by omega), ld_ (show t + 1 < 32 by omega) (by decide), (h.2.2.2.2.2.2.2 (t + 1) ht).2.2.1 (Or.inr (by omega)), brd]
    by_cases q : (o_R c 6).getD (t + 1) 0 = -1
    · rw [if_pos q, if_pos q]
    · rw [if_neg q, if_neg q, ni_m1 (by omega), Nat.add_sub_cancel]; exact ih m (by omega) (by omega)
theorem p_brace (hN : 2000 ≤ N) (h : BR e bg c r T n kd lv dp w d nd k) (h1 : kd (n - 1) ≠ 1) (htd : TD T a z c r) (h14 : o_F c 14 = 0) (h22 : o_F r 22 = 0) (hn : n ≤ 2 * a + 1) (hkk : k ≤ 2 * a + 1) (h4 : (o_R c 4).length ≤ 9 * a) (hsm : smw n kd w ≤ a) : ∃ c' r', f_X0_closeBraces N c = some c' ∧ f_X7_close N r = some r' ∧ BI e bg T z c' r' ∧ CF c c' ∧ RF r r' := by
  obtain ⟨e1, e2, e3, e4, e5, e6, e7, e8, e9, e10, e11, e12, e13, e14, e15, e16, e17⟩ := id htd
  obtain ⟨t1, t2, t3, t4⟩ := top_5 (N := N) h.2.2.1
  obtain ⟨u1, u2, u3, u4, u5⟩ := top_7 (N := N) h.2.2.1
  have d1 := h.2.2.1.1
  have d31 := h.2.2.1.2.1
  have hc := c_brd (N := N) h.2.2.1 (d - 1) N (by omega) (by omega)
  have hr := r_brd (N := N) h.2.2.1 (d - 1) N (by omega) (by omega)
  have hle := brd_le (o_R c 6) (d - 1)
  by_cases q : brd (o_R c 6) (d - 1) = 0
  · obtain ⟨c', r', b1, b2, b3, b4, b5, b6, b7, b8⟩ := p_report (N := N) h (by omega) 4 e11 e12
    refine ⟨c', r', ?_, ?_, br_bi b3 h1 (by rw [b6 14 (by decide)]; exact h14) (by rw [b7 22 (by decide)]; exact h22) (by omega) (by omega) (by rw [b8 4 (by decide)]; omega) (by omega), b4, b5⟩
    · unfold f_X0_closeBraces; rw [t1, bi_s, hc]; unfold f_X0_closeBraces_b27
      rw [if_lle 0 0 rfl (by omega) (by decide), if_pos (by omega), b1, bv_s]
    · unfold f_X7_close; rw [u1, bi_s, hr]; unfold f_X7_close_b25
      rw [if_lit 0 0 rfl (by omega) (by decide), if_pos q, b2, bv_s]
  · obtain ⟨c', b1, b2, b3, b4, b5, b6, b7, b8⟩ := p_close (N := N) (d' := brd (o_R c 6) (d - 1)) h (by omega) (by omega)
    refine ⟨c', _, ?_, ?_, br_bi b2 h1 (by rw [b5]; exact h14) (by rw [sF_F, if_neg (by decide)]; exact h22) (by omega) (by omega) (by rw [b6]; omega) (by omega), b3, b4⟩
    · unfold f_X0_closeBraces; rw [t1, bi_s, hc]; unfold f_X0_closeBraces_b27
      rw [if_lle 0 0 rfl (by omega) (by decide), if_neg (by omega), b1, bv_s]
    · unfold f_X7_close; rw [u1, bi_s, hr]; unfold f_X7_close_b25
      rw [if_lit 0 0 rfl (by omega) (by decide), if_neg q]; rfl
/-- what a token does -/
theorem p_act (hN : 2000 ≤ N) (h : BR e bg c r T n kd lv dp w d nd k) (h1 : kd (n - 1) ≠ 1) (hk0 : kd (nd (d - 1)) = 0) (htd : TD T a z c r) (h14 : o_F c 14 = 0) (h22 : o_F r 22 = 0) (hn : n ≤ 2 * a + 1) (hkk : k ≤ 2 * a + 1) (h4 : (o_R c 4).length ≤ 9 * a) (hsm : smw n kd w ≤ a) : ∃ c' r', f_X0_placeInBlock N c = some c' ∧ f_X7_act N r = some r' ∧ BI e bg T z c' r' ∧ CF c c' ∧ RF r r' := by
  obtain ⟨e1, e2, e3, e4, e5, e6, e7, e8, e9, e10, e11, e12, e13, e14, e15, e16, e17⟩ := id htd
  obtain ⟨t1, t2, t3, t4⟩ := top_5 (N := N) h.2.2.1
  obtain ⟨u1, u2, u3, u4, u5⟩ := top_7 (N := N) h.2.2.1
  have d1 := h.2.2.1.1
  have d31 := h.2.2.1.2.1
  have f21 := h.2.2.1.2.2.2.2.2.1
  have rep : ∀ v : Int32, ∃ c' r', f_X0_report N v c = some c' ∧ f_X7_repair N v r = some r' ∧ BI e bg T z c' r' ∧ CF c c' ∧ RF r r' := by
    intro v
    obtain ⟨c', r', b1, b2, b3, b4, b5, b6, b7, b8⟩ := p_report (N := N) h (by omega) v e11 e12
    exact ⟨c', r', b1, b2, br_bi b3 h1 (by rw [b6 14 (by decide)]; exact h14) (by rw [b7 22 (by decide)]; exact h22) (by omega) (by omega) (by rw [b8 4 (by decide)]; omega) (by omega), b4, b5⟩
  rcases e17 with h8 | h8 | h8 | h8 | h8 | h8 | h8 | h8 <;> (have h23 := e10; rw [h8] at h23)
  · -- a word
    obtain ⟨c1, r1, n1, kd1, lv1, dp1, w1, i, a1, a2, a3, a4, a5, a6, a7, a8, a9, a10, a11, a12, a13, a14, a15⟩ := p_tgt (N := N) hN h h1 (by omega) hk0 e11 e12
    obtain ⟨c', r', b1, b2, b3, b4, b5, b6, b7⟩ := p_word (N := N) (a := a) (z := z) (n0 := n + 2) (f10 := o_F c 10) (f11 := o_F c 11) hN a3 (by omega) a4 (by rw [a8.2.2.2 0 (Or.inl rfl)]; exact e1) e2 e4 e5 (by rw [a12]; exact h4) (by omega) (by rw [a10 9 (by decide)]; exact e6) (by rw [a10 2 (by decide)]; exact e7) (by rw [a11 24 (by decide)]; exact e8) (by rw [a11 25 (by decide)]; exact e9) (by rw [a11 23 (by decide)]; exact h23) (by rw [a11 26 (by decide)]; exact e11) (by rw [a11 27 (by decide)]; exact e12) (by omega)
    refine ⟨c', r', ?_, ?_, bx_bi b3 (by omega) (by omega) (by rw [b6 14 (by decide), a10 14 (by decide)]; exact h14) (by rw [b7 22 (by decide), a11 22 (by decide)]; exact h22), a8.tr b4, a9.tr b5⟩
    · unfold f_X0_placeInBlock f_X0_addWord
      rw [h8, if_pos rfl, a1, b1, bv_s]
    · unfold f_X7_act f_X7_isPart f_X7_addToItem
      rw [h23, if_pos rfl, bi_s, if_neg (by decide), h23, if_neg (by decide), a2, b2, bv_s, bv_s]
  · -- a number
    obtain ⟨c1, r1, n1, kd1, lv1, dp1, w1, i, a1, a2, a3, a4, a5, a6, a7, a8, a9, a10, a11, a12, a13, a14, a15⟩ := p_tgt (N := N) hN h h1 (by omega) hk0 e11 e12
    obtain ⟨v, v1, v2, v3⟩ := nm_L (N := N) (c := c) (r := r1) (b := z) e1 e2 (fun j hj => by rw [a9.2.2 0 (Or.inl rfl)]; exact e3 j hj) e5 e7 (by rw [a11 25 (by decide)]; exact e9) (nI i) (z - a) a N N 0 (by omega) (by omega) (by omega) (by decide) (e16 h8)
    obtain ⟨c', r', b1, b2, b3, b4, b5, b6, b7⟩ := p_num (N := N) (a := a) (z := z) (n0 := n + 2) (v := v) (f10 := o_F c 10) (f11 := o_F c 11) hN a3 (by omega) a4 v1 e4 (by rw [a12]; exact h4) (by omega) (by rw [a11 26 (by decide)]; exact e11) (by rw [a11 27 (by decide)]; exact e12) (by omega)
    refine ⟨c', r', ?_, ?_, bx_bi b3 (by omega) (by omega) (by rw [b6 14 (by decide), a10 14 (by decide)]; exact h14) (by rw [b7 22 (by decide), a11 22 (by decide)]; exact h22), a8.tr b4, a9.tr b5⟩
    · unfold f_X0_placeInBlock f_X1_numberRead
      rw [h8, if_neg (by decide), if_pos rfl, e6, show (0 : Int64) = Int64.ofNat 0 from rfl, v2, bi_s, a1, b1, bi_s]
    · unfold f_X7_act f_X7_isPart f_X7_addToItem
      rw [h23, if_neg (by decide), if_pos rfl, bi_s, if_neg (by decide), h23, if_neg (by decide), a2]
      unfold f_X7_addPart
      rw [a11 23 (by decide), h23, if_neg (by decide), if_neg (by decide), a11 24 (by decide), e8, show (0 : Int64) = Int64.ofNat 0 from rfl, v3, b2, bi_s, bv_s, bv_s]
  · -- an opening parenthesis
    by_cases hd : d ≤ 30
    · obtain ⟨c1, r1, n1, kd1, lv1, dp1, w1, i, a1, a2, a3, a4, a5, a6, a7, a8, a9, a10, a11, a12, a13, a14, a15⟩ := p_tgt (N := N) hN h h1 (by omega) hk0 e11 e12
      obtain ⟨c2, r2, c', r', b1, b2, b3, b4, b5, b6, ⟨kd', lv', dp', w', b7, b8, b9⟩, b10, b11, b12, b13, b14, b15, b16⟩ := p_open (N := N) (q := 4) (a := a) (z := z) (n0 := n + 2) (v := 0) (cl := -1) (f10 := o_F c 10) (f11 := o_F c 11) hN a3 (by omega) a4 (Or.inl rfl) hd e4 (by rw [a12]; exact h4) (by omega) (by rw [a11 26 (by decide)]; exact e11) (by rw [a11 27 (by decide)]; exact e12) (by omega)
      refine ⟨c', r', ?_, ?_, br_bi b7 (by rw [Nat.add_sub_cancel, b8]; decide) (by rw [b12 14 (by decide), a10 14 (by decide)]; exact h14) (by rw [b13 22 (by decide) (by decide), a11 22 (by decide)]; exact h22) (by omega) (by omega) (by rw [b14, a12]; omega) (by omega), a8.tr b10, a9.tr b11⟩
      · unfold f_X0_placeInBlock f_X0_openGroup f_X0_isDeep
        rw [h8, if_neg (by decide), if_neg (by decide), if_pos rfl, t1, bi_s, if_llt 30 30 rfl (by omega) (by decide), if_pos (by omega), bi_s, if_pos rfl, a1, show (4 : Int32) = nI 4 from rfl, b1, bi_s, b5, bv_s, bv_s]
      · unfold f_X7_act f_X7_isPart f_X7_addToItem
        rw [h23, if_neg (by decide), if_neg (by decide), if_pos rfl, bi_s, if_neg (by decide), h23, if_pos rfl, f21, if_lle 30 30 rfl (by omega) (by decide), if_pos hd, a2]
        unfold f_X7_addPart
        rw [a11 23 (by decide), h23, if_pos rfl, a11 21 (by decide), f21, if_lle 30 30 rfl (by omega) (by decide), if_pos hd, show (4 : Int32) = nI 4 from rfl, b2, bi_s, b6, bv_s, bv_s, bv_s]
    · obtain ⟨c', r', b1, b2, b3, b4, b5⟩ := rep 5
      refine ⟨c', r', ?_, ?_, b3, b4, b5⟩
      · unfold f_X0_placeInBlock f_X0_openGroup f_X0_isDeep
        rw [h8, if_neg (by decide), if_neg (by decide), if_pos rfl, t1, bi_s, if_llt 30 30 rfl (by omega) (by decide), if_neg (by omega), bi_s, if_neg (by decide), b1, bv_s, bv_s]
      · unfold f_X7_act f_X7_isPart f_X7_addToItem
        rw [h23, if_neg (by decide), if_neg (by decide), if_pos rfl, bi_s, if_neg (by decide), h23, if_pos rfl, f21, if_lle 30 30 rfl (by omega) (by decide), if_neg hd, b2, bv_s, bv_s]
  · -- a closing parenthesis
    obtain ⟨c', r', b1, b2, b3, b4, b5⟩ := rep 4
    refine ⟨c', r', ?_, ?_, b3, b4, b5⟩
    · unfold f_X0_placeInBlock
      rw [h8, if_neg (by decide), if_neg (by decide), if_neg (by decide), if_neg (by decide), if_neg (by decide), if_neg (by decide), if_neg (by decide), b1, bv_s]
    · unfold f_X7_act f_X7_isPart
      rw [h23, if_neg (by decide), if_neg (by decide), if_neg (by decide), bi_s, if_pos rfl, h23, if_neg (by decide), if_neg (by decide), if_neg (by decide), if_pos rfl, b2, bv_s]
  · -- a colon
    obtain ⟨c', r', b1, b2, b3, b4, b5⟩ := p_colon (N := N) h h1 htd h14 h22 hn hkk h4 hsm h8
    refine ⟨c', r', ?_, b2, b3, b4, b5⟩
    unfold f_X0_placeInBlock
    rw [h8, if_neg (by decide), if_neg (by decide), if_neg (by decide), if_pos rfl, b1, bv_s]
  · -- a semicolon
    obtain ⟨c', b1, b2, b3, b4, b5, b6, b7⟩ := p_item (v := -1) h (Or.inl rfl)
    refine ⟨c', _, ?_, ?_, br_bi b2 h1 (by rw [b5]; exact h14) h22 (by omega) (by omega) (by rw [b6 4 (by decide)]; omega) (by omega), b3, b4⟩
    · unfold f_X0_placeInBlock f_X0_endItem
      rw [h8, if_neg (by decide), if_neg (by decide), if_neg (by decide), if_neg (by decide), if_pos rfl, t1, bi_s, do_e, b1, bv_s]
    · unfold f_X7_act f_X7_isPart
      rw [h23, if_neg (by decide), if_neg (by decide), if_neg (by decide), bi_s, if_pos rfl, h23, if_pos rfl, u1, bi_s, st_ (show d - 1 < 32 by omega) (by decide)]
  · -- an opening brace
    obtain ⟨c', r', b1, b2, b3, b4, b5⟩ := rep 3
    refine ⟨c', r', ?_, ?_, b3, b4, b5⟩
    · unfold f_X0_placeInBlock
      rw [h8, if_neg (by decide), if_neg (by decide), if_neg (by decide), if_neg (by decide), if_neg (by decide), if_pos rfl, b1, bv_s]
    · unfold f_X7_act f_X7_isPart
      rw [h23, if_neg (by decide), if_neg (by decide), if_neg (by decide), bi_s, if_pos rfl, h23, if_neg (by decide), if_neg (by decide), if_pos rfl, b2, bv_s]
  · -- a closing brace
    obtain ⟨c', r', b1, b2, b3, b4, b5⟩ := p_brace (N := N) hN h h1 htd h14 h22 hn hkk h4 hsm
    refine ⟨c', r', ?_, ?_, b3, b4, b5⟩
    · unfold f_X0_placeInBlock
      rw [h8, if_neg (by decide), if_neg (by decide), if_neg (by decide), if_neg (by decide), if_neg (by decide), if_neg (by decide), if_pos rfl, b1, bv_s]
    · unfold f_X7_act f_X7_isPart
      rw [h23, if_neg (by decide), if_neg (by decide), if_neg (by decide), bi_s, if_pos rfl, h23, if_neg (by decide), if_neg (by decide), if_neg (by decide), if_neg (by decide), b2, bv_s]
end
