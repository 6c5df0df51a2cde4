/-! THE LINKS AFTER A TREE IS PUT INTO A TREE -/
theorem in_lk {s t : o_S} {n b p m : Nat} {lv mu ids jd : Nat → Nat} (h : LK n lv ids s) (hin : IN n lv b p m mu) (hj1 : ∀ x, x < m → jd x < 1500) (hj2 : ∀ x y, x < m → y < m → jd x = jd y → x = y) (hj3 : ∀ i x, i < n → x < m → ids i ≠ jd x)
    (hB2 : ∀ x, 0 < x → x < m → o_A t 2 (jd x) = nI (jd (p_par mu (mu x) x))) (hB3 : ∀ x, x < m → o_A t 3 (jd x) = if x + 1 < m ∧ mu x < mu (x + 1) then nI (jd (x + 1)) else -1) (hB4 : ∀ x, 0 < x → x < m → o_A t 4 (jd x) = if aft mu m x < m ∧ mu (aft mu m x) = mu x then nI (jd (aft mu m x)) else -1)
    (hR2 : o_A t 2 (jd 0) = nI (ids b)) (hR4 : o_A t 4 (jd 0) = if p < n ∧ lv p = lv b + 1 then nI (ids p) else -1) (h2 : ∀ i, i < n → o_A t 2 (ids i) = o_A s 2 (ids i)) (h3 : ∀ i, i < n → o_A t 3 (ids i) = if i = b ∧ p = b + 1 then nI (jd 0) else o_A s 3 (ids i)) (h4 : ∀ i, i < n → o_A t 4 (ids i) = if lv i = lv b + 1 ∧ aft lv n i = p then nI (jd 0) else o_A s 4 (ids i)) : LK (n + m) (il p m lv mu) (il p m ids jd) t := by
  have pn := hin.pn
  have lp := hin.lp
  have hmu := @IN.hmu _ _ _ _ _ _ hin
  have mid := @IN.mid _ _ _ _ _ _ hin
  have par := @in_par _ _ _ _ _ _ hin
  have haft := @in_aft _ _ _ _ _ _ hin
  obtain ⟨hW, i1, i2, i3, i4, i5, i6, i7, i8, i9⟩ := hin
  obtain ⟨k1, k2, k3, k4, k5⟩ := h
  refine ⟨fun k hk => ?_, fun k j hk hj e => ?_, fun k hk => ?_, fun k hk => ?_, fun k hk => ?_⟩
  · unfold il; split
    · exact k1 k (by omega)
    · split
      · exact hj1 _ (by omega)
      · exact k1 _ (by omega)
  · have z : ∀ k, k < n + m → (k < p ∧ il p m ids jd k = ids k) ∨ (p ≤ k ∧ k < p + m ∧ il p m ids jd k = jd (k - p)) ∨ (p + m ≤ k ∧ il p m ids jd k = ids (k - m)) := by
      intro k hk
      by_cases q1 : k < p
      · exact Or.inl ⟨q1, il_1 q1⟩
      · by_cases q2 : k < p + m
        · exact Or.inr (Or.inl ⟨by omega, q2, il_2 (by omega) q2⟩)
        · exact Or.inr (Or.inr ⟨by omega, il_3 (by omega)⟩)
    rcases z k hk with ⟨a1, a2⟩ | ⟨a1, a3, a2⟩ | ⟨a1, a2⟩ <;> rcases z j hj with ⟨c1, c2⟩ | ⟨c1, c3, c2⟩ | ⟨c1, c2⟩ <;> rw [a2, c2] at e
    · exact k2 k j (by omega) (by omega) e
    · exact absurd e (hj3 _ _ (by omega) (by omega))
    · have := k2 _ _ (by omega) (by omega) e; omega
    · exact absurd e.symm (hj3 _ _ (by omega) (by omega))
    · have := hj2 _ _ (by omega) (by omega) e; omega
    · exact absurd e.symm (hj3 _ _ (by omega) (by omega))
    · have := k2 _ _ (by omega) (by omega) e; omega
    · exact absurd e (hj3 _ _ (by omega) (by omega))
    · have := k2 _ _ (by omega) (by omega) e; omega
  · rcases Nat.eq_zero_or_pos k with z | z
    · subst z; rw [il_1 (by omega), h2 0 (by omega), k3 0 (by omega), if_pos rfl, if_pos rfl]
    · rw [if_neg (by omega), par z hk]
      by_cases q1 : k < p
      · obtain ⟨p1, -, -⟩ := hW.par z (show k < n by omega)
        rw [if_pos q1, il_1 q1, il_1 (by omega), h2 k (by omega), k3 k (by omega), if_neg (by omega)]
      · rw [if_neg q1]
        by_cases q2 : k = p
        · rw [if_pos q2, il_2 (by omega) (by omega), il_1 i2, show k - p = 0 by omega, hR2]
        · rw [if_neg q2]
          by_cases q3 : k < p + m
          · have hg := i8 (k - p) (by omega) (by omega)
            obtain ⟨p1, -, -⟩ := p_par_spec mu (mu (k - p)) (by rw [i7]; exact hg) (k - p) (by omega)
            rw [if_pos q3, il_2 (by omega) q3, il_2 (by omega) (by omega), hB2 _ (by omega) (by omega), show p + p_par mu (mu (k - p)) (k - p) - p = p_par mu (mu (k - p)) (k - p) by omega]
          · obtain ⟨p1, -, -⟩ := hW.par (show 0 < k - m by omega) (show k - m < n by omega)
            rw [if_neg q3, il_3 (by omega), h2 _ (by omega), k3 _ (by omega), if_neg (by omega)]
            split
            · rw [il_1 (by omega)]
            · rw [il_3 (by omega), show p_par lv (lv (k - m)) (k - m) + m - m = p_par lv (lv (k - m)) (k - m) by omega]
  · by_cases q1 : k + 1 < p
    · rw [il_1 (show k < p by omega), h3 k (by omega), if_neg (by omega), k4 k (by omega), il_1 (show k < p by omega), il_1 q1, il_1 q1]
      by_cases y : lv k < lv (k + 1)
      · rw [if_pos ⟨by omega, y⟩, if_pos ⟨by omega, y⟩]
      · rw [if_neg (fun z => y z.2), if_neg (fun z => y z.2)]
    · by_cases q2 : k + 1 = p
      · rw [il_1 (show k < p by omega), h3 k (by omega), il_1 (show k < p by omega), il_2 (show p ≤ k + 1 by omega) (by omega), il_2 (show p ≤ k + 1 by omega) (by omega), show k + 1 - p = 0 by omega, i7]
        by_cases y : k = b
        · rw [if_pos ⟨y, by omega⟩, if_pos ⟨by omega, by rw [y]; omega⟩]
        · have l1 := mid (show b < k by omega) (by omega)
          rw [if_neg (fun z => y z.1), k4 k (by omega), q2, if_neg (fun z => by have := lp z.1; omega), if_neg (fun z => by omega)]
      · by_cases q3 : k + 1 < p + m
        · rw [il_2 (show p ≤ k by omega) (by omega), hB3 _ (by omega), il_2 (show p ≤ k by omega) (by omega), il_2 (show p ≤ k + 1 by omega) q3, il_2 (show p ≤ k + 1 by omega) q3, show k + 1 - p = k - p + 1 by omega]
          by_cases y : mu (k - p) < mu (k - p + 1)
          · rw [if_pos ⟨by omega, y⟩, if_pos ⟨by omega, y⟩]
          · rw [if_neg (fun z => y z.2), if_neg (fun z => y z.2)]
        · by_cases q4 : k + 1 = p + m
          · have l1 := hmu (show k - p < m by omega)
            rw [il_2 (show p ≤ k by omega) (by omega), hB3 _ (by omega), if_neg (by omega), il_2 (show p ≤ k by omega) (by omega), il_3 (show p + m ≤ k + 1 by omega), show k + 1 - m = p by omega, if_neg (fun z => by have := lp (by omega); omega)]
          · rw [il_3 (show p + m ≤ k by omega), h3 _ (by omega), if_neg (by omega), k4 _ (by omega), il_3 (show p + m ≤ k by omega), il_3 (show p + m ≤ k + 1 by omega), il_3 (show p + m ≤ k + 1 by omega), show k + 1 - m = k - m + 1 by omega]
            by_cases y : k - m + 1 < n ∧ lv (k - m) < lv (k - m + 1)
            · rw [if_pos y, if_pos ⟨by omega, y.2⟩]
            · rw [if_neg y, if_neg (fun z => y ⟨by omega, z.2⟩)]
  · rw [haft hk]
    by_cases q1 : k < p
    · obtain ⟨a1, a2, -, -⟩ := aft_spec (lv := lv) (show k < n by omega)
      rw [if_pos q1, il_1 q1, il_1 q1, h4 k (by omega), k5 k (by omega)]
      by_cases y1 : aft lv n k < p
      · rw [if_pos y1, if_neg (fun z => by omega), il_1 y1, il_1 y1]
        by_cases y2 : lv (aft lv n k) = lv k
        · rw [if_pos ⟨by omega, y2⟩, if_pos ⟨by omega, y2⟩]
        · rw [if_neg (fun z => y2 z.2), if_neg (fun z => y2 z.2)]
      · rw [if_neg y1]
        by_cases y2 : aft lv n k = p
        · rw [if_pos y2, y2]
          by_cases y3 : lv b + 1 ≤ lv k
          · rw [if_pos y3, il_2 (Nat.le_refl p) (by omega), il_2 (Nat.le_refl p) (by omega), Nat.sub_self, i7]
            by_cases y4 : lv k = lv b + 1
            · rw [if_pos ⟨y4, rfl⟩, if_pos ⟨by omega, y4.symm⟩]
            · rw [if_neg (fun z => y4 z.1), if_neg (fun z => by have := lp z.1; omega), if_neg (fun z => y4 z.2.symm)]
          · rw [if_neg y3, if_neg (fun z => by omega), il_3 (Nat.le_refl _), il_3 (Nat.le_refl _), show p + m - m = p by omega]
            by_cases y4 : p < n ∧ lv p = lv k
            · rw [if_pos y4, if_pos ⟨by omega, y4.2⟩]
            · rw [if_neg y4, if_neg (fun z => y4 ⟨by omega, z.2⟩)]
        · rw [if_neg y2, if_neg (fun z => y2 z.2), il_3 (show p + m ≤ aft lv n k + m by omega), il_3 (show p + m ≤ aft lv n k + m by omega), show aft lv n k + m - m = aft lv n k by omega]
          by_cases y4 : aft lv n k < n ∧ lv (aft lv n k) = lv k
          · rw [if_pos y4, if_pos ⟨by omega, y4.2⟩]
          · rw [if_neg y4, if_neg (fun z => y4 ⟨by omega, z.2⟩)]
    · rw [if_neg q1]
      by_cases q2 : k = p
      · rw [if_pos q2, il_2 (show p ≤ k by omega) (by omega), il_2 (show p ≤ k by omega) (by omega), show k - p = 0 by omega, hR4, i7, il_3 (Nat.le_refl _), il_3 (Nat.le_refl _), show p + m - m = p by omega]
        by_cases y4 : p < n ∧ lv p = lv b + 1
        · rw [if_pos y4, if_pos ⟨by omega, y4.2⟩]
        · rw [if_neg y4, if_neg (fun z => y4 ⟨by omega, z.2⟩)]
      · rw [if_neg q2]
        by_cases q3 : k < p + m
        · have hg := i8 (k - p) (by omega) (by omega)
          obtain ⟨a1, a2, -, -⟩ := aft_spec (lv := mu) (show k - p < m by omega)
          rw [if_pos q3, il_2 (show p ≤ k by omega) q3, il_2 (show p ≤ k by omega) q3, hB4 _ (by omega) (by omega)]
          by_cases y1 : aft mu m (k - p) < m
          · rw [il_2 (show p ≤ p + aft mu m (k - p) by omega) (by omega), il_2 (show p ≤ p + aft mu m (k - p) by omega) (by omega), show p + aft mu m (k - p) - p = aft mu m (k - p) by omega]
            by_cases y2 : mu (aft mu m (k - p)) = mu (k - p)
            · rw [if_pos ⟨y1, y2⟩, if_pos ⟨by omega, y2⟩]
            · rw [if_neg (fun z => y2 z.2), if_neg (fun z => y2 z.2)]
          · rw [if_neg (fun z => y1 z.1), il_3 (show p + m ≤ p + aft mu m (k - p) by omega), show p + aft mu m (k - p) - m = p by omega, if_neg (fun z => by have := lp (by omega); omega)]
        · obtain ⟨a1, a2, -, -⟩ := aft_spec (lv := lv) (show k - m < n by omega)
          rw [if_neg q3, il_3 (show p + m ≤ k by omega), il_3 (show p + m ≤ k by omega), h4 _ (by omega), if_neg (fun z => by omega), k5 _ (by omega), il_3 (show p + m ≤ aft lv n (k - m) + m by omega), il_3 (show p + m ≤ aft lv n (k - m) + m by omega), show aft lv n (k - m) + m - m = aft lv n (k - m) by omega]
          by_cases y4 : aft lv n (k - m) < n ∧ lv (aft lv n (k - m)) = lv (k - m)
          · rw [if_pos y4, if_pos ⟨by omega, y4.2⟩]
          · rw [if_neg y4, if_neg (fun z => y4 ⟨by omega, z.2⟩)]
