/-! A TREE IS PUT INTO A TREE: m nodes before the p-th, in the node b -/
def il {α : Type} (p m : Nat) (f g : Nat → α) (k : Nat) : α := if k < p then f k else if k < p + m then g (k - p) else f (k - m)
theorem il_1 {α : Type} {p m : Nat} {f g : Nat → α} {k : Nat} (h : k < p) : il p m f g k = f k := if_pos h
theorem il_2 {α : Type} {p m : Nat} {f g : Nat → α} {k : Nat} (h : p ≤ k) (h2 : k < p + m) : il p m f g k = g (k - p) := by unfold il; rw [if_neg (by omega), if_pos h2]
theorem il_3 {α : Type} {p m : Nat} {f g : Nat → α} {k : Nat} (h : p + m ≤ k) : il p m f g k = f (k - m) := by unfold il; rw [if_neg (by omega), if_neg (by omega)]
def IN (n : Nat) (lv : Nat → Nat) (b p m : Nat) (mu : Nat → Nat) : Prop := WL n lv ∧ b < n ∧ b < p ∧ p ≤ aft lv n b ∧ (p < aft lv n b → lv p = lv b + 1) ∧ 0 < m ∧ n + m ≤ 1300 ∧ mu 0 = lv b + 1 ∧ (∀ x, 0 < x → x < m → lv b + 1 < mu x) ∧ (∀ x, x + 1 < m → mu (x + 1) ≤ mu x + 1)
section
variable {n b p m : Nat} {lv mu : Nat → Nat}
theorem IN.pn (h : IN n lv b p m mu) : p ≤ n := by have := (aft_spec (lv := lv) h.2.1).2.1; have := h.2.2.2.1; omega
theorem IN.lp (h : IN n lv b p m mu) (hp : p < n) : lv p ≤ lv b + 1 := by
  have a := aft_spec (lv := lv) h.2.1
  rcases Nat.lt_or_ge p (aft lv n b) with z | z
  · rw [h.2.2.2.2.1 z]; exact Nat.le_refl _
  · have e : p = aft lv n b := Nat.le_antisymm h.2.2.2.1 z
    rw [e] at hp
    have := a.2.2.2 hp
    rw [e]; omega
theorem IN.mid (h : IN n lv b p m mu) {x : Nat} (h1 : b < x) (h2 : x < p) : lv b + 1 ≤ lv x := by
  have := (aft_spec (lv := lv) h.2.1).2.2.1 x h1 (by have := h.2.2.2.1; omega)
  omega
theorem IN.hmu (h : IN n lv b p m mu) {x : Nat} (hx : x < m) : lv b + 1 ≤ mu x := by
  rcases Nat.eq_zero_or_pos x with z | z
  · rw [z, h.2.2.2.2.2.2.2.1]; exact Nat.le_refl _
  · exact Nat.le_of_lt (h.2.2.2.2.2.2.2.2.1 x z hx)
theorem in_wl (h : IN n lv b p m mu) : WL (n + m) (il p m lv mu) := by
  have pn := h.pn
  have lp := h.lp
  have hmu := @IN.hmu _ _ _ _ _ _ h
  have mid := @IN.mid _ _ _ _ _ _ h
  obtain ⟨hW, i1, i2, i3, i4, i5, i6, i7, i8, i9⟩ := h
  obtain ⟨w1, w2, w3, w4⟩ := id hW
  refine ⟨by omega, i6, by rw [il_1 (by omega)]; exact w3, fun k hk => ?_⟩
  by_cases q1 : k + 1 < p
  · rw [il_1 q1, il_1 (by omega)]; exact w4 k (by omega)
  · by_cases q2 : k + 1 = p
    · rw [il_2 (by omega) (by omega), il_1 (by omega), show k + 1 - p = 0 by omega, i7]
      refine ⟨by omega, ?_⟩
      rcases Nat.eq_or_lt_of_le (show b ≤ k by omega) with z | z
      · rw [z]; exact Nat.le_refl _
      · have := mid z (by omega); omega
    · by_cases q3 : k + 1 < p + m
      · rw [il_2 (by omega) q3, il_2 (by omega) (by omega), show k + 1 - p = k - p + 1 by omega]
        exact ⟨by have := hmu (show k - p + 1 < m by omega); omega, i9 _ (by omega)⟩
      · by_cases q4 : k + 1 = p + m
        · rw [il_3 (by omega), il_2 (by omega) (by omega), show k + 1 - m = p by omega]
          have := hmu (show k - p < m by omega)
          have := lp (by omega)
          exact ⟨hW.pos (by omega) (by omega), by omega⟩
        · rw [il_3 (by omega), il_3 (by omega), show k + 1 - m = k - m + 1 by omega]; exact w4 _ (by omega)
theorem in_par (h : IN n lv b p m mu) {k : Nat} (k0 : 0 < k) (hk : k < n + m) : p_par (il p m lv mu) (il p m lv mu k) k = if k < p then p_par lv (lv k) k else if k = p then b else if k < p + m then p + p_par mu (mu (k - p)) (k - p) else if p_par lv (lv (k - m)) (k - m) < p then p_par lv (lv (k - m)) (k - m) else p_par lv (lv (k - m)) (k - m) + m := by
  have pn := h.pn
  have lp := h.lp
  have hmu := @IN.hmu _ _ _ _ _ _ h
  have mid := @IN.mid _ _ _ _ _ _ h
  have hWl := in_wl h
  obtain ⟨hW, i1, i2, i3, i4, i5, i6, i7, i8, i9⟩ := h
  have z0 : il p m lv mu 0 < il p m lv mu k := by rw [hWl.2.2.1]; exact hWl.pos k0 hk
  by_cases q1 : k < p
  · rw [if_pos q1]
    obtain ⟨p1, p2, p3⟩ := hW.par k0 (show k < n by omega)
    refine pp_uniq z0 p1 ?_ ?_
    · rw [il_1 (by omega), il_1 q1]; omega
    · intro x x1 x2; rw [il_1 q1, il_1 (by omega)]; exact p3 x x1 x2
  · rw [if_neg q1]
    by_cases q2 : k = p
    · rw [if_pos q2]
      have ek : il p m lv mu k = lv b + 1 := by rw [il_2 (by omega) (by omega), show k - p = 0 by omega, i7]
      refine pp_uniq z0 (by omega) ?_ ?_
      · rw [ek, il_1 (by omega)]; omega
      · intro x x1 x2; rw [ek, il_1 (by omega)]; exact mid x1 (by omega)
    · rw [if_neg q2]
      by_cases q3 : k < p + m
      · rw [if_pos q3]
        have ek : il p m lv mu k = mu (k - p) := il_2 (by omega) q3
        have hg := i8 (k - p) (by omega) (by omega)
        obtain ⟨p1, p2, p3⟩ := p_par_spec mu (mu (k - p)) (by rw [i7]; exact hg) (k - p) (by omega)
        refine pp_uniq z0 (by omega) ?_ ?_
        · rw [ek, il_2 (by omega) (by omega), show p + p_par mu (mu (k - p)) (k - p) - p = p_par mu (mu (k - p)) (k - p) by omega]; exact p2
        · intro x x1 x2; rw [ek, il_2 (by omega) (by omega)]; exact p3 _ (by omega) (by omega)
      · rw [if_neg q3]
        have ek : il p m lv mu k = lv (k - m) := il_3 (by omega)
        obtain ⟨p1, p2, p3⟩ := hW.par (show 0 < k - m by omega) (show k - m < n by omega)
        by_cases q4 : p_par lv (lv (k - m)) (k - m) < p
        · rw [if_pos q4]
          have hle : lv (k - m) ≤ lv b + 1 := by
            have l1 := lp (by omega)
            rcases Nat.eq_or_lt_of_le (show p ≤ k - m by omega) with z | z
            · rw [← z]; exact l1
            · have := p3 p q4 z; omega
          refine pp_uniq z0 (by omega) ?_ ?_
          · rw [ek, il_1 q4]; omega
          · intro x x1 x2
            rw [ek]
            by_cases y1 : x < p
            · rw [il_1 y1]; exact p3 x x1 (by omega)
            · by_cases y2 : x < p + m
              · rw [il_2 (by omega) y2]; have := hmu (show x - p < m by omega); omega
              · rw [il_3 (by omega)]; exact p3 _ (by omega) (by omega)
        · rw [if_neg q4]
          refine pp_uniq z0 (by omega) ?_ ?_
          · rw [ek, il_3 (by omega), show p_par lv (lv (k - m)) (k - m) + m - m = p_par lv (lv (k - m)) (k - m) by omega]; omega
          · intro x x1 x2; rw [ek, il_3 (by omega)]; exact p3 _ (by omega) (by omega)
theorem in_aft (h : IN n lv b p m mu) {k : Nat} (hk : k < n + m) : aft (il p m lv mu) (n + m) k = if k < p then (if aft lv n k < p then aft lv n k else if aft lv n k = p then (if lv b + 1 ≤ lv k then p else p + m) else aft lv n k + m) else if k = p then p + m else if k < p + m then p + aft mu m (k - p) else aft lv n (k - m) + m := by
  have pn := h.pn
  have lp := h.lp
  have hmu := @IN.hmu _ _ _ _ _ _ h
  obtain ⟨hW, i1, i2, i3, i4, i5, i6, i7, i8, i9⟩ := h
  by_cases q1 : k < p
  · rw [if_pos q1]
    have ek : il p m lv mu k = lv k := il_1 q1
    obtain ⟨a1, a2, a3, a4⟩ := aft_spec (lv := lv) (show k < n by omega)
    by_cases q2 : aft lv n k < p
    · rw [if_pos q2]
      refine aft_uniq hk a1 (by omega) ?_ ?_
      · intro x x1 x2; rw [ek, il_1 (by omega)]; exact a3 x x1 x2
      · intro _; rw [ek, il_1 q2]; exact a4 (by omega)
    · rw [if_neg q2]
      by_cases q3 : aft lv n k = p
      · rw [if_pos q3]
        by_cases q4 : lv b + 1 ≤ lv k
        · rw [if_pos q4]
          refine aft_uniq hk (by omega) (by omega) ?_ ?_
          · intro x x1 x2; rw [ek, il_1 x2]; exact a3 x x1 (by omega)
          · intro _; rw [ek, il_2 (by omega) (by omega), Nat.sub_self, i7]; exact q4
        · rw [if_neg q4]
          refine aft_uniq hk (by omega) (by omega) ?_ ?_
          · intro x x1 x2
            rw [ek]
            by_cases y : x < p
            · rw [il_1 y]; exact a3 x x1 (by omega)
            · rw [il_2 (by omega) x2]; have := hmu (show x - p < m by omega); omega
          · intro z; rw [ek, il_3 (by omega), show p + m - m = p by omega]; have := a4 (by omega); rw [q3] at this; exact this
      · rw [if_neg q3]
        have hlt := a3 p (by omega) (by omega)
        have l1 := lp (by omega)
        refine aft_uniq hk (by omega) (by omega) ?_ ?_
        · intro x x1 x2
          rw [ek]
          by_cases y : x < p
          · rw [il_1 y]; exact a3 x x1 (by omega)
          · by_cases y2 : x < p + m
            · rw [il_2 (by omega) y2]; have := hmu (show x - p < m by omega); omega
            · rw [il_3 (by omega)]; exact a3 _ (by omega) (by omega)
        · intro z; rw [ek, il_3 (by omega), show aft lv n k + m - m = aft lv n k by omega]; exact a4 (by omega)
  · rw [if_neg q1]
    by_cases q2 : k = p
    · rw [if_pos q2]
      have ek : il p m lv mu k = lv b + 1 := by rw [il_2 (by omega) (by omega), show k - p = 0 by omega, i7]
      refine aft_uniq hk (by omega) (by omega) ?_ ?_
      · intro x x1 x2; rw [ek, il_2 (by omega) x2]; exact i8 _ (by omega) (by omega)
      · intro z; rw [ek, il_3 (by omega), show p + m - m = p by omega]; exact lp (by omega)
    · rw [if_neg q2]
      by_cases q3 : k < p + m
      · rw [if_pos q3]
        have ek : il p m lv mu k = mu (k - p) := il_2 (by omega) q3
        have hg := i8 (k - p) (by omega) (by omega)
        obtain ⟨a1, a2, a3, a4⟩ := aft_spec (lv := mu) (show k - p < m by omega)
        refine aft_uniq hk (by omega) (by omega) ?_ ?_
        · intro x x1 x2; rw [ek, il_2 (by omega) (by omega)]; exact a3 _ (by omega) (by omega)
        · intro z
          rw [ek]
          by_cases y : aft mu m (k - p) < m
          · rw [il_2 (by omega) (by omega), show p + aft mu m (k - p) - p = aft mu m (k - p) by omega]; exact a4 y
          · rw [il_3 (by omega), show p + aft mu m (k - p) - m = p by omega]; have := lp (by omega); omega
      · rw [if_neg q3]
        have ek : il p m lv mu k = lv (k - m) := il_3 (by omega)
        obtain ⟨a1, a2, a3, a4⟩ := aft_spec (lv := lv) (show k - m < n by omega)
        refine aft_uniq hk (by omega) (by omega) ?_ ?_
        · intro x x1 x2; rw [ek, il_3 (by omega)]; exact a3 _ (by omega) (by omega)
        · intro z; rw [ek, il_3 (by omega), show aft lv n (k - m) + m - m = aft lv n (k - m) by omega]; exact a4 (by omega)
end
