/-! LEVELS: a list of levels is a tree in the order of its nodes -/
def WL (n : Nat) (lv : Nat → Nat) : Prop := 0 < n ∧ n ≤ 1300 ∧ lv 0 = 0 ∧ ∀ i, i + 1 < n → 1 ≤ lv (i + 1) ∧ lv (i + 1) ≤ lv i + 1
def p_par (lv : Nat → Nat) (L : Nat) : Nat → Nat
  | 0 => 0
  | d + 1 => if lv d < L then d else p_par lv L d
theorem WL.le {n : Nat} {lv : Nat → Nat} (h : WL n lv) : ∀ i, i < n → lv i ≤ i := by
  intro i
  induction i with
  | zero => intro _; rw [h.2.2.1]; exact Nat.le_refl _
  | succ i ih => intro hi; have := (h.2.2.2 i hi).2; have := ih (by omega); omega
theorem WL.pos {n : Nat} {lv : Nat → Nat} (h : WL n lv) {i : Nat} (h0 : 0 < i) (hi : i < n) : 1 ≤ lv i := by
  obtain ⟨j, rfl⟩ : ∃ j, i = j + 1 := ⟨i - 1, by omega⟩
  exact (h.2.2.2 j hi).1
theorem p_par_spec (lv : Nat → Nat) (L : Nat) (h0 : lv 0 < L) : ∀ d, 0 < d → p_par lv L d < d ∧ lv (p_par lv L d) < L ∧ ∀ k, p_par lv L d < k → k < d → L ≤ lv k := by
  intro d
  induction d with
  | zero => intro h; omega
  | succ d ih =>
    intro _
    rw [p_par]
    by_cases q : lv d < L
    · rw [if_pos q]; exact ⟨by omega, q, fun k a b => by omega⟩
    · rw [if_neg q]
      have hd : 0 < d := by
        rcases Nat.eq_zero_or_pos d with e | e
        · subst e; exact absurd h0 q
        · exact e
      obtain ⟨a, b, c⟩ := ih hd
      refine ⟨by omega, b, fun k k1 k2 => ?_⟩
      by_cases e : k = d
      · subst e; omega
      · exact c k k1 (by omega)
theorem t_par_p (lv : Nat → Nat) (L : Nat) (h0 : lv 0 < L) : ∀ d, 0 < d → t_par lv L d = nI (p_par lv L d) := by
  intro d
  induction d with
  | zero => intro h; omega
  | succ d ih =>
    intro _
    rw [t_par, p_par]
    by_cases q : lv d < L
    · rw [if_pos q, if_pos q]
    · rw [if_neg q, if_neg q]
      have hd : 0 < d := by
        rcases Nat.eq_zero_or_pos d with e | e
        · subst e; exact absurd h0 q
        · exact e
      exact ih hd
/-- the parent of a node: one level up, and all between are not higher than the node -/
theorem WL.par {n : Nat} {lv : Nat → Nat} (h : WL n lv) {i : Nat} (h0 : 0 < i) (hi : i < n) : p_par lv (lv i) i < i ∧ lv (p_par lv (lv i) i) + 1 = lv i ∧ ∀ k, p_par lv (lv i) i < k → k < i → lv i ≤ lv k := by
  have hp := h.pos h0 hi
  obtain ⟨a, b, c⟩ := p_par_spec lv (lv i) (by rw [h.2.2.1]; omega) i h0
  refine ⟨a, ?_, c⟩
  have hs := (h.2.2.2 (p_par lv (lv i) i) (by omega)).2
  by_cases e : p_par lv (lv i) i + 1 = i
  · rw [e] at hs; omega
  · have := c (p_par lv (lv i) i + 1) (by omega) (by omega); omega
theorem t_cnt_app (lv : Nat → Nat) (L : Nat) : ∀ a b e, t_cnt lv L (a + b) e = t_cnt lv L a e + t_cnt lv L b (e + a) := by
  intro a
  induction a with
  | zero => intro b e; rw [Nat.zero_add, t_cnt, Nat.zero_add, Nat.add_zero]
  | succ a ih =>
    intro b e
    rw [show a + 1 + b = (a + b) + 1 by omega, t_cnt, t_cnt, ih b (e + 1), show e + 1 + a = e + (a + 1) by omega]
    omega
theorem t_cnt_none (lv : Nat → Nat) (L : Nat) : ∀ d e, (∀ k, e ≤ k → k < e + d → lv k ≠ L) → t_cnt lv L d e = 0 := by
  intro d
  induction d with
  | zero => intro e _; rfl
  | succ d ih =>
    intro e h
    rw [t_cnt, if_neg (h e (Nat.le_refl _) (by omega)), ih (e + 1) (fun k a b => h k (by omega) (by omega))]
theorem t_cnt_le (lv : Nat → Nat) (L : Nat) : ∀ d e, t_cnt lv L d e ≤ d := by
  intro d
  induction d with
  | zero => intro e; exact Nat.le_refl _
  | succ d ih => intro e; rw [t_cnt]; have := ih (e + 1); split <;> omega
/-- behind a child: the next child, or the end -/
theorem sib {n : Nat} {lv : Nat → Nat} {i k : Nat} (hi : i < n) (hk : i < k) (hke : k < aft lv n i) (hl : lv k = lv i + 1) : k < aft lv n k ∧ aft lv n k ≤ aft lv n i ∧ (aft lv n k < aft lv n i → lv (aft lv n k) = lv i + 1) ∧ (aft lv n k = aft lv n i → ¬ (aft lv n k < n ∧ lv (aft lv n k) = lv k)) := by
  obtain ⟨a1, a2, a3, a4⟩ := aft_spec (lv := lv) hi
  obtain ⟨b1, b2, b3, b4⟩ := aft_spec (lv := lv) (n := n) (i := k) (by omega)
  have hle : aft lv n k ≤ aft lv n i := by
    rcases Nat.lt_or_ge (aft lv n i) (aft lv n k) with q | q
    · have := b3 _ hke q; have := a4 (by omega); omega
    · exact q
  refine ⟨b1, hle, fun q => ?_, fun q z => ?_⟩
  · have := a3 _ (by omega) q; have := b4 (by omega); omega
  · have := a4 (by omega); rw [q] at z; omega
theorem t_cnt_step {n : Nat} {lv : Nat → Nat} {i k : Nat} (hi : i < n) (hk : i < k) (hke : k < aft lv n i) (hl : lv k = lv i + 1) : t_cnt lv (lv i + 1) (aft lv n i - k) k = 1 + t_cnt lv (lv i + 1) (aft lv n i - aft lv n k) (aft lv n k) := by
  obtain ⟨s1, s2, s3, s4⟩ := sib hi hk hke hl
  obtain ⟨b1, b2, b3, b4⟩ := aft_spec (lv := lv) (n := n) (i := k) (by have := (aft_spec (lv := lv) hi).2.1; omega)
  have e1 : aft lv n i - k = 1 + (aft lv n k - (k + 1)) + (aft lv n i - aft lv n k) := by omega
  rw [e1, t_cnt_app, t_cnt_app, show k + (1 + (aft lv n k - (k + 1))) = aft lv n k by omega, t_cnt_none lv (lv i + 1) (aft lv n k - (k + 1)) (k + 1) (fun z z1 z2 => by have := b3 z (by omega) (by omega); omega)]
  rw [t_cnt, t_cnt, if_pos hl]
/-! THE REFERENCE'S LINKS: at the node's place ids i its parent, its first child, its next one -/
def LK (n : Nat) (lv ids : Nat → Nat) (s : o_S) : Prop :=
  (∀ i, i < n → ids i < 1500) ∧ (∀ i j, i < n → j < n → ids i = ids j → i = j) ∧
  (∀ i, i < n → o_A s 2 (ids i) = if i = 0 then -1 else nI (ids (p_par lv (lv i) i))) ∧
  (∀ i, i < n → o_A s 3 (ids i) = if i + 1 < n ∧ lv i < lv (i + 1) then nI (ids (i + 1)) else -1) ∧
  (∀ i, i < n → o_A s 4 (ids i) = if aft lv n i < n ∧ lv (aft lv n i) = lv i then nI (ids (aft lv n i)) else -1)
section
variable {s : o_S} {n N : Nat} {lv ids : Nat → Nat}
theorem nI_nm1 {k : Nat} (h : k < 2 ^ 31) : ¬ nI k = -1 := by
  intro e
  have := nI_pos h
  rw [e] at this
  exact this (by decide)
theorem lk_in (h : LK n lv ids s) {i : Nat} (hi : i < n) : ¬ (nI (ids i) < 0 ∨ 1500 ≤ (nI (ids i)).toNatClampNeg) := nI_in (h.1 i hi) (by decide)
theorem lk_in2 (h : LK n lv ids s) {i : Nat} (hi : i < n) : ¬ (nI (ids i) < 0 ∨ 1500 ≤ ids i) := by
  have := h.1 i hi
  exact fun z => z.elim (nI_pos (by omega)) (fun z => by omega)
theorem lk_cl (h : LK n lv ids s) {i : Nat} (hi : i < n) : (nI (ids i)).toNatClampNeg = ids i := nI_clamp (by have := h.1 i hi; omega)
theorem lk_count_L (h : LK n lv ids s) (hW : WL n lv) {i : Nat} (hi : i < n) : ∀ (d k c m : Nat), aft lv n i - k = d → i < k → k < aft lv n i → lv k = lv i + 1 → c ≤ k → d < m → f_X7_countOf_L9 N m (nI c) (nI (ids k)) s = some (nI (c + t_cnt lv (lv i + 1) d k), s) := by
  intro d
  induction d using Nat.strongRecOn with
  | _ d ih =>
    intro k c m hd hk hke hl hc hm
    obtain ⟨m, rfl⟩ : ∃ m', m = m' + 1 := ⟨m - 1, by omega⟩
    obtain ⟨a1, a2, a3, a4⟩ := aft_spec (lv := lv) hi
    have hn := hW.2.1
    have hkn : k < n := by omega
    obtain ⟨s1, s2, s3, s4⟩ := sib hi hk hke hl
    have hid := h.1 k hkn
    rw [f_X7_countOf_L9, if_neg (nI_nm1 (by omega)), if_neg (lk_in h hkn), do_e, lk_cl h hkn, h.2.2.2.2 k hkn, nI_1]
    rw [← hd, t_cnt_step hi hk hke hl]
    rcases Nat.lt_or_ge (aft lv n k) (aft lv n i) with q | q
    · have q2 := s3 q
      rw [if_pos ⟨by omega, by rw [q2, hl]⟩, ih (aft lv n i - aft lv n k) (by omega) (aft lv n k) (c + 1) m rfl (by omega) q q2 (by omega) (by omega)]
      congr 3; omega
    · have q2 : aft lv n k = aft lv n i := by omega
      obtain ⟨m, rfl⟩ : ∃ m', m = m' + 1 := ⟨m - 1, by omega⟩
      rw [if_neg (s4 q2), f_X7_countOf_L9, if_pos rfl, q2, Nat.sub_self]
      rfl
theorem lk_count (h : LK n lv ids s) (hW : WL n lv) (hN : 2000 ≤ N) {i : Nat} (hi : i < n) : f_X7_countOf N (nI (ids i)) s = some (nI (t_cnt lv (lv i + 1) (aft lv n i - (i + 1)) (i + 1)), s) := by
  obtain ⟨a1, a2, a3, a4⟩ := aft_spec (lv := lv) hi
  have hn := hW.2.1
  unfold f_X7_countOf
  rw [if_neg (lk_in h hi), do_e, lk_cl h hi, h.2.2.2.1 i hi]
  by_cases q : i + 1 < n ∧ lv i < lv (i + 1)
  · have q2 := (hW.2.2.2 i q.1).2
    have q3 : i + 1 < aft lv n i := by
      rcases Nat.lt_or_ge (i + 1) (aft lv n i) with z | z
      · exact z
      · have e : aft lv n i = i + 1 := by omega
        have := a4 (by omega); rw [e] at this; omega
    rw [if_pos q]
    have := lk_count_L (N := N) h hW hi (aft lv n i - (i + 1)) (i + 1) 0 N rfl (by omega) q3 (by omega) (by omega) (by omega)
    rw [Nat.zero_add] at this
    exact this
  · obtain ⟨m, rfl⟩ : ∃ m', N = m' + 1 := ⟨N - 1, by omega⟩
    have e : aft lv n i = i + 1 := aft_uniq hi (by omega) (by omega) (fun k k1 k2 => by omega) (fun z => by
      rcases Nat.lt_or_ge (lv i) (lv (i + 1)) with y | y
      · exact absurd ⟨z, y⟩ q
      · exact y)
    rw [if_neg q, f_X7_countOf_L9, if_pos rfl, e, Nat.sub_self]
    rfl
/-- the answer of nthChild, as the reference's place -/
def r_of (ids : Nat → Nat) (n : Nat) (x y : Int32) : Prop := (x = -1 ∧ y = -1) ∨ ∃ k, k < n ∧ x = nI k ∧ y = nI (ids k)
theorem t_nth_skip (lv : Nat → Nat) (L : Nat) (x : Int32) : ∀ a b c e, (∀ k, e ≤ k → k < e + a → lv k ≠ L) → t_nth lv L x (a + b) c e = t_nth lv L x b c (e + a) := by
  intro a
  induction a with
  | zero => intro b c e _; rw [Nat.zero_add, Nat.add_zero]
  | succ a ih =>
    intro b c e h
    rw [show a + 1 + b = (a + b) + 1 by omega, t_nth, if_neg (h e (Nat.le_refl _) (by omega)), ih b c (e + 1) (fun k k1 k2 => h k (by omega) (by omega)), show e + 1 + a = e + (a + 1) by omega]
theorem lk_child_L (h : LK n lv ids s) (hW : WL n lv) {i x : Nat} (hi : i < n) (hx : x < 2 ^ 31) : ∀ (d k c m : Nat), aft lv n i - k = d → i < k → k < aft lv n i → lv k = lv i + 1 → c ≤ k → c ≤ x → d < m → ∃ y, f_X7_childOf_L10 N m (nI x) (nI (ids k)) (nI c) s = some (y, s) ∧ r_of ids n (t_nth lv (lv i + 1) (nI x) d c k) y := by
  intro d
  induction d using Nat.strongRecOn with
  | _ d ih =>
    intro k c m hd hk hke hl hc hcx hm
    obtain ⟨m, rfl⟩ : ∃ m', m = m' + 1 := ⟨m - 1, by omega⟩
    obtain ⟨a1, a2, a3, a4⟩ := aft_spec (lv := lv) hi
    have hn := hW.2.1
    have hkn : k < n := by omega
    obtain ⟨s1, s2, s3, s4⟩ := sib hi hk hke hl
    obtain ⟨b1, b2, b3, b4⟩ := aft_spec (lv := lv) (n := n) (i := k) hkn
    have hid := h.1 k hkn
    obtain ⟨d, rfl⟩ : ∃ d', d = d' + 1 := ⟨d - 1, by omega⟩
    rw [f_X7_childOf_L10, if_ni_le hx (by omega), t_nth, if_pos hl, if_ni_eq (by omega) hx]
    by_cases q : x ≤ c
    · rw [if_pos q, if_pos (by omega)]
      exact ⟨_, rfl, Or.inr ⟨k, hkn, rfl, rfl⟩⟩
    · rw [if_neg q, if_neg (show ¬ c = x by omega), if_neg (nI_nm1 (by omega)), if_neg (lk_in h hkn), do_e, lk_cl h hkn, h.2.2.2.2 k hkn, nI_1]
      have e1 : d = (aft lv n k - (k + 1)) + (aft lv n i - aft lv n k) := by omega
      rw [e1, t_nth_skip lv _ _ _ _ _ _ (fun z z1 z2 => by have := b3 z (by omega) (by omega); omega), show k + 1 + (aft lv n k - (k + 1)) = aft lv n k by omega]
      rcases Nat.lt_or_ge (aft lv n k) (aft lv n i) with q1 | q1
      · have q2 := s3 q1
        rw [if_pos ⟨by omega, by rw [q2, hl]⟩]
        exact ih (aft lv n i - aft lv n k) (by omega) (aft lv n k) (c + 1) m rfl (by omega) q1 q2 (by omega) (by omega) (by omega)
      · have q2 : aft lv n k = aft lv n i := by omega
        obtain ⟨m, rfl⟩ : ∃ m', m = m' + 1 := ⟨m - 1, by omega⟩
        rw [if_neg (s4 q2), f_X7_childOf_L10, if_ni_le hx (by omega), q2, Nat.sub_self]
        refine ⟨-1, ?_, Or.inl ⟨rfl, rfl⟩⟩
        by_cases z : x ≤ c + 1
        · rw [if_pos z]
        · rw [if_neg z, if_pos rfl]
theorem lk_child (h : LK n lv ids s) (hW : WL n lv) (hN : 2000 ≤ N) {i x : Nat} (hi : i < n) (hx : x < 2 ^ 31) : ∃ y, f_X7_childOf N (nI (ids i)) (nI x) s = some (y, s) ∧ r_of ids n (t_nth lv (lv i + 1) (nI x) (aft lv n i - (i + 1)) 0 (i + 1)) y := by
  obtain ⟨a1, a2, a3, a4⟩ := aft_spec (lv := lv) hi
  have hn := hW.2.1
  unfold f_X7_childOf
  rw [if_neg (lk_in h hi), do_e, lk_cl h hi, h.2.2.2.1 i hi]
  by_cases q : i + 1 < n ∧ lv i < lv (i + 1)
  · have q2 := (hW.2.2.2 i q.1).2
    have q3 : i + 1 < aft lv n i := by
      rcases Nat.lt_or_ge (i + 1) (aft lv n i) with z | z
      · exact z
      · have e : aft lv n i = i + 1 := by omega
        have := a4 (by omega); rw [e] at this; omega
    rw [if_pos q]
    exact lk_child_L (N := N) h hW hi hx (aft lv n i - (i + 1)) (i + 1) 0 N rfl (by omega) q3 (by omega) (by omega) (by omega) (by omega)
  · obtain ⟨m, rfl⟩ : ∃ m', N = m' + 1 := ⟨N - 1, by omega⟩
    have e : aft lv n i = i + 1 := aft_uniq hi (by omega) (by omega) (fun k k1 k2 => by omega) (fun z => by
      rcases Nat.lt_or_ge (lv i) (lv (i + 1)) with y | y
      · exact absurd ⟨z, y⟩ q
      · exact y)
    rw [if_neg q, f_X7_childOf_L10, e, Nat.sub_self]
    refine ⟨-1, ?_, Or.inl ⟨rfl, rfl⟩⟩
    rw [show (0 : Int32) = nI 0 from rfl, if_ni_le hx (by decide)]
    by_cases z : x ≤ 0
    · rw [if_pos z]
    · rw [if_neg z, if_pos rfl]
/-- the node behind another one, not beyond the node r that it lies in -/
theorem lk_foll_L (h : LK n lv ids s) (hW : WL n lv) {r i : Nat} (hr : r < n) (hri : r ≤ i) (hir : i < aft lv n r) : ∀ (d a m : Nat), a = d → r ≤ a → a ≤ i → aft lv n a = i + 1 → d < m → f_X7_following_L19 N m (nI (ids r)) (nI (ids a)) s = some (if i + 1 < aft lv n r then nI (ids (i + 1)) else -1, s) := by
  obtain ⟨r1, r2, r3, r4⟩ := aft_spec (lv := lv) hr
  have hn := hW.2.1
  intro d
  induction d using Nat.strongRecOn with
  | _ d ih =>
    intro a m hd hra hai haft hm
    obtain ⟨m, rfl⟩ : ∃ m', m = m' + 1 := ⟨m - 1, by omega⟩
    have han : a < n := by omega
    obtain ⟨a1, a2, a3, a4⟩ := aft_spec (lv := lv) han
    have hida := h.1 a han
    have hidr := h.1 r hr
    rw [f_X7_following_L19, if_ni_eq (by omega) (by omega)]
    by_cases e : ids a = ids r
    · have e2 := h.2.1 a r han hr e
      subst e2
      rw [if_pos rfl]
      unfold f_X7_following_b44
      rw [if_pos rfl, if_neg (by omega)]
    · rw [if_neg e, if_neg (lk_in h han), do_e, lk_cl h han, h.2.2.2.2 a han, haft]
      have hne : a ≠ r := fun z => e (by rw [z])
      by_cases q : i + 1 < n ∧ lv (i + 1) = lv a
      · have hlt : i + 1 < aft lv n r := by
          rcases Nat.lt_or_ge (i + 1) (aft lv n r) with z | z
          · exact z
          · have e3 : aft lv n r = i + 1 := by omega
            have := r4 (by omega); rw [e3] at this
            have := r3 a (by omega) (by omega); omega
        have hid2 := h.1 (i + 1) q.1
        rw [if_pos q, if_neg (nI_nm1 (by omega))]
        unfold f_X7_following_b44
        rw [if_ni_eq (by omega) (by omega), if_neg e, if_neg (lk_in h han), do_e, lk_cl h han, h.2.2.2.2 a han, haft, if_pos q, if_pos hlt]
      · obtain ⟨p1, p2, p3⟩ := hW.par (show 0 < a by omega) han
        rw [if_neg q, if_pos rfl, if_neg (lk_in2 h han), do_e, h.2.2.1 a han, if_neg (by omega)]
        have hpr : r ≤ p_par lv (lv a) a := by
          rcases Nat.lt_or_ge (p_par lv (lv a) a) r with z | z
          · have := p3 r z (by omega); have := r3 a (by omega) (by omega); omega
          · exact z
        refine ih _ (by omega) _ m rfl hpr (by omega) ?_ (by omega)
        refine aft_uniq (by omega) (by omega) (by omega) (fun k k1 k2 => ?_) (fun z => ?_)
        · rcases Nat.lt_or_ge k a with y | y
          · have := p3 k k1 y; omega
          · rcases Nat.lt_or_ge a k with y2 | y2
            · have := a3 k y2 (by omega); omega
            · have : k = a := by omega
              subst this; omega
        · have := a4 (by omega); rw [haft] at this
          rcases Nat.lt_or_ge (lv (i + 1)) (lv a) with y | y
          · omega
          · exact absurd ⟨z, by omega⟩ q
theorem lk_foll (h : LK n lv ids s) (hW : WL n lv) (hN : 2000 ≤ N) {r i : Nat} (hr : r < n) (hri : r ≤ i) (hir : i < aft lv n r) : f_X7_following N (nI (ids i)) (nI (ids r)) s = some (if i + 1 < aft lv n r then nI (ids (i + 1)) else -1, s) := by
  obtain ⟨r1, r2, r3, r4⟩ := aft_spec (lv := lv) hr
  have hn := hW.2.1
  have hin : i < n := by omega
  unfold f_X7_following
  rw [if_neg (lk_in h hin), do_e, lk_cl h hin, h.2.2.2.1 i hin]
  by_cases q : i + 1 < n ∧ lv i < lv (i + 1)
  · have hid2 := h.1 (i + 1) q.1
    have hlt : i + 1 < aft lv n r := by
      rcases Nat.lt_or_ge (i + 1) (aft lv n r) with z | z
      · exact z
      · have e3 : aft lv n r = i + 1 := by omega
        have := r4 (by omega); rw [e3] at this
        rcases Nat.lt_or_ge r i with y | y
        · have := r3 i y hir; omega
        · have : i = r := by omega
          subst this; omega
    rw [if_pos q, if_neg (nI_nm1 (by omega)), if_neg (lk_in2 h hin), do_e, if_pos hlt]
  · have e : aft lv n i = i + 1 := aft_uniq hin (by omega) (by omega) (fun k k1 k2 => by omega) (fun z => by
      rcases Nat.lt_or_ge (lv i) (lv (i + 1)) with y | y
      · exact absurd ⟨z, y⟩ q
      · exact y)
    rw [if_neg q, if_pos rfl]
    exact lk_foll_L h hW hr hri hir i i N rfl hri (Nat.le_refl _) e (by omega)
end
/-- two states whose links are the same -/
theorem LK.congr {n : Nat} {lv ids : Nat → Nat} {s t : o_S} (h : LK n lv ids s) (h2 : o_A t 2 = o_A s 2) (h3 : o_A t 3 = o_A s 3) (h4 : o_A t 4 = o_A s 4) : LK n lv ids t := by
  obtain ⟨a, b, c, d, e⟩ := h
  exact ⟨a, b, fun i hi => by rw [h2]; exact c i hi, fun i hi => by rw [h3]; exact d i hi, fun i hi => by rw [h4]; exact e i hi⟩
