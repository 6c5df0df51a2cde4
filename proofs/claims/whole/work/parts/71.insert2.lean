/-! THE REFERENCE PUTS A NODE INTO ANOTHER ONE -/
theorem LK.off {n : Nat} {lv ids : Nat → Nat} {s t : o_S} (h : LK n lv ids s) (h2 : ∀ i, i < n → o_A t 2 (ids i) = o_A s 2 (ids i)) (h3 : ∀ i, i < n → o_A t 3 (ids i) = o_A s 3 (ids i)) (h4 : ∀ i, i < n → o_A t 4 (ids i) = o_A s 4 (ids i)) : LK n lv ids t := by
  obtain ⟨a, b, c, d, e⟩ := h
  exact ⟨a, b, fun i hi => by rw [h2 i hi]; exact c i hi, fun i hi => by rw [h3 i hi]; exact d i hi, fun i hi => by rw [h4 i hi]; exact e i hi⟩
theorem t_nth_at (lv : Nat → Nat) (L : Nat) : ∀ d c e k, e ≤ k → k < e + d → lv k = L → c + d < 2 ^ 31 → t_nth lv L (nI (c + t_cnt lv L (k - e) e)) d c e = nI k := by
  intro d
  induction d with
  | zero => intro c e k h1 h2; omega
  | succ d ih =>
    intro c e k h1 h2 h3 h4
    rw [t_nth]
    rcases Nat.eq_or_lt_of_le h1 with z | z
    · subst z
      rw [if_pos h3, Nat.sub_self, t_cnt, Nat.add_zero, if_pos rfl]
    · obtain ⟨q, hq⟩ : ∃ q, k - e = q + 1 := ⟨k - e - 1, by omega⟩
      have eq : k - (e + 1) = q := by omega
      have hc := t_cnt_le lv L q (e + 1)
      rw [hq, t_cnt]
      by_cases y : lv e = L
      · rw [if_pos y, if_pos y, if_ni_eq (by omega) (by omega), if_neg (by omega)]
        have := ih (c + 1) (e + 1) k (by omega) (by omega) h3 (by omega)
        rw [eq] at this
        rw [show c + (1 + t_cnt lv L q (e + 1)) = c + 1 + t_cnt lv L q (e + 1) by omega]
        exact this
      · rw [if_neg y, if_neg y]
        have := ih c (e + 1) k (by omega) (by omega) h3 (by omega)
        rw [eq] at this
        rw [Nat.zero_add]
        exact this
section
variable {n b p : Nat} {lv ids : Nat → Nat}
/-- the child before a place -/
theorem ch_bef (hW : WL n lv) (hb : b < n) (hp : b + 1 < p) (hpa : p ≤ aft lv n b) (hpl : p < aft lv n b → lv p = lv b + 1) : ∃ q, b < q ∧ q < p ∧ lv q = lv b + 1 ∧ aft lv n q = p ∧ t_cnt lv (lv b + 1) (p - (b + 1)) (b + 1) = t_cnt lv (lv b + 1) (q - (b + 1)) (b + 1) + 1 := by
  obtain ⟨a1, a2, a3, a4⟩ := aft_spec (lv := lv) hb
  have l1 : lv (b + 1) = lv b + 1 := by have := a3 (b + 1) (by omega) (by omega); have := (hW.2.2.2 b (by omega)).2; omega
  obtain ⟨q1, q2, q3⟩ := p_par_spec lv (lv b + 2) (by rw [hW.2.2.1]; omega) p (by omega)
  have hq : b < p_par lv (lv b + 2) p := by
    rcases Nat.lt_or_ge b (p_par lv (lv b + 2) p) with z | z
    · exact z
    · have := q3 (b + 1) (by omega) hp; omega
  have hl : lv (p_par lv (lv b + 2) p) = lv b + 1 := by have := a3 _ hq (by omega); omega
  refine ⟨_, hq, q1, hl, aft_uniq (by omega) q1 (by omega) (fun k k1 k2 => by have := q3 k k1 k2; omega) (fun z => ?_), ?_⟩
  · rcases Nat.lt_or_ge p (aft lv n b) with y | y
    · have := hpl y; omega
    · have e : p = aft lv n b := by omega
      have := a4 (by omega); rw [← e] at this; omega
  · have e1 : p - (b + 1) = (p_par lv (lv b + 2) p - (b + 1)) + (1 + (p - p_par lv (lv b + 2) p - 1)) := by omega
    rw [e1, t_cnt_app, t_cnt_app, t_cnt_none lv (lv b + 1) (p - p_par lv (lv b + 2) p - 1) _ (fun z z1 z2 => by have := q3 z (by omega) (by omega); omega), show b + 1 + (p_par lv (lv b + 2) p - (b + 1)) = p_par lv (lv b + 2) p by omega, t_cnt, t_cnt, if_pos hl]
theorem ins_ {N j : Nat} {s : o_S} (h : LK n lv ids s) (hW : WL n lv) (hN : 2000 ≤ N) (hb : b < n) (hp : b < p) (hpa : p ≤ aft lv n b) (hpl : p < aft lv n b → lv p = lv b + 1) (hj : j < 1500) (hji : ∀ i, i < n → ids i ≠ j) :
    ∃ c d, f_X7_insert N (nI j) (nI (ids b)) (nI (t_cnt lv (lv b + 1) (p - (b + 1)) (b + 1))) s = some (o_setA (o_setA (o_setA s 2 j (nI (ids b))) 4 j (if p < n ∧ lv p = lv b + 1 then nI (ids p) else -1)) c d (nI j)) ∧ ((c = 3 ∧ d = ids b ∧ p = b + 1) ∨ (c = 4 ∧ p ≠ b + 1 ∧ ∃ q, q < n ∧ d = ids q ∧ lv q = lv b + 1 ∧ aft lv n q = p)) := by
  obtain ⟨a1, a2, a3, a4⟩ := aft_spec (lv := lv) hb
  have hn := hW.2.1
  have hidb := h.1 b hb
  have h2 : LK n lv ids (o_setA s 2 j (nI (ids b))) := h.off (fun i hi => by rw [sA_nj (hji i hi)]) (fun i hi => by rw [sA_ne (by decide)]) (fun i hi => by rw [sA_ne (by decide)])
  have hc := t_cnt_le lv (lv b + 1) (p - (b + 1)) (b + 1)
  unfold f_X7_insert
  rw [st_ hj (by decide), if_lit 0 0 rfl (by omega) (by decide)]
  by_cases q : p = b + 1
  · refine ⟨3, ids b, ?_, Or.inl ⟨rfl, rfl, q⟩⟩
    have e0 : t_cnt lv (lv b + 1) (p - (b + 1)) (b + 1) = 0 := by rw [show p - (b + 1) = 0 by omega]; rfl
    rw [if_pos e0, ld_ hidb (by decide), st_ hj (by decide), st_ hidb (by decide), h2.2.2.2.1 b hb]
    have : (if b + 1 < n ∧ lv b < lv (b + 1) then nI (ids (b + 1)) else -1) = (if p < n ∧ lv p = lv b + 1 then nI (ids p) else -1) := by
      rw [q]
      by_cases y : b + 1 < n ∧ lv b < lv (b + 1)
      · rw [if_pos y, if_pos ⟨y.1, by have := (hW.2.2.2 b y.1).2; omega⟩]
      · rw [if_neg y, if_neg (fun z => y ⟨z.1, by omega⟩)]
    rw [this]
  · obtain ⟨q', q1, q2, q3, q4, q5⟩ := ch_bef hW hb (by omega) hpa hpl
    refine ⟨4, ids q', ?_, Or.inr ⟨rfl, q, q', by omega, rfl, q3, q4⟩⟩
    obtain ⟨y, y1, y2⟩ := lk_child (N := N) (x := t_cnt lv (lv b + 1) (q' - (b + 1)) (b + 1)) h2 hW hN hb (by omega)
    have e1 := t_nth_at lv (lv b + 1) (aft lv n b - (b + 1)) 0 (b + 1) q' (by omega) (by omega) q3 (by omega)
    rw [Nat.zero_add] at e1
    rw [e1] at y2
    have ey : y = nI (ids q') := by
      rcases y2 with ⟨z, -⟩ | ⟨k, k1, k2, k3⟩
      · exact absurd z (nI_nm1 (by omega))
      · rw [k3, (nI_eq (by omega) (by omega)).mp k2]
    have hidq := h.1 q' (by omega)
    rw [if_neg (by omega), ni_s1 (by omega), q5, Nat.add_sub_cancel, y1, bi_s, ey, ld_ hidq (by decide), st_ hj (by decide), st_ hidq (by decide), h2.2.2.2.2 q' (by omega), q4, q3]
theorem ins_lk {N m : Nat} {s : o_S} {mu jd : Nat → Nat} (h : LK n lv ids s) (hin : IN n lv b p m mu) (hN : 2000 ≤ N) (hj1 : ∀ x, x < m → jd x < 1500) (hj2 : ∀ x y, x < m → y < m → jd x = jd y → x = y) (hj3 : ∀ i x, i < n → x < m → ids i ≠ jd x)
    (hB2 : ∀ x, 0 < x → x < m → o_A s 2 (jd x) = nI (jd (p_par mu (mu x) x))) (hB3 : ∀ x, x < m → o_A s 3 (jd x) = if x + 1 < m ∧ mu x < mu (x + 1) then nI (jd (x + 1)) else -1) (hB4 : ∀ x, 0 < x → x < m → o_A s 4 (jd x) = if aft mu m x < m ∧ mu (aft mu m x) = mu x then nI (jd (aft mu m x)) else -1) :
    ∃ t, f_X7_insert N (nI (jd 0)) (nI (ids b)) (nI (t_cnt lv (lv b + 1) (p - (b + 1)) (b + 1))) s = some t ∧ LK (n + m) (il p m lv mu) (il p m ids jd) t ∧ o_F t = o_F s ∧ o_R t = o_R s ∧ o_O t = o_O s ∧ (∀ e, GS e s → GS e t) ∧ ∀ a, a ≠ 2 → a ≠ 3 → a ≠ 4 → o_A t a = o_A s a := by
  obtain ⟨hW, i1, i2, i3, i4, i5, i6, i7, i8, i9⟩ := id hin
  have hW := hin.1
  obtain ⟨c, d, e1, e2⟩ := ins_ (N := N) (j := jd 0) h hW hN i1 i2 i3 i4 (hj1 0 i5) (fun i hi => hj3 i 0 hi i5)
  have hne : ∀ x, 0 < x → x < m → jd x ≠ jd 0 := fun x x1 x2 z => by have := hj2 x 0 x2 i5 z; omega
  have hd : ∃ y, y < n ∧ d = ids y := by
    rcases e2 with ⟨-, z, -⟩ | ⟨-, -, q, q1, q2, -⟩
    · exact ⟨b, i1, z⟩
    · exact ⟨q, q1, q2⟩
  have hdj : ∀ x, x < m → jd x ≠ d := by
    obtain ⟨y, y1, y2⟩ := hd
    intro x hx z
    exact hj3 y x y1 hx (by rw [← y2, z])
  have hc2 : (2 : Nat) ≠ c := by rcases e2 with ⟨z, -⟩ | ⟨z, -⟩ <;> rw [z] <;> decide
  refine ⟨_, e1, ?_, rfl, rfl, rfl, fun e h => h, fun a a2 a3 a4 => ?_⟩
  · refine in_lk h hin hj1 hj2 hj3 (fun x x0 hx => ?_) (fun x hx => ?_) (fun x x0 hx => ?_) ?_ ?_ (fun i hi => ?_) (fun i hi => ?_) (fun i hi => ?_)
    · rw [sA_ne hc2, sA_ne (by decide), sA_nj (hne x x0 hx)]; exact hB2 x x0 hx
    · have : o_A (o_setA (o_setA (o_setA s 2 (jd 0) (nI (ids b))) 4 (jd 0) (if p < n ∧ lv p = lv b + 1 then nI (ids p) else -1)) c d (nI (jd 0))) 3 (jd x) = o_A s 3 (jd x) := by
        rw [sA_A, if_neg (hdj x hx), ite_self, sA_ne (by decide), sA_ne (by decide)]
      rw [this]; exact hB3 x hx
    · have : o_A (o_setA (o_setA (o_setA s 2 (jd 0) (nI (ids b))) 4 (jd 0) (if p < n ∧ lv p = lv b + 1 then nI (ids p) else -1)) c d (nI (jd 0))) 4 (jd x) = o_A s 4 (jd x) := by
        rw [sA_A, if_neg (hdj x hx), ite_self, sA_nj (hne x x0 hx), sA_ne (by decide)]
      rw [this]; exact hB4 x x0 hx
    · rw [sA_ne hc2, sA_ne (by decide), sA_eq]
    · rw [sA_A, if_neg (hdj 0 i5), ite_self, sA_eq]
    · rw [sA_ne hc2, sA_ne (by decide), sA_nj (hj3 i 0 hi i5)]
    · rcases e2 with ⟨z1, z2, z3⟩ | ⟨z1, z3, q, q1, q2, q3, q4⟩
      · subst z1; subst z2
        rw [sA_A, if_pos rfl, sA_ne (by decide), sA_ne (by decide)]
        by_cases y : i = b
        · rw [if_pos (by rw [y]), if_pos ⟨y, z3⟩]
        · rw [if_neg (fun z => y (h.2.1 _ _ hi i1 z)), if_neg (fun z => y z.1)]
      · subst z1
        rw [sA_ne (by decide), sA_ne (by decide), sA_ne (by decide), if_neg (fun z => z3 z.2)]
    · rcases e2 with ⟨z1, z2, z3⟩ | ⟨z1, z3, q, q1, q2, q3, q4⟩
      · subst z1
        rw [sA_ne (by decide), sA_nj (hj3 i 0 hi i5), sA_ne (by decide), if_neg (fun z => ?_)]
        have ai := aft_spec (lv := lv) hi
        rcases Nat.lt_trichotomy i b with y | y | y
        · have := ai.2.2.1 b y (by omega); omega
        · rw [y] at z; omega
        · omega
      · subst z1; subst q2
        rw [sA_A, if_pos rfl, sA_nj (hj3 i 0 hi i5), sA_ne (by decide)]
        by_cases y : i = q
        · subst y; rw [if_pos rfl, if_pos ⟨q3, q4⟩]
        · rw [if_neg (fun z => y (h.2.1 _ _ hi q1 z)), if_neg (fun z => ?_)]
          have ai := aft_spec (lv := lv) hi
          have aq := aft_spec (lv := lv) q1
          rcases Nat.lt_trichotomy i q with u | u | u
          · have := ai.2.2.1 q u (by omega); omega
          · exact y u
          · have := aq.2.2.1 i u (by omega); omega
  · have : a ≠ c := by rcases e2 with ⟨z, -⟩ | ⟨z, -⟩ <;> rw [z] <;> assumption
    rw [sA_ne this, sA_ne a4, sA_ne a2]
end
