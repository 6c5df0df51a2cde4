/-! THE CLASS'S TREE: n nodes; kind, level, depth by number; words -/
def tg (s : o_S) (i f : Nat) : Int32 := (o_R s 3).getD (7 * i + f) 0
def CT (s : o_S) (n : Nat) (kd lv dp : Nat → Nat) (w : Nat → List Int32) : Prop :=
  (o_R s 3).length = 7 * n ∧ o_F s 1 = nI n ∧ n ≤ 1300 ∧ (o_R s 4).length ≤ 16000 ∧ (∀ i, i < n → tg s i 0 = nI (kd i) ∧ kd i ≤ 4 ∧ tg s i 1 = nI (lv i) ∧ lv i ≤ 1300 ∧ tg s i 2 = nI (dp i) ∧ dp i ≤ 1300) ∧ (∀ i, i < n → kd i = 2 → tg s i 5 = nI (w i).length ∧ ∃ a, tg s i 6 = nI a ∧ a + (w i).length ≤ (o_R s 4).length ∧ ∀ j, j < (w i).length → (o_R s 4).getD (a + j) 0 = (w i).getD j 0)
/-- the first place from e on, d places on at most, whose level is L or lower -/
def t_aft (lv : Nat → Nat) (L : Nat) : Nat → Nat → Nat
  | 0, e => e
  | d + 1, e => if lv e ≤ L then e else t_aft lv L d (e + 1)
def aft (lv : Nat → Nat) (n i : Nat) : Nat := t_aft lv (lv i) (n - (i + 1)) (i + 1)
def t_cnt (lv : Nat → Nat) (L : Nat) : Nat → Nat → Nat
  | 0, _ => 0
  | d + 1, e => (if lv e = L then 1 else 0) + t_cnt lv L d (e + 1)
/-- the place with this index among those of level L from e on, or -1 -/
def t_nth (lv : Nat → Nat) (L : Nat) (x : Int32) : Nat → Nat → Nat → Int32
  | 0, _, _ => -1
  | d + 1, c, e => if lv e = L then (if nI c = x then nI e else t_nth lv L x d (c + 1) (e + 1)) else t_nth lv L x d c (e + 1)
/-- the last place below e, d places back at most, of level L, or -1 -/
def t_last (lv : Nat → Nat) (L : Nat) : Nat → Nat → Int32
  | 0, _ => -1
  | d + 1, e => if lv e = L then nI e else t_last lv L d (e - 1)
/-- the last place below d whose level is lower than L, or -1 -/
def t_par (lv : Nat → Nat) (L : Nat) : Nat → Int32
  | 0 => -1
  | d + 1 => if lv d < L then nI d else t_par lv L d
theorem t_aft_ge (lv : Nat → Nat) (L : Nat) : ∀ d e, e ≤ t_aft lv L d e ∧ t_aft lv L d e ≤ e + d ∧ (∀ k, e ≤ k → k < t_aft lv L d e → L < lv k) ∧ (t_aft lv L d e < e + d → lv (t_aft lv L d e) ≤ L) := by
  intro d
  induction d with
  | zero => intro e; exact ⟨Nat.le_refl _, Nat.le_refl _, fun k h1 h2 => absurd h2 (by show ¬ k < e; omega), fun h => absurd h (by show ¬ e < e + 0; omega)⟩
  | succ d ih =>
    intro e
    unfold t_aft
    by_cases h : lv e ≤ L
    · rw [if_pos h]; exact ⟨Nat.le_refl _, by omega, fun k h1 h2 => absurd h2 (by omega), fun _ => h⟩
    · rw [if_neg h]
      obtain ⟨h1, h2, h3, h4⟩ := ih (e + 1)
      refine ⟨by omega, by omega, fun k k1 k2 => ?_, fun q => h4 (by omega)⟩
      by_cases e1 : k = e
      · subst e1; omega
      · exact h3 k (by omega) k2
theorem aft_spec {lv : Nat → Nat} {n i : Nat} (hi : i < n) : i < aft lv n i ∧ aft lv n i ≤ n ∧ (∀ k, i < k → k < aft lv n i → lv i < lv k) ∧ (aft lv n i < n → lv (aft lv n i) ≤ lv i) := by
  obtain ⟨h1, h2, h3, h4⟩ := t_aft_ge lv (lv i) (n - (i + 1)) (i + 1)
  refine ⟨by unfold aft; omega, by unfold aft; omega, fun k k1 k2 => h3 k k1 k2, fun q => h4 (by unfold aft at q; omega)⟩
theorem aft_uniq {lv : Nat → Nat} {n i e : Nat} (hi : i < n) (h1 : i < e) (h2 : e ≤ n) (h3 : ∀ k, i < k → k < e → lv i < lv k) (h4 : e < n → lv e ≤ lv i) : aft lv n i = e := by
  obtain ⟨a1, a2, a3, a4⟩ := aft_spec (lv := lv) hi
  rcases Nat.lt_trichotomy (aft lv n i) e with h | h | h
  · have := h3 _ a1 h; have := a4 (by omega); omega
  · exact h
  · have := a3 _ h1 h; have := h4 (by omega); omega
section
variable {s : o_S} {n N : Nat} {kd lv dp : Nat → Nat} {w : Nat → List Int32}
theorem ct_at (h : CT s n kd lv dp w) {i : Nat} (hi : i < n) (f : Nat) (hf : f < 7) : o_at s 3 (nI i * (7 : Int32) + nI f) = tg s i f := by
  obtain ⟨h1, h2, h3, -⟩ := h
  rw [ni7, at_in (by omega) (by omega)]
  rfl
theorem ct_get (h : CT s n kd lv dp w) {i : Nat} (hi : i < n) (f : Nat) (hf : f < 7) : f_X5_get N (nI i) (nI f) s = some (tg s i f, s) := by
  unfold f_X5_get
  rw [do_e, ct_at h hi f hf]
theorem ct_lv (h : CT s n kd lv dp w) {i : Nat} (hi : i < n) : f_X5_get N (nI i) (1 : Int32) s = some (nI (lv i), s) := by
  rw [← (h.2.2.2.2.1 i hi).2.2.1]; exact ct_get h hi 1 (by decide)
theorem ct_is (h : CT s n kd lv dp w) {i : Nat} (hi : i < n) (k : Nat) (hk : k ≤ 4) : f_X5_is N (nI i) (nI k) s = some (if kd i = k then 1 else 0, s) := by
  have e := ct_at h hi 0 (by decide)
  have e1 := (h.2.2.2.2.1 i hi)
  unfold f_X5_is
  rw [do_e, show (0 : Int32) = nI 0 from rfl, e, e1.1, if_ni_eq (by omega) (by omega)]
  by_cases q : kd i = k
  · rw [if_pos q, if_pos q]
  · rw [if_neg q, if_neg q]
theorem ct_after_L (h : CT s n kd lv dp w) {L : Nat} (hL : L ≤ 1300) : ∀ (d e m : Nat), e + d = n → d < m → f_X5_after_L18 N m (nI L) (nI e) s = some (nI (t_aft lv L d e), s) := by
  obtain ⟨h1, h2, h3, -⟩ := id h
  intro d
  induction d with
  | zero =>
    intro e m he hm
    obtain ⟨m, rfl⟩ : ∃ m', m = m' + 1 := ⟨m - 1, by omega⟩
    rw [f_X5_after_L18, h2, if_pos (nI_le (by omega) (by omega))]
    rfl
  | succ d ih =>
    intro e m he hm
    obtain ⟨m, rfl⟩ : ∃ m', m = m' + 1 := ⟨m - 1, by omega⟩
    have e1 := (h.2.2.2.2.1 e (by omega))
    rw [f_X5_after_L18, h2, if_neg (fun q => absurd ((nI_leI (by omega) (by omega)).mp q) (by omega)), do_e, show (1 : Int32) = nI 1 from rfl, ct_at h (by omega) 1 (by decide), e1.2.2.1, t_aft, if_ni_le (by omega) (by omega)]
    by_cases q : lv e ≤ L
    · rw [if_pos q, if_pos q]
    · rw [if_neg q, if_neg q, nI_add]
      exact ih (e + 1) m (by omega) (by omega)
theorem ct_after (h : CT s n kd lv dp w) (hN : 2000 ≤ N) {i : Nat} (hi : i < n) : f_X5_after N (nI i) s = some (nI (aft lv n i), s) := by
  have e1 := (h.2.2.2.2.1 i hi)
  have h3 := h.2.2.1
  unfold f_X5_after
  rw [do_e, show (1 : Int32) = nI 1 from rfl, ct_at h hi 1 (by decide), e1.2.2.1, nI_add]
  exact ct_after_L h (by omega) _ _ N (by omega) (by omega)
theorem ct_count_L (h : CT s n kd lv dp w) {L : Nat} (hL : L ≤ 1301) : ∀ (d e c m : Nat), e + d ≤ n → c ≤ e → d < m → f_X5_countChildren_L23 N m (nI (e + d)) (nI L) (nI c) (nI e) s = some (nI (c + t_cnt lv L d e), s) := by
  obtain ⟨h1, h2, h3, -⟩ := id h
  intro d
  induction d with
  | zero =>
    intro e c m he hc hm
    obtain ⟨m, rfl⟩ : ∃ m', m = m' + 1 := ⟨m - 1, by omega⟩
    rw [f_X5_countChildren_L23, if_pos (nI_le (by omega) (by omega))]
    rfl
  | succ d ih =>
    intro e c m he hc hm
    obtain ⟨m, rfl⟩ : ∃ m', m = m' + 1 := ⟨m - 1, by omega⟩
    have e1 := (h.2.2.2.2.1 e (by omega))
    rw [f_X5_countChildren_L23, if_neg (fun q => absurd ((nI_leI (by omega) (by omega)).mp q) (by omega)), ct_lv h (by omega), bi_s, t_cnt, if_ni_eq (by omega) (by omega)]
    have ea : e + (d + 1) = (e + 1) + d := by omega
    by_cases q : lv e = L
    · rw [if_pos q, if_pos q, ea, nI_1, nI_1]
      rw [ih (e + 1) (c + 1) m (by omega) (by omega) (by omega)]
      congr 3; omega
    · rw [if_neg q, if_neg q, ea, nI_1]
      rw [ih (e + 1) c m (by omega) (by omega) (by omega)]
      congr 3; omega
theorem ct_count (h : CT s n kd lv dp w) (hN : 2000 ≤ N) {i : Nat} (hi : i < n) : f_X5_countChildren N (nI i) s = some (nI (t_cnt lv (lv i + 1) (aft lv n i - (i + 1)) (i + 1)), s) := by
  have e1 := (h.2.2.2.2.1 i hi)
  have h3 := h.2.2.1
  obtain ⟨a1, a2, -, -⟩ := aft_spec (lv := lv) hi
  unfold f_X5_countChildren
  rw [ct_after h hN hi, bi_s, ct_lv h hi, bi_s, nI_1, nI_1]
  have := ct_count_L (N := N) h (L := lv i + 1) (by omega) (aft lv n i - (i + 1)) (i + 1) 0 N (by omega) (by omega) (by omega)
  rw [show i + 1 + (aft lv n i - (i + 1)) = aft lv n i by omega, Nat.zero_add] at this
  exact this
theorem ct_nth_L (h : CT s n kd lv dp w) {L : Nat} (hL : L ≤ 1301) (x : Int32) : ∀ (d e c m : Nat), e + d ≤ n → c ≤ e → d < m → f_X5_nthChild_L24 N m x (nI (e + d)) (nI L) (nI c) (nI e) s = some (t_nth lv L x d c e, s) := by
  obtain ⟨h1, h2, h3, -⟩ := id h
  intro d
  induction d with
  | zero =>
    intro e c m he hc hm
    obtain ⟨m, rfl⟩ : ∃ m', m = m' + 1 := ⟨m - 1, by omega⟩
    rw [f_X5_nthChild_L24, if_pos (nI_le (by omega) (by omega))]
    rfl
  | succ d ih =>
    intro e c m he hc hm
    obtain ⟨m, rfl⟩ : ∃ m', m = m' + 1 := ⟨m - 1, by omega⟩
    have e1 := (h.2.2.2.2.1 e (by omega))
    rw [f_X5_nthChild_L24, if_neg (fun q => absurd ((nI_leI (by omega) (by omega)).mp q) (by omega)), ct_lv h (by omega), bi_s, t_nth, if_ni_eq (by omega) (by omega)]
    have ea : e + (d + 1) = (e + 1) + d := by omega
    by_cases q : lv e = L
    · rw [if_pos q, if_pos q]
      by_cases q2 : nI c = x
      · rw [if_pos q2, if_pos q2]
      · rw [if_neg q2, if_neg q2, ea, nI_1, nI_1]
        exact ih (e + 1) (c + 1) m (by omega) (by omega) (by omega)
    · rw [if_neg q, if_neg q, ea, nI_1]
      exact ih (e + 1) c m (by omega) (by omega) (by omega)
theorem ct_nth (h : CT s n kd lv dp w) (hN : 2000 ≤ N) {i : Nat} (hi : i < n) (x : Int32) : f_X5_nthChild N (nI i) x s = some (t_nth lv (lv i + 1) x (aft lv n i - (i + 1)) 0 (i + 1), s) := by
  have e1 := (h.2.2.2.2.1 i hi)
  have h3 := h.2.2.1
  obtain ⟨a1, a2, -, -⟩ := aft_spec (lv := lv) hi
  unfold f_X5_nthChild
  rw [ct_after h hN hi, bi_s, ct_lv h hi, bi_s, nI_1, nI_1]
  have := ct_nth_L (N := N) h (L := lv i + 1) (by omega) x (aft lv n i - (i + 1)) (i + 1) 0 N (by omega) (by omega) (by omega)
  rw [show i + 1 + (aft lv n i - (i + 1)) = aft lv n i by omega] at this
  exact this
theorem ni_m1 {k : Nat} (h : 0 < k) : nI k + (-1) = nI (k - 1) := by
  obtain ⟨j, rfl⟩ : ∃ j, k = j + 1 := ⟨k - 1, by omega⟩
  exact pk_m1 j
theorem ct_last_L (h : CT s n kd lv dp w) {L i : Nat} (hL : L ≤ 1301) : ∀ (d m : Nat), i + d < n → d < m → f_X5_lastChild_L20 N m (nI i) (nI L) (nI (i + d)) s = some (t_last lv L d (i + d), s) := by
  obtain ⟨h1, h2, h3, -⟩ := id h
  intro d
  induction d with
  | zero =>
    intro m he hm
    obtain ⟨m, rfl⟩ : ∃ m', m = m' + 1 := ⟨m - 1, by omega⟩
    rw [f_X5_lastChild_L20, if_pos (nI_le (by omega) (by omega))]
    rfl
  | succ d ih =>
    intro m he hm
    obtain ⟨m, rfl⟩ : ∃ m', m = m' + 1 := ⟨m - 1, by omega⟩
    have e1 := (h.2.2.2.2.1 (i + (d + 1)) (by omega))
    rw [f_X5_lastChild_L20, if_neg (fun q => absurd ((nI_leI (by omega) (by omega)).mp q) (by omega)), ct_lv h (by omega), bi_s, t_last, if_ni_eq (by omega) (by omega)]
    by_cases q : lv (i + (d + 1)) = L
    · rw [if_pos q, if_pos q]
    · rw [if_neg q, if_neg q, ni_m1 (by omega), show i + (d + 1) - 1 = i + d by omega]
      exact ih m (by omega) (by omega)
theorem ct_last (h : CT s n kd lv dp w) (hN : 2000 ≤ N) {i : Nat} (hi : i < n) : f_X5_lastChild N (nI i) s = some (t_last lv (lv i + 1) (aft lv n i - (i + 1)) (aft lv n i - 1), s) := by
  have e1 := (h.2.2.2.2.1 i hi)
  have h3 := h.2.2.1
  obtain ⟨a1, a2, -, -⟩ := aft_spec (lv := lv) hi
  unfold f_X5_lastChild
  rw [ct_after h hN hi, bi_s, ct_lv h hi, bi_s, nI_1, show (1 : Int32) = nI 1 from rfl, pk_sub (by omega)]
  have := ct_last_L (N := N) h (L := lv i + 1) (i := i) (by omega) (aft lv n i - (i + 1)) N (by omega) (by omega)
  rw [show i + (aft lv n i - (i + 1)) = aft lv n i - 1 by omega] at this
  exact this
theorem ct_par_L (h : CT s n kd lv dp w) {L : Nat} (hL : L ≤ 1300) : ∀ (d m : Nat), d < n → d + 1 < m → f_X5_holder_L11 N m (nI L) (nI d) s = some (t_par lv L (d + 1), s) := by
  obtain ⟨h1, h2, h3, -⟩ := id h
  intro d
  induction d with
  | zero =>
    intro m he hm
    obtain ⟨m, rfl⟩ : ∃ m', m = m' + 1 := ⟨m - 1, by omega⟩
    have e1 := (h.2.2.2.2.1 0 (by omega))
    rw [f_X5_holder_L11, if_neg (nI_pos (by omega)), ct_lv h (by omega), bi_s, t_par, if_ni_le (by omega) (by omega)]
    by_cases q : L ≤ lv 0
    · obtain ⟨m, rfl⟩ : ∃ m', m = m' + 1 := ⟨m - 1, by omega⟩
      rw [if_pos q, if_neg (by omega), f_X5_holder_L11, if_pos (by decide)]; rfl
    · rw [if_neg q, if_pos (by omega)]
  | succ d ih =>
    intro m he hm
    obtain ⟨m, rfl⟩ : ∃ m', m = m' + 1 := ⟨m - 1, by omega⟩
    have e1 := (h.2.2.2.2.1 (d + 1) (by omega))
    rw [f_X5_holder_L11, if_neg (nI_pos (by omega)), ct_lv h (by omega), bi_s, t_par, if_ni_le (by omega) (by omega)]
    by_cases q : L ≤ lv (d + 1)
    · rw [if_pos q, if_neg (by omega), pk_m1]
      exact ih m (by omega) (by omega)
    · rw [if_neg q, if_pos (by omega)]
theorem ct_par (h : CT s n kd lv dp w) (hN : 2000 ≤ N) {i : Nat} (hi : i < n) : f_X5_holder N (nI i) s = some (t_par lv (lv i) i, s) := by
  have e1 := (h.2.2.2.2.1 i hi)
  have h3 := h.2.2.1
  unfold f_X5_holder
  rw [ct_lv h hi, bi_s]
  cases i with
  | zero =>
    obtain ⟨m, rfl⟩ : ∃ m', N = m' + 1 := ⟨N - 1, by omega⟩
    rw [f_X5_holder_L11, if_pos (by decide)]; rfl
  | succ i =>
    rw [show (1 : Int32) = nI 1 from rfl, pk_sub (by omega)]
    exact ct_par_L h (by omega) i N (by omega) (by omega)
theorem ct_letter (h : CT s n kd lv dp w) {i : Nat} (hi : i < n) (hk : kd i = 2) (x : Int32) : f_X5_letterOf N (nI i) x s = some (if x < 0 then -1 else if nI (w i).length ≤ x then -1 else (w i).getD x.toNatClampNeg 0, s) := by
  obtain ⟨h1, h2, h3, h4, -, h6⟩ := id h
  obtain ⟨e5, a, e6, ha, hj⟩ := h6 i hi hk
  unfold f_X5_letterOf
  by_cases q : x < 0
  · rw [if_pos q, if_pos q]; unfold f_X5_letterOf_b26; rw [if_pos rfl]
  · rw [if_neg q, if_neg q, do_e, show (5 : Int32) = nI 5 from rfl, ct_at h hi 5 (by decide), e5]
    by_cases q2 : nI (w i).length ≤ x
    · rw [if_pos q2, if_pos q2]; unfold f_X5_letterOf_b26; rw [if_pos rfl]
    · rw [if_neg q2, if_neg q2]; unfold f_X5_letterOf_b26; rw [if_neg (by decide), do_e, show (6 : Int32) = nI 6 from rfl, ct_at h hi 6 (by decide), e6, do_e]
      obtain ⟨j, hj31, rfl⟩ := nI_of q
      have hjl : j < (w i).length := by
        rcases Nat.lt_or_ge j (w i).length with z | z
        · exact z
        · exact absurd (nI_le z hj31) q2
      rw [nI_add, at_in (by omega) (by omega), nI_clamp hj31, hj j hjl]
end
