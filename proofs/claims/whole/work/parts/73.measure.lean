/-! HOW DEEP AN ITEM IS INSIDE; THE PLACE FOR AN INDEX; THE CARRYING -/
def t_mx (kd f : Nat → Nat) : Nat → Nat → Nat → Nat
  | 0, _, c => c
  | d + 1, e, c => t_mx kd f d (e + 1) (if kd e = 0 ∨ kd e = 4 then (if c < f e then f e else c) else c)
theorem t_mx_spec (kd f : Nat → Nat) : ∀ d e c, c ≤ t_mx kd f d e c ∧ ∀ k, e ≤ k → k < e + d → (kd k = 0 ∨ kd k = 4) → f k ≤ t_mx kd f d e c := by
  intro d
  induction d with
  | zero => intro e c; exact ⟨Nat.le_refl _, fun k k1 k2 => by omega⟩
  | succ d ih =>
    intro e c
    rw [t_mx]
    obtain ⟨i1, i2⟩ := ih (e + 1) (if kd e = 0 ∨ kd e = 4 then (if c < f e then f e else c) else c)
    have h1 : c ≤ (if kd e = 0 ∨ kd e = 4 then (if c < f e then f e else c) else c) := by split <;> (try split) <;> omega
    refine ⟨Nat.le_trans h1 i1, fun k k1 k2 hk => ?_⟩
    rcases Nat.eq_or_lt_of_le k1 with z | z
    · subst z
      rw [if_pos hk] at i1 ⊢
      refine Nat.le_trans ?_ i1
      split <;> omega
    · exact i2 k (by omega) (by omega) hk
theorem t_mx_le (kd f : Nat → Nat) {B : Nat} : ∀ d e c, c ≤ B → (∀ k, e ≤ k → k < e + d → f k ≤ B) → t_mx kd f d e c ≤ B := by
  intro d
  induction d with
  | zero => intro e c h _; exact h
  | succ d ih =>
    intro e c h h2
    rw [t_mx]
    refine ih _ _ ?_ (fun k k1 k2 => h2 k (by omega) (by omega))
    have := h2 e (Nat.le_refl _) (by omega)
    split <;> (try split) <;> omega
theorem ni_max {a b : Nat} (ha : a < 2 ^ 31) (hb : b < 2 ^ 31) : (if nI a < nI b then nI b else nI a) = nI (if a < b then b else a) := by
  rw [if_ni_lt ha hb]; split <;> rfl
section
variable {s : o_S} {n N i : Nat} {kd lv dp : Nat → Nat} {w : Nat → List Int32} {ids : Nat → Nat}
theorem ct_dp (h : CT s n kd lv dp w) {k : Nat} (hk : k < n) : f_X5_get N (nI k) (2 : Int32) s = some (nI (dp k), s) := by
  rw [← (h.2.2.2.2.1 k hk).2.2.2.2.1]; exact ct_get h hk 2 (by decide)
theorem ct_nest (h : CT s n kd lv dp w) (hT : TI n kd lv dp) {k : Nat} (hk : k < n) (h1 : kd k ≠ 1) : f_X5_nesting N (nI k) s = some (nI (acn (q_bg kd true) lv k), s) := by
  have := (ti_bg hT k hk).2.2 h1
  unfold f_X5_nesting
  rw [ct_lv h hk, bi_s, ct_dp h hk, bi_s, ni_sub (by omega), show lv k - dp k = acn (q_bg kd true) lv k by omega]
theorem ct_inner_L (h : CT s n kd lv dp w) (hT : TI n kd lv dp) (hi : i < n) (hk : kd i = 1) : ∀ d e c m, e + d = aft lv n i → i < e → d < m → c ≤ 2000 → f_X5_innerNesting_L23 N m (nI (aft lv n i)) (nI (dp i) - (1 : Int32)) (nI c) (nI e) s = some (nI (t_mx kd (fun k => acn (q_bg kd true) lv k + 1 - dp i) d e c), s) := by
  obtain ⟨a1, a2, a3, a4⟩ := aft_spec (lv := lv) hi
  have hn := hT.1.2.1
  have hb := (ti_bg hT i hi).1 hk
  intro d
  induction d with
  | zero =>
    intro e c m he hie hm hc
    obtain ⟨m, rfl⟩ : ∃ m', m = m' + 1 := ⟨m - 1, by omega⟩
    rw [f_X5_innerNesting_L23, if_pos (nI_le (by omega) (by omega))]; rfl
  | succ d ih =>
    intro e c m he hie hm hc
    obtain ⟨m, rfl⟩ : ∃ m', m = m' + 1 := ⟨m - 1, by omega⟩
    have hen : e < n := by omega
    have hm1 := sub_acn hT.1 (q_bg kd true) hi e (by omega) (by omega)
    have hm2 := acn_le hT.1 (q_bg kd true) (fun j => q_bg_le kd true j) e hen
    have b49 : kd e ≠ 1 → f_X5_innerNesting_b49 N (f_X5_innerNesting_L23 N m) (nI (aft lv n i)) (nI (dp i) - (1 : Int32)) (nI c) (nI e) s = some (nI (t_mx kd (fun k => acn (q_bg kd true) lv k + 1 - dp i) d (e + 1) (if c < acn (q_bg kd true) lv e + 1 - dp i then acn (q_bg kd true) lv e + 1 - dp i else c)), s) := by
      intro hne
      unfold f_X5_innerNesting_b49
      rw [ct_nest h hT hen hne, bi_s, ni_s1 (by omega), ni_sub (by omega), ni_max (by omega) (by omega), nI_1, show acn (q_bg kd true) lv e - (dp i - 1) = acn (q_bg kd true) lv e + 1 - dp i by omega]
      have := ih (e + 1) (if c < acn (q_bg kd true) lv e + 1 - dp i then acn (q_bg kd true) lv e + 1 - dp i else c) m (by omega) (by omega) (by omega) (by split <;> omega)
      rw [ni_s1 (by omega)] at this
      exact this
    rw [f_X5_innerNesting_L23, if_neg (fun q => absurd ((nI_leI (by omega) (by omega)).mp q) (by omega)), show (0 : Int32) = nI 0 from rfl, ct_is h hen 0 (by decide), bi_s, t_mx]
    by_cases q0 : kd e = 0
    · rw [if_pos q0, if_neg (by decide), b49 (by omega), if_pos (Or.inl q0)]
    · rw [if_neg q0, if_pos (by rfl), show (4 : Int32) = nI 4 from rfl, ct_is h hen 4 (by decide), bi_s]
      by_cases q4 : kd e = 4
      · rw [if_pos q4, if_neg (by decide), b49 (by omega), if_pos (Or.inr q4)]
      · rw [if_neg q4, if_pos (by rfl), if_neg (by omega), nI_1]
        exact ih (e + 1) c m (by omega) (by omega) (by omega) hc
theorem ct_inner (h : CT s n kd lv dp w) (hT : TI n kd lv dp) (hN : 2000 ≤ N) (hi : i < n) (hk : kd i = 1) : f_X5_innerNesting N (nI i) s = some (nI (t_mx kd (fun k => acn (q_bg kd true) lv k + 1 - dp i) (aft lv n i - (i + 1)) (i + 1) 0), s) := by
  obtain ⟨a1, a2, -, -⟩ := aft_spec (lv := lv) hi
  have hn := hT.1.2.1
  unfold f_X5_innerNesting
  rw [ct_after h hN hi, bi_s, ct_dp h hi, bi_s, nI_1]
  exact ct_inner_L h hT hi hk _ _ 0 N (by omega) (by omega) (by omega) (by omega)
theorem lk_height_L (h : LK n lv ids s) (hT : TI n kd lv dp) (hK : ∀ i, i < n → o_A s 1 (ids i) = nI (kd i) ∧ kd i ≤ 4) (hN : 2000 ≤ N) (hi : i < n) (hk : kd i = 1) : ∀ d e c m, e + d = aft lv n i → i ≤ e → d < m → c ≤ 2000 → f_X7_heightOf_L4 N m (nI (ids i)) (nI c) (if e < aft lv n i then nI (ids e) else -1) s = some (nI (t_mx kd (fun k => acn (q_bg kd true) lv k + 1 - dp i) d e c), s) := by
  obtain ⟨a1, a2, a3, a4⟩ := aft_spec (lv := lv) hi
  have hn := hT.1.2.1
  have hb := (ti_bg hT i hi).1 hk
  intro d
  induction d with
  | zero =>
    intro e c m he hie hm hc
    obtain ⟨m, rfl⟩ : ∃ m', m = m' + 1 := ⟨m - 1, by omega⟩
    rw [if_neg (by omega), f_X7_heightOf_L4, if_pos rfl]; rfl
  | succ d ih =>
    intro e c m he hie hm hc
    obtain ⟨m, rfl⟩ : ∃ m', m = m' + 1 := ⟨m - 1, by omega⟩
    have hen : e < n := by omega
    have hm1 := sub_acn hT.1 (q_bg kd true) hi e hie (by omega)
    have hm2 := acn_le hT.1 (q_bg kd true) (fun j => q_bg_le kd true j) e hen
    have hid := h.1 e hen
    have hf := lk_foll (N := N) h hT.1 hN (r := i) (i := e) hi hie (by omega)
    have b28 : f_X7_heightOf_b28 N (f_X7_heightOf_L4 N m) (nI (ids i)) (nI c) (nI (ids e)) s = some (nI (t_mx kd (fun k => acn (q_bg kd true) lv k + 1 - dp i) d (e + 1) (if c < acn (q_bg kd true) lv e + 1 - dp i then acn (q_bg kd true) lv e + 1 - dp i else c)), s) := by
      unfold f_X7_heightOf_b28
      rw [lk_depth h hT.1 hN hK (wg := true) (g := 1) (by decide) hen, bi_s, lk_depth h hT.1 hN hK (wg := true) (g := 1) (by decide) hi, bi_s, hf, bi_s, hb.2, ni_sub (by omega), nI_1, ni_max (by omega) (by omega), show acn (q_bg kd true) lv e - dp i + 1 = acn (q_bg kd true) lv e + 1 - dp i by omega]
      exact ih (e + 1) _ m (by omega) (by omega) (by omega) (by split <;> omega)
    rw [if_pos (by omega), f_X7_heightOf_L4, if_neg (nI_nm1 (by omega)), ld_ hid (by decide), (hK e hen).1, if_lit 0 0 rfl (by have := (hK e hen).2; omega) (by decide), b28, t_mx]
    by_cases q0 : kd e = 0
    · rw [if_pos q0, if_pos (Or.inl q0)]
    · rw [if_neg q0, ld_ hid (by decide), (hK e hen).1, if_lit 4 4 rfl (by have := (hK e hen).2; omega) (by decide)]
      by_cases q4 : kd e = 4
      · rw [if_pos q4, if_pos (Or.inr q4)]
      · rw [if_neg q4, if_neg (by omega), hf, bi_s]
        exact ih (e + 1) c m (by omega) (by omega) (by omega) hc
theorem lk_height (h : LK n lv ids s) (hT : TI n kd lv dp) (hK : ∀ i, i < n → o_A s 1 (ids i) = nI (kd i) ∧ kd i ≤ 4) (hN : 2000 ≤ N) (hi : i < n) (hk : kd i = 1) : f_X7_heightOf N (nI (ids i)) s = some (nI (t_mx kd (fun k => acn (q_bg kd true) lv k + 1 - dp i) (aft lv n i - (i + 1)) (i + 1) 0), s) := by
  obtain ⟨a1, a2, -, -⟩ := aft_spec (lv := lv) hi
  have hn := hT.1.2.1
  unfold f_X7_heightOf
  have := lk_height_L (N := N) h hT hK hN hi hk (aft lv n i - i) i 0 N (by omega) (Nat.le_refl _) (by omega) (by omega)
  rw [if_pos a1, show aft lv n i - i = (aft lv n i - (i + 1)) + 1 by omega, t_mx, if_neg (show ¬ (kd i = 0 ∨ kd i = 4) by omega)] at this
  exact this
end
/-! the place for an index -/
def t_pf (lv : Nat → Nat) (L i : Nat) (x : Int32) : Nat → Nat → Nat → Int32
  | 0, c, e => if nI c = x then nI e else -1
  | d + 1, c, e => if e = i then t_pf lv L i x d c (e + 1) else if lv e = L then (if nI c = x then nI e else t_pf lv L i x d (c + 1) (e + 1)) else t_pf lv L i x d c (e + 1)
def wo (lv : Nat → Nat) (i k : Nat) : Nat := if k = i then 0 else lv k
theorem t_pf_spec (lv : Nat → Nat) (L i : Nat) (hL : 1 ≤ L) {y : Nat} (hy : y < 2 ^ 31) : ∀ d c e, c + d < 2 ^ 31 → c ≤ y → (y ≤ c + t_cnt (wo lv i) L d e → ∃ pl, e ≤ pl ∧ pl ≤ e + d ∧ (pl < e + d → lv pl = L ∧ pl ≠ i) ∧ c + t_cnt (wo lv i) L (pl - e) e = y ∧ t_pf lv L i (nI y) d c e = nI pl) ∧ (c + t_cnt (wo lv i) L d e < y → t_pf lv L i (nI y) d c e = -1) := by
  intro d
  induction d with
  | zero =>
    intro c e h1 h2
    refine ⟨fun h => ⟨e, Nat.le_refl _, by omega, fun z => by omega, ?_, ?_⟩, fun h => ?_⟩
    · rw [Nat.sub_self]; unfold t_cnt at h ⊢; omega
    · have : c = y := by unfold t_cnt at h; omega
      rw [t_pf, this, if_pos rfl]
    · unfold t_cnt at h; rw [t_pf, if_ni_eq (by omega) hy, if_neg (by omega)]
  | succ d ih =>
    intro c e h1 h2
    have stp : ∀ pl, e + 1 ≤ pl → t_cnt (wo lv i) L (pl - e) e = (if wo lv i e = L then 1 else 0) + t_cnt (wo lv i) L (pl - (e + 1)) (e + 1) := by
      intro pl hp
      rw [show pl - e = (pl - (e + 1)) + 1 by omega, t_cnt]
    have skip : wo lv i e ≠ L → t_pf lv L i (nI y) (d + 1) c e = t_pf lv L i (nI y) d c (e + 1) → (y ≤ c + t_cnt (wo lv i) L (d + 1) e → ∃ pl, e ≤ pl ∧ pl ≤ e + (d + 1) ∧ (pl < e + (d + 1) → lv pl = L ∧ pl ≠ i) ∧ c + t_cnt (wo lv i) L (pl - e) e = y ∧ t_pf lv L i (nI y) (d + 1) c e = nI pl) ∧ (c + t_cnt (wo lv i) L (d + 1) e < y → t_pf lv L i (nI y) (d + 1) c e = -1) := by
      intro hw ht
      obtain ⟨i1, i2⟩ := ih c (e + 1) (by omega) h2
      rw [t_cnt, if_neg hw, Nat.zero_add, ht]
      refine ⟨fun h => ?_, i2⟩
      obtain ⟨pl, p1, p2, p3, p4, p5⟩ := i1 h
      refine ⟨pl, by omega, by omega, fun z => p3 (by omega), ?_, p5⟩
      rw [stp pl p1, if_neg hw, Nat.zero_add]; exact p4
    by_cases q : e = i
    · refine skip (by unfold wo; rw [if_pos q]; omega) ?_
      rw [t_pf, if_pos q]
    · have ew : wo lv i e = lv e := if_neg q
      by_cases q2 : lv e = L
      · rw [t_pf, if_neg q, if_pos q2, if_ni_eq (by omega) hy]
        by_cases q3 : c = y
        · rw [if_pos q3]
          refine ⟨fun _ => ⟨e, Nat.le_refl _, by omega, fun _ => ⟨q2, q⟩, ?_, rfl⟩, fun h => by omega⟩
          rw [Nat.sub_self]; unfold t_cnt; omega
        · rw [if_neg q3]
          obtain ⟨i1, i2⟩ := ih (c + 1) (e + 1) (by omega) (by omega)
          rw [t_cnt, if_pos (by rw [ew]; exact q2)]
          refine ⟨fun h => ?_, fun h => i2 (by omega)⟩
          obtain ⟨pl, p1, p2, p3, p4, p5⟩ := i1 (by omega)
          refine ⟨pl, by omega, by omega, fun z => p3 (by omega), ?_, p5⟩
          rw [stp pl p1, if_pos (by rw [ew]; exact q2)]; omega
      · refine skip (by rw [ew]; exact q2) ?_
        rw [t_pf, if_neg q, if_neg q2]
theorem t_pf_neg (lv : Nat → Nat) (L i : Nat) {x : Int32} (hx : x < 0) : ∀ d c e, c + d < 2 ^ 31 → t_pf lv L i x d c e = -1 := by
  intro d
  induction d with
  | zero =>
    intro c e h
    rw [t_pf, if_neg (fun z => by rw [← z] at hx; exact nI_pos (by omega) hx)]
  | succ d ih =>
    intro c e h
    rw [t_pf, ih _ _ (by omega), ih _ _ (by omega), if_neg (show ¬ nI c = x from fun z => by rw [← z] at hx; exact nI_pos (by omega) hx), ite_self, ite_self]
theorem t_cnt_sh {f g : Nat → Nat} (L : Nat) : ∀ d a b, (∀ j, j < d → f (a + j) = g (b + j)) → t_cnt f L d a = t_cnt g L d b := by
  intro d
  induction d with
  | zero => intro a b _; rfl
  | succ d ih =>
    intro a b h
    rw [t_cnt, t_cnt, show f a = g b from h 0 (by omega), ih (a + 1) (b + 1) (fun j hj => by have := h (j + 1) (by omega); rw [show a + 1 + j = a + (j + 1) by omega, show b + 1 + j = b + (j + 1) by omega]; exact this)]
theorem t_cnt_wo (lv : Nat → Nat) (L i : Nat) (hL : 1 ≤ L) : ∀ d e, t_cnt lv L d e = t_cnt (wo lv i) L d e + (if e ≤ i ∧ i < e + d ∧ lv i = L then 1 else 0) := by
  intro d
  induction d with
  | zero => intro e; rw [t_cnt, t_cnt, if_neg (by omega)]
  | succ d ih =>
    intro e
    rw [t_cnt, t_cnt, ih (e + 1)]
    by_cases q : e = i
    · subst q
      rw [show wo lv e e = 0 from if_pos rfl, if_neg (show ¬ 0 = L by omega), if_neg (show ¬ (e + 1 ≤ e ∧ e < e + 1 + d ∧ lv e = L) by omega)]
      by_cases q2 : lv e = L
      · rw [if_pos q2, if_pos (by omega)]; omega
      · rw [if_neg q2, if_neg (by omega)]; omega
    · rw [show wo lv i e = lv e from if_neg q]
      by_cases q2 : e ≤ i ∧ i < e + (d + 1) ∧ lv i = L
      · rw [if_pos q2, if_pos (show e + 1 ≤ i ∧ i < e + 1 + d ∧ lv i = L by omega)]; omega
      · rw [if_neg q2, if_neg (show ¬ (e + 1 ≤ i ∧ i < e + 1 + d ∧ lv i = L) by omega)]; omega
section
variable {s : o_S} {n N i b pl : Nat} {kd lv dp : Nat → Nat} {w : Nat → List Int32}
theorem ct_place_L (h : CT s n kd lv dp w) (hi : i < n) {L : Nat} (hL : L ≤ 1301) (x : Int32) : ∀ d c e m, e + d ≤ n → d < m → f_X5_placeFor_L25 N m (nI i) x (nI (e + d)) (nI L) (nI c) (nI e) s = some (t_pf lv L i x d c e, s) := by
  have hn := h.2.2.1
  intro d
  induction d with
  | zero =>
    intro c e m he hm
    obtain ⟨m, rfl⟩ : ∃ m', m = m' + 1 := ⟨m - 1, by omega⟩
    rw [f_X5_placeFor_L25, Nat.add_zero, if_pos (nI_le (by omega) (by omega)), t_pf]
    by_cases q : nI c = x
    · rw [if_pos q, if_pos q]
    · rw [if_neg q, if_neg q]
  | succ d ih =>
    intro c e m he hm
    obtain ⟨m, rfl⟩ : ∃ m', m = m' + 1 := ⟨m - 1, by omega⟩
    have e1 := (h.2.2.2.2.1 e (by omega))
    have i1 := ih c (e + 1) m (by omega) (by omega)
    have i2 := ih (c + 1) (e + 1) m (by omega) (by omega)
    rw [show e + 1 + d = e + (d + 1) by omega] at i1 i2
    rw [f_X5_placeFor_L25, if_neg (fun q => absurd ((nI_leI (by omega) (by omega)).mp q) (by omega)), if_ni_eq (by omega) (by omega), t_pf, nI_1, i1, ct_lv h (by omega), bi_s, if_ni_eq (by omega) (by omega), i1, nI_1, i2]
    by_cases q : e = i
    · rw [if_pos q, if_pos q]
    · rw [if_neg q, if_neg q]
      by_cases q2 : lv e = L
      · rw [if_pos q2, if_pos q2]
        by_cases q3 : nI c = x
        · rw [if_pos q3, if_pos q3]
        · rw [if_neg q3, if_neg q3]
      · rw [if_neg q2, if_neg q2]
theorem ct_place (h : CT s n kd lv dp w) (hN : 2000 ≤ N) (hi : i < n) (hb : b < n) (x : Int32) : f_X5_placeFor N (nI i) (nI b) x s = some (t_pf lv (lv b + 1) i x (aft lv n b - (b + 1)) 0 (b + 1), s) := by
  obtain ⟨a1, a2, -, -⟩ := aft_spec (lv := lv) hb
  have hn := h.2.2.1
  have hl := (h.2.2.2.2.1 b hb).2.2.2.1
  unfold f_X5_placeFor
  rw [ct_after h hN hb, bi_s, ct_lv h hb, bi_s, nI_1, nI_1]
  have := ct_place_L (N := N) h hi (L := lv b + 1) (by omega) x (aft lv n b - (b + 1)) 0 (b + 1) N (by omega) (by omega)
  rw [show b + 1 + (aft lv n b - (b + 1)) = aft lv n b by omega] at this
  exact this
theorem par_iff (hW : WL n lv) (h0 : 0 < i) (hi : i < n) (hb : b < n) : p_par lv (lv i) i = b ↔ (b + 1 ≤ i ∧ i < b + 1 + (aft lv n b - (b + 1)) ∧ lv i = lv b + 1) := by
  obtain ⟨p1, p2, p3⟩ := hW.par h0 hi
  obtain ⟨b1, b2, b3, b4⟩ := aft_spec (lv := lv) hb
  constructor
  · intro e
    rw [e] at p1 p2 p3
    refine ⟨by omega, ?_, by omega⟩
    rcases Nat.lt_or_ge i (aft lv n b) with z | z
    · omega
    · have y := b4 (by omega)
      rcases Nat.eq_or_lt_of_le z with u | u
      · rw [u] at y; omega
      · have := p3 _ b1 u; omega
  · intro ⟨e1, e2, e3⟩
    exact pp_uniq (by rw [hW.2.2.1]; exact hW.pos h0 hi) (by omega) (by omega) (fun k k1 k2 => by have := b3 k k1 (by omega); omega)
/-- the index in the tree without the item -/
theorem pl_cnt (h : PL n lv i b pl) : t_cnt (fun x => lv (rg i (aft lv n i - i) x)) (lv b + 1) (ug i (aft lv n i - i) pl - (ug i (aft lv n i - i) b + 1)) (ug i (aft lv n i - i) b + 1) = t_cnt (wo lv i) (lv b + 1) (pl - (b + 1)) (b + 1) := by
  obtain ⟨o1, o2⟩ := h.out
  obtain ⟨hW, h0, hi, hb, hbi, hnb, h1, h2, h3⟩ := h
  obtain ⟨a1, a2, a3, a4⟩ := aft_spec (lv := lv) hi
  obtain ⟨b1, b2, b3, b4⟩ := aft_spec (lv := lv) hb
  rcases o2 with o2 | o2
  · have eb : ug i (aft lv n i - i) b = b := if_pos (by omega)
    rw [eb]
    rcases o1 with o1 | o1
    · have ep : ug i (aft lv n i - i) pl = pl := if_pos o1
      rw [ep]
      refine t_cnt_sh _ _ _ _ (fun j hj => ?_)
      show lv (rg i _ (b + 1 + j)) = wo lv i (b + 1 + j)
      rw [rg_lt (by omega), show wo lv i (b + 1 + j) = lv (b + 1 + j) from if_neg (by omega)]
    · have ep : ug i (aft lv n i - i) pl = pl - (aft lv n i - i) := if_neg (by omega)
      have li := b3 i o2 (by omega)
      have c1 := t_cnt_app (wo lv i) (lv b + 1) (i - (b + 1)) ((aft lv n i - i) + (pl - aft lv n i)) (b + 1)
      have c2 := t_cnt_app (wo lv i) (lv b + 1) (aft lv n i - i) (pl - aft lv n i) i
      have c3 := t_cnt_app (fun x => lv (rg i (aft lv n i - i) x)) (lv b + 1) (i - (b + 1)) (pl - aft lv n i) (b + 1)
      rw [show i - (b + 1) + ((aft lv n i - i) + (pl - aft lv n i)) = pl - (b + 1) by omega, show b + 1 + (i - (b + 1)) = i by omega] at c1
      rw [show i + (aft lv n i - i) = aft lv n i by omega, t_cnt_none (wo lv i) (lv b + 1) (aft lv n i - i) i (fun k k1 k2 => by
        unfold wo
        rcases Nat.eq_or_lt_of_le k1 with z | z
        · rw [if_pos z.symm]; omega
        · rw [if_neg (by omega)]; have := a3 k z (by omega); omega)] at c2
      rw [show i - (b + 1) + (pl - aft lv n i) = pl - (aft lv n i - i) - (b + 1) by omega, show b + 1 + (i - (b + 1)) = i by omega] at c3
      have s1 := t_cnt_sh (f := fun x => lv (rg i (aft lv n i - i) x)) (g := wo lv i) (lv b + 1) (i - (b + 1)) (b + 1) (b + 1) (fun j hj => by
        show lv (rg i _ (b + 1 + j)) = wo lv i (b + 1 + j)
        rw [rg_lt (by omega), show wo lv i (b + 1 + j) = lv (b + 1 + j) from if_neg (by omega)])
      have s2 := t_cnt_sh (f := fun x => lv (rg i (aft lv n i - i) x)) (g := wo lv i) (lv b + 1) (pl - aft lv n i) i (aft lv n i) (fun j hj => by
        show lv (rg i _ (i + j)) = wo lv i (aft lv n i + j)
        rw [rg_ge (by omega), show wo lv i (aft lv n i + j) = lv (aft lv n i + j) from if_neg (by omega)]; congr 1; omega)
      rw [ep]; omega
  · have eb : ug i (aft lv n i - i) b = b - (aft lv n i - i) := if_neg (by omega)
    have ep : ug i (aft lv n i - i) pl = pl - (aft lv n i - i) := if_neg (by omega)
    rw [eb, ep, show pl - (aft lv n i - i) - (b - (aft lv n i - i) + 1) = pl - (b + 1) by omega]
    refine t_cnt_sh _ _ _ _ (fun j hj => ?_)
    show lv (rg i _ (b - (aft lv n i - i) + 1 + j)) = wo lv i (b + 1 + j)
    rw [rg_ge (by omega), show wo lv i (b + 1 + j) = lv (b + 1 + j) from if_neg (by omega)]; congr 1; omega
end
