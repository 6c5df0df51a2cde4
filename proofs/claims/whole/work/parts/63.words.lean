/-! WORDCOUNT, DIGEST -/
section
variable {N e n : Nat} {s : o_S} {T l : List Int32} {kd lv dp : Nat → Nat} {w : Nat → List Int32} {ids : Nat → Nat}
theorem cs_L (h : CT s n kd lv dp w) {i j : Nat} (hi : i < n) (hj : j < n) (ki : kd i = 2) (kj : kd j = 2) (hl : (w i).length ≤ 600) (hw : (w i).length = (w j).length) : ∀ d q M, q + d = (w i).length → f_X5_areSame_L22 N (M + d + 1) (nI i) (nI j) (nI (w i).length) (nI q) s = some (if (w i).drop q = (w j).drop q then 1 else 0, s) := by
  intro d
  induction d with
  | zero =>
    intro q M hq
    unfold f_X5_areSame_L22
    rw [if_pos (nI_le (by omega) (by omega)), List.drop_of_length_le (by omega), List.drop_of_length_le (by omega), if_pos rfl]
  | succ d ih =>
    intro q M hq
    rw [show M + (d + 1) + 1 = (M + d + 1) + 1 by omega]
    unfold f_X5_areSame_L22
    rw [if_neg (fun z => absurd ((nI_leI (by omega) (by omega)).mp z) (by omega)), ct_letter h hi ki, bi_s, ct_letter h hj kj, bi_s, if_neg (nI_pos (by omega)), if_neg (fun z => absurd ((nI_leI (by omega) (by omega)).mp z) (by omega)), if_neg (nI_pos (by omega)), if_neg (fun z => absurd ((nI_leI (by omega) (by omega)).mp z) (by omega)), nI_clamp (by omega), ni_p1, ih (q + 1) M (by omega), dr_ (show q < (w j).length by omega), dr_ (show q < (w i).length by omega)]
    by_cases c : (w i).getD q 0 = (w j).getD q 0
    · rw [if_pos c, c]
      by_cases c2 : (w i).drop (q + 1) = (w j).drop (q + 1)
      · rw [if_pos c2, c2, if_pos rfl]
      · rw [if_neg c2, if_neg (fun z => c2 (List.cons.inj z).2)]
    · rw [if_neg c, if_neg (fun z => c (List.cons.inj z).1)]
theorem cs_ (hN : 2000 ≤ N) (h : IV s T n kd lv dp w ids) {i j : Nat} (hi : i < n) (hj : j < n) (ki : kd i = 2) (kj : kd j = 2) : f_X5_areSame N (nI i) (nI j) s = some (if w i = w j then 1 else 0, s) := by
  obtain ⟨ei, -⟩ := h.ct.2.2.2.2.2 i hi ki
  obtain ⟨ej, -⟩ := h.ct.2.2.2.2.2 j hj kj
  have li := h.wlen hi ki
  have lj := h.wlen hj kj
  unfold f_X5_areSame
  rw [show (5 : Int32) = nI 5 from rfl, ct_get h.ct hi 5 (by decide), bi_s, ct_get h.ct hj 5 (by decide), bi_s, ei, ej, if_ni_eq (by omega) (by omega)]
  by_cases c : (w i).length = (w j).length
  · have := cs_L (N := N) h.ct hi hj ki kj li c (w i).length 0 (N - (w i).length - 1) (by omega)
    rw [show N - (w i).length - 1 + (w i).length + 1 = N by omega, List.drop_zero, List.drop_zero] at this
    rw [if_pos c]; exact this
  · rw [if_neg c, if_neg (fun q => c (by rw [q]))]
theorem ms_L (h : IV s T n kd lv dp w ids) {i j : Nat} (hi : i < n) (hj : j < n) (ki : kd i = 2) (kj : kd j = 2) (hw : (w i).length = (w j).length) : ∀ d q M, q + d = (w i).length → f_X7_areSame_L34 N (M + d + 1) (nI (ids i)) (nI (ids j)) (nI q) s = some (if (w i).drop q = (w j).drop q then 1 else 0, s) := by
  obtain ⟨a, ha, hb, hc⟩ := h.rm.2.2.2.2.2 i hi ki
  obtain ⟨a', ha', hb', hc'⟩ := h.rm.2.2.2.2.2 j hj kj
  obtain ⟨ei, -⟩ := h.ct.2.2.2.2.2 i hi ki
  have e7 : o_A s 7 (ids i) = nI (w i).length := (h.rm.2.2.2.2.1 i hi).2.2.2.trans ei
  have di := h.id hi
  have dj := h.id hj
  intro d
  induction d with
  | zero =>
    intro q M hq
    unfold f_X7_areSame_L34
    rw [ld_ di (by decide), e7, if_pos (nI_le (by omega) (by omega)), List.drop_of_length_le (by omega), List.drop_of_length_le (by omega), if_pos rfl]
  | succ d ih =>
    intro q M hq
    rw [show M + (d + 1) + 1 = (M + d + 1) + 1 by omega]
    unfold f_X7_areSame_L34
    rw [ld_ di (by decide), e7, if_neg (fun z => absurd ((nI_leI (by omega) (by omega)).mp z) (by omega)), ld_ di (by decide), ha, nI_add, ld_ (show a + q < 12600 by omega) (by decide), ld_ dj (by decide), ha', nI_add, ld_ (show a' + q < 12600 by omega) (by decide), hc q (by omega), hc' q (by omega), ni_p1, ih (q + 1) M (by omega), dr_ (show q < (w j).length by omega), dr_ (show q < (w i).length by omega)]
    by_cases c : (w i).getD q 0 = (w j).getD q 0
    · rw [if_pos c, c]
      by_cases c2 : (w i).drop (q + 1) = (w j).drop (q + 1)
      · rw [if_pos c2, c2, if_pos rfl]
      · rw [if_neg c2, if_neg (fun z => c2 (List.cons.inj z).2)]
    · rw [if_neg c, if_neg (fun z => c (List.cons.inj z).1)]
theorem ms_ (hN : 2000 ≤ N) (h : IV s T n kd lv dp w ids) {i j : Nat} (hi : i < n) (hj : j < n) (kj : kd j = 2) : f_X7_areSame N (nI (ids i)) (nI (ids j)) s = some (if kd i = 2 ∧ w i = w j then 1 else 0, s) := by
  have di := h.id hi
  have dj := h.id hj
  have hk4 := (h.ct.2.2.2.2.1 i hi).2.1
  unfold f_X7_areSame
  rw [ld_ di (by decide), ld_ dj (by decide), h.kk hi, h.kk hj, kj, if_ni_eq (by omega) (by decide)]
  by_cases ki : kd i = 2
  · obtain ⟨ei, -⟩ := h.ct.2.2.2.2.2 i hi ki
    obtain ⟨ej, -⟩ := h.ct.2.2.2.2.2 j hj kj
    have li := h.wlen hi ki
    have lj := h.wlen hj kj
    rw [if_pos ki, ld_ di (by decide), ld_ dj (by decide), (h.rm.2.2.2.2.1 i hi).2.2.2, (h.rm.2.2.2.2.1 j hj).2.2.2, ei, ej, if_ni_eq (by omega) (by omega)]
    by_cases c : (w i).length = (w j).length
    · have := ms_L (N := N) h hi hj ki kj c (w i).length 0 (N - (w i).length - 1) (by omega)
      rw [show N - (w i).length - 1 + (w i).length + 1 = N by omega, List.drop_zero, List.drop_zero] at this
      rw [if_pos c]
      refine this.trans ?_
      congr 2
      by_cases c3 : w i = w j
      · rw [if_pos c3, if_pos ⟨ki, c3⟩]
      · rw [if_neg c3, if_neg (fun q => c3 q.2)]
    · rw [if_neg c, if_neg (fun q => c (by rw [q.2]))]
  · rw [if_neg ki, if_neg (fun q => ki q.1)]
def nw_ (kd : Nat → Nat) (w : Nat → List Int32) (j : Nat) : Nat → Nat → Bool
  | 0, _ => true
  | d + 1, i => if kd i = 2 ∧ w i = w j then false else nw_ kd w j d (i + 1)
def cw_ (kd : Nat → Nat) (w : Nat → List Int32) : Nat → Nat → Nat
  | 0, _ => 0
  | d + 1, j => (if kd j = 2 ∧ nw_ kd w j j 0 = true then 1 else 0) + cw_ kd w d (j + 1)
theorem cn_L (hN : 2000 ≤ N) (h : IV s T n kd lv dp w ids) {j : Nat} (hj : j < n) (kj : kd j = 2) : ∀ d i M, i + d = j → f_X5_isNewWord_L2 N (M + d + 1) (nI j) (nI i) s = some (if nw_ kd w j d i then 1 else 0, s) := by
  have hn := h.nn
  intro d
  induction d with
  | zero =>
    intro i M hi
    unfold f_X5_isNewWord_L2
    rw [if_pos (nI_le (by omega) (by omega))]; rfl
  | succ d ih =>
    intro i M hi
    rw [show M + (d + 1) + 1 = (M + d + 1) + 1 by omega]
    unfold f_X5_isNewWord_L2 nw_
    rw [if_neg (fun z => absurd ((nI_leI (by omega) (by omega)).mp z) (by omega)), show (2 : Int32) = nI 2 from rfl, ct_is h.ct (show i < n by omega) 2 (by decide), bi_s, if_b, ni_p1]
    by_cases ki : kd i = 2
    · rw [if_pos ki, cs_ hN h (show i < n by omega) hj ki kj, bi_s, if_b, ih (i + 1) M (by omega)]
      by_cases c : w i = w j
      · rw [if_pos c, if_pos (show kd i = 2 ∧ w i = w j from ⟨ki, c⟩)]; rfl
      · rw [if_neg c, if_neg (fun z : kd i = 2 ∧ w i = w j => c z.2)]
    · rw [if_neg ki, if_neg (fun z : kd i = 2 ∧ w i = w j => ki z.1), ih (i + 1) M (by omega)]
theorem cd_L (hN : 2000 ≤ N) (h : IV s T n kd lv dp w ids) : ∀ d j c M, j + d = n → f_X5_countDifferentWords_L4 N (M + d + 1) (nI c) (nI j) s = some (nI (c + cw_ kd w d j), s) := by
  have hn := h.nn
  intro d
  induction d with
  | zero =>
    intro j c M hj
    unfold f_X5_countDifferentWords_L4
    rw [h.f1, if_pos (nI_le (by omega) (by omega))]; rfl
  | succ d ih =>
    intro j c M hj
    rw [show M + (d + 1) + 1 = (M + d + 1) + 1 by omega]
    unfold f_X5_countDifferentWords_L4 cw_
    rw [h.f1, if_neg (fun z => absurd ((nI_leI (by omega) (by omega)).mp z) (by omega)), show (2 : Int32) = nI 2 from rfl, ct_is h.ct (show j < n by omega) 2 (by decide), bi_s, if_b, ni_p1, ni_p1]
    by_cases kj : kd j = 2
    · have hc := cn_L (N := N) hN h (show j < n by omega) kj j 0 (N - j - 1) (by omega)
      rw [show N - j - 1 + j + 1 = N by omega] at hc
      have hc' : f_X5_isNewWord N (nI j) s = _ := hc
      rw [if_pos kj, hc', bi_s, if_b]
      by_cases q : nw_ kd w j j 0 = true
      · rw [if_pos q, if_pos (show kd j = 2 ∧ _ from ⟨kj, q⟩), ih (j + 1) _ M (by omega), Nat.add_assoc]
      · rw [if_neg q, if_neg (fun z : kd j = 2 ∧ nw_ kd w j j 0 = true => q z.2), ih (j + 1) _ M (by omega), Nat.zero_add]
    · rw [if_neg kj, if_neg (fun z : kd j = 2 ∧ nw_ kd w j j 0 = true => kj z.1), ih (j + 1) _ M (by omega), Nat.zero_add]
theorem cd_ (hN : 2000 ≤ N) (h : IV s T n kd lv dp w ids) : f_X5_countDifferentWords N s = some (nI (cw_ kd w n 0), s) := by
  have hn := h.nn
  have := cd_L (N := N) hN h n 0 0 (N - n - 1) (by omega)
  rw [show N - n - 1 + n + 1 = N by omega, Nat.zero_add] at this
  exact this
theorem mw_0 (k : Int32 → Int32 → o_S → Option (Int32 × o_S)) (c j i : Int32) (M : Nat) : f_X7_words_L36 N k (M + 1) c j 0 i s = f_X7_words_b78 N k c j 0 s := by
  unfold f_X7_words_L36
  by_cases q : j ≤ i
  · rw [if_pos q]
  · rw [if_neg q, if_pos rfl]
theorem mw_L (hN : 2000 ≤ N) (h : IV s T n kd lv dp w ids) (k : Int32 → Int32 → o_S → Option (Int32 × o_S)) (c : Int32) {j : Nat} (hj : j < n) (kj : kd j = 2) : ∀ d i M, i + d = j → f_X7_words_L36 N k (M + d + 1) c (nI j) 1 (nI i) s = f_X7_words_b78 N k c (nI j) (if nw_ kd w j d i then 1 else 0) s := by
  have hn := h.nn
  intro d
  induction d with
  | zero =>
    intro i M hi
    unfold f_X7_words_L36
    rw [if_pos (nI_le (by omega) (by omega))]; rfl
  | succ d ih =>
    intro i M hi
    rw [show M + (d + 1) + 1 = (M + d + 1) + 1 by omega]
    unfold f_X7_words_L36 nw_
    rw [if_neg (fun z => absurd ((nI_leI (by omega) (by omega)).mp z) (by omega)), if_neg (show ¬ (1 : Int32) = 0 by decide), ld_ (show i < 1500 by omega) (by decide), ld_ (show j < 1500 by omega) (by decide), h.no (show i < n by omega), h.no hj, ms_ hN h (show i < n by omega) hj kj, bi_s, if_b, ni_p1, ih (i + 1) M (by omega)]
    by_cases c : kd i = 2 ∧ w i = w j
    · rw [if_pos c, if_pos c, mw_0]; rfl
    · rw [if_neg c, if_neg c]
theorem md_L (hN : 2000 ≤ N) (h : IV s T n kd lv dp w ids) : ∀ d j c M, j + d = n → f_X7_words_L4 N (M + d + 1) (nI c) (nI j) s = some (nI (c + cw_ kd w d j), s) := by
  have hn := h.nn
  intro d
  induction d with
  | zero =>
    intro j c M hj
    unfold f_X7_words_L4
    rw [h.f18, if_pos (nI_le (by omega) (by omega))]; rfl
  | succ d ih =>
    intro j c M hj
    have hk4 := (h.ct.2.2.2.2.1 j (by omega)).2.1
    have hb : ∀ b : Bool, f_X7_words_b78 N (f_X7_words_L4 N (M + d + 1)) (nI c) (nI j) (if b then 1 else 0) s = some (nI (c + ((if b then 1 else 0) + cw_ kd w d (j + 1))), s) := by
      intro b
      unfold f_X7_words_b78
      cases b with
      | true => rw [if_pos rfl, if_neg (by decide), ni_p1, ni_p1, ih (j + 1) _ M (by omega), if_pos rfl, Nat.add_assoc]
      | false => rw [if_pos (show (if false = true then (1 : Int32) else 0) = 0 from rfl), ni_p1, show nI c + (0 : Int32) = nI c by rw [show (0 : Int32) = nI 0 from rfl, nI_add]; rfl, ih (j + 1) _ M (by omega), if_neg (by decide), Nat.zero_add]
    rw [show M + (d + 1) + 1 = (M + d + 1) + 1 by omega]
    unfold f_X7_words_L4 cw_
    rw [h.f18, if_neg (fun z => absurd ((nI_leI (by omega) (by omega)).mp z) (by omega)), ld_ (show j < 1500 by omega) (by decide), h.no (show j < n by omega), ld_ (h.id (show j < n by omega)) (by decide), h.kk (show j < n by omega), if_lit 2 2 rfl (by omega) (by decide)]
    by_cases kj : kd j = 2
    · have hc := mw_L (N := N) hN h (f_X7_words_L4 N (M + d + 1)) (nI c) (show j < n by omega) kj j 0 (N - j - 1) (by omega)
      rw [show N - j - 1 + j + 1 = N by omega] at hc
      have hc' : f_X7_words_L36 N (f_X7_words_L4 N (M + d + 1)) N (nI c) (nI j) 1 0 s = _ := hc
      rw [if_pos kj, hc', hb]
      by_cases q : nw_ kd w j j 0 = true
      · rw [if_pos q, if_pos (show kd j = 2 ∧ _ from ⟨kj, q⟩)]
      · rw [if_neg q, if_neg (fun z : kd j = 2 ∧ nw_ kd w j j 0 = true => q z.2)]
    · have hc := mw_0 (N := N) (s := s) (f_X7_words_L4 N (M + d + 1)) (nI c) (nI j) 0 (N - 1)
      rw [show N - 1 + 1 = N by omega] at hc
      rw [if_neg kj, hc, if_neg (fun z : kd j = 2 ∧ nw_ kd w j j 0 = true => kj z.1)]
      exact hb false
theorem md_ (hN : 2000 ≤ N) (h : IV s T n kd lv dp w ids) : f_X7_words N s = some (nI (cw_ kd w n 0), s) := by
  have hn := h.nn
  have := md_L (N := N) hN h n 0 0 (N - n - 1) (by omega)
  rw [show N - n - 1 + n + 1 = N by omega, Nat.zero_add] at this
  exact this
end
theorem l_wordCount {N e : Nat} {s : o_S} (hN : 2000 ≤ N) (hI : Inv e s) : PQ (f_X6_wordCount N s) (fun t => f_X7_wordCount N t) e := by
  obtain ⟨-, T, n, kd, lv, dp, w, ids, hv⟩ := id hI
  refine ⟨nI (cw_ kd w n 0), s, o_setF s 15 0, ?_, ?_, LO.inv hI (lo_F15 _ _) (hI.1.up (by omega))⟩
  · unfold f_X6_wordCount; rw [cd_ hN hv, bi_s]
  · show f_X7_wordCount N s = _
    unfold f_X7_wordCount; rw [do_e, md_ hN ((lo_F15 s 0).iv hv), bi_s]
