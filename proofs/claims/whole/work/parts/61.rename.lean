/-! RENAME -/
def isL (b : Int32) : Bool := (decide (65 ≤ b.toInt) && decide (b.toInt ≤ 90)) || (decide (97 ≤ b.toInt) && decide (b.toInt ≤ 122))
def isD (b : Int32) : Bool := decide (48 ≤ b.toInt) && decide (b.toInt ≤ 57)
theorem lt_t (a b : Int32) : (a < b) = (a.toInt < b.toInt) := propext Int32.lt_iff_toInt_lt
theorem le_t (a b : Int32) : (a ≤ b) = (a.toInt ≤ b.toInt) := propext Int32.le_iff_toInt_le
section
variable {N : Nat}
theorem cL_ (b : Int32) (s : o_S) : f_X6_isLetter N b s = some (if isL b then 1 else 0, s) := by
  unfold f_X6_isLetter f_X6_isLetter_b12 isL
  have e1 : (b < 65) = (b.toInt < 65) := lt_t _ _
  have e2 : (b ≤ 90) = (b.toInt ≤ 90) := le_t _ _
  have e3 : (b < 97) = (b.toInt < 97) := lt_t _ _
  have e4 : (122 < b) = (122 < b.toInt) := lt_t _ _
  simp only [e1, e2, e3, e4]
  by_cases h1 : b.toInt < 65 <;> by_cases h2 : b.toInt ≤ 90 <;> by_cases h3 : b.toInt < 97 <;> by_cases h4 : 122 < b.toInt <;> simp [h1, h2, h3, h4] <;> omega
theorem mL_ (b : Int32) (s : o_S) : f_X7_isLetter N b s = some (if isL b then 1 else 0, s) := by
  unfold f_X7_isLetter f_X7_isLetter_b12 isL
  have e1 : (b < 65) = (b.toInt < 65) := lt_t _ _
  have e2 : (90 < b) = (90 < b.toInt) := lt_t _ _
  have e3 : (b < 97) = (b.toInt < 97) := lt_t _ _
  have e4 : (b ≤ 122) = (b.toInt ≤ 122) := le_t _ _
  simp only [e1, e2, e3, e4]
  by_cases h1 : b.toInt < 65 <;> by_cases h2 : 90 < b.toInt <;> by_cases h3 : b.toInt < 97 <;> by_cases h4 : b.toInt ≤ 122 <;> simp [h1, h2, h3, h4] <;> omega
theorem cD_ (b : Int32) (s : o_S) : f_X6_isDigit N b s = some (if isD b then 1 else 0, s) := by
  unfold f_X6_isDigit isD
  have e1 : (b < 48) = (b.toInt < 48) := lt_t _ _
  have e2 : (57 < b) = (57 < b.toInt) := lt_t _ _
  simp only [e1, e2]
  by_cases h1 : b.toInt < 48 <;> by_cases h2 : 57 < b.toInt <;> simp [h1, h2] <;> omega
theorem mD_ (b : Int32) (s : o_S) : f_X7_isDigit N b s = some (if isD b then 1 else 0, s) := cD_ (N := N) b s
def isA (b : Int32) : Bool := isL b || isD b
def isW (l : List Int32) : Bool := decide (0 < l.length) && isL (l.getD 0 0) && l.all isA
theorem iw_L {s : o_S} {l : List Int32} (h1 : o_R s 1 = l) (hl : l.length ≤ 8) (h0 : 0 < l.length) : ∀ d i M, i + d = l.length → 0 < i → f_X6_isWord_L2 N (M + d + 1) (nI i) s = some (if (l.drop i).all isA then 1 else 0, s) := by
  intro d
  induction d with
  | zero =>
    intro i M hi hi0
    unfold f_X6_isWord_L2
    rw [h1, if_pos (nI_le (by omega) (by omega)), if_neg (show ¬ nI l.length ≤ 0 from fun q => absurd ((nI_leI (b := 0) (by omega) (by decide)).mp q) (by omega)), List.drop_of_length_le (by omega)]; rfl
  | succ d ih =>
    intro i M hi hi0
    rw [show M + (d + 1) + 1 = (M + d + 1) + 1 by omega]
    unfold f_X6_isWord_L2 f_X6_isWord_b36
    rw [h1, if_neg (fun q => absurd ((nI_leI (by omega) (by omega)).mp q) (by omega)), at_in (by rw [h1]; omega) (by rw [h1]; omega), do_e, h1, cL_, bi_s, if_b, if_neg (show ¬ (1 : Int32) = 0 by decide), if_neg (show ¬ nI i ≤ 0 from fun q => absurd ((nI_leI (b := 0) (by omega) (by decide)).mp q) (by omega)), do_e, at_in (by rw [h1]; omega) (by rw [h1]; omega), h1, cD_, bi_s, if_b, if_pos (show (0 : Int32) = 0 from rfl), ni_p1, ih (i + 1) M (by omega) (by omega), dr_ (show i < l.length by omega), List.all_cons]
    unfold isA
    cases isL (l.getD i 0) <;> cases isD (l.getD i 0) <;> simp
theorem iw_ (hN : 2000 ≤ N) {s : o_S} {l : List Int32} (h1 : o_R s 1 = l) (hl : l.length ≤ 8) : f_X6_isWord N s = some (if isW l then 1 else 0, s) := by
  unfold f_X6_isWord isW
  by_cases h0 : 0 < l.length
  · have := iw_L (N := N) h1 hl h0 (l.length - 1) 1 (N - 1 - l.length) (by omega) (by omega)
    rw [show N - 1 - l.length + (l.length - 1) + 1 = N - 1 by omega] at this
    rw [show f_X6_isWord_L2 N N (0 : Int32) s = f_X6_isWord_L2 N ((N - 1) + 1) (nI 0) s by rw [show N - 1 + 1 = N by omega]; rfl]
    unfold f_X6_isWord_L2 f_X6_isWord_b36
    rw [h1, if_neg (fun q => absurd ((nI_leI (by omega) (by omega)).mp q) (by omega)), at_in (by rw [h1]; omega) (by rw [h1]; omega), do_e, h1, cL_, bi_s, if_b, if_neg (show ¬ (1 : Int32) = 0 by decide), ni_p1, this, if_pos (show nI 0 ≤ (0 : Int32) by decide), if_pos (show (0 : Int32) = 0 from rfl)]
    have e : l.all isA = (isA (l.getD 0 0) && (l.drop 1).all isA) := by
      have := dr_ h0
      rw [List.drop_zero, Nat.zero_add] at this
      conv => lhs; rw [this]
      rw [List.all_cons]
    rw [e]
    unfold isA
    simp only [h0]
    cases isL (l.getD 0 0) <;> simp
  · rw [show f_X6_isWord_L2 N N (0 : Int32) s = f_X6_isWord_L2 N ((N - 1) + 1) (nI 0) s by rw [show N - 1 + 1 = N by omega]; rfl]
    unfold f_X6_isWord_L2
    have hz : l.length = 0 := by omega
    rw [h1, hz, if_pos (nI_le (by omega) (by omega)), if_pos (show nI 0 ≤ (0 : Int32) by decide)]
    simp
theorem rn_L {s : o_S} {l : List Int32} {p : Int32} (h1 : FD l s) (hl : l.length ≤ 8) : ∀ d i (fl : Bool) M, i + d = l.length → f_X7_rename_L53 N (M + d + 1) p (nI l.length) (if fl then 1 else 0) (nI i) s = f_X7_rename_L53 N (M + 1) p (nI l.length) (if fl && (l.drop i).all isA then 1 else 0) (nI l.length) s := by
  intro d
  induction d with
  | zero =>
    intro i fl M hi
    rw [List.drop_of_length_le (by omega), List.all_nil, Bool.and_true, show i = l.length by omega]
  | succ d ih =>
    intro i fl M hi
    rw [show M + (d + 1) + 1 = (M + d + 1) + 1 by omega]
    rw [f_X7_rename_L53, if_neg (fun q => absurd ((nI_leI (by omega) (by omega)).mp q) (by omega)), ld_ (show i < 8 by omega) (by decide), h1 i (by omega), mL_, bi_s, if_b, ld_ (show i < 8 by omega) (by decide), h1 i (by omega), mD_, bi_s, if_b, ni_p1]
    have f0 := ih (i + 1) false M (by omega)
    have f1 := ih (i + 1) true M (by omega)
    rw [if_neg (by decide)] at f0
    rw [if_pos rfl] at f1
    rw [f0, f1, dr_ (show i < l.length by omega), List.all_cons]
    unfold isA
    cases fl <;> cases isL (l.getD i 0) <;> cases isD (l.getD i 0) <;> simp
end
