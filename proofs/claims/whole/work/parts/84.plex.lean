/-! PARSE: the two lexers -/
def sgn (b : Int32) : Prop := b = 123 ∨ b = 125 ∨ b = 40 ∨ b = 41 ∨ b = 58 ∨ b = 59
def CP (c c' : o_S) : Prop := o_A c' = o_A c ∧ o_O c' = o_O c ∧ (∀ f, 15 ≤ f → o_F c' f = o_F c f) ∧ (∀ q, q = 0 ∨ q = 1 ∨ q = 8 → o_R c' q = o_R c q)
theorem CP.tr {a b c : o_S} (h1 : CP a b) (h2 : CP b c) : CP a c := ⟨h2.1.trans h1.1, h2.2.1.trans h1.2.1, fun f x => (h2.2.2.1 f x).trans (h1.2.2.1 f x), fun q x => (h2.2.2.2 q x).trans (h1.2.2.2 q x)⟩
theorem CF.cp {c c' : o_S} (h : CF c c') : CP c c' := ⟨h.1, h.2.1, fun f x => h.2.2.1 f (by omega) (by omega) (by omega), h.2.2.2⟩
def RP2 (r r' : o_S) : Prop := RQ r r' ∧ (∀ f, f < 17 ∨ f = 20 → o_F r' f = o_F r f) ∧ (∀ a, a = 0 ∨ a = 9 ∨ a = 13 ∨ a = 14 → o_A r' a = o_A r a)
theorem RP2.tr {a b c : o_S} (h1 : RP2 a b) (h2 : RP2 b c) : RP2 a c := ⟨h1.1.tr h2.1, fun f x => (h2.2.1 f x).trans (h1.2.1 f x), fun q x => (h2.2.2 q x).trans (h1.2.2 q x)⟩
theorem RF.rp {r r' : o_S} (h : RF r r') : RP2 r r' := ⟨h.1, fun f x => h.2.1 f (by omega) (by omega) (by omega) (by omega), fun a x => h.2.2 a (by omega)⟩
theorem BI.cg {e p p' : Nat} {bg : Bool} {T : List Int32} {c r c' r' : o_S} (h : BI e bg T p c r) (hp : p ≤ p') (hG : GS e c → GS e c') (hR : o_R c' = o_R c) (h0 : o_F c' 0 = o_F c 0) (h1 : o_F c' 1 = o_F c 1) (h14 : o_F c' 14 = o_F c 14) (hA : o_A r' = o_A r) (h17 : o_F r' 17 = o_F r 17) (h19 : o_F r' 19 = o_F r 19) (h21 : o_F r' 21 = o_F r 21) (h22 : o_F r' 22 = o_F r 22) : BI e bg T p' c' r' := by
  obtain ⟨n, kd, lv, dp, w, d, nd, k, col, ⟨b1, b2, b3, b4⟩, a2, a3, a4, a5, a6, a7⟩ := h
  refine ⟨n, kd, lv, dp, w, d, nd, k, col, ⟨hG b1, b2.cg h1 (by rw [hR]) (by rw [hR]) h17 (fun a _ _ => by rw [hA]), b3.cg (by rw [hR]) (by rw [hR]) (by rw [hR]) h21 (by rw [hA]) (by rw [hA]) (by rw [hA]), b4.cg h0 (by rw [hR]) h19 (by rw [hA])⟩, a2, ?_, by omega, by omega, by rw [hR]; omega, by omega⟩
  rw [h14, h22, hR]; exact a3
section
variable {N e : Nat} {c r : o_S} {T : List Int32}
theorem c_st1 {b : Int32} (h : isL b = true ∨ isD b = true ∨ sgn b) : f_X1_startsToken N b c = some (1, c) := by
  unfold f_X1_startsToken
  rw [cL_, bi_s]
  by_cases h1 : isL b = true
  · rw [if_pos h1, if_neg (by decide)]
  · rw [if_neg h1, if_pos rfl, cD_, bi_s]
    by_cases h2 : isD b = true
    · rw [if_pos h2, if_neg (by decide)]
    · rw [if_neg h2, if_pos rfl]
      rcases h with h | h | h
      · exact absurd h h1
      · exact absurd h h2
      · rcases h with q | q | q | q | q | q <;> subst q <;> rfl
theorem c_st0 {b : Int32} (h1 : ¬ isL b = true) (h2 : ¬ isD b = true) (h3 : ¬ sgn b) : f_X1_startsToken N b c = some (0, c) := by
  unfold f_X1_startsToken
  unfold sgn at h3
  rw [cL_, bi_s, if_neg h1, if_pos rfl, cD_, bi_s, if_neg h2, if_pos rfl, if_neg (fun q => h3 (by simp [q])), if_neg (fun q => h3 (by simp [q])), if_neg (fun q => h3 (by simp [q])), if_neg (fun q => h3 (by simp [q])), if_neg (fun q => h3 (by simp [q])), if_neg (fun q => h3 (by simp [q]))]
theorem r_sg1 {b : Int32} (h : sgn b) : f_X7_isSign N b r = some (1, r) := by
  unfold f_X7_isSign
  rcases h with q | q | q | q | q | q <;> subst q <;> rfl
theorem r_sg0 {b : Int32} (h3 : ¬ sgn b) : f_X7_isSign N b r = some (0, r) := by
  unfold f_X7_isSign
  unfold sgn at h3
  rw [if_neg (fun q => h3 (by simp [q])), if_neg (fun q => h3 (by simp [q])), if_neg (fun q => h3 (by simp [q])), if_neg (fun q => h3 (by simp [q])), if_neg (fun q => h3 (by simp [q])), if_neg (fun q => h3 (by simp [q]))]
/-- the end of a run of letters and digits, or of digits -/
def ru (T : List Int32) (l : Bool) : Nat → Nat → Nat
  | 0, j => j
  | d + 1, j => if isD (T.getD j 0) = true ∨ (l = true ∧ isL (T.getD j 0) = true) then ru T l d (j + 1) else j
theorem ru_le (T : List Int32) (l : Bool) : ∀ d j, j ≤ ru T l d j ∧ ru T l d j ≤ j + d ∧ ∀ x, j ≤ x → x < ru T l d j → (isD (T.getD x 0) = true ∨ (l = true ∧ isL (T.getD x 0) = true)) := by
  intro d
  induction d with
  | zero => intro j; exact ⟨Nat.le_refl _, Nat.le_refl _, fun x x1 x2 => absurd x2 (by show ¬ x < j; omega)⟩
  | succ d ih =>
    intro j
    unfold ru
    by_cases q : isD (T.getD j 0) = true ∨ (l = true ∧ isL (T.getD j 0) = true)
    · rw [if_pos q]
      obtain ⟨i1, i2, i3⟩ := ih (j + 1)
      refine ⟨by omega, by omega, fun x x1 x2 => ?_⟩
      rcases Nat.eq_or_lt_of_le x1 with y | y
      · rw [← y]; exact q
      · exact i3 x (by omega) x2
    · rw [if_neg q]; exact ⟨Nat.le_refl _, by omega, fun x x1 x2 => by omega⟩
theorem c_run (hT : o_R c 0 = T) (hTl : T.length ≤ 600) (l : Bool) {f : Int32} (hf : f = if l then 1 else 0) : ∀ d j m, j + d = T.length → d < m → f_X1_endOfRun_L2 N m f (nI j) c = some (nI (ru T l d j), c) := by
  intro d
  induction d with
  | zero =>
    intro j m hj hm
    obtain ⟨m, rfl⟩ : ∃ m', m = m' + 1 := ⟨m - 1, by omega⟩
    rw [f_X1_endOfRun_L2, hT, if_pos (nI_le (by omega) (by omega))]; rfl
  | succ d ih =>
    intro j m hj hm
    obtain ⟨m, rfl⟩ : ∃ m', m = m' + 1 := ⟨m - 1, by omega⟩
    have ea : o_at c 0 (nI j) = T.getD j 0 := by rw [at_in (by rw [hT]; omega) (by rw [hT]; omega), hT]
    rw [f_X1_endOfRun_L2, hT, if_neg (fun q => absurd ((nI_leI (by omega) (by omega)).mp q) (by omega)), do_e, ea, cD_, bi_s, ru]
    by_cases q1 : isD (T.getD j 0) = true
    · rw [if_pos q1, if_neg (by decide), if_pos (Or.inl q1), ni_p1]; exact ih (j + 1) m (by omega) (by omega)
    · rw [if_neg q1, if_pos rfl]
      cases l with
      | false => rw [if_pos (show f = 0 from hf), if_neg (fun q => q.elim q1 (fun z => absurd z.1 (by decide)))]
      | true =>
        rw [if_neg (show ¬ f = 0 by rw [hf]; decide), do_e, ea, cL_, bi_s]
        by_cases q2 : isL (T.getD j 0) = true
        · rw [if_pos q2, if_neg (by decide), if_pos (Or.inr ⟨rfl, q2⟩), ni_p1]; exact ih (j + 1) m (by omega) (by omega)
        · rw [if_neg q2, if_pos rfl, if_neg (fun q => q.elim q1 (fun z => q2 z.2))]
theorem r_run (k : Int32 → Int32 → Int32 → Int32 → o_S → Option (Int32 × o_S)) (hTl : T.length ≤ 600) (hA : ∀ j, j < T.length → o_A r 0 j = T.getD j 0) (h16 : o_F r 16 = nI T.length) (l : Bool) (h23 : o_F r 23 = if l then 2 else 3) (l1 l2 l3 l4 : Int32) : ∀ d j m, j + d = T.length → d < m → f_X7_parse_L279 N k m l1 l2 l3 l4 (nI j) r = f_X7_parse_b336 N k l1 l2 l3 l4 (nI (ru T l d j)) r := by
  intro d
  induction d with
  | zero =>
    intro j m hj hm
    obtain ⟨m, rfl⟩ : ∃ m', m = m' + 1 := ⟨m - 1, by omega⟩
    rw [f_X7_parse_L279, h16, if_pos (nI_le (by omega) (by omega))]; rfl
  | succ d ih =>
    intro j m hj hm
    obtain ⟨m, rfl⟩ : ∃ m', m = m' + 1 := ⟨m - 1, by omega⟩
    have b309 : ¬ (l = true ∧ isL (T.getD j 0) = true) → f_X7_parse_b309 N k (f_X7_parse_L279 N k m) l1 l2 l3 l4 (nI j) r = f_X7_parse_b336 N k l1 l2 l3 l4 (nI (ru T l (d + 1) j)) r := by
      intro hn
      unfold f_X7_parse_b309
      rw [h23, if_neg (by cases l <;> decide), ld_ (show j < 600 by omega) (by decide), hA j (by omega), mD_, bi_s, ru]
      by_cases q1 : isD (T.getD j 0) = true
      · rw [if_pos q1, if_neg (by decide), if_pos (Or.inl q1), ni_p1]; exact ih (j + 1) m (by omega) (by omega)
      · rw [if_neg q1, if_pos rfl, if_neg (fun q => q.elim q1 hn)]
    rw [f_X7_parse_L279, h16, if_neg (fun q => absurd ((nI_leI (by omega) (by omega)).mp q) (by omega))]
    cases l with
    | false => rw [show o_F r 23 = 3 from h23, if_neg (by decide)]; exact b309 (fun q => absurd q.1 (by decide))
    | true =>
      rw [show o_F r 23 = 2 from h23, if_pos rfl, ld_ (show j < 600 by omega) (by decide), hA j (by omega), mL_, bi_s]
      by_cases q2 : isL (T.getD j 0) = true
      · rw [if_pos q2, if_neg (by decide), ru, if_pos (Or.inr ⟨rfl, q2⟩), ni_p1]; exact ih (j + 1) m (by omega) (by omega)
      · rw [if_neg q2, if_pos rfl]; exact b309 (fun q => q2 q.2)
/-- the end of a comment -/
def ce (T : List Int32) : Nat → Nat → Nat
  | 0, j => j
  | d + 1, j => if T.getD j 0 = 10 then j else ce T d (j + 1)
theorem ce_le (T : List Int32) : ∀ d j, j ≤ ce T d j ∧ ce T d j ≤ j + d ∧ (ce T d j < j + d → T.getD (ce T d j) 0 = 10) := by
  intro d
  induction d with
  | zero => intro j; exact ⟨Nat.le_refl _, Nat.le_refl _, fun h => absurd h (by show ¬ j < j + 0; omega)⟩
  | succ d ih =>
    intro j
    unfold ce
    by_cases q : T.getD j 0 = 10
    · rw [if_pos q]; exact ⟨Nat.le_refl _, by omega, fun _ => q⟩
    · rw [if_neg q]
      obtain ⟨i1, i2, i3⟩ := ih (j + 1)
      exact ⟨by omega, by omega, fun h => i3 (by omega)⟩
theorem r_ce (k : Int32 → Int32 → Int32 → Int32 → o_S → Option (Int32 × o_S)) (hTl : T.length ≤ 600) (hA : ∀ j, j < T.length → o_A r 0 j = T.getD j 0) (h16 : o_F r 16 = nI T.length) (l1 l2 l3 : Int32) : ∀ d j m, j + d = T.length → d < m → f_X7_parse_L198 N k m l1 l2 l3 (nI j) r = k l1 l2 l3 (nI (ce T d j)) r := by
  intro d
  induction d with
  | zero =>
    intro j m hj hm
    obtain ⟨m, rfl⟩ : ∃ m', m = m' + 1 := ⟨m - 1, by omega⟩
    rw [f_X7_parse_L198, h16, if_pos (nI_le (by omega) (by omega))]; rfl
  | succ d ih =>
    intro j m hj hm
    obtain ⟨m, rfl⟩ : ∃ m', m = m' + 1 := ⟨m - 1, by omega⟩
    rw [f_X7_parse_L198, h16, if_neg (fun q => absurd ((nI_leI (by omega) (by omega)).mp q) (by omega)), ld_ (show j < 600 by omega) (by decide), hA j (by omega), ce]
    by_cases q : T.getD j 0 = 10
    · rw [if_pos q, if_pos q]
    · rw [if_neg q, if_neg q, ni_p1]; exact ih (j + 1) m (by omega) (by omega)
theorem c_ce (hT : o_R c 0 = T) (hTl : T.length ≤ 600) (h5 : o_F c 5 = 1) : ∀ d j m, j + d = T.length → f_X1_readToken_L5 N (m + (ce T d j - j)) (nI j) c = f_X1_readToken_L5 N m (nI (ce T d j)) c := by
  intro d
  induction d with
  | zero => intro j m hj; show f_X1_readToken_L5 N (m + (j - j)) _ c = f_X1_readToken_L5 N m (nI j) c; rw [Nat.sub_self, Nat.add_zero]
  | succ d ih =>
    intro j m hj
    rw [ce]
    by_cases q : T.getD j 0 = 10
    · rw [if_pos q, Nat.sub_self, Nat.add_zero]
    · have hle := (ce_le T d (j + 1)).1
      have ea : o_at c 0 (nI j) = T.getD j 0 := by rw [at_in (by rw [hT]; omega) (by rw [hT]; omega), hT]
      have i1 := ih (j + 1) m (by omega)
      rw [if_neg q, show m + (ce T d (j + 1) - j) = (m + (ce T d (j + 1) - (j + 1))) + 1 by omega, f_X1_readToken_L5, hT, if_neg (fun q => absurd ((nI_leI (by omega) (by omega)).mp q) (by omega)), do_e, ea, if_neg q, ni_p1, do_e, sF_same h5, i1, h5, if_neg (show ¬ (1 : Int32) = 0 by decide)]
      unfold f_X1_readToken_b77
      rw [h5, if_neg (show ¬ (1 : Int32) = 0 by decide), ni_p1, i1, ite_self]
/-- a token, in the class -/
theorem c_tok {at_ ls : Nat} {b : Int32} {fr : Bool} (hN : 2000 ≤ N) (hT : o_R c 0 = T) (hTl : T.length ≤ 600) (hat : at_ < T.length) (hls : ls ≤ at_) (hb : T.getD at_ 0 = b) (h4 : o_F c 4 = nI ls) (h7 : o_F c 7 = if fr then 0 else 1) (ht : isL b = true ∨ isD b = true ∨ sgn b) :
    ∃ c1 z, f_X1_takeToken N (nI at_) b c = some c1 ∧ at_ < z ∧ z ≤ T.length ∧ o_R c1 = o_R c ∧ o_A c1 = o_A c ∧ o_O c1 = o_O c ∧ (∀ e, GS e c → GS e c1) ∧ o_F c1 2 = nI z ∧ o_F c1 7 = 1 ∧ o_F c1 9 = nI at_ ∧ o_F c1 10 = o_F c 3 ∧ o_F c1 11 = nI (at_ - ls) ∧ o_F c1 12 = (if fr then 1 else 0) ∧ (∀ f, f ≠ 2 → f ≠ 7 → f ≠ 8 → f ≠ 9 → f ≠ 10 → f ≠ 11 → f ≠ 12 → o_F c1 f = o_F c f) ∧
      ((isL b = true ∧ o_F c1 8 = 2 ∧ z = ru T true (T.length - at_) at_) ∨ (¬ isL b = true ∧ isD b = true ∧ o_F c1 8 = 3 ∧ z = ru T false (T.length - at_) at_) ∨ (¬ isL b = true ∧ ¬ isD b = true ∧ sgn b ∧ o_F c1 8 = b ∧ z = at_ + 1)) := by
  -- the state behind the first writes
  have key : ∀ (y v : Int32), y = (if fr then 1 else 0) → ∃ s, s = o_setF (o_setF (o_setF (o_setF (o_setF (o_setF (o_setF c 9 (nI at_)) 10 (o_F c 3)) 11 (nI (at_ - ls))) 12 y) 7 1) 8 v) 2 (nI (at_ + 1)) ∧ o_R s = o_R c ∧ o_A s = o_A c ∧ o_O s = o_O c ∧ (∀ e, GS e c → GS e s) := fun y v hy => ⟨_, rfl, rfl, rfl, rfl, fun e h => h⟩
  have b36 : ∀ (y : Int32), y = (if fr then 1 else 0) → ∃ c1 z, f_X1_takeToken_b36 N (nI at_) b y (o_setF (o_setF (o_setF c 9 (nI at_)) 10 (o_F c 3)) 11 (nI (at_ - ls))) = some c1 ∧ at_ < z ∧ z ≤ T.length ∧ o_R c1 = o_R c ∧ o_A c1 = o_A c ∧ o_O c1 = o_O c ∧ (∀ e, GS e c → GS e c1) ∧ o_F c1 2 = nI z ∧ o_F c1 7 = 1 ∧ o_F c1 9 = nI at_ ∧ o_F c1 10 = o_F c 3 ∧ o_F c1 11 = nI (at_ - ls) ∧ o_F c1 12 = (if fr then 1 else 0) ∧ (∀ f, f ≠ 2 → f ≠ 7 → f ≠ 8 → f ≠ 9 → f ≠ 10 → f ≠ 11 → f ≠ 12 → o_F c1 f = o_F c f) ∧ ((isL b = true ∧ o_F c1 8 = 2 ∧ z = ru T true (T.length - at_) at_) ∨ (¬ isL b = true ∧ isD b = true ∧ o_F c1 8 = 3 ∧ z = ru T false (T.length - at_) at_) ∨ (¬ isL b = true ∧ ¬ isD b = true ∧ sgn b ∧ o_F c1 8 = b ∧ z = at_ + 1)) := by
    intro y hy
    have y01 : y = 0 ∨ y = 1 := by rw [hy]; cases fr; exact Or.inl rfl; exact Or.inr rfl
    have fin : ∀ (v : Int32) (z : Nat), ∃ c1, c1 = o_setF (o_setF (o_setF (o_setF (o_setF (o_setF (o_setF (o_setF c 9 (nI at_)) 10 (o_F c 3)) 11 (nI (at_ - ls))) 12 y) 7 1) 8 v) 2 (nI (at_ + 1))) 2 (nI z) ∧ o_R c1 = o_R c ∧ o_A c1 = o_A c ∧ o_O c1 = o_O c ∧ (∀ e, GS e c → GS e c1) ∧ o_F c1 2 = nI z ∧ o_F c1 7 = 1 ∧ o_F c1 9 = nI at_ ∧ o_F c1 10 = o_F c 3 ∧ o_F c1 11 = nI (at_ - ls) ∧ o_F c1 12 = (if fr then 1 else 0) ∧ (∀ f, f ≠ 2 → f ≠ 7 → f ≠ 8 → f ≠ 9 → f ≠ 10 → f ≠ 11 → f ≠ 12 → o_F c1 f = o_F c f) ∧ o_F c1 8 = v := by
      intro v z
      refine ⟨_, rfl, rfl, rfl, rfl, fun e h => h, ?_, ?_, ?_, ?_, ?_, ?_, fun f f2 f7 f8 f9 f10 f11 f12 => ?_, ?_⟩
      · simp only [sF_F]; simp
      · simp only [sF_F]; simp
      · simp only [sF_F]; simp
      · simp only [sF_F]; simp
      · simp only [sF_F]; simp
      · simp only [sF_F]; simp; exact hy
      · simp only [sF_F]; rw [if_neg f2, if_neg f2, if_neg f8, if_neg f7, if_neg f12, if_neg f11, if_neg f10, if_neg f9]
      · simp only [sF_F]; simp
    have run : ∀ (l : Bool) (f v : Int32), f = (if l then 1 else 0) → f_X1_endOfRun N (nI at_) f (o_setF (o_setF (o_setF (o_setF (o_setF (o_setF (o_setF c 9 (nI at_)) 10 (o_F c 3)) 11 (nI (at_ - ls))) 12 y) 7 1) 8 v) 2 (nI (at_ + 1))) = some (nI (ru T l (T.length - at_) at_), o_setF (o_setF (o_setF (o_setF (o_setF (o_setF (o_setF c 9 (nI at_)) 10 (o_F c 3)) 11 (nI (at_ - ls))) 12 y) 7 1) 8 v) 2 (nI (at_ + 1))) := by
      intro l f v hf
      unfold f_X1_endOfRun
      exact c_run (N := N) (c := o_setF (o_setF (o_setF (o_setF (o_setF (o_setF (o_setF c 9 (nI at_)) 10 (o_F c 3)) 11 (nI (at_ - ls))) 12 y) 7 1) 8 v) 2 (nI (at_ + 1))) hT hTl l hf _ _ N (by omega) (by omega)
    have f8 : ∀ v : Int32, o_F (o_setF (o_setF (o_setF (o_setF (o_setF (o_setF (o_setF c 9 (nI at_)) 10 (o_F c 3)) 11 (nI (at_ - ls))) 12 y) 7 1) 8 v) 2 (nI (at_ + 1))) 8 = v := fun v => by rw [sF_F, if_neg (by decide), sF_F, if_pos rfl]
    have rg1 : ∀ l : Bool, (isD b = true ∨ (l = true ∧ isL b = true)) → at_ < ru T l (T.length - at_) at_ ∧ ru T l (T.length - at_) at_ ≤ T.length := by
      intro l hl
      rw [show T.length - at_ = (T.length - at_ - 1) + 1 by omega, ru, hb, if_pos hl]
      have := ru_le T l (T.length - at_ - 1) (at_ + 1)
      omega
    unfold f_X1_takeToken_b36
    rw [if_neg (fun q => q y01), do_e, do_e, cL_, bi_s]
    by_cases h1 : isL b = true
    · obtain ⟨c1, q0, q1, q2, q3, q4, q5, q6, q7, q8, q9, q10, q11, q12⟩ := fin 2 (ru T true (T.length - at_) at_)
      obtain ⟨g1, g2⟩ := rg1 true (Or.inr ⟨rfl, h1⟩)
      refine ⟨c1, _, ?_, g1, g2, q1, q2, q3, q4, q5, q6, q7, q8, q9, q10, q11, Or.inl ⟨h1, q12, rfl⟩⟩
      unfold f_X1_takeToken_b68 f_X1_takeToken_b94
      rw [if_pos h1, if_neg (by decide), do_e, ni_p1, do_e, f8, if_pos rfl, if_pos rfl, run true 1 2 rfl, bi_s, do_e, ← q0]
    · rw [if_neg h1, if_pos rfl, cD_, bi_s]
      by_cases h2 : isD b = true
      · obtain ⟨c1, q0, q1, q2, q3, q4, q5, q6, q7, q8, q9, q10, q11, q12⟩ := fin 3 (ru T false (T.length - at_) at_)
        obtain ⟨g1, g2⟩ := rg1 false (Or.inl h2)
        refine ⟨c1, _, ?_, g1, g2, q1, q2, q3, q4, q5, q6, q7, q8, q9, q10, q11, Or.inr (Or.inl ⟨h1, h2, q12, rfl⟩)⟩
        unfold f_X1_takeToken_b68 f_X1_takeToken_b94
        rw [if_pos h2, if_neg (by decide), do_e, ni_p1, do_e, f8, if_neg (by decide), if_pos rfl, if_neg (by decide), run false 0 3 rfl, bi_s, do_e, ← q0]
      · have h3 : sgn b := by
          rcases ht with q | q | q
          · exact absurd q h1
          · exact absurd q h2
          · exact q
        obtain ⟨c1, q0, q1, q2, q3, q4, q5, q6, q7, q8, q9, q10, q11, q12⟩ := fin b (at_ + 1)
        refine ⟨c1, at_ + 1, ?_, by omega, by omega, q1, q2, q3, q4, q5, q6, q7, q8, q9, q10, q11, Or.inr (Or.inr ⟨h1, h2, h3, q12, rfl⟩)⟩
        unfold f_X1_takeToken_b68
        have n2 : ¬ b = 2 := by rcases h3 with q | q | q | q | q | q <;> rw [q] <;> decide
        have n3 : ¬ b = 3 := by rcases h3 with q | q | q | q | q | q <;> rw [q] <;> decide
        rw [if_neg h2, if_pos rfl, do_e, ni_p1, do_e, f8, if_neg n2, if_neg n3, q0, sF_sF]
  have e11 : nI at_ - nI ls = nI (at_ - ls) := ni_sub hls
  have st : f_X1_takeToken N (nI at_) b c = if o_F c 7 = 0 then f_X1_takeToken_b36 N (nI at_) b 1 (o_setF (o_setF (o_setF c 9 (nI at_)) 10 (o_F c 3)) 11 (nI (at_ - ls))) else f_X1_takeToken_b36 N (nI at_) b 0 (o_setF (o_setF (o_setF c 9 (nI at_)) 10 (o_F c 3)) 11 (nI (at_ - ls))) := by
    unfold f_X1_takeToken
    have g3 : o_F (o_setF c 9 (nI at_)) 3 = o_F c 3 := by rw [sF_F, if_neg (by decide)]
    have g4 : o_F (o_setF (o_setF c 9 (nI at_)) 10 (o_F c 3)) 4 = nI ls := by rw [sF_F, if_neg (by decide), sF_F, if_neg (by decide)]; exact h4
    have g7 : o_F (o_setF (o_setF (o_setF c 9 (nI at_)) 10 (o_F c 3)) 11 (nI (at_ - ls))) 7 = o_F c 7 := by rw [sF_F, if_neg (by decide), sF_F, if_neg (by decide), sF_F, if_neg (by decide)]
    rw [do_e, g3, do_e, g4, e11, do_e, g7]
  rw [st, h7]
  cases fr with
  | false => rw [if_neg (by decide)]; exact b36 0 rfl
  | true => rw [if_pos (by rfl)]; exact b36 1 rfl
end
