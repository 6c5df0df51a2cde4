/-! WHAT HOLDS BETWEEN TWO CALLS -/
def o_M (r : Nat) : Nat := if r = 8 then 60000 else 16384
def o_psi (s : o_S) : Nat := o_cap s 0 + o_cap s 1 + o_cap s 2 + o_cap s 3 + o_cap s 4 + o_cap s 5 + o_cap s 6 + o_cap s 7 + o_cap s 8
/-- the rows' room, and what was made -/
def GS (e : Nat) (s : o_S) : Prop := (∀ r, r < 9 → (o_R s r).length ≤ o_cap s r ∧ 64 ≤ o_cap s r ∧ o_cap s r ≤ 2 * o_M r) ∧ o_k s + 576 ≤ o_psi s + 3 * e
theorem o_M_le (r : Nat) : 16384 ≤ o_M r ∧ o_M r ≤ 60000 := by unfold o_M; split <;> omega
theorem GS.k {e : Nat} {s : o_S} (h : GS e s) (he : e ≤ 2048) : o_k s ≤ 500000 := by
  obtain ⟨h1, h2⟩ := h
  have a0 := (h1 0 (by decide)).2.2
  have a1 := (h1 1 (by decide)).2.2
  have a2 := (h1 2 (by decide)).2.2
  have a3 := (h1 3 (by decide)).2.2
  have a4 := (h1 4 (by decide)).2.2
  have a5 := (h1 5 (by decide)).2.2
  have a6 := (h1 6 (by decide)).2.2
  have a7 := (h1 7 (by decide)).2.2
  have a8 := (h1 8 (by decide)).2.2
  have e0 : o_M 0 = 16384 := rfl
  have e1 : o_M 1 = 16384 := rfl
  have e2 : o_M 2 = 16384 := rfl
  have e3 : o_M 3 = 16384 := rfl
  have e4 : o_M 4 = 16384 := rfl
  have e5 : o_M 5 = 16384 := rfl
  have e6 : o_M 6 = 16384 := rfl
  have e7 : o_M 7 = 16384 := rfl
  have e8 : o_M 8 = 60000 := rfl
  unfold o_psi at h2
  omega
theorem psi_setR {s : o_S} {r c : Nat} {l : List Int32} (hr : r < 9) : o_psi (o_setR s r c l) + o_cap s r = o_psi s + c := by
  unfold o_psi
  simp only [sR_C]
  rcases o_r9 hr with rfl | rfl | rfl | rfl | rfl | rfl | rfl | rfl | rfl <;> simp <;> omega
/-- a row is changed within its room -/
theorem GS.set {e : Nat} {s : o_S} (h : GS e s) {r : Nat} (hr : r < 9) {l : List Int32} (hl : l.length ≤ o_cap s r) : GS e (o_setR s r (o_cap s r) l) := by
  refine ⟨fun q hq => ?_, ?_⟩
  · rw [sR_R, sR_C]
    by_cases x : q = r
    · subst x; rw [if_pos rfl, if_pos rfl]; exact ⟨hl, (h.1 q hq).2⟩
    · rw [if_neg x, if_neg x]; exact h.1 q hq
  · have := psi_setR (s := s) (c := o_cap s r) (l := l) hr
    have h2 := h.2
    rw [sR_k]; omega
theorem GS.push {e : Nat} {s : o_S} (h : GS e s) {r : Nat} (hr : r < 9) (v : Int32) (hl : (o_R s r).length < o_M r) : ∃ t, o_push s r v = some t ∧ GS e t ∧ (∀ q, o_R t q = if q = r then o_R s r ++ [v] else o_R s q) ∧ o_F t = o_F s ∧ o_A t = o_A s ∧ o_O t = o_O s := by
  obtain ⟨m1, m2⟩ := o_M_le r
  obtain ⟨w1, w2, w3⟩ := h.1 r hr
  unfold o_push
  rw [if_neg (by omega)]
  refine ⟨_, rfl, ?_, fun q => ?_, ?_, ?_, ?_⟩
  · by_cases q : (o_R s r).length < o_cap s r
    · have eg : o_grow s r = s := by unfold o_grow; rw [if_pos q]
      rw [eg]
      exact h.set hr (by rw [List.length_append]; exact q)
    · have eg : o_grow s r = o_addK (o_setR s r (2 * (o_R s r).length) (o_R s r)) (o_R s r).length := by unfold o_grow; rw [if_neg q]
      rw [eg]
      unfold o_app
      refine ⟨fun z hz => ?_, ?_⟩
      · rw [sR_R, sR_C, sK_C, sR_C, if_pos rfl, sK_R, sR_R, if_pos rfl]
        by_cases x : z = r
        · subst x
          rw [if_pos rfl, if_pos rfl, List.length_append]
          refine ⟨?_, by omega, by omega⟩
          show (o_R s z).length + 1 ≤ _; omega
        · rw [if_neg x, if_neg x]
          have := h.1 z hz
          rw [sR_R, if_neg x, sR_C, if_neg x]; exact this
      · have e1 := psi_setR (s := s) (c := 2 * (o_R s r).length) (l := o_R s r) hr
        have e2 := psi_setR (s := o_addK (o_setR s r (2 * (o_R s r).length) (o_R s r)) (o_R s r).length) (c := o_cap (o_addK (o_setR s r (2 * (o_R s r).length) (o_R s r)) (o_R s r).length) r) (l := o_R (o_addK (o_setR s r (2 * (o_R s r).length) (o_R s r)) (o_R s r).length) r ++ [v]) hr
        have e3 : o_psi (o_addK (o_setR s r (2 * (o_R s r).length) (o_R s r)) (o_R s r).length) = o_psi (o_setR s r (2 * (o_R s r).length) (o_R s r)) := rfl
        have h2 := h.2
        rw [sR_k, sK_k, sR_k]
        omega
  · unfold o_app
    rw [sR_R, o_grow_R, o_grow_R]
  · unfold o_app o_grow; split <;> rfl
  · unfold o_app o_grow; split <;> rfl
  · unfold o_app o_grow; split <;> rfl
/-- the text -/
def TX (T : List Int32) (s : o_S) : Prop := o_R s 0 = T ∧ T.length ≤ 600 ∧ o_F s 16 = nI T.length ∧ ∀ j, j < T.length → o_A s 0 j = T.getD j 0
/-- repairs -/
def RP (s : o_S) : Prop := ∃ k, k ≤ 1290 ∧ o_F s 0 = nI k ∧ (o_R s 2).length = 3 * k ∧ o_F s 19 = nI k ∧ ∀ j, j < 3 * k → o_A s 12 j = (o_R s 2).getD j 0
/-- what is written -/
def OU (s : o_S) : Prop := o_F s 20 = nI (o_R s 8).length ∧ (o_R s 8).length ≤ 60000 ∧ ∀ j, j < (o_R s 8).length → o_A s 13 j = (o_R s 8).getD j 0
def kOK (a b : Nat) : Prop := (a = 0 ∧ b = 1) ∨ (a = 1 ∧ (b = 0 ∨ b = 2 ∨ b = 3 ∨ b = 4)) ∨ (a = 4 ∧ (b = 2 ∨ b = 3 ∨ b = 4))
/-- a tree of blocks, items, words, numbers, groups -/
def TI (n : Nat) (kd lv dp : Nat → Nat) : Prop := WL n lv ∧ kd 0 = 0 ∧ dp 0 = 0 ∧ (∀ i, 0 < i → i < n → kOK (kd (p_par lv (lv i) i)) (kd i) ∧ dp i = dp (p_par lv (lv i) i) + (if kd (p_par lv (lv i) i) = 0 then 1 else 0)) ∧ (∀ i, i < n → kd i = 1 → i + 1 < n ∧ lv (i + 1) = lv i + 1) ∧ (∀ i, i < n → (kd i = 0 ∨ kd i = 4) → lv i ≤ dp i + 30)
/-- the reference's tree is the class's -/
def RM (s : o_S) (n : Nat) (kd lv : Nat → Nat) (w : Nat → List Int32) (ids : Nat → Nat) : Prop :=
  o_F s 18 = nI n ∧ LK n lv ids s ∧ ids 0 = 0 ∧ (∀ i, i < n → o_A s 10 i = nI (ids i) ∧ o_A s 11 (ids i) = nI i) ∧ (∀ i, i < n → o_A s 1 (ids i) = nI (kd i) ∧ o_A s 5 (ids i) = tg s i 3 ∧ o_A s 6 (ids i) = tg s i 4 ∧ o_A s 7 (ids i) = tg s i 5) ∧
  (∀ i, i < n → kd i = 2 → ∃ a, o_A s 8 (ids i) = nI a ∧ (a + (w i).length ≤ 600 ∨ (a = 600 + 8 * ids i ∧ (w i).length ≤ 8)) ∧ ∀ j, j < (w i).length → o_A s 9 (a + j) = (w i).getD j 0)
/-- the words' room in the class: apart, and enough for a new name -/
def CL (s : o_S) (n : Nat) (kd : Nat → Nat) (w : Nat → List Int32) : Prop := ∃ rm : Nat → Nat, (∀ i, i < n → kd i = 2 → 8 ≤ rm i ∧ (w i).length ≤ rm i ∧ 1 ≤ (w i).length ∧ (tg s i 6).toNatClampNeg + rm i ≤ (o_R s 4).length) ∧ ∀ i j, i < n → j < n → kd i = 2 → kd j = 2 → i ≠ j → (tg s i 6).toNatClampNeg + rm i ≤ (tg s j 6).toNatClampNeg ∨ (tg s j 6).toNatClampNeg + rm j ≤ (tg s i 6).toNatClampNeg
/-- a sum over d places from a on -/
def sm (f : Nat → Nat) : Nat → Nat → Nat
  | 0, _ => 0
  | d + 1, a => f a + sm f d (a + 1)
/-- sizes: letters of words beyond eight, and numbers' values -/
def BD (s : o_S) (n : Nat) (kd : Nat → Nat) (w : Nat → List Int32) : Prop := n ≤ 1202 ∧ (∀ i, i < n → kd i = 3 → ∃ v, v < 1000000000 ∧ tg s i 5 = nI v) ∧ sm (fun i => if kd i = 2 then (w i).length - 8 else 0) n 0 ≤ 600
def IV (s : o_S) (T : List Int32) (n : Nat) (kd lv dp : Nat → Nat) (w : Nat → List Int32) (ids : Nat → Nat) : Prop :=
  TX T s ∧ CT s n kd lv dp w ∧ TI n kd lv dp ∧ RM s n kd lv w ids ∧ RP s ∧ OU s ∧ CL s n kd w ∧ BD s n kd w
def Inv (e : Nat) (s : o_S) : Prop := GS e s ∧ ∃ (T : List Int32) (n : Nat) (kd lv dp : Nat → Nat) (w : Nat → List Int32) (ids : Nat → Nat), IV s T n kd lv dp w ids
/-- a call that only looks: nothing changes but the row for the bytes that were given, the reference's own, what was thrown, what is given back -/
def LO (s t : o_S) : Prop := (∀ r, r ≠ 1 → o_R t r = o_R s r) ∧ (∀ k, k ≠ 15 → o_F t k = o_F s k) ∧ (∀ a, a ≠ 14 → o_A t a = o_A s a)
theorem LO.rf (s : o_S) : LO s s := ⟨fun _ _ => rfl, fun _ _ => rfl, fun _ _ => rfl⟩
theorem LO.tr {s t u : o_S} (h1 : LO s t) (h2 : LO t u) : LO s u := ⟨fun r h => (h2.1 r h).trans (h1.1 r h), fun k h => (h2.2.1 k h).trans (h1.2.1 k h), fun a h => (h2.2.2 a h).trans (h1.2.2 a h)⟩
theorem lo_tg {s t : o_S} (h : LO s t) (i f : Nat) : tg t i f = tg s i f := by unfold tg; rw [h.1 3 (by decide)]
theorem LO.iv {s t : o_S} (h : LO s t) {T : List Int32} {n : Nat} {kd lv dp : Nat → Nat} {w : Nat → List Int32} {ids : Nat → Nat} (hI : IV s T n kd lv dp w ids) : IV t T n kd lv dp w ids := by
  obtain ⟨hR, hF, hA⟩ := id h
  obtain ⟨⟨t1, t2, t3, t4⟩, ⟨c1, c2, c3, c4, c5, c6⟩, hT, ⟨r1, r2, r3, r4, r5, r6⟩, ⟨k, p1, p2, p3, p4, p5⟩, ⟨u1, u2, u3⟩, ⟨rm, l1, l2⟩, ⟨b1, b2, b3⟩⟩ := hI
  have R0 := hR 0 (by decide)
  have R2 := hR 2 (by decide)
  have R3 := hR 3 (by decide)
  have R4 := hR 4 (by decide)
  have R8 := hR 8 (by decide)
  refine ⟨⟨by rw [R0]; exact t1, t2, by rw [hF 16 (by decide)]; exact t3, fun j hj => by rw [hA 0 (by decide)]; exact t4 j hj⟩, ⟨by rw [R3]; exact c1, by rw [hF 1 (by decide)]; exact c2, c3, by rw [R4]; exact c4, fun i hi => by rw [lo_tg h, lo_tg h, lo_tg h]; exact c5 i hi, fun i hi hk => by rw [lo_tg h, lo_tg h, R4]; exact c6 i hi hk⟩, hT, ⟨by rw [hF 18 (by decide)]; exact r1, r2.congr (hA 2 (by decide)) (hA 3 (by decide)) (hA 4 (by decide)), r3, fun i hi => by rw [hA 10 (by decide), hA 11 (by decide)]; exact r4 i hi, fun i hi => by rw [hA 1 (by decide), hA 5 (by decide), hA 6 (by decide), hA 7 (by decide), lo_tg h, lo_tg h, lo_tg h]; exact r5 i hi, fun i hi hk => by rw [hA 8 (by decide), hA 9 (by decide)]; exact r6 i hi hk⟩, ⟨k, p1, by rw [hF 0 (by decide)]; exact p2, by rw [R2]; exact p3, by rw [hF 19 (by decide)]; exact p4, fun j hj => by rw [hA 12 (by decide), R2]; exact p5 j hj⟩, ⟨by rw [hF 20 (by decide), R8]; exact u1, by rw [R8]; exact u2, fun j hj => by rw [hA 13 (by decide), R8]; rw [R8] at hj; exact u3 j hj⟩, ⟨rm, fun i hi hk => by rw [lo_tg h, R4]; exact l1 i hi hk, fun i j hi hj h1 h2 h3 => by rw [lo_tg h, lo_tg h]; exact l2 i j hi hj h1 h2 h3⟩, ⟨b1, fun i hi hk => by rw [lo_tg h]; exact b2 i hi hk, b3⟩⟩
theorem GS.F {e : Nat} {s : o_S} (h : GS e s) (k : Nat) (v : Int32) : GS e (o_setF s k v) := h
theorem GS.O {e : Nat} {s : o_S} (h : GS e s) (i : Nat) (v : Int64) : GS e (o_setO s i v) := h
theorem GS.A {e : Nat} {s : o_S} (h : GS e s) (a i : Nat) (v : Int32) : GS e (o_setA s a i v) := h
theorem GS.up {e f : Nat} {s : o_S} (h : GS e s) (hf : e ≤ f) : GS f s := ⟨h.1, by have := h.2; omega⟩
theorem GS.K {e : Nat} {s : o_S} (h : GS e s) : GS (e + 1) (o_addK s 3) := ⟨h.1, by have := h.2; rw [sK_k]; show o_k s + 3 + 576 ≤ o_psi s + _; omega⟩
