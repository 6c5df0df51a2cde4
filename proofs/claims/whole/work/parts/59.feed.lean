/-! FEED -/
theorem dr_ {l : List Int32} {i : Nat} (h : i < l.length) : l.drop i = l.getD i 0 :: l.drop (i + 1) := by
  rw [List.drop_eq_getElem_cons h, List.getD_eq_getElem?_getD, List.getElem?_eq_getElem h]; rfl
theorem ni_p1 (i : Nat) : nI i + (1 : Int32) = nI (i + 1) := by rw [show (1 : Int32) = nI 1 from rfl, nI_add]
def okB (b : Int32) : Bool := decide (b = 10) || (!decide (b < 32) && !decide (126 < b))
section
variable {N e : Nat}
theorem tb_ (b : Int32) (s : o_S) : f_X6_isTextByte N b s = some (if okB b then 1 else 0, s) := by
  unfold f_X6_isTextByte okB
  by_cases h1 : b = 10
  · rw [if_pos h1]; simp [h1]
  · rw [if_neg h1]
    by_cases h2 : b < 32
    · rw [if_pos h2]; simp [h1, h2]
    · rw [if_neg h2]
      by_cases h3 : 126 < b
      · rw [if_pos h3]; simp [h1, h3]
      · rw [if_neg h3]; simp [h1, h2, h3]
theorem fc_L7 {s : o_S} {l : List Int32} (h1 : o_R s 1 = l) (hl : l.length ≤ 8) : ∀ d i M, i + d = l.length → f_X6_feed_L7 N (M + d + 1) (nI i) s = if (l.drop i).all okB then (if (nI (o_R s 0).length + nI l.length) ≤ (600 : Int32) then f_X6_feed_L81 N N (0 : Int32) s else some (.inl 2, o_addK s 3)) else some (.inl 1, o_addK s 3) := by
  intro d
  induction d with
  | zero =>
    intro i M hi
    unfold f_X6_feed_L7
    rw [h1, if_pos (nI_le (by omega) (by omega)), List.drop_of_length_le (by omega), List.all_nil, if_pos rfl]
  | succ d ih =>
    intro i M hi
    rw [show M + (d + 1) + 1 = (M + d + 1) + 1 by omega]
    unfold f_X6_feed_L7
    rw [h1, if_neg (fun q => absurd ((nI_leI (by omega) (by omega)).mp q) (by omega)), at_in (by rw [h1]; omega) (by rw [h1]; omega), do_e, tb_, bi_s, h1, ni_p1, ih (i + 1) M (by omega), dr_ (show i < l.length by omega), List.all_cons]
    cases okB (l.getD i 0) with
    | true => rw [if_pos rfl, if_neg (by decide), Bool.true_and]
    | false => rw [if_pos (show (if false = true then (1 : Int32) else 0) = 0 from rfl), Bool.false_and, if_neg (show ¬ false = true by decide)]
theorem fm_L14 {s : o_S} {l : List Int32} (h1 : FD l s) (hl : l.length ≤ 8) : ∀ d i M, i + d = l.length → f_X7_feed_L14 N (M + d + 1) (nI l.length) (nI i) s = if (l.drop i).all okB then (if (o_F s 16 + nI l.length) ≤ (600 : Int32) then f_X7_feed_L89 N N (nI l.length) (0 : Int32) s else some (0, o_setF s 15 2)) else some (0, o_setF s 15 1) := by
  intro d
  induction d with
  | zero =>
    intro i M hi
    unfold f_X7_feed_L14
    rw [if_pos (nI_le (by omega) (by omega)), List.drop_of_length_le (by omega), List.all_nil, if_pos rfl]; rfl
  | succ d ih =>
    intro i M hi
    rw [show M + (d + 1) + 1 = (M + d + 1) + 1 by omega]
    unfold f_X7_feed_L14
    rw [if_neg (fun q => absurd ((nI_leI (by omega) (by omega)).mp q) (by omega)), ld_ (show i < 8 by omega) (by decide), h1 i (by omega), ni_p1, ih (i + 1) M (by omega), dr_ (show i < l.length by omega), List.all_cons]
    unfold okB
    by_cases c1 : l.getD i 0 = 10
    · rw [if_pos c1]; simp only [c1, decide_true, Bool.true_or, Bool.true_and]
    · rw [if_neg c1, ld_ (show i < 8 by omega) (by decide), h1 i (by omega)]
      by_cases c2 : l.getD i 0 < 32
      · rw [if_pos c2, fail_, bi_s]; simp only [c1, c2, decide_false, decide_true, Bool.false_or, Bool.not_true, Bool.false_and]; rfl
      · rw [if_neg c2, ld_ (show i < 8 by omega) (by decide), h1 i (by omega)]
        by_cases c3 : 126 < l.getD i 0
        · rw [if_neg (Int32.not_le.mpr c3), fail_, bi_s]; simp only [c1, c2, c3, decide_false, decide_true, Bool.false_or, Bool.not_true, Bool.not_false, Bool.true_and, Bool.false_and]; rfl
        · rw [if_pos (Int32.not_lt.mp c3)]; simp only [c1, c2, c3, decide_false, Bool.false_or, Bool.not_false, Bool.true_and]
theorem fc_L81 {l : List Int32} (hl : l.length ≤ 8) : ∀ d i M (s : o_S), i + d = l.length → o_R s 1 = l → GS e s → (o_R s 0).length + d ≤ 600 → ∃ t, f_X6_feed_L81 N (M + d + 1) (nI i) s = some (.inr (nI ((o_R s 0).length + d)), t) ∧ GS e t ∧ (∀ q, o_R t q = if q = 0 then o_R s 0 ++ l.drop i else o_R s q) ∧ o_F t = o_F s ∧ o_A t = o_A s ∧ o_O t = o_O s := by
  intro d
  induction d with
  | zero =>
    intro i M s hi h1 hG h6
    refine ⟨s, ?_, hG, fun q => ?_, rfl, rfl, rfl⟩
    · unfold f_X6_feed_L81
      rw [h1, if_pos (nI_le (by omega) (by omega))]; rfl
    · rw [List.drop_of_length_le (by omega), List.append_nil]; split
      · next h => rw [h]
      · rfl
  | succ d ih =>
    intro i M s hi h1 hG h6
    obtain ⟨t, p1, p2, p3, p4, p5, p6⟩ := hG.push (r := 0) (by decide) (l.getD i 0) (by show _ < 16384; omega)
    have e0 : (o_R t 0).length = (o_R s 0).length + 1 := by rw [p3, if_pos rfl, List.length_append]; rfl
    obtain ⟨u, q1, q2, q3, q4, q5, q6⟩ := ih (i + 1) M t (by omega) (by rw [p3, if_neg (by decide), h1]) p2 (by omega)
    refine ⟨u, ?_, q2, fun q => ?_, q4.trans p4, q5.trans p5, q6.trans p6⟩
    · rw [show M + (d + 1) + 1 = (M + d + 1) + 1 by omega]
      unfold f_X6_feed_L81
      rw [h1, if_neg (fun q => absurd ((nI_leI (by omega) (by omega)).mp q) (by omega)), at_in (by rw [h1]; omega) (by rw [h1]; omega), do_e, h1, p1, bv_s, ni_p1, q1, e0]
      congr 4; omega
    · rw [q3, p3, p3, if_pos rfl]
      split
      · rw [List.append_assoc, dr_ (show i < l.length by omega)]; rfl
      · rfl
theorem fm_L89 {l : List Int32} (hl : l.length ≤ 8) : ∀ d i c M (s : o_S), i + d = l.length → FD l s → o_F s 16 = nI c → c + d ≤ 600 → ∃ t, f_X7_feed_L89 N (M + d + 1) (nI l.length) (nI i) s = some (nI (c + d), t) ∧ (∀ e, GS e s → GS e t) ∧ o_R t = o_R s ∧ o_O t = o_O s ∧ (∀ k, k ≠ 16 → o_F t k = o_F s k) ∧ o_F t 16 = nI (c + d) ∧ (∀ a, a ≠ 0 → o_A t a = o_A s a) ∧ (∀ j, j < c → o_A t 0 j = o_A s 0 j) ∧ ∀ j, j < d → o_A t 0 (c + j) = l.getD (i + j) 0 := by
  intro d
  induction d with
  | zero =>
    intro i c M s hi h1 h16 h6
    refine ⟨s, ?_, fun _ h => h, rfl, rfl, fun _ _ => rfl, h16, fun _ _ => rfl, fun _ _ => rfl, fun j hj => absurd hj (Nat.not_lt_zero _)⟩
    unfold f_X7_feed_L89
    rw [if_pos (nI_le (by omega) (by omega)), h16]; rfl
  | succ d ih =>
    intro i c M s hi h1 h16 h6
    obtain ⟨t, q1, q2, q3, q4, q5, q6, q7, q8, q9⟩ := ih (i + 1) (c + 1) M (o_setF (o_setA s 0 c (l.getD i 0)) 16 (nI (c + 1))) (by omega) (fun j hj => by rw [sF_A, sA_A, if_neg (by decide)]; exact h1 j hj) (by rw [sF_F, if_pos rfl]) (by omega)
    refine ⟨t, ?_, fun e h => q2 e ((h.A _ _ _).F _ _), q3, q4, fun k hk => ?_, by rw [q6]; congr 1; omega, fun a ha => ?_, fun j hj => ?_, fun j hj => ?_⟩
    · rw [show M + (d + 1) + 1 = (M + d + 1) + 1 by omega]
      unfold f_X7_feed_L89
      rw [if_neg (fun q => absurd ((nI_leI (by omega) (by omega)).mp q) (by omega)), ld_ (show i < 8 by omega) (by decide), h1 i (by omega), h16, st_ (show c < 600 by omega) (by decide), do_e, sA_F, h16, ni_p1, ni_p1, q1]
      congr 3; omega
    · rw [q5 k hk, sF_F, if_neg hk, sA_F]
    · rw [q7 a ha, sF_A]; funext j; rw [sA_A, if_neg ha]
    · rw [q8 j (by omega), sF_A, sA_A, if_pos rfl, if_neg (by omega)]
    · cases j with
      | zero => rw [Nat.add_zero, q8 c (by omega), sF_A, sA_A, if_pos rfl, if_pos rfl]; rfl
      | succ j => rw [show c + (j + 1) = c + 1 + j by omega, q9 j (by omega)]; congr 1; omega
end
/-- what changes with the text alone -/
def LT (s t : o_S) : Prop := (∀ r, r ≠ 1 → r ≠ 0 → o_R t r = o_R s r) ∧ (∀ k, k ≠ 15 → k ≠ 16 → o_F t k = o_F s k) ∧ (∀ a, a ≠ 14 → a ≠ 0 → o_A t a = o_A s a)
theorem LT.iv {s t : o_S} (h : LT s t) {T T' : List Int32} {n : Nat} {kd lv dp : Nat → Nat} {w : Nat → List Int32} {ids : Nat → Nat} (hI : IV s T n kd lv dp w ids) (hT' : TX T' t) : IV t T' n kd lv dp w ids := by
  obtain ⟨hR, hF, hA⟩ := id h
  have lo_tg : ∀ i f, tg t i f = tg s i f := fun i f => by unfold tg; rw [hR 3 (by decide) (by decide)]
  obtain ⟨-, ⟨c1, c2, c3, c4, c5, c6⟩, hT, ⟨r1, r2, r3, r4, r5, r6⟩, ⟨k, p1, p2, p3, p4, p5⟩, ⟨u1, u2, u3⟩, ⟨rm, l1, l2⟩, ⟨b1, b2, b3⟩⟩ := hI
  have R2 := hR 2 (by decide) (by decide)
  have R3 := hR 3 (by decide) (by decide)
  have R4 := hR 4 (by decide) (by decide)
  have R8 := hR 8 (by decide) (by decide)
  refine ⟨hT', ⟨by rw [R3]; exact c1, by rw [hF 1 (by decide) (by decide)]; exact c2, c3, by rw [R4]; exact c4, fun i hi => by rw [lo_tg, lo_tg, lo_tg]; exact c5 i hi, fun i hi hk => by rw [lo_tg, lo_tg, R4]; exact c6 i hi hk⟩, hT, ⟨by rw [hF 18 (by decide) (by decide)]; exact r1, r2.congr (hA 2 (by decide) (by decide)) (hA 3 (by decide) (by decide)) (hA 4 (by decide) (by decide)), r3, fun i hi => by rw [hA 10 (by decide) (by decide), hA 11 (by decide) (by decide)]; exact r4 i hi, fun i hi => by rw [hA 1 (by decide) (by decide), hA 5 (by decide) (by decide), hA 6 (by decide) (by decide), hA 7 (by decide) (by decide), lo_tg, lo_tg, lo_tg]; exact r5 i hi, fun i hi hk => by rw [hA 8 (by decide) (by decide), hA 9 (by decide) (by decide)]; exact r6 i hi hk⟩, ⟨k, p1, by rw [hF 0 (by decide) (by decide)]; exact p2, by rw [R2]; exact p3, by rw [hF 19 (by decide) (by decide)]; exact p4, fun j hj => by rw [hA 12 (by decide) (by decide), R2]; exact p5 j hj⟩, ⟨by rw [hF 20 (by decide) (by decide), R8]; exact u1, by rw [R8]; exact u2, fun j hj => by rw [hA 13 (by decide) (by decide), R8]; rw [R8] at hj; exact u3 j hj⟩, ⟨rm, fun i hi hk => by rw [lo_tg, R4]; exact l1 i hi hk, fun i j hi hj h1 h2 h3 => by rw [lo_tg, lo_tg]; exact l2 i j hi hj h1 h2 h3⟩, ⟨b1, fun i hi hk => by rw [lo_tg]; exact b2 i hi hk, b3⟩⟩
section
variable {N e : Nat} {s : o_S}
/-- both sides take the bytes: only the rows for them change -/
theorem lo_unp {t : o_S} (h1 : ∀ q, q ≠ 1 → o_R t q = o_R s q) (h2 : o_F t = o_F s) (h3 : o_A t = o_A s) : LO s t := ⟨h1, fun k _ => by rw [h2], fun a _ => by rw [h3]⟩
theorem lo_take {t : o_S} (h1 : o_F t = o_F s) (h2 : o_R t = o_R s) (h3 : ∀ a, a ≠ 14 → o_A t a = o_A s a) : LO s t := ⟨fun r _ => by rw [h2], fun k _ => by rw [h1], h3⟩
theorem l_feed (hN : 2000 ≤ N) (hI : Inv e s) (x : Int64) : PX (f_L_feed N x s) (fun t => f_X7_feed N x t) e := by
  obtain ⟨hG, T, n, kd, lv, dp, w, ids, hv⟩ := id hI
  obtain ⟨t1, t2, t3, t4⟩ := hv.1
  have hl := bys_len x
  obtain ⟨a, a1, a2, a3, a4, a5, a6, a7⟩ := unp_ (N := N) hN x hG
  have aT : o_R a 0 = T := by rw [a4 0 (by decide), t1]
  have ec := fc_L7 (N := N) a3 hl (bys x).length 0 (N - (bys x).length - 1) (by omega)
  rw [show N - (bys x).length - 1 + (bys x).length + 1 = N by omega, List.drop_zero, aT, nI_add, show (600 : Int32) = nI 600 from rfl, if_ni_le (a := T.length + (bys x).length) (b := 600) (by omega) (by decide)] at ec
  have hbad : ∀ (k : Int32) (m : Nat), f_X6_feed_L7 N N (0 : Int32) a = some (.inl m, o_addK a 3) → (k = 1 ∧ m = 1 ∨ k = 2 ∧ m = 2) → (∀ b, FD (bys x) b → o_F b 16 = nI T.length → f_X7_feed_L14 N N (nI (bys x).length) (0 : Int32) b = some (0, o_setF b 15 k)) → PX (f_L_feed N x s) (fun t => f_X7_feed N x t) e := by
    intro k m hm hkm hb
    obtain ⟨b, b1, b2, b3, b4, b5, b6, b7⟩ := take_ (N := N) hN x (o_setF (o_addK a 3) 15 0)
    have hlo : LO s (o_setF b 15 k) := ((((lo_unp a4 a5 a6).tr (lo_K a 3)).tr (lo_F15 _ 0)).tr (lo_take b3 b4 b6)).tr (lo_F15 b k)
    refine ⟨k, o_addK a 3, 0, o_setF b 15 k, ?_, ?_, by rw [sF_F, if_pos rfl], fun z => ?_, LO.inv hI hlo ((b2 _ (a2.K.F 15 0)).F 15 k)⟩
    · unfold f_L_feed f_X6_feed
      rw [a1, bv_s, hm, bx_l]
      rcases hkm with ⟨rfl, rfl⟩ | ⟨rfl, rfl⟩ <;> rfl
    · show f_X7_feed N x (o_addK a 3) = _
      unfold f_X7_feed
      rw [do_e, b1, bi_s]
      exact hb b b7 (by rw [b3, sF_F, if_neg (by decide), sK_F, a5]; exact t3)
    · rcases hkm with ⟨rfl, -⟩ | ⟨rfl, -⟩ <;> exact absurd z (by decide)
  have em : ∀ b, FD (bys x) b → o_F b 16 = nI T.length → f_X7_feed_L14 N N (nI (bys x).length) (0 : Int32) b = if (bys x).all okB then (if T.length + (bys x).length ≤ 600 then f_X7_feed_L89 N N (nI (bys x).length) (0 : Int32) b else some (0, o_setF b 15 2)) else some (0, o_setF b 15 1) := by
    intro b hb h16
    have := fm_L14 (N := N) hb hl (bys x).length 0 (N - (bys x).length - 1) (by omega)
    rw [show N - (bys x).length - 1 + (bys x).length + 1 = N by omega, List.drop_zero, h16, nI_add, show (600 : Int32) = nI 600 from rfl, if_ni_le (a := T.length + (bys x).length) (b := 600) (by omega) (by decide)] at this
    exact this
  by_cases c1 : (bys x).all okB = true
  · by_cases c2 : T.length + (bys x).length ≤ 600
    · rw [if_pos c1, if_pos c2] at ec
      obtain ⟨u, u1, u2, u3, u4, u5, u6⟩ := fc_L81 (N := N) (e := e) hl (bys x).length 0 (N - (bys x).length - 1) a (by omega) a3 a2 (by rw [aT]; exact c2)
      rw [show N - (bys x).length - 1 + (bys x).length + 1 = N by omega, aT] at u1
      obtain ⟨b, b1, b2, b3, b4, b5, b6, b7⟩ := take_ (N := N) hN x (o_setF (o_setO u 0 (Int32.toInt64 (nI (T.length + (bys x).length)))) 15 0)
      have b16 : o_F b 16 = nI T.length := by rw [b3, sF_F, if_neg (by decide), sO_F, u4, a5]; exact t3
      obtain ⟨v, v1, v2, v3, v4, v5, v6, v7, v8, v9⟩ := fm_L89 (N := N) hl (bys x).length 0 T.length (N - (bys x).length - 1) b (by omega) b7 b16 c2
      rw [show N - (bys x).length - 1 + (bys x).length + 1 = N by omega] at v1
      have hR0 : o_R v 0 = T ++ bys x := by rw [v3, b4, sF_R, sO_R, u3, if_pos rfl, aT, List.drop_zero]
      refine ⟨0, o_setO u 0 (Int32.toInt64 (nI (T.length + (bys x).length))), nI (T.length + (bys x).length), v, ?_, ?_, ?_, fun _ => ?_, ?_, T ++ bys x, n, kd, lv, dp, w, ids, ?_⟩
      · unfold f_L_feed f_X6_feed
        rw [a1, bv_s]
        show o_bx (f_X6_feed_L7 N N (nI 0) a) _ _ = _
        rw [ec]
        show o_bx (f_X6_feed_L81 N N (nI 0) a) _ _ = _
        rw [u1]; rfl
      · show f_X7_feed N x _ = _
        unfold f_X7_feed
        rw [do_e, b1, bi_s, em b b7 b16, if_pos c1, if_pos c2]
        exact v1
      · rw [v5 15 (by decide), b3, sF_F, if_pos rfl]
      · rw [v4, b5, sF_O, sO_O, if_pos rfl]
      · exact v2 _ (b2 _ (((u2.up (by omega)).O _ _).F _ _))
      · refine LT.iv (s := s) (T := T) ⟨fun r h1 h0 => ?_, fun k h15 h16 => ?_, fun q h14 h0 => ?_⟩ hv ⟨hR0, by rw [List.length_append]; exact c2, by rw [v6, List.length_append], fun j hj => ?_⟩
        · rw [v3, b4, sF_R, sO_R, u3, if_neg h0, a4 r h1]
        · rw [v5 k h16, b3, sF_F, if_neg h15, sO_F, u4, a5]
        · rw [v7 q h0, b6 q h14, sF_A, sO_A, u5, a6]
        · rw [List.length_append] at hj
          by_cases hjT : j < T.length
          · rw [v8 j hjT, b6 0 (by decide), sF_A, sO_A, u5, a6, t4 j hjT, List.getD_eq_getElem?_getD, List.getD_eq_getElem?_getD, List.getElem?_append_left hjT]
          · have := v9 (j - T.length) (by omega)
            rw [show T.length + (j - T.length) = j by omega, Nat.zero_add] at this
            rw [this, List.getD_eq_getElem?_getD, List.getD_eq_getElem?_getD, List.getElem?_append_right (by omega)]
    · rw [if_pos c1, if_neg c2] at ec
      exact hbad 2 2 ec (Or.inr ⟨rfl, rfl⟩) (fun b hb h16 => by rw [em b hb h16, if_pos c1, if_neg c2])
  · rw [if_neg c1] at ec
    exact hbad 1 1 ec (Or.inl ⟨rfl, rfl⟩) (fun b hb h16 => by rw [em b hb h16, if_neg c1])
end
