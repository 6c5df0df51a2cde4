theorem gd_set {l : List Int32} {i : Nat} (k : Nat) (v : Int32) (hi : i < l.length) : (l.set i v).getD k 0 = if k = i then v else l.getD k 0 := by
  rw [List.getD_eq_getElem?_getD, List.getElem?_set, List.getD_eq_getElem?_getD]
  by_cases h : i = k
  · subst h; rw [if_pos rfl, if_pos rfl, if_pos hi]; rfl
  · rw [if_neg h, if_neg (fun q => h q.symm)]
theorem sm_le {f g : Nat → Nat} : ∀ d a, (∀ i, a ≤ i → i < a + d → f i ≤ g i) → sm f d a ≤ sm g d a := by
  intro d
  induction d with
  | zero => intro a _; exact Nat.le_refl _
  | succ d ih =>
    intro a h
    unfold sm
    have h1 := h a (Nat.le_refl _) (by omega)
    have h2 := ih (a + 1) (fun i q1 q2 => h i (by omega) (by omega))
    omega
section
variable {N e n i a : Nat} {l : List Int32}
theorem rp_L (hl : l.length ≤ 8) (hi : i < n) (hn : n ≤ 1300) : ∀ d j M (s : o_S), j + d = l.length → o_R s 1 = l → GS e s → a + l.length ≤ (o_R s 4).length → (o_R s 4).length ≤ 16000 → (o_R s 3).length = 7 * n → ∃ t, f_X5_respell_L11 N (M + d + 1) (nI i) (nI a) (nI j) s = some t ∧ GS e t ∧ o_F t = o_F s ∧ o_A t = o_A s ∧ o_O t = o_O s ∧ (∀ q, q ≠ 3 → q ≠ 4 → o_R t q = o_R s q) ∧ o_R t 3 = (o_R s 3).set (7 * i + 5) (nI l.length) ∧ (o_R t 4).length = (o_R s 4).length ∧ ∀ k, (o_R t 4).getD k 0 = if a + j ≤ k ∧ k < a + l.length then l.getD (k - a) 0 else (o_R s 4).getD k 0 := by
  intro d
  induction d with
  | zero =>
    intro j M s hj h1 hG h4 h5 h3
    have hc := hG.1 3 (by decide)
    refine ⟨o_setR s 3 (o_cap s 3) ((o_R s 3).set (7 * i + 5) (nI l.length)), ?_, hG.set (by decide) (by rw [List.length_set]; exact hc.1), rfl, rfl, rfl, fun q h _ => by rw [sR_R, if_neg h], by rw [sR_R, if_pos rfl], by rw [sR_R, if_neg (by decide)], fun k => by rw [sR_R, if_neg (by decide), if_neg (by omega)]⟩
    unfold f_X5_respell_L11 f_X5_set
    rw [h1, if_pos (nI_le (by omega) (by omega)), do_e, show (5 : Int32) = nI 5 from rfl, ni7, put_in (by omega) (by omega), bv_s]
  | succ d ih =>
    intro j M s hj h1 hG h4 h5 h3
    have hc := hG.1 4 (by decide)
    obtain ⟨t, t1, t2, t3, t4, t5, t6, t7, t8, t9⟩ := ih (j + 1) M (o_setR s 4 (o_cap s 4) ((o_R s 4).set (a + j) (l.getD j 0))) (by omega) (by rw [sR_R, if_neg (by decide), h1]) (hG.set (by decide) (by rw [List.length_set]; exact hc.1)) (by rw [sR_R, if_pos rfl, List.length_set]; exact h4) (by rw [sR_R, if_pos rfl, List.length_set]; exact h5) (by rw [sR_R, if_neg (by decide)]; exact h3)
    refine ⟨t, ?_, t2, t3, t4, t5, fun q q3 q4 => by rw [t6 q q3 q4, sR_R, if_neg q4], by rw [t7, sR_R, if_neg (by decide)], by rw [t8, sR_R, if_pos rfl, List.length_set], fun k => ?_⟩
    · rw [show M + (d + 1) + 1 = (M + d + 1) + 1 by omega]
      unfold f_X5_respell_L11
      rw [h1, if_neg (fun q => absurd ((nI_leI (by omega) (by omega)).mp q) (by omega)), at_in (by rw [h1]; omega) (by rw [h1]; omega), do_e, h1, nI_add, put_in (by omega) (by omega), do_e, ni_p1, t1]
    · rw [t9, sR_R, if_pos rfl, gd_set k _ (by omega)]
      by_cases q : k = a + j
      · rw [if_neg (by omega), if_pos q, if_pos (by omega), q, show a + j - a = j by omega]
      · rw [if_neg q]
        by_cases q2 : a + (j + 1) ≤ k ∧ k < a + l.length
        · rw [if_pos q2, if_pos (by omega)]
        · rw [if_neg q2, if_neg (by omega)]
theorem rm_L {b u : Nat} (hl : l.length ≤ 8) (hu : u < 1500) (hb : b + 8 ≤ 12600) : ∀ d j M (s : o_S), j + d = l.length → FD l s → o_A s 8 u = nI b → ∃ t, f_X7_rename_L162 N (M + d + 1) (nI l.length) (nI u) (nI j) s = some (nI l.length, t) ∧ (∀ e, GS e s → GS e t) ∧ o_F t = o_F s ∧ o_R t = o_R s ∧ o_O t = o_O s ∧ (∀ a, a ≠ 9 → o_A t a = o_A s a) ∧ ∀ k, o_A t 9 k = if b + j ≤ k ∧ k < b + l.length then l.getD (k - b) 0 else o_A s 9 k := by
  intro d
  induction d with
  | zero =>
    intro j M s hj h1 h8
    refine ⟨s, ?_, fun _ h => h, rfl, rfl, rfl, fun _ _ => rfl, fun k => by rw [if_neg (by omega)]⟩
    unfold f_X7_rename_L162
    rw [if_pos (nI_le (by omega) (by omega))]
  | succ d ih =>
    intro j M s hj h1 h8
    obtain ⟨t, t1, t2, t3, t4, t5, t6, t7⟩ := ih (j + 1) M (o_setA s 9 (b + j) (l.getD j 0)) (by omega) (fun q hq => by rw [sA_A, if_neg (by decide)]; exact h1 q hq) (by rw [sA_A, if_neg (by decide)]; exact h8)
    refine ⟨t, ?_, fun e h => t2 e (h.A _ _ _), t3, t4, t5, fun c hc => ?_, fun k => ?_⟩
    · rw [show M + (d + 1) + 1 = (M + d + 1) + 1 by omega]
      unfold f_X7_rename_L162
      rw [if_neg (fun q => absurd ((nI_leI (by omega) (by omega)).mp q) (by omega)), ld_ hu (by decide), h8, ld_ (show j < 8 by omega) (by decide), h1 j (by omega), nI_add, st_ (show b + j < 12600 by omega) (by decide), ni_p1, t1]
    · rw [t6 c hc]; funext k; rw [sA_A, if_neg hc]
    · rw [t7, sA_A, if_pos rfl]
      by_cases q : k = b + j
      · rw [if_neg (by omega), if_pos q, if_pos (by omega), q, show b + j - b = j by omega]
      · rw [if_neg q]
        by_cases q2 : b + (j + 1) ≤ k ∧ k < b + l.length
        · rw [if_pos q2, if_pos (by omega)]
        · rw [if_neg q2, if_neg (by omega)]
end
section
variable {N e n : Nat} {s : o_S} {T : List Int32} {kd lv dp : Nat → Nat} {w : Nat → List Int32} {ids : Nat → Nat}
theorem rn_start (hN : 2000 ≤ N) {b c : o_S} {x : Int64} {i : Nat} (hi : i < n) (hn : n ≤ 1202) (h18 : o_F c 18 = nI n) (hb : f_X7_take N x (o_setF c 15 0) = some (nI (bys x).length, b)) (hF : FD (bys x) b) : f_X7_rename N (nI i) x c = f_X7_rename_L53 N (N - (bys x).length - 1 + 1) (nI i) (nI (bys x).length) (if isW (bys x) then 1 else 0) (nI (bys x).length) b := by
  have hl := bys_len x
  have h := fun fl => rn_L (N := N) (p := nI i) hF hl (bys x).length 0 fl (N - (bys x).length - 1) (by omega)
  rw [show N - (bys x).length - 1 + (bys x).length + 1 = N by omega, List.drop_zero] at h
  have f0 := h false
  have f1 := h true
  rw [if_neg (by decide), Bool.false_and, if_neg (by decide)] at f0
  rw [if_pos rfl, Bool.true_and] at f1
  have f0' : f_X7_rename_L53 N N (nI i) (nI (bys x).length) 0 0 b = _ := f0
  have f1' : f_X7_rename_L53 N N (nI i) (nI (bys x).length) 1 0 b = _ := f1
  unfold f_X7_rename
  rw [do_e, isn_ok (s := o_setF c 15 0) (n := n) (by rw [sF_F, if_neg (by decide)]; exact h18) (by omega) hi, bi_s, if_neg (by decide), hb, bi_s, if_lle 0 0 rfl (by omega) (by decide)]
  unfold isW
  by_cases h0 : 0 < (bys x).length
  · rw [if_neg (by omega), show (if (0 : Int32) < 0 ∨ 8 ≤ Int32.toNatClampNeg (0 : Int32) then (none : Option (Int32 × o_S)) else o_do (o_A b 14 (Int32.toNatClampNeg (0 : Int32))) fun x48 => o_bi (f_X7_isLetter N x48 b) fun x51 s49 => if x51 = 0 then (f_X7_rename_L53 N N (nI i) (nI (bys x).length) (0 : Int32) (0 : Int32) s49) else (f_X7_rename_L53 N N (nI i) (nI (bys x).length) (1 : Int32) (0 : Int32) s49)) = (o_bi (f_X7_isLetter N (o_A b 14 0) b) fun x51 s49 => if x51 = 0 then (f_X7_rename_L53 N N (nI i) (nI (bys x).length) (0 : Int32) (0 : Int32) s49) else (f_X7_rename_L53 N N (nI i) (nI (bys x).length) (1 : Int32) (0 : Int32) s49)) from ld_ (s := b) (a := 14) (i := 0) (n := 8) (by decide) (by decide) _, mL_, bi_s, if_b, hF 0 h0, f0', f1', decide_eq_true h0, Bool.true_and]
    cases isL ((bys x).getD 0 0) with
    | true => rw [if_pos rfl, Bool.true_and]
    | false => rw [if_neg (by decide), Bool.false_and, if_neg (by decide)]
  · rw [if_pos (by omega), f0', decide_eq_false h0, Bool.false_and, Bool.false_and, if_neg (by decide)]
/-- a word is spelled anew, on both sides -/
theorem rn_iv {t : o_S} {l : List Int32} {i : Nat} (hv : IV s T n kd lv dp w ids) (hi : i < n) (hki : kd i = 2) (h1 : 1 ≤ l.length) (h8 : l.length ≤ 8)
    (hF : ∀ k, k ≠ 15 → o_F t k = o_F s k) (hR : ∀ q, q ≠ 1 → q ≠ 3 → q ≠ 4 → o_R t q = o_R s q) (h3 : o_R t 3 = (o_R s 3).set (7 * i + 5) (nI l.length)) (h4l : (o_R t 4).length = (o_R s 4).length)
    (h4 : ∀ k, (o_R t 4).getD k 0 = if (tg s i 6).toNatClampNeg ≤ k ∧ k < (tg s i 6).toNatClampNeg + l.length then l.getD (k - (tg s i 6).toNatClampNeg) 0 else (o_R s 4).getD k 0)
    (hA : ∀ a, a ≠ 14 → a ≠ 7 → a ≠ 8 → a ≠ 9 → o_A t a = o_A s a) (hA7 : ∀ k, o_A t 7 k = if k = ids i then nI l.length else o_A s 7 k) (hA8 : ∀ k, o_A t 8 k = if k = ids i then nI (600 + 8 * ids i) else o_A s 8 k)
    (hA9 : ∀ k, o_A t 9 k = if 600 + 8 * ids i ≤ k ∧ k < 600 + 8 * ids i + l.length then l.getD (k - (600 + 8 * ids i)) 0 else o_A s 9 k) : IV t T n kd lv dp (fun k => if k = i then l else w k) ids := by
  obtain ⟨⟨t1, t2, t3, t4⟩, ⟨c1, c2, c3, c4, c5, c6⟩, hT, ⟨r1, r2, r3, r4, r5, r6⟩, ⟨k, p1, p2, p3, p4, p5⟩, ⟨u1, u2, u3⟩, ⟨rm, l1, l2⟩, ⟨b1, b2, b3⟩⟩ := hv
  have htg : ∀ k f, k < n → f < 7 → tg t k f = if k = i ∧ f = 5 then nI l.length else tg s k f := by
    intro k f hk hf
    unfold tg
    rw [h3, gd_set _ _ (by omega)]
    by_cases q : k = i ∧ f = 5
    · rw [if_pos q, if_pos (by omega)]
    · rw [if_neg q, if_neg (by omega)]
  have hR0 := hR 0 (by decide) (by decide) (by decide)
  have hR2 := hR 2 (by decide) (by decide) (by decide)
  have hR8 := hR 8 (by decide) (by decide) (by decide)
  have hA0 := hA 0 (by decide) (by decide) (by decide) (by decide)
  have hA1 := hA 1 (by decide) (by decide) (by decide) (by decide)
  have hA5 := hA 5 (by decide) (by decide) (by decide) (by decide)
  have hA6 := hA 6 (by decide) (by decide) (by decide) (by decide)
  have hA10 := hA 10 (by decide) (by decide) (by decide) (by decide)
  have hA11 := hA 11 (by decide) (by decide) (by decide) (by decide)
  have hA12 := hA 12 (by decide) (by decide) (by decide) (by decide)
  have hA13 := hA 13 (by decide) (by decide) (by decide) (by decide)
  have hinj := r2.2.1
  have hidi := r2.1 i hi
  refine ⟨⟨by rw [hR0]; exact t1, t2, by rw [hF 16 (by decide)]; exact t3, fun j hj => by rw [hA0]; exact t4 j hj⟩, ⟨by rw [h3, List.length_set]; exact c1, by rw [hF 1 (by decide)]; exact c2, c3, by rw [h4l]; exact c4, fun k hk => by rw [htg k 0 hk (by decide), htg k 1 hk (by decide), htg k 2 hk (by decide), if_neg (by omega), if_neg (by omega), if_neg (by omega)]; exact c5 k hk, fun k hk hk2 => ?_⟩, hT, ⟨by rw [hF 18 (by decide)]; exact r1, r2.congr (hA 2 (by decide) (by decide) (by decide) (by decide)) (hA 3 (by decide) (by decide) (by decide) (by decide)) (hA 4 (by decide) (by decide) (by decide) (by decide)), r3, fun i hi => by rw [hA10, hA11]; exact r4 i hi, fun k hk => ?_, fun k hk hk2 => ?_⟩, ⟨k, p1, by rw [hF 0 (by decide)]; exact p2, by rw [hR2]; exact p3, by rw [hF 19 (by decide)]; exact p4, fun j hj => by rw [hA12, hR2]; exact p5 j hj⟩, ⟨by rw [hF 20 (by decide), hR8]; exact u1, by rw [hR8]; exact u2, fun j hj => by rw [hA13, hR8]; rw [hR8] at hj; exact u3 j hj⟩, ⟨rm, fun k hk hk2 => ?_, fun k j hk hj h1 h2 h3 => by rw [htg k 6 hk (by decide), htg j 6 hj (by decide), if_neg (by omega), if_neg (by omega)]; exact l2 k j hk hj h1 h2 h3⟩, ⟨b1, fun k hk hk3 => ?_, Nat.le_trans (sm_le n 0 (fun j _ _ => ?_)) b3⟩⟩
  · obtain ⟨e5, a, e6, ha, hb⟩ := c6 k hk hk2
    obtain ⟨g1, g2, g3, g4⟩ := l1 k hk hk2
    obtain ⟨y1, y2, y3, y4⟩ := l1 i hi hki
    have ea : (tg s k 6).toNatClampNeg = a := by rw [e6, nI_clamp (by omega)]
    by_cases q : k = i
    · subst q
      simp only [if_true]
      refine ⟨by rw [htg k 5 hk (by decide), if_pos ⟨rfl, rfl⟩], a, by rw [htg k 6 hk (by decide), if_neg (by omega)]; exact e6, by rw [h4l]; omega, fun j hj => ?_⟩
      rw [h4, ea, if_pos (by omega), show a + j - a = j by omega]
    · simp only [if_neg q]
      refine ⟨by rw [htg k 5 hk (by decide), if_neg (by omega)]; exact e5, a, by rw [htg k 6 hk (by decide), if_neg (by omega)]; exact e6, by rw [h4l]; exact ha, fun j hj => ?_⟩
      have := l2 k i hk hi hk2 hki q
      rw [h4, if_neg (by omega)]; exact hb j hj
  · obtain ⟨z1, z2, z3, z4⟩ := r5 k hk
    rw [hA1, hA5, hA6, hA7, htg k 3 hk (by decide), htg k 4 hk (by decide), htg k 5 hk (by decide), if_neg (show ¬ (k = i ∧ 3 = 5) by omega), if_neg (show ¬ (k = i ∧ 4 = 5) by omega)]
    refine ⟨z1, z2, z3, ?_⟩
    by_cases q : k = i
    · rw [if_pos (by rw [q]), if_pos ⟨q, rfl⟩]
    · rw [if_neg (fun z => q (hinj k i hk hi z)), if_neg (fun z => q z.1)]; exact z4
  · obtain ⟨a, z1, z2, z3⟩ := r6 k hk hk2
    by_cases q : k = i
    · subst q
      simp only [if_true]
      refine ⟨600 + 8 * ids k, by rw [hA8, if_pos rfl], Or.inr ⟨rfl, h8⟩, fun j hj => ?_⟩
      rw [hA9, if_pos (by omega), show 600 + 8 * ids k + j - (600 + 8 * ids k) = j by omega]
    · simp only [if_neg q]
      have hne : ids k ≠ ids i := fun z => q (hinj k i hk hi z)
      refine ⟨a, by rw [hA8, if_neg hne]; exact z1, z2, fun j hj => ?_⟩
      rw [hA9, if_neg (by omega)]; exact z3 j hj
  · obtain ⟨g1, g2, g3, g4⟩ := l1 k hk hk2
    rw [htg k 6 hk (by decide), if_neg (by omega), h4l]
    by_cases q : k = i
    · simp only [if_pos q]; exact ⟨g1, by omega, h1, g4⟩
    · simp only [if_neg q]; exact ⟨g1, g2, g3, g4⟩
  · rw [htg k 5 hk (by decide), if_neg (fun z => by rw [z.1] at hk3; omega)]; exact b2 k hk hk3
  · by_cases q : j = i
    · simp only [if_pos q]; split <;> omega
    · simp only [if_neg q]; exact Nat.le_refl _
end
theorem l_rename {N e : Nat} {s : o_S} (hN : 2000 ≤ N) (hI : Inv e s) (p : Int32) (x : Int64) : PX (f_L_rename N p x s) (fun t => f_X7_rename N p x t) e := by
  obtain ⟨hG, T, n, kd, lv, dp, w, ids, hv⟩ := id hI
  have hn := hv.nn
  have hl := bys_len x
  rcases nodeP n (by omega) p with hp | ⟨i, hi, rfl⟩
  · refine PX.bad (k := 1) (v := 0) hI ?_ ?_ (by decide)
    · unfold f_L_rename f_X6_rename; rw [chk_bad hv.f1 hp]; rfl
    · unfold f_X7_rename; rw [do_e, isn_bad (s := o_setF (o_addK s 3) 15 0) (n := n) hv.f18 hp, bi_s, if_pos rfl, fail_]; rfl
  · obtain ⟨a, a1, a2, a3, a4, a5, a6, a7⟩ := unp_ (N := N) hN x hG
    have ha := (lo_unp a4 a5 a6).iv hv
    have hk4 := (hv.ct.2.2.2.2.1 i hi).2.1
    have ec : f_X6_rename N (nI i) x s = if kd i = 2 then (if isW (bys x) then (o_bv (f_X5_respell N (nI i) a) fun s14 => some (.inr (nI (o_R s14 1).length), s14)) else some (.inl 1, o_addK a 3)) else some (.inl 1, o_addK a 3) := by
      unfold f_X6_rename
      rw [chk_ok hv.f1 (by omega) hi, bx_r, a1, bv_s, show (2 : Int32) = nI 2 from rfl, ct_is ha.ct hi 2 (by decide), bi_s, if_b, iw_ hN a3 hl, bi_s, if_b]
    by_cases hgood : kd i = 2 ∧ isW (bys x) = true
    · obtain ⟨hk, hw⟩ := hgood
      have hlen : 1 ≤ (bys x).length := by
        unfold isW at hw
        rcases Nat.lt_or_ge 0 (bys x).length with z | z
        · exact z
        · rw [decide_eq_false (by omega), Bool.false_and, Bool.false_and] at hw; exact absurd hw (by decide)
      obtain ⟨-, z, e6, hz, -⟩ := ha.ct.2.2.2.2.2 i hi hk
      obtain ⟨rm, l1, l2⟩ := ha.2.2.2.2.2.2.1
      obtain ⟨g1, g2, g3, g4⟩ := l1 i hi hk
      have hz4 := ha.ct.2.2.2.1
      have ez : (tg a i 6).toNatClampNeg = z := by rw [e6, nI_clamp (by omega)]
      obtain ⟨u, u1, u2, u3, u4, u5, u6, u7, u8, u9⟩ := rp_L (N := N) (e := e) (a := z) hl hi (show n ≤ 1300 by omega) (bys x).length 0 (N - (bys x).length - 1) a (by omega) a3 a2 (by omega) hz4 ha.ct.1
      rw [show N - (bys x).length - 1 + (bys x).length + 1 = N by omega] at u1
      have ec2 : f_X6_rename N (nI i) x s = some (.inr (nI (bys x).length), u) := by
        rw [ec, if_pos hk, if_pos hw]
        unfold f_X5_respell
        rw [show (6 : Int32) = nI 6 from rfl, ct_get ha.ct hi 6 (by decide), bi_s, e6]
        show o_bv (f_X5_respell_L11 N N (nI i) (nI z) (nI 0) a) _ = _
        rw [u1, bv_s, u6 1 (by decide) (by decide), a3]
      obtain ⟨b, b1, b2, b3, b4, b5, b6, b7⟩ := take_ (N := N) hN x (o_setF (o_setO u 0 (Int32.toInt64 (nI (bys x).length))) 15 0)
      have hA : ∀ q, q ≠ 14 → o_A b q = o_A s q := fun q hq => by rw [b6 q hq, sF_A, sO_A, u4, a6]
      have hF : ∀ q, q ≠ 15 → o_F b q = o_F s q := fun q hq => by rw [b3, sF_F, if_neg hq, sO_F, u3, a5]
      have hid := hv.id hi
      have hst := rn_start (N := N) (i := i) (n := n) hN (c := o_setO u 0 (Int32.toInt64 (nI (bys x).length))) hi hn (by rw [sO_F, u3, a5]; exact hv.f18) b1 b7
      obtain ⟨v, v1, v2, v3, v4, v5, v6, v7⟩ := rm_L (N := N) (l := bys x) (b := 600 + 8 * ids i) (u := ids i) hl hid (by omega) (bys x).length 0 (N - (bys x).length - 1) (o_setA (o_setA b 8 (ids i) (nI (600 + 8 * ids i))) 7 (ids i) (nI (bys x).length)) (by omega) (fun q hq => by rw [sA_A, if_neg (by decide), sA_A, if_neg (by decide)]; exact b7 q hq) (by rw [sA_A, if_neg (by decide), sA_A, if_pos rfl, if_pos rfl])
      rw [show N - (bys x).length - 1 + (bys x).length + 1 = N by omega] at v1
      refine ⟨0, o_setO u 0 (Int32.toInt64 (nI (bys x).length)), nI (bys x).length, v, ?_, ?_, ?_, fun _ => ?_, ?_, T, n, kd, lv, dp, _, ids, rn_iv hv hi hk hlen hl ?_ ?_ ?_ ?_ ?_ ?_ ?_ ?_ ?_⟩
      · unfold f_L_rename; rw [ec2]; rfl
      · show f_X7_rename N (nI i) x _ = _
        rw [hst, if_pos hw, f_X7_rename_L53, if_pos (nI_le (Nat.le_refl _) (by omega)), ld_ (show i < 1500 by omega) (by decide), hA 10 (by decide), hv.no hi, ld_ hid (by decide), hA 1 (by decide), hv.kk hi, if_lit 2 2 rfl (by omega) (by decide), if_pos hk, if_neg (by decide), show (600 : Int32) + (8 : Int32) * nI (ids i) = nI (600 + 8 * ids i) by rw [show (8 : Int32) = nI 8 from rfl, show (600 : Int32) = nI 600 from rfl, pk_mul, nI_add], st_ hid (by decide), st_ hid (by decide)]
        exact v1
      · rw [v3, sA_F, sA_F, b3, sF_F, if_pos rfl]
      · rw [v5, sA_O, sA_O, b5, sF_O, sO_O, if_pos rfl]
      · exact v2 _ (((b2 _ (((u2.up (by omega)).O _ _).F _ _)).A _ _ _).A _ _ _)
      · intro q hq; rw [v3, sA_F, sA_F]; exact hF q hq
      · intro q q1 q3 q4; rw [v4, sA_R, sA_R, b4, sF_R, sO_R, u6 q q3 q4, a4 q q1]
      · rw [v4, sA_R, sA_R, b4, sF_R, sO_R, u7, a4 3 (by decide)]
      · rw [v4, sA_R, sA_R, b4, sF_R, sO_R, u8, a4 4 (by decide)]
      · intro q
        have et : tg s i 6 = tg a i 6 := (lo_tg (lo_unp a4 a5 a6) i 6).symm
        rw [v4, sA_R, sA_R, b4, sF_R, sO_R, u9, a4 4 (by decide), et, ez, Nat.add_zero]
      · intro q q14 q7 q8 q9
        rw [v6 q q9]; funext j; rw [sA_A, if_neg q7, sA_A, if_neg q8, hA q q14]
      · intro q; rw [v6 7 (by decide), sA_A, if_pos rfl, sA_A, if_neg (show ¬ 7 = 8 by decide), hA 7 (by decide)]
      · intro q; rw [v6 8 (by decide), sA_A, if_neg (by decide), sA_A, if_pos rfl, hA 8 (by decide)]
      · intro q; rw [v7, sA_A, if_neg (show ¬ 9 = 7 by decide), sA_A, if_neg (show ¬ 9 = 8 by decide), hA 9 (by decide), Nat.add_zero]
    · have ec2 : f_X6_rename N (nI i) x s = some (.inl 1, o_addK a 3) := by
        rw [ec]
        by_cases hk : kd i = 2
        · rw [if_pos hk, if_neg (fun z => hgood ⟨hk, z⟩)]
        · rw [if_neg hk]
      obtain ⟨b, b1, b2, b3, b4, b5, b6, b7⟩ := take_ (N := N) hN x (o_setF (o_addK a 3) 15 0)
      have hlo : LO s b := (((lo_unp a4 a5 a6).tr (lo_K a 3)).tr (lo_F15 _ 0)).tr (lo_take b3 b4 b6)
      have hb := hlo.iv hv
      have hst := rn_start (N := N) (i := i) (n := n) hN (c := o_addK a 3) hi hn (by rw [sK_F, a5]; exact hv.f18) b1 b7
      refine ⟨2, o_addK a 3, 0, o_setF b 15 2, ?_, ?_, by rw [sF_F, if_pos rfl], fun z => absurd z (by decide), LO.inv hI (hlo.tr (lo_F15 b 2)) ((b2 _ (a2.K.F 15 0)).F 15 2)⟩
      · unfold f_L_rename; rw [ec2]; rfl
      · show f_X7_rename N (nI i) x _ = _
        rw [hst, f_X7_rename_L53, if_pos (nI_le (Nat.le_refl _) (by omega)), ld_ (show i < 1500 by omega) (by decide), hb.no hi, ld_ (hb.id hi) (by decide), hb.kk hi, if_lit 2 2 rfl (by omega) (by decide)]
        by_cases hk : kd i = 2
        · rw [if_pos hk, if_neg (show ¬ isW (bys x) = true from fun z => hgood ⟨hk, z⟩), if_pos rfl]; rfl
        · rw [if_neg hk]; rfl
