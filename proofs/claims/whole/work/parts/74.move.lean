/-! MOVE -/
theorem ni_shift {a b c : Nat} (h : c ≤ a) : nI a + ((nI b + 1) - nI c) = nI (a + b + 1 - c) := by
  have e : nI a = nI (a - c) + nI c := by rw [nI_add, Nat.sub_add_cancel h]
  rw [e, Int32.add_assoc, Int32.add_comm (nI c), Int32.sub_add_cancel, nI_1, nI_add]
  congr 1; omega
section
variable {s : o_S} {n N i b pl : Nat} {kd lv dp : Nat → Nat} {w : Nat → List Int32} {ids : Nat → Nat}
theorem gt_ (hl : (o_R s 3).length = 7 * n) (hn : n ≤ 1300) {k : Nat} (hk : k < n) (f : Nat) (hf : f < 7) : f_X5_get N (nI k) (nI f) s = some (tg s k f, s) := by
  unfold f_X5_get
  rw [do_e, ni7, at_in (by omega) (by omega)]; rfl
theorem pt_ (hl : (o_R s 3).length = 7 * n) (hn : n ≤ 1300) {k : Nat} (hk : k < n) (f : Nat) (hf : f < 7) (v : Int32) : f_X5_set N (nI k) (nI f) v s = some (o_setR s 3 (o_cap s 3) ((o_R s 3).set (7 * k + f) v)) := by
  unfold f_X5_set
  rw [do_e, ni7, put_in (by omega) (by omega)]
theorem tg_pt {k f : Nat} {v : Int32} (h : 7 * k + f < (o_R s 3).length) (x g : Nat) : tg (o_setR s 3 (o_cap s 3) ((o_R s 3).set (7 * k + f) v)) x g = if 7 * x + g = 7 * k + f then v else tg s x g := by
  unfold tg; rw [sR_R, if_pos rfl, gd_set _ _ h]
theorem cy_L (hn : n ≤ 1300) {E : Nat} (hE : E ≤ n) (p1 p3 D1 D2 : Int32) : ∀ d e m (s : o_S), (o_R s 3).length = 7 * n → e + d = E → ∃ t, f_X5_carry_L44 N (m + d) p1 p3 (nI E) D1 D2 (nI e) s = f_X5_carry_L44 N m p1 p3 (nI E) D1 D2 (nI E) t ∧ (∀ g, GS g s → GS g t) ∧ o_F t = o_F s ∧ o_A t = o_A s ∧ o_O t = o_O s ∧ (∀ q, q ≠ 3 → o_R t q = o_R s q) ∧ (o_R t 3).length = 7 * n ∧ ∀ k f, k < n → f < 7 → tg t k f = if e ≤ k ∧ k < E ∧ f = 1 then tg s k 1 + D1 else if e ≤ k ∧ k < E ∧ f = 2 then tg s k 2 + D2 else tg s k f := by
  intro d
  induction d with
  | zero =>
    intro e m s hl he
    have : e = E := by omega
    subst this
    exact ⟨s, rfl, fun _ h => h, rfl, rfl, rfl, fun _ _ => rfl, hl, fun k f hk hf => by rw [if_neg (by omega), if_neg (by omega)]⟩
  | succ d ih =>
    intro e m s hl he
    have l1 : (o_R (o_setR s 3 (o_cap s 3) ((o_R s 3).set (7 * e + 1) (tg s e 1 + D1))) 3).length = 7 * n := by rw [sR_R, if_pos rfl, List.length_set, hl]
    have e1 := pt_ (N := N) hl hn (show e < n by omega) 1 (by decide) (tg s e 1 + D1)
    have e2 := gt_ (N := N) l1 hn (show e < n by omega) 2 (by decide)
    have e3 := pt_ (N := N) l1 hn (show e < n by omega) 2 (by decide) (tg (o_setR s 3 (o_cap s 3) ((o_R s 3).set (7 * e + 1) (tg s e 1 + D1))) e 2 + D2)
    have e0 : tg (o_setR s 3 (o_cap s 3) ((o_R s 3).set (7 * e + 1) (tg s e 1 + D1))) e 2 = tg s e 2 := by rw [tg_pt (by omega), if_neg (by omega)]
    rw [e0] at e2 e3
    generalize hu : o_setR s 3 (o_cap s 3) ((o_R s 3).set (7 * e + 1) (tg s e 1 + D1)) = u at e1 e2 e3 l1 e0
    have gu : ∀ g, GS g s → GS g u := fun g h => by rw [← hu]; exact h.set (by decide) (by rw [List.length_set]; exact (h.1 3 (by decide)).1)
    have l2 : (o_R (o_setR u 3 (o_cap u 3) ((o_R u 3).set (7 * e + 2) (tg s e 2 + D2))) 3).length = 7 * n := by rw [sR_R, if_pos rfl, List.length_set, l1]
    obtain ⟨t, t1, t2, t3, t4, t5, t6, t7, t8⟩ := ih (e + 1) m _ l2 (by omega)
    refine ⟨t, ?_, fun g h => t2 g ((gu g h).set (by decide) (by rw [List.length_set]; exact ((gu g h).1 3 (by decide)).1)), ?_, ?_, ?_, fun q hq => ?_, t7, fun k f hk hf => ?_⟩
    · rw [show m + (d + 1) = (m + d) + 1 by omega, f_X5_carry_L44, if_neg (fun q => absurd ((nI_leI (by omega) (by omega)).mp q) (by omega)), show (1 : Int32) = nI 1 from rfl, gt_ hl hn (show e < n by omega) 1 (by decide), bi_s, e1, bv_s, show (2 : Int32) = nI 2 from rfl, e2, bi_s, e3, bv_s, nI_add]
      exact t1
    · rw [t3, sR_F, ← hu, sR_F]
    · rw [t4, sR_A, ← hu, sR_A]
    · rw [t5, sR_O, ← hu, sR_O]
    · rw [t6 q hq, sR_R, if_neg hq, ← hu, sR_R, if_neg hq]
    · have g1 : ∀ k f, tg (o_setR u 3 (o_cap u 3) ((o_R u 3).set (7 * e + 2) (tg s e 2 + D2))) k f = if 7 * k + f = 7 * e + 2 then tg s e 2 + D2 else if 7 * k + f = 7 * e + 1 then tg s e 1 + D1 else tg s k f := by
        intro k f
        rw [tg_pt (by omega), ← hu, tg_pt (by omega)]
      rw [t8 k f hk hf, g1, g1, g1]
      by_cases q : k = e
      · subst q
        by_cases f1 : f = 1
        · subst f1; rw [if_neg (by omega), if_neg (by omega), if_neg (by omega), if_pos rfl, if_pos (by omega)]
        · by_cases f2 : f = 2
          · subst f2; rw [if_neg (by omega), if_neg (by omega), if_pos rfl, if_neg (by omega), if_pos (by omega)]
          · rw [if_neg (by omega), if_neg (by omega), if_neg (by omega), if_neg (by omega), if_neg (by omega), if_neg (by omega)]
      · rw [if_neg (show ¬ 7 * k + 1 = 7 * e + 2 by omega), if_neg (show ¬ 7 * k + 1 = 7 * e + 1 by omega), if_neg (show ¬ 7 * k + 2 = 7 * e + 2 by omega), if_neg (show ¬ 7 * k + 2 = 7 * e + 1 by omega), if_neg (show ¬ 7 * k + f = 7 * e + 2 by omega), if_neg (show ¬ 7 * k + f = 7 * e + 1 by omega)]
        by_cases y : e ≤ k
        · by_cases y2 : k < E ∧ f = 1
          · rw [if_pos (by omega), if_pos (by omega)]
          · rw [if_neg (by omega), if_neg (show ¬ (e ≤ k ∧ k < E ∧ f = 1) by omega)]
            by_cases y3 : k < E ∧ f = 2
            · rw [if_pos (by omega), if_pos (by omega)]
            · rw [if_neg (by omega), if_neg (by omega)]
        · rw [if_neg (by omega), if_neg (by omega), if_neg (by omega), if_neg (by omega)]
theorem cy_ (hN : 20000 ≤ N) (h : CT s n kd lv dp w) (hP : PL n lv i b pl) (hdp : ∀ x, x < aft lv n i - i → dp i ≤ dp (i + x)) : ∃ t, f_X5_carry N (nI i) (nI b) (nI pl) s = some (nI (ug i (aft lv n i - i) pl), t) ∧ (∀ g, GS g s → GS g t) ∧ o_F t = o_F s ∧ o_A t = o_A s ∧ o_O t = o_O s ∧ (∀ q, q ≠ 3 → o_R t q = o_R s q) ∧ (o_R t 3).length = 7 * n ∧
    (∀ k f, k < n → f < 7 → f ≠ 1 → f ≠ 2 → tg t k f = tg s (il (ug i (aft lv n i - i) pl) (aft lv n i - i) (rg i (aft lv n i - i)) (fun x => i + x) k) f) ∧ (∀ k, k < n → tg t k 1 = nI (il (ug i (aft lv n i - i) pl) (aft lv n i - i) (fun x => lv (rg i (aft lv n i - i) x)) (cmu lv i b) k) ∧ tg t k 2 = nI (il (ug i (aft lv n i - i) pl) (aft lv n i - i) (fun x => dp (rg i (aft lv n i - i) x)) (cmu dp i b) k)) := by
  obtain ⟨o1, o2⟩ := hP.out
  have pn := hP.inn.pn
  have hcm := @pl_cmu _ _ _ _ _ hP
  obtain ⟨hW, h0, hi, hb, hbi, hnb, h1, h2, h3⟩ := id hP
  obtain ⟨a1, a2, a3, a4⟩ := aft_spec (lv := lv) hi
  obtain ⟨b1, b2, -, -⟩ := aft_spec (lv := lv) hb
  have hn := hW.2.1
  have hl := h.1
  obtain ⟨u, u1, u2, u3, u4, u5, u6, u7, u8⟩ := cy_L (N := N) (E := aft lv n i) (by omega) a2 (nI i) (nI pl) ((nI (lv b) + (1 : Int32)) - nI (lv i)) ((nI (dp b) + (1 : Int32)) - nI (dp i)) (aft lv n i - i) i (N - (aft lv n i - i)) s hl (by omega)
  rw [show N - (aft lv n i - i) + (aft lv n i - i) = N by omega] at u1
  have ev : ∀ k, k < n → tg u k 1 = nI (if i ≤ k ∧ k < aft lv n i then cmu lv i b (k - i) else lv k) ∧ tg u k 2 = nI (if i ≤ k ∧ k < aft lv n i then cmu dp i b (k - i) else dp k) := by
    intro k hk
    obtain ⟨-, -, g1, -, g3, -⟩ := h.2.2.2.2.1 k hk
    rw [u8 k 1 hk (by decide), u8 k 2 hk (by decide)]
    by_cases q : i ≤ k ∧ k < aft lv n i
    · have c1 := (hcm (show k - i < aft lv n i - i by omega)).2.1
      have c2 := hdp (k - i) (by omega)
      rw [show i + (k - i) = k by omega] at c1 c2
      rw [if_pos (show i ≤ k ∧ k < aft lv n i ∧ 1 = 1 by omega), if_neg (show ¬ (i ≤ k ∧ k < aft lv n i ∧ 2 = 1) by omega), if_pos (show i ≤ k ∧ k < aft lv n i ∧ 2 = 2 by omega), if_pos q, if_pos q, g1, g3, ni_shift c1, ni_shift c2]
      unfold cmu
      rw [show i + (k - i) = k by omega]
      exact ⟨rfl, rfl⟩
    · rw [if_neg (show ¬ (i ≤ k ∧ k < aft lv n i ∧ 1 = 1) by omega), if_neg (show ¬ (i ≤ k ∧ k < aft lv n i ∧ 1 = 2) by omega), if_neg (show ¬ (i ≤ k ∧ k < aft lv n i ∧ 2 = 1) by omega), if_neg (show ¬ (i ≤ k ∧ k < aft lv n i ∧ 2 = 2) by omega), if_neg q, if_neg q]; exact ⟨g1, g3⟩
  have key : ∃ t, f_X5_carry_L44 N (N - (aft lv n i - i)) (nI i) (nI pl) (nI (aft lv n i)) ((nI (lv b) + (1 : Int32)) - nI (lv i)) ((nI (dp b) + (1 : Int32)) - nI (dp i)) (nI (aft lv n i)) u = some (nI (ug i (aft lv n i - i) pl), t) ∧ (∀ g, GS g u → GS g t) ∧ o_F t = o_F u ∧ o_A t = o_A u ∧ o_O t = o_O u ∧ (∀ q, q ≠ 3 → o_R t q = o_R u q) ∧ (o_R t 3).length = 7 * n ∧ ∀ k f, k < n → f < 7 → tg t k f = tg u (il (ug i (aft lv n i - i) pl) (aft lv n i - i) (rg i (aft lv n i - i)) (fun x => i + x) k) f := by
    obtain ⟨m, hm⟩ : ∃ m', N - (aft lv n i - i) = m' + 1 := ⟨N - (aft lv n i - i) - 1, by omega⟩
    rw [hm, f_X5_carry_L44, if_pos (nI_le (Nat.le_refl _) (by omega)), if_ni_lt (by omega) (by omega), ni_7, ni_7, ni_7, ni_sub (by omega)]
    rcases o1 with o1 | o1
    · have ep : ug i (aft lv n i - i) pl = pl := if_pos o1
      obtain ⟨t, t1, t2, t3, t4, t5, t6, t7, t8⟩ := turn_ (N := N) (r := 3) (a := 7 * pl) (b := 7 * i) (c := 7 * aft lv n i) (s := u) (by decide) hN (by omega) (by omega) (by omega) (by omega)
      rw [if_neg (by omega), t1, bv_s, ep]
      refine ⟨t, rfl, t2, t3, t4, t5, t6, by omega, fun k f hk hf => ?_⟩
      unfold tg
      rw [t8]
      by_cases q1 : k < pl
      · rw [if_neg (by omega), if_neg (by omega), il_1 q1, rg_lt (by omega)]
      · by_cases q2 : k < pl + (aft lv n i - i)
        · rw [if_pos (by omega), il_2 (by omega) q2]; congr 1; omega
        · rw [if_neg (by omega), il_3 (by omega)]
          by_cases q3 : k < aft lv n i
          · rw [if_pos (by omega), rg_lt (by omega)]; congr 1; omega
          · rw [if_neg (by omega), rg_ge (by omega)]; congr 1; omega
    · have ep : ug i (aft lv n i - i) pl = pl - (aft lv n i - i) := if_neg (by omega)
      obtain ⟨t, t1, t2, t3, t4, t5, t6, t7, t8⟩ := turn_ (N := N) (r := 3) (a := 7 * i) (b := 7 * aft lv n i) (c := 7 * pl) (s := u) (by decide) hN (by omega) (by omega) (by omega) (by omega)
      rw [if_pos (by omega), t1, bv_s, ni_sub (by omega), ep]
      refine ⟨t, rfl, t2, t3, t4, t5, t6, by omega, fun k f hk hf => ?_⟩
      unfold tg
      rw [t8]
      by_cases q1 : k < pl - (aft lv n i - i)
      · rw [il_1 q1]
        by_cases q3 : k < i
        · rw [if_neg (by omega), if_neg (by omega), rg_lt q3]
        · rw [if_pos (by omega), rg_ge (by omega)]; congr 1; omega
      · by_cases q2 : k < pl - (aft lv n i - i) + (aft lv n i - i)
        · rw [if_neg (by omega), if_pos (by omega), il_2 (by omega) q2]; congr 1; omega
        · rw [if_neg (by omega), if_neg (by omega), il_3 (by omega), rg_ge (by omega)]; congr 1; omega
  obtain ⟨t, t1, t2, t3, t4, t5, t6, t7, t8⟩ := key
  have gl : ∀ k, k < n → il (ug i (aft lv n i - i) pl) (aft lv n i - i) (rg i (aft lv n i - i)) (fun x => i + x) k < n := by
    intro k hk; unfold il rg; split
    · split <;> omega
    · split
      · show i + (k - ug i (aft lv n i - i) pl) < n; omega
      · split <;> omega
  refine ⟨t, ?_, fun g h => t2 g (u2 g h), t3.trans u3, t4.trans u4, t5.trans u5, fun q hq => (t6 q hq).trans (u6 q hq), t7, fun k f hk hf f1 f2 => ?_, fun k hk => ?_⟩
  · unfold f_X5_carry
    rw [ct_after h (by omega) hi, bi_s, ct_lv h hb, bi_s, ct_lv h hi, bi_s, ct_dp h hb, bi_s, ct_dp h hi, bi_s, u1]
    exact t1
  · rw [t8 k f hk hf, u8 _ f (gl k hk) hf, if_neg (by omega), if_neg (by omega)]
  · rw [t8 k 1 hk (by decide), t8 k 2 hk (by decide), (ev _ (gl k hk)).1, (ev _ (gl k hk)).2]
    have gq : ∀ (f g : Nat → Nat), (if i ≤ il (ug i (aft lv n i - i) pl) (aft lv n i - i) (rg i (aft lv n i - i)) (fun x => i + x) k ∧ il (ug i (aft lv n i - i) pl) (aft lv n i - i) (rg i (aft lv n i - i)) (fun x => i + x) k < aft lv n i then g (il (ug i (aft lv n i - i) pl) (aft lv n i - i) (rg i (aft lv n i - i)) (fun x => i + x) k - i) else f (il (ug i (aft lv n i - i) pl) (aft lv n i - i) (rg i (aft lv n i - i)) (fun x => i + x) k)) = il (ug i (aft lv n i - i) pl) (aft lv n i - i) (fun x => f (rg i (aft lv n i - i) x)) g k := by
      intro f g
      by_cases q1 : k < ug i (aft lv n i - i) pl
      · rw [il_1 q1, il_1 q1, if_neg (by unfold rg; split <;> omega)]
      · by_cases q2 : k < ug i (aft lv n i - i) pl + (aft lv n i - i)
        · rw [il_2 (by omega) q2, il_2 (by omega) q2, if_pos (by omega)]; congr 1; omega
        · rw [il_3 (by omega), il_3 (by omega), if_neg (by unfold rg; split <;> omega)]
    rw [gq, gq]; exact ⟨rfl, rfl⟩
theorem mv_ref {t : o_S} (hN : 2000 ≤ N) (hF : o_F t 18 = nI n) (hA : ∀ k, k < n → o_A t 10 k = nI (ids k)) (hK : ∀ k, k < n → o_A t 1 (ids k) = nI (kd k) ∧ kd k ≤ 4) (hL : LK n lv ids t) (hT : TI n kd lv dp) (hi : i < n) (hb : b < n) (hk : kd i = 1) (hkb : kd b = 0) (hw : ¬ (i < b ∧ b < aft lv n i)) (x : Int32) : f_X7_move N (nI i) (nI b) x t = if acn (q_bg kd true) lv b + t_mx kd (fun k => acn (q_bg kd true) lv k + 1 - dp i) (aft lv n i - (i + 1)) (i + 1) 0 ≤ 30 then f_X7_move_b123 N x (nI (ids i)) (nI (ids b)) (nI (if p_par lv (lv i) i = b then 1 else 0)) (nI (t_cnt lv (lv b + 1) (aft lv n b - (b + 1)) (b + 1))) (o_setF t 15 0) else some (0, o_setF (o_setF t 15 0) 15 2) := by
  have hn := hT.1.2.1
  have h0 : 0 < i := by
    rcases Nat.eq_zero_or_pos i with z | z
    · rw [z, hT.2.1] at hk; exact absurd hk (by decide)
    · exact z
  have hbi : b ≠ i := fun z => by rw [z, hk] at hkb; exact absurd hkb (by decide)
  have hL2 : LK n lv ids (o_setF t 15 0) := hL.congr rfl rfl rfl
  have hA2 : ∀ k, k < n → o_A (o_setF t 15 0) 10 k = nI (ids k) := hA
  have hK2 : ∀ k, k < n → o_A (o_setF t 15 0) 1 (ids k) = nI (kd k) ∧ kd k ≤ 4 := hK
  have m1 := acn_le hT.1 (q_bg kd true) (fun j => q_bg_le kd true j) b hb
  have m2 : t_mx kd (fun k => acn (q_bg kd true) lv k + 1 - dp i) (aft lv n i - (i + 1)) (i + 1) 0 ≤ 1301 := by
    refine t_mx_le kd _ _ _ _ (by omega) (fun k k1 k2 => ?_)
    have := (aft_spec (lv := lv) hi).2.1
    have := acn_le hT.1 (q_bg kd true) (fun j => q_bg_le kd true j) k (by omega)
    show acn (q_bg kd true) lv k + 1 - dp i ≤ 1301
    omega
  obtain ⟨p1, -, -⟩ := hT.1.par h0 hi
  have idp := hL.1 (p_par lv (lv i) i) (by omega)
  have idb := hL.1 b hb
  unfold f_X7_move
  rw [do_e, isn_ok (s := o_setF t 15 0) (n := n) hF (by omega) hi, bi_s, if_neg (by decide), isn_ok (s := o_setF t 15 0) (n := n) hF (by omega) hb, bi_s, if_neg (by decide), ld_ (show i < 1500 by omega) (by decide), hA2 i hi, ld_ (show b < 1500 by omega) (by decide), hA2 b hb, ld_ (hL.1 i hi) (by decide), (hK2 i hi).1, hk, if_pos (show nI 1 = (1 : Int32) from rfl), ld_ idb (by decide), (hK2 b hb).1, hkb, if_pos (show nI 0 = (0 : Int32) from rfl), lk_within hL2 hT.1 hN hi hb, if_neg (show ¬ (i ≤ b ∧ b < aft lv n i) by omega), bi_s, if_pos (show (0 : Int32) = 0 from rfl), lk_depth hL2 hT.1 hN hK2 (wg := true) (g := 1) (by decide) hb, bi_s, lk_height hL2 hT hK2 hN hi hk, bi_s, nI_add, if_lle 30 30 rfl (by omega) (by decide), lk_count hL2 hT.1 hN hb, bi_s, ld_ (hL.1 i hi) (by decide), hL2.2.2.1 i hi, if_neg (show ¬ i = 0 by omega), if_ni_eq (by omega) (by omega), fail_, bi_s]
  by_cases q : acn (q_bg kd true) lv b + t_mx kd (fun k => acn (q_bg kd true) lv k + 1 - dp i) (aft lv n i - (i + 1)) (i + 1) 0 ≤ 30
  · rw [if_pos q, if_pos q]
    by_cases q2 : p_par lv (lv i) i = b
    · rw [if_pos (by rw [q2]), if_pos q2] <;> rfl
    · rw [if_neg (fun z => q2 (hL.2.1 _ _ (by omega) hb z)), if_neg q2] <;> rfl
  · rw [if_neg q, if_neg q]
theorem mv_cls (hN : 2000 ≤ N) (hF : o_F s 1 = nI n) (h : CT s n kd lv dp w) (hT : TI n kd lv dp) (hi : i < n) (hb : b < n) (hk : kd i = 1) (hkb : kd b = 0) (hw : ¬ (i < b ∧ b < aft lv n i)) (x : Int32) : f_X6_move N (nI i) (nI b) x s = if acn (q_bg kd true) lv b + t_mx kd (fun k => acn (q_bg kd true) lv k + 1 - dp i) (aft lv n i - (i + 1)) (i + 1) 0 ≤ 30 then (if t_pf lv (lv b + 1) i x (aft lv n b - (b + 1)) 0 (b + 1) = -1 then some (.inl 1, o_addK s 3) else o_bi (f_X5_carry N (nI i) (nI b) (t_pf lv (lv b + 1) i x (aft lv n b - (b + 1)) 0 (b + 1)) s) fun x29 s27 => some (.inr x29, s27)) else some (.inl 1, o_addK s 3) := by
  have hn := hT.1.2.1
  have hbi : b ≠ i := fun z => by rw [z, hk] at hkb; exact absurd hkb (by decide)
  have a2 := (aft_spec (lv := lv) hi).2.1
  have m1 := acn_le hT.1 (q_bg kd true) (fun j => q_bg_le kd true j) b hb
  have m2 : t_mx kd (fun k => acn (q_bg kd true) lv k + 1 - dp i) (aft lv n i - (i + 1)) (i + 1) 0 ≤ 1301 := by
    refine t_mx_le kd _ _ _ _ (by omega) (fun k k1 k2 => ?_)
    have := acn_le hT.1 (q_bg kd true) (fun j => q_bg_le kd true j) k (by omega)
    show acn (q_bg kd true) lv k + 1 - dp i ≤ 1301
    omega
  have b71 : f_X6_move_b71 N (nI i) (nI b) x s = if acn (q_bg kd true) lv b + t_mx kd (fun k => acn (q_bg kd true) lv k + 1 - dp i) (aft lv n i - (i + 1)) (i + 1) 0 ≤ 30 then (if t_pf lv (lv b + 1) i x (aft lv n b - (b + 1)) 0 (b + 1) = -1 then some (.inl 1, o_addK s 3) else o_bi (f_X5_carry N (nI i) (nI b) (t_pf lv (lv b + 1) i x (aft lv n b - (b + 1)) 0 (b + 1)) s) fun x29 s27 => some (.inr x29, s27)) else some (.inl 1, o_addK s 3) := by
    unfold f_X6_move_b71
    rw [ct_nest h hT hb (by omega), bi_s, ct_inner h hT hN hi hk, bi_s, nI_add, if_lle 30 30 rfl (by omega) (by decide), ct_place h hN hi hb, bi_s]
  unfold f_X6_move
  rw [chk_ok hF (by omega) hi, bx_r, chk_ok hF (by omega) hb, bx_r, show (1 : Int32) = nI 1 from rfl, ct_is h hi 1 (by decide), bi_s, if_pos hk, if_neg (by decide), show (0 : Int32) = nI 0 from rfl, ct_is h hb 0 (by decide), bi_s, if_pos hkb, if_neg (by decide), if_ni_le (by omega) (by omega), ct_after h hN hi, bi_s, if_ni_le (by omega) (by omega), b71]
  by_cases q : b ≤ i
  · rw [if_pos q] <;> rfl
  · rw [if_neg q, if_pos (by omega)] <;> rfl
end
