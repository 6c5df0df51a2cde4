/-! PARSE, WHOLE -/
section
variable {N e : Nat}
theorem push_s {s : o_S} {r : Nat} (v : Int32) (hG : GS e s) (hr : r < 9) (h : (o_R s r).length < 64) : ∃ t, o_push s r v = some t ∧ GS e t ∧ o_k t = o_k s ∧ o_F t = o_F s ∧ o_A t = o_A s ∧ o_O t = o_O s ∧ ∀ q, o_R t q = if q = r then o_R s r ++ [v] else o_R s q := by
  have hc := (hG.1 r hr).2.1
  have e1 : o_push s r v = some (o_setR s r (o_cap s r) (o_R s r ++ [v])) := by
    unfold o_push o_app
    have : o_grow s r = s := by unfold o_grow; rw [if_pos (by omega)]
    rw [if_neg (by omega), this]
  refine ⟨_, e1, hG.set hr (by rw [List.length_append]; show (o_R s r).length + 1 ≤ _; omega), rfl, rfl, rfl, rfl, fun q => by rw [sR_R]⟩
theorem cut_0 {s : o_S} {r : Nat} (hG : GS e s) (hr : r < 9) : ∃ t, o_cut s r (0 : Int32) = t ∧ GS e t ∧ o_k t = o_k s ∧ o_F t = o_F s ∧ o_A t = o_A s ∧ o_O t = o_O s ∧ ∀ q, o_R t q = if q = r then [] else o_R s q := by
  have h1 := hG.1 r hr
  have hm := o_M_le r
  obtain ⟨x, hx, rfl⟩ := cut_in (s := s) (r := r) (i := 0) (by omega) (by omega)
  exact ⟨_, hx, hG.set hr (by rw [List.take_zero]; exact Nat.zero_le _), rfl, rfl, rfl, rfl, fun q => by rw [sR_R, List.take_zero]⟩
theorem xstart {s : o_S} (hG : GS e s) : ∃ t, f_X5_startAgain N s = some t ∧ GS e t ∧ o_k t = o_k s ∧ o_A t = o_A s ∧ o_O t = o_O s ∧ (∀ q, q ≠ 3 → q ≠ 4 → o_R t q = o_R s q) ∧ (∀ f, f ≠ 1 → o_F t f = o_F s f) ∧ o_F t 1 = 1 ∧ o_R t 3 = [0, 0, 0, 0, 0, 0, 0] ∧ o_R t 4 = [] := by
  obtain ⟨a1, x1, g1, k1, f1, u1, y1, r1⟩ := cut_0 hG (show 3 < 9 by decide)
  obtain ⟨a2, x2, g2, k2, f2, u2, y2, r2⟩ := cut_0 g1 (show 4 < 9 by decide)
  have g3 : GS e (o_setF a2 1 0) := g2.F _ _
  have R3 : o_R (o_setF a2 1 0) 3 = [] := by rw [sF_R, r2, if_neg (by decide), r1, if_pos rfl]
  have st : ∀ (u : o_S) (l : List Int32) (v : Int32), GS e u → o_R u 3 = l → l.length < 64 → ∃ t, o_push u 3 v = some t ∧ GS e t ∧ o_k t = o_k u ∧ o_F t = o_F u ∧ o_A t = o_A u ∧ o_O t = o_O u ∧ o_R t 3 = l ++ [v] ∧ ∀ q, q ≠ 3 → o_R t q = o_R u q := by
    intro u l v hu hl h64
    obtain ⟨t, t1, t2, t3, t4, t5, t6, t7⟩ := push_s v hu (show 3 < 9 by decide) (by rw [hl]; exact h64)
    exact ⟨t, t1, t2, t3, t4, t5, t6, by rw [t7, if_pos rfl, hl], fun q hq => by rw [t7, if_neg hq]⟩
  obtain ⟨b1, m1, h1, i1, n1, p1, o1, l1, z1⟩ := st _ _ 0 g3 R3 (by decide)
  obtain ⟨b2, m2, h2, i2, n2, p2, o2, l2, z2⟩ := st _ _ 0 h1 l1 (by decide)
  obtain ⟨b3, m3, h3, i3, n3, p3, o3, l3, z3⟩ := st _ _ 0 h2 l2 (by decide)
  obtain ⟨b4, m4, h4, i4, n4, p4, o4, l4, z4⟩ := st _ _ 0 h3 l3 (by decide)
  obtain ⟨b5, m5, h5, i5, n5, p5, o5, l5, z5⟩ := st _ _ 0 h4 l4 (by decide)
  obtain ⟨b6, m6, h6, i6, n6, p6, o6, l6, z6⟩ := st _ _ 0 h5 l5 (by decide)
  obtain ⟨b7, m7, h7, i7, n7, p7, o7, l7, z7⟩ := st _ _ 0 h6 l6 (by decide)
  have Z : ∀ q, q ≠ 3 → o_R b7 q = o_R a2 q := fun q hq => by rw [z7 q hq, z6 q hq, z5 q hq, z4 q hq, z3 q hq, z2 q hq, z1 q hq, sF_R]
  have L4 : o_R b6 4 = [] := by rw [z6 4 (by decide), z5 4 (by decide), z4 4 (by decide), z3 4 (by decide), z2 4 (by decide), z1 4 (by decide), sF_R, r2, if_pos rfl]
  have F7 : o_F b7 = o_F (o_setF a2 1 0) := by rw [n7, n6, n5, n4, n3, n2, n1]
  have q1 : o_F b7 1 = 0 := by rw [F7, sF_F, if_pos rfl]
  refine ⟨o_setF b7 1 1, ?_, h7.F _ _, ?_, ?_, ?_, fun q q3 q4 => ?_, fun f hf => ?_, by rw [sF_F, if_pos rfl], by rw [sF_R, l7]; rfl, ?_⟩
  · unfold f_X5_startAgain f_X5_add f_X5_add_b10 f_X5_add_b41 f_X5_add_b78
    rw [do_e, x1, do_e, x2, do_e, if_pos rfl, m1, bv_s, if_neg (by decide), m2, bv_s, if_neg (by decide), m3, bv_s, m4, bv_s, m5, bv_s, m6, bv_s, L4, show nI ([] : List Int32).length = 0 from rfl, m7, bv_s, do_e, q1, show (0 : Int32) + 1 = 1 from rfl, bi_s]
  · rw [sF_k, i7, i6, i5, i4, i3, i2, i1, sF_k, k2, k1]
  · rw [sF_A, p7, p6, p5, p4, p3, p2, p1, sF_A, u2, u1]
  · rw [sF_O, o7, o6, o5, o4, o3, o2, o1, sF_O, y2, y1]
  · rw [sF_R, Z q q3, r2, if_neg q4, r1, if_neg q3]
  · rw [sF_F, if_neg hf, F7, sF_F, if_neg hf, f2, f1]
  · rw [sF_R, Z 4 (by decide), r2, if_pos rfl]
/-- the class begins to parse -/
theorem c_init {s : o_S} (hG : GS e s) : ∃ t, f_X6_parse N s = f_X6_parse_L30 N N 0 t ∧ GS e t ∧ CP s t ∧ o_F t 0 = 0 ∧ o_F t 1 = 1 ∧ o_F t 2 = 0 ∧ o_F t 3 = 0 ∧ o_F t 4 = 0 ∧ o_F t 5 = 0 ∧ o_F t 6 = 0 ∧ o_F t 7 = 0 ∧ o_F t 13 = 0 ∧ o_F t 14 = 0 ∧ o_R t 2 = [] ∧ o_R t 3 = [0, 0, 0, 0, 0, 0, 0] ∧ o_R t 4 = [] ∧ o_R t 5 = [0] ∧ o_R t 6 = [0] ∧ o_R t 7 = [-1] := by
  obtain ⟨a1, x1, g1, k1, f1, u1, y1, r1⟩ := cut_0 hG (show 2 < 9 by decide)
  obtain ⟨a2, x2, g2, k2, u2, y2, r2, f2, f2', r23, r24⟩ := xstart (N := N) (g1.F 0 0)
  obtain ⟨a3, x3, g3, k3, f3, u3, y3, r3⟩ := cut_0 ((((((g2.F 2 0).F 3 0).F 4 0).F 5 0).F 6 0).F 7 0) (show 5 < 9 by decide)
  obtain ⟨a4, x4, g4, k4, f4, u4, y4, r4⟩ := cut_0 g3 (show 6 < 9 by decide)
  obtain ⟨a5, x5, g5, k5, f5, u5, y5, r5⟩ := cut_0 g4 (show 7 < 9 by decide)
  have R5 : o_R (o_setF (o_setF a5 13 0) 14 0) 5 = [] := by rw [sF_R, sF_R, r5, if_neg (by decide), r4, if_neg (by decide), r3, if_pos rfl]
  have R6 : o_R (o_setF (o_setF a5 13 0) 14 0) 6 = [] := by rw [sF_R, sF_R, r5, if_neg (by decide), r4, if_pos rfl]
  have R7 : o_R (o_setF (o_setF a5 13 0) 14 0) 7 = [] := by rw [sF_R, sF_R, r5, if_pos rfl]
  obtain ⟨b1, m1, h1, i1, n1, p1, o1, l1⟩ := push_s 0 ((g5.F 13 0).F 14 0) (show 5 < 9 by decide) (by rw [R5]; decide)
  obtain ⟨b2, m2, h2, i2, n2, p2, o2, l2⟩ := push_s 0 h1 (show 6 < 9 by decide) (by rw [l1, if_neg (by decide), R6]; decide)
  obtain ⟨b3, m3, h3, i3, n3, p3, o3, l3⟩ := push_s (-1) h2 (show 7 < 9 by decide) (by rw [l2, if_neg (by decide), l1, if_neg (by decide), R7]; decide)
  have F3 : o_F b3 = o_F (o_setF (o_setF a5 13 0) 14 0) := by rw [n3, n2, n1]
  have F5 : o_F a5 = o_F (o_setF (o_setF (o_setF (o_setF (o_setF (o_setF a2 2 0) 3 0) 4 0) 5 0) 6 0) 7 0) := by rw [f5, f4, f3]
  have RR : ∀ q, q ≠ 5 → q ≠ 6 → q ≠ 7 → o_R b3 q = o_R a2 q := fun q q5 q6 q7 => by rw [l3, if_neg q7, l2, if_neg q6, l1, if_neg q5, sF_R, sF_R, r5, if_neg q7, r4, if_neg q6, r3, if_neg q5, sF_R, sF_R, sF_R, sF_R, sF_R, sF_R]
  have R2' : ∀ q, q ≠ 2 → q ≠ 3 → q ≠ 4 → o_R a2 q = o_R s q := fun q q2 q3 q4 => by rw [r2 q q3 q4, sF_R, r1, if_neg q2]
  refine ⟨b3, ?_, h3, ⟨?_, ?_, fun f hf => ?_, fun q hq => ?_⟩, ?_, ?_, ?_, ?_, ?_, ?_, ?_, ?_, ?_, ?_, ?_, ?_, ?_, ?_, ?_, ?_⟩
  · unfold f_X6_parse f_X3_startAgain f_X1_startAgain f_X0_startAgain f_X0_enter
    rw [do_e, x1, do_e, bv_s, x2, bv_s, do_e, do_e, do_e, do_e, do_e, do_e, bv_s, do_e, x3, do_e, x4, do_e, x5, do_e, do_e, m1, bv_s, m2, bv_s, m3, bv_s, bv_s, bv_s]
  · rw [p3, p2, p1, sF_A, sF_A, u5, u4, u3, sF_A, sF_A, sF_A, sF_A, sF_A, sF_A, u2, sF_A, u1]
  · rw [o3, o2, o1, sF_O, sF_O, y5, y4, y3, sF_O, sF_O, sF_O, sF_O, sF_O, sF_O, y2, sF_O, y1]
  · rw [F3, sF_F, if_neg (by omega), sF_F, if_neg (by omega), F5, sF_F, if_neg (by omega), sF_F, if_neg (by omega), sF_F, if_neg (by omega), sF_F, if_neg (by omega), sF_F, if_neg (by omega), sF_F, if_neg (by omega), f2 f (by omega), sF_F, if_neg (by omega), f1]
  · rw [RR q (by omega) (by omega) (by omega), R2' q (by omega) (by omega) (by omega)]
  · rw [F3]; simp only [sF_F, F5]; simp; rw [f2 0 (by decide), sF_F, if_pos rfl]
  · rw [F3]; simp only [sF_F, F5]; simp; exact f2'
  · rw [F3]; simp only [sF_F, F5]; simp
  · rw [F3]; simp only [sF_F, F5]; simp
  · rw [F3]; simp only [sF_F, F5]; simp
  · rw [F3]; simp only [sF_F, F5]; simp
  · rw [F3]; simp only [sF_F, F5]; simp
  · rw [F3]; simp only [sF_F, F5]; simp
  · rw [F3]; simp only [sF_F, F5]; simp
  · rw [F3]; simp only [sF_F, F5]; simp
  · rw [RR 2 (by decide) (by decide) (by decide), r2 2 (by decide) (by decide), sF_R, r1, if_pos rfl]
  · rw [RR 3 (by decide) (by decide) (by decide), r23]
  · rw [RR 4 (by decide) (by decide) (by decide), r24]
  · rw [l3, if_neg (by decide), l2, if_neg (by decide), l1, if_pos rfl, R5]; rfl
  · rw [l3, if_neg (by decide), l2, if_pos rfl, l1, if_neg (by decide), R6]; rfl
  · rw [l3, if_pos rfl, l2, if_neg (by decide), l1, if_neg (by decide), R7]; rfl
/-- the reference begins -/
theorem rbeg (r : o_S) : ∃ t, f_X7_begin N r = some t ∧ RQ r t ∧ o_k t = o_k r ∧ o_cap t = o_cap r ∧ (∀ f, f ≠ 17 → f ≠ 19 → o_F t f = o_F r f) ∧ o_F t 17 = 1 ∧ o_F t 19 = 0 ∧ o_A t 1 0 = 0 ∧ o_A t 2 0 = -1 ∧ o_A t 3 0 = -1 ∧ o_A t 4 0 = -1 ∧ o_A t 5 0 = 0 ∧ o_A t 6 0 = 0 ∧ o_A t 7 0 = 0 ∧ (∀ a, a = 0 ∨ 7 < a → o_A t a = o_A r a) := by
  refine ⟨o_setA (o_setA (o_setA (o_setA (o_setA (o_setA (o_setA (o_setF (o_setF (o_setF r 17 0) 19 0) 17 1) 1 0 0) 5 0 0) 6 0 0) 7 0 0) 3 0 (-1)) 2 0 (-1)) 4 0 (-1), ?_, ⟨rfl, rfl, fun e h => h⟩, rfl, rfl, fun f h1 h2 => ?_, ?_, ?_, ?_, ?_, ?_, ?_, ?_, ?_, ?_, fun a ha => ?_⟩
  · have q17 : o_F (o_setF (o_setF r 17 0) 19 0) 17 = nI 0 := by rw [sF_F, if_neg (by decide), sF_F, if_pos rfl]; rfl
    unfold f_X7_begin f_X7_add
    rw [do_e, do_e, do_e, q17, show nI 0 + (1 : Int32) = 1 from rfl, st_ (show 0 < 1500 by decide) (by decide), st_ (show 0 < 1500 by decide) (by decide), st_ (show 0 < 1500 by decide) (by decide), st_ (show 0 < 1500 by decide) (by decide), st_ (show 0 < 1500 by decide) (by decide), st_ (show 0 < 1500 by decide) (by decide), st_ (show 0 < 1500 by decide) (by decide), if_pos rfl, bi_s]
  · simp only [sA_F, sF_F]; rw [if_neg h1, if_neg h2, if_neg h1]
  · simp only [sA_F, sF_F]; simp
  · simp only [sA_F, sF_F]; simp
  · simp only [sA_A]; simp
  · simp only [sA_A]; simp
  · simp only [sA_A]; simp
  · simp only [sA_A]; simp
  · simp only [sA_A]; simp
  · simp only [sA_A]; simp
  · simp only [sA_A]; simp
  · rw [sA_ne (by omega), sA_ne (by omega), sA_ne (by omega), sA_ne (by omega), sA_ne (by omega), sA_ne (by omega), sA_ne (by omega), sF_A, sF_A, sF_A]
theorem r_L11 {T : List Int32} (hTl : T.length ≤ 600) : ∀ d i m (r : o_S), i + d = T.length → d < m → o_F r 16 = nI T.length → (∀ j, j < T.length → o_A r 0 j = T.getD j 0) → (∀ j, j < i → o_A r 9 j = T.getD j 0) → ∃ t, f_X7_parse_L11 N m (nI i) r = (o_do (o_setF t 21 (0 : Int32)) fun s5 => o_bv (f_X7_push N (0 : Int32) (-1 : Int32) s5) fun s6 => o_do (o_setF s6 22 (0 : Int32)) fun s8 => o_do (o_setF s8 26 (0 : Int32)) fun s9 => f_X7_parse_L67 N N (0 : Int32) (0 : Int32) (1 : Int32) (0 : Int32) s9) ∧ RQ r t ∧ o_F t = o_F r ∧ (∀ a, a ≠ 9 → o_A t a = o_A r a) ∧ (∀ j, j < T.length → o_A t 9 j = T.getD j 0) := by
  intro d
  induction d with
  | zero =>
    intro i m r hi hm h16 hA h9
    obtain ⟨m, rfl⟩ : ∃ x, m = x + 1 := ⟨m - 1, by omega⟩
    refine ⟨r, ?_, RQ.rf r, rfl, fun _ _ => rfl, fun j hj => h9 j (by omega)⟩
    rw [f_X7_parse_L11, h16, if_pos (nI_le (by omega) (by omega))]
  | succ d ih =>
    intro i m r hi hm h16 hA h9
    obtain ⟨m, rfl⟩ : ∃ x, m = x + 1 := ⟨m - 1, by omega⟩
    obtain ⟨t, t1, t2, t3, t4, t5⟩ := ih (i + 1) m (o_setA r 9 i (T.getD i 0)) (by omega) (by omega) h16 (fun j hj => by rw [sA_ne (by decide)]; exact hA j hj) (fun j hj => by
      by_cases q : j = i
      · rw [q, sA_eq]
      · rw [sA_nj q]; exact h9 j (by omega))
    refine ⟨t, ?_, ((RQ.rf r).A _ _ _).tr t2, t3, fun a ha => by rw [t4 a ha, sA_ne ha], t5⟩
    rw [f_X7_parse_L11, h16, if_neg (fun q => absurd ((nI_leI (by omega) (by omega)).mp q) (by omega)), ld_ (show i < 600 by omega) (by decide), hA i (by omega), st_ (show i < 12600 by omega) (by decide), ni_p1]
    exact t1
theorem r_init {T : List Int32} {r : o_S} (hN : 2000 ≤ N) (hTl : T.length ≤ 600) (h16 : o_F r 16 = nI T.length) (hA : ∀ j, j < T.length → o_A r 0 j = T.getD j 0) : ∃ t, f_X7_parse N r = f_X7_parse_L67 N N 0 0 1 0 t ∧ RQ r t ∧ (∀ f, f < 15 ∨ f = 16 ∨ f = 20 → o_F t f = o_F r f) ∧ (∀ a, a = 0 ∨ a = 13 ∨ a = 14 → o_A t a = o_A r a) ∧ o_F t 15 = 0 ∧ o_F t 17 = 1 ∧ o_F t 19 = 0 ∧ o_F t 21 = 1 ∧ o_F t 22 = 0 ∧ o_F t 26 = 0 ∧ o_A t 1 0 = 0 ∧ o_A t 2 0 = -1 ∧ o_A t 3 0 = -1 ∧ o_A t 4 0 = -1 ∧ o_A t 5 0 = 0 ∧ o_A t 6 0 = 0 ∧ o_A t 7 0 = 0 ∧ (∀ j, j < T.length → o_A t 9 j = T.getD j 0) ∧ o_A t 15 0 = 0 ∧ o_A t 17 0 = -1 := by
  obtain ⟨a, x1, x2, -, -, x3, x4, x5, x6, x7, x8, x9, x10, x11, x12, x13⟩ := rbeg (N := N) (o_setF r 15 0)
  obtain ⟨b, y1, y2, y3, y4, y5⟩ := r_L11 (N := N) hTl T.length 0 N a (by omega) (by omega) (by rw [x3 16 (by decide) (by decide), sF_F, if_neg (by decide)]; exact h16) (fun j hj => by rw [x13 0 (Or.inl rfl), sF_A]; exact hA j hj) (fun j hj => by omega)
  have hF : ∀ f, f ≠ 21 → f ≠ 22 → f ≠ 26 → o_F (o_setF (o_setF (o_setF (o_setA (o_setA (o_setA (o_setF b 21 0) 15 0 0) 16 0 (-1)) 17 0 (-1)) 21 1) 22 0) 26 0) f = o_F a f := fun f f21 f22 f26 => by
    simp only [sF_F, sA_F]; rw [if_neg f26, if_neg f22, if_neg f21, if_neg f21, y3]
  have hA2 : ∀ q, q ≠ 15 → q ≠ 16 → q ≠ 17 → o_A (o_setF (o_setF (o_setF (o_setA (o_setA (o_setA (o_setF b 21 0) 15 0 0) 16 0 (-1)) 17 0 (-1)) 21 1) 22 0) 26 0) q = o_A b q := fun q q15 q16 q17 => by
    rw [sF_A, sF_A, sF_A, sA_ne q17, sA_ne q16, sA_ne q15, sF_A]
  refine ⟨o_setF (o_setF (o_setF (o_setA (o_setA (o_setA (o_setF b 21 0) 15 0 0) 16 0 (-1)) 17 0 (-1)) 21 1) 22 0) 26 0, ?_, ((((RQ.rf r).F 15 0).tr x2).tr y2).tr ⟨rfl, rfl, fun e h => h⟩, fun f hf => ?_, fun q hq => ?_, ?_, ?_, ?_, ?_, ?_, ?_, ?_, ?_, ?_, ?_, ?_, ?_, ?_, fun j hj => ?_, ?_, ?_⟩
  · unfold f_X7_parse
    have q21 : ∀ (s : o_S), o_F s 21 = nI 0 → f_X7_push N (0 : Int32) (-1 : Int32) s = some (o_setF (o_setA (o_setA (o_setA s 15 0 0) 16 0 (-1)) 17 0 (-1)) 21 1) := by
      intro s hs
      unfold f_X7_push
      rw [hs, st_ (show 0 < 32 by decide) (by decide), sA_F, hs, st_ (show 0 < 32 by decide) (by decide), sA_F, sA_F, hs, st_ (show 0 < 32 by decide) (by decide), do_e, sA_F, sA_F, sA_F, hs]; rfl
    rw [do_e, x1, bv_s, show (0 : Int32) = nI 0 from rfl, y1, do_e, q21 _ (by rw [sF_F, if_pos rfl]; rfl), bv_s, do_e, do_e]
    rfl
  · rw [hF f (by omega) (by omega) (by omega), x3 f (by omega) (by omega), sF_F, if_neg (by omega)]
  · rw [hA2 q (by omega) (by omega) (by omega), y4 q (by omega), x13 q (by omega), sF_A]
  · rw [hF 15 (by decide) (by decide) (by decide), x3 15 (by decide) (by decide), sF_F, if_pos rfl]
  · rw [hF 17 (by decide) (by decide) (by decide)]; exact x4
  · rw [hF 19 (by decide) (by decide) (by decide)]; exact x5
  · simp only [sF_F]; simp
  · simp only [sF_F]; simp
  · simp only [sF_F]; simp
  · rw [hA2 1 (by decide) (by decide) (by decide), y4 1 (by decide)]; exact x6
  · rw [hA2 2 (by decide) (by decide) (by decide), y4 2 (by decide)]; exact x7
  · rw [hA2 3 (by decide) (by decide) (by decide), y4 3 (by decide)]; exact x8
  · rw [hA2 4 (by decide) (by decide) (by decide), y4 4 (by decide)]; exact x9
  · rw [hA2 5 (by decide) (by decide) (by decide), y4 5 (by decide)]; exact x10
  · rw [hA2 6 (by decide) (by decide) (by decide), y4 6 (by decide)]; exact x11
  · rw [hA2 7 (by decide) (by decide) (by decide), y4 7 (by decide)]; exact x12
  · rw [hA2 9 (by decide) (by decide) (by decide)]; exact y5 j hj
  · rw [sF_A, sF_A, sF_A, sA_ne (by decide), sA_ne (by decide), sA_eq]
  · rw [sF_A, sF_A, sF_A, sA_eq]
end
