theorem bi_0 {e : Nat} {T : List Int32} {c r : o_S} (hG : GS e c) (c0 : o_F c 0 = 0) (c1 : o_F c 1 = 1) (c14 : o_F c 14 = 0) (R2 : o_R c 2 = []) (R3 : o_R c 3 = [0, 0, 0, 0, 0, 0, 0]) (R4 : o_R c 4 = []) (R5 : o_R c 5 = [0]) (R6 : o_R c 6 = [0]) (R7 : o_R c 7 = [-1])
    (r17 : o_F r 17 = 1) (r19 : o_F r 19 = 0) (r21 : o_F r 21 = 1) (r22 : o_F r 22 = 0) (a1 : o_A r 1 0 = 0) (a2 : o_A r 2 0 = -1) (a3 : o_A r 3 0 = -1) (a4 : o_A r 4 0 = -1) (a5 : o_A r 5 0 = 0) (a6 : o_A r 6 0 = 0) (a7 : o_A r 7 0 = 0) (a15 : o_A r 15 0 = 0) (a17 : o_A r 17 0 = -1) : BI e false T 0 c r := by
  have tg0 : ∀ f, f < 7 → tg c 0 f = 0 := fun f hf => by
    unfold tg; rw [R3]
    rcases (show f = 0 ∨ f = 1 ∨ f = 2 ∨ f = 3 ∨ f = 4 ∨ f = 5 ∨ f = 6 by omega) with rfl | rfl | rfl | rfl | rfl | rfl | rfl <;> rfl
  have hW : WL 1 (fun _ => 0) := ⟨by decide, by decide, rfl, fun k hk => by omega⟩
  have i0 : ∀ i, i < 1 → i = 0 := fun i hi => by omega
  have ha : aft (fun _ => 0) 1 0 = 1 := aft_uniq (by decide) (by decide) (by decide) (fun k k1 k2 => by omega) (fun z => by omega)
  refine ⟨1, fun _ => 0, fun _ => 0, fun _ => 0, fun _ => [], 1, fun _ => 0, 0, 0, ⟨hG, ⟨⟨by rw [R3]; rfl, c1, by decide, by rw [R4]; decide, fun i hi => ?_, fun i hi hk => absurd (show 0 = 2 from hk) (by decide)⟩, ⟨hW, rfl, rfl, fun i h0 hi => by omega, fun i hi _ => by omega, fun i _ _ => Nat.zero_le _⟩, r17, ⟨fun i hi => by show i < 1500; omega, fun i j hi hj _ => by omega, fun i hi => ?_, fun i hi => ?_, fun i hi => ?_⟩, fun i hi => ?_, fun i hi hk => absurd (show 0 = 2 from hk) (by decide), ⟨fun _ => 0, fun i hi hk => absurd (show 0 = 2 from hk) (by decide), fun i j hi hj hk => absurd (show 0 = 2 from hk) (by decide)⟩, fun i hi hk => absurd (show 0 = 3 from hk) (by decide)⟩, ⟨by decide, by decide, by rw [R5]; rfl, by rw [R6]; rfl, by rw [R7]; rfl, r21, rfl, fun j hj => ?_⟩, ⟨c0, by rw [R2]; rfl, r19, fun j hj => by omega⟩⟩, by decide, Or.inl ⟨rfl, c14, r22⟩, by decide, by decide, by rw [R4]; decide, ?_⟩
  · rw [i0 i hi, tg0 0 (by decide), tg0 1 (by decide), tg0 2 (by decide)]; exact ⟨rfl, by decide, rfl, by decide, rfl, by decide⟩
  · rw [i0 i hi, if_pos rfl]; exact a2
  · rw [i0 i hi, if_neg (by omega)]; exact a3
  · rw [i0 i hi, if_neg (fun z => by rw [ha] at z; omega)]; exact a4
  · rw [i0 i hi, a1, a5, a6, a7, tg0 3 (by decide), tg0 4 (by decide), tg0 5 (by decide)]; exact ⟨rfl, rfl, rfl, rfl⟩
  · rw [i0 j hj, R5, R6, R7]
    refine ⟨rfl, a15, fun q => ?_, a17, by decide, ?_, Or.inl rfl, rfl, ha, Or.inl rfl⟩
    · rcases q with q | q
      · exact absurd q (by decide)
      · omega
    · unfold nx; rw [if_neg (by decide)]; decide
  · unfold smw sm sm; exact Nat.le_refl _
theorem l_parse {N e : Nat} {s : o_S} (hN : 2000 ≤ N) (hI : Inv e s) : PQ (f_X6_parse N s) (fun t => f_X7_parse N t) e := by
  obtain ⟨hG, T, n0, kd0, lv0, dp0, w0, ids0, hv⟩ := id hI
  obtain ⟨⟨t1, t2, t3, t4⟩, -, -, -, -, ⟨o1, o2, o3⟩, -, -⟩ := hv
  obtain ⟨c, x1, x2, x3, x4, x5, x6, x7, x8, x9, x10, x11, x12, x13, x14, x15, x16, x17, x18, x19⟩ := c_init (N := N) hG
  -- the reference's beginning, from any state with that text
  have ref : ∀ r : o_S, o_F r 16 = nI T.length → (∀ j, j < T.length → o_A r 0 j = T.getD j 0) → ∃ r0 n c' r', f_X7_parse N r = some (nI n, r') ∧ f_X6_parse N s = some (nI n, c') ∧ PF e T n c' r' ∧ CP s c' ∧ RQ r r' ∧ (∀ f, f < 15 ∨ f = 16 ∨ f = 20 → o_F r' f = o_F r f) ∧ (∀ a, a = 0 ∨ a = 13 ∨ a = 14 → o_A r' a = o_A r a) ∧ o_F r' 15 = 0 ∧ (∀ j, j < T.length → o_A r' 9 j = T.getD j 0) ∧ r0 = r := by
    intro r h16 hA
    obtain ⟨q, y1, y2, y3, y4, y5, y6, y7, y8, y9, y10, y11, y12, y13, y14, y15, y16, y17, y18, y19, y20⟩ := r_init (N := N) hN t2 h16 hA
    have hbi : BI e false T 0 c q := bi_0 x2 x4 x5 x13 x14 x15 x16 x17 x18 x19 y6 y7 y8 y9 y11 y12 y13 y14 y15 y16 y17 y19 y20
    obtain ⟨n, c', r', j1, j2, j3, j4, j5⟩ := p_main (N := N) hN t2 T.length 0 N (N - 1) N 0 0 0 true false c q rfl (by omega) (by omega) (by omega) ⟨Nat.zero_le _, Nat.le_refl _, ⟨fun h => absurd h (by decide), fun h => absurd h (by decide)⟩, Nat.le_refl _, Nat.le_refl _, hbi, by rw [x3.2.2.2 0 (Or.inl rfl)]; exact t1, fun j hj => by rw [y4 0 (Or.inl rfl)]; exact hA j hj, by rw [y3 16 (Or.inr (Or.inl rfl))]; exact h16, x7, y10, x8, x10, x11, Or.inl x9, x12⟩
    refine ⟨r, n, c', r', ?_, ?_, j3, x3.tr j4, y2.tr j5.1, fun f hf => by rw [j5.2.1 f (by omega), y3 f hf], fun a ha => by rw [j5.2.2 a (by omega), y4 a ha], by rw [j5.2.1 15 (by decide)]; exact y5, fun j hj => by rw [j5.2.2 9 (by decide)]; exact y18 j hj, rfl⟩
    · rw [y1]; exact j2
    · rw [x1]
      obtain ⟨N', hN'⟩ : ∃ x, N = x + 1 := ⟨N - 1, by omega⟩
      have e1 := c_L30 (N := N) (m2 := N - 1) (tok := 0) (c := c) (by decide)
      rw [show N - 1 + 1 = N by omega] at e1
      rw [show (0 : Int32) = nI 0 from rfl, e1]
      unfold f_X1_readToken
      rw [x6]; exact j1
  obtain ⟨-, n, c', -, -, k2, -, k4, -⟩ := ref s t3 t4
  obtain ⟨-, n2, c2, r2, l1, l2, l3, l4, l5, l6, l7, l8, l9, -⟩ := ref c' (by rw [k4.2.2.1 16 (by decide)]; exact t3) (fun j hj => by rw [k4.1]; exact t4 j hj)
  rw [k2] at l2
  have ec : c' = c2 := by injection l2 with h; exact (Prod.mk.inj h).2
  have en : nI n = nI n2 := by injection l2 with h; exact (Prod.mk.inj h).1
  subst ec
  obtain ⟨kd, lv, dp, w, k, p1, p2, p3, p4, p5, p6, p7, p8, p9⟩ := l3
  refine ⟨nI n, c', r2, k2, by show f_X7_parse N c' = _; rw [en]; exact l1, (l5.2.2 (e + 1) (p1.up (by omega))), T, n2, kd, lv, dp, w, fun i => i, ?_⟩
  have p2' : PT r2 r2 T n2 kd lv dp w := p2.cg (l6 1 (by decide)) (by rw [l5.1]) (by rw [l5.1]) rfl (fun _ _ _ => rfl)
  have p4' : RK r2 r2 k := p4.cg (l6 0 (by decide)) (by rw [l5.1]) rfl rfl
  obtain ⟨q1, q2, q3, q4, q5, q6, q7, q8⟩ := p2'
  obtain ⟨z1, z2, z3, z4⟩ := p4'
  refine ⟨⟨by rw [l5.1, l4.2.2.2 0 (Or.inl rfl)]; exact t1, t2, by rw [l6 16 (by decide), l4.2.2.1 16 (by decide)]; exact t3, fun j hj => by rw [l7 0 (Or.inl rfl), l4.1]; exact t4 j hj⟩, q1, q2.ti p3, ⟨p8, q4, rfl, p9, q5, fun i hi hk => ?_⟩, ⟨k, p6, z1, z2, z3, z4⟩, ⟨?_, ?_, fun j hj => ?_⟩, q7, ⟨p5, q8, p7⟩⟩
  · obtain ⟨a, g1, g2, g3⟩ := q6 i hi hk
    exact ⟨a, g1, Or.inl (by omega), fun j hj => by rw [l9 (a + j) (by omega)]; exact g3 j hj⟩
  · rw [l6 20 (by decide), l5.1, l4.2.2.1 20 (by decide), l4.2.2.2 8 (by decide)]; exact o1
  · rw [l5.1, l4.2.2.2 8 (by decide)]; exact o2
  · rw [l5.1, l4.2.2.2 8 (by decide)] at hj
    rw [l7 13 (by decide), l5.1, l4.1, l4.2.2.2 8 (by decide)]; exact o3 j hj
