/-! PARSE: the end; a token taken whole -/
def PF (e : Nat) (T : List Int32) (n : Nat) (c r : o_S) : Prop := ∃ kd lv dp w k, GS e c ∧ PT c r T n kd lv dp w ∧ kd (n - 1) ≠ 1 ∧ RK c r k ∧ n ≤ 1202 ∧ k ≤ 1290 ∧ smw n kd w ≤ 600 ∧ o_F r 18 = nI n ∧ (∀ j, j < n → o_A r 10 j = nI j ∧ o_A r 11 j = nI j)
section
variable {N e n d p a z : Nat} {bg : Bool} {T : List Int32} {kd lv dp : Nat → Nat} {w : Nat → List Int32} {nd : Nat → Nat}
theorem fin_L : ∀ t m m' k (c r : o_S), t < d → t < m → t + 1 < m' → BR e bg c r T n kd lv dp w d nd k → k + t ≤ 1290 → o_F r 26 = o_F c 10 → o_F r 27 = o_F c 11 → ∃ c' r' k', f_X0_finish_L19 N m (nI t) c = some c' ∧ f_X7_parse_L456 N m' (nI t) r = (o_bv (f_X7_number N r') fun s18 => some (o_F s18 18, s18)) ∧ BR e bg c' r' T n kd lv dp w d nd k' ∧ k' ≤ k + t ∧ CF c c' ∧ RF r r' := by
  intro t
  induction t with
  | zero =>
    intro m m' k c r ht hm hm' h hk h26 h27
    obtain ⟨m, rfl⟩ : ∃ x, m = x + 1 := ⟨m - 1, by omega⟩
    obtain ⟨m', rfl⟩ : ∃ x, m' = x + 2 := ⟨m' - 2, by omega⟩
    refine ⟨c, r, k, ?_, ?_, h, by omega, CF.rf c, RF.rf r⟩
    · rw [f_X0_finish_L19, if_lle 0 0 rfl (by omega) (by decide), if_pos (by omega)]
    · rw [f_X7_parse_L456, if_neg (nI_pos (by omega)), if_lle 0 0 rfl (by omega) (by decide), if_pos (by omega), show nI 0 + (-1 : Int32) = -1 from rfl, f_X7_parse_L456, if_pos (by decide)]
  | succ t ih =>
    intro m m' k c r ht hm hm' h hk h26 h27
    obtain ⟨m, rfl⟩ : ∃ x, m = x + 1 := ⟨m - 1, by omega⟩
    obtain ⟨m', rfl⟩ : ∃ x, m' = x + 1 := ⟨m' - 1, by omega⟩
    have d31 := h.2.2.1.2.1
    have l6 := h.2.2.1.2.2.2.1
    have a16 := (h.2.2.1.2.2.2.2.2.2.2 (t + 1) ht).2.2.1 (Or.inr (by omega))
    have s1 : f_X0_finish_L19 N (m + 1) (nI (t + 1)) c = if (o_R c 6).getD (t + 1) 0 = (-1 : Int32) then (o_bv (f_X0_report N (6 : Int32) c) fun s8 => f_X0_finish_L19 N m (nI t) s8) else f_X0_finish_L19 N m (nI t) c := by
      rw [f_X0_finish_L19, if_lle 0 0 rfl (by omega) (by decide), if_neg (by omega), do_e, at_in (by omega) (by omega), ni_m1 (by omega), Nat.add_sub_cancel]
    have s2 : f_X7_parse_L456 N (m' + 1) (nI (t + 1)) r = if (o_R c 6).getD (t + 1) 0 = (-1 : Int32) then (o_bv (f_X7_repair N (6 : Int32) r) fun s24 => f_X7_parse_L456 N m' (nI t) s24) else f_X7_parse_L456 N m' (nI t) r := by
      rw [f_X7_parse_L456, if_neg (nI_pos (by omega)), if_lle 0 0 rfl (by omega) (by decide), if_neg (by omega), ld_ (show t + 1 < 32 by omega) (by decide), a16, ni_m1 (by omega), Nat.add_sub_cancel]
    by_cases q : (o_R c 6).getD (t + 1) 0 = -1
    · obtain ⟨c1, r1, b1, b2, b3, b4, b5, b6, b7, b8⟩ := p_report (N := N) h (by omega) 6 h26 h27
      obtain ⟨c', r', k', g1, g2, g3, g4, g5, g6⟩ := ih m m' (k + 1) c1 r1 (by omega) (by omega) (by omega) b3 (by omega) (by rw [b7 26 (by decide), b6 10 (by decide)]; exact h26) (by rw [b7 27 (by decide), b6 11 (by decide)]; exact h27)
      refine ⟨c', r', k', ?_, ?_, g3, by omega, b4.tr g5, b5.tr g6⟩
      · rw [s1, if_pos q, b1, bv_s]; exact g1
      · rw [s2, if_pos q, b2, bv_s]; exact g2
    · obtain ⟨c', r', k', g1, g2, g3, g4, g5, g6⟩ := ih m m' k c r (by omega) (by omega) (by omega) h (by omega) h26 h27
      refine ⟨c', r', k', ?_, ?_, g3, by omega, g5, g6⟩
      · rw [s1, if_neg q]; exact g1
      · rw [s2, if_neg q]; exact g2
theorem fin_N {c r : o_S} {k : Nat} (hN : 2000 ≤ N) (h : BR e bg c r T n kd lv dp w d nd k) (h1 : kd (n - 1) ≠ 1) (hn : n ≤ 1202) (hk : k ≤ 1290) (hs : smw n kd w ≤ 600) : ∃ r', (o_bv (f_X7_number N r) fun s18 => some (o_F s18 18, s18)) = some (nI n, r') ∧ PF e T n c r' ∧ RP2 r r' := by
  obtain ⟨t, t1, t2, t3, t4⟩ := num_ (N := N) h.2.1.2.1.1 hN rfl h.2.1.2.2.2.1
  refine ⟨t, by rw [t1, bv_s, t3], ⟨kd, lv, dp, w, k, h.1, ?_, h1, ?_, hn, hk, hs, t3, t4⟩, ⟨t2.1, t2.2.2.2.1, fun e he => gs_num he t2⟩, fun f hf => t2.2.2.2.2.1 f (by omega), fun a ha => t2.2.2.2.2.2 a (by omega) (by omega)⟩
  · exact h.2.1.cg rfl rfl rfl (t2.2.2.2.2.1 17 (by decide)) (fun a a1 a2 => t2.2.2.2.2.2 a (by omega) (by omega))
  · exact h.2.2.2.cg rfl rfl (t2.2.2.2.2.1 19 (by decide)) (t2.2.2.2.2.2 12 (by decide) (by decide))
theorem p_fin {c r : o_S} (hN : 2000 ≤ N) (h : BI e bg T p c r) (hp : p ≤ 600) (h26 : o_F r 26 = o_F c 10) (h27 : o_F r 27 = o_F c 11) : ∃ n c' r', f_X0_finish N c = some c' ∧ f_X5_size N c' = some (nI n, c') ∧ (if (o_F r 22) = 0 then (o_bi (f_X7_top N r) fun x16 s14 => f_X7_parse_L456 N N x16 s14) else (o_bi (f_X7_top N r) fun x28 s26 => if x28 < 0 ∨ 32 ≤ Int32.toNatClampNeg x28 then none else o_do (o_A s26 17 (Int32.toNatClampNeg x28)) fun x30 => o_bi (f_X7_add N (0 : Int32) x30 (o_F s26 26) (o_F s26 27) (0 : Int32) s26) fun x33 s31 => o_bi (f_X7_top N s31) fun x36 s34 => f_X7_parse_L456 N N x36 s34)) = some (nI n, r') ∧ PF e T n c' r' ∧ CP c c' ∧ RP2 r r' := by
  obtain ⟨n, kd, lv, dp, w, d, nd, k, col, b, a2, a3, a4, a5, a6, a7⟩ := h
  obtain ⟨t1, t2, t3, t4⟩ := top_5 (N := N) b.2.2.1
  obtain ⟨u1, u2, u3, u4, u5⟩ := top_7 (N := N) b.2.2.1
  have d1 := b.2.2.1.1
  have d31 := b.2.2.1.2.1
  have hnn := b.2.1.2.1.1.2.1
  rcases a3 with ⟨rfl, f14, f22⟩ | ⟨rfl, f14, f22, hd, hv⟩
  · obtain ⟨c', r1, k', g1, g2, g3, g4, g5, g6⟩ := fin_L (N := N) (d - 1) N N k c r (by omega) (by omega) (by omega) b (by omega) h26 h27
    obtain ⟨r', j1, j2, j3⟩ := fin_N (N := N) hN g3 a2 (by omega) (by omega) (by omega)
    refine ⟨n, c', r', ?_, ?_, ?_, j2, g5.cp, g6.rp.tr j3⟩
    · unfold f_X0_finish; rw [f14, if_pos rfl, t1, bi_s]; exact g1
    · unfold f_X5_size; rw [g3.2.1.1.2.1]
    · rw [f22, if_pos rfl, u1, bi_s, g2]; exact j1
  · obtain ⟨i, i1, i2, i3, i4⟩ := tg_it b.2.2.1 a2 hv
    have hk0 : kd (nd (d - 1)) = 0 := by
      rcases u5.2.2.2.2.2 with q | ⟨j, -, -, -, -, -, -, -, -, q⟩
      · exact absurd q hv
      · exact q
    have hap := fun q v => p_has (N := N) b hk0 i1 (by have := i2.1; omega) q v
    obtain ⟨g1, g2, g3, g4, g5, g6, g7⟩ := id i2
    obtain ⟨c1, r1, b1, b2, b3, b4, b5, b6, b7, b8, b9⟩ := p_add0 (N := N) hN b (by omega) g1 g2 g3 g4 (q := 0) (by decide) (by decide) (Or.inr (Or.inl ⟨i3, Or.inl rfl⟩)) g6 (fun _ => by rw [tg_dp i2]; omega) (o_F c 10) (o_F c 11) 0 (fun q => by omega)
    have hsm1 : smw (n + 1) (ap n kd 0) (ap n w []) = smw n kd w := by rw [smw_ap, if_neg (by decide), Nat.add_zero]
    obtain ⟨c', r2, k', j1, j2, j3, j4, j5, j6⟩ := fin_L (N := N) (d - 1) N N k c1 r1 (by omega) (by omega) (by omega) b3 (by omega) (by rw [b7 26 (by decide), b6 10 (by decide)]; exact h26) (by rw [b7 27 (by decide), b6 11 (by decide)]; exact h27)
    obtain ⟨r', l1, l2, l3⟩ := fin_N (N := N) hN j3 (by rw [Nat.add_sub_cancel, ap_e]; decide) (by omega) (by omega) (by omega)
    have t1' := (top_5 (N := N) b3.2.2.1).1
    have u1' := (top_7 (N := N) b3.2.2.1).1
    refine ⟨n + 1, c', r', ?_, ?_, ?_, l2, (b4.tr j5).cp, (b5.tr j6).rp.tr l3⟩
    · unfold f_X0_finish; rw [f14, if_neg (by decide), hap, show f_X5_add N (nI i) 0 (o_F c 10) (o_F c 11) 0 c = some (nI n, c1) from b1, bi_s, t1', bi_s]; exact j1
    · unfold f_X5_size; rw [j3.2.1.1.2.1]
    · rw [f22, if_neg (by decide), u1, bi_s, ld_ (show d - 1 < 32 by omega) (by decide), u4, i1, h26, h27, show f_X7_add N 0 (nI i) (o_F c 10) (o_F c 11) 0 r = some (nI n, r1) from b2, bi_s, u1', bi_s, j2]; exact l1
theorem p_take {c r : o_S} (hN : 2000 ≤ N) (h : BI e bg T a c r) (htd : TD T a z c r) (h13 : o_F c 13 = if bg then 1 else 0) : ∃ c' r', f_X0_take N c = some c' ∧ f_X7_accept N (if bg then r else o_setA r 16 0 (o_F r 27)) = some r' ∧ BI e true T z c' r' ∧ CP c c' ∧ (∀ f, 2 ≤ f → f ≤ 12 → o_F c' f = o_F c f) ∧ o_F c' 13 = 1 ∧ RF r r' := by
  obtain ⟨n, kd, lv, dp, w, d, nd, k, col, b, a2, a3, a4, a5, a6, a7⟩ := h
  have hcol : o_F c 14 = nI col ∧ o_F r 22 = nI col ∧ (col = 0 ∨ (col = 1 ∧ d ≤ 30 ∧ (o_R c 7).getD (d - 1) 0 ≠ -1)) := by
    rcases a3 with ⟨rfl, f14, f22⟩ | ⟨rfl, f14, f22, hd, hv⟩
    · exact ⟨f14, f22, Or.inl rfl⟩
    · exact ⟨f14, f22, Or.inr ⟨rfl, hd, hv⟩⟩
  obtain ⟨f14, f22, hcol⟩ := hcol
  obtain ⟨b1, b2, b3, b4⟩ := b
  cases bg with
  | true =>
    have b' : BR e true (o_setF c 14 0) (o_setF r 22 0) T n kd lv dp w d nd k := ⟨b1, b2.cg rfl rfl rfl rfl (fun _ _ _ => rfl), b3.cg rfl rfl rfl rfl rfl rfl rfl, b4.cg rfl rfl rfl rfl⟩
    have cf : CF c (o_setF c 14 0) := ⟨rfl, rfl, fun f _ _ f14 => by rw [sF_F, if_neg f14], fun _ _ => rfl⟩
    have rf : RF r (o_setF r 22 0) := ⟨(RQ.rf r).F _ _, fun f _ _ _ f22 => by rw [sF_F, if_neg f22], fun _ _ => rfl⟩
    obtain ⟨c', r', g1, g2, g3, g4, g5⟩ := p_b37 (N := N) (ro := r) hN b' a2 (htd.cg cf rf) (by rw [sF_F, if_pos rfl]) rfl f22 hcol a4 a5 a6 a7
    refine ⟨c', r', ?_, g2, g3, (cf.tr g4).cp, fun f f2 f12 => (cf.tr g4).2.2.1 f (by omega) (by omega) (by omega), ?_, rf.tr g5⟩
    · unfold f_X0_take
      have q13 : o_F (o_setF c 14 0) 13 = 1 := by rw [sF_F, if_neg (by decide)]; exact h13
      rw [do_e, q13, if_neg (by decide), f14]; exact g1
    · rw [(cf.tr g4).2.2.1 13 (by decide) (by decide) (by decide)]; exact h13
  | false =>
    obtain ⟨s1, s2, s3, s4, s5, s6, s7, s8⟩ := id b3
    have e6 : o_put (o_setF (o_setF c 14 0) 13 1) 6 (0 : Int32) (o_F c 11) = o_setR (o_setF (o_setF c 14 0) 13 1) 6 (o_cap c 6) ((o_R c 6).set 0 (o_F c 11)) := by
      have := put_in (s := o_setF (o_setF c 14 0) 13 1) (r := 6) (i := 0) (v := o_F c 11) (by show 0 < (o_R c 6).length; omega) (by show (o_R c 6).length < _; omega)
      exact this
    have hR : ∀ q, q ≠ 6 → o_R (o_setR (o_setF (o_setF c 14 0) 13 1) 6 (o_cap c 6) ((o_R c 6).set 0 (o_F c 11))) q = o_R c q := fun q hq => by rw [sR_R, if_neg hq, sF_R, sF_R]
    have hR6 : o_R (o_setR (o_setF (o_setF c 14 0) 13 1) 6 (o_cap c 6) ((o_R c 6).set 0 (o_F c 11))) 6 = (o_R c 6).set 0 (o_F c 11) := by rw [sR_R, if_pos rfl]
    have hF : ∀ f, f ≠ 13 → f ≠ 14 → o_F (o_setR (o_setF (o_setF c 14 0) 13 1) 6 (o_cap c 6) ((o_R c 6).set 0 (o_F c 11))) f = o_F c f := fun f f13 f14 => by rw [sR_F, sF_F, if_neg f13, sF_F, if_neg f14]
    have hF13 : o_F (o_setR (o_setF (o_setF c 14 0) 13 1) 6 (o_cap c 6) ((o_R c 6).set 0 (o_F c 11))) 13 = 1 := by rw [sR_F, sF_F, if_pos rfl]
    have hF14 : o_F (o_setR (o_setF (o_setF c 14 0) 13 1) 6 (o_cap c 6) ((o_R c 6).set 0 (o_F c 11))) 14 = 0 := by rw [sR_F, sF_F, if_neg (by decide), sF_F, if_pos rfl]
    have hG : GS e (o_setR (o_setF (o_setF c 14 0) 13 1) 6 (o_cap c 6) ((o_R c 6).set 0 (o_F c 11))) := GS.set (s := o_setF (o_setF c 14 0) 13 1) ((b1.F _ _).F _ _) (by decide) (by rw [List.length_set]; exact (b1.1 6 (by decide)).1)
    have hA : o_A (o_setR (o_setF (o_setF c 14 0) 13 1) 6 (o_cap c 6) ((o_R c 6).set 0 (o_F c 11))) = o_A c := rfl
    have hO : o_O (o_setR (o_setF (o_setF c 14 0) 13 1) 6 (o_cap c 6) ((o_R c 6).set 0 (o_F c 11))) = o_O c := rfl
    generalize o_setR (o_setF (o_setF c 14 0) 13 1) 6 (o_cap c 6) ((o_R c 6).set 0 (o_F c 11)) = c2 at e6 hR hR6 hF hF13 hF14 hG hA hO
    have r16 : ∀ j, o_A (o_setF (o_setA r 16 0 (o_F r 27)) 22 0) 16 j = if j = 0 then o_F r 27 else o_A r 16 j := fun j => by rw [sF_A, sA_A, if_pos rfl]
    have rA : ∀ a, a ≠ 16 → o_A (o_setF (o_setA r 16 0 (o_F r 27)) 22 0) a = o_A r a := fun a ha => by rw [sF_A, sA_ne ha]
    have b' : BR e true c2 (o_setF (o_setA r 16 0 (o_F r 27)) 22 0) T n kd lv dp w d nd k := by
      refine ⟨hG, b2.cg (hF 1 (by decide) (by decide)) (hR 3 (by decide)) (hR 4 (by decide)) (by rw [sF_F, if_neg (by decide), sA_F]) (fun a _ _ => rA a (by omega)), ⟨s1, s2, by rw [hR 5 (by decide)]; exact s3, by rw [hR6, List.length_set]; exact s4, by rw [hR 7 (by decide)]; exact s5, by rw [sF_F, if_neg (by decide), sA_F]; exact s6, s7, fun j hj => ?_⟩, b4.cg (hF 0 (by decide) (by decide)) (hR 2 (by decide)) (by rw [sF_F, if_neg (by decide), sA_F]) (rA 12 (by decide))⟩
      obtain ⟨y1, y2, y3, y4, y5⟩ := s8 j hj
      rw [hR 5 (by decide), hR 7 (by decide), hR6, rA 15 (by decide), rA 17 (by decide), r16, gd_set _ _ (by omega)]
      refine ⟨y1, y2, fun _ => ?_, y4, y5⟩
      by_cases q : j = 0
      · rw [if_pos q, if_pos q]; exact htd.2.2.2.2.2.2.2.2.2.2.2.1
      · rw [if_neg q, if_neg q]; exact y3 (Or.inr (by omega))
    have td' : TD T a z c2 (o_setF (o_setA r 16 0 (o_F r 27)) 22 0) := by
      have rf : ∀ f, f ≠ 22 → o_F (o_setF (o_setA r 16 0 (o_F r 27)) 22 0) f = o_F r f := fun f f22 => by rw [sF_F, if_neg f22, sA_F]
      have := htd
      unfold TD at this ⊢
      rw [hR 0 (by decide), rA 0 (by decide), hF 9 (by decide) (by decide), hF 2 (by decide) (by decide), hF 8 (by decide) (by decide), hF 10 (by decide) (by decide), hF 11 (by decide) (by decide), hF 12 (by decide) (by decide), rf 24 (by decide), rf 25 (by decide), rf 23 (by decide), rf 26 (by decide), rf 27 (by decide), rf 28 (by decide)]
      exact this
    obtain ⟨c', r', g1, g2, g3, g4, g5⟩ := p_b37 (N := N) (ro := o_setA r 16 0 (o_F r 27)) (col := col) hN b' a2 td' hF14 rfl f22 (by rw [hR 7 (by decide)]; exact hcol) a4 a5 (by rw [hR 4 (by decide)]; exact a6) a7
    have rf2 : RF r (o_setF (o_setA r 16 0 (o_F r 27)) 22 0) := ⟨((RQ.rf r).A _ _ _).F _ _, fun f _ _ _ f22 => by rw [sF_F, if_neg f22, sA_F], fun a ha => rA a (by omega)⟩
    refine ⟨c', r', ?_, g2, g3, ?_, fun f f2 f12 => ?_, ?_, rf2.tr g5⟩
    · unfold f_X0_take
      have q13 : o_F (o_setF c 14 0) 13 = 0 := by rw [sF_F, if_neg (by decide)]; exact h13
      have q11 : o_F (o_setF (o_setF c 14 0) 13 1) 11 = o_F c 11 := by rw [sF_F, if_neg (by decide), sF_F, if_neg (by decide)]
      rw [do_e, q13, if_pos rfl, do_e, do_e, q11, e6, f14]; exact g1
    · exact CP.tr ⟨hA, hO, fun f hf => hF f (by omega) (by omega), fun q hq => hR q (by omega)⟩ g4.cp
    · rw [g4.2.2.1 f (by omega) (by omega) (by omega)]; exact hF f (by omega) (by omega)
    · rw [g4.2.2.1 13 (by decide) (by decide) (by decide)]; exact hF13
end
