/-! PARSE: the steps of the two builders, side by side -/
def CF (c c' : o_S) : Prop := o_A c' = o_A c ∧ o_O c' = o_O c ∧ (∀ f, f ≠ 0 → f ≠ 1 → f ≠ 14 → o_F c' f = o_F c f) ∧ (∀ q, q = 0 ∨ q = 1 ∨ q = 8 → o_R c' q = o_R c q)
theorem CF.rf (c : o_S) : CF c c := ⟨rfl, rfl, fun _ _ _ _ => rfl, fun _ _ => rfl⟩
theorem CF.tr {a b c : o_S} (h1 : CF a b) (h2 : CF b c) : CF a c := ⟨h2.1.trans h1.1, h2.2.1.trans h1.2.1, fun f x y z => (h2.2.2.1 f x y z).trans (h1.2.2.1 f x y z), fun q x => (h2.2.2.2 q x).trans (h1.2.2.2 q x)⟩
def RF (r r' : o_S) : Prop := RQ r r' ∧ (∀ f, f ≠ 17 → f ≠ 19 → f ≠ 21 → f ≠ 22 → o_F r' f = o_F r f) ∧ (∀ a, a = 0 ∨ (8 < a ∧ a < 15 ∧ a ≠ 12) → o_A r' a = o_A r a)
theorem RF.rf (r : o_S) : RF r r := ⟨RQ.rf r, fun _ _ _ _ _ => rfl, fun _ _ => rfl⟩
theorem RF.tr {a b c : o_S} (h1 : RF a b) (h2 : RF b c) : RF a c := ⟨h1.1.tr h2.1, fun f x y z u => (h2.2.1 f x y z u).trans (h1.2.1 f x y z u), fun q x => (h2.2.2 q x).trans (h1.2.2 q x)⟩
def BR (e : Nat) (bg : Bool) (c r : o_S) (T : List Int32) (n : Nat) (kd lv dp : Nat → Nat) (w : Nat → List Int32) (d : Nat) (nd : Nat → Nat) (k : Nat) : Prop := GS e c ∧ PT c r T n kd lv dp w ∧ SK bg c r n kd lv dp d nd ∧ RK c r k
theorem tg_app {c c' : o_S} {n : Nat} {X : List Int32} (hl : (o_R c 3).length = 7 * n) (h : o_R c' 3 = o_R c 3 ++ X) : (∀ i f, i < n → f < 7 → tg c' i f = tg c i f) ∧ ∀ f, f < 7 → tg c' n f = X.getD f 0 := by
  refine ⟨fun i f hi hf => ?_, fun f hf => ?_⟩
  · unfold tg; rw [h, gd_l (by omega)]
  · unfold tg; rw [h, gd_r (by omega), hl, Nat.add_sub_cancel_left]
section
variable {N e n d k b : Nat} {bg : Bool} {c r : o_S} {T : List Int32} {kd lv dp : Nat → Nat} {w : Nat → List Int32} {nd : Nat → Nat}
theorem p_add0 (hN : 2000 ≤ N) (h : BR e bg c r T n kd lv dp w d nd k) (hn : n ≤ 1201) (hb : b < n) (ha : aft lv n b = n) (hbx : nd (d - 1) ≤ b) (hbi : (o_R c 7).getD (d - 1) 0 = -1 ∨ (o_R c 7).getD (d - 1) 0 = nI b) {q : Nat} (hq4 : q ≤ 4) (hq2 : q ≠ 2) (hq : kOK (kd b) q) (hl : kd (n - 1) = 1 → b = n - 1) (hd : (q = 0 ∨ q = 4) → lv b + 1 ≤ dp b + (if kd b = 0 then 1 else 0) + 30) (l cl v : Int32) (hv : q = 3 → ∃ u, u < 1000000000 ∧ v = nI u) :
    ∃ c' r', f_X5_add N (nI b) (nI q) l cl v c = some (nI n, c') ∧ f_X7_add N (nI q) (nI b) l cl v r = some (nI n, r') ∧ BR e bg c' r' T (n + 1) (ap n kd q) (ap n lv (lv b + 1)) (ap n dp (dp b + (if kd b = 0 then 1 else 0))) (ap n w []) d nd k ∧ CF c c' ∧ RF r r' ∧ (∀ f, f ≠ 1 → o_F c' f = o_F c f) ∧ (∀ f, f ≠ 17 → o_F r' f = o_F r f) ∧ (∀ z, z ≠ 3 → o_R c' z = o_R c z) ∧ (∀ a, 7 < a → o_A r' a = o_A r a) := by
  obtain ⟨hG, hP, hS, hR⟩ := h
  obtain ⟨c', x1, x2, x3, x4, x5, x6, x7, x8⟩ := xadd (N := N) hG hP.1 hb hn (nI q) l cl v
  obtain ⟨r', y1, y2, y3, y4, y5, y6, y7, y8, y9, y10, y11⟩ := radd (N := N) hN hP.2.2.1 hP.2.2.2.1 hP.2.1.1 hn hb ha (nI q) l cl v
  obtain ⟨g1, g2⟩ := tg_app hP.1.1 x6
  have R4 := x5 4 (by decide)
  refine ⟨c', r', x1, y1, ⟨x2, ?_, ?_, ?_⟩, ⟨x3, x4, fun f _ f1 _ => x7 f f1, fun z hz => x5 z (by omega)⟩, ⟨y2, fun f f1 _ _ _ => y3 f f1, fun a ha => ?_⟩, x7, y3, x5, y10⟩
  · refine pt_add (X := []) hP hn hb ha hq4 hq hl hd (sp := nI (o_R c 4).length) ?_ g1 (g2 0 (by decide)) (g2 1 (by decide)) (g2 2 (by decide)) (g2 3 (by decide)) (g2 4 (by decide)) (g2 5 (by decide)) (g2 6 (by decide)) x8 ?_ ?_ (fun z => absurd z hq2) hv y4 y5 y6 y7 y8 y9 (fun i _ => by rw [y10 8 (by decide)]) (fun z => absurd z hq2)
    · rw [x6, List.length_append, hP.1.1]; show 7 * n + 7 = _; omega
    · rw [R4, List.append_nil]
    · rw [R4]; exact hP.1.2.2.2.1
  · exact sk_add hS hP.2.1.1 (by omega) hb ha hbx hbi (x5 5 (by decide)) (x5 6 (by decide)) (x5 7 (by decide)) (y3 21 (by decide)) (y10 15 (by decide)) (y10 16 (by decide)) (y10 17 (by decide))
  · exact hR.cg (x7 0 (by decide)) (x5 2 (by decide)) (y3 19 (by decide)) (y10 12 (by decide))
  · rcases ha with rfl | ha
    · exact y11
    · exact y10 a (by omega)
theorem p_word0 {a z : Nat} (hN : 2000 ≤ N) (h : BR e bg c r T n kd lv dp w d nd k) (hn : n ≤ 1201) (hb : b < n) (ha : aft lv n b = n) (hbx : nd (d - 1) ≤ b) (hbi : (o_R c 7).getD (d - 1) 0 = -1 ∨ (o_R c 7).getD (d - 1) 0 = nI b) (hq : kOK (kd b) 2) (hl : kd (n - 1) = 1 → b = n - 1) (l cl : Int32) (hT : o_R c 0 = T) (hTl : T.length ≤ 600) (haz : a < z) (hz : z ≤ T.length) (h4 : (o_R c 4).length ≤ 9 * a) :
    ∃ c1 c' r', f_X5_add N (nI b) (nI 2) l cl 0 c = some (nI n, c1) ∧ f_X5_spell N (nI n) (nI a) (nI z) c1 = some c' ∧ (∀ f, f ≠ 1 → o_F c1 f = o_F c f) ∧ (∃ r1, f_X7_add N (nI 2) (nI b) l cl (nI (z - a)) r = some (nI n, r1) ∧ (∀ f, f ≠ 17 → o_F r1 f = o_F r f) ∧ r' = o_setA r1 8 n (nI a)) ∧ BR e bg c' r' T (n + 1) (ap n kd 2) (ap n lv (lv b + 1)) (ap n dp (dp b + (if kd b = 0 then 1 else 0))) (ap n w ((T.drop a).take (z - a))) d nd k ∧ CF c c' ∧ RF r r' ∧ (∀ f, f ≠ 1 → o_F c' f = o_F c f) ∧ (∀ f, f ≠ 17 → o_F r' f = o_F r f) ∧ (∀ z, z ≠ 3 → z ≠ 4 → o_R c' z = o_R c z) ∧ (o_R c' 4).length ≤ 9 * z := by
  obtain ⟨hG, hP, hS, hR⟩ := h
  obtain ⟨c1, x1, x2, x3, x4, x5, x6, x7, x8⟩ := xadd (N := N) hG hP.1 hb hn (nI 2) l cl 0
  have hl1 : (o_R c1 3).length = 7 * (n + 1) := by rw [x6, List.length_append, hP.1.1]; show 7 * n + 7 = _; omega
  obtain ⟨c', X, s1, s2, s3, s4, s5, s6, s7, s8, s9, s10⟩ := xspell (N := N) hN x2 hl1 hn (by rw [x5 0 (by decide)]; exact hT) hTl haz hz (by rw [x5 4 (by decide)]; omega)
  obtain ⟨r1, y1, y2, y3, y4, y5, y6, y7, y8, y9, y10, y11⟩ := radd (N := N) hN hP.2.2.1 hP.2.2.2.1 hP.2.1.1 hn hb ha (nI 2) l cl (nI (z - a))
  obtain ⟨g1, g2⟩ := tg_app hP.1.1 x6
  have R4 : o_R c1 4 = o_R c 4 := x5 4 (by decide)
  have tgs : ∀ i f, tg c' i f = if 7 * i + f = 7 * n + 5 then nI (z - a) else if 7 * i + f = 7 * n + 6 then nI (o_R c 4).length else tg c1 i f := fun i f => by
    unfold tg; rw [s7, gd_set _ _ (by rw [List.length_set]; omega), gd_set _ _ (by omega), R4]
  have wl : ((T.drop a).take (z - a)).length = z - a := by rw [List.length_take, List.length_drop]; omega
  have wg : ∀ j, j < z - a → ((T.drop a).take (z - a)).getD j 0 = T.getD (a + j) 0 := fun j hj => by
    rw [List.getD_eq_getElem?_getD, List.getElem?_take, if_pos hj, List.getElem?_drop, ← List.getD_eq_getElem?_getD]
  have l4 : (o_R c' 4).length = (o_R c 4).length + X.length := by rw [s8, List.length_append, R4]
  refine ⟨c1, c', o_setA r1 8 n (nI a), x1, s1, x7, ⟨r1, y1, y3, rfl⟩, ⟨s2, ?_, ?_, ?_⟩, ⟨s4.trans x3, s5.trans x4, fun f _ f1 _ => by rw [s3]; exact x7 f f1, fun y hy => by rw [s6 y (by omega) (by omega)]; exact x5 y (by omega)⟩, ⟨y2.A _ _ _, fun f f1 _ _ _ => y3 f f1, fun a ha => ?_⟩, fun f f1 => by rw [s3]; exact x7 f f1, y3, fun y y3 y4 => by rw [s6 y y3 y4]; exact x5 y y3, by omega⟩
  · refine pt_add (X := X) (v := nI (z - a)) (sp := nI (o_R c 4).length) (l := l) (cl := cl) hP hn hb ha (by decide) hq hl (fun q => by omega) (by rw [s7, List.length_set, List.length_set]; exact hl1) ?_ ?_ ?_ ?_ ?_ ?_ ?_ ?_ (by rw [s3]; exact x8) (by rw [s8, R4]) (by omega) (fun _ => ⟨by rw [wl], rfl, by omega, by omega, by omega, fun j hj => by rw [wg j (by omega)]; exact s10 j (by omega)⟩) (fun q => by omega) y4 ?_ (fun i => by rw [sA_ne (by decide)]; exact y6 i) (fun i => by rw [sA_ne (by decide)]; exact y7 i) (fun i => by rw [sA_ne (by decide)]; exact y8 i) (fun i => by rw [sA_ne (by decide)]; exact y9 i) (fun i hi => by rw [sA_nj (by omega), y10 8 (by decide)]) (fun _ => ⟨a, sA_eq, by omega, fun j hj => (wg j (by omega)).symm⟩)
    · intro i f hi hf; rw [tgs, if_neg (by omega), if_neg (by omega)]; exact g1 i f hi hf
    · rw [tgs, if_neg (by omega), if_neg (by omega)]; exact g2 0 (by decide)
    · rw [tgs, if_neg (by omega), if_neg (by omega)]; exact g2 1 (by decide)
    · rw [tgs, if_neg (by omega), if_neg (by omega)]; exact g2 2 (by decide)
    · rw [tgs, if_neg (by omega), if_neg (by omega)]; exact g2 3 (by decide)
    · rw [tgs, if_neg (by omega), if_neg (by omega)]; exact g2 4 (by decide)
    · rw [tgs, if_pos rfl]
    · rw [tgs, if_neg (by omega), if_pos rfl]
    · exact y5.congr (sA_ne (by decide)) (sA_ne (by decide)) (sA_ne (by decide))
  · exact sk_add hS hP.2.1.1 (by omega) hb ha hbx hbi (by rw [s6 5 (by decide) (by decide)]; exact x5 5 (by decide)) (by rw [s6 6 (by decide) (by decide)]; exact x5 6 (by decide)) (by rw [s6 7 (by decide) (by decide)]; exact x5 7 (by decide)) (y3 21 (by decide)) (by rw [sA_ne (by decide)]; exact y10 15 (by decide)) (by rw [sA_ne (by decide)]; exact y10 16 (by decide)) (by rw [sA_ne (by decide)]; exact y10 17 (by decide))
  · exact hR.cg (by rw [s3]; exact x7 0 (by decide)) (by rw [s6 2 (by decide) (by decide)]; exact x5 2 (by decide)) (y3 19 (by decide)) (by rw [sA_ne (by decide)]; exact y10 12 (by decide))
  · rw [sA_ne (by omega)]
    rcases ha with rfl | ha
    · exact y11
    · exact y10 a (by omega)
/-- the tops -/
theorem top_5 (h : SK bg c r n kd lv dp d nd) : f_X0_innermost N c = some (nI (d - 1), c) ∧ o_at c 5 (nI (d - 1)) = nI (nd (d - 1)) ∧ o_at c 6 (nI (d - 1)) = (o_R c 6).getD (d - 1) 0 ∧ o_at c 7 (nI (d - 1)) = (o_R c 7).getD (d - 1) 0 := by
  obtain ⟨s1, s2, s3, s4, s5, s6, s7, s8⟩ := h
  refine ⟨?_, ?_, ?_, ?_⟩
  · unfold f_X0_innermost; rw [s3, ni_s1 (by omega)]
  · rw [at_in (by omega) (by omega)]; exact (s8 (d - 1) (by omega)).1
  · rw [at_in (by omega) (by omega)]
  · rw [at_in (by omega) (by omega)]
theorem top_7 (h : SK bg c r n kd lv dp d nd) : f_X7_top N r = some (nI (d - 1), r) ∧ o_A r 15 (d - 1) = nI (nd (d - 1)) ∧ ((bg = true ∨ 1 < d) → o_A r 16 (d - 1) = (o_R c 6).getD (d - 1) 0) ∧ o_A r 17 (d - 1) = (o_R c 7).getD (d - 1) 0 ∧ SE n kd lv dp (d - 1) (nd (d - 1)) ((o_R c 7).getD (d - 1) 0) n := by
  obtain ⟨s1, s2, s3, s4, s5, s6, s7, s8⟩ := h
  obtain ⟨a1, a2, a3, a4, a5⟩ := s8 (d - 1) (by omega)
  unfold nx at a5
  rw [if_neg (by omega)] at a5
  refine ⟨?_, a2, fun q => a3 (q.imp id (fun z => by omega)), a4, a5⟩
  unfold f_X7_top; rw [s6, ni_s1 (by omega)]
/-- a block or group is opened -/
theorem p_enter {x : Nat} {cl : Int32} (h : BR e bg c r T n kd lv dp w d nd k) (hd : d ≤ 30) (hx : x < n) (hx1 : nd (d - 1) < x) (hx2 : ∀ i, (o_R c 7).getD (d - 1) 0 = nI i → i < 2 ^ 31 → i < x) (hk : kd x = 0 ∨ kd x = 4) (hl : lv x = dp x + d) (ha : aft lv n x = n) :
    ∃ c' r', f_X0_enter N (nI x) cl c = some c' ∧ f_X7_push N (nI x) cl r = some r' ∧ BR e bg c' r' T n kd lv dp w (d + 1) (ap d nd x) k ∧ CF c c' ∧ RF r r' ∧ o_F c' = o_F c ∧ (∀ f, f ≠ 21 → o_F r' f = o_F r f) ∧ o_R c' 4 = o_R c 4 ∧ o_R c' 6 = o_R c 6 ++ [cl] ∧ o_R c' 7 = o_R c 7 ++ [-1] := by
  obtain ⟨hG, hP, hS, hR⟩ := h
  obtain ⟨z1, z2, z3, z4, z5, z6, z7, z8⟩ := id hS
  have m5 : o_M 5 = 16384 := rfl
  have m6 : o_M 6 = 16384 := rfl
  have m7 : o_M 7 = 16384 := rfl
  obtain ⟨s1, a1, g1, r1, f1, x1, y1⟩ := hG.push (r := 5) (by decide) (nI x) (by omega)
  obtain ⟨s2, a2, g2, r2, f2, x2, y2⟩ := g1.push (r := 6) (by decide) cl (by rw [r1, if_neg (by decide)]; omega)
  obtain ⟨s3, a3, g3, r3, f3, x3, y3⟩ := g2.push (r := 7) (by decide) (-1) (by rw [r2, if_neg (by decide), r1, if_neg (by decide)]; omega)
  have F3 : o_F s3 = o_F c := by rw [f3, f2, f1]
  have hR3 : ∀ q, q ≠ 5 → q ≠ 6 → q ≠ 7 → o_R s3 q = o_R c q := fun q q5 q6 q7 => by rw [r3, if_neg q7, r2, if_neg q6, r1, if_neg q5]
  have R5 : o_R s3 5 = o_R c 5 ++ [nI x] := by rw [r3, if_neg (by decide), r2, if_neg (by decide), r1, if_pos rfl]
  have R6 : o_R s3 6 = o_R c 6 ++ [cl] := by rw [r3, if_neg (by decide), r2, if_pos rfl, r1, if_neg (by decide)]
  have R7 : o_R s3 7 = o_R c 7 ++ [-1] := by rw [r3, if_pos rfl, r2, if_neg (by decide), r1, if_neg (by decide)]
  have hn := hP.2.1.1.2.1
  refine ⟨s3, o_setF (o_setA (o_setA (o_setA r 15 d (nI x)) 16 d cl) 17 d (-1)) 21 (nI (d + 1)), ?_, ?_, ⟨g3, ?_, ?_, ?_⟩, ⟨by rw [x3, x2, x1], by rw [y3, y2, y1], fun f _ _ _ => by rw [F3], fun q hq => hR3 q (by omega) (by omega) (by omega)⟩, ⟨((((RQ.rf r).A _ _ _).A _ _ _).A _ _ _).F _ _, fun f _ _ f21 _ => by rw [sF_F, if_neg f21, sA_F, sA_F, sA_F], fun a ha => by rw [sF_A, sA_ne (by omega), sA_ne (by omega), sA_ne (by omega)]⟩, F3, fun f f21 => by rw [sF_F, if_neg f21, sA_F, sA_F, sA_F], hR3 4 (by decide) (by decide) (by decide), R6, R7⟩
  · unfold f_X0_enter; rw [a1, bv_s, a2, bv_s, a3, bv_s]
  · unfold f_X7_push
    rw [z6, st_ (show d < 32 by omega) (by decide), sA_F, z6, st_ (show d < 32 by omega) (by decide), sA_F, sA_F, z6, st_ (show d < 32 by omega) (by decide), do_e, sA_F, sA_F, sA_F, z6, ni_p1]
  · exact hP.cg (by rw [F3]) (hR3 3 (by decide) (by decide) (by decide)) (hR3 4 (by decide) (by decide) (by decide)) (by rw [sF_F, if_neg (by decide), sA_F, sA_F, sA_F]) (fun a a1 a2 => by rw [sF_A, sA_ne (by omega), sA_ne (by omega), sA_ne (by omega)])
  · refine sk_push hS hd hx hx1 hx2 hk hl ha (by omega) R5 R6 R7 (by rw [sF_F, if_pos rfl]) (fun j => ?_) (fun j => ?_) (fun j => ?_)
    · rw [sF_A, sA_ne (by decide), sA_ne (by decide), sA_A, if_pos rfl]
    · rw [sF_A, sA_ne (by decide), sA_A, if_pos rfl, sA_ne (by decide)]
    · rw [sF_A, sA_A, if_pos rfl, sA_ne (by decide), sA_ne (by decide)]
  · exact hR.cg (by rw [F3]) (hR3 2 (by decide) (by decide) (by decide)) (by rw [sF_F, if_neg (by decide), sA_F, sA_F, sA_F]) (by rw [sF_A, sA_ne (by decide), sA_ne (by decide), sA_ne (by decide)])
/-- some are closed -/
theorem p_close {d' : Nat} (h : BR e bg c r T n kd lv dp w d nd k) (h1 : 1 ≤ d') (h2 : d' ≤ d) : ∃ c', f_X0_close N (nI d') c = some c' ∧ BR e bg c' (o_setF r 21 (nI d')) T n kd lv dp w d' nd k ∧ CF c c' ∧ RF r (o_setF r 21 (nI d')) ∧ o_F c' = o_F c ∧ o_R c' 4 = o_R c 4 ∧ o_R c' 6 = (o_R c 6).take d' ∧ o_R c' 7 = (o_R c 7).take d' := by
  obtain ⟨hG, hP, hS, hR⟩ := h
  obtain ⟨z1, z2, z3, z4, z5, z6, z7, z8⟩ := id hS
  have st : ∀ (s : o_S) q, GS e s → q < 9 → d' ≤ (o_R s q).length → (o_R s q).length < 2 ^ 31 → ∃ t, o_cut s q (nI d') = t ∧ GS e t ∧ o_F t = o_F s ∧ o_A t = o_A s ∧ o_O t = o_O s ∧ ∀ y, o_R t y = if y = q then (o_R s q).take d' else o_R s y := by
    intro s q hG hq hl hl2
    obtain ⟨x, hx, rfl⟩ := cut_in (s := s) (r := q) hl hl2
    exact ⟨_, hx, hG.set hq (by rw [List.length_take]; have := (hG.1 q hq).1; omega), rfl, rfl, rfl, fun y => by rw [sR_R]⟩
  obtain ⟨s1, a1, g1, f1, x1, y1, r1⟩ := st c 5 hG (by decide) (by omega) (by omega)
  obtain ⟨s2, a2, g2, f2, x2, y2, r2⟩ := st s1 6 g1 (by decide) (by rw [r1, if_neg (by decide)]; omega) (by rw [r1, if_neg (by decide)]; omega)
  obtain ⟨s3, a3, g3, f3, x3, y3, r3⟩ := st s2 7 g2 (by decide) (by rw [r2, if_neg (by decide), r1, if_neg (by decide)]; omega) (by rw [r2, if_neg (by decide), r1, if_neg (by decide)]; omega)
  have F3 : o_F s3 = o_F c := by rw [f3, f2, f1]
  have hR3 : ∀ q, q ≠ 5 → q ≠ 6 → q ≠ 7 → o_R s3 q = o_R c q := fun q q5 q6 q7 => by rw [r3, if_neg q7, r2, if_neg q6, r1, if_neg q5]
  have R5 : o_R s3 5 = (o_R c 5).take d' := by rw [r3, if_neg (by decide), r2, if_neg (by decide), r1, if_pos rfl]
  have R6 : o_R s3 6 = (o_R c 6).take d' := by rw [r3, if_neg (by decide), r2, if_pos rfl, r1, if_neg (by decide)]
  have R7 : o_R s3 7 = (o_R c 7).take d' := by rw [r3, if_pos rfl, r2, if_neg (by decide), r1, if_neg (by decide)]
  refine ⟨s3, ?_, ⟨g3, ?_, ?_, ?_⟩, ⟨by rw [x3, x2, x1], by rw [y3, y2, y1], fun f _ _ _ => by rw [F3], fun q hq => hR3 q (by omega) (by omega) (by omega)⟩, ⟨(RQ.rf r).F _ _, fun f _ _ f21 _ => by rw [sF_F, if_neg f21], fun a ha => rfl⟩, F3, hR3 4 (by decide) (by decide) (by decide), R6, R7⟩
  · unfold f_X0_close; rw [do_e, a1, do_e, a2, do_e, a3]
  · exact hP.cg (by rw [F3]) (hR3 3 (by decide) (by decide) (by decide)) (hR3 4 (by decide) (by decide) (by decide)) (by rw [sF_F, if_neg (by decide)]) (fun a a1 a2 => rfl)
  · exact sk_pop hS h1 h2 R5 R6 R7 (by rw [sF_F, if_pos rfl]) rfl rfl rfl
  · exact hR.cg (by rw [F3]) (hR3 2 (by decide) (by decide) (by decide)) (by rw [sF_F, if_neg (by decide)]) rfl
/-- the top's item is set -/
theorem p_item {v : Int32} (h : BR e bg c r T n kd lv dp w d nd k) (hv : v = -1 ∨ ∃ i, v = nI i ∧ nd (d - 1) < i ∧ i < n ∧ kd i = 1 ∧ lv i = lv (nd (d - 1)) + 1 ∧ dp i = dp (nd (d - 1)) + 1 ∧ aft lv n i = n ∧ kd (nd (d - 1)) = 0) :
    ∃ c', o_put c 7 (nI (d - 1)) v = c' ∧ BR e bg c' (o_setA r 17 (d - 1) v) T n kd lv dp w d nd k ∧ CF c c' ∧ RF r (o_setA r 17 (d - 1) v) ∧ o_F c' = o_F c ∧ (∀ q, q ≠ 7 → o_R c' q = o_R c q) ∧ o_R c' 7 = (o_R c 7).set (d - 1) v := by
  obtain ⟨hG, hP, hS, hR⟩ := h
  obtain ⟨z1, z2, z3, z4, z5, z6, z7, z8⟩ := id hS
  have e1 : o_put c 7 (nI (d - 1)) v = o_setR c 7 (o_cap c 7) ((o_R c 7).set (d - 1) v) := put_in (by omega) (by omega)
  have r1 : ∀ q, q ≠ 7 → o_R (o_setR c 7 (o_cap c 7) ((o_R c 7).set (d - 1) v)) q = o_R c q := fun q hq => by rw [sR_R, if_neg hq]
  have r7 : o_R (o_setR c 7 (o_cap c 7) ((o_R c 7).set (d - 1) v)) 7 = (o_R c 7).set (d - 1) v := by rw [sR_R, if_pos rfl]
  refine ⟨_, e1, ⟨hG.set (by decide) (by rw [List.length_set]; exact (hG.1 7 (by decide)).1), ?_, ?_, ?_⟩, ⟨rfl, rfl, fun _ _ _ _ => rfl, fun q hq => r1 q (by omega)⟩, ⟨(RQ.rf r).A _ _ _, fun _ _ _ _ _ => rfl, fun a ha => sA_ne (by omega)⟩, rfl, r1, r7⟩
  · exact hP.cg rfl (r1 3 (by decide)) (r1 4 (by decide)) rfl (fun a a1 a2 => sA_ne (by omega))
  · exact sk_item hS hv (r1 5 (by decide)) (r1 6 (by decide)) r7 rfl (sA_ne (by decide)) (sA_ne (by decide)) (fun j => by rw [sA_A, if_pos rfl])
  · exact hR.cg rfl (r1 2 (by decide)) rfl (sA_ne (by decide))
/-- something is reported -/
theorem p_report (h : BR e bg c r T n kd lv dp w d nd k) (hk : k ≤ 1289) (v : Int32) (h26 : o_F r 26 = o_F c 10) (h27 : o_F r 27 = o_F c 11) : ∃ c' r', f_X0_report N v c = some c' ∧ f_X7_repair N v r = some r' ∧ BR e bg c' r' T n kd lv dp w d nd (k + 1) ∧ CF c c' ∧ RF r r' ∧ (∀ f, f ≠ 0 → o_F c' f = o_F c f) ∧ (∀ f, f ≠ 19 → o_F r' f = o_F r f) ∧ (∀ q, q ≠ 2 → o_R c' q = o_R c q) := by
  obtain ⟨hG, hP, hS, hR⟩ := h
  obtain ⟨c', r', a1, a2, a3, a4, a5, a6, a7, a8, a9, a10, a11⟩ := p_rep (N := N) hG hR hk v _ _ h26 h27
  refine ⟨c', r', ?_, a2, ⟨a4, ?_, ?_, a3⟩, ⟨a5, a6, fun f f0 _ _ => a8 f f0, fun q hq => a7 q (by omega)⟩, ⟨a9, fun f _ f19 _ _ => a11 f f19, fun a ha => a10 a (by omega)⟩, a8, a11, a7⟩
  · unfold f_X0_report; rw [a1, bv_s]
  · exact hP.cg (a8 1 (by decide)) (a7 3 (by decide)) (a7 4 (by decide)) (a11 17 (by decide)) (fun a a1 a2 => a10 a (by omega))
  · exact hS.cg (a7 5 (by decide)) (a7 6 (by decide)) (a7 7 (by decide)) (a11 21 (by decide)) (a10 15 (by decide)) (a10 16 (by decide)) (a10 17 (by decide))
end
