/-! PARSE: parts of items and groups -/
def smw (n : Nat) (kd : Nat → Nat) (w : Nat → List Int32) : Nat := sm (fun i => if kd i = 2 then (w i).length - 8 else 0) n 0
theorem smw_ap (n : Nat) (kd : Nat → Nat) (w : Nat → List Int32) (q : Nat) (wl : List Int32) : smw (n + 1) (ap n kd q) (ap n w wl) = smw n kd w + (if q = 2 then wl.length - 8 else 0) := by
  unfold smw
  rw [sm_add _ n 1 0]
  have e1 := sm_sh (f := fun i => if ap n kd q i = 2 then (ap n w wl i).length - 8 else 0) (g := fun i => if kd i = 2 then (w i).length - 8 else 0) n 0 0 (fun i hi => by
    show (if ap n kd q (0 + i) = 2 then (ap n w wl (0 + i)).length - 8 else 0) = if kd (0 + i) = 2 then (w (0 + i)).length - 8 else 0
    rw [Nat.zero_add, ap_l hi, ap_l hi])
  rw [e1]
  congr 1
  show (if ap n kd q (0 + n) = 2 then (ap n w wl (0 + n)).length - 8 else 0) + 0 = _
  rw [Nat.zero_add, ap_e, ap_e, Nat.add_zero]
def TG (c : o_S) (n : Nat) (kd lv dp : Nat → Nat) (d : Nat) (nd : Nat → Nat) (i : Nat) : Prop := i < n ∧ aft lv n i = n ∧ nd (d - 1) ≤ i ∧ ((o_R c 7).getD (d - 1) 0 = -1 ∨ (o_R c 7).getD (d - 1) 0 = nI i) ∧ (kd i = 1 ∨ kd i = 4) ∧ (kd (n - 1) = 1 → i = n - 1) ∧ lv i = dp i + (d - 1)
def BX (e : Nat) (bg : Bool) (T : List Int32) (z n0 k : Nat) (c r : o_S) : Prop := ∃ n kd lv dp w d nd, BR e bg c r T n kd lv dp w d nd k ∧ kd (n - 1) ≠ 1 ∧ n ≤ n0 ∧ (o_R c 4).length ≤ 9 * z ∧ smw n kd w ≤ z
section
variable {N e n d k i : Nat} {bg : Bool} {c r : o_S} {T : List Int32} {kd lv dp : Nat → Nat} {w : Nat → List Int32} {nd : Nat → Nat}
theorem tg_grp (h : SK bg c r n kd lv dp d nd) (hk : kd (nd (d - 1)) = 4) (h1 : kd (n - 1) ≠ 1) : TG c n kd lv dp d nd (nd (d - 1)) := by
  obtain ⟨-, -, -, -, x1, x2, x3, x4, x5, x6⟩ := top_7 (N := 0) h
  refine ⟨x1, x5, Nat.le_refl _, Or.inl ?_, Or.inr hk, fun z => absurd z h1, x4⟩
  rcases x6 with z | ⟨i, -, -, -, -, -, -, -, -, z⟩
  · exact z
  · omega
theorem tg_it (h : SK bg c r n kd lv dp d nd) (h1 : kd (n - 1) ≠ 1) (hv : (o_R c 7).getD (d - 1) 0 ≠ -1) : ∃ i, (o_R c 7).getD (d - 1) 0 = nI i ∧ TG c n kd lv dp d nd i ∧ kd i = 1 ∧ nd (d - 1) < i := by
  obtain ⟨-, -, -, -, x1, x2, x3, x4, x5, x6⟩ := top_7 (N := 0) h
  rcases x6 with z | ⟨i, i1, i2, i3, i4, i5, i6, i7, i8, i9⟩
  · exact absurd z hv
  · exact ⟨i, i1, ⟨i4, i8, by omega, Or.inr i1, Or.inl i5, fun z => absurd z h1, by omega⟩, i5, i2⟩
theorem xis (h : BR e bg c r T n kd lv dp w d nd k) (q : Nat) (hq : q ≤ 4) : f_X5_is N (nI (nd (d - 1))) (nI q) c = some (if kd (nd (d - 1)) = q then 1 else 0, c) := ct_is h.2.1.1 (top_7 (N := 0) h.2.2.1).2.2.2.2.1 q hq
theorem b83_ (q v x : Int32) (s : o_S) : f_X0_addPart_b83 N q v x s = f_X5_add N x q (o_F s 10) (o_F s 11) v s := by
  unfold f_X0_addPart_b83
  cases h : f_X5_add N x q (o_F s 10) (o_F s 11) v s with
  | none => rfl
  | some y => rfl
/-- the item that a part goes into -/
theorem p_tgt (hN : 2000 ≤ N) (h : BR e bg c r T n kd lv dp w d nd k) (h1 : kd (n - 1) ≠ 1) (hn : n ≤ 1200) (hk : kd (nd (d - 1)) = 0) (h26 : o_F r 26 = o_F c 10) (h27 : o_F r 27 = o_F c 11) :
    ∃ c1 r1 n1 kd1 lv1 dp1 w1 i, (∀ q v, f_X0_addPart N q v c = f_X5_add N (nI i) q (o_F c 10) (o_F c 11) v c1) ∧ f_X7_addToItem_b24 N r = o_bv (f_X7_addPart N (nI i) r1) (fun s => some s) ∧ BR e bg c1 r1 T n1 kd1 lv1 dp1 w1 d nd k ∧ TG c1 n1 kd1 lv1 dp1 d nd i ∧ kd1 i = 1 ∧ n1 ≤ n + 1 ∧ smw n1 kd1 w1 = smw n kd w ∧ CF c c1 ∧ RF r r1 ∧ (∀ f, f ≠ 1 → o_F c1 f = o_F c f) ∧ (∀ f, f ≠ 17 → o_F r1 f = o_F r f) ∧ o_R c1 4 = o_R c 4 ∧ o_R c1 6 = o_R c 6 ∧ (o_R c1 7).getD (d - 1) 0 = nI i ∧ nd (d - 1) < i := by
  obtain ⟨hG, hP, hS, hR⟩ := id h
  have hnn := hP.2.1.1.2.1
  obtain ⟨t1, t2, t3, t4⟩ := top_5 (N := N) hS
  obtain ⟨u1, u2, u3, u4, x1, x2, x3, x4, x5, x6⟩ := top_7 (N := N) hS
  have d31 := hS.2.1
  have d1 := hS.1
  have hx := xis (N := N) h 0 (by decide)
  rw [if_pos hk] at hx
  by_cases hv : (o_R c 7).getD (d - 1) 0 = -1
  · -- a new item
    obtain ⟨c', r', a1, a2, a3, a4, a5, a6, a7, a8, a9⟩ := p_add0 (N := N) hN h (by omega) x1 x5 (Nat.le_refl _) (Or.inl hv) (q := 1) (by decide) (by decide) (by rw [hk]; exact Or.inl ⟨rfl, rfl⟩) (fun z => absurd z h1) (fun z => by omega) (o_F c 10) (o_F c 11) 0 (fun z => by omega)
    rw [if_pos hk] at a3
    have hW' := a3.2.1.2.1.1
    have haf : aft (ap n lv (lv (nd (d - 1)) + 1)) (n + 1) n = n + 1 := ap_aftn hP.2.1.1 x1 x5 (by omega)
    obtain ⟨c1, b1, b2, b3, b4, b5, b6, b7⟩ := p_item (v := nI n) a3 (Or.inr ⟨n, rfl, x1, by omega, ap_e, by rw [ap_e, ap_l x1], by rw [ap_e, ap_l x1], haf, by rw [ap_l x1]; exact hk⟩)
    have g7 : (o_R c1 7).getD (d - 1) 0 = nI n := by
      rw [b7, gd_set _ _ (by rw [a8 7 (by decide)]; have := hS.2.2.2.2.1; omega), if_pos rfl]
    refine ⟨c1, o_setA r' 17 (d - 1) (nI n), n + 1, _, _, _, _, n, fun q v => ?_, ?_, b2, ⟨by omega, haf, by omega, Or.inr g7, Or.inl ap_e, fun _ => by omega, by rw [ap_e, ap_e]; omega⟩, ap_e, by omega, ?_, a4.tr b3, a5.tr b4, fun f hf => by rw [b5]; exact a6 f hf, fun f hf => by rw [sA_F]; exact a7 f hf, by rw [b6 4 (by decide)]; exact a8 4 (by decide), by rw [b6 6 (by decide)]; exact a8 6 (by decide), g7, x1⟩
    · have t4' := (top_5 (N := N) b2.2.2.1).2.2.2
      unfold f_X0_addPart
      rw [t1, bi_s, do_e, t2, show (0 : Int32) = nI 0 from rfl, hx, bi_s, if_neg (by decide), do_e, t4, if_pos hv, show (1 : Int32) = nI 1 from rfl, show (nI 0 : Int32) = 0 from rfl, a1, bi_s, do_e, b1, do_e, t4', g7, b83_, b5, a6 10 (by decide), a6 11 (by decide)]
    · unfold f_X7_addToItem_b24
      have u1' : f_X7_top N (o_setA r' 17 (d - 1) (nI n)) = some (nI (d - 1), o_setA r' 17 (d - 1) (nI n)) := (top_7 (N := N) b2.2.2.1).1
      rw [u1, bi_s, ld_ (show d - 1 < 32 by omega) (by decide), u4, if_pos hv, u1, bi_s, u1, bi_s, ld_ (show d - 1 < 32 by omega) (by decide), u2, h26, h27, show (1 : Int32) = nI 1 from rfl, a2, bi_s, st_ (show d - 1 < 32 by omega) (by decide), u1', bi_s, ld_ (show d - 1 < 32 by omega) (by decide), sA_eq]
    · rw [smw_ap, if_neg (by decide), Nat.add_zero]
  · obtain ⟨i, i1, i2, i3, i4⟩ := tg_it hS h1 hv
    refine ⟨c, r, n, kd, lv, dp, w, i, fun q v => ?_, ?_, h, i2, i3, by omega, rfl, CF.rf c, RF.rf r, fun _ _ => rfl, fun _ _ => rfl, rfl, rfl, i1, i4⟩
    · unfold f_X0_addPart
      rw [t1, bi_s, do_e, t2, show (0 : Int32) = nI 0 from rfl, hx, bi_s, if_neg (by decide), do_e, t4, if_neg hv, do_e, i1, b83_]
    · unfold f_X7_addToItem_b24
      rw [u1, bi_s, ld_ (show d - 1 < 32 by omega) (by decide), u4, if_neg hv, u1, bi_s, ld_ (show d - 1 < 32 by omega) (by decide), u4, i1]
/-- in a group the group itself -/
theorem p_grp (h : BR e bg c r T n kd lv dp w d nd k) (hk : kd (nd (d - 1)) = 4) (q v : Int32) : f_X0_addPart N q v c = f_X5_add N (nI (nd (d - 1))) q (o_F c 10) (o_F c 11) v c := by
  obtain ⟨t1, t2, t3, t4⟩ := top_5 (N := N) h.2.2.1
  have hx := xis (N := N) h 0 (by decide)
  rw [if_neg (by omega)] at hx
  unfold f_X0_addPart
  rw [t1, bi_s, do_e, t2, show (0 : Int32) = nI 0 from rfl, hx, bi_s, if_pos (by rfl), b83_]
theorem tg_ok (h : TG c n kd lv dp d nd i) {q : Nat} (hq : q = 2 ∨ q = 3 ∨ q = 4) : kOK (kd i) q := by
  rcases h.2.2.2.2.1 with z | z
  · exact Or.inr (Or.inl ⟨z, by omega⟩)
  · exact Or.inr (Or.inr ⟨z, by omega⟩)
theorem tg_dp (h : TG c n kd lv dp d nd i) : dp i + (if kd i = 0 then 1 else 0) = dp i := by
  rw [if_neg (by have := h.2.2.2.2.1; omega), Nat.add_zero]
/-- a word -/
theorem p_word {a z n0 : Nat} {f10 f11 : Int32} (hN : 2000 ≤ N) (h : BR e bg c r T n kd lv dp w d nd k) (hn : n ≤ 1201) (hg : TG c n kd lv dp d nd i) (hT : o_R c 0 = T) (hTl : T.length ≤ 600) (haz : a < z) (hz : z ≤ T.length) (h4 : (o_R c 4).length ≤ 9 * a) (hsm : smw n kd w ≤ a) (h9 : o_F c 9 = nI a) (h2 : o_F c 2 = nI z) (h24 : o_F r 24 = nI a) (h25 : o_F r 25 = nI z) (h23 : o_F r 23 = 2) (h26 : o_F r 26 = f10) (h27 : o_F r 27 = f11) (hn0 : n + 1 ≤ n0) :
    ∃ c' r', (o_bi (f_X5_add N (nI i) (2 : Int32) f10 f11 (0 : Int32) c) fun x3 s1 => o_bv (f_X5_spell N x3 (o_F s1 9) (o_F s1 2) s1) fun s4 => some s4) = some c' ∧ f_X7_addPart N (nI i) r = some r' ∧ BX e bg T z n0 k c' r' ∧ CF c c' ∧ RF r r' ∧ (∀ f, f ≠ 1 → o_F c' f = o_F c f) ∧ (∀ f, f ≠ 17 → o_F r' f = o_F r f) := by
  obtain ⟨g1, g2, g3, g4, g5, g6, g7⟩ := id hg
  obtain ⟨c1, c', r', a1, a2, a3, ⟨r1, a4, a5, a6⟩, a7, a8, a9, a10, a11, a12, a13⟩ := p_word0 (N := N) hN h hn g1 g2 g3 g4 (tg_ok hg (Or.inl rfl)) g6 f10 f11 hT hTl haz hz h4
  refine ⟨c', r', ?_, ?_, ⟨n + 1, _, _, _, _, d, nd, a7, by rw [Nat.add_sub_cancel, ap_e]; decide, hn0, a13, ?_⟩, a8, a9, a10, a11⟩
  · rw [show (2 : Int32) = nI 2 from rfl, a1, bi_s, a3 9 (by decide), a3 2 (by decide), h9, h2, a2, bv_s]
  · unfold f_X7_addPart
    rw [h23, if_neg (by decide), if_pos rfl, h24, h25, h26, h27, ni_sub (by omega), show (2 : Int32) = nI 2 from rfl, a4, bi_s, a5 24 (by decide), h24, st_ (show n < 1500 by omega) (by decide), a6]
  · rw [smw_ap, if_pos rfl, List.length_take, List.length_drop]; omega
/-- a number -/
theorem p_num {a z n0 v : Nat} {f10 f11 : Int32} (hN : 2000 ≤ N) (h : BR e bg c r T n kd lv dp w d nd k) (hn : n ≤ 1201) (hg : TG c n kd lv dp d nd i) (hv : v < 1000000000) (haz : a < z) (h4 : (o_R c 4).length ≤ 9 * a) (hsm : smw n kd w ≤ a) (h26 : o_F r 26 = f10) (h27 : o_F r 27 = f11) (hn0 : n + 1 ≤ n0) :
    ∃ c' r', f_X5_add N (nI i) (3 : Int32) f10 f11 (nI v) c = some (nI n, c') ∧ f_X7_add N (3 : Int32) (nI i) (o_F r 26) (o_F r 27) (nI v) r = some (nI n, r') ∧ BX e bg T z n0 k c' r' ∧ CF c c' ∧ RF r r' ∧ (∀ f, f ≠ 1 → o_F c' f = o_F c f) ∧ (∀ f, f ≠ 17 → o_F r' f = o_F r f) := by
  obtain ⟨g1, g2, g3, g4, g5, g6, g7⟩ := id hg
  obtain ⟨c', r', a1, a2, a3, a4, a5, a6, a7, a8, a9⟩ := p_add0 (N := N) hN h hn g1 g2 g3 g4 (q := 3) (by decide) (by decide) (tg_ok hg (by omega)) g6 (fun z => by omega) f10 f11 (nI v) (fun _ => ⟨v, hv, rfl⟩)
  refine ⟨c', r', a1, by rw [h26, h27]; exact a2, ⟨n + 1, _, _, _, _, d, nd, a3, by rw [Nat.add_sub_cancel, ap_e]; decide, hn0, by rw [a8 4 (by decide)]; omega, ?_⟩, a4, a5, a6, a7⟩
  rw [smw_ap, if_neg (by decide)]; omega
/-- a block or group, opened -/
theorem p_open {q a z n0 : Nat} {f10 f11 v cl : Int32} (hN : 2000 ≤ N) (h : BR e bg c r T n kd lv dp w d nd k) (hn : n ≤ 1201) (hg : TG c n kd lv dp d nd i) (hq : q = 4 ∨ (q = 0 ∧ kd i = 1)) (hd : d ≤ 30) (haz : a < z) (h4 : (o_R c 4).length ≤ 9 * a) (hsm : smw n kd w ≤ a) (h26 : o_F r 26 = f10) (h27 : o_F r 27 = f11) (hn0 : n + 1 ≤ n0) :
    ∃ c1 r1 c' r', f_X5_add N (nI i) (nI q) f10 f11 v c = some (nI n, c1) ∧ f_X7_add N (nI q) (nI i) (o_F r 26) (o_F r 27) v r = some (nI n, r1) ∧ (∀ f, f ≠ 1 → o_F c1 f = o_F c f) ∧ (∀ f, f ≠ 17 → o_F r1 f = o_F r f) ∧ f_X0_enter N (nI n) cl c1 = some c' ∧ f_X7_push N (nI n) cl r1 = some r' ∧
      (∃ kd' lv' dp' w', BR e bg c' r' T (n + 1) kd' lv' dp' w' (d + 1) (ap d nd n) k ∧ kd' n = q ∧ smw (n + 1) kd' w' = smw n kd w) ∧ CF c c' ∧ RF r r' ∧ (∀ f, f ≠ 1 → o_F c' f = o_F c f) ∧ (∀ f, f ≠ 17 → f ≠ 21 → o_F r' f = o_F r f) ∧ o_R c' 4 = o_R c 4 ∧ o_R c' 6 = o_R c 6 ++ [cl] ∧ o_R c' 7 = o_R c 7 ++ [-1] := by
  obtain ⟨g1, g2, g3, g4, g5, g6, g7⟩ := id hg
  have hnn := h.2.1.2.1.1.2.1
  have hok : kOK (kd i) q := by
    rcases hq with z | ⟨z1, z2⟩
    · exact tg_ok hg (by omega)
    · exact Or.inr (Or.inl ⟨z2, by omega⟩)
  have edp := tg_dp hg
  have d1 := h.2.2.1.1
  obtain ⟨c1, r1, a1, a2, a3, a4, a5, a6, a7, a8, a9⟩ := p_add0 (N := N) hN h hn g1 g2 g3 g4 (q := q) (by omega) (by omega) hok g6 (fun z => by rw [edp]; omega) f10 f11 v (fun z => by omega)
  rw [edp] at a3
  obtain ⟨c', r', b1, b2, b3, b4, b5, b6, b7, b8, b9, b10⟩ := p_enter (N := N) (x := n) (cl := cl) a3 hd (by omega) (by omega) (fun j hj hj2 => by
    rw [a8 7 (by decide)] at hj
    rcases g4 with z | z
    · rw [z] at hj; exact absurd hj.symm (nI_nm1 hj2)
    · rw [z] at hj; have := (nI_eq (by omega) hj2).mp hj; omega) (by rw [ap_e]; omega) (by rw [ap_e, ap_e]; omega) (ap_aftn h.2.1.2.1.1 g1 g2 (by omega))
  refine ⟨c1, r1, c', r', a1, by rw [h26, h27]; exact a2, a6, a7, b1, b2, ⟨_, _, _, _, b3, ap_e, ?_⟩, a4.tr b4, a5.tr b5, fun f hf => by rw [b6]; exact a6 f hf, fun f f1 f2 => by rw [b7 f f2]; exact a7 f f1, by rw [b8]; exact a8 4 (by decide), by rw [b9, a8 6 (by decide)], by rw [b10, a8 7 (by decide)]⟩
  rw [smw_ap, if_neg (by omega), Nat.add_zero]
end
