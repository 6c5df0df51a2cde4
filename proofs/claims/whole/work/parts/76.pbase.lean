/-! PARSE: a node more at the tree's end -/
def ap {α : Type} (n : Nat) (f : Nat → α) (v : α) : Nat → α := il n 1 f (fun _ => v)
theorem ap_l {α : Type} {n k : Nat} {f : Nat → α} {v : α} (h : k < n) : ap n f v k = f k := il_1 h
theorem ap_e {α : Type} {n : Nat} {f : Nat → α} {v : α} : ap n f v n = v := il_2 (Nat.le_refl n) (by omega)
theorem ap_i {α : Type} {n k : Nat} {f : Nat → α} {v : α} (h : k < n + 1) : ap n f v k = if k = n then v else f k := by
  by_cases e : k = n
  · rw [if_pos e, e, ap_e]
  · rw [if_neg e, ap_l (by omega)]
def TW (n : Nat) (kd lv dp : Nat → Nat) : Prop := WL n lv ∧ kd 0 = 0 ∧ dp 0 = 0 ∧ (∀ i, 0 < i → i < n → kOK (kd (p_par lv (lv i) i)) (kd i) ∧ dp i = dp (p_par lv (lv i) i) + (if kd (p_par lv (lv i) i) = 0 then 1 else 0)) ∧ (∀ i, i + 1 < n → kd i = 1 → lv (i + 1) = lv i + 1) ∧ (∀ i, i < n → (kd i = 0 ∨ kd i = 4) → lv i ≤ dp i + 30)
theorem TW.ti {n : Nat} {kd lv dp : Nat → Nat} (h : TW n kd lv dp) (h1 : kd (n - 1) ≠ 1) : TI n kd lv dp := by
  obtain ⟨a, b, c, d, e, f⟩ := h
  refine ⟨a, b, c, d, fun i hi hk => ?_, f⟩
  have : i + 1 < n := by
    rcases Nat.eq_or_lt_of_le (show i + 1 ≤ n by omega) with z | z
    · exact absurd (by rw [show n - 1 = i by omega]; exact hk) h1
    · exact z
  exact ⟨this, e i this hk⟩
section
variable {n b : Nat} {kd lv dp : Nat → Nat}
theorem ap_in (hW : WL n lv) (hb : b < n) (ha : aft lv n b = n) (hn : n + 1 ≤ 1300) : IN n lv b n 1 (fun _ => lv b + 1) :=
  ⟨hW, hb, hb, by rw [ha]; exact Nat.le_refl n, fun z => by rw [ha] at z; omega, by omega, hn, rfl, fun x x0 x1 => by omega, fun x x1 => by omega⟩
theorem ap_wl (hW : WL n lv) (hb : b < n) (ha : aft lv n b = n) (hn : n + 1 ≤ 1300) : WL (n + 1) (ap n lv (lv b + 1)) := in_wl (ap_in hW hb ha hn)
theorem ap_aft (hW : WL n lv) (hb : b < n) (ha : aft lv n b = n) (hn : n + 1 ≤ 1300) {x : Nat} (hx : x ≤ b) (hxa : aft lv n x = n) : aft (ap n lv (lv b + 1)) (n + 1) x = n + 1 := by
  have hl : lv x ≤ lv b := by
    rcases Nat.eq_or_lt_of_le hx with z | z
    · rw [z]; exact Nat.le_refl _
    · exact Nat.le_of_lt ((aft_spec (lv := lv) (show x < n by omega)).2.2.1 b z (by omega))
  have := in_aft (ap_in hW hb ha hn) (show x < n + 1 by omega)
  rw [if_pos (by omega), hxa, if_neg (by omega), if_pos rfl, if_neg (by omega)] at this
  exact this
theorem ap_aftn (hW : WL n lv) (hb : b < n) (ha : aft lv n b = n) (hn : n + 1 ≤ 1300) : aft (ap n lv (lv b + 1)) (n + 1) n = n + 1 := by
  have := in_aft (ap_in hW hb ha hn) (show n < n + 1 by omega)
  rw [if_neg (by omega), if_pos rfl] at this
  exact this
theorem tw_add (h : TW n kd lv dp) (hb : b < n) (ha : aft lv n b = n) (hn : n + 1 ≤ 1300) {k : Nat} (hk : kOK (kd b) k) (hl : kd (n - 1) = 1 → b = n - 1) (hd : (k = 0 ∨ k = 4) → lv b + 1 ≤ dp b + (if kd b = 0 then 1 else 0) + 30) : TW (n + 1) (ap n kd k) (ap n lv (lv b + 1)) (ap n dp (dp b + (if kd b = 0 then 1 else 0))) := by
  obtain ⟨hW, t1, t2, t3, t4, t5⟩ := h
  have par := @in_par _ _ _ _ _ _ (ap_in hW hb ha hn)
  refine ⟨ap_wl hW hb ha hn, by rw [ap_l (by omega)]; exact t1, by rw [ap_l (by omega)]; exact t2, fun i i0 hi => ?_, fun i hi hk1 => ?_, fun i hi hk4 => ?_⟩
  · have pp := par i0 hi
    have pp' : p_par (ap n lv (lv b + 1)) (ap n lv (lv b + 1) i) i = if i < n then p_par lv (lv i) i else b := by
      by_cases q : i < n
      · rw [if_pos q] at pp ⊢; exact pp
      · rw [if_neg q, if_pos (by omega)] at pp; rw [if_neg q]; exact pp
    rw [pp']
    by_cases q : i < n
    · obtain ⟨p1, -, -⟩ := hW.par i0 q
      rw [if_pos q, ap_l q, ap_l (show p_par lv (lv i) i < n by omega), ap_l q, ap_l (show p_par lv (lv i) i < n by omega)]
      exact t3 i i0 q
    · have e : i = n := by omega
      subst e
      rw [if_neg q, ap_e, ap_l hb, ap_e, ap_l hb]
      exact ⟨hk, rfl⟩
  · by_cases q : i + 1 < n
    · rw [ap_l (show i < n by omega)] at hk1
      rw [ap_l q, ap_l (show i < n by omega)]; exact t4 i q hk1
    · have e : i + 1 = n := by omega
      rw [ap_l (show i < n by omega)] at hk1
      have e2 := hl (by rw [show n - 1 = i by omega]; exact hk1)
      rw [e, ap_e, ap_l (show i < n by omega), show i = b by omega]
  · by_cases q : i < n
    · rw [ap_l q] at hk4 ⊢; rw [ap_l q]; exact t5 i q hk4
    · have e : i = n := by omega
      subst e
      rw [ap_e] at hk4 ⊢; rw [ap_e]; exact hd hk4
end
theorem lk_ids {n : Nat} {lv ids jds : Nat → Nat} {s : o_S} (h : LK n lv ids s) (hW : WL n lv) (e : ∀ i, i < n → jds i = ids i) : LK n lv jds s := by
  obtain ⟨a, b, c, d, f⟩ := h
  refine ⟨fun i hi => by rw [e i hi]; exact a i hi, fun i j hi hj h => b i j hi hj (by rw [← e i hi, ← e j hj]; exact h), fun i hi => ?_, fun i hi => ?_, fun i hi => ?_⟩
  · rw [e i hi, c i hi]
    by_cases q : i = 0
    · rw [if_pos q, if_pos q]
    · obtain ⟨p1, -, -⟩ := hW.par (show 0 < i by omega) hi
      rw [if_neg q, if_neg q, e _ (by omega)]
  · rw [e i hi, d i hi]
    by_cases q : i + 1 < n ∧ lv i < lv (i + 1)
    · rw [if_pos q, if_pos q, e _ q.1]
    · rw [if_neg q, if_neg q]
  · rw [e i hi, f i hi]
    by_cases q : aft lv n i < n ∧ lv (aft lv n i) = lv i
    · rw [if_pos q, if_pos q, e _ q.1]
    · rw [if_neg q, if_neg q]
theorem gd_l {l m : List Int32} {i : Nat} (h : i < l.length) : (l ++ m).getD i 0 = l.getD i 0 := by
  rw [List.getD_eq_getElem?_getD, List.getD_eq_getElem?_getD, List.getElem?_append_left h]
theorem gd_r {l m : List Int32} {i : Nat} (h : l.length ≤ i) : (l ++ m).getD i 0 = m.getD (i - l.length) 0 := by
  rw [List.getD_eq_getElem?_getD, List.getD_eq_getElem?_getD, List.getElem?_append_right h]
/-- the reference's own steps -/
def RQ (r t : o_S) : Prop := o_R t = o_R r ∧ o_O t = o_O r ∧ ∀ e, GS e r → GS e t
theorem RQ.rf (r : o_S) : RQ r r := ⟨rfl, rfl, fun _ h => h⟩
theorem RQ.tr {r s t : o_S} (h1 : RQ r s) (h2 : RQ s t) : RQ r t := ⟨h2.1.trans h1.1, h2.2.1.trans h1.2.1, fun e h => h2.2.2 e (h1.2.2 e h)⟩
theorem RQ.F {r s : o_S} (h : RQ r s) (k : Nat) (v : Int32) : RQ r (o_setF s k v) := h.tr ⟨rfl, rfl, fun _ h => h⟩
theorem RQ.A {r s : o_S} (h : RQ r s) (a i : Nat) (v : Int32) : RQ r (o_setA s a i v) := h.tr ⟨rfl, rfl, fun _ h => h⟩
section
variable {N n b : Nat} {r : o_S} {lv : Nat → Nat}
theorem radd (hN : 2000 ≤ N) (hF : o_F r 17 = nI n) (hL : LK n lv (fun i => i) r) (hW : WL n lv) (hn : n ≤ 1201) (hb : b < n) (ha : aft lv n b = n) (k l cl v : Int32) : ∃ t, f_X7_add N k (nI b) l cl v r = some (nI n, t) ∧ RQ r t ∧ (∀ f, f ≠ 17 → o_F t f = o_F r f) ∧ o_F t 17 = nI (n + 1) ∧ LK (n + 1) (ap n lv (lv b + 1)) (fun i => i) t ∧
    (∀ i, o_A t 1 i = if i = n then k else o_A r 1 i) ∧ (∀ i, o_A t 5 i = if i = n then l else o_A r 5 i) ∧ (∀ i, o_A t 6 i = if i = n then cl else o_A r 6 i) ∧ (∀ i, o_A t 7 i = if i = n then v else o_A r 7 i) ∧ (∀ a, 7 < a → o_A t a = o_A r a) ∧ o_A t 0 = o_A r 0 := by
  have e17 : ∀ (x : o_S), x = o_setF r 17 (nI (n + 1)) → RQ r x := fun x h => by rw [h]; exact (RQ.rf r).F _ _
  have hu : ∃ u, u = o_setA (o_setA (o_setA (o_setA (o_setA (o_setA (o_setA (o_setF r 17 (nI (n + 1))) 1 n k) 5 n l) 6 n cl) 7 n v) 3 n (-1)) 2 n (-1)) 4 n (-1) := ⟨_, rfl⟩
  obtain ⟨u, hu⟩ := hu
  have q1 : RQ r u := by rw [hu]; exact ((((((((RQ.rf r).F _ _).A _ _ _).A _ _ _).A _ _ _).A _ _ _).A _ _ _).A _ _ _).A _ _ _
  have hLu : LK n lv (fun i => i) u := by
    refine hL.off (fun i hi => ?_) (fun i hi => ?_) (fun i hi => ?_)
    · show o_A u 2 i = o_A r 2 i
      rw [hu, sA_ne (by decide), sA_nj (by omega), sA_ne (by decide), sA_ne (by decide), sA_ne (by decide), sA_ne (by decide), sA_ne (by decide), sF_A]
    · show o_A u 3 i = o_A r 3 i
      rw [hu, sA_ne (by decide), sA_ne (by decide), sA_nj (by omega), sA_ne (by decide), sA_ne (by decide), sA_ne (by decide), sA_ne (by decide), sF_A]
    · show o_A u 4 i = o_A r 4 i
      rw [hu, sA_nj (by omega), sA_ne (by decide), sA_ne (by decide), sA_ne (by decide), sA_ne (by decide), sA_ne (by decide), sA_ne (by decide), sF_A]
  have u3 : o_A u 3 n = -1 := by rw [hu, sA_ne (by decide), sA_ne (by decide), sA_eq]
  have hin := ap_in hW hb ha (show n + 1 ≤ 1300 by omega)
  obtain ⟨t, t1, t2, t3, t4, t5, t6, t7⟩ := ins_lk (N := N) (jd := fun _ => n) hLu hin hN (fun x hx => by show n < 1500; omega) (fun x y hx hy _ => by omega) (fun i x hi hx h => by have h' : i = n := h; omega) (fun x x0 hx => by omega) (fun x hx => by show o_A u 3 n = _; rw [u3, if_neg (by omega)]) (fun x x0 hx => by omega)
  have hc := lk_count (N := N) hLu hW hN hb
  rw [ha] at hc
  have hLt : LK (n + 1) (ap n lv (lv b + 1)) (fun i => i) t := by
    refine lk_ids t2 (ap_wl hW hb ha (by omega)) (fun i hi => ?_)
    by_cases q : i < n
    · rw [il_1 q]
    · have e : i = n := by omega
      subst e; rw [il_2 (Nat.le_refl _) (by omega)]
  refine ⟨t, ?_, q1.tr ⟨t4, t5, t6⟩, fun f hf => ?_, ?_, hLt, fun i => ?_, fun i => ?_, fun i => ?_, fun i => ?_, fun a ha => ?_, ?_⟩
  · unfold f_X7_add
    rw [do_e, hF, ni_p1, st_ (show n < 1500 by omega) (by decide), st_ (show n < 1500 by omega) (by decide), st_ (show n < 1500 by omega) (by decide), st_ (show n < 1500 by omega) (by decide), st_ (show n < 1500 by omega) (by decide), st_ (show n < 1500 by omega) (by decide), st_ (show n < 1500 by omega) (by decide), if_neg (nI_nm1 (by omega)), ← hu, hc, bi_s, t1, bv_s]
  · rw [t3, hu]; show o_F (o_setF r 17 (nI (n + 1))) f = _; rw [sF_F, if_neg hf]
  · rw [t3, hu]; show o_F (o_setF r 17 (nI (n + 1))) 17 = _; rw [sF_F, if_pos rfl]
  · rw [t7 1 (by decide) (by decide) (by decide), hu, sA_ne (by decide), sA_ne (by decide), sA_ne (by decide), sA_ne (by decide), sA_ne (by decide), sA_ne (by decide), sA_A, if_pos rfl, sF_A]
  · rw [t7 5 (by decide) (by decide) (by decide), hu, sA_ne (by decide), sA_ne (by decide), sA_ne (by decide), sA_ne (by decide), sA_ne (by decide), sA_A, if_pos rfl, sA_ne (by decide), sF_A]
  · rw [t7 6 (by decide) (by decide) (by decide), hu, sA_ne (by decide), sA_ne (by decide), sA_ne (by decide), sA_ne (by decide), sA_A, if_pos rfl, sA_ne (by decide), sA_ne (by decide), sF_A]
  · rw [t7 7 (by decide) (by decide) (by decide), hu, sA_ne (by decide), sA_ne (by decide), sA_ne (by decide), sA_A, if_pos rfl, sA_ne (by decide), sA_ne (by decide), sA_ne (by decide), sF_A]
  · rw [t7 a (by omega) (by omega) (by omega), hu, sA_ne (by omega), sA_ne (by omega), sA_ne (by omega), sA_ne (by omega), sA_ne (by omega), sA_ne (by omega), sA_ne (by omega), sF_A]
  · rw [t7 0 (by decide) (by decide) (by decide), hu, sA_ne (by decide), sA_ne (by decide), sA_ne (by decide), sA_ne (by decide), sA_ne (by decide), sA_ne (by decide), sA_ne (by decide), sF_A]
end
section
variable {N n b e : Nat} {c : o_S} {kd lv dp : Nat → Nat} {w : Nat → List Int32}
theorem gt_app {s : o_S} {X : List Int32} (hl : (o_R c 3).length = 7 * n) (hn : n ≤ 1300) (hb : b < n) (h : o_R s 3 = o_R c 3 ++ X) (hX : X.length ≤ 7) (f : Nat) (hf : f < 7) : o_at s 3 (nI b * (7 : Int32) + nI f) = tg c b f := by
  have hl2 : (o_R s 3).length = 7 * n + X.length := by rw [h, List.length_append, hl]
  rw [ni7, at_in (by omega) (by omega), h, gd_l (by omega)]; rfl
theorem xadd (hG : GS e c) (h : CT c n kd lv dp w) (hb : b < n) (hn : n ≤ 1201) (k l cl v : Int32) : ∃ t, f_X5_add N (nI b) k l cl v c = some (nI n, t) ∧ GS e t ∧ o_A t = o_A c ∧ o_O t = o_O c ∧ (∀ q, q ≠ 3 → o_R t q = o_R c q) ∧ o_R t 3 = o_R c 3 ++ [k, nI (lv b + 1), nI (dp b + (if kd b = 0 then 1 else 0)), l, cl, v, nI (o_R c 4).length] ∧ (∀ f, f ≠ 1 → o_F t f = o_F c f) ∧ o_F t 1 = nI (n + 1) := by
  obtain ⟨c1, c2, c3, c4, c5, c6⟩ := id h
  obtain ⟨d1, d2, d3, d4, d5, d6⟩ := c5 b hb
  have m3 : o_M 3 = 16384 := rfl
  obtain ⟨s1, a1, g1, r1, f1, x1, y1⟩ := hG.push (r := 3) (by decide) k (by omega)
  have R1 : o_R s1 3 = o_R c 3 ++ [k] := by rw [r1, if_pos rfl]
  obtain ⟨s2, a2, g2, r2, f2, x2, y2⟩ := g1.push (r := 3) (by decide) (nI (lv b + 1)) (by rw [R1, List.length_append]; show _ + 1 < _; omega)
  have R2 : o_R s2 3 = o_R c 3 ++ [k, nI (lv b + 1)] := by rw [r2, if_pos rfl, R1, List.append_assoc]; rfl
  obtain ⟨s3, a3, g3, r3, f3, x3, y3⟩ := g2.push (r := 3) (by decide) (nI (dp b + (if kd b = 0 then 1 else 0))) (by rw [R2, List.length_append]; show _ + 2 < _; omega)
  have R3 : o_R s3 3 = o_R c 3 ++ [k, nI (lv b + 1), nI (dp b + (if kd b = 0 then 1 else 0))] := by rw [r3, if_pos rfl, R2, List.append_assoc]; rfl
  obtain ⟨s4, a4, g4, r4, f4, x4, y4⟩ := g3.push (r := 3) (by decide) l (by rw [R3, List.length_append]; show _ + 3 < _; omega)
  have R4 : o_R s4 3 = o_R c 3 ++ [k, nI (lv b + 1), nI (dp b + (if kd b = 0 then 1 else 0)), l] := by rw [r4, if_pos rfl, R3, List.append_assoc]; rfl
  obtain ⟨s5, a5, g5, r5, f5, x5, y5⟩ := g4.push (r := 3) (by decide) cl (by rw [R4, List.length_append]; show _ + 4 < _; omega)
  have R5 : o_R s5 3 = o_R c 3 ++ [k, nI (lv b + 1), nI (dp b + (if kd b = 0 then 1 else 0)), l, cl] := by rw [r5, if_pos rfl, R4, List.append_assoc]; rfl
  obtain ⟨s6, a6, g6, r6, f6, x6, y6⟩ := g5.push (r := 3) (by decide) v (by rw [R5, List.length_append]; show _ + 5 < _; omega)
  have R6 : o_R s6 3 = o_R c 3 ++ [k, nI (lv b + 1), nI (dp b + (if kd b = 0 then 1 else 0)), l, cl, v] := by rw [r6, if_pos rfl, R5, List.append_assoc]; rfl
  obtain ⟨s7, a7, g7, r7, f7, x7, y7⟩ := g6.push (r := 3) (by decide) (nI (o_R c 4).length) (by rw [R6, List.length_append]; show _ + 6 < _; omega)
  have R7 : o_R s7 3 = o_R c 3 ++ [k, nI (lv b + 1), nI (dp b + (if kd b = 0 then 1 else 0)), l, cl, v, nI (o_R c 4).length] := by rw [r7, if_pos rfl, R6, List.append_assoc]; rfl
  have L4 : o_R s6 4 = o_R c 4 := by rw [r6, if_neg (by decide), r5, if_neg (by decide), r4, if_neg (by decide), r3, if_neg (by decide), r2, if_neg (by decide), r1, if_neg (by decide)]
  have F7 : o_F s7 = o_F c := by rw [f7, f6, f5, f4, f3, f2, f1]
  have e1 : f_X5_get N (nI b) (1 : Int32) s1 = some (nI (lv b), s1) := by
    unfold f_X5_get; rw [do_e, show (1 : Int32) = nI 1 from rfl, gt_app c1 c3 hb R1 (by show 1 ≤ 7; decide) 1 (by decide), d3]
  have e2 : f_X5_get N (nI b) (2 : Int32) s2 = some (nI (dp b), s2) := by
    unfold f_X5_get; rw [do_e, show (2 : Int32) = nI 2 from rfl, gt_app c1 c3 hb R2 (by show 2 ≤ 7; decide) 2 (by decide), d5]
  have e3 : f_X5_is N (nI b) (0 : Int32) s2 = some (if kd b = 0 then 1 else 0, s2) := by
    unfold f_X5_is; rw [do_e, show (0 : Int32) = nI 0 from rfl, gt_app c1 c3 hb R2 (by show 2 ≤ 7; decide) 0 (by decide), d1, if_ni_eq (by omega) (by decide)]
    by_cases q : kd b = 0
    · rw [if_pos q, if_pos q]
    · rw [if_neg q, if_neg q]
  have b78 : f_X5_add_b78 N l cl v (nI (dp b + (if kd b = 0 then 1 else 0))) s2 = some (nI n, o_setF s7 1 (nI (n + 1))) := by
    unfold f_X5_add_b78
    rw [a3, bv_s, a4, bv_s, a5, bv_s, a6, bv_s, L4, a7, bv_s, do_e, F7, c2, ni_p1, sF_F, if_pos rfl, ni_s1 (by omega), Nat.add_sub_cancel]
  refine ⟨o_setF s7 1 (nI (n + 1)), ?_, g7.F _ _, ?_, ?_, fun q hq => ?_, R7, fun f hf => ?_, ?_⟩
  · unfold f_X5_add f_X5_add_b10 f_X5_add_b41
    rw [if_neg (nI_nm1 (by omega)), a1, bv_s, if_pos rfl, e1, bi_s, ni_p1, a2, bv_s, if_pos rfl, e2, bi_s, e3, bi_s]
    by_cases q : kd b = 0
    · rw [if_pos q] at b78 ⊢
      rw [if_neg (by decide), ni_p1]; exact b78
    · rw [if_neg q] at b78 ⊢
      rw [if_pos rfl, show nI (dp b) + (0 : Int32) = nI (dp b + 0) from nI_add _ 0]; exact b78
  · rw [sF_A, x7, x6, x5, x4, x3, x2, x1]
  · rw [sF_O, y7, y6, y5, y4, y3, y2, y1]
  · rw [sF_R, r7, if_neg hq, r6, if_neg hq, r5, if_neg hq, r4, if_neg hq, r3, if_neg hq, r2, if_neg hq, r1, if_neg hq]
  · rw [sF_F, if_neg hf, F7]
  · rw [sF_F, if_pos rfl]
end
