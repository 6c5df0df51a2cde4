/-! PARSE: the two trees, the two stacks -/
def PT (c r : o_S) (T : List Int32) (n : Nat) (kd lv dp : Nat → Nat) (w : Nat → List Int32) : Prop :=
  CT c n kd lv dp w ∧ TW n kd lv dp ∧ o_F r 17 = nI n ∧ LK n lv (fun i => i) r ∧ (∀ i, i < n → o_A r 1 i = nI (kd i) ∧ o_A r 5 i = tg c i 3 ∧ o_A r 6 i = tg c i 4 ∧ o_A r 7 i = tg c i 5) ∧
  (∀ i, i < n → kd i = 2 → ∃ a, o_A r 8 i = nI a ∧ a + (w i).length ≤ T.length ∧ ∀ j, j < (w i).length → T.getD (a + j) 0 = (w i).getD j 0) ∧ CL c n kd w ∧ (∀ i, i < n → kd i = 3 → ∃ v, v < 1000000000 ∧ tg c i 5 = nI v)
section
variable {T : List Int32} {n : Nat} {kd lv dp : Nat → Nat} {w : Nat → List Int32}
theorem PT.cg {c r c' r' : o_S} (h : PT c r T n kd lv dp w) (h1 : o_F c' 1 = o_F c 1) (h3 : o_R c' 3 = o_R c 3) (h4 : o_R c' 4 = o_R c 4) (h17 : o_F r' 17 = o_F r 17) (hA : ∀ a, 0 < a → a < 9 → o_A r' a = o_A r a) : PT c' r' T n kd lv dp w := by
  obtain ⟨⟨c1, c2, c3, c4, c5, c6⟩, p2, p3, p4, p5, p6, ⟨rm, l1, l2⟩, p8⟩ := h
  have ht : ∀ i f, tg c' i f = tg c i f := fun i f => by unfold tg; rw [h3]
  refine ⟨⟨by rw [h3]; exact c1, by rw [h1]; exact c2, c3, by rw [h4]; exact c4, fun i hi => by rw [ht, ht, ht]; exact c5 i hi, fun i hi hk => by rw [ht, ht, h4]; exact c6 i hi hk⟩, p2, by rw [h17]; exact p3, p4.congr (hA 2 (by decide) (by decide)) (hA 3 (by decide) (by decide)) (hA 4 (by decide) (by decide)), fun i hi => by rw [hA 1 (by decide) (by decide), hA 5 (by decide) (by decide), hA 6 (by decide) (by decide), hA 7 (by decide) (by decide), ht, ht, ht]; exact p5 i hi, fun i hi hk => by rw [hA 8 (by decide) (by decide)]; exact p6 i hi hk, ⟨rm, fun i hi hk => by rw [ht, h4]; exact l1 i hi hk, fun i j hi hj h1 h2 h3 => by rw [ht, ht]; exact l2 i j hi hj h1 h2 h3⟩, fun i hi hk => by rw [ht]; exact p8 i hi hk⟩
theorem pt_add {b k : Nat} {c r c' r' : o_S} (h : PT c r T n kd lv dp w) (hn : n ≤ 1201) (hb : b < n) (ha : aft lv n b = n) (hk4 : k ≤ 4) (hk : kOK (kd b) k) (hl : kd (n - 1) = 1 → b = n - 1) (hd : (k = 0 ∨ k = 4) → lv b + 1 ≤ dp b + (if kd b = 0 then 1 else 0) + 30) {wl X : List Int32} {l cl v sp : Int32}
    (h3 : (o_R c' 3).length = 7 * (n + 1)) (ht : ∀ i f, i < n → f < 7 → tg c' i f = tg c i f) (t0 : tg c' n 0 = nI k) (t1 : tg c' n 1 = nI (lv b + 1)) (t2 : tg c' n 2 = nI (dp b + (if kd b = 0 then 1 else 0))) (t3 : tg c' n 3 = l) (t4 : tg c' n 4 = cl) (t5 : tg c' n 5 = v) (t6 : tg c' n 6 = sp) (h1 : o_F c' 1 = nI (n + 1))
    (h4 : o_R c' 4 = o_R c 4 ++ X) (h4l : (o_R c' 4).length ≤ 16000) (hw : k = 2 → v = nI wl.length ∧ sp = nI (o_R c 4).length ∧ 1 ≤ wl.length ∧ 8 ≤ X.length ∧ wl.length ≤ X.length ∧ ∀ j, j < wl.length → X.getD j 0 = wl.getD j 0) (h5 : k = 3 → ∃ u, u < 1000000000 ∧ v = nI u)
    (r17 : o_F r' 17 = nI (n + 1)) (rL : LK (n + 1) (ap n lv (lv b + 1)) (fun i => i) r') (r1 : ∀ i, o_A r' 1 i = if i = n then nI k else o_A r 1 i) (r5 : ∀ i, o_A r' 5 i = if i = n then l else o_A r 5 i) (r6 : ∀ i, o_A r' 6 i = if i = n then cl else o_A r 6 i) (r7 : ∀ i, o_A r' 7 i = if i = n then v else o_A r 7 i) (r8 : ∀ i, i < n → o_A r' 8 i = o_A r 8 i) (r8n : k = 2 → ∃ a, o_A r' 8 n = nI a ∧ a + wl.length ≤ T.length ∧ ∀ j, j < wl.length → T.getD (a + j) 0 = wl.getD j 0) :
    PT c' r' T (n + 1) (ap n kd k) (ap n lv (lv b + 1)) (ap n dp (dp b + (if kd b = 0 then 1 else 0))) (ap n w wl) := by
  obtain ⟨⟨c1, c2, c3, c4, c5, c6⟩, p2, p3, p4, p5, p6, ⟨rm, l1, l2⟩, p8⟩ := h
  have hlb := (c5 b hb).2.2.2.1
  have hlv := p2.1.le b hb
  have hdb := (c5 b hb).2.2.2.2.2
  have hdp : dp b ≤ b := by
    have : ∀ i, i < n → dp i ≤ i := by
      intro i
      induction i using Nat.strongRecOn with
      | _ i ih =>
        intro hi
        rcases Nat.eq_zero_or_pos i with z | z
        · subst z; rw [p2.2.2.1]; exact Nat.le_refl _
        · obtain ⟨q1, -, -⟩ := p2.1.par z hi
          have := (p2.2.2.2.1 i z hi).2
          have := ih _ q1 (by omega)
          have : (if kd (p_par lv (lv i) i) = 0 then 1 else 0) ≤ 1 := by split <;> omega
          omega
    exact this b hb
  have hl4 : (o_R c' 4).length = (o_R c 4).length + X.length := by rw [h4, List.length_append]
  have cs : ∀ i, i < n + 1 → i < n ∨ i = n := fun i hi => by omega
  refine ⟨⟨h3, h1, by omega, h4l, fun i hi => ?_, fun i hi hk2 => ?_⟩, tw_add p2 hb ha (by omega) hk hl hd, r17, rL, fun i hi => ?_, fun i hi hk2 => ?_, ⟨ap n rm X.length, fun i hi hk2 => ?_, fun i j hi hj hi2 hj2 hij => ?_⟩, fun i hi hk3 => ?_⟩
  · rcases cs i hi with q | q
    · rw [ap_l q, ap_l q, ap_l q, ht i 0 q (by decide), ht i 1 q (by decide), ht i 2 q (by decide)]; exact c5 i q
    · subst q
      rw [ap_e, ap_e, ap_e]
      exact ⟨t0, hk4, t1, by omega, t2, by split <;> omega⟩
  · rcases cs i hi with q | q
    · rw [ap_l q] at hk2 ⊢
      obtain ⟨g1, a, g2, g3, g4⟩ := c6 i q hk2
      rw [ht i 5 q (by decide), ht i 6 q (by decide)]
      exact ⟨g1, a, g2, by omega, fun j hj => by rw [h4, gd_l (by omega)]; exact g4 j hj⟩
    · subst q
      rw [ap_e] at hk2 ⊢
      obtain ⟨g1, g2, g3, g4, g5, g6⟩ := hw hk2
      rw [t5, t6]
      exact ⟨g1, _, g2, by omega, fun j hj => by rw [h4, gd_r (by omega), Nat.add_sub_cancel_left]; exact g6 j hj⟩
  · rcases cs i hi with q | q
    · rw [ap_l q, r1, if_neg (by omega), r5, if_neg (by omega), r6, if_neg (by omega), r7, if_neg (by omega), ht i 3 q (by decide), ht i 4 q (by decide), ht i 5 q (by decide)]; exact p5 i q
    · subst q
      rw [ap_e, r1, if_pos rfl, r5, if_pos rfl, r6, if_pos rfl, r7, if_pos rfl]
      exact ⟨rfl, t3.symm, t4.symm, t5.symm⟩
  · rcases cs i hi with q | q
    · rw [ap_l q] at hk2 ⊢; rw [r8 i q]; exact p6 i q hk2
    · subst q
      rw [ap_e] at hk2 ⊢; exact r8n hk2
  · rcases cs i hi with q | q
    · rw [ap_l q] at hk2
      rw [ap_l q, ap_l q, ht i 6 q (by decide)]
      obtain ⟨g1, g2, g3, g4⟩ := l1 i q hk2
      exact ⟨g1, g2, g3, by omega⟩
    · subst q
      rw [ap_e] at hk2
      obtain ⟨g1, g2, g3, g4, g5, g6⟩ := hw hk2
      rw [ap_e, ap_e, t6, g2, nI_clamp (by omega)]
      exact ⟨g4, g5, g3, by omega⟩
  · rcases cs i hi with q | q
    · rw [ap_l q] at hi2 ⊢
      rw [ht i 6 q (by decide)]
      rcases cs j hj with q2 | q2
      · rw [ap_l q2] at hj2 ⊢
        rw [ht j 6 q2 (by decide)]; exact l2 i j q q2 hi2 hj2 hij
      · subst q2
        rw [ap_e] at hj2
        obtain ⟨g1, g2, g3, g4, g5, g6⟩ := hw hj2
        have := l1 i q hi2
        rw [t6, g2, nI_clamp (by omega)]; exact Or.inl this.2.2.2
    · subst q
      rcases cs j hj with q2 | q2
      · rw [ap_l q2] at hj2 ⊢
        rw [ap_e] at hi2
        obtain ⟨g1, g2, g3, g4, g5, g6⟩ := hw hi2
        have := l1 j q2 hj2
        rw [ht j 6 q2 (by decide), t6, g2, nI_clamp (by omega)]; exact Or.inr this.2.2.2
      · exact absurd q2.symm hij
  · rcases cs i hi with q | q
    · rw [ap_l q] at hk3; rw [ht i 5 q (by decide)]; exact p8 i q hk3
    · subst q
      rw [ap_e] at hk3; rw [t5]; exact h5 hk3
end
/-! the stack: at j the node x; its current item, or -1; all below the next one -/
def SE (n : Nat) (kd lv dp : Nat → Nat) (j x : Nat) (v : Int32) (y : Nat) : Prop := x < n ∧ x < y ∧ (kd x = 0 ∨ kd x = 4) ∧ lv x = dp x + j ∧ aft lv n x = n ∧ (v = -1 ∨ ∃ i, v = nI i ∧ x < i ∧ i < y ∧ i < n ∧ kd i = 1 ∧ lv i = lv x + 1 ∧ dp i = dp x + 1 ∧ aft lv n i = n ∧ kd x = 0)
def nx (nd : Nat → Nat) (d n j : Nat) : Nat := if j + 1 < d then nd (j + 1) else n
def SK (bg : Bool) (c r : o_S) (n : Nat) (kd lv dp : Nat → Nat) (d : Nat) (nd : Nat → Nat) : Prop :=
  1 ≤ d ∧ d ≤ 31 ∧ (o_R c 5).length = d ∧ (o_R c 6).length = d ∧ (o_R c 7).length = d ∧ o_F r 21 = nI d ∧ nd 0 = 0 ∧
  ∀ j, j < d → (o_R c 5).getD j 0 = nI (nd j) ∧ o_A r 15 j = nI (nd j) ∧ ((bg = true ∨ 0 < j) → o_A r 16 j = (o_R c 6).getD j 0) ∧ o_A r 17 j = (o_R c 7).getD j 0 ∧ SE n kd lv dp j (nd j) ((o_R c 7).getD j 0) (nx nd d n j)
section
variable {bg : Bool} {c r c' r' : o_S} {n d : Nat} {kd lv dp nd : Nat → Nat}
theorem SK.cg (h : SK bg c r n kd lv dp d nd) (h5 : o_R c' 5 = o_R c 5) (h6 : o_R c' 6 = o_R c 6) (h7 : o_R c' 7 = o_R c 7) (h21 : o_F r' 21 = o_F r 21) (h15 : o_A r' 15 = o_A r 15) (h16 : o_A r' 16 = o_A r 16) (h17 : o_A r' 17 = o_A r 17) : SK bg c' r' n kd lv dp d nd := by
  unfold SK
  rw [h5, h6, h7, h21, h15, h16, h17]; exact h
theorem SK.mono (h : SK bg c r n kd lv dp d nd) : ∀ k j, j + k < d → nd j ≤ nd (j + k) := by
  intro k
  induction k with
  | zero => intro j _; exact Nat.le_refl _
  | succ k ih =>
    intro j hj
    have h1 := ih j (by omega)
    have h2 := (h.2.2.2.2.2.2.2 (j + k) (by omega)).2.2.2.2.2.1
    unfold nx at h2
    rw [if_pos (by omega)] at h2
    rw [show j + (k + 1) = j + k + 1 by omega]; omega
theorem SK.top (h : SK bg c r n kd lv dp d nd) {j : Nat} (hj : j < d) : nd j ≤ nd (d - 1) := by
  have := h.mono (d - 1 - j) j (by omega)
  rw [show j + (d - 1 - j) = d - 1 by omega] at this; exact this
/-- a node more, in the top node or in its item -/
theorem sk_add {b k D : Nat} (h : SK bg c r n kd lv dp d nd) (hW : WL n lv) (hn : n + 1 ≤ 1300) (hb : b < n) (ha : aft lv n b = n) (hbx : nd (d - 1) ≤ b) (hbi : (o_R c 7).getD (d - 1) 0 = -1 ∨ (o_R c 7).getD (d - 1) 0 = nI b)
    (h5 : o_R c' 5 = o_R c 5) (h6 : o_R c' 6 = o_R c 6) (h7 : o_R c' 7 = o_R c 7) (h21 : o_F r' 21 = o_F r 21) (h15 : o_A r' 15 = o_A r 15) (h16 : o_A r' 16 = o_A r 16) (h17 : o_A r' 17 = o_A r 17) : SK bg c' r' (n + 1) (ap n kd k) (ap n lv (lv b + 1)) (ap n dp D) d nd := by
  have top := @SK.top _ _ _ _ _ _ _ _ _ h
  obtain ⟨s1, s2, s3, s4, s5, s6, s7, s8⟩ := id h
  refine ⟨s1, s2, by rw [h5]; exact s3, by rw [h6]; exact s4, by rw [h7]; exact s5, by rw [h21]; exact s6, s7, fun j hj => ?_⟩
  obtain ⟨a1, a2, a3, a4, x1, x2, x3, x4, x5, x6⟩ := s8 j hj
  have tj := top hj
  rw [h5, h6, h7, h15, h16, h17]
  refine ⟨a1, a2, a3, a4, by omega, ?_, by rw [ap_l x1]; exact x3, by rw [ap_l x1, ap_l x1]; exact x4, ap_aft hW hb ha hn (by omega) x5, ?_⟩
  · unfold nx at x2 ⊢; split at x2 <;> split <;> omega
  · rcases x6 with x6 | ⟨i, i1, i2, i3, i4, i5, i6, i7, i8, i9⟩
    · exact Or.inl x6
    · refine Or.inr ⟨i, i1, i2, ?_, by omega, by rw [ap_l i4]; exact i5, by rw [ap_l i4, ap_l x1]; exact i6, by rw [ap_l i4, ap_l x1]; exact i7, ap_aft hW hb ha hn ?_ i8, by rw [ap_l x1]; exact i9⟩
      · unfold nx at i3 ⊢; split at i3 <;> split <;> omega
      · unfold nx at i3
        by_cases q : j + 1 < d
        · rw [if_pos q] at i3
          have := top (show j + 1 < d from q); omega
        · have e : j = d - 1 := by omega
          rw [e] at i1
          rcases hbi with z | z
          · rw [z] at i1; exact absurd i1.symm (nI_nm1 (by have := hW.2.1; omega))
          · rw [z] at i1
            have := (nI_eq (by have := hW.2.1; omega) (by have := hW.2.1; omega)).mp i1; omega
/-- the top's item is set -/
theorem sk_item {v : Int32} (h : SK bg c r n kd lv dp d nd) (hv : v = -1 ∨ ∃ i, v = nI i ∧ nd (d - 1) < i ∧ i < n ∧ kd i = 1 ∧ lv i = lv (nd (d - 1)) + 1 ∧ dp i = dp (nd (d - 1)) + 1 ∧ aft lv n i = n ∧ kd (nd (d - 1)) = 0)
    (h5 : o_R c' 5 = o_R c 5) (h6 : o_R c' 6 = o_R c 6) (h7 : o_R c' 7 = (o_R c 7).set (d - 1) v) (h21 : o_F r' 21 = o_F r 21) (h15 : o_A r' 15 = o_A r 15) (h16 : o_A r' 16 = o_A r 16) (h17 : ∀ j, o_A r' 17 j = if j = d - 1 then v else o_A r 17 j) : SK bg c' r' n kd lv dp d nd := by
  obtain ⟨s1, s2, s3, s4, s5, s6, s7, s8⟩ := h
  refine ⟨s1, s2, by rw [h5]; exact s3, by rw [h6]; exact s4, by rw [h7, List.length_set]; exact s5, by rw [h21]; exact s6, s7, fun j hj => ?_⟩
  obtain ⟨a1, a2, a3, a4, x1, x2, x3, x4, x5, x6⟩ := s8 j hj
  rw [h5, h6, h7, h15, h16, h17, gd_set j v (show d - 1 < (o_R c 7).length by omega)]
  by_cases q : j = d - 1
  · rw [if_pos q, if_pos q]
    refine ⟨a1, a2, a3, rfl, x1, x2, x3, x4, x5, ?_⟩
    rcases hv with z | ⟨i, i1, i2, i3, i4, i5, i6, i7, i8⟩
    · exact Or.inl z
    · rw [← q] at i2 i5 i6 i8
      refine Or.inr ⟨i, i1, i2, ?_, i3, i4, i5, i6, i7, i8⟩
      unfold nx; rw [if_neg (by omega)]; exact i3
  · rw [if_neg q, if_neg q]; exact ⟨a1, a2, a3, a4, x1, x2, x3, x4, x5, x6⟩
/-- one more is open -/
theorem sk_push {x : Nat} {cl : Int32} (h : SK bg c r n kd lv dp d nd) (hd : d ≤ 30) (hx : x < n) (hx1 : nd (d - 1) < x) (hx2 : ∀ i, (o_R c 7).getD (d - 1) 0 = nI i → i < 2 ^ 31 → i < x) (hk : kd x = 0 ∨ kd x = 4) (hl : lv x = dp x + d) (ha : aft lv n x = n) (hn : n < 2 ^ 31)
    (h5 : o_R c' 5 = o_R c 5 ++ [nI x]) (h6 : o_R c' 6 = o_R c 6 ++ [cl]) (h7 : o_R c' 7 = o_R c 7 ++ [-1]) (h21 : o_F r' 21 = nI (d + 1)) (h15 : ∀ j, o_A r' 15 j = if j = d then nI x else o_A r 15 j) (h16 : ∀ j, o_A r' 16 j = if j = d then cl else o_A r 16 j) (h17 : ∀ j, o_A r' 17 j = if j = d then -1 else o_A r 17 j) : SK bg c' r' n kd lv dp (d + 1) (ap d nd x) := by
  obtain ⟨s1, s2, s3, s4, s5, s6, s7, s8⟩ := h
  refine ⟨by omega, by omega, by rw [h5, List.length_append, s3]; rfl, by rw [h6, List.length_append, s4]; rfl, by rw [h7, List.length_append, s5]; rfl, h21, by rw [ap_l (by omega)]; exact s7, fun j hj => ?_⟩
  rw [h5, h6, h7, h15, h16, h17]
  by_cases q : j = d
  · subst q
    rw [if_pos rfl, if_pos rfl, if_pos rfl, ap_e, gd_r (by omega), gd_r (by omega), gd_r (by omega), s3, s4, s5, Nat.sub_self]
    refine ⟨rfl, rfl, fun _ => rfl, rfl, hx, ?_, hk, hl, ha, Or.inl rfl⟩
    unfold nx; rw [if_neg (by omega)]; exact hx
  · have hj' : j < d := by omega
    obtain ⟨a1, a2, a3, a4, x1, x2, x3, x4, x5, x6⟩ := s8 j hj'
    rw [if_neg q, if_neg q, if_neg q, ap_l hj', gd_l (by omega), gd_l (by omega), gd_l (by omega)]
    have ex : nx (ap d nd x) (d + 1) n j = if j + 1 < d then nd (j + 1) else x := by
      unfold nx; rw [if_pos (by omega)]
      by_cases y : j + 1 < d
      · rw [if_pos y, ap_l y]
      · rw [if_neg y, show j + 1 = d by omega, ap_e]
    rw [ex]
    refine ⟨a1, a2, a3, a4, x1, ?_, x3, x4, x5, ?_⟩
    · by_cases y : j + 1 < d
      · unfold nx at x2; rw [if_pos y] at x2 ⊢; exact x2
      · rw [if_neg y, show j = d - 1 by omega]; exact hx1
    · rcases x6 with x6 | ⟨i, i1, i2, i3, i4, i5, i6, i7, i8, i9⟩
      · exact Or.inl x6
      · refine Or.inr ⟨i, i1, i2, ?_, i4, i5, i6, i7, i8, i9⟩
        by_cases y : j + 1 < d
        · unfold nx at i3; rw [if_pos y] at i3 ⊢; exact i3
        · rw [if_neg y]
          have e : j = d - 1 := by omega
          rw [e] at i1; exact hx2 i i1 (by omega)
/-- some are closed -/
theorem sk_pop {d' : Nat} (h : SK bg c r n kd lv dp d nd) (h1 : 1 ≤ d') (h2 : d' ≤ d) (h5 : o_R c' 5 = (o_R c 5).take d') (h6 : o_R c' 6 = (o_R c 6).take d') (h7 : o_R c' 7 = (o_R c 7).take d') (h21 : o_F r' 21 = nI d') (h15 : o_A r' 15 = o_A r 15) (h16 : o_A r' 16 = o_A r 16) (h17 : o_A r' 17 = o_A r 17) : SK bg c' r' n kd lv dp d' nd := by
  obtain ⟨s1, s2, s3, s4, s5, s6, s7, s8⟩ := h
  have tk : ∀ (l : List Int32) j, j < d' → (l.take d').getD j 0 = l.getD j 0 := fun l j hj => by
    rw [List.getD_eq_getElem?_getD, List.getElem?_take, if_pos hj, ← List.getD_eq_getElem?_getD]
  refine ⟨h1, by omega, by rw [h5, List.length_take]; omega, by rw [h6, List.length_take]; omega, by rw [h7, List.length_take]; omega, h21, s7, fun j hj => ?_⟩
  obtain ⟨a1, a2, a3, a4, x1, x2, x3, x4, x5, x6⟩ := s8 j (by omega)
  rw [h5, h6, h7, h15, h16, h17, tk _ j hj, tk _ j hj, tk _ j hj]
  have hle : ∀ z, z < n → z < nx nd d n j → z < nx nd d' n j := fun z z1 z2 => by
    unfold nx at z2 ⊢; split
    · rw [if_pos (by omega)] at z2; exact z2
    · exact z1
  refine ⟨a1, a2, a3, a4, x1, hle _ x1 x2, x3, x4, x5, ?_⟩
  rcases x6 with x6 | ⟨i, i1, i2, i3, i4, i5, i6, i7, i8, i9⟩
  · exact Or.inl x6
  · exact Or.inr ⟨i, i1, i2, hle _ i4 i3, i4, i5, i6, i7, i8, i9⟩
end
