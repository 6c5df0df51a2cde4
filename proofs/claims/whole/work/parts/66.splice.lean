/-! NODES GO, OR GET OTHER NUMBERS -/
theorem re_iv {s t : o_S} {T : List Int32} {n n' : Nat} {kd lv dp lv' dp' : Nat → Nat} {w : Nat → List Int32} {ids g : Nat → Nat} (hv : IV s T n kd lv dp w ids)
    (hF : ∀ k, k ≠ 15 → k ≠ 1 → k ≠ 18 → o_F t k = o_F s k) (hF1 : o_F t 1 = nI n') (hF18 : o_F t 18 = nI n') (hR : ∀ q, q ≠ 1 → q ≠ 3 → o_R t q = o_R s q) (hR3 : (o_R t 3).length = 7 * n')
    (htg : ∀ k f, k < n' → f < 7 → f ≠ 1 → f ≠ 2 → tg t k f = tg s (g k) f) (h1 : ∀ k, k < n' → tg t k 1 = nI (lv' k) ∧ lv' k ≤ 1300 ∧ tg t k 2 = nI (dp' k) ∧ dp' k ≤ 1300)
    (hA : ∀ a, a ≠ 14 → a ≠ 2 → a ≠ 3 → a ≠ 4 → a ≠ 10 → a ≠ 11 → o_A t a = o_A s a) (hT : TI n' (fun k => kd (g k)) lv' dp') (hL : LK n' lv' (fun k => ids (g k)) t) (hg0 : g 0 = 0) (hgl : ∀ k, k < n' → g k < n) (hgi : ∀ k j, k < n' → j < n' → g k = g j → k = j)
    (hN : ∀ k, k < n' → o_A t 10 k = nI (ids (g k)) ∧ o_A t 11 (ids (g k)) = nI k) (hn' : n' ≤ n) (hs : sm (fun k => if kd (g k) = 2 then (w (g k)).length - 8 else 0) n' 0 ≤ sm (fun i => if kd i = 2 then (w i).length - 8 else 0) n 0) : IV t T n' (fun k => kd (g k)) lv' dp' (fun k => w (g k)) (fun k => ids (g k)) := by
  obtain ⟨⟨t1, t2, t3, t4⟩, ⟨c1, c2, c3, c4, c5, c6⟩, -, ⟨r1, r2, r3, r4, r5, r6⟩, ⟨k, p1, p2, p3, p4, p5⟩, ⟨u1, u2, u3⟩, ⟨rm, l1, l2⟩, ⟨b1, b2, b3⟩⟩ := hv
  have R0 := hR 0 (by decide) (by decide)
  have R2 := hR 2 (by decide) (by decide)
  have R4 := hR 4 (by decide) (by decide)
  have R8 := hR 8 (by decide) (by decide)
  have a0 := hA 0 (by decide) (by decide) (by decide) (by decide) (by decide) (by decide)
  have a1 := hA 1 (by decide) (by decide) (by decide) (by decide) (by decide) (by decide)
  have a5 := hA 5 (by decide) (by decide) (by decide) (by decide) (by decide) (by decide)
  have a6 := hA 6 (by decide) (by decide) (by decide) (by decide) (by decide) (by decide)
  have a7 := hA 7 (by decide) (by decide) (by decide) (by decide) (by decide) (by decide)
  have a8 := hA 8 (by decide) (by decide) (by decide) (by decide) (by decide) (by decide)
  have a9 := hA 9 (by decide) (by decide) (by decide) (by decide) (by decide) (by decide)
  have a12 := hA 12 (by decide) (by decide) (by decide) (by decide) (by decide) (by decide)
  have a13 := hA 13 (by decide) (by decide) (by decide) (by decide) (by decide) (by decide)
  refine ⟨⟨by rw [R0]; exact t1, t2, by rw [hF 16 (by decide) (by decide) (by decide)]; exact t3, fun j hj => by rw [a0]; exact t4 j hj⟩, ⟨hR3, hF1, by omega, by rw [R4]; exact c4, fun i hi => ?_, fun i hi hk => ?_⟩, hT, ⟨hF18, hL, by show ids (g 0) = 0; rw [hg0]; exact r3, hN, fun i hi => ?_, fun i hi hk => ?_⟩, ⟨k, p1, by rw [hF 0 (by decide) (by decide) (by decide)]; exact p2, by rw [R2]; exact p3, by rw [hF 19 (by decide) (by decide) (by decide)]; exact p4, fun j hj => by rw [a12, R2]; exact p5 j hj⟩, ⟨by rw [hF 20 (by decide) (by decide) (by decide), R8]; exact u1, by rw [R8]; exact u2, fun j hj => by rw [a13, R8]; rw [R8] at hj; exact u3 j hj⟩, ⟨fun k => rm (g k), fun i hi hk => ?_, fun i j hi hj h1 h2 h3 => ?_⟩, ⟨by omega, fun i hi hk => ?_, Nat.le_trans hs b3⟩⟩
  · obtain ⟨x1, x2, x3, x4⟩ := h1 i hi
    obtain ⟨y1, y2, -⟩ := c5 (g i) (hgl i hi)
    exact ⟨by rw [htg i 0 hi (by decide) (by decide) (by decide)]; exact y1, y2, x1, x2, x3, x4⟩
  · rw [htg i 5 hi (by decide) (by decide) (by decide), htg i 6 hi (by decide) (by decide) (by decide), R4]
    exact c6 (g i) (hgl i hi) hk
  · rw [a1, a5, a6, a7, htg i 3 hi (by decide) (by decide) (by decide), htg i 4 hi (by decide) (by decide) (by decide), htg i 5 hi (by decide) (by decide) (by decide)]
    exact r5 (g i) (hgl i hi)
  · rw [a8, a9]; exact r6 (g i) (hgl i hi) hk
  · rw [htg i 6 hi (by decide) (by decide) (by decide), R4]; exact l1 (g i) (hgl i hi) hk
  · rw [htg i 6 hi (by decide) (by decide) (by decide), htg j 6 hj (by decide) (by decide) (by decide)]
    exact l2 (g i) (g j) (hgl i hi) (hgl j hj) h1 h2 (fun z => h3 (hgi i j hi hj z))
  · rw [htg i 5 hi (by decide) (by decide) (by decide)]; exact b2 (g i) (hgl i hi) hk
theorem pp_uniq {lv : Nat → Nat} {L d p : Nat} (h0 : lv 0 < L) (h1 : p < d) (h2 : lv p < L) (h3 : ∀ k, p < k → k < d → L ≤ lv k) : p_par lv L d = p := by
  obtain ⟨a1, a2, a3⟩ := p_par_spec lv L h0 d (by omega)
  rcases Nat.lt_trichotomy (p_par lv L d) p with h | h | h
  · have := a3 p h h1; omega
  · exact h
  · have := h3 _ h a1; omega
theorem sm_add (f : Nat → Nat) : ∀ a b c, sm f (a + b) c = sm f a c + sm f b (c + a) := by
  intro a
  induction a with
  | zero => intro b c; rw [Nat.zero_add]; unfold sm; rw [Nat.zero_add, Nat.add_zero]
  | succ a ih =>
    intro b c
    rw [show a + 1 + b = (a + b) + 1 by omega]
    show f c + sm f (a + b) (c + 1) = (f c + sm f a (c + 1)) + sm f b (c + (a + 1))
    rw [ih, show c + 1 + a = c + (a + 1) by omega, Nat.add_assoc]
theorem sm_sh {f g : Nat → Nat} : ∀ d a b, (∀ i, i < d → f (a + i) = g (b + i)) → sm f d a = sm g d b := by
  intro d
  induction d with
  | zero => intro a b _; rfl
  | succ d ih =>
    intro a b h
    unfold sm
    rw [show f a = g b from h 0 (by omega), ih (a + 1) (b + 1) (fun i hi => by have := h (i + 1) (by omega); rw [show a + 1 + i = a + (i + 1) by omega, show b + 1 + i = b + (i + 1) by omega]; exact this)]
/-- the old number of what is the k-th now, when m nodes from i on are gone; and back -/
def rg (i m k : Nat) : Nat := if k < i then k else k + m
def ug (i m x : Nat) : Nat := if x ≤ i then x else x - m
section
variable {n i : Nat} {kd lv dp : Nat → Nat}
theorem rg_lt {i m k : Nat} (h : k < i) : rg i m k = k := if_pos h
theorem rg_ge {i m k : Nat} (h : i ≤ k) : rg i m k = k + m := if_neg (by omega)
theorem rem_par (hW : WL n lv) (h0 : 0 < i) (hi : i < n) {k : Nat} (k0 : 0 < k) (hk : k < n - (aft lv n i - i)) :
    let m := aft lv n i - i
    let P := p_par lv (lv (rg i m k)) (rg i m k)
    (P < i ∨ aft lv n i ≤ P) ∧ p_par (fun x => lv (rg i m x)) (lv (rg i m k)) k = ug i m P ∧ rg i m (ug i m P) = P ∧ ug i m P < k := by
  intro m P
  obtain ⟨a1, a2, a3, a4⟩ := aft_spec (lv := lv) hi
  have hm : m = aft lv n i - i := rfl
  have z0 : rg i m 0 = 0 := rg_lt h0
  by_cases q : k < i
  · have e : rg i m k = k := rg_lt q
    obtain ⟨p1, p2, p3⟩ := hW.par k0 (show k < n by omega)
    have eP : P = p_par lv (lv k) k := by show p_par lv (lv (rg i m k)) (rg i m k) = _; rw [e]
    rw [← eP] at p1 p2 p3
    have u : ug i m P = P := if_pos (by omega)
    refine ⟨Or.inl (by omega), ?_, by rw [u]; exact rg_lt (by omega), by omega⟩
    rw [u, e]
    refine pp_uniq ?_ p1 ?_ ?_
    · show lv (rg i m 0) < lv k; rw [z0, hW.2.2.1]; exact hW.pos k0 (by omega)
    · show lv (rg i m P) < lv k; rw [rg_lt (show P < i by omega)]; omega
    · intro x x1 x2; show lv k ≤ lv (rg i m x); rw [rg_lt (show x < i by omega)]; exact p3 x x1 x2
  · have e : rg i m k = k + m := rg_ge (by omega)
    obtain ⟨p1, p2, p3⟩ := hW.par (show 0 < k + m by omega) (show k + m < n by omega)
    have eP : P = p_par lv (lv (k + m)) (k + m) := by show p_par lv (lv (rg i m k)) (rg i m k) = _; rw [e]
    rw [← eP] at p1 p2 p3
    have hP : P < i ∨ aft lv n i ≤ P := by
      rcases Nat.lt_or_ge P i with z | z
      · exact Or.inl z
      · refine Or.inr ?_
        rcases Nat.lt_or_ge P (aft lv n i) with y | y
        · have b1 : lv i ≤ lv P := by
            rcases Nat.eq_or_lt_of_le z with v | v
            · rw [v]; exact Nat.le_refl _
            · exact Nat.le_of_lt (a3 P v y)
          have b2 := a4 (by omega)
          rcases Nat.eq_or_lt_of_le (show aft lv n i ≤ k + m by omega) with v | v
          · rw [v] at b2; omega
          · have := p3 (aft lv n i) y v; omega
        · exact y
    refine ⟨hP, ?_⟩
    rw [e]
    rcases hP with hP | hP
    · have u : ug i m P = P := if_pos (by omega)
      refine ⟨?_, by rw [u]; exact rg_lt hP, by omega⟩
      rw [u]
      refine pp_uniq ?_ (by omega) ?_ ?_
      · show lv (rg i m 0) < _; rw [z0, hW.2.2.1]; exact hW.pos (by omega) (by omega)
      · show lv (rg i m P) < _; rw [rg_lt hP]; omega
      · intro x x1 x2
        show _ ≤ lv (rg i m x)
        by_cases y : x < i
        · rw [rg_lt y]; exact p3 x x1 (by omega)
        · rw [rg_ge (show i ≤ x by omega)]; exact p3 _ (by omega) (by omega)
    · have u : ug i m P = P - m := if_neg (by omega)
      refine ⟨?_, by rw [u, rg_ge (by omega)]; omega, by omega⟩
      rw [u]
      refine pp_uniq ?_ (by omega) ?_ ?_
      · show lv (rg i m 0) < _; rw [z0, hW.2.2.1]; exact hW.pos (by omega) (by omega)
      · show lv (rg i m (P - m)) < _; rw [rg_ge (by omega), show P - m + m = P by omega]; omega
      · intro x x1 x2
        show _ ≤ lv (rg i m x)
        rw [rg_ge (show i ≤ x by omega)]; exact p3 _ (by omega) (by omega)
theorem rem_aft (hi : i < n) {k : Nat} (hk : k < n - (aft lv n i - i)) :
    let m := aft lv n i - i
    let a := aft lv n (rg i m k)
    (a ≤ i ∨ aft lv n i ≤ a) ∧ aft (fun x => lv (rg i m x)) (n - m) k = ug i m a := by
  intro m a
  obtain ⟨a1, a2, a3, a4⟩ := aft_spec (lv := lv) hi
  have hm : m = aft lv n i - i := rfl
  by_cases q : k < i
  · have e : rg i m k = k := rg_lt q
    have ea : a = aft lv n k := by show aft lv n (rg i m k) = _; rw [e]
    obtain ⟨b1, b2, b3, b4⟩ := aft_spec (lv := lv) (show k < n by omega)
    rw [← ea] at b1 b2 b3 b4
    by_cases y : a ≤ i
    · have u : ug i m a = a := if_pos y
      refine ⟨Or.inl y, ?_⟩
      rw [u]
      refine aft_uniq (by omega) b1 (by omega) ?_ ?_
      · intro x x1 x2; show lv (rg i m k) < lv (rg i m x); rw [e, rg_lt (by omega)]; exact b3 x x1 x2
      · intro z; show lv (rg i m a) ≤ lv (rg i m k)
        rw [e]
        rcases Nat.eq_or_lt_of_le y with v | v
        · have c1 := b4 (by omega)
          rw [v] at c1
          have c2 := a4 (by omega)
          rw [v, rg_ge (Nat.le_refl i), show i + m = aft lv n i by omega]; omega
        · rw [rg_lt v]; exact b4 (by omega)
    · have c1 := b3 i q (by omega)
      have y2 : aft lv n i ≤ a := by
        rcases Nat.lt_or_ge a (aft lv n i) with v | v
        · have := a3 a (by omega) v; have := b4 (by omega); omega
        · exact v
      have u : ug i m a = a - m := if_neg y
      refine ⟨Or.inr y2, ?_⟩
      rw [u]
      refine aft_uniq (by omega) (by omega) (by omega) ?_ ?_
      · intro x x1 x2; show lv (rg i m k) < lv (rg i m x)
        rw [e]
        by_cases v : x < i
        · rw [rg_lt v]; exact b3 x x1 (by omega)
        · rw [rg_ge (by omega)]; exact b3 _ (by omega) (by omega)
      · intro z; show lv (rg i m (a - m)) ≤ lv (rg i m k)
        rw [e, rg_ge (by omega), show a - m + m = a by omega]; exact b4 (by omega)
  · have e : rg i m k = k + m := rg_ge (by omega)
    have ea : a = aft lv n (k + m) := by show aft lv n (rg i m k) = _; rw [e]
    obtain ⟨b1, b2, b3, b4⟩ := aft_spec (lv := lv) (show k + m < n by omega)
    rw [← ea] at b1 b2 b3 b4
    have u : ug i m a = a - m := if_neg (by omega)
    refine ⟨Or.inr (by omega), ?_⟩
    rw [u]
    refine aft_uniq (by omega) (by omega) (by omega) ?_ ?_
    · intro x x1 x2; show lv (rg i m k) < lv (rg i m x)
      rw [e, rg_ge (by omega)]; exact b3 _ (by omega) (by omega)
    · intro z; show lv (rg i m (a - m)) ≤ lv (rg i m k)
      rw [e, rg_ge (by omega), show a - m + m = a by omega]; exact b4 (by omega)
theorem rem_wl (hW : WL n lv) (h0 : 0 < i) (hi : i < n) : WL (n - (aft lv n i - i)) (fun x => lv (rg i (aft lv n i - i) x)) := by
  obtain ⟨a1, a2, a3, a4⟩ := aft_spec (lv := lv) hi
  obtain ⟨w1, w2, w3, w4⟩ := id hW
  refine ⟨by omega, by omega, by show lv (rg i _ 0) = 0; rw [rg_lt h0]; exact w3, fun k hk => ?_⟩
  show 1 ≤ lv (rg i _ (k + 1)) ∧ lv (rg i _ (k + 1)) ≤ lv (rg i _ k) + 1
  by_cases q : k + 1 < i
  · rw [rg_lt q, rg_lt (by omega)]; exact w4 k (by omega)
  · by_cases q2 : k + 1 = i
    · rw [rg_ge (by omega), rg_lt (by omega), show k + 1 + (aft lv n i - i) = aft lv n i by omega]
      have b1 := a4 (by omega)
      have b2 := (w4 k (by omega)).2
      rw [q2] at b2
      exact ⟨hW.pos (by omega) (by omega), by omega⟩
    · rw [rg_ge (by omega), rg_ge (by omega), show k + 1 + (aft lv n i - i) = k + (aft lv n i - i) + 1 by omega]
      exact w4 _ (by omega)
theorem rem_ti (hT : TI n kd lv dp) (h0 : 0 < i) (hi : i < n) (hk1 : kd i = 1) : TI (n - (aft lv n i - i)) (fun x => kd (rg i (aft lv n i - i) x)) (fun x => lv (rg i (aft lv n i - i) x)) (fun x => dp (rg i (aft lv n i - i) x)) := by
  obtain ⟨hW, t1, t2, t3, t4, t5⟩ := id hT
  obtain ⟨a1, a2, a3, a4⟩ := aft_spec (lv := lv) hi
  have lt : ∀ k, k < n - (aft lv n i - i) → rg i (aft lv n i - i) k < n := fun k hk => by unfold rg; split <;> omega
  have gp : ∀ k, 0 < k → 0 < rg i (aft lv n i - i) k := fun k hk => by unfold rg; split <;> omega
  refine ⟨rem_wl hW h0 hi, by show kd (rg i _ 0) = 0; rw [rg_lt h0]; exact t1, by show dp (rg i _ 0) = 0; rw [rg_lt h0]; exact t2, fun k k0 hk => ?_, fun k hk hk1' => ?_, fun k hk => t5 _ (lt k hk)⟩
  · obtain ⟨-, e2, e3, -⟩ := rem_par hW h0 hi k0 hk
    have := t3 _ (gp k k0) (lt k hk)
    show kOK (kd (rg i _ (p_par _ (lv (rg i _ k)) k))) _ ∧ _ = dp (rg i _ (p_par _ (lv (rg i _ k)) k)) + (if kd (rg i _ (p_par _ (lv (rg i _ k)) k)) = 0 then 1 else 0)
    rw [e2, e3]; exact this
  · have b := t4 _ (lt k hk) hk1'
    show k + 1 < _ ∧ lv (rg i _ (k + 1)) = lv (rg i _ k) + 1
    by_cases q : k + 1 < i
    · rw [rg_lt (show k < i by omega)] at b
      rw [rg_lt q, rg_lt (by omega)]; exact ⟨by omega, b.2⟩
    · by_cases q2 : k + 1 = i
      · exfalso
        rw [rg_lt (show k < i by omega)] at b
        have hk1'' : kd k = 1 := by have := hk1'; simp only [rg_lt (show k < i by omega)] at this; exact this
        have hp : p_par lv (lv i) i = k := pp_uniq (by rw [hW.2.2.1]; exact hW.pos h0 hi) (by omega) (by rw [← q2]; omega) (fun x x1 x2 => by omega)
        have := (t3 i h0 hi).1
        rw [hp, hk1, hk1''] at this
        unfold kOK at this
        omega
      · rw [rg_ge (show i ≤ k by omega)] at b
        rw [rg_ge (by omega), rg_ge (show i ≤ k by omega), show k + 1 + (aft lv n i - i) = k + (aft lv n i - i) + 1 by omega]
        exact ⟨by omega, b.2⟩
end
