/-! AN ITEM IS CARRIED: what holds of the numbers -/
theorem il_f {α β : Type} (f : α → β) (p m : Nat) (g h : Nat → α) : (fun k => f (il p m g h k)) = il p m (fun x => f (g x)) (fun x => f (h x)) := by
  funext k; unfold il; split
  · rfl
  · split <;> rfl
theorem in_ti {n b p m : Nat} {kd lv dp kdm mu dpm : Nat → Nat} (hT : TI n kd lv dp) (hin : IN n lv b p m mu) (hb : kd b = 0) (h0 : kdm 0 = 1 ∧ dpm 0 = dp b + 1) (hx : ∀ x, 0 < x → x < m → kOK (kdm (p_par mu (mu x) x)) (kdm x) ∧ dpm x = dpm (p_par mu (mu x) x) + (if kdm (p_par mu (mu x) x) = 0 then 1 else 0)) (h1 : ∀ x, x < m → kdm x = 1 → x + 1 < m ∧ mu (x + 1) = mu x + 1) (h5 : ∀ x, x < m → (kdm x = 0 ∨ kdm x = 4) → mu x ≤ dpm x + 30) : TI (n + m) (il p m kd kdm) (il p m lv mu) (il p m dp dpm) := by
  have hWl := in_wl hin
  have pn := hin.pn
  have lp := hin.lp
  have mid := @IN.mid _ _ _ _ _ _ hin
  have par := @in_par _ _ _ _ _ _ hin
  obtain ⟨-, t1, t2, t3, t4, t5⟩ := hT
  obtain ⟨hW, i1, i2, i3, i4, i5, i6, i7, i8, i9⟩ := hin
  refine ⟨hWl, by rw [il_1 (by omega)]; exact t1, by rw [il_1 (by omega)]; exact t2, fun k k0 hk => ?_, fun k hk hk1 => ?_, fun k hk => ?_⟩
  · rw [par k0 hk]
    by_cases q1 : k < p
    · obtain ⟨p1, -, -⟩ := hW.par k0 (show k < n by omega)
      rw [if_pos q1, il_1 (show p_par lv (lv k) k < p by omega), il_1 q1, il_1 q1, il_1 (show p_par lv (lv k) k < p by omega)]
      exact t3 k k0 (by omega)
    · rw [if_neg q1]
      by_cases q2 : k = p
      · rw [if_pos q2, il_1 i2, il_1 i2, il_2 (by omega) (by omega), il_2 (by omega) (by omega), show k - p = 0 by omega, hb, h0.1, h0.2, if_pos rfl]
        exact ⟨Or.inl ⟨rfl, rfl⟩, rfl⟩
      · rw [if_neg q2]
        by_cases q3 : k < p + m
        · have hg := i8 (k - p) (by omega) (by omega)
          obtain ⟨p1, -, -⟩ := p_par_spec mu (mu (k - p)) (by rw [i7]; exact hg) (k - p) (by omega)
          rw [if_pos q3, il_2 (show p ≤ p + p_par mu (mu (k - p)) (k - p) by omega) (by omega), il_2 (show p ≤ k by omega) q3, il_2 (show p ≤ k by omega) q3, il_2 (show p ≤ p + p_par mu (mu (k - p)) (k - p) by omega) (by omega), show p + p_par mu (mu (k - p)) (k - p) - p = p_par mu (mu (k - p)) (k - p) by omega]
          exact hx _ (by omega) (by omega)
        · obtain ⟨p1, -, -⟩ := hW.par (show 0 < k - m by omega) (show k - m < n by omega)
          rw [if_neg q3, il_3 (show p + m ≤ k by omega), il_3 (show p + m ≤ k by omega)]
          have := t3 (k - m) (by omega) (by omega)
          by_cases q4 : p_par lv (lv (k - m)) (k - m) < p
          · rw [if_pos q4, il_1 q4, il_1 q4]; exact this
          · rw [if_neg q4, il_3 (by omega), il_3 (by omega), show p_par lv (lv (k - m)) (k - m) + m - m = p_par lv (lv (k - m)) (k - m) by omega]; exact this
  · by_cases q1 : k < p
    · rw [il_1 q1] at hk1
      have c := t4 k (by omega) hk1
      by_cases q2 : k + 1 = p
      · exfalso
        have := lp (by omega)
        rw [q2] at c
        rcases Nat.eq_or_lt_of_le (show b ≤ k by omega) with z | z
        · rw [← z, hb] at hk1; omega
        · have := mid z q1; omega
      · rw [il_1 q1, il_1 (by omega)]; exact ⟨by omega, c.2⟩
    · by_cases q3 : k < p + m
      · rw [il_2 (by omega) q3] at hk1
        have c := h1 _ (by omega) hk1
        rw [il_2 (by omega) q3, il_2 (by omega) (by omega), show k + 1 - p = k - p + 1 by omega]
        exact ⟨by omega, c.2⟩
      · rw [il_3 (by omega)] at hk1
        have c := t4 _ (by omega) hk1
        rw [il_3 (by omega), il_3 (by omega), show k + 1 - m = k - m + 1 by omega]
        exact ⟨by omega, c.2⟩
  · by_cases q1 : k < p
    · rw [il_1 q1, il_1 q1, il_1 q1]; exact t5 k (by omega)
    · by_cases q3 : k < p + m
      · rw [il_2 (by omega) q3, il_2 (by omega) q3, il_2 (by omega) q3]; exact h5 _ (by omega)
      · rw [il_3 (by omega), il_3 (by omega), il_3 (by omega)]; exact t5 _ (by omega)
section
variable {n i : Nat} {kd lv dp : Nat → Nat}
/-- within a node -/
theorem sub_par (hW : WL n lv) (hi : i < n) {k : Nat} (h1 : i < k) (h2 : k < aft lv n i) : i ≤ p_par lv (lv k) k ∧ p_par lv (lv k) k < k := by
  obtain ⟨a1, a2, a3, a4⟩ := aft_spec (lv := lv) hi
  obtain ⟨p1, p2, p3⟩ := hW.par (show 0 < k by omega) (show k < n by omega)
  refine ⟨?_, p1⟩
  rcases Nat.lt_or_ge (p_par lv (lv k) k) i with y | y
  · have := p3 i y h1; have := a3 k h1 h2; omega
  · exact y
theorem sub_aft (hi : i < n) {k : Nat} (h1 : i < k) (h2 : k < aft lv n i) : aft lv n k ≤ aft lv n i := by
  obtain ⟨a1, a2, a3, a4⟩ := aft_spec (lv := lv) hi
  obtain ⟨c1, c2, c3, c4⟩ := aft_spec (lv := lv) (n := n) (i := k) (by omega)
  rcases Nat.lt_or_ge (aft lv n i) (aft lv n k) with y | y
  · have := c3 _ h2 y; have := a4 (by omega); have := a3 k h1 h2; omega
  · exact y
theorem sub_acn (hW : WL n lv) (Q : Nat → Nat) (hi : i < n) : ∀ k, i ≤ k → k < aft lv n i → acn Q lv i ≤ acn Q lv k := by
  intro k
  induction k using Nat.strongRecOn with
  | _ k ih =>
    intro h1 h2
    rcases Nat.eq_or_lt_of_le h1 with z | z
    · rw [z]; exact Nat.le_refl _
    · obtain ⟨a1, a2, -, -⟩ := aft_spec (lv := lv) hi
      obtain ⟨s1, s2⟩ := sub_par hW hi z h2
      rw [acn_s hW Q (i := k) (by omega) (by omega)]
      have := ih _ s2 s1 (by omega); omega
theorem sub_sh {mu : Nat → Nat} {u v : Nat} (hW : WL n lv) (hi : i < n) (hmu : ∀ y, y < aft lv n i - i → mu y + u = lv (i + y) + v) {x : Nat} (x0 : 0 < x) (hx : x < aft lv n i - i) : i + p_par mu (mu x) x = p_par lv (lv (i + x)) (i + x) ∧ i + aft mu (aft lv n i - i) x = aft lv n (i + x) := by
  obtain ⟨a1, a2, a3, a4⟩ := aft_spec (lv := lv) hi
  obtain ⟨s1, s2⟩ := sub_par hW hi (show i < i + x by omega) (by omega)
  have s3 := sub_aft (lv := lv) hi (show i < i + x by omega) (by omega)
  obtain ⟨p1, p2, p3⟩ := hW.par (show 0 < i + x by omega) (show i + x < n by omega)
  obtain ⟨c1, c2, c3, c4⟩ := aft_spec (lv := lv) (n := n) (i := i + x) (by omega)
  have m0 := hmu 0 (by omega)
  have mx := hmu x hx
  have lx := a3 (i + x) (by omega) (by omega)
  have e1 : p_par mu (mu x) x = p_par lv (lv (i + x)) (i + x) - i := by
    refine pp_uniq ?_ (by omega) ?_ ?_
    · rw [Nat.add_zero] at m0; omega
    · have := hmu (p_par lv (lv (i + x)) (i + x) - i) (by omega)
      rw [show i + (p_par lv (lv (i + x)) (i + x) - i) = p_par lv (lv (i + x)) (i + x) by omega] at this
      omega
    · intro k k1 k2
      have := hmu k (by omega)
      have := p3 (i + k) (by omega) (by omega)
      omega
  have e2 : aft mu (aft lv n i - i) x = aft lv n (i + x) - i := by
    refine aft_uniq hx (by omega) (by omega) ?_ ?_
    · intro k k1 k2
      have := hmu k (by omega)
      have := c3 (i + k) (by omega) (by omega)
      omega
    · intro z
      have := hmu (aft lv n (i + x) - i) z
      rw [show i + (aft lv n (i + x) - i) = aft lv n (i + x) by omega] at this
      have := c4 (by omega)
      omega
  omega
end
def PL (n : Nat) (lv : Nat → Nat) (i b pl : Nat) : Prop := WL n lv ∧ 0 < i ∧ i < n ∧ b < n ∧ b ≠ i ∧ ¬ (i < b ∧ b < aft lv n i) ∧ b < pl ∧ pl ≤ aft lv n b ∧ (pl < aft lv n b → lv pl = lv b + 1 ∧ pl ≠ i)
section
variable {n i b pl : Nat} {kd lv dp : Nat → Nat}
theorem PL.out (h : PL n lv i b pl) : (pl ≤ i ∨ aft lv n i ≤ pl) ∧ (b < i ∨ aft lv n i ≤ b) := by
  obtain ⟨hW, h0, hi, hb, hbi, hnb, h1, h2, h3⟩ := h
  obtain ⟨a1, a2, a3, a4⟩ := aft_spec (lv := lv) hi
  obtain ⟨b1, b2, b3, b4⟩ := aft_spec (lv := lv) hb
  refine ⟨?_, by omega⟩
  rcases Nat.lt_or_ge i pl with z | z
  · rcases Nat.lt_or_ge pl (aft lv n i) with y | y
    · exfalso
      have l1 := a3 pl z y
      rcases Nat.lt_or_ge b i with v | v
      · have l2 := b3 i v (by omega)
        rcases Nat.lt_or_ge pl (aft lv n b) with u | u
        · have := (h3 u).1; omega
        · have e : pl = aft lv n b := by omega
          have := b4 (by omega); rw [← e] at this; omega
      · omega
    · exact Or.inr y
  · exact Or.inl z
theorem pl_ug {x : Nat} (h : PL n lv i b pl) (hx : x < i ∨ aft lv n i ≤ x) : rg i (aft lv n i - i) (ug i (aft lv n i - i) x) = x := by
  obtain ⟨a1, a2, -, -⟩ := aft_spec (lv := lv) h.2.2.1
  unfold rg ug; split <;> split <;> omega
def cmu (lv : Nat → Nat) (i b x : Nat) : Nat := lv (i + x) + lv b + 1 - lv i
theorem pl_cmu (h : PL n lv i b pl) {x : Nat} (hx : x < aft lv n i - i) : cmu lv i b x + lv i = lv (i + x) + (lv b + 1) ∧ lv i ≤ lv (i + x) ∧ (0 < x → lv i < lv (i + x)) := by
  obtain ⟨a1, a2, a3, -⟩ := aft_spec (lv := lv) h.2.2.1
  have : lv i ≤ lv (i + x) ∧ (0 < x → lv i < lv (i + x)) := by
    rcases Nat.eq_zero_or_pos x with z | z
    · subst z; exact ⟨Nat.le_refl _, fun q => by omega⟩
    · have := a3 (i + x) (by omega) (by omega); exact ⟨by omega, fun _ => this⟩
  refine ⟨?_, this⟩
  unfold cmu; omega
theorem PL.inn (h : PL n lv i b pl) : IN (n - (aft lv n i - i)) (fun x => lv (rg i (aft lv n i - i) x)) (ug i (aft lv n i - i) b) (ug i (aft lv n i - i) pl) (aft lv n i - i) (cmu lv i b) := by
  obtain ⟨o1, o2⟩ := h.out
  have eb := pl_ug h o2
  have hcm := @pl_cmu _ _ _ _ _ h
  obtain ⟨hW, h0, hi, hb, hbi, hnb, h1, h2, h3⟩ := id h
  obtain ⟨a1, a2, a3, a4⟩ := aft_spec (lv := lv) hi
  obtain ⟨b1, b2, b3, b4⟩ := aft_spec (lv := lv) hb
  have ub : ug i (aft lv n i - i) b < n - (aft lv n i - i) := by unfold ug; split <;> omega
  obtain ⟨r1, r2⟩ := rem_aft (lv := lv) hi ub
  rw [eb] at r1 r2
  have hn := hW.2.1
  refine ⟨rem_wl hW h0 hi, ub, ?_, ?_, fun z => ?_, by omega, by omega, ?_, fun x x0 hx => ?_, fun x hx => ?_⟩
  · unfold ug; split <;> split <;> omega
  · rw [r2]; unfold ug; split <;> split <;> omega
  · rw [r2] at z
    have hlt : pl < aft lv n b := by unfold ug at z; split at z <;> split at z <;> omega
    obtain ⟨g1, g2⟩ := h3 hlt
    show lv (rg i _ (ug i _ pl)) = lv (rg i _ (ug i _ b)) + 1
    rw [eb, pl_ug h (x := pl) (by omega)]; exact g1
  · show cmu lv i b 0 = lv (rg i _ (ug i _ b)) + 1
    rw [eb]; have := (hcm (show 0 < aft lv n i - i by omega)).1; rw [Nat.add_zero] at this; omega
  · show lv (rg i _ (ug i _ b)) + 1 < cmu lv i b x
    rw [eb]; have := hcm hx; have := this.2.2 x0; omega
  · have c1 := (hcm hx).1
    have c2 := (hcm (show x < aft lv n i - i by omega)).1
    have := (hW.2.2.2 (i + x) (by omega)).2
    rw [show i + x + 1 = i + (x + 1) by omega] at this
    omega
theorem cy_ti (hT : TI n kd lv dp) (hk : kd i = 1) (hb : kd b = 0) (h : PL n lv i b pl) (hd : ∀ k, i < k → k < aft lv n i → (kd k = 0 ∨ kd k = 4) → lv k + lv b + 1 - lv i ≤ dp k + dp b + 1 - dp i + 30) :
    TI (n - (aft lv n i - i) + (aft lv n i - i)) (il (ug i (aft lv n i - i) pl) (aft lv n i - i) (fun x => kd (rg i (aft lv n i - i) x)) (fun x => kd (i + x))) (il (ug i (aft lv n i - i) pl) (aft lv n i - i) (fun x => lv (rg i (aft lv n i - i) x)) (cmu lv i b)) (il (ug i (aft lv n i - i) pl) (aft lv n i - i) (fun x => dp (rg i (aft lv n i - i) x)) (cmu dp i b)) := by
  have hin := h.inn
  obtain ⟨o1, o2⟩ := h.out
  have eb := pl_ug h o2
  have hcm := @pl_cmu _ _ _ _ _ h
  obtain ⟨hW, h0, hi, hb', hbi, hnb, h1, h2, h3⟩ := id h
  obtain ⟨a1, a2, a3, a4⟩ := aft_spec (lv := lv) hi
  have hdp : ∀ x, x < aft lv n i - i → dp i ≤ dp (i + x) := fun x hx => by
    have := sub_acn hW (q_bg kd false) hi (i + x) (by omega) (by omega)
    rw [ti_dp hT i hi, ti_dp hT (i + x) (by omega)] at this; exact this
  refine in_ti (rem_ti hT h0 hi hk) hin ?_ ⟨hk, ?_⟩ (fun x x0 hx => ?_) (fun x hx hk1 => ?_) (fun x hx hk4 => ?_)
  · show kd (rg i _ (ug i _ b)) = 0; rw [eb]; exact hb
  · show cmu dp i b 0 = dp (rg i _ (ug i _ b)) + 1; rw [eb]; show dp i + dp b + 1 - dp i = dp b + 1; omega
  · obtain ⟨e1, -⟩ := sub_sh hW hi (fun y hy => (hcm hy).1) x0 hx
    obtain ⟨c1, c2⟩ := hT.2.2.2.1 (i + x) (by omega) (by omega)
    obtain ⟨s1, s2⟩ := sub_par hW hi (show i < i + x by omega) (by omega)
    have d1 := hdp x hx
    have d2 := hdp (p_par (cmu lv i b) (cmu lv i b x) x) (by omega)
    show kOK (kd (i + p_par (cmu lv i b) (cmu lv i b x) x)) (kd (i + x)) ∧ cmu dp i b x = cmu dp i b (p_par (cmu lv i b) (cmu lv i b x) x) + (if kd (i + p_par (cmu lv i b) (cmu lv i b x) x) = 0 then 1 else 0)
    unfold cmu at d1 d2 ⊢
    unfold cmu at e1
    rw [e1] at d2 ⊢
    exact ⟨c1, by omega⟩
  · have c := hT.2.2.2.2.1 (i + x) (by omega) hk1
    have e : i + x + 1 < aft lv n i := by
      rcases Nat.lt_or_ge (i + x + 1) (aft lv n i) with z | z
      · exact z
      · have e : i + x + 1 = aft lv n i := by omega
        have := a4 (by omega); rw [← e] at this; have := (hcm hx).2.1; omega
    have c1 := (hcm hx).1
    have c2 := (hcm (show x + 1 < aft lv n i - i by omega)).1
    rw [show i + (x + 1) = i + x + 1 by omega] at c2
    exact ⟨by omega, by omega⟩
  · rcases Nat.eq_zero_or_pos x with z | z
    · subst z; have hk4' : kd i = 0 ∨ kd i = 4 := hk4; omega
    · exact hd (i + x) (by omega) (by omega) hk4
theorem sm_il {F G : Nat → Nat} {p m n : Nat} (hp : p ≤ n) : sm (il p m F G) (n + m) 0 = sm F n 0 + sm G m 0 := by
  have e1 := sm_add (il p m F G) p (m + (n - p)) 0
  have e2 := sm_add (il p m F G) m (n - p) (0 + p)
  have e3 := sm_add F p (n - p) 0
  rw [show p + (m + (n - p)) = n + m by omega] at e1
  rw [show p + (n - p) = n by omega] at e3
  have f1 := sm_sh (f := il p m F G) (g := F) p 0 0 (fun x hx => by rw [Nat.zero_add]; exact il_1 hx)
  have f2 := sm_sh (f := il p m F G) (g := G) m (0 + p) 0 (fun x hx => by rw [il_2 (by omega) (by omega)]; congr 1; omega)
  have f3 := sm_sh (f := il p m F G) (g := F) (n - p) (0 + p + m) (0 + p) (fun x hx => by rw [il_3 (by omega)]; congr 1; omega)
  omega
theorem cy_sm {f : Nat → Nat} (h : PL n lv i b pl) : sm (il (ug i (aft lv n i - i) pl) (aft lv n i - i) (fun x => f (rg i (aft lv n i - i) x)) (fun x => f (i + x))) (n - (aft lv n i - i) + (aft lv n i - i)) 0 = sm f n 0 := by
  have pn := h.inn.pn
  obtain ⟨hW, h0, hi, -⟩ := h
  obtain ⟨a1, a2, a3, a4⟩ := aft_spec (lv := lv) hi
  rw [sm_il pn]
  have e1 := sm_add (fun x => f (rg i (aft lv n i - i) x)) i (n - aft lv n i) 0
  rw [show i + (n - aft lv n i) = n - (aft lv n i - i) by omega] at e1
  have e2 := sm_add f i (n - i) 0
  have e3 := sm_add f (aft lv n i - i) (n - aft lv n i) (0 + i)
  rw [show i + (n - i) = n by omega] at e2
  rw [show aft lv n i - i + (n - aft lv n i) = n - i by omega] at e3
  have f1 := sm_sh (f := fun x => f (rg i (aft lv n i - i) x)) (g := f) i 0 0 (fun j hj => by show f (rg i _ (0 + j)) = _; rw [Nat.zero_add, rg_lt hj])
  have f2 := sm_sh (f := fun x => f (rg i (aft lv n i - i) x)) (g := f) (n - aft lv n i) (0 + i) (0 + i + (aft lv n i - i)) (fun j hj => by
    show f (rg i _ (0 + i + j)) = _
    rw [rg_ge (show i ≤ 0 + i + j by omega)]; congr 1; omega)
  have f3 := sm_sh (f := fun x => f (i + x)) (g := f) (aft lv n i - i) 0 (0 + i) (fun j hj => by show f (i + (0 + j)) = _; congr 1; omega)
  omega
end
