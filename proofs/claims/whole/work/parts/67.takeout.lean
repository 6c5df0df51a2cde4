/-! THE REFERENCE TAKES A NODE OUT OF ITS LINKS -/
theorem ni_sub {a b : Nat} (h : b ≤ a) : nI a - nI b = nI (a - b) := by
  have : nI a = nI (a - b) + nI b := by rw [nI_add]; congr 1; omega
  rw [this, Int32.add_sub_cancel]
section
variable {n N i : Nat} {lv ids : Nat → Nat} {s : o_S}
theorem tk_L (h : LK n lv ids s) (hi : i < n) : ∀ d q M, i - q ≤ d → q < i → lv q = lv i → (∀ k, q < k → k < i → lv i ≤ lv k) → ∃ q', q' < i ∧ lv q' = lv i ∧ aft lv n q' = i ∧ f_X7_takeOut_L39 N (M + d + 1) (nI (ids i)) (nI (ids q)) s = some (o_setA s 4 (ids q') (o_A s 4 (ids i))) := by
  have ii := h.1 i hi
  intro d
  induction d with
  | zero => intro q M h1 h2 _ _; omega
  | succ d ih =>
    intro q M h1 h2 h3 h4
    have iq := h.1 q (by omega)
    obtain ⟨a1, a2, a3, a4⟩ := aft_spec (lv := lv) (show q < n by omega)
    have ha : aft lv n q ≤ i := by
      rcases Nat.lt_or_ge i (aft lv n q) with z | z
      · have := a3 i h2 z; omega
      · exact z
    have hl : lv (aft lv n q) = lv i := by
      have b1 := a4 (by omega)
      rcases Nat.eq_or_lt_of_le ha with z | z
      · rw [z]
      · have := h4 _ a1 z; omega
    have e4 : o_A s 4 (ids q) = nI (ids (aft lv n q)) := by
      rw [h.2.2.2.2 q (by omega), if_pos ⟨by omega, by omega⟩]
    have ia := h.1 (aft lv n q) (by omega)
    rw [show M + (d + 1) + 1 = (M + d + 1) + 1 by omega]
    rw [f_X7_takeOut_L39, ld_ iq (by decide), e4, if_ni_eq (by omega) (by omega), ld_ ii (by decide), st_ iq (by decide), ld_ iq (by decide), e4]
    by_cases z : aft lv n q = i
    · rw [if_pos (by rw [z])]
      exact ⟨q, h2, h3, z, rfl⟩
    · rw [if_neg (fun y => z (h.2.1 _ _ (by omega) hi y))]
      exact ih (aft lv n q) M (by omega) (by omega) hl (fun k k1 k2 => h4 k (by omega) k2)
/-- what takeOut does: one link -/
theorem tk_ (h : LK n lv ids s) (hW : WL n lv) (hN : 2000 ≤ N) (h0 : 0 < i) (hi : i < n) : ∃ t, f_X7_takeOut N (nI (ids i)) s = some t ∧
    ((p_par lv (lv i) i + 1 = i ∧ t = o_setA s 3 (ids (p_par lv (lv i) i)) (o_A s 4 (ids i))) ∨ (p_par lv (lv i) i + 1 < i ∧ ∃ q, q < i ∧ lv q = lv i ∧ aft lv n q = i ∧ t = o_setA s 4 (ids q) (o_A s 4 (ids i)))) := by
  have hn := hW.2.1
  obtain ⟨p1, p2, p3⟩ := hW.par h0 hi
  have ii := h.1 i hi
  have ip := h.1 (p_par lv (lv i) i) (by omega)
  have e2 : o_A s 2 (ids i) = nI (ids (p_par lv (lv i) i)) := by rw [h.2.2.1 i hi, if_neg (by omega)]
  have hlv : lv (p_par lv (lv i) i + 1) = lv i := by
    have b1 := (hW.2.2.2 (p_par lv (lv i) i) (by omega)).2
    rcases Nat.eq_or_lt_of_le (show p_par lv (lv i) i + 1 ≤ i by omega) with z | z
    · rw [z]
    · have := p3 (p_par lv (lv i) i + 1) (by omega) z; omega
  have e3 : o_A s 3 (ids (p_par lv (lv i) i)) = nI (ids (p_par lv (lv i) i + 1)) := by rw [h.2.2.2.1 _ (by omega), if_pos ⟨by omega, by omega⟩]
  have ip1 := h.1 (p_par lv (lv i) i + 1) (by omega)
  unfold f_X7_takeOut
  rw [ld_ ii (by decide), e2, ld_ ip (by decide), e3, if_ni_eq (by omega) (by omega), ld_ ii (by decide), st_ ip (by decide), ld_ ip (by decide), e3]
  by_cases z : p_par lv (lv i) i + 1 = i
  · rw [if_pos (by rw [z])]
    exact ⟨_, rfl, Or.inl ⟨z, rfl⟩⟩
  · rw [if_neg (fun y => z (h.2.1 _ _ (by omega) hi y))]
    obtain ⟨q, q1, q2, q3, q4⟩ := tk_L (N := N) h hi i (p_par lv (lv i) i + 1) (N - i - 1) (by omega) (by omega) hlv (fun k k1 k2 => p3 k (by omega) k2)
    rw [show N - i - 1 + i + 1 = N by omega] at q4
    exact ⟨_, q4, Or.inr ⟨by omega, q, q1, q2, q3, rfl⟩⟩
/-- the links of what is left -/
theorem tk_lk {t : o_S} (h : LK n lv ids s) (hW : WL n lv) (h0 : 0 < i) (hi : i < n) (ht : (p_par lv (lv i) i + 1 = i ∧ t = o_setA s 3 (ids (p_par lv (lv i) i)) (o_A s 4 (ids i))) ∨ (p_par lv (lv i) i + 1 < i ∧ ∃ q, q < i ∧ lv q = lv i ∧ aft lv n q = i ∧ t = o_setA s 4 (ids q) (o_A s 4 (ids i)))) :
    LK (n - (aft lv n i - i)) (fun x => lv (rg i (aft lv n i - i) x)) (fun x => ids (rg i (aft lv n i - i) x)) t := by
  obtain ⟨a1, a2, a3, a4⟩ := aft_spec (lv := lv) hi
  obtain ⟨p1, p2, p3⟩ := hW.par h0 hi
  have hm : ∀ k, k < n - (aft lv n i - i) → rg i (aft lv n i - i) k < n := fun k hk => by unfold rg; split <;> omega
  have hinj := h.2.1
  have rinj : ∀ k j, rg i (aft lv n i - i) k = rg i (aft lv n i - i) j → k = j := fun k j => by unfold rg; split <;> split <;> omega
  have hrx : ∀ x, (x ≤ i ∨ aft lv n i ≤ x) → x ≠ i → rg i (aft lv n i - i) (ug i (aft lv n i - i) x) = x := by
    intro x hx hxi
    unfold ug
    split
    · rw [rg_lt (by omega)]
    · rw [rg_ge (by omega)]; omega
  have rne : ∀ k, rg i (aft lv n i - i) k ≠ i := fun k => by unfold rg; split <;> omega
  have hA2 : o_A t 2 = o_A s 2 := by
    rcases ht with ⟨-, rfl⟩ | ⟨-, q, -, -, -, rfl⟩ <;> (funext x; rw [sA_A, if_neg (by decide)])
  have e4i : o_A s 4 (ids i) = if aft lv n i < n ∧ lv (aft lv n i) = lv i then nI (ids (aft lv n i)) else -1 := h.2.2.2.2 i hi
  refine ⟨fun k hk => h.1 _ (hm k hk), fun k j hk hj e => rinj k j (hinj _ _ (hm k hk) (hm j hj) e), fun k hk => ?_, fun k hk => ?_, fun k hk => ?_⟩
  · show o_A t 2 (ids (rg i _ k)) = _
    rw [hA2, h.2.2.1 _ (hm k hk)]
    rcases Nat.eq_zero_or_pos k with z | z
    · subst z; rw [rg_lt h0, if_pos rfl, if_pos rfl]
    · obtain ⟨-, e2, e3, -⟩ := rem_par hW h0 hi z hk
      have z2 : 0 < rg i (aft lv n i - i) k := by unfold rg; split <;> omega
      rw [if_neg (by omega), if_neg (by omega)]
      show _ = nI (ids (rg i _ (p_par _ (lv (rg i _ k)) k)))
      rw [e2, e3]
  · show o_A t 3 (ids (rg i _ k)) = if k + 1 < n - (aft lv n i - i) ∧ lv (rg i _ k) < lv (rg i _ (k + 1)) then nI (ids (rg i _ (k + 1))) else -1
    by_cases q1 : k + 1 = i
    · have ek : rg i (aft lv n i - i) k = k := rg_lt (by omega)
      have ek1 : rg i (aft lv n i - i) (k + 1) = aft lv n i := by rw [rg_ge (by omega)]; omega
      rw [ek, ek1]
      have wk := (hW.2.2.2 k (by omega)).2
      rw [q1] at wk
      by_cases q2 : lv k < lv i
      · have hp : p_par lv (lv i) i = k := pp_uniq (by rw [hW.2.2.1]; exact hW.pos h0 hi) (by omega) q2 (fun x x1 x2 => by omega)
        rcases ht with ⟨-, rfl⟩ | ⟨hlt, -⟩
        · rw [sA_A, if_pos rfl, hp, if_pos rfl, e4i]
          by_cases q3 : aft lv n i < n ∧ lv (aft lv n i) = lv i
          · rw [if_pos q3, if_pos (by omega)]
          · rw [if_neg q3, if_neg (fun z => q3 ⟨by omega, by have := a4 (by omega); omega⟩)]
        · omega
      · have hne : p_par lv (lv i) i ≠ k := fun z => by rw [z] at p2; omega
        have e3 : o_A t 3 (ids k) = o_A s 3 (ids k) := by
          rcases ht with ⟨-, rfl⟩ | ⟨-, q, -, -, -, rfl⟩
          · rw [sA_A, if_pos rfl, if_neg (fun z => hne (hinj _ _ (by omega) (by omega) z.symm))]
          · rw [sA_A, if_neg (by decide)]
        rw [e3, h.2.2.2.1 k (by omega), q1, if_neg (fun z => q2 z.2), if_neg (fun z => by have := a4 (by omega); omega)]
    · have ek1 : rg i (aft lv n i - i) (k + 1) = rg i (aft lv n i - i) k + 1 := by unfold rg; split <;> split <;> omega
      have e3 : o_A t 3 (ids (rg i (aft lv n i - i) k)) = o_A s 3 (ids (rg i (aft lv n i - i) k)) := by
        rcases ht with ⟨hp, rfl⟩ | ⟨-, q, -, -, -, rfl⟩
        · rw [sA_A, if_pos rfl, if_neg (fun z => ?_)]
          have := hinj _ _ (hm k hk) (by omega) z
          have hx : k < i := by
            rcases Nat.lt_or_ge k i with y | y
            · exact y
            · rw [rg_ge y] at this; omega
          rw [rg_lt hx] at this; omega
        · rw [sA_A, if_neg (by decide)]
      rw [e3, h.2.2.2.1 _ (hm k hk), ek1]
      have : k + 1 < n - (aft lv n i - i) ↔ rg i (aft lv n i - i) k + 1 < n := by unfold rg; split <;> omega
      by_cases q2 : rg i (aft lv n i - i) k + 1 < n ∧ lv (rg i (aft lv n i - i) k) < lv (rg i (aft lv n i - i) k + 1)
      · rw [if_pos q2, if_pos ⟨this.mpr q2.1, q2.2⟩]
      · rw [if_neg q2, if_neg (fun z => q2 ⟨this.mp z.1, z.2⟩)]
  · obtain ⟨c1, c2⟩ := rem_aft (lv := lv) hi hk
    have hd := aft_spec (lv := lv) (hm k hk)
    show o_A t 4 (ids (rg i _ k)) = if aft (fun x => lv (rg i _ x)) _ k < n - (aft lv n i - i) ∧ lv (rg i _ (aft (fun x => lv (rg i _ x)) _ k)) = lv (rg i _ k) then nI (ids (rg i _ (aft (fun x => lv (rg i _ x)) _ k))) else -1
    rw [c2]
    by_cases q1 : aft lv n (rg i (aft lv n i - i) k) = i
    · have hu : ug i (aft lv n i - i) i = i := if_pos (Nat.le_refl _)
      have hr : rg i (aft lv n i - i) i = aft lv n i := by rw [rg_ge (Nat.le_refl _)]; omega
      rw [q1, hu, hr]
      have hle : lv i ≤ lv (rg i (aft lv n i - i) k) := by have := hd.2.2.2; rw [q1] at this; exact this hi
      by_cases q2 : lv (rg i (aft lv n i - i) k) = lv i
      · have hne : ¬ p_par lv (lv i) i + 1 = i := by
          intro z
          have hk' : rg i (aft lv n i - i) k < i := by omega
          have : p_par lv (lv i) i < rg i (aft lv n i - i) k ∨ rg i (aft lv n i - i) k ≤ p_par lv (lv i) i := by omega
          rcases this with y | y
          · omega
          · rcases Nat.eq_or_lt_of_le y with v | v
            · rw [v] at q2; omega
            · have := hd.2.2.1 (p_par lv (lv i) i) v (by omega); omega
        rcases ht with ⟨z, -⟩ | ⟨-, q, g1, g2, g3, rfl⟩
        · exact absurd z hne
        · have eq : q = rg i (aft lv n i - i) k := by
            rcases Nat.lt_trichotomy q (rg i (aft lv n i - i) k) with y | y | y
            · have := (aft_spec (lv := lv) (show q < n by omega)).2.2.1 _ y (by omega); omega
            · exact y
            · have := hd.2.2.1 q y (by omega); omega
          rw [sA_A, if_pos rfl, eq, if_pos rfl, e4i, q2]
          by_cases q3 : aft lv n i < n ∧ lv (aft lv n i) = lv i
          · rw [if_pos q3, if_pos ⟨by omega, q3.2⟩]
          · rw [if_neg q3, if_neg (fun z => q3 ⟨by omega, z.2⟩)]
      · have e4 : o_A t 4 (ids (rg i (aft lv n i - i) k)) = o_A s 4 (ids (rg i (aft lv n i - i) k)) := by
          rcases ht with ⟨-, rfl⟩ | ⟨-, q, g1, g2, g3, rfl⟩
          · rw [sA_A, if_neg (by decide)]
          · rw [sA_A, if_pos rfl, if_neg (fun z => q2 (by rw [hinj _ _ (hm k hk) (by omega) z]; exact g2))]
        rw [e4, h.2.2.2.2 _ (hm k hk), q1, if_neg (fun z => q2 z.2.symm), if_neg (fun z => by have := a4 (by omega); omega)]
    · have e4 : o_A t 4 (ids (rg i (aft lv n i - i) k)) = o_A s 4 (ids (rg i (aft lv n i - i) k)) := by
        rcases ht with ⟨-, rfl⟩ | ⟨-, q, g1, g2, g3, rfl⟩
        · rw [sA_A, if_neg (by decide)]
        · rw [sA_A, if_pos rfl, if_neg (fun z => q1 (by rw [hinj _ _ (hm k hk) (by omega) z]; exact g3))]
      have hr : rg i (aft lv n i - i) (ug i (aft lv n i - i) (aft lv n (rg i (aft lv n i - i) k))) = aft lv n (rg i (aft lv n i - i) k) := hrx _ c1 q1
      have hx : ug i (aft lv n i - i) (aft lv n (rg i (aft lv n i - i) k)) < n - (aft lv n i - i) ↔ aft lv n (rg i (aft lv n i - i) k) < n := by unfold ug; split <;> omega
      rw [e4, h.2.2.2.2 _ (hm k hk), hr]
      by_cases q2 : aft lv n (rg i (aft lv n i - i) k) < n ∧ lv (aft lv n (rg i (aft lv n i - i) k)) = lv (rg i (aft lv n i - i) k)
      · rw [if_pos q2, if_pos ⟨hx.mpr q2.1, q2.2⟩]
      · rw [if_neg q2, if_neg (fun z => q2 ⟨hx.mp z.1, z.2⟩)]
end
