/-! number(): every node gets its number -/
def E_num (s t : o_S) : Prop := o_R t = o_R s ∧ o_cap t = o_cap s ∧ o_k t = o_k s ∧ o_O t = o_O s ∧ (∀ k, k ≠ 18 → o_F t k = o_F s k) ∧ (∀ a, a ≠ 10 → a ≠ 11 → o_A t a = o_A s a)
theorem E_num.rf (s : o_S) : E_num s s := ⟨rfl, rfl, rfl, rfl, fun _ _ => rfl, fun _ _ _ => rfl⟩
theorem E_num.lk {s t : o_S} (h : E_num s t) {n : Nat} {lv ids : Nat → Nat} (hk : LK n lv ids s) : LK n lv ids t := hk.congr (h.2.2.2.2.2 2 (by decide) (by decide)) (h.2.2.2.2.2 3 (by decide) (by decide)) (h.2.2.2.2.2 4 (by decide) (by decide))
theorem sA_ne {s : o_S} {a i : Nat} {v : Int32} {b : Nat} (h : b ≠ a) : o_A (o_setA s a i v) b = o_A s b := by
  funext j; rw [sA_A, if_neg h]
theorem sA_eq {s : o_S} {a i : Nat} {v : Int32} : o_A (o_setA s a i v) a i = v := by rw [sA_A, if_pos rfl, if_pos rfl]
theorem sA_nj {s : o_S} {a i : Nat} {v : Int32} {j : Nat} (h : j ≠ i) : o_A (o_setA s a i v) a j = o_A s a j := by rw [sA_A, if_pos rfl, if_neg h]
theorem aft0 {n : Nat} {lv : Nat → Nat} (hW : WL n lv) : aft lv n 0 = n := by
  refine aft_uniq hW.1 hW.1 (Nat.le_refl _) (fun k k1 k2 => ?_) (fun z => absurd z (Nat.lt_irrefl _))
  have := hW.pos k1 k2; rw [hW.2.2.1]; omega
theorem num_L {n N : Nat} {lv ids : Nat → Nat} (hW : WL n lv) (hN : 2000 ≤ N) (h0 : ids 0 = 0) {s0 : o_S} (hk : LK n lv ids s0) : ∀ (d i m : Nat) (s : o_S), i + d = n → d < m → E_num s0 s → o_F s 18 = nI i → (∀ j, j < i → o_A s 10 j = nI (ids j) ∧ o_A s 11 (ids j) = nI j) →
    ∃ t, f_X7_number_L7 N m (if i < n then nI (ids i) else -1) s = some t ∧ E_num s0 t ∧ o_F t 18 = nI n ∧ ∀ j, j < n → o_A t 10 j = nI (ids j) ∧ o_A t 11 (ids j) = nI j := by
  intro d
  have hn := hW.2.1
  induction d with
  | zero =>
    intro i m s hi hm hE hF hA
    obtain ⟨m, rfl⟩ : ∃ m', m = m' + 1 := ⟨m - 1, by omega⟩
    have e : i = n := by omega
    subst e
    rw [if_neg (Nat.lt_irrefl _), f_X7_number_L7, if_pos rfl]
    exact ⟨s, rfl, hE, hF, hA⟩
  | succ d ih =>
    intro i m s hi hm hE hF hA
    obtain ⟨m, rfl⟩ : ∃ m', m = m' + 1 := ⟨m - 1, by omega⟩
    have hin : i < n := by omega
    have hid := hk.1 i hin
    rw [if_pos hin, f_X7_number_L7, if_neg (nI_nm1 (by omega)), hF, st_ (show i < 1500 by omega) (by decide), st_ hid (by decide), do_e]
    have hF2 : o_F (o_setA s 10 i (nI (ids i))) 18 = nI i := hF
    have hF3 : o_F (o_setA (o_setA s 10 i (nI (ids i))) 11 (ids i) (nI i)) 18 = nI i := hF
    rw [hF2, hF3, nI_1]
    have hE2 : E_num s0 (o_setF (o_setA (o_setA s 10 i (nI (ids i))) 11 (ids i) (nI i)) 18 (nI (i + 1))) := by
      obtain ⟨a, b, c, d', e, f⟩ := hE
      refine ⟨a, b, c, d', fun k hk' => ?_, fun z z1 z2 => ?_⟩
      · rw [sF_F, if_neg hk']; exact e k hk'
      · rw [sF_A, sA_ne z2, sA_ne z1]; exact f z z1 z2
    have hr := aft0 hW
    have hf := lk_foll (N := N) (hE2.lk hk) hW hN (r := 0) (i := i) hW.1 (Nat.zero_le _) (by rw [hr]; exact hin)
    rw [h0, hr] at hf
    rw [show (0 : Int32) = nI 0 from rfl, hf, bi_s]
    refine ih (i + 1) m _ (by omega) (by omega) hE2 (by rw [sF_F, if_pos rfl]) (fun j hj => ?_)
    rw [sF_A]
    by_cases e : j = i
    · subst e
      exact ⟨by rw [sA_ne (by decide), sA_eq], sA_eq⟩
    · have := hA j (by omega)
      have hne : ids j ≠ ids i := fun z => e (hk.2.1 j i (by omega) hin z)
      exact ⟨by rw [sA_ne (by decide), sA_nj e]; exact this.1, by rw [sA_nj hne, sA_ne (by decide)]; exact this.2⟩
theorem num_ {n N : Nat} {lv ids : Nat → Nat} {s : o_S} (hW : WL n lv) (hN : 2000 ≤ N) (h0 : ids 0 = 0) (hk : LK n lv ids s) : ∃ t, f_X7_number N s = some t ∧ E_num s t ∧ o_F t 18 = nI n ∧ ∀ j, j < n → o_A t 10 j = nI (ids j) ∧ o_A t 11 (ids j) = nI j := by
  unfold f_X7_number
  rw [do_e]
  have hE : E_num s (o_setF s 18 0) := ⟨rfl, rfl, rfl, rfl, fun k hk' => by rw [sF_F, if_neg hk'], fun _ _ _ => rfl⟩
  have := num_L (N := N) hW hN h0 hk n 0 N (o_setF s 18 0) (by omega) (by have := hW.2.1; omega) hE rfl (fun j hj => absurd hj (Nat.not_lt_zero _))
  rw [if_pos hW.1, h0] at this
  exact this
/-! how many ancestors of a kind a node has -/
def a_cnt (Q : Nat → Nat) (lv : Nat → Nat) : Nat → Nat → Nat
  | 0, _ => 0
  | f + 1, i => if i = 0 then 0 else Q (p_par lv (lv i) i) + a_cnt Q lv f (p_par lv (lv i) i)
theorem a_cnt_fuel {n : Nat} {lv : Nat → Nat} (hW : WL n lv) (Q : Nat → Nat) : ∀ f g i, i < n → i ≤ f → i ≤ g → a_cnt Q lv f i = a_cnt Q lv g i := by
  intro f
  induction f with
  | zero =>
    intro g i hi h1 h2
    have e : i = 0 := by omega
    subst e
    cases g with
    | zero => rfl
    | succ g => rw [a_cnt, a_cnt, if_pos rfl]
  | succ f ih =>
    intro g i hi h1 h2
    by_cases e : i = 0
    · subst e
      cases g with
      | zero => rw [a_cnt, a_cnt, if_pos rfl]
      | succ g => rw [a_cnt, a_cnt, if_pos rfl, if_pos rfl]
    · obtain ⟨g, rfl⟩ : ∃ g', g = g' + 1 := ⟨g - 1, by omega⟩
      obtain ⟨p1, -, -⟩ := hW.par (show 0 < i by omega) hi
      rw [a_cnt, a_cnt, if_neg e, if_neg e, ih g _ (by omega) (by omega) (by omega)]
def acn (Q : Nat → Nat) (lv : Nat → Nat) (i : Nat) : Nat := a_cnt Q lv i i
theorem acn_0 (Q : Nat → Nat) (lv : Nat → Nat) : acn Q lv 0 = 0 := rfl
theorem acn_s {n : Nat} {lv : Nat → Nat} (hW : WL n lv) (Q : Nat → Nat) {i : Nat} (h0 : 0 < i) (hi : i < n) : acn Q lv i = Q (p_par lv (lv i) i) + acn Q lv (p_par lv (lv i) i) := by
  obtain ⟨p1, -, -⟩ := hW.par h0 hi
  obtain ⟨j, rfl⟩ : ∃ j, i = j + 1 := ⟨i - 1, by omega⟩
  unfold acn
  rw [a_cnt, if_neg (by omega), a_cnt_fuel hW Q j (p_par lv (lv (j + 1)) (j + 1)) _ (by omega) (by omega) (Nat.le_refl _)]
theorem acn_le {n : Nat} {lv : Nat → Nat} (hW : WL n lv) (Q : Nat → Nat) (hQ : ∀ i, Q i ≤ 1) : ∀ i, i < n → acn Q lv i ≤ i := by
  intro i
  induction i using Nat.strongRecOn with
  | _ i ih =>
    intro hi
    rcases Nat.eq_zero_or_pos i with e | e
    · subst e; exact Nat.le_refl _
    · obtain ⟨p1, -, -⟩ := hW.par e hi
      rw [acn_s hW Q e hi]
      have := ih _ p1 (by omega); have := hQ (p_par lv (lv i) i); omega
def q_bg (kd : Nat → Nat) (wg : Bool) (j : Nat) : Nat := if kd j = 0 then 1 else if wg then (if kd j = 4 then 1 else 0) else 0
theorem q_bg_le (kd : Nat → Nat) (wg : Bool) (j : Nat) : q_bg kd wg j ≤ 1 := by unfold q_bg; split <;> (try split) <;> (try split) <;> omega
section
variable {s : o_S} {n N : Nat} {kd lv ids : Nat → Nat}
theorem lk_depth_L (h : LK n lv ids s) (hW : WL n lv) (hK : ∀ i, i < n → o_A s 1 (ids i) = nI (kd i) ∧ kd i ≤ 4) {wg : Bool} {g : Int32} (hg : g = 0 ↔ wg = false) : ∀ (a c m : Nat), a < n → a + 1 < m → f_X7_depthOf_L10 N m g (nI c) (nI (ids a)) s = some (nI (c + (q_bg kd wg a + acn (q_bg kd wg) lv a)), s) := by
  have hn := hW.2.1
  intro a
  induction a using Nat.strongRecOn with
  | _ a ih =>
    intro c m ha hm
    obtain ⟨m, rfl⟩ : ∃ m', m = m' + 1 := ⟨m - 1, by omega⟩
    have hid := h.1 a ha
    obtain ⟨k1, k2⟩ := hK a ha
    -- what comes behind the node a, with one more or not
    have key : ∀ c', f_X7_depthOf_L10 N m g (nI c') (o_A s 2 (ids a)) s = some (nI (c' + acn (q_bg kd wg) lv a), s) := by
      intro c'
      rw [h.2.2.1 a ha]
      rcases Nat.eq_zero_or_pos a with e | e
      · subst e
        obtain ⟨m, rfl⟩ : ∃ m', m = m' + 1 := ⟨m - 1, by omega⟩
        rw [if_pos rfl, f_X7_depthOf_L10, if_pos rfl, acn_0, Nat.add_zero]
      · obtain ⟨p1, -, -⟩ := hW.par e ha
        rw [if_neg (show ¬ a = 0 by omega), ih _ p1 c' m (by omega) (by omega), acn_s hW _ e ha]
    have b42 : f_X7_depthOf_b42 N (f_X7_depthOf_L10 N m) g (nI (ids a)) (nI c) s = some (nI (c + (1 + acn (q_bg kd wg) lv a)), s) := by
      unfold f_X7_depthOf_b42
      rw [ld_ hid (by decide), nI_1, key (c + 1)]
      congr 3; omega
    have b46 : f_X7_depthOf_b46 N (f_X7_depthOf_L10 N m) g (nI (ids a)) (nI c) s = some (nI (c + (0 + acn (q_bg kd wg) lv a)), s) := by
      unfold f_X7_depthOf_b46
      rw [ld_ hid (by decide), show nI c + 0 = nI c from (nI_add c 0), key c]
      congr 3; omega
    rw [f_X7_depthOf_L10, if_neg (nI_nm1 (by omega)), ld_ hid (by decide), k1, if_lit 0 0 rfl (by omega) (by decide), b42]
    unfold q_bg
    by_cases q0 : kd a = 0
    · rw [if_pos q0, if_pos q0]
    · rw [if_neg q0, if_neg q0]
      cases wg with
      | false => rw [if_pos (hg.mpr rfl)]; exact b46
      | true =>
        rw [if_neg (fun z => by cases hg.mp z), ld_ hid (by decide), k1, if_lit 4 4 rfl (by omega) (by decide)]
        by_cases q4 : kd a = 4
        · rw [if_pos q4, if_pos rfl, if_pos q4]
        · rw [if_neg q4, if_pos rfl, if_neg q4]; exact b46
theorem lk_depth (h : LK n lv ids s) (hW : WL n lv) (hN : 2000 ≤ N) (hK : ∀ i, i < n → o_A s 1 (ids i) = nI (kd i) ∧ kd i ≤ 4) {wg : Bool} {g : Int32} (hg : g = 0 ↔ wg = false) {i : Nat} (hi : i < n) : f_X7_depthOf N (nI (ids i)) g s = some (nI (acn (q_bg kd wg) lv i), s) := by
  have hn := hW.2.1
  unfold f_X7_depthOf
  rw [ld_ (h.1 i hi) (by decide), h.2.2.1 i hi]
  rcases Nat.eq_zero_or_pos i with e | e
  · subst e
    obtain ⟨m, rfl⟩ : ∃ m', N = m' + 1 := ⟨N - 1, by omega⟩
    rw [if_pos rfl, f_X7_depthOf_L10, if_pos rfl]; rfl
  · obtain ⟨p1, -, -⟩ := hW.par e hi
    rw [if_neg (show ¬ i = 0 by omega)]
    have := lk_depth_L (N := N) h hW hK hg (p_par lv (lv i) i) 0 N (by omega) (by omega)
    rw [Nat.zero_add, ← acn_s hW _ e hi] at this
    exact this
/-- is a node in another one (or it itself)? -/
theorem lk_within_L (h : LK n lv ids s) (hW : WL n lv) {r : Nat} (hr : r < n) : ∀ (a m : Nat), a < n → a + 1 < m → f_X7_isWithin_L2 N m (nI (ids r)) (nI (ids a)) s = some (if r ≤ a ∧ a < aft lv n r then 1 else 0, s) := by
  obtain ⟨r1, r2, r3, r4⟩ := aft_spec (lv := lv) hr
  have hn := hW.2.1
  have hidr := h.1 r hr
  intro a
  induction a using Nat.strongRecOn with
  | _ a ih =>
    intro m ha hm
    obtain ⟨m, rfl⟩ : ∃ m', m = m' + 1 := ⟨m - 1, by omega⟩
    have hid := h.1 a ha
    rw [f_X7_isWithin_L2, if_neg (nI_nm1 (by omega)), if_ni_eq (by omega) (by omega)]
    by_cases e : ids a = ids r
    · have e2 := h.2.1 a r ha hr e
      subst e2
      rw [if_pos rfl, if_pos rfl, if_pos ⟨Nat.le_refl _, r1⟩]
    · have hne : a ≠ r := fun z => e (by rw [z])
      rw [if_neg e, ld_ hid (by decide), h.2.2.1 a ha]
      rcases Nat.eq_zero_or_pos a with z | z
      · subst z
        obtain ⟨m, rfl⟩ : ∃ m', m = m' + 1 := ⟨m - 1, by omega⟩
        rw [if_pos rfl, f_X7_isWithin_L2, if_pos rfl, if_neg (fun q => nI_nm1 (k := ids r) (by omega) q.symm), if_neg (by omega)]
      · obtain ⟨p1, p2, p3⟩ := hW.par z ha
        rw [if_neg (by omega), ih _ p1 m (by omega) (by omega)]
        congr 2
        by_cases q : r ≤ a ∧ a < aft lv n r
        · have hpr : r ≤ p_par lv (lv a) a := by
            rcases Nat.lt_or_ge (p_par lv (lv a) a) r with y | y
            · have := p3 r y (by omega); have := r3 a (by omega) q.2; omega
            · exact y
          rw [if_pos q, if_pos ⟨hpr, by omega⟩]
        · rw [if_neg q, if_neg (fun y => q ⟨by omega, ?_⟩)]
          rcases Nat.lt_or_ge a (aft lv n r) with x | x
          · exact x
          · have hx := r4 (by omega)
            rcases Nat.lt_or_ge (aft lv n r) a with u | u
            · have := p3 _ y.2 u
              rcases Nat.lt_or_ge r (p_par lv (lv a) a) with v | v
              · have := r3 _ v y.2; omega
              · have e3 : p_par lv (lv a) a = r := by omega
                rw [e3] at p2; omega
            · have e3 : a = aft lv n r := by omega
              rw [← e3] at hx
              rcases Nat.lt_or_ge r (p_par lv (lv a) a) with v | v
              · have := r3 _ v y.2; omega
              · have e4 : p_par lv (lv a) a = r := by omega
                rw [e4] at p2; omega
theorem lk_within (h : LK n lv ids s) (hW : WL n lv) (hN : 2000 ≤ N) {r a : Nat} (hr : r < n) (ha : a < n) : f_X7_isWithin N (nI (ids a)) (nI (ids r)) s = some (if r ≤ a ∧ a < aft lv n r then 1 else 0, s) := by
  have hn := hW.2.1
  unfold f_X7_isWithin
  exact lk_within_L h hW hr a N ha (by omega)
end
