/-! A ROW IS TURNED -/
theorem ni_s1 {k : Nat} (h : 0 < k) : nI k - (1 : Int32) = nI (k - 1) := by
  rw [Int32.sub_eq_add_neg]; exact ni_m1 h
section
variable {r : Nat}
theorem rv_L (hr : r < 9) : ∀ d a b M (s : o_S), b - a ≤ d → a ≤ b → b ≤ (o_R s r).length → (o_R s r).length < 2 ^ 31 → ∃ t, o_revL r (M + d + 1) (nI a) (nI b - 1) s = some t ∧ (∀ e, GS e s → GS e t) ∧ o_F t = o_F s ∧ o_A t = o_A s ∧ o_O t = o_O s ∧ (∀ q, q ≠ r → o_R t q = o_R s q) ∧ (o_R t r).length = (o_R s r).length ∧ ∀ k, (o_R t r).getD k 0 = if a ≤ k ∧ k < b then (o_R s r).getD (a + b - 1 - k) 0 else (o_R s r).getD k 0 := by
  have base : ∀ a b M (s : o_S), b ≤ a + 1 → a ≤ b → b ≤ (o_R s r).length → (o_R s r).length < 2 ^ 31 → ∃ t, o_revL r (M + 1) (nI a) (nI b - 1) s = some t ∧ (∀ e, GS e s → GS e t) ∧ o_F t = o_F s ∧ o_A t = o_A s ∧ o_O t = o_O s ∧ (∀ q, q ≠ r → o_R t q = o_R s q) ∧ (o_R t r).length = (o_R s r).length ∧ ∀ k, (o_R t r).getD k 0 = if a ≤ k ∧ k < b then (o_R s r).getD (a + b - 1 - k) 0 else (o_R s r).getD k 0 := by
    intro a b M s h1 h2 h3 h4
    refine ⟨s, ?_, fun _ h => h, rfl, rfl, rfl, fun _ _ => rfl, rfl, fun k => ?_⟩
    · unfold o_revL
      rw [if_pos]
      rcases Nat.eq_zero_or_pos b with z | z
      · subst z
        have : a = 0 := by omega
        subst this; decide
      · rw [ni_s1 z]; exact nI_le (by omega) (by omega)
    · by_cases q : a ≤ k ∧ k < b
      · rw [if_pos q]; congr 1; omega
      · rw [if_neg q]
  intro d
  induction d with
  | zero => intro a b M s h1 h2 h3 h4; exact base a b M s (by omega) h2 h3 h4
  | succ d ih =>
    intro a b M s h1 h2 h3 h4
    by_cases hs : b ≤ a + 1
    · exact base a b (M + (d + 1)) s hs h2 h3 h4
    · have gs1 : ∀ e, GS e s → GS e (o_setR s r (o_cap s r) ((o_R s r).set a ((o_R s r).getD (b - 1) 0))) := fun e h => h.set hr (by rw [List.length_set]; exact (h.1 r hr).1)
      have e1 : o_put s r (nI a) (o_at s r (nI b - 1)) = o_setR s r (o_cap s r) ((o_R s r).set a ((o_R s r).getD (b - 1) 0)) := by
        rw [ni_s1 (by omega), at_in (show b - 1 < (o_R s r).length by omega) h4, put_in (by omega) h4]
      have l1 : (o_R (o_setR s r (o_cap s r) ((o_R s r).set a ((o_R s r).getD (b - 1) 0))) r).length = (o_R s r).length := by rw [sR_R, if_pos rfl, List.length_set]
      have e2 : ∃ u, o_put (o_put s r (nI a) (o_at s r (nI b - 1))) r (nI b - 1) (o_at s r (nI a)) = u ∧ (∀ e, GS e s → GS e u) ∧ o_F u = o_F s ∧ o_A u = o_A s ∧ o_O u = o_O s ∧ (∀ q, q ≠ r → o_R u q = o_R s q) ∧ o_R u r = ((o_R s r).set a ((o_R s r).getD (b - 1) 0)).set (b - 1) ((o_R s r).getD a 0) := by
        rw [e1, ni_s1 (show 0 < b by omega), at_in (show a < (o_R s r).length by omega) h4, put_in (by rw [l1]; omega) (by rw [l1]; exact h4)]
        refine ⟨_, rfl, fun e h => (gs1 e h).set hr (by rw [List.length_set]; exact ((gs1 e h).1 r hr).1), rfl, rfl, rfl, fun q hq => by rw [sR_R, if_neg hq, sR_R, if_neg hq], by rw [sR_R, if_pos rfl, sR_R, if_pos rfl]⟩
      obtain ⟨u, u1, u2, u3, u4, u5, u6, u7⟩ := e2
      have lu : (o_R u r).length = (o_R s r).length := by rw [u7, List.length_set, List.length_set]
      obtain ⟨t, t1, t2, t3, t4, t5, t6, t7, t8⟩ := ih (a + 1) (b - 1) M u (by omega) (by omega) (by omega) (by omega)
      refine ⟨t, ?_, fun e h => t2 e (u2 e h), t3.trans u3, t4.trans u4, t5.trans u5, fun q hq => (t6 q hq).trans (u6 q hq), t7.trans lu, fun k => ?_⟩
      · rw [show M + (d + 1) + 1 = (M + d + 1) + 1 by omega]
        unfold o_revL
        rw [if_neg (by rw [ni_s1 (by omega)]; exact fun q => absurd ((nI_leI (by omega) (by omega)).mp q) (by omega)), u1, ni_p1, show nI b - 1 + -1 = nI (b - 1) - 1 by rw [ni_s1 (show 0 < b by omega), Int32.sub_eq_add_neg]]
        exact t1
      · rw [t8, u7]
        have g : ∀ m, (((o_R s r).set a ((o_R s r).getD (b - 1) 0)).set (b - 1) ((o_R s r).getD a 0)).getD m 0 = if m = b - 1 then (o_R s r).getD a 0 else if m = a then (o_R s r).getD (b - 1) 0 else (o_R s r).getD m 0 := by
          intro m
          rw [gd_set m _ (by rw [List.length_set]; omega), gd_set m _ (by omega)]
        rw [g, g]
        by_cases q1 : k = a
        · rw [if_neg (by omega), if_neg (by omega), if_pos q1, if_pos (by omega)]; congr 1; omega
        · by_cases q2 : k = b - 1
          · rw [if_neg (by omega), if_pos q2, if_pos (by omega)]; congr 1; omega
          · by_cases q3 : a ≤ k ∧ k < b
            · rw [if_pos (by omega), if_neg (by omega), if_neg (by omega), if_pos q3]; congr 1; omega
            · rw [if_neg (by omega), if_neg q2, if_neg q1, if_neg q3]
theorem rv_ {N : Nat} (hr : r < 9) (hN : 20000 ≤ N) {a b : Nat} {s : o_S} (h1 : a ≤ b) (h2 : b ≤ (o_R s r).length) (h3 : (o_R s r).length ≤ 19000) : ∃ t, o_revL r N (nI a) (nI b - 1) s = some t ∧ (∀ e, GS e s → GS e t) ∧ o_F t = o_F s ∧ o_A t = o_A s ∧ o_O t = o_O s ∧ (∀ q, q ≠ r → o_R t q = o_R s q) ∧ (o_R t r).length = (o_R s r).length ∧ ∀ k, (o_R t r).getD k 0 = if a ≤ k ∧ k < b then (o_R s r).getD (a + b - 1 - k) 0 else (o_R s r).getD k 0 := by
  have := rv_L hr (b - a) a b (N - (b - a) - 1) s (by omega) h1 h2 (by omega)
  rw [show N - (b - a) - 1 + (b - a) + 1 = N by omega] at this
  exact this
theorem turn_ {N : Nat} (hr : r < 9) (hN : 20000 ≤ N) {a b c : Nat} {s : o_S} (h1 : a ≤ b) (h2 : b ≤ c) (h3 : c ≤ (o_R s r).length) (h4 : (o_R s r).length ≤ 19000) : ∃ t, o_turn N r (nI a) (nI b) (nI c) s = some t ∧ (∀ e, GS e s → GS e t) ∧ o_F t = o_F s ∧ o_A t = o_A s ∧ o_O t = o_O s ∧ (∀ q, q ≠ r → o_R t q = o_R s q) ∧ (o_R t r).length = (o_R s r).length ∧ ∀ k, (o_R t r).getD k 0 = if a ≤ k ∧ k < a + (c - b) then (o_R s r).getD (k + (b - a)) 0 else if a + (c - b) ≤ k ∧ k < c then (o_R s r).getD (k - (c - b)) 0 else (o_R s r).getD k 0 := by
  obtain ⟨t, t1, t2, t3, t4, t5, t6, t7, t8⟩ := rv_ (N := N) (s := s) hr hN h1 (by omega) h4
  obtain ⟨u, u1, u2, u3, u4, u5, u6, u7, u8⟩ := rv_ (N := N) (s := t) hr hN h2 (by omega) (by omega)
  obtain ⟨v, v1, v2, v3, v4, v5, v6, v7, v8⟩ := rv_ (N := N) (a := a) (b := c) (s := u) hr hN (by omega) (by omega) (by omega)
  refine ⟨v, ?_, fun e h => v2 e (u2 e (t2 e h)), v3.trans (u3.trans t3), v4.trans (u4.trans t4), v5.trans (u5.trans t5), fun q hq => (v6 q hq).trans ((u6 q hq).trans (t6 q hq)), v7.trans (u7.trans t7), fun k => ?_⟩
  · unfold o_turn; rw [t1]; show (o_revL r N (nI b) (nI c - 1) t).bind _ = _; rw [u1]; exact v1
  · rw [v8, u8, u8, t8, t8, t8, t8]
    by_cases q1 : a ≤ k ∧ k < a + (c - b)
    · rw [if_pos q1, if_pos (by omega), if_pos (by omega), if_neg (by omega)]; congr 1; omega
    · by_cases q2 : a + (c - b) ≤ k ∧ k < c
      · rw [if_neg q1, if_pos q2, if_pos (by omega), if_neg (by omega), if_pos (by omega)]; congr 1; omega
      · rw [if_neg q1, if_neg q2, if_neg (by omega), if_neg (by omega), if_neg (by omega)]
end
