/-! FIND -/
theorem if_b {α : Type} {c : Prop} [Decidable c] (x y : α) : (if (if c then (1 : Int32) else 0) = 0 then x else y) = if c then y else x := by
  by_cases h : c
  · rw [if_pos h, if_pos h, if_neg (by decide)]
  · rw [if_neg h, if_neg h, if_pos rfl]
section
variable {N e n : Nat} {s : o_S} {T l : List Int32} {kd lv dp : Nat → Nat} {w : Nat → List Int32} {ids : Nat → Nat}
theorem sp_L (h : CT s n kd lv dp w) (h1 : o_R s 1 = l) {i : Nat} (hi : i < n) (hk : kd i = 2) (hl : l.length ≤ 8) (hw : (w i).length = l.length) : ∀ d j M, j + d = l.length → f_X5_isSpelled_L17 N (M + d + 1) (nI i) (nI j) s = some (if (w i).drop j = l.drop j then 1 else 0, s) := by
  intro d
  induction d with
  | zero =>
    intro j M hj
    unfold f_X5_isSpelled_L17
    rw [h1, if_pos (nI_le (by omega) (by omega)), List.drop_of_length_le (by omega), List.drop_of_length_le (by omega), if_pos rfl]
  | succ d ih =>
    intro j M hj
    rw [show M + (d + 1) + 1 = (M + d + 1) + 1 by omega]
    unfold f_X5_isSpelled_L17
    rw [h1, if_neg (fun q => absurd ((nI_leI (by omega) (by omega)).mp q) (by omega)), ct_letter h hi hk, bi_s, at_in (by rw [h1]; omega) (by rw [h1]; omega), do_e, h1, if_neg (nI_pos (by omega)), if_neg (fun q => absurd ((nI_leI (by omega) (by omega)).mp q) (by omega)), nI_clamp (by omega), ni_p1, ih (j + 1) M (by omega), dr_ (show j < l.length by omega), dr_ (show j < (w i).length by omega)]
    by_cases c : (w i).getD j 0 = l.getD j 0
    · rw [if_pos c, c]
      by_cases c2 : (w i).drop (j + 1) = l.drop (j + 1)
      · rw [if_pos c2, c2, if_pos rfl]
      · rw [if_neg c2, if_neg (fun q => c2 (List.cons.inj q).2)]
    · rw [if_neg c, if_neg (fun q => c (List.cons.inj q).1)]
theorem sp_ (hN : 2000 ≤ N) (h : CT s n kd lv dp w) (h1 : o_R s 1 = l) {i : Nat} (hi : i < n) (hk : kd i = 2) (hl : l.length ≤ 8) (hw : (w i).length < 2 ^ 31) : f_X5_isSpelled N (nI i) s = some (if w i = l then 1 else 0, s) := by
  obtain ⟨e5, -⟩ := h.2.2.2.2.2 i hi hk
  unfold f_X5_isSpelled
  rw [show (5 : Int32) = nI 5 from rfl, ct_get h hi 5 (by decide), bi_s, e5, h1, if_ni_eq hw (by omega)]
  by_cases c : (w i).length = l.length
  · have := sp_L (N := N) h h1 hi hk hl c l.length 0 (N - l.length - 1) (by omega)
    rw [show N - l.length - 1 + l.length + 1 = N by omega, List.drop_zero, List.drop_zero] at this
    rw [if_pos c]; exact this
  · rw [if_neg c, if_neg (fun q => c (by rw [q]))]
theorem fd_L (h : IV s T n kd lv dp w ids) (h1 : FD l s) {i : Nat} (hi : i < n) (hk : kd i = 2) (hl : l.length ≤ 8) (hw : (w i).length = l.length) : ∀ d j M, j + d = l.length → f_X7_isFed_L24 N (M + d + 1) (nI (ids i)) (nI l.length) (nI j) s = some (if (w i).drop j = l.drop j then 1 else 0, s) := by
  obtain ⟨a, ha, hb, hc⟩ := h.rm.2.2.2.2.2 i hi hk
  have hid := h.id hi
  intro d
  induction d with
  | zero =>
    intro j M hj
    unfold f_X7_isFed_L24
    rw [if_pos (nI_le (by omega) (by omega)), List.drop_of_length_le (by omega), List.drop_of_length_le (by omega), if_pos rfl]
  | succ d ih =>
    intro j M hj
    rw [show M + (d + 1) + 1 = (M + d + 1) + 1 by omega]
    unfold f_X7_isFed_L24
    rw [if_neg (fun q => absurd ((nI_leI (by omega) (by omega)).mp q) (by omega)), ld_ hid (by decide), ha, nI_add, ld_ (show a + j < 12600 by omega) (by decide), ld_ (show j < 8 by omega) (by decide), hc j (by omega), h1 j (by omega), ni_p1, ih (j + 1) M (by omega), dr_ (show j < l.length by omega), dr_ (show j < (w i).length by omega)]
    by_cases c : (w i).getD j 0 = l.getD j 0
    · rw [if_pos c, c]
      by_cases c2 : (w i).drop (j + 1) = l.drop (j + 1)
      · rw [if_pos c2, c2, if_pos rfl]
      · rw [if_neg c2, if_neg (fun q => c2 (List.cons.inj q).2)]
    · rw [if_neg c, if_neg (fun q => c (List.cons.inj q).1)]
theorem IV.wlen (h : IV s T n kd lv dp w ids) {i : Nat} (hi : i < n) (hk : kd i = 2) : (w i).length ≤ 600 := by
  obtain ⟨a, ha, hb, hc⟩ := h.rm.2.2.2.2.2 i hi hk
  omega
theorem fd_ (hN : 2000 ≤ N) (h : IV s T n kd lv dp w ids) (h1 : FD l s) {i : Nat} (hi : i < n) (hl : l.length ≤ 8) : f_X7_isFed N (nI (ids i)) (nI l.length) s = some (if kd i = 2 ∧ w i = l then 1 else 0, s) := by
  have hid := h.id hi
  have hk4 := (h.ct.2.2.2.2.1 i hi).2.1
  unfold f_X7_isFed
  rw [ld_ hid (by decide), h.kk hi, if_lit 2 2 rfl (by omega) (by decide)]
  by_cases hk : kd i = 2
  · have hw := h.wlen hi hk
    obtain ⟨e5, -⟩ := h.ct.2.2.2.2.2 i hi hk
    rw [if_pos hk, ld_ hid (by decide), (h.rm.2.2.2.2.1 i hi).2.2.2, e5, if_ni_eq (by omega) (by omega)]
    by_cases c : (w i).length = l.length
    · have := fd_L (N := N) h h1 hi hk hl c l.length 0 (N - l.length - 1) (by omega)
      rw [show N - l.length - 1 + l.length + 1 = N by omega, List.drop_zero, List.drop_zero] at this
      rw [if_pos c]
      refine this.trans ?_
      congr 2
      by_cases c3 : w i = l
      · rw [if_pos c3, if_pos ⟨hk, c3⟩]
      · rw [if_neg c3, if_neg (fun q => c3 q.2)]
    · rw [if_neg c, if_neg (fun q => c (by rw [q.2]))]
  · rw [if_neg hk, if_neg (fun q => hk q.1)]
/-- the place with this index among the nodes of this spelling, or -1 -/
def fi_ (kd : Nat → Nat) (w : Nat → List Int32) (l : List Int32) : Nat → Nat → Nat → Int32
  | 0, _, _ => -1
  | d + 1, i, y => if kd i = 2 ∧ w i = l then (if y = 0 then nI i else fi_ kd w l d (i + 1) (y - 1)) else fi_ kd w l d (i + 1) y
theorem nw_L (hN : 2000 ≤ N) (h : IV s T n kd lv dp w ids) (h1 : o_R s 1 = l) (hl : l.length ≤ 8) (x : Int32) : ∀ d i c M, i + d = n → c ≤ i → f_X5_nthWord_L5 N (M + d + 1) x (nI c) (nI i) s = some (if x < 0 then -1 else if x < nI c then -1 else fi_ kd w l d i (x.toNatClampNeg - c), s) := by
  have hn := h.nn
  intro d
  induction d with
  | zero =>
    intro i c M hi hc
    unfold f_X5_nthWord_L5 fi_
    rw [h.f1, if_pos (nI_le (by omega) (by omega)), ite_self, ite_self]
  | succ d ih =>
    intro i c M hi hc
    rw [show M + (d + 1) + 1 = (M + d + 1) + 1 by omega]
    unfold f_X5_nthWord_L5
    rw [h.f1, if_neg (fun q => absurd ((nI_leI (by omega) (by omega)).mp q) (by omega)), show (2 : Int32) = nI 2 from rfl, ct_is h.ct (by omega) 2 (by decide), bi_s, if_b, ni_p1, ni_p1]
    unfold fi_
    by_cases hk : kd i = 2
    · rw [if_pos hk, sp_ hN h.ct h1 (show i < n by omega) hk hl (by have := h.wlen (show i < n by omega) hk; omega), bi_s, if_b]
      by_cases hw : w i = l
      · rw [if_pos hw, if_pos (show kd i = 2 ∧ w i = l from ⟨hk, hw⟩)]
        rcases ni_cases x with hx | ⟨X, hX, rfl⟩
        · rw [if_neg (fun q => by rw [← q] at hx; exact nI_pos (by omega) hx), ih (i + 1) (c + 1) M (by omega) (by omega), if_pos hx, if_pos hx]
        · rw [if_ni_eq (by omega) hX, if_neg (nI_pos hX), nI_clamp hX, if_ni_lt hX (by omega)]
          by_cases e1 : c = X
          · rw [if_pos e1, if_neg (by omega), if_pos (by omega)]
          · rw [if_neg e1, ih (i + 1) (c + 1) M (by omega) (by omega), if_neg (nI_pos hX), nI_clamp hX, if_ni_lt hX (by omega)]
            by_cases e2 : X < c
            · rw [if_pos e2, if_pos (by omega)]
            · rw [if_neg e2, if_neg (by omega), if_neg (by omega), show X - (c + 1) = X - c - 1 by omega]
      · rw [if_neg hw, if_neg (fun q : kd i = 2 ∧ w i = l => hw q.2), ih (i + 1) c M (by omega) (by omega)]
    · rw [if_neg hk, if_neg (fun q : kd i = 2 ∧ w i = l => hk q.1), ih (i + 1) c M (by omega) (by omega)]
theorem fn_L (hN : 2000 ≤ N) (h : IV s T n kd lv dp w ids) (h1 : FD l s) (hl : l.length ≤ 8) : ∀ d i (x : Int32) M, i + d = n → f_X7_find_L18 N (M + d + 1) (nI l.length) x (nI i) s = some (if x < 0 then -1 else fi_ kd w l d i x.toNatClampNeg, s) := by
  have hn := h.nn
  intro d
  induction d with
  | zero =>
    intro i x M hi
    unfold f_X7_find_L18 fi_
    rw [h.f18, if_pos (nI_le (by omega) (by omega)), ite_self]
  | succ d ih =>
    intro i x M hi
    rw [show M + (d + 1) + 1 = (M + d + 1) + 1 by omega]
    unfold f_X7_find_L18
    rw [h.f18, if_neg (fun q => absurd ((nI_leI (by omega) (by omega)).mp q) (by omega))]
    by_cases hx : x < 0
    · rw [if_pos hx, if_pos hx]
    · rw [if_neg hx, if_neg hx, ld_ (show i < 1500 by omega) (by decide), h.no (by omega), fd_ hN h h1 (by omega) hl, bi_s, if_b, ni_p1]
      obtain ⟨X, hX, rfl⟩ := nI_of hx
      unfold fi_
      by_cases hk : kd i = 2 ∧ w i = l
      · rw [if_pos hk, if_pos hk, if_lit 0 0 rfl hX (by decide), nI_clamp hX]
        by_cases e1 : X = 0
        · rw [if_pos e1, if_pos e1]
        · rw [if_neg e1, if_neg e1, show nI X + (-1 : Int32) = nI (X - 1) from ni_m1 (by omega), ih (i + 1) _ M (by omega), if_neg (nI_pos (by omega)), nI_clamp (by omega)]
      · rw [if_neg hk, if_neg hk, ih (i + 1) _ M (by omega), if_neg hx]
end
theorem l_find {N e : Nat} {s : o_S} (hN : 2000 ≤ N) (hI : Inv e s) (x : Int64) (p : Int32) : PQ (f_X6_find N x p s) (fun t => f_X7_find N x p t) e := by
  obtain ⟨hG, T, n, kd, lv, dp, w, ids, hv⟩ := id hI
  have hn := hv.nn
  have hl := bys_len x
  obtain ⟨a, a1, a2, a3, a4, a5, a6, a7⟩ := unp_ (N := N) hN x hG
  have ha := (lo_unp a4 a5 a6).iv hv
  obtain ⟨b, b1, b2, b3, b4, b5, b6, b7⟩ := take_ (N := N) hN x (o_setF a 15 0)
  have hlo : LO s b := ((lo_unp a4 a5 a6).tr (lo_F15 a 0)).tr (lo_take b3 b4 b6)
  have hb := hlo.iv hv
  have e1 := nw_L (N := N) hN ha a3 hl p n 0 0 (N - n - 1) (by omega) (by omega)
  have e2 := fn_L (N := N) hN hb b7 hl n 0 p (N - n - 1) (by omega)
  rw [show N - n - 1 + n + 1 = N by omega] at e1 e2
  refine ⟨if p < 0 then -1 else fi_ kd w (bys x) n 0 p.toNatClampNeg, a, b, ?_, ?_, LO.inv hI hlo (b2 _ ((a2.up (by omega)).F _ _))⟩
  · unfold f_X6_find f_X5_nthWord
    rw [a1, bv_s]
    show o_bi (f_X5_nthWord_L5 N N p (nI 0) (nI 0) a) _ = _
    rw [e1, bi_s, Nat.sub_zero]
    congr 2
    by_cases q : p < 0
    · rw [if_pos q, if_pos q]
    · rw [if_neg q, if_neg q, if_neg (show ¬ p < nI 0 from q)]
  · show f_X7_find N x p a = _
    unfold f_X7_find
    rw [do_e, b1, bi_s]
    exact e2
