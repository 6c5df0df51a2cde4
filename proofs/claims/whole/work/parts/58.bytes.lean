/-! THE BYTES THAT WERE GIVEN: eight in a long, those that are not zero -/
theorem by_h (x : Int64) (n : Nat) (hn : n ≤ 56) (a : UInt64) (b : Int64) (ha : a.toBitVec.toNat % 64 = n) (hb : (BitVec.smod b.toBitVec 64).toNat = n) : Int64.toInt32 ((Int64.toUInt64 x >>> a).toInt64) &&& (255 : Int32) = Int64.toInt32 ((x >>> b) &&& (255 : Int64)) := by
  apply Int32.toBitVec_inj.mp
  have e1 : (Int64.toInt32 ((Int64.toUInt64 x >>> a).toInt64) &&& (255 : Int32)).toBitVec = (x.toBitVec >>> n).setWidth 32 &&& 255#32 := by
    rw [Int32.toBitVec_and, Int64.toBitVec_toInt32, BitVec.signExtend_eq_setWidth_of_le _ (by decide)]
    show ((Int64.toUInt64 x >>> a).toBitVec).setWidth 32 &&& _ = _
    rw [UInt64.toBitVec_shiftRight]
    congr 2
    show x.toBitVec >>> (a.toBitVec % 64) = _
    rw [BitVec.ushiftRight_eq', BitVec.toNat_umod, show (64 : BitVec 64).toNat = 64 from rfl, ha]
  have e2 : (Int64.toInt32 ((x >>> b) &&& (255 : Int64))).toBitVec = (x.toBitVec.sshiftRight n &&& 255#64).setWidth 32 := by
    rw [Int64.toBitVec_toInt32, BitVec.signExtend_eq_setWidth_of_le _ (by decide), Int64.toBitVec_and, Int64.toBitVec_shiftRight]
    congr 2
    show x.toBitVec.sshiftRight (BitVec.smod b.toBitVec 64).toNat = _
    rw [hb]
  rw [e1, e2]
  apply BitVec.eq_of_getLsbD_eq
  intro i hi
  rw [BitVec.getLsbD_and, BitVec.getLsbD_setWidth, BitVec.getLsbD_setWidth, BitVec.getLsbD_and, BitVec.getLsbD_ushiftRight, BitVec.getLsbD_sshiftRight]
  by_cases h8 : i < 8
  · rw [if_pos (by omega), decide_eq_false (show ¬ 64 ≤ i by omega)]
    have : (255#32).getLsbD i = (255#64).getLsbD i := by
      have : ∀ j, j < 8 → (255#32).getLsbD j = (255#64).getLsbD j := by decide
      exact this i h8
    rw [this]
    simp [hi]
  · have h1 : (255#32).getLsbD i = false := by
      have : ∀ j, j < 32 → ¬ j < 8 → (255#32).getLsbD j = false := by decide
      exact this i hi h8
    have h2 : (255#64).getLsbD i = false := by
      have : ∀ j, j < 32 → ¬ j < 8 → (255#64).getLsbD j = false := by decide
      exact this i hi h8
    rw [h1, h2]; simp
def by_B (x : Int64) (j : Nat) : Int32 := Int64.toInt32 ((x >>> (Int32.toInt64 ((56 : Int32) - ((8 : Int32) * nI j)) &&& 63)) &&& (255 : Int64))
theorem by_cls (x : Int64) {j : Nat} (hj : j < 8) : (Int64.toInt32 ((Int64.toUInt64 x >>> ((Int32.toInt64 ((56 : Int32) - ((8 : Int32) * nI j))).toUInt64 &&& Int64.toUInt64 63)).toInt64)) &&& (255 : Int32) = by_B x j := by
  unfold by_B
  refine by_h x (56 - 8 * j) (by omega) _ _ ?_ ?_
  · have : ∀ j, j < 8 → (((Int32.toInt64 ((56 : Int32) - ((8 : Int32) * nI j))).toUInt64 &&& Int64.toUInt64 63)).toBitVec.toNat % 64 = 56 - 8 * j := by decide
    exact this j hj
  · have : ∀ j, j < 8 → (BitVec.smod (Int32.toInt64 ((56 : Int32) - ((8 : Int32) * nI j)) &&& 63 : Int64).toBitVec 64).toNat = 56 - 8 * j := by decide
    exact this j hj
theorem by_step : ∀ j, j < 8 → (56 : Int32) - ((8 : Int32) * nI j) + (-8) = (56 : Int32) - ((8 : Int32) * nI (j + 1)) ∧ ¬ (56 : Int32) - ((8 : Int32) * nI j) < 0 := by decide
def by_L (x : Int64) : Nat → Nat → List Int32
  | 0, _ => []
  | d + 1, j => if by_B x j = 0 then by_L x d (j + 1) else by_B x j :: by_L x d (j + 1)
def bys (x : Int64) : List Int32 := by_L x 8 0
theorem by_len (x : Int64) : ∀ d j, (by_L x d j).length ≤ d := by
  intro d
  induction d with
  | zero => intro j; exact Nat.le_refl _
  | succ d ih =>
    intro j
    unfold by_L
    have := ih (j + 1)
    split
    · omega
    · rw [List.length_cons]; omega
theorem bys_len (x : Int64) : (bys x).length ≤ 8 := by_len x 8 0
section
variable {N e : Nat}
theorem unp_L (x : Int64) : ∀ d j M (s : o_S), d + j = 8 → GS e s → (o_R s 1).length ≤ j → ∃ t, f_X6_unpack_L11 N (M + d + 1) x ((56 : Int32) - ((8 : Int32) * nI j)) s = some t ∧ GS e t ∧ (∀ q, o_R t q = if q = 1 then o_R s 1 ++ by_L x d j else o_R s q) ∧ o_F t = o_F s ∧ o_A t = o_A s ∧ o_O t = o_O s := by
  intro d
  induction d with
  | zero =>
    intro j M s hj hG hl
    have : j = 8 := by omega
    subst this
    refine ⟨s, ?_, hG, fun q => ?_, rfl, rfl, rfl⟩
    · unfold f_X6_unpack_L11; rw [if_pos (by decide)]
    · unfold by_L; split
      · next h => rw [h, List.append_nil]
      · rfl
  | succ d ih =>
    intro j M s hj hG hl
    obtain ⟨st, ng⟩ := by_step j (by omega)
    rw [show M + (d + 1) + 1 = (M + d + 1) + 1 by omega]
    unfold f_X6_unpack_L11
    rw [if_neg ng, by_cls x (show j < 8 by omega), st]
    unfold by_L
    by_cases hz : by_B x j = 0
    · rw [if_pos hz, if_pos hz]
      exact ih (j + 1) M s (by omega) hG (by omega)
    · rw [if_neg hz, if_neg hz]
      obtain ⟨t, p1, p2, p3, p4, p5, p6⟩ := hG.push (r := 1) (by decide) (by_B x j) (by show _ < 16384; omega)
      rw [p1, bv_s]
      obtain ⟨u, q1, q2, q3, q4, q5, q6⟩ := ih (j + 1) M t (by omega) p2 (by rw [p3, if_pos rfl, List.length_append]; show _ + 1 ≤ _; omega)
      refine ⟨u, q1, q2, fun q => ?_, q4.trans p4, q5.trans p5, q6.trans p6⟩
      rw [q3, p3, p3, if_pos rfl]
      split
      · rw [List.append_assoc]; rfl
      · rfl
theorem unp_ (hN : 2000 ≤ N) (x : Int64) {s : o_S} (hG : GS e s) : ∃ t, f_X6_unpack N x s = some t ∧ GS e t ∧ o_R t 1 = bys x ∧ (∀ q, q ≠ 1 → o_R t q = o_R s q) ∧ o_F t = o_F s ∧ o_A t = o_A s ∧ o_O t = o_O s := by
  have h1 := hG.1 1 (by decide)
  have hM : o_M 1 = 16384 := rfl
  obtain ⟨c, hc, rfl⟩ := cut_in (s := s) (r := 1) (i := 0) (by omega) (by omega)
  have h2 : GS e (o_setR s 1 (o_cap s 1) ((o_R s 1).take 0)) := hG.set (by decide) (by rw [List.length_take]; omega)
  have h3 : o_R (o_setR s 1 (o_cap s 1) ((o_R s 1).take 0)) 1 = [] := by rw [sR_R, if_pos rfl]; rfl
  obtain ⟨u, q1, q2, q3, q4, q5, q6⟩ := unp_L (N := N) x 8 0 (N - 9) _ (by omega) h2 (by rw [h3]; exact Nat.le_refl _)
  refine ⟨u, ?_, q2, ?_, fun q hq => ?_, q4, q5, q6⟩
  · unfold f_X6_unpack
    rw [show (0 : Int32) = nI 0 from rfl, hc, do_e, show N = (N - 9) + 8 + 1 by omega]
    rw [show (N - 9) + 8 + 1 = N by omega]
    rw [show (N - 9) + 8 + 1 = N by omega] at q1
    exact q1
  · rw [q3, if_pos rfl, h3]; rfl
  · rw [q3, if_neg hq, sR_R, if_neg hq]
/-- the reference's bytes -/
def FD (l : List Int32) (s : o_S) : Prop := ∀ i, i < l.length → o_A s 14 i = l.getD i 0
theorem take_L (x : Int64) : ∀ d j c M (s : o_S), d + j = 8 → c ≤ j → ∃ t, f_X7_take_L5 N (M + d + 1) x (nI c) (nI j) s = some (nI (c + (by_L x d j).length), t) ∧ (∀ e, GS e s → GS e t) ∧ o_F t = o_F s ∧ o_R t = o_R s ∧ o_O t = o_O s ∧ (∀ a, a ≠ 14 → o_A t a = o_A s a) ∧ (∀ i, i < c → o_A t 14 i = o_A s 14 i) ∧ ∀ i, i < (by_L x d j).length → o_A t 14 (c + i) = (by_L x d j).getD i 0 := by
  intro d
  induction d with
  | zero =>
    intro j c M s hj hc
    have : j = 8 := by omega
    subst this
    refine ⟨s, ?_, fun _ h => h, rfl, rfl, rfl, fun _ _ => rfl, fun _ _ => rfl, fun i hi => absurd hi (by unfold by_L; exact Nat.not_lt_zero _)⟩
    unfold f_X7_take_L5; rw [if_pos (by decide)]; rfl
  | succ d ih =>
    intro j c M s hj hc
    rw [show M + (d + 1) + 1 = (M + d + 1) + 1 by omega]
    unfold f_X7_take_L5
    rw [if_neg (show ¬ (8 : Int32) ≤ nI j from fun q => absurd ((nI_leI (a := 8) (by decide) (by omega)).mp q) (by omega))]
    have hb : ∀ (u : o_S), f_X7_byteOf N x (nI j) u = some (by_B x j, u) := fun u => rfl
    rw [hb, bi_s, show nI j + (1 : Int32) = nI (j + 1) by rw [show (1 : Int32) = nI 1 from rfl, nI_add]]
    unfold by_L
    by_cases hz : by_B x j = 0
    · rw [if_pos hz, if_pos hz]
      exact ih (j + 1) c M s (by omega) (by omega)
    · rw [if_neg hz, if_neg hz, hb, bi_s, st_ (show c < 8 by omega) (by decide), show nI c + (1 : Int32) = nI (c + 1) by rw [show (1 : Int32) = nI 1 from rfl, nI_add]]
      obtain ⟨t, q1, q2, q3, q4, q5, q6, q7, q8⟩ := ih (j + 1) (c + 1) M (o_setA s 14 c (by_B x j)) (by omega) (by omega)
      refine ⟨t, ?_, fun e h => q2 e (h.A _ _ _), q3, q4, q5, fun a ha => ?_, fun i hi => ?_, fun i hi => ?_⟩
      · rw [q1, List.length_cons]; congr 3; omega
      · rw [q6 a ha]; funext i; rw [sA_A, if_neg ha]
      · rw [q7 i (by omega), sA_A, if_pos rfl, if_neg (by omega)]
      · cases i with
        | zero => rw [q7 (c + 0) (by omega), sA_A, if_pos rfl, if_pos (Nat.add_zero c)]; rfl
        | succ i =>
          rw [List.length_cons] at hi
          rw [show c + (i + 1) = c + 1 + i by omega, q8 i (by omega)]; rfl
theorem take_ (hN : 2000 ≤ N) (x : Int64) (s : o_S) : ∃ t, f_X7_take N x s = some (nI (bys x).length, t) ∧ (∀ e, GS e s → GS e t) ∧ o_F t = o_F s ∧ o_R t = o_R s ∧ o_O t = o_O s ∧ (∀ a, a ≠ 14 → o_A t a = o_A s a) ∧ FD (bys x) t := by
  obtain ⟨t, q1, q2, q3, q4, q5, q6, q7, q8⟩ := take_L (N := N) x 8 0 0 (N - 9) s (by omega) (by omega)
  rw [show (N - 9) + 8 + 1 = N by omega, Nat.zero_add] at q1
  exact ⟨t, q1, q2, q3, q4, q5, q6, fun i hi => by have := q8 i hi; rw [Nat.zero_add] at this; exact this⟩
end
