section
variable {N e : Nat} {s : o_S}
theorem l_length (hI : Inv e s) : PQ (f_X6_length N s) (fun t => f_X7_length N t) e := by
  obtain ⟨-, T, n, kd, lv, dp, w, ids, hv⟩ := id hI
  refine ⟨nI T.length, s, o_setF s 15 0, ?_, ?_, LO.inv hI (lo_F15 _ _) (hI.1.up (by omega))⟩
  · unfold f_X6_length; rw [hv.1.1]
  · show f_X7_length N s = _
    unfold f_X7_length; rw [do_e, sF_F, if_neg (by decide), hv.1.2.2.1]
theorem l_nodeCount (hI : Inv e s) : PQ (f_X6_nodeCount N s) (fun t => f_X7_nodeCount N t) e := by
  obtain ⟨-, T, n, kd, lv, dp, w, ids, hv⟩ := id hI
  refine ⟨nI n, s, o_setF s 15 0, ?_, ?_, LO.inv hI (lo_F15 _ _) (hI.1.up (by omega))⟩
  · unfold f_X6_nodeCount f_X5_size; rw [bi_s, hv.f1]
  · show f_X7_nodeCount N s = _
    unfold f_X7_nodeCount; rw [do_e, sF_F, if_neg (by decide), hv.f18]
theorem l_repairCount (hI : Inv e s) : PQ (f_X6_repairCount N s) (fun t => f_X7_repairCount N t) e := by
  obtain ⟨-, T, n, kd, lv, dp, w, ids, hv⟩ := id hI
  obtain ⟨k, p1, p2, p3, p4, p5⟩ := hv.2.2.2.2.1
  refine ⟨nI k, s, o_setF s 15 0, ?_, ?_, LO.inv hI (lo_F15 _ _) (hI.1.up (by omega))⟩
  · unfold f_X6_repairCount f_X3_size; rw [bi_s, p2]
  · show f_X7_repairCount N s = _
    unfold f_X7_repairCount; rw [do_e, sF_F, if_neg (by decide), p4]
theorem l_written (hI : Inv e s) (p : Int32) : PX (f_L_written N p s) (fun t => f_X7_written N p t) e := by
  obtain ⟨-, T, n, kd, lv, dp, w, ids, hv⟩ := id hI
  obtain ⟨u1, u2, u3⟩ := hv.2.2.2.2.2.1
  rcases nodeP (o_R s 8).length (by omega) p with hp | ⟨i, hi, rfl⟩
  · refine PX.bad (k := 1) (v := 0) hI ?_ ?_ (by decide)
    · unfold f_L_written f_X6_written f_X2_size
      rcases hp with q | ⟨q1, q2, -⟩
      · rw [if_pos q]; rfl
      · rw [if_neg q1, bi_s, if_neg q2]; rfl
    · unfold f_X7_written
      rw [do_e]
      rcases hp with q | ⟨q1, -, q2⟩
      · rw [if_pos q, fail_]; rfl
      · rw [if_neg q1, show o_F (o_setF (o_addK s 3) 15 0) 20 = nI (o_R s 8).length from u1, if_pos q2, fail_]; rfl
  · refine PX.ok (v := (o_R s 8).getD i 0) hI ?_ ?_
    · unfold f_L_written f_X6_written f_X2_size f_X2_get; rw [if_neg (nI_pos (by omega)), bi_s, if_pos (nI_lt hi (by omega)), do_e, at_in hi (by omega)]; rfl
    · unfold f_X7_written
      rw [do_e, if_neg (nI_pos (by omega)), show o_F (o_setF (o_setO s 0 (Int32.toInt64 ((o_R s 8).getD i 0))) 15 0) 20 = nI (o_R s 8).length from u1, if_neg (fun q => absurd ((nI_leI (by omega) (by omega)).mp q) (by omega)), ld_ (show i < 60000 by omega) (by decide), sF_A, sO_A, u3 i hi]
theorem l_repair (hI : Inv e s) (p x : Int32) : PX (f_L_repair N p x s) (fun t => f_X7_repair_ N p x t) e := by
  obtain ⟨-, T, n, kd, lv, dp, w, ids, hv⟩ := id hI
  obtain ⟨k, p1, p2, p3, p4, p5⟩ := hv.2.2.2.2.1
  have bad : (p < 0 ∨ (¬ p < 0 ∧ ¬ p < nI k ∧ nI k ≤ p)) ∨ (∃ i, i < k ∧ p = nI i) ∧ (x < 0 ∨ (¬ x < 0 ∧ ¬ x < 3 ∧ 2 < x)) → PX (f_L_repair N p x s) (fun t => f_X7_repair_ N p x t) e := by
    intro hb
    refine PX.bad (k := 1) (v := 0) hI ?_ ?_ (by decide)
    · unfold f_L_repair f_X6_repair f_X3_size
      rcases hb with (q | ⟨q1, -, q2⟩) | ⟨⟨i, hi, rfl⟩, hx⟩
      · rw [if_pos q]; rfl
      · rw [if_neg q1, bi_s, p2, if_pos q2]; rfl
      · rw [if_neg (nI_pos (by omega)), bi_s, p2, if_neg (fun q => absurd ((nI_leI (by omega) (by omega)).mp q) (by omega))]
        rcases hx with q | ⟨q1, q2, -⟩
        · rw [if_pos q]; rfl
        · rw [if_neg q1, if_neg q2]; rfl
    · unfold f_X7_repair_
      rw [do_e]
      rcases hb with (q | ⟨q1, -, q2⟩) | ⟨⟨i, hi, rfl⟩, hx⟩
      · rw [if_pos q, fail_]; rfl
      · rw [if_neg q1, show o_F (o_setF (o_addK s 3) 15 0) 19 = nI k from p4, if_pos q2, fail_]; rfl
      · rw [if_neg (nI_pos (by omega)), show o_F (o_setF (o_addK s 3) 15 0) 19 = nI k from p4, if_neg (fun q => absurd ((nI_leI (by omega) (by omega)).mp q) (by omega))]
        rcases hx with q | ⟨q1, -, q2⟩
        · rw [if_pos q, fail_]; rfl
        · rw [if_neg q1, if_pos q2, fail_]; rfl
  rcases nodeP k (by omega) p with hp | ⟨i, hi, rfl⟩
  · exact bad (Or.inl hp)
  · rcases ni_cases x with hx | ⟨j, hj, rfl⟩
    · exact bad (Or.inr ⟨⟨i, hi, rfl⟩, Or.inl hx⟩)
    · by_cases q : j < 3
      · refine PX.ok (v := (o_R s 2).getD (3 * i + j) 0) hI ?_ ?_
        · unfold f_L_repair f_X6_repair f_X3_size f_X3_get
          rw [if_neg (nI_pos (by omega)), bi_s, p2, if_neg (fun q => absurd ((nI_leI (by omega) (by omega)).mp q) (by omega)), if_neg (nI_pos hj), if_llt 3 3 rfl hj (by decide), if_pos q, do_e, show nI i * (3 : Int32) + nI j = nI (3 * i + j) by rw [show (3 : Int32) = nI 3 from rfl, pk_mul, nI_add, Nat.mul_comm], at_in (by omega) (by omega)]; rfl
        · unfold f_X7_repair_
          rw [do_e, if_neg (nI_pos (by omega)), show o_F (o_setF (o_setO s 0 (Int32.toInt64 ((o_R s 2).getD (3 * i + j) 0))) 15 0) 19 = nI k from p4, if_neg (fun q => absurd ((nI_leI (by omega) (by omega)).mp q) (by omega)), if_neg (nI_pos hj), if_neg (show ¬ (2 : Int32) < nI j from fun z => absurd ((nI_ltI (a := 2) (by decide) hj).mp z) (by omega)), show (3 : Int32) * nI i + nI j = nI (3 * i + j) by rw [show (3 : Int32) = nI 3 from rfl, pk_mul, nI_add], ld_ (show 3 * i + j < 3900 by omega) (by decide), sF_A, sO_A, p5 _ (by omega)]
      · exact bad (Or.inr ⟨⟨i, hi, rfl⟩, Or.inr ⟨nI_pos hj, fun z => absurd ((nI_ltI (b := 3) hj (by decide)).mp z) q, nI_lt (a := 2) (by omega) hj⟩⟩)
/-- the text is shortened: on both sides -/
theorem l_trim (hI : Inv e s) (p : Int32) : PX (f_L_trim N p s) (fun t => f_X7_trim N p t) e := by
  obtain ⟨hG, T, n, kd, lv, dp, w, ids, hv⟩ := id hI
  obtain ⟨t1, t2, t3, t4⟩ := hv.1
  have bad : (p < 0 ∨ (¬ p < 0 ∧ ¬ p ≤ nI T.length)) → PX (f_L_trim N p s) (fun t => f_X7_trim N p t) e := by
    intro hb
    refine PX.bad (k := 1) (v := 0) hI ?_ ?_ (by decide)
    · unfold f_L_trim f_X6_trim
      rcases hb with q | ⟨q1, q2⟩
      · rw [if_pos q]; rfl
      · rw [if_neg q1, t1, if_neg q2]; rfl
    · unfold f_X7_trim
      rw [do_e]
      rcases hb with q | ⟨q1, q2⟩
      · rw [if_pos q, fail_]; rfl
      · rw [if_neg q1, show o_F (o_setF (o_addK s 3) 15 0) 16 = nI T.length from t3, if_neg q2, fail_]; rfl
  rcases ni_cases p with hp | ⟨j, hj, rfl⟩
  · exact bad (Or.inl hp)
  · by_cases q : j ≤ T.length
    · obtain ⟨c, hc, rfl⟩ := cut_in (s := s) (r := 0) (i := j) (by rw [t1]; exact q) (by rw [t1]; omega)
      have hle : ((o_R s 0).take j).length ≤ o_cap s 0 := by
        have := (hG.1 0 (by decide)).1
        rw [List.length_take]; omega
      refine ⟨0, o_setO (o_setR s 0 (o_cap s 0) ((o_R s 0).take j)) 0 (Int32.toInt64 (nI T.length)), nI T.length, o_setF (o_setF (o_setO (o_setR s 0 (o_cap s 0) ((o_R s 0).take j)) 0 (Int32.toInt64 (nI T.length))) 15 0) 16 (nI j), ?_, ?_, ?_, ?_, (hG.set (by decide) hle).up (by omega), T.take j, n, kd, lv, dp, w, ids, ?_⟩
      · unfold f_L_trim f_X6_trim; rw [if_neg (nI_pos hj), t1, if_pos (nI_le q (by omega)), do_e, hc, t1]; rfl
      · show f_X7_trim N (nI j) _ = _
        unfold f_X7_trim; rw [do_e, if_neg (nI_pos hj), show o_F (o_setF (o_setO (o_setR s 0 (o_cap s 0) ((o_R s 0).take j)) 0 (Int32.toInt64 (nI T.length))) 15 0) 16 = nI T.length from t3, if_pos (nI_le q (by omega)), do_e]
      · rw [sF_F, if_neg (by decide), sF_F, if_pos rfl]
      · intro _; rw [sF_O, sF_O, sO_O, if_pos rfl]
      · obtain ⟨-, ⟨c1, c2, c3, c4, c5, c6⟩, hT, ⟨r1, r2, r3, r4, r5, r6⟩, ⟨k, p1, p2, p3, p4, p5⟩, ⟨u1, u2, u3⟩, ⟨rm, l1, l2⟩, ⟨b1, b2⟩⟩ := hv
        refine ⟨⟨?_, ?_, ?_, ?_⟩, ⟨c1, c2, c3, c4, c5, c6⟩, hT, ⟨r1, r2, r3, r4, r5, r6⟩, ⟨k, p1, p2, p3, p4, p5⟩, ⟨u1, u2, u3⟩, ⟨rm, l1, l2⟩, ⟨b1, b2⟩⟩
        · rw [sF_R, sF_R, sO_R, sR_R, if_pos rfl, t1]
        · rw [List.length_take]; omega
        · rw [sF_F, if_pos rfl, List.length_take, Nat.min_eq_left q]
        · intro i hi
          rw [List.length_take] at hi
          rw [sF_A, sF_A, sO_A, sR_A, t4 i (by omega), List.getD_eq_getElem?_getD, List.getD_eq_getElem?_getD, List.getElem?_take, if_pos (by omega)]
    · exact bad (Or.inr ⟨nI_pos hj, fun z => q ((nI_leI hj (by omega)).mp z)⟩)
end
