/-- the depth, by the parents -/
theorem ti_dp {n : Nat} {kd lv dp : Nat → Nat} (h : TI n kd lv dp) : ∀ i, i < n → acn (q_bg kd false) lv i = dp i := by
  intro i
  induction i using Nat.strongRecOn with
  | _ i ih =>
    intro hi
    rcases Nat.eq_zero_or_pos i with z | z
    · subst z; rw [acn_0, h.2.2.1]
    · obtain ⟨p1, -, -⟩ := h.1.par z hi
      rw [acn_s h.1 _ z hi, ih _ p1 (by omega), (h.2.2.2.1 i z hi).2]
      unfold q_bg
      split
      · omega
      · rw [if_neg (by decide)]; omega
/-- blocks and groups around a node: what levels and depths say of them -/
theorem ti_bg {n : Nat} {kd lv dp : Nat → Nat} (h : TI n kd lv dp) : ∀ i, i < n → (kd i = 1 → lv i + 1 = 2 * dp i ∧ acn (q_bg kd true) lv i = dp i) ∧ (kd i = 0 → lv i = 2 * dp i ∧ acn (q_bg kd true) lv i = dp i) ∧ (kd i ≠ 1 → acn (q_bg kd true) lv i + dp i = lv i) := by
  intro i
  induction i using Nat.strongRecOn with
  | _ i ih =>
    intro hi
    rcases Nat.eq_zero_or_pos i with z | z
    · subst z
      rw [acn_0, h.2.2.1, h.1.2.2.1, h.2.1]
      exact ⟨fun q => by omega, fun _ => ⟨rfl, rfl⟩, fun _ => rfl⟩
    · obtain ⟨p1, p2, -⟩ := h.1.par z hi
      obtain ⟨c1, c2⟩ := h.2.2.2.1 i z hi
      obtain ⟨i1, i2, i3⟩ := ih _ p1 (by omega)
      have ha := acn_s h.1 (q_bg kd true) z hi
      unfold q_bg at ha
      rcases c1 with ⟨k1, k2⟩ | ⟨k1, k2⟩ | ⟨k1, k2⟩
      · rw [if_pos k1] at ha c2
        obtain ⟨j1, j2⟩ := i2 k1
        unfold q_bg at j2 ⊢
        exact ⟨fun _ => ⟨by omega, by omega⟩, fun q => by omega, fun q => by omega⟩
      · rw [if_neg (by omega)] at ha c2
        rw [if_pos rfl, if_neg (by omega)] at ha
        obtain ⟨j1, j2⟩ := i1 k1
        unfold q_bg at j2 ⊢
        exact ⟨fun q => by omega, fun q => ⟨by omega, by omega⟩, fun _ => by omega⟩
      · rw [if_neg (by omega)] at ha c2
        rw [if_pos rfl, if_pos k1] at ha
        have j := i3 (by omega)
        unfold q_bg at j ⊢
        exact ⟨fun q => by omega, fun q => by omega, fun _ => by omega⟩
/-- an index among the children: found, or not -/
theorem t_nth_spec (lv : Nat → Nat) (L x : Nat) (hx : x < 2 ^ 31) : ∀ d c e, c + d < 2 ^ 31 → c ≤ x → (x < c + t_cnt lv L d e → ∃ k, e ≤ k ∧ k < e + d ∧ lv k = L ∧ t_nth lv L (nI x) d c e = nI k) ∧ (c + t_cnt lv L d e ≤ x → t_nth lv L (nI x) d c e = -1) := by
  intro d
  induction d with
  | zero => intro c e _ hc; exact ⟨fun q => by rw [t_cnt] at q; omega, fun _ => rfl⟩
  | succ d ih =>
    intro c e hb hc
    rw [t_cnt, t_nth]
    by_cases q : lv e = L
    · rw [if_pos q, if_pos q, if_ni_eq (by omega) hx]
      by_cases q2 : c = x
      · rw [if_pos q2]
        exact ⟨fun _ => ⟨e, Nat.le_refl _, by omega, q, rfl⟩, fun z => by omega⟩
      · rw [if_neg q2]
        obtain ⟨a, b⟩ := ih (c + 1) (e + 1) (by omega) (by omega)
        refine ⟨fun z => ?_, fun z => b (by omega)⟩
        obtain ⟨k, k1, k2, k3, k4⟩ := a (by omega)
        exact ⟨k, by omega, by omega, k3, k4⟩
    · rw [if_neg q, if_neg q]
      obtain ⟨a, b⟩ := ih c (e + 1) (by omega) hc
      refine ⟨fun z => ?_, fun z => b (by omega)⟩
      obtain ⟨k, k1, k2, k3, k4⟩ := a (by omega)
      exact ⟨k, by omega, by omega, k3, k4⟩
theorem t_nth_neg (lv : Nat → Nat) (L : Nat) {x : Int32} (hx : x < 0) : ∀ d c e, c + d < 2 ^ 31 → t_nth lv L x d c e = -1 := by
  intro d
  induction d with
  | zero => intro c e _; rfl
  | succ d ih =>
    intro c e hb
    rw [t_nth]
    split
    · rw [if_neg (fun z => by rw [← z] at hx; exact nI_pos (by omega) hx)]
      exact ih _ _ (by omega)
    · exact ih _ _ (by omega)
section
variable {N e : Nat} {s : o_S}
theorem l_depth (hN : 2000 ≤ N) (hI : Inv e s) (p : Int32) : PX (f_L_depth N p s) (fun t => f_X7_depth N p t) e := by
  obtain ⟨-, T, n, kd, lv, dp, w, ids, hv⟩ := id hI
  have hn := hv.nn
  rcases nodeP n (by omega) p with hp | ⟨i, hi, rfl⟩
  · refine PX.bad (k := 1) (v := 0) hI ?_ ?_ (by decide)
    · unfold f_L_depth f_X6_depth; rw [chk_bad hv.f1 hp]; rfl
    · unfold f_X7_depth; rw [do_e, isn_bad (s := o_setF (o_addK s 3) 15 0) (n := n) hv.f18 hp, bi_s, if_pos rfl, fail_]; rfl
  · have hc := (hv.ct.2.2.2.2.1 i hi)
    refine PX.ok (v := nI (dp i)) hI ?_ ?_
    · unfold f_L_depth f_X6_depth; rw [chk_ok hv.f1 (by omega) hi, bx_r, show (2 : Int32) = nI 2 from rfl, ct_get hv.ct hi 2 (by decide), hc.2.2.2.2.1]; rfl
    · have h2 := ((lo_O s 0 (Int32.toInt64 (nI (dp i)))).tr (lo_F15 _ 0)).iv hv
      unfold f_X7_depth
      rw [do_e, isn_ok h2.f18 (by omega) hi, bi_s, if_neg (by decide), ld_ (show i < 1500 by omega) (by decide), h2.no hi, lk_depth (kd := kd) (wg := false) h2.lk h2.wl hN (fun j hj => ⟨h2.kk hj, (h2.ct.2.2.2.2.1 j hj).2.1⟩) (by decide) hi, ti_dp h2.ti i hi]; rfl
theorem l_child (hN : 2000 ≤ N) (hI : Inv e s) (p x : Int32) : PX (f_L_child N p x s) (fun t => f_X7_child N p x t) e := by
  obtain ⟨-, T, n, kd, lv, dp, w, ids, hv⟩ := id hI
  have hn := hv.nn
  rcases nodeP n (by omega) p with hp | ⟨i, hi, rfl⟩
  · refine PX.bad (k := 1) (v := 0) hI ?_ ?_ (by decide)
    · unfold f_L_child f_X6_child; rw [chk_bad hv.f1 hp]; rfl
    · unfold f_X7_child; rw [do_e, isn_bad (s := o_setF (o_addK s 3) 15 0) (n := n) hv.f18 hp, bi_s, if_pos rfl, fail_]; rfl
  · obtain ⟨a1, a2, -, -⟩ := aft_spec (lv := lv) hi
    have hcl := t_cnt_le lv (lv i + 1) (aft lv n i - (i + 1)) (i + 1)
    have hC : f_X6_child N (nI i) x s = if t_nth lv (lv i + 1) x (aft lv n i - (i + 1)) 0 (i + 1) = -1 then some (.inl 3, o_addK s 3) else some (.inr (t_nth lv (lv i + 1) x (aft lv n i - (i + 1)) 0 (i + 1)), s) := by
      unfold f_X6_child; rw [chk_ok hv.f1 (by omega) hi, bx_r, ct_nth hv.ct hN hi, bi_s]
    rcases ni_cases x with hx | ⟨j, hj, rfl⟩
    · rw [t_nth_neg lv _ hx _ _ _ (by omega), if_pos rfl] at hC
      refine PX.bad (k := 1) (v := 0) hI ?_ ?_ (by decide)
      · unfold f_L_child; rw [hC]; rfl
      · have h2 := ((lo_K s 3).tr (lo_F15 _ 0)).iv hv
        unfold f_X7_child; rw [do_e, isn_ok h2.f18 (by omega) hi, bi_s, if_neg (by decide), if_pos hx, fail_]; rfl
    · obtain ⟨b1, b2⟩ := t_nth_spec lv (lv i + 1) j hj (aft lv n i - (i + 1)) 0 (i + 1) (by omega) (Nat.zero_le _)
      rcases Nat.lt_or_ge j (t_cnt lv (lv i + 1) (aft lv n i - (i + 1)) (i + 1)) with q | q
      · obtain ⟨k, k1, k2, k3, k4⟩ := b1 (by rw [Nat.zero_add]; exact q)
        clear b1 b2
        rw [k4, if_neg (nI_nm1 (by omega))] at hC
        refine PX.ok (v := nI k) hI ?_ ?_
        · unfold f_L_child; rw [hC]; rfl
        · have h2 := ((lo_O s 0 (Int32.toInt64 (nI k))).tr (lo_F15 _ 0)).iv hv
          obtain ⟨y, y1, y2⟩ := lk_child (N := N) h2.lk h2.wl hN hi hj
          have hy : y = nI (ids k) := by
            rcases y2 with ⟨z, -⟩ | ⟨k', z1, z2, z3⟩
            · rw [k4] at z; exact absurd z (nI_nm1 (by omega))
            · rw [k4] at z2
              have := (nI_eq (by omega) (by omega)).mp z2
              subst this; exact z3
          unfold f_X7_child
          rw [do_e, isn_ok h2.f18 (by omega) hi, bi_s, if_neg (by decide), if_neg (nI_pos hj), ld_ (show i < 1500 by omega) (by decide), h2.no hi, lk_count h2.lk h2.wl hN hi, bi_s, if_neg (fun z => absurd ((nI_leI (by omega) hj).mp z) (by omega)), ld_ (show i < 1500 by omega) (by decide), h2.no hi, y1, bi_s, hy, ld_ (h2.id (show k < n by omega)) (by decide), h2.nu (show k < n by omega)]
      · rw [b2 (by rw [Nat.zero_add]; exact q), if_pos rfl] at hC
        clear b1 b2
        refine PX.bad (k := 1) (v := 0) hI ?_ ?_ (by decide)
        · unfold f_L_child; rw [hC]; rfl
        · have h2 := ((lo_K s 3).tr (lo_F15 _ 0)).iv hv
          unfold f_X7_child
          rw [do_e, isn_ok h2.f18 (by omega) hi, bi_s, if_neg (by decide), if_neg (nI_pos hj), ld_ (show i < 1500 by omega) (by decide), h2.no hi, lk_count h2.lk h2.wl hN hi, bi_s, if_pos (nI_le q hj), fail_]; rfl
theorem l_letter (hN : 2000 ≤ N) (hI : Inv e s) (p x : Int32) : PX (f_L_letter N p x s) (fun t => f_X7_letter N p x t) e := by
  obtain ⟨-, T, n, kd, lv, dp, w, ids, hv⟩ := id hI
  have hn := hv.nn
  rcases nodeP n (by omega) p with hp | ⟨i, hi, rfl⟩
  · refine PX.bad (k := 1) (v := 0) hI ?_ ?_ (by decide)
    · unfold f_L_letter f_X6_letter; rw [chk_bad hv.f1 hp]; rfl
    · unfold f_X7_letter; rw [do_e, isn_bad (s := o_setF (o_addK s 3) 15 0) (n := n) hv.f18 hp, bi_s, if_pos rfl, fail_]; rfl
  · have hk4 := (hv.ct.2.2.2.2.1 i hi).2.1
    by_cases hk : kd i = 2
    · obtain ⟨e5, -⟩ := hv.ct.2.2.2.2.2 i hi hk
      refine PX.ok (v := if x < 0 then -1 else if nI (w i).length ≤ x then -1 else (w i).getD x.toNatClampNeg 0) hI ?_ ?_
      · unfold f_L_letter f_X6_letter; rw [chk_ok hv.f1 (by omega) hi, bx_r, show (2 : Int32) = nI 2 from rfl, ct_is hv.ct hi 2 (by decide), bi_s, if_pos hk, if_neg (by decide), ct_letter hv.ct hi hk]; rfl
      · have h2 := ((lo_O s 0 (Int32.toInt64 (if x < 0 then -1 else if nI (w i).length ≤ x then -1 else (w i).getD x.toNatClampNeg 0))).tr (lo_F15 _ 0)).iv hv
        obtain ⟨a, ha, hb, hc⟩ := h2.rm.2.2.2.2.2 i hi hk
        have e7 : o_A (o_setF (o_setO s 0 (Int32.toInt64 (if x < 0 then -1 else if nI (w i).length ≤ x then -1 else (w i).getD x.toNatClampNeg 0))) 15 0) 7 (ids i) = nI (w i).length := ((h2.rm.2.2.2.2.1 i hi).2.2.2).trans e5
        have hidi := h2.id hi
        unfold f_X7_letter
        rw [do_e, isn_ok h2.f18 (by omega) hi, bi_s, if_neg (by decide), ld_ (show i < 1500 by omega) (by decide), h2.no hi, ld_ (h2.id hi) (by decide), h2.kk hi, if_lit 2 2 rfl (by omega) (by decide), if_pos hk]
        by_cases q : x < 0
        · rw [if_pos q]; simp only [if_pos q]
        · rw [if_neg q, ld_ (h2.id hi) (by decide), e7]
          by_cases q2 : nI (w i).length ≤ x
          · rw [if_pos q2]; simp only [if_neg q, if_pos q2]
          · obtain ⟨j, hj, rfl⟩ := nI_of q
            have hjl : j < (w i).length := by
              rcases Nat.lt_or_ge j (w i).length with z | z
              · exact z
              · exact absurd (nI_le z hj) q2
            rw [if_neg q2, ld_ (h2.id hi) (by decide), ha, nI_add, ld_ (show a + j < 12600 by omega) (by decide), hc j hjl]
            simp only [if_neg q, if_neg q2, nI_clamp hj]
    · refine PX.ok (v := -1) hI ?_ ?_
      · unfold f_L_letter f_X6_letter; rw [chk_ok hv.f1 (by omega) hi, bx_r, show (2 : Int32) = nI 2 from rfl, ct_is hv.ct hi 2 (by decide), bi_s, if_neg hk]; rfl
      · have h2 := ((lo_O s 0 (Int32.toInt64 (-1))).tr (lo_F15 _ 0)).iv hv
        unfold f_X7_letter
        rw [do_e, isn_ok h2.f18 (by omega) hi, bi_s, if_neg (by decide), ld_ (show i < 1500 by omega) (by decide), h2.no hi, ld_ (h2.id hi) (by decide), h2.kk hi, if_lit 2 2 rfl (by omega) (by decide), if_neg hk]
end
