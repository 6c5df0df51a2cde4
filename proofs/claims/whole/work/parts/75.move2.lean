theorem l_move {N e : Nat} {s : o_S} (hN : 20000 ≤ N) (hI : Inv e s) (p q x : Int32) : PX (f_L_move N p q x s) (fun t => f_X7_move N p q x t) e := by
  obtain ⟨hG, T, n, kd, lv, dp, w, ids, hv⟩ := id hI
  have hn := hv.nn
  have hb0 := ((lo_K s 3).tr (lo_F15 _ 0)).iv hv
  rcases nodeP n (by omega) p with hp | ⟨i, hi, rfl⟩
  · refine PX.bad (k := 1) (v := 0) hI ?_ ?_ (by decide)
    · unfold f_L_move f_X6_move; rw [chk_bad hv.f1 hp]; rfl
    · unfold f_X7_move; rw [do_e, isn_bad (s := o_setF (o_addK s 3) 15 0) (n := n) hv.f18 hp, bi_s, if_pos rfl, fail_]; rfl
  rcases nodeP n (by omega) q with hq | ⟨b, hb, rfl⟩
  · refine PX.bad (k := 1) (v := 0) hI ?_ ?_ (by decide)
    · unfold f_L_move f_X6_move; rw [chk_ok hv.f1 (by omega) hi, bx_r, chk_bad hv.f1 hq]; rfl
    · unfold f_X7_move; rw [do_e, isn_ok hb0.f18 (by omega) hi, bi_s, if_neg (by decide), isn_bad (s := o_setF (o_addK s 3) 15 0) (n := n) hv.f18 hq, bi_s, if_pos rfl, fail_]; rfl
  have hk4 := (hv.ct.2.2.2.2.1 i hi).2.1
  have hkb4 := (hv.ct.2.2.2.2.1 b hb).2.1
  by_cases hk : kd i = 1
  case neg =>
    refine PX.bad (k := 2) (v := 0) hI ?_ ?_ (by decide)
    · unfold f_L_move f_X6_move; rw [chk_ok hv.f1 (by omega) hi, bx_r, chk_ok hv.f1 (by omega) hb, bx_r, show (1 : Int32) = nI 1 from rfl, ct_is hv.ct hi 1 (by decide), bi_s, if_neg hk]; rfl
    · unfold f_X7_move
      rw [do_e, isn_ok hb0.f18 (by omega) hi, bi_s, if_neg (by decide), isn_ok hb0.f18 (by omega) hb, bi_s, if_neg (by decide), ld_ (show i < 1500 by omega) (by decide), hb0.no hi, ld_ (show b < 1500 by omega) (by decide), hb0.no hb, ld_ (hb0.id hi) (by decide), hb0.kk hi, if_lit 1 1 rfl (by omega) (by decide), if_neg hk, fail_]; rfl
  by_cases hkb : kd b = 0
  case neg =>
    refine PX.bad (k := 2) (v := 0) hI ?_ ?_ (by decide)
    · unfold f_L_move f_X6_move; rw [chk_ok hv.f1 (by omega) hi, bx_r, chk_ok hv.f1 (by omega) hb, bx_r, show (1 : Int32) = nI 1 from rfl, ct_is hv.ct hi 1 (by decide), bi_s, if_pos hk, if_neg (by decide), show (0 : Int32) = nI 0 from rfl, ct_is hv.ct hb 0 (by decide), bi_s, if_neg hkb]; rfl
    · unfold f_X7_move
      rw [do_e, isn_ok hb0.f18 (by omega) hi, bi_s, if_neg (by decide), isn_ok hb0.f18 (by omega) hb, bi_s, if_neg (by decide), ld_ (show i < 1500 by omega) (by decide), hb0.no hi, ld_ (show b < 1500 by omega) (by decide), hb0.no hb, ld_ (hb0.id hi) (by decide), hb0.kk hi, if_lit 1 1 rfl (by omega) (by decide), if_pos hk, ld_ (hb0.id hb) (by decide), hb0.kk hb, if_lit 0 0 rfl (by omega) (by decide), if_neg hkb, fail_]; rfl
  have hT := hv.ti
  have hW := hv.wl
  obtain ⟨a1, a2, a3, a4⟩ := aft_spec (lv := lv) hi
  have hbi : b ≠ i := fun z => by rw [z, hk] at hkb; exact absurd hkb (by decide)
  by_cases hw : i < b ∧ b < aft lv n i
  · refine PX.bad (k := 2) (v := 0) hI ?_ ?_ (by decide)
    · unfold f_L_move f_X6_move; rw [chk_ok hv.f1 (by omega) hi, bx_r, chk_ok hv.f1 (by omega) hb, bx_r, show (1 : Int32) = nI 1 from rfl, ct_is hv.ct hi 1 (by decide), bi_s, if_pos hk, if_neg (by decide), show (0 : Int32) = nI 0 from rfl, ct_is hv.ct hb 0 (by decide), bi_s, if_pos hkb, if_neg (by decide), if_ni_le (by omega) (by omega), if_neg (by omega), ct_after hv.ct (by omega) hi, bi_s, if_ni_le (by omega) (by omega), if_neg (by omega)]; rfl
    · unfold f_X7_move
      rw [do_e, isn_ok hb0.f18 (by omega) hi, bi_s, if_neg (by decide), isn_ok hb0.f18 (by omega) hb, bi_s, if_neg (by decide), ld_ (show i < 1500 by omega) (by decide), hb0.no hi, ld_ (show b < 1500 by omega) (by decide), hb0.no hb, ld_ (hb0.id hi) (by decide), hb0.kk hi, if_lit 1 1 rfl (by omega) (by decide), if_pos hk, ld_ (hb0.id hb) (by decide), hb0.kk hb, if_lit 0 0 rfl (by omega) (by decide), if_pos hkb, lk_within hb0.lk hb0.wl (by omega) hi hb, if_pos (show i ≤ b ∧ b < aft lv n i by omega), bi_s, if_neg (by decide), fail_]; rfl
  have h0 : 0 < i := by
    rcases Nat.eq_zero_or_pos i with z | z
    · rw [z, hT.2.1] at hk; exact absurd hk (by decide)
    · exact z
  have hc := mv_cls (N := N) (by omega) hv.f1 hv.ct hT hi hb hk hkb hw x
  have hK : ∀ k, k < n → o_A s 1 (ids k) = nI (kd k) ∧ kd k ≤ 4 := fun k hk => ⟨hv.kk hk, (hv.ct.2.2.2.2.1 k hk).2.1⟩
  have hr := mv_ref (N := N) (t := o_addK s 3) (by omega) hv.f18 (fun k hk => hv.no hk) hK (hv.lk.congr rfl rfl rfl) hT hi hb hk hkb hw x
  by_cases hd : acn (q_bg kd true) lv b + t_mx kd (fun k => acn (q_bg kd true) lv k + 1 - dp i) (aft lv n i - (i + 1)) (i + 1) 0 ≤ 30
  case neg =>
    rw [if_neg hd] at hc hr
    refine PX.bad (k := 2) (v := 0) hI ?_ hr (by decide)
    unfold f_L_move; rw [hc]; rfl
  rw [if_pos hd] at hc hr
  obtain ⟨b1, b2, -, -⟩ := aft_spec (lv := lv) hb
  have hcw := t_cnt_wo lv (lv b + 1) i (by omega) (aft lv n b - (b + 1)) (b + 1)
  have hpi := par_iff hW h0 hi hb
  have hle := t_cnt_le (wo lv i) (lv b + 1) (aft lv n b - (b + 1)) (b + 1)
  have hcd : nI (t_cnt lv (lv b + 1) (aft lv n b - (b + 1)) (b + 1)) - nI (if p_par lv (lv i) i = b then 1 else 0) = nI (t_cnt (wo lv i) (lv b + 1) (aft lv n b - (b + 1)) (b + 1)) := by
    rw [hcw]
    by_cases y : p_par lv (lv i) i = b
    · rw [if_pos y, if_pos (hpi.mp y), ni_sub (by omega), Nat.add_sub_cancel]
    · rw [if_neg y, if_neg (fun z => y (hpi.mpr z)), ni_sub (by omega)]; rfl
  rcases ni_cases x with hx | ⟨y, hy, rfl⟩
  · rw [t_pf_neg _ _ _ hx _ _ _ (by omega), if_pos rfl] at hc
    refine PX.bad (k := 2) (v := 0) hI ?_ ?_ (by decide)
    · unfold f_L_move; rw [hc]; rfl
    · show f_X7_move N (nI i) (nI b) x (o_addK s 3) = _
      rw [hr]; unfold f_X7_move_b123; rw [if_pos hx]; rfl
  obtain ⟨s1, s2⟩ := t_pf_spec lv (lv b + 1) i (by omega) hy (aft lv n b - (b + 1)) 0 (b + 1) (by omega) (by omega)
  rw [Nat.zero_add] at s1 s2
  by_cases hyc : y ≤ t_cnt (wo lv i) (lv b + 1) (aft lv n b - (b + 1)) (b + 1)
  case neg =>
    rw [s2 (by omega), if_pos rfl] at hc
    refine PX.bad (k := 2) (v := 0) hI ?_ ?_ (by decide)
    · unfold f_L_move; rw [hc]; rfl
    · show f_X7_move N (nI i) (nI b) (nI y) (o_addK s 3) = _
      rw [hr]; unfold f_X7_move_b123; rw [if_neg (nI_pos hy), hcd, if_ni_le hy (by omega), if_neg hyc]; rfl
  obtain ⟨pl, p1, p2, p3, p4, p5⟩ := s1 hyc
  clear s1 s2
  rw [Nat.zero_add] at p4
  have hP : PL n lv i b pl := ⟨hW, h0, hi, hb, hbi, hw, by omega, by omega, fun z => p3 (by omega)⟩
  have hdp : ∀ x, x < aft lv n i - i → dp i ≤ dp (i + x) := fun x hx => by
    have := sub_acn hW (q_bg kd false) hi (i + x) (by omega) (by omega)
    rw [ti_dp hT i hi, ti_dp hT (i + x) (by omega)] at this; exact this
  obtain ⟨u, u1, u2, u3, u4, u5, u6, u7, u8, u9⟩ := cy_ (N := N) hN hv.ct hP hdp
  rw [p5, if_neg (nI_nm1 (by omega)), u1, bi_s] at hc
  have eS : f_L_move N (nI i) (nI b) (nI y) s = some (0, o_setO u 0 (Int32.toInt64 (nI (ug i (aft lv n i - i) pl)))) := by
    unfold f_L_move; rw [hc]; rfl
  -- the reference
  have hA : o_A (o_setO u 0 (Int32.toInt64 (nI (ug i (aft lv n i - i) pl)))) = o_A s := by rw [sO_A, u4]
  have hF : o_F (o_setO u 0 (Int32.toInt64 (nI (ug i (aft lv n i - i) pl)))) = o_F s := by rw [sO_F, u3]
  have hR : o_R (o_setO u 0 (Int32.toInt64 (nI (ug i (aft lv n i - i) pl)))) = o_R u := sO_R _ _ _
  have hO : o_O (o_setO u 0 (Int32.toInt64 (nI (ug i (aft lv n i - i) pl)))) 0 = Int32.toInt64 (nI (ug i (aft lv n i - i) pl)) := by rw [sO_O, if_pos rfl]
  have hGt : GS (e + 1) (o_setO u 0 (Int32.toInt64 (nI (ug i (aft lv n i - i) pl)))) := ((u2 e hG).up (by omega)).O _ _
  generalize o_setO u 0 (Int32.toInt64 (nI (ug i (aft lv n i - i) pl))) = t at eS hA hF hR hO hGt
  have hr2 := mv_ref (N := N) (t := t) (by omega) (by rw [hF]; exact hv.f18) (fun k hk => by rw [hA]; exact hv.no hk) (fun k hk => by rw [hA]; exact hK k hk) (hv.lk.congr (by rw [hA]) (by rw [hA]) (by rw [hA])) hT hi hb hk hkb hw (nI y)
  rw [if_pos hd] at hr2
  unfold f_X7_move_b123 at hr2
  rw [if_neg (nI_pos hy), hcd, if_ni_le hy (by omega), if_pos hyc] at hr2
  have hL : LK n lv ids (o_setF t 15 0) := hv.lk.congr (by rw [sF_A, hA]) (by rw [sF_A, hA]) (by rw [sF_A, hA])
  obtain ⟨t1, e1, f1⟩ := tk_ (N := N) hL hW (by omega) h0 hi
  have hL1 := tk_lk hL hW h0 hi f1
  have tA : ∀ a, a ≠ 3 → a ≠ 4 → o_A t1 a = o_A s a := by
    intro a ha3 ha4
    rcases f1 with ⟨-, rfl⟩ | ⟨-, q, -, -, -, rfl⟩
    · rw [sA_ne ha3, sF_A, hA]
    · rw [sA_ne ha4, sF_A, hA]
  have tF : o_F t1 = o_F (o_setF t 15 0) := by rcases f1 with ⟨-, rfl⟩ | ⟨-, q, -, -, -, rfl⟩ <;> rfl
  have tR : o_R t1 = o_R t := by rcases f1 with ⟨-, rfl⟩ | ⟨-, q, -, -, -, rfl⟩ <;> rfl
  have tO : o_O t1 = o_O t := by rcases f1 with ⟨-, rfl⟩ | ⟨-, q, -, -, -, rfl⟩ <;> rfl
  have tG : GS (e + 1) t1 := by rcases f1 with ⟨-, rfl⟩ | ⟨-, q, -, -, -, rfl⟩ <;> exact (hGt.F _ _).A _ _ _
  have t3 : ∀ x, x < aft lv n i - i → o_A t1 3 (ids (i + x)) = o_A s 3 (ids (i + x)) := by
    intro x hx
    obtain ⟨q1, -, -⟩ := hW.par h0 hi
    rcases f1 with ⟨-, rfl⟩ | ⟨-, q, -, -, -, rfl⟩
    · rw [sA_nj (fun z => by have := hL.2.1 _ _ (by omega) (by omega) z; omega), sF_A, hA]
    · rw [sA_ne (by decide), sF_A, hA]
  have t4 : ∀ x, 0 < x → x < aft lv n i - i → o_A t1 4 (ids (i + x)) = o_A s 4 (ids (i + x)) := by
    intro x x0 hx
    rcases f1 with ⟨-, rfl⟩ | ⟨-, q, q1, -, -, rfl⟩
    · rw [sA_ne (by decide), sF_A, hA]
    · rw [sA_nj (fun z => by have := hL.2.1 _ _ (by omega) (by omega) z; omega), sF_A, hA]
  have hcm := @pl_cmu _ _ _ _ _ hP
  have hin := hP.inn
  have hlt : ∀ k, k < n - (aft lv n i - i) → rg i (aft lv n i - i) k < n ∧ (rg i (aft lv n i - i) k < i ∨ aft lv n i ≤ rg i (aft lv n i - i) k) := fun k hk => by unfold rg; split <;> omega
  have eb := pl_ug hP hP.out.2
  obtain ⟨t2, e2, hL2, g1, g2, g3, g4, g5⟩ := ins_lk (N := N) (jd := fun x => ids (i + x)) hL1 hin (by omega) (fun x hx => hv.id (by omega)) (fun x z hx hz h => by have := hL.2.1 _ _ (by omega) (by omega) h; omega) (fun k x hk hx h => by
      have z := hlt k hk
      have := hL.2.1 (rg i (aft lv n i - i) k) (i + x) z.1 (by omega) h; omega)
    (fun x x0 hx => by
      obtain ⟨d1, -⟩ := sub_sh hW hi (fun y hy => (hcm hy).1) x0 hx
      show o_A t1 2 (ids (i + x)) = nI (ids (i + p_par _ _ x))
      rw [tA 2 (by decide) (by decide), hv.lk.2.2.1 (i + x) (by omega), if_neg (by omega), d1])
    (fun x hx => by
      show o_A t1 3 (ids (i + x)) = if x + 1 < aft lv n i - i ∧ cmu lv i b x < cmu lv i b (x + 1) then nI (ids (i + (x + 1))) else -1
      rw [t3 x hx, hv.lk.2.2.2.1 (i + x) (by omega)]
      have d1 := hcm hx
      by_cases z : i + x + 1 < aft lv n i
      · have d2 := (hcm (show x + 1 < aft lv n i - i by omega)).1
        rw [show i + (x + 1) = i + x + 1 by omega] at d2 ⊢
        by_cases z2 : lv (i + x) < lv (i + x + 1)
        · rw [if_pos ⟨by omega, z2⟩, if_pos ⟨by omega, by omega⟩]
        · rw [if_neg (fun h => z2 h.2), if_neg (fun h => z2 (by omega))]
      · have z3 : i + x + 1 = aft lv n i := by omega
        rw [if_neg (fun h => by have := a4 (by omega); rw [← z3] at this; omega), if_neg (fun h => by omega)])
    (fun x x0 hx => by
      obtain ⟨-, d1⟩ := sub_sh hW hi (fun y hy => (hcm hy).1) x0 hx
      show o_A t1 4 (ids (i + x)) = if aft (cmu lv i b) (aft lv n i - i) x < aft lv n i - i ∧ cmu lv i b (aft (cmu lv i b) (aft lv n i - i) x) = cmu lv i b x then nI (ids (i + aft (cmu lv i b) (aft lv n i - i) x)) else -1
      rw [t4 x x0 hx, hv.lk.2.2.2.2 (i + x) (by omega), ← d1]
      have d2 := hcm hx
      have d3 := d2.2.2 x0
      have d4 := sub_aft (lv := lv) hi (show i < i + x by omega) (by omega)
      by_cases z : aft (cmu lv i b) (aft lv n i - i) x < aft lv n i - i
      · have d5 := (hcm z).1
        by_cases z2 : lv (i + aft (cmu lv i b) (aft lv n i - i) x) = lv (i + x)
        · rw [if_pos ⟨by omega, z2⟩, if_pos ⟨z, by omega⟩]
        · rw [if_neg (fun h => z2 h.2), if_neg (fun h => z2 (by omega))]
      · have z3 : i + aft (cmu lv i b) (aft lv n i - i) x = aft lv n i := by omega
        rw [z3, if_neg (fun h => by have := a4 h.1; omega), if_neg (fun h => by omega)])
  have en : n - (aft lv n i - i) + (aft lv n i - i) = n := by omega
  have epc := pl_cnt hP
  have e2' : f_X7_insert N (nI (ids i)) (nI (ids b)) (nI y) t1 = some t2 := by
    have : nI (t_cnt (fun x => lv (rg i (aft lv n i - i) x)) (lv (rg i (aft lv n i - i) (ug i (aft lv n i - i) b)) + 1) (ug i (aft lv n i - i) pl - (ug i (aft lv n i - i) b + 1)) (ug i (aft lv n i - i) b + 1)) = nI y := by rw [eb, epc, p4]
    rw [this, eb, Nat.add_zero] at e2
    exact e2
  have hWl := in_wl hin
  have h0p : 0 < ug i (aft lv n i - i) pl := by have := hin.2.2.1; omega
  have id0 : il (ug i (aft lv n i - i) pl) (aft lv n i - i) (fun x => ids (rg i (aft lv n i - i) x)) (fun x => ids (i + x)) 0 = 0 := by rw [il_1 h0p]; show ids (rg i _ 0) = 0; rw [rg_lt h0]; exact hv.rm.2.2.1
  obtain ⟨v, v1, v2, v3, v4⟩ := num_ (N := N) hWl (by omega) id0 hL2
  have idp : il (ug i (aft lv n i - i) pl) (aft lv n i - i) (fun x => ids (rg i (aft lv n i - i) x)) (fun x => ids (i + x)) (ug i (aft lv n i - i) pl) = ids i := by rw [il_2 (Nat.le_refl _) (by omega), Nat.sub_self, Nat.add_zero]
  have pn := hin.pn
  have ans : o_A v 11 (ids i) = nI (ug i (aft lv n i - i) pl) := by have := (v4 (ug i (aft lv n i - i) pl) (by omega)).2; rw [idp] at this; exact this
  rw [en] at v3 v4 hL2
  rw [e1, bv_s, e2', bv_s, v1, bv_s, ld_ (hv.id hi) (by decide), ans] at hr2
  have hTI : TI n (fun k => kd (il (ug i (aft lv n i - i) pl) (aft lv n i - i) (rg i (aft lv n i - i)) (fun x => i + x) k)) (il (ug i (aft lv n i - i) pl) (aft lv n i - i) (fun x => lv (rg i (aft lv n i - i) x)) (cmu lv i b)) (il (ug i (aft lv n i - i) pl) (aft lv n i - i) (fun x => dp (rg i (aft lv n i - i) x)) (cmu dp i b)) := by
    have := cy_ti hT hk hkb hP (fun k k1 k2 k3 => by
      have m1 := (t_mx_spec kd (fun k => acn (q_bg kd true) lv k + 1 - dp i) (aft lv n i - (i + 1)) (i + 1) 0).2 k (by omega) (by omega) k3
      have m2 := (ti_bg hT k (by omega)).2.2 (by omega)
      have m3 := ((ti_bg hT i hi).1 hk)
      have m4 := ((ti_bg hT b hb).2.1 hkb)
      have m5 := sub_acn hW (q_bg kd true) hi k (by omega) k2
      have m6 : acn (q_bg kd true) lv k + 1 - dp i ≤ t_mx kd (fun k => acn (q_bg kd true) lv k + 1 - dp i) (aft lv n i - (i + 1)) (i + 1) 0 := m1
      have m7 := hdp (k - i) (by omega)
      rw [show i + (k - i) = k by omega] at m7
      omega)
    rw [en] at this
    rw [il_f kd]
    exact this
  refine ⟨0, t, nI (ug i (aft lv n i - i) pl), v, eS, hr2, ?_, fun _ => ?_, gs_num (g4 _ tG) v2, T, _, _, _, _, _, _, re_iv (g := il (ug i (aft lv n i - i) pl) (aft lv n i - i) (rg i (aft lv n i - i)) (fun x => i + x)) hv ?_ ?_ v3 ?_ ?_ ?_ ?_ ?_ hTI ?_ ?_ ?_ ?_ ?_ (Nat.le_refl n) ?_⟩
  · rw [v2.2.2.2.2.1 15 (by decide), g1, tF, sF_F, if_pos rfl]
  · rw [v2.2.2.2.1, g3, tO, hO]
  · intro k k15 k1 k18; rw [v2.2.2.2.2.1 k k18, g1, tF, sF_F, if_neg k15, hF]
  · rw [v2.2.2.2.2.1 1 (by decide), g1, tF, sF_F, if_neg (by decide), hF]; exact hv.f1
  · intro q q1 q3; rw [v2.1, g2, tR, hR, u6 q q3]
  · rw [v2.1, g2, tR, hR, u7]
  · intro k f hk hf f1 f2
    have : tg v k f = tg u k f := by unfold tg; rw [v2.1, g2, tR, hR]
    rw [this, u8 k f hk hf f1 f2]
  · intro k hk
    have ht : ∀ f, tg v k f = tg u k f := fun f => by unfold tg; rw [v2.1, g2, tR, hR]
    rw [ht, ht]
    have d1 := hTI.1.le k hk
    have d2 := ti_dp hTI k hk
    have d3 := acn_le hTI.1 (q_bg (fun k => kd (il (ug i (aft lv n i - i) pl) (aft lv n i - i) (rg i (aft lv n i - i)) (fun x => i + x) k)) false) (fun j => q_bg_le _ false j) k hk
    exact ⟨(u9 k hk).1, by omega, (u9 k hk).2, by omega⟩
  · intro a h14 h2 h3 h4 h10 h11
    rw [v2.2.2.2.2.2 a h10 h11, g5 a h2 h3 h4, tA a h3 h4]
  · rw [il_f ids]
    exact hL2.congr (v2.2.2.2.2.2 2 (by decide) (by decide)) (v2.2.2.2.2.2 3 (by decide) (by decide)) (v2.2.2.2.2.2 4 (by decide) (by decide))
  · rw [il_1 h0p, rg_lt h0]
  · intro k hk; unfold il rg; split
    · split <;> omega
    · split
      · show i + (k - ug i (aft lv n i - i) pl) < n; omega
      · split <;> omega
  · intro k j hk hj h
    refine hL2.2.1 k j hk hj ?_
    rw [← il_f ids]
    show ids _ = ids _
    rw [h]
  · intro k hk
    have := v4 k hk
    rw [← il_f ids] at this
    exact this
  · have := cy_sm (f := fun i => if kd i = 2 then (w i).length - 8 else 0) hP
    rw [en, ← il_f (fun i => if kd i = 2 then (w i).length - 8 else 0)] at this
    rw [← this]
    exact Nat.le_refl _
