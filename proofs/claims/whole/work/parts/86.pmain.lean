/-! PARSE: byte by byte -/
def LX (e : Nat) (T : List Int32) (at_ tok ls line : Nat) (fr bg : Bool) (c r : o_S) : Prop := at_ ≤ T.length ∧ tok ≤ at_ ∧ (bg = true ↔ 0 < tok) ∧ ls ≤ at_ ∧ line ≤ at_ ∧ BI e bg T at_ c r ∧ o_R c 0 = T ∧ (∀ j, j < T.length → o_A r 0 j = T.getD j 0) ∧ o_F r 16 = nI T.length ∧ o_F c 3 = nI line ∧ o_F r 26 = nI line ∧ o_F c 4 = nI ls ∧ o_F c 6 = 0 ∧ o_F c 7 = (if fr then 0 else 1) ∧ (o_F c 5 = 0 ∨ (at_ < T.length → T.getD at_ 0 = 10)) ∧ o_F c 13 = (if bg then 1 else 0)
def CK (N m2 tok : Nat) : Int32 → o_S → Option (Int32 × o_S) := fun x17 s15 => if x17 = 0 then (o_bv (f_X0_finish N s15) fun s19 => o_bi (f_X5_size N s19) fun x23 s21 => some (x23, s21)) else (o_bv (f_X0_take N s15) fun s24 => f_X6_parse_L30 N m2 (nI tok + 1) s24)
def fI (b : Bool) : Int32 := if b then 1 else 0
section
variable {N e : Nat} {T : List Int32}
theorem st0 {α : Type} {s : o_S} {v : Int32} (f : o_S → Option α) : (if (0 : Int32) < 0 ∨ 32 ≤ Int32.toNatClampNeg (0 : Int32) then none else o_do (o_setA s 16 (Int32.toNatClampNeg (0 : Int32)) v) f) = f (o_setA s 16 0 v) := st_ (i := 0) (n := 32) (by decide) (by decide) f
theorem c_L30 {m2 tok : Nat} {c : o_S} (ht : tok ≤ 600) : f_X6_parse_L30 N (m2 + 1) (nI tok) c = o_bi (f_X1_readToken N c) (CK N m2 tok) := by
  rw [f_X6_parse_L30, show (600 : Int32) = nI 600 from rfl, if_neg (fun q => absurd ((nI_ltI (by decide) (by omega)).mp q) (by omega))]; rfl
theorem bi_rep {p : Nat} {bg : Bool} {c r : o_S} {l cl : Int32} (h : BI e bg T p c r) (hp : p ≤ 599) (v : Int32) (h26 : o_F r 26 = l) (h27 : o_F r 27 = cl) : ∃ c' r', f_X3_add N v l cl c = some c' ∧ f_X7_repair N v r = some r' ∧ BI e bg T (p + 1) c' r' ∧ CF c c' ∧ (∀ f, f ≠ 0 → o_F c' f = o_F c f) ∧ RF r r' ∧ (∀ f, f ≠ 19 → o_F r' f = o_F r f) := by
  obtain ⟨n, kd, lv, dp, w, d, nd, k, col, ⟨b1, b2, b3, b4⟩, a2, a3, a4, a5, a6, a7⟩ := h
  obtain ⟨c', r', x1, x2, x3, x4, x5, x6, x7, x8, x9, x10, x11⟩ := p_rep (N := N) b1 b4 (by omega) v l cl h26 h27
  refine ⟨c', r', x1, x2, ⟨n, kd, lv, dp, w, d, nd, k + 1, col, ⟨x4, b2.cg (x8 1 (by decide)) (x7 3 (by decide)) (x7 4 (by decide)) (x11 17 (by decide)) (fun a _ _ => x10 a (by omega)), b3.cg (x7 5 (by decide)) (x7 6 (by decide)) (x7 7 (by decide)) (x11 21 (by decide)) (x10 15 (by decide)) (x10 16 (by decide)) (x10 17 (by decide)), x3⟩, a2, ?_, by omega, by omega, by rw [x7 4 (by decide)]; omega, by omega⟩, ⟨x5, x6, fun f f0 _ _ => x8 f f0, fun q hq => x7 q (by omega)⟩, x8, ⟨x9, fun f _ f19 _ _ => x11 f f19, fun a ha => x10 a (by omega)⟩, x11⟩
  rw [x8 14 (by decide), x11 22 (by decide), x7 7 (by decide)]; exact a3
theorem CP.rf (c : o_S) : CP c c := ⟨rfl, rfl, fun _ _ => rfl, fun _ _ => rfl⟩
theorem CP.F {c s : o_S} (h : CP c s) {k : Nat} (hk : k < 15) (v : Int32) : CP c (o_setF s k v) := h.tr ⟨rfl, rfl, fun f hf => by rw [sF_F, if_neg (by omega)], fun _ _ => rfl⟩
theorem RP2.rf (r : o_S) : RP2 r r := ⟨RQ.rf r, fun _ _ => rfl, fun _ _ => rfl⟩
theorem RP2.F {r s : o_S} (h : RP2 r s) {k : Nat} (hk : 20 < k) (v : Int32) : RP2 r (o_setF s k v) := h.tr ⟨(RQ.rf s).F _ _, fun f hf => by rw [sF_F, if_neg (by omega)], fun _ _ => rfl⟩
theorem p_main (hN : 2000 ≤ N) (hTl : T.length ≤ 600) : ∀ D at_ m1 m2 m3 tok ls line (fr bg : Bool) (c r : o_S), T.length - at_ = D → D < m1 → D < m2 → D < m3 → LX e T at_ tok ls line fr bg c r → ∃ n c' r', o_bi (f_X1_readToken_L5 N m1 (nI at_) c) (CK N m2 tok) = some (nI n, c') ∧ f_X7_parse_L67 N m3 (nI tok) (nI ls) (fI fr) (nI at_) r = some (nI n, r') ∧ PF e T n c' r' ∧ CP c c' ∧ RP2 r r' := by
  intro D
  induction D using Nat.strongRecOn with
  | _ D ih =>
  intro at_ m1 m2 m3 tok ls line fr bg c r hD hm1 hm2 hm3 hLX
  obtain ⟨x1, x2, x3, x4, x5, x6, x7, x8, x9, x10, x11, x12, x13, x14, x15, x16⟩ := id hLX
  obtain ⟨m1, rfl⟩ : ∃ x, m1 = x + 1 := ⟨m1 - 1, by omega⟩
  obtain ⟨m3, rfl⟩ : ∃ x, m3 = x + 1 := ⟨m3 - 1, by omega⟩
  by_cases hend : at_ = T.length
  · -- the end
    subst hend
    have hc : f_X1_readToken_L5 N (m1 + 1) (nI T.length) c = some (0, o_setF (o_setF (o_setF (o_setF c 2 (nI T.length)) 8 (-1)) 10 (nI line)) 11 (nI (T.length - ls))) := by
      have g3 : o_F (o_setF (o_setF c 2 (nI T.length)) 8 (-1)) 3 = nI line := by rw [sF_F, if_neg (by decide), sF_F, if_neg (by decide)]; exact x10
      have g2 : o_F (o_setF (o_setF (o_setF c 2 (nI T.length)) 8 (-1)) 10 (nI line)) 2 = nI T.length := by rw [sF_F, if_neg (by decide), sF_F, if_neg (by decide), sF_F, if_pos rfl]
      have g4 : o_F (o_setF (o_setF (o_setF c 2 (nI T.length)) 8 (-1)) 10 (nI line)) 4 = nI ls := by rw [sF_F, if_neg (by decide), sF_F, if_neg (by decide), sF_F, if_neg (by decide)]; exact x12
      rw [f_X1_readToken_L5, x7, if_pos (nI_le (Nat.le_refl _) (by omega)), do_e, do_e, g3, do_e, g2, g4, ni_sub x4, do_e]
    have r1 : ∃ r1, r1 = (if tok = 0 then o_setA r 16 0 0 else r) ∧ BI e bg T T.length c r1 ∧ o_F r1 = o_F r ∧ RP2 r r1 := by
      by_cases q : tok = 0
      · subst q
        refine ⟨_, rfl, ?_, rfl, ?_⟩
        · rw [if_pos rfl]
          have hbg : bg = false := by cases bg; rfl; exact absurd (x3.mp rfl) (by decide)
          subst hbg
          obtain ⟨n, kd, lv, dp, w, d, nd, k, col, ⟨b1, b2, b3, b4⟩, a2, a3, a4, a5, a6, a7⟩ := x6
          refine ⟨n, kd, lv, dp, w, d, nd, k, col, ⟨b1, b2.cg rfl rfl rfl rfl (fun a _ _ => sA_ne (by omega)), ?_, b4.cg rfl rfl rfl (sA_ne (by decide))⟩, a2, a3, a4, a5, a6, a7⟩
          obtain ⟨s1, s2, s3, s4, s5, s6, s7, s8⟩ := b3
          refine ⟨s1, s2, s3, s4, s5, s6, s7, fun j hj => ?_⟩
          obtain ⟨y1, y2, y3, y4, y5⟩ := s8 j hj
          refine ⟨y1, by rw [sA_ne (by decide)]; exact y2, fun q => ?_, by rw [sA_ne (by decide)]; exact y4, y5⟩
          rcases q with q | q
          · exact absurd q (by decide)
          · rw [sA_nj (by omega)]; exact y3 (Or.inr q)
        · rw [if_pos rfl]; exact ⟨(RQ.rf r).A _ _ _, fun _ _ => rfl, fun a ha => sA_ne (by omega)⟩
      · exact ⟨_, rfl, by rw [if_neg q]; exact x6, by rw [if_neg q], by rw [if_neg q]; exact RP2.rf r⟩
    obtain ⟨r1, q1, q2, q3, q4⟩ := r1
    have hr : f_X7_parse_L67 N (m3 + 1) (nI tok) (nI ls) (fI fr) (nI T.length) r = f_X7_parse_b409 N (nI ls) r1 := by
      rw [f_X7_parse_L67, x9, if_pos (nI_le (Nat.le_refl _) (by omega)), if_lit 0 0 rfl (by omega) (by decide)]
      by_cases q : tok = 0
      · rw [if_pos q, st0, q1, if_pos q]
      · rw [if_neg q, q1, if_neg q]
    have hbi : BI e bg T T.length (o_setF (o_setF (o_setF (o_setF c 2 (nI T.length)) 8 (-1)) 10 (nI line)) 11 (nI (T.length - ls))) (o_setF r1 27 (nI (T.length - ls))) := q2.cg (Nat.le_refl _) (fun h => h) rfl rfl rfl rfl rfl rfl rfl rfl rfl
    obtain ⟨n, c', r', j1, j2, j3, j4, j5, j6⟩ := p_fin (N := N) hN hbi hTl (by rw [sF_F, if_neg (by decide), sF_F, if_neg (by decide), sF_F, if_pos rfl, q3]; exact x11) (by rw [sF_F, if_pos rfl, sF_F, if_pos rfl])
    refine ⟨n, c', r', ?_, ?_, j4, ?_, (q4.F (by decide) _).tr j6⟩
    · rw [hc, bi_s]; unfold CK; rw [if_pos rfl, j1, bv_s, j2, bi_s]
    · rw [hr]; unfold f_X7_parse_b409
      rw [q3, x9, ni_sub x4, do_e]; exact j3
    · exact ((((CP.rf c).F (by decide) _).F (by decide) _).F (by decide) _ |>.F (by decide) _).tr j5
  · -- a byte
    have hat : at_ < T.length := by omega
    have ea : o_at c 0 (nI at_) = T.getD at_ 0 := by rw [at_in (by rw [x7]; omega) (by rw [x7]; omega), x7]
    generalize hb : T.getD at_ 0 = b at ea
    have hc : f_X1_readToken_L5 N (m1 + 1) (nI at_) c = if b = (10 : Int32) then (o_bv (f_X1_beginLine N (nI (at_ + 1)) c) fun s21 => f_X1_readToken_L5 N m1 (nI (at_ + 1)) s21) else (if b = (35 : Int32) then f_X1_readToken_L5 N m1 (nI (at_ + 1)) (o_setF c 5 1) else (if (o_F c 5) = 0 then (o_bi (f_X1_startsToken N b c) fun x16 s14 => if x16 = 0 then (f_X1_readToken_b77 N (f_X1_readToken_L5 N m1) (nI at_) b s14) else (o_bv (f_X1_takeToken N (nI at_) b s14) fun s18 => some ((1 : Int32), s18))) else (f_X1_readToken_b77 N (f_X1_readToken_L5 N m1) (nI at_) b c))) := by
      rw [f_X1_readToken_L5, x7, if_neg (fun q => absurd ((nI_leI (by omega) (by omega)).mp q) (by omega)), do_e, ea, ni_p1, do_e]
    generalize hs : o_setF r 27 (nI (at_ - ls)) = s
    have sF : ∀ f, f ≠ 27 → o_F s f = o_F r f := fun f hf => by rw [← hs, sF_F, if_neg hf]
    have s27 : o_F s 27 = nI (at_ - ls) := by rw [← hs, sF_F, if_pos rfl]
    have sA : o_A s = o_A r := by rw [← hs]; rfl
    have sP : RP2 r s := by rw [← hs]; exact (RP2.rf r).F (by decide) _
    have hr : f_X7_parse_L67 N (m3 + 1) (nI tok) (nI ls) (fI fr) (nI at_) r = if b = (92 : Int32) then (if T.length ≤ at_ + 1 then f_X7_parse_b132 N (f_X7_parse_L67 N m3) (nI tok) (nI ls) (fI fr) (nI at_) b (nI (at_ + 1)) 0 s else (if T.getD (at_ + 1) 0 = (10 : Int32) then f_X7_parse_b132 N (f_X7_parse_L67 N m3) (nI tok) (nI ls) (fI fr) (nI at_) b (nI (at_ + 1)) 1 s else f_X7_parse_b132 N (f_X7_parse_L67 N m3) (nI tok) (nI ls) (fI fr) (nI at_) b (nI (at_ + 1)) 0 s)) else f_X7_parse_b132 N (f_X7_parse_L67 N m3) (nI tok) (nI ls) (fI fr) (nI at_) b (nI (at_ + 1)) 0 s := by
      rw [f_X7_parse_L67, x9, if_neg (fun q => absurd ((nI_leI (by omega) (by omega)).mp q) (by omega)), ld_ (show at_ < 600 by omega) (by decide), x8 at_ hat, hb, do_e, ni_sub x4, hs, sF 16 (by decide), x9, ni_p1, if_ni_le (by omega) (by omega)]
      by_cases q1 : T.length ≤ at_ + 1
      · rw [if_pos q1, if_pos q1]
      · rw [if_neg q1, if_neg q1, ld_ (show at_ + 1 < 600 by omega) (by decide), sA, x8 (at_ + 1) (by omega)]
    by_cases h10 : b = 10
    · -- a line's end
      rw [if_pos h10] at hc
      rw [if_neg (by rw [h10]; decide)] at hr
      have c1 : ∃ c1, f_X1_beginLine N (nI (at_ + 1)) c = some c1 ∧ o_R c1 = o_R c ∧ (∀ e, GS e c → GS e c1) ∧ CP c c1 ∧ o_F c1 3 = nI (line + 1) ∧ o_F c1 4 = nI (at_ + 1) ∧ o_F c1 5 = 0 ∧ o_F c1 6 = 0 ∧ o_F c1 7 = 0 ∧ (∀ f, f ≠ 3 → f ≠ 4 → f ≠ 5 → f ≠ 6 → f ≠ 7 → o_F c1 f = o_F c f) := by
        have g6 : o_F (o_setF (o_setF (o_setF c 3 (nI (line + 1))) 4 (nI (at_ + 1))) 5 0) 6 = 0 := by rw [sF_F, if_neg (by decide), sF_F, if_neg (by decide), sF_F, if_neg (by decide)]; exact x13
        refine ⟨o_setF (o_setF (o_setF (o_setF (o_setF c 3 (nI (line + 1))) 4 (nI (at_ + 1))) 5 0) 7 0) 6 0, ?_, rfl, fun e h => h, (((((CP.rf c).F (by decide) _).F (by decide) _).F (by decide) _).F (by decide) _).F (by decide) _, ?_, ?_, ?_, ?_, ?_, fun f f3 f4 f5 f6 f7 => ?_⟩
        · unfold f_X1_beginLine
          rw [x10, ni_p1, do_e, do_e, do_e, g6, if_neg (fun q => q (Or.inl rfl)), do_e, do_e]
        · simp only [sF_F]; simp
        · simp only [sF_F]; simp
        · simp only [sF_F]; simp
        · simp only [sF_F]; simp
        · simp only [sF_F]; simp
        · simp only [sF_F]; rw [if_neg f6, if_neg f7, if_neg f5, if_neg f4, if_neg f3]
      obtain ⟨c1, y1, y2, y3, y4, y5, y6, y7, y8, y9, y10⟩ := c1
      have hbi : BI e bg T (at_ + 1) c1 (o_setF s 26 (nI (line + 1))) := x6.cg (by omega) (y3 e) y2 (y10 0 (by decide) (by decide) (by decide) (by decide) (by decide)) (y10 1 (by decide) (by decide) (by decide) (by decide) (by decide)) (y10 14 (by decide) (by decide) (by decide) (by decide) (by decide)) (by rw [sF_A, sA]) (by rw [sF_F, if_neg (by decide)]; exact sF 17 (by decide)) (by rw [sF_F, if_neg (by decide)]; exact sF 19 (by decide)) (by rw [sF_F, if_neg (by decide)]; exact sF 21 (by decide)) (by rw [sF_F, if_neg (by decide)]; exact sF 22 (by decide))
      obtain ⟨n, c', r', j1, j2, j3, j4, j5⟩ := ih (T.length - (at_ + 1)) (by omega) (at_ + 1) m1 m2 m3 tok (at_ + 1) (line + 1) true bg c1 (o_setF s 26 (nI (line + 1))) rfl (by omega) (by omega) (by omega) ⟨by omega, by omega, x3, Nat.le_refl _, by omega, hbi, by rw [y2]; exact x7, fun j hj => by rw [sF_A, sA]; exact x8 j hj, by rw [sF_F, if_neg (by decide), sF 16 (by decide)]; exact x9, y5, by rw [sF_F, if_pos rfl], y6, y8, y9, Or.inl y7, by rw [y10 13 (by decide) (by decide) (by decide) (by decide) (by decide)]; exact x16⟩
      refine ⟨n, c', r', ?_, ?_, j3, y4.tr j4, (sP.F (by decide) _).tr j5⟩
      · rw [hc, y1, bv_s]; exact j1
      · rw [hr]; unfold f_X7_parse_b132 f_X7_parse_b146 f_X7_parse_b162
        rw [if_pos rfl, if_pos h10, if_pos rfl, sF 26 (by decide), x11, ni_p1, ni_p1, do_e, if_pos rfl]; exact j2
    · rw [if_neg h10] at hc
      have h5 : o_F c 5 = 0 := by
        rcases x15 with q | q
        · exact q
        · exact absurd (by rw [← hb]; exact q hat) h10
      by_cases h35 : b = 35
      · -- a comment
        rw [if_pos h35] at hc
        rw [if_neg (by rw [h35]; decide)] at hr
        obtain ⟨k1, k2, k3⟩ := ce_le T (T.length - (at_ + 1)) (at_ + 1)
        have hce := c_ce (N := N) (c := o_setF c 5 1) (T := T) x7 hTl (by rw [sF_F, if_pos rfl]) (T.length - (at_ + 1)) (at_ + 1) (m1 - (ce T (T.length - (at_ + 1)) (at_ + 1) - (at_ + 1))) (by omega)
        rw [show m1 - (ce T (T.length - (at_ + 1)) (at_ + 1) - (at_ + 1)) + (ce T (T.length - (at_ + 1)) (at_ + 1) - (at_ + 1)) = m1 by omega] at hce
        have hrc := r_ce (N := N) (r := s) (f_X7_parse_L67 N m3) hTl (fun j hj => by rw [sA]; exact x8 j hj) (by rw [sF 16 (by decide)]; exact x9) (nI tok) (nI ls) (fI fr) (T.length - (at_ + 1)) (at_ + 1) N (by omega) (by omega)
        generalize ce T (T.length - (at_ + 1)) (at_ + 1) = q at k1 k2 k3 hce hrc
        have hbi : BI e bg T q (o_setF c 5 1) s := x6.cg (by omega) (fun h => h) rfl rfl rfl rfl sA (sF 17 (by decide)) (sF 19 (by decide)) (sF 21 (by decide)) (sF 22 (by decide))
        obtain ⟨n, c', r', j1, j2, j3, j4, j5⟩ := ih (T.length - q) (by omega) q (m1 - (q - (at_ + 1))) m2 m3 tok ls line fr bg (o_setF c 5 1) s rfl (by omega) (by omega) (by omega) ⟨by omega, by omega, x3, by omega, by omega, hbi, x7, fun j hj => by rw [sA]; exact x8 j hj, by rw [sF 16 (by decide)]; exact x9, by rw [sF_F, if_neg (by decide)]; exact x10, by rw [sF 26 (by decide)]; exact x11, by rw [sF_F, if_neg (by decide)]; exact x12, by rw [sF_F, if_neg (by decide)]; exact x13, by rw [sF_F, if_neg (by decide)]; exact x14, Or.inr (fun h => k3 (by omega)), by rw [sF_F, if_neg (by decide)]; exact x16⟩
        refine ⟨n, c', r', ?_, ?_, j3, ((CP.rf c).F (by decide) _).tr j4, sP.tr j5⟩
        · rw [hc, hce]; exact j1
        · rw [hr]; unfold f_X7_parse_b132
          rw [if_pos rfl, if_neg h10, if_pos h35, hrc]; exact j2
      · rw [if_neg h35, if_pos h5] at hc
        by_cases ht : isL b = true ∨ isD b = true ∨ sgn b
        · -- a token
          have n92 : ¬ b = 92 := by
            intro q
            rw [q] at ht
            rcases ht with y | y | y
            · exact absurd y (by decide)
            · exact absurd y (by decide)
            · rcases y with y | y | y | y | y | y <;> exact absurd y (by decide)
          rw [if_neg n92] at hr
          rw [c_st1 ht, bi_s, if_neg (by decide)] at hc
          obtain ⟨c1, z, y1, y2, y3, y4, y5, y6, y7, y8, y9, y10, y11, y12, y13, y14, y15⟩ := c_tok (N := N) hN x7 hTl hat x4 hb x12 x14 ht
          -- the reference's token
          have hrt : ∃ v : Int32, o_F c1 8 = v ∧ f_X7_parse_b132 N (f_X7_parse_L67 N m3) (nI tok) (nI ls) (fI fr) (nI at_) b (nI (at_ + 1)) 0 s = f_X7_parse_b336 N (f_X7_parse_L67 N m3) (nI tok) (nI ls) (fI fr) (nI at_) (nI z) (o_setF s 23 v) := by
            have rd : ∀ (l : Bool) (v : Int32), v = (if l then 2 else 3) → (isD b = true ∨ (l = true ∧ isL b = true)) → z = ru T l (T.length - at_) at_ → f_X7_parse_L279 N (f_X7_parse_L67 N m3) N (nI tok) (nI ls) (fI fr) (nI at_) (nI (at_ + 1)) (o_setF s 23 v) = f_X7_parse_b336 N (f_X7_parse_L67 N m3) (nI tok) (nI ls) (fI fr) (nI at_) (nI z) (o_setF s 23 v) := by
              intro l v hv hl hz
              rw [show T.length - at_ = (T.length - at_ - 1) + 1 by omega, ru, hb, if_pos hl] at hz
              rw [hz]
              exact r_run (N := N) (r := o_setF s 23 v) (T := T) (f_X7_parse_L67 N m3) hTl (fun j hj => by rw [sF_A, sA]; exact x8 j hj) (by rw [sF_F, if_neg (by decide), sF 16 (by decide)]; exact x9) l (by rw [sF_F, if_pos rfl]; exact hv) (nI tok) (nI ls) (fI fr) (nI at_) (T.length - at_ - 1) (at_ + 1) N (by omega) (by omega)
            rcases y15 with ⟨h1, h8, hz⟩ | ⟨h1, h2, h8, hz⟩ | ⟨h1, h2, h3, h8, hz⟩
            · refine ⟨2, h8, ?_⟩
              unfold f_X7_parse_b132 f_X7_parse_b249
              rw [if_pos rfl, if_neg h10, if_neg h35, mL_, bi_s, if_pos h1, if_neg (by decide), mL_, bi_s, if_pos h1, if_neg (by decide), do_e]
              exact rd true 2 rfl (Or.inr ⟨rfl, h1⟩) hz
            · refine ⟨3, h8, ?_⟩
              unfold f_X7_parse_b132 f_X7_parse_b249
              rw [if_pos rfl, if_neg h10, if_neg h35, mL_, bi_s, if_neg h1, if_pos rfl, mD_, bi_s, if_pos h2, if_neg (by decide), mL_, bi_s, if_neg h1, if_pos rfl, mD_, bi_s, if_pos h2, if_neg (by decide), do_e]
              exact rd false 3 rfl (Or.inl h2) hz
            · refine ⟨b, h8, ?_⟩
              have nn2 : ¬ b = 2 := by rcases h3 with q | q | q | q | q | q <;> rw [q] <;> decide
              have n3 : (3 : Int32) < b := by rcases h3 with q | q | q | q | q | q <;> rw [q] <;> decide
              unfold f_X7_parse_b132 f_X7_parse_b249
              rw [if_pos rfl, if_neg h10, if_neg h35, mL_, bi_s, if_neg h1, if_pos rfl, mD_, bi_s, if_neg h2, if_pos rfl, r_sg1 h3, bi_s, if_neg (by decide), mL_, bi_s, if_neg h1, if_pos rfl, mD_, bi_s, if_neg h2, if_pos rfl, do_e, hz]
              obtain ⟨N', hN'⟩ : ∃ x, N = x + 1 := ⟨N - 1, by omega⟩
              have e23 : o_F (o_setF s 23 b) 23 = b := by rw [sF_F, if_pos rfl]
              have step : ∀ q, f_X7_parse_L279 N (f_X7_parse_L67 N m3) (q + 1) (nI tok) (nI ls) (fI fr) (nI at_) (nI (at_ + 1)) (o_setF s 23 b) = f_X7_parse_b336 N (f_X7_parse_L67 N m3) (nI tok) (nI ls) (fI fr) (nI at_) (nI (at_ + 1)) (o_setF s 23 b) := by
                intro q
                rw [f_X7_parse_L279, e23, if_neg nn2]
                unfold f_X7_parse_b309
                rw [e23, if_pos n3, ite_self]
              have := step N'
              rw [← hN'] at this
              exact this
          obtain ⟨v, v1, v2⟩ := hrt
          generalize hr1 : o_setF (o_setF (o_setF (o_setF s 23 v) 24 (nI at_)) 25 (nI z)) 28 (fI fr) = r1
          have rF : ∀ f, f ≠ 23 → f ≠ 24 → f ≠ 25 → f ≠ 28 → o_F r1 f = o_F s f := fun f a b c d => by rw [← hr1, sF_F, if_neg d, sF_F, if_neg c, sF_F, if_neg b, sF_F, if_neg a]
          have r23 : o_F r1 23 = v := by rw [← hr1]; simp only [sF_F]; simp
          have r24 : o_F r1 24 = nI at_ := by rw [← hr1]; simp only [sF_F]; simp
          have r25 : o_F r1 25 = nI z := by rw [← hr1]; simp only [sF_F]; simp
          have r28 : o_F r1 28 = (fI fr) := by rw [← hr1, sF_F, if_pos rfl]
          have rA : o_A r1 = o_A r := by rw [← hr1, sF_A, sF_A, sF_A, sF_A, sA]
          have rP : RP2 r r1 := by rw [← hr1]; exact (((sP.F (by decide) _).F (by decide) _).F (by decide) _).F (by decide) _
          have r27 : o_F r1 27 = nI (at_ - ls) := by rw [rF 27 (by decide) (by decide) (by decide) (by decide)]; exact s27
          have htd : TD T at_ z c1 r1 := by
            refine ⟨by rw [y4]; exact x7, hTl, fun j hj => by rw [rA]; exact x8 j hj, y2, y3, y10, y8, r24, r25, by rw [r23, v1], by rw [rF 26 (by decide) (by decide) (by decide) (by decide), sF 26 (by decide), x11, y11, x10], by rw [r27, y12], by rw [r28, y13]; rfl, ⟨at_ - ls, by omega, y12⟩, by rw [y13]; cases fr; exact Or.inl rfl; exact Or.inr rfl, fun h8 => ?_, ?_⟩
            · rcases y15 with ⟨h1, q8, hz⟩ | ⟨h1, h2, q8, hz⟩ | ⟨h1, h2, h3, q8, hz⟩
              · rw [q8] at h8; exact absurd h8 (by decide)
              · intro j j1 j2
                have := (ru_le T false (T.length - at_) at_).2.2 j j1 (by rw [← hz]; exact j2)
                exact this.elim id (fun q => absurd q.1 (by decide))
              · rw [q8] at h8; rcases h3 with q | q | q | q | q | q <;> (rw [q] at h8; exact absurd h8 (by decide))
            · rcases y15 with ⟨h1, q8, hz⟩ | ⟨h1, h2, q8, hz⟩ | ⟨h1, h2, h3, q8, hz⟩
              · exact Or.inl q8
              · exact Or.inr (Or.inl q8)
              · rw [q8]; unfold sgn at h3; rcases h3 with q | q | q | q | q | q <;> simp [q]
          have hbi : BI e bg T at_ c1 r1 := x6.cg (Nat.le_refl _) (y7 e) y4 (y14 0 (by decide) (by decide) (by decide) (by decide) (by decide) (by decide) (by decide)) (y14 1 (by decide) (by decide) (by decide) (by decide) (by decide) (by decide) (by decide)) (y14 14 (by decide) (by decide) (by decide) (by decide) (by decide) (by decide) (by decide)) rA (by rw [rF 17 (by decide) (by decide) (by decide) (by decide)]; exact sF 17 (by decide)) (by rw [rF 19 (by decide) (by decide) (by decide) (by decide)]; exact sF 19 (by decide)) (by rw [rF 21 (by decide) (by decide) (by decide) (by decide)]; exact sF 21 (by decide)) (by rw [rF 22 (by decide) (by decide) (by decide) (by decide)]; exact sF 22 (by decide))
          obtain ⟨c2, r2, k1, k2, k3, k4, k5, k6, k7⟩ := p_take (N := N) hN hbi htd (by rw [y14 13 (by decide) (by decide) (by decide) (by decide) (by decide) (by decide) (by decide)]; exact x16)
          obtain ⟨m2, rfl⟩ : ∃ x, m2 = x + 1 := ⟨m2 - 1, by omega⟩
          obtain ⟨n, c', r', j1, j2, j3, j4, j5⟩ := ih (T.length - z) (by omega) z N m2 m3 (tok + 1) ls line false true c2 r2 rfl (by omega) (by omega) (by omega) ⟨y3, by omega, ⟨fun _ => by omega, fun _ => rfl⟩, by omega, by omega, k3, by rw [k4.2.2.2 0 (Or.inl rfl), y4]; exact x7, fun j hj => by rw [k7.2.2 0 (Or.inl rfl), rA]; exact x8 j hj, by rw [k7.2.1 16 (by decide) (by decide) (by decide) (by decide), rF 16 (by decide) (by decide) (by decide) (by decide), sF 16 (by decide)]; exact x9, by rw [k5 3 (by decide) (by decide), y14 3 (by decide) (by decide) (by decide) (by decide) (by decide) (by decide) (by decide)]; exact x10, by rw [k7.2.1 26 (by decide) (by decide) (by decide) (by decide), rF 26 (by decide) (by decide) (by decide) (by decide), sF 26 (by decide)]; exact x11, by rw [k5 4 (by decide) (by decide), y14 4 (by decide) (by decide) (by decide) (by decide) (by decide) (by decide) (by decide)]; exact x12, by rw [k5 6 (by decide) (by decide), y14 6 (by decide) (by decide) (by decide) (by decide) (by decide) (by decide) (by decide)]; exact x13, by rw [k5 7 (by decide) (by decide)]; exact y9, Or.inl (by rw [k5 5 (by decide) (by decide), y14 5 (by decide) (by decide) (by decide) (by decide) (by decide) (by decide) (by decide)]; exact h5), k6⟩
          have cp1 : CP c c1 := ⟨y5, y6, fun f hf => y14 f (by omega) (by omega) (by omega) (by omega) (by omega) (by omega) (by omega), fun q _ => by rw [y4]⟩
          refine ⟨n, c', r', ?_, ?_, j3, (cp1.tr k4).tr j4, (rP.tr k7.rp).tr j5⟩
          · rw [hc, y1, bv_s, bi_s]
            show (if (1 : Int32) = 0 then _ else (o_bv (f_X0_take N c1) fun s24 => f_X6_parse_L30 N (m2 + 1) (nI tok + 1) s24)) = _
            rw [if_neg (by decide), k1, bv_s, ni_p1, c_L30 (by omega)]
            unfold f_X1_readToken
            rw [k5 2 (by decide) (by decide), y8]; exact j1
          · rw [hr, v2]; unfold f_X7_parse_b336
            have l01 : ¬ ¬ (fI fr = 0 ∨ fI fr = 1) := fun q => q (by cases fr; exact Or.inl rfl; exact Or.inr rfl)
            rw [do_e, do_e, if_neg l01, do_e, hr1, if_lit 0 0 rfl (by omega) (by decide)]
            by_cases q : tok = 0
            · have hbg : bg = false := by cases bg; rfl; exact absurd (x3.mp rfl) (by omega)
              subst hbg
              rw [if_pos q, st0]
              have k2' : f_X7_accept N (o_setA r1 16 0 (o_F r1 27)) = some r2 := k2
              rw [k2', bv_s, show nI tok + 1 = nI (tok + 1) from ni_p1 tok]; exact j2
            · have hbg : bg = true := x3.mpr (by omega)
              subst hbg
              have k2' : f_X7_accept N r1 = some r2 := k2
              rw [if_neg q, k2', bv_s, show nI tok + 1 = nI (tok + 1) from ni_p1 tok]; exact j2
        · -- another byte
          have nL : ¬ isL b = true := fun q => ht (Or.inl q)
          have nD : ¬ isD b = true := fun q => ht (Or.inr (Or.inl q))
          have nS : ¬ sgn b := fun q => ht (Or.inr (Or.inr q))
          rw [c_st0 nL nD nS, bi_s, if_pos rfl] at hc
          by_cases h32 : b = 32
          · rw [if_neg (by rw [h32]; decide)] at hr
            have hbi : BI e bg T (at_ + 1) c s := x6.cg (by omega) (fun h => h) rfl rfl rfl rfl sA (sF 17 (by decide)) (sF 19 (by decide)) (sF 21 (by decide)) (sF 22 (by decide))
            obtain ⟨n, c', r', j1, j2, j3, j4, j5⟩ := ih (T.length - (at_ + 1)) (by omega) (at_ + 1) m1 m2 m3 tok ls line fr bg c s rfl (by omega) (by omega) (by omega) ⟨by omega, by omega, x3, by omega, by omega, hbi, x7, fun j hj => by rw [sA]; exact x8 j hj, by rw [sF 16 (by decide)]; exact x9, x10, by rw [sF 26 (by decide)]; exact x11, x12, x13, x14, Or.inl h5, x16⟩
            refine ⟨n, c', r', ?_, ?_, j3, j4, sP.tr j5⟩
            · rw [hc]; unfold f_X1_readToken_b77
              rw [if_pos h5, if_pos h32, ni_p1]; exact j1
            · rw [hr]; unfold f_X7_parse_b132
              rw [if_pos rfl, if_neg h10, if_neg h35, mL_, bi_s, if_neg nL, if_pos rfl, mD_, bi_s, if_neg nD, if_pos rfl, r_sg0 nS, bi_s, if_pos rfl, if_pos h32]; exact j2
          · by_cases hj : b = 92 ∧ at_ + 1 < T.length ∧ T.getD (at_ + 1) 0 = 10
            · -- the next line is joined
              obtain ⟨h92, hj1, hj2⟩ := hj
              rw [if_pos h92, if_neg (by omega), if_pos hj2] at hr
              obtain ⟨m1, rfl⟩ : ∃ x, m1 = x + 1 := ⟨m1 - 1, by omega⟩
              have ea2 : o_at c 0 (nI (at_ + 1)) = 10 := by rw [at_in (by rw [x7]; omega) (by rw [x7]; omega), x7, hj2]
              have ea3 : o_at (o_setF c 6 1) 0 (nI (at_ + 1)) = 10 := ea2
              have c1 : ∃ c1, f_X1_beginLine N (nI (at_ + 1 + 1)) (o_setF c 6 1) = some c1 ∧ o_R c1 = o_R c ∧ (∀ e, GS e c → GS e c1) ∧ CP c c1 ∧ o_F c1 3 = nI (line + 1) ∧ o_F c1 4 = nI (at_ + 1 + 1) ∧ o_F c1 5 = 0 ∧ o_F c1 6 = 0 ∧ o_F c1 7 = 1 ∧ (∀ f, f ≠ 3 → f ≠ 4 → f ≠ 5 → f ≠ 6 → f ≠ 7 → o_F c1 f = o_F c f) := by
                have g3 : o_F (o_setF c 6 1) 3 = nI line := by rw [sF_F, if_neg (by decide)]; exact x10
                have g6 : o_F (o_setF (o_setF (o_setF (o_setF c 6 1) 3 (nI (line + 1))) 4 (nI (at_ + 1 + 1))) 5 0) 6 = 1 := by simp only [sF_F]; simp
                refine ⟨o_setF (o_setF (o_setF (o_setF (o_setF (o_setF c 6 1) 3 (nI (line + 1))) 4 (nI (at_ + 1 + 1))) 5 0) 7 1) 6 0, ?_, rfl, fun e h => h, ((((((CP.rf c).F (by decide) _).F (by decide) _).F (by decide) _).F (by decide) _).F (by decide) _).F (by decide) _, ?_, ?_, ?_, ?_, ?_, fun f f3 f4 f5 f6 f7 => ?_⟩
                · unfold f_X1_beginLine
                  rw [g3, ni_p1, do_e, do_e, do_e, g6, if_neg (fun q => q (Or.inr rfl)), do_e, do_e]
                · simp only [sF_F]; simp
                · simp only [sF_F]; simp
                · simp only [sF_F]; simp
                · simp only [sF_F]; simp
                · simp only [sF_F]; simp
                · simp only [sF_F]; rw [if_neg f6, if_neg f7, if_neg f5, if_neg f4, if_neg f3, if_neg f6]
              obtain ⟨c1, y1, y2, y3, y4, y5, y6, y7, y8, y9, y10⟩ := c1
              have hbi : BI e bg T (at_ + 2) c1 (o_setF s 26 (nI (line + 1))) := x6.cg (by omega) (y3 e) y2 (y10 0 (by decide) (by decide) (by decide) (by decide) (by decide)) (y10 1 (by decide) (by decide) (by decide) (by decide) (by decide)) (y10 14 (by decide) (by decide) (by decide) (by decide) (by decide)) (by rw [sF_A, sA]) (by rw [sF_F, if_neg (by decide)]; exact sF 17 (by decide)) (by rw [sF_F, if_neg (by decide)]; exact sF 19 (by decide)) (by rw [sF_F, if_neg (by decide)]; exact sF 21 (by decide)) (by rw [sF_F, if_neg (by decide)]; exact sF 22 (by decide))
              obtain ⟨n, c', r', j1, j2, j3, j4, j5⟩ := ih (T.length - (at_ + 2)) (by omega) (at_ + 2) m1 m2 m3 tok (at_ + 2) (line + 1) false bg c1 (o_setF s 26 (nI (line + 1))) rfl (by omega) (by omega) (by omega) ⟨by omega, by omega, x3, Nat.le_refl _, by omega, hbi, by rw [y2]; exact x7, fun j hj => by rw [sF_A, sA]; exact x8 j hj, by rw [sF_F, if_neg (by decide), sF 16 (by decide)]; exact x9, y5, by rw [sF_F, if_pos rfl], y6, y8, y9, Or.inl y7, by rw [y10 13 (by decide) (by decide) (by decide) (by decide) (by decide)]; exact x16⟩
              refine ⟨n, c', r', ?_, ?_, j3, y4.tr j4, (sP.F (by decide) _).tr j5⟩
              · rw [hc]; unfold f_X1_readToken_b77 f_X1_takeOtherByte
                rw [if_pos h5, if_neg h32, if_pos h92, do_e, ni_p1, ea2, if_pos rfl, do_e, bv_s, f_X1_readToken_L5, show o_R (o_setF c 6 1) 0 = T from x7, if_neg (fun q => absurd ((nI_leI (by omega) (by omega)).mp q) (by omega)), do_e, ea3, if_pos rfl, ni_p1, y1, bv_s]; exact j1
              · rw [hr]; unfold f_X7_parse_b132 f_X7_parse_b146 f_X7_parse_b162
                rw [if_neg (by decide), if_neg (by decide), sF 26 (by decide), x11, ni_p1, show nI at_ + (2 : Int32) = nI (at_ + 2) from nI_add at_ 2, do_e, if_neg (by decide)]; exact j2
            · -- a stray byte
              have hr' : f_X7_parse_L67 N (m3 + 1) (nI tok) (nI ls) (fI fr) (nI at_) r = f_X7_parse_b132 N (f_X7_parse_L67 N m3) (nI tok) (nI ls) (fI fr) (nI at_) b (nI (at_ + 1)) 0 s := by
                rw [hr]
                by_cases q1 : b = 92
                · rw [if_pos q1]
                  by_cases q2 : T.length ≤ at_ + 1
                  · rw [if_pos q2]
                  · rw [if_neg q2, if_neg (fun q3 => hj ⟨q1, by omega, q3⟩)]
                · rw [if_neg q1]
              have hct : f_X1_takeOtherByte N (nI at_) b c = f_X1_takeOtherByte_b29 N (nI at_) c := by
                unfold f_X1_takeOtherByte
                by_cases q1 : b = 92
                · rw [if_pos q1, do_e, ni_p1]
                  by_cases q2 : T.length ≤ at_ + 1
                  · rw [at_out (by rw [x7]; exact q2) (by omega), if_neg (by decide)]
                  · rw [at_in (by rw [x7]; omega) (by rw [x7]; omega), x7, if_neg (fun q3 => hj ⟨q1, by omega, q3⟩)]
                · rw [if_neg q1]
              have hbi : BI e bg T at_ c s := x6.cg (Nat.le_refl _) (fun h => h) rfl rfl rfl rfl sA (sF 17 (by decide)) (sF 19 (by decide)) (sF 21 (by decide)) (sF 22 (by decide))
              obtain ⟨c1, r1, k1, k2, k3, k4, k5, k6, k7⟩ := bi_rep (N := N) (l := nI line) hbi (by omega) 1 (by rw [sF 26 (by decide)]; exact x11) s27
              obtain ⟨n, c', r', j1, j2, j3, j4, j5⟩ := ih (T.length - (at_ + 1)) (by omega) (at_ + 1) m1 m2 m3 tok ls line fr bg c1 r1 rfl (by omega) (by omega) (by omega) ⟨by omega, by omega, x3, by omega, by omega, k3, by rw [k4.2.2.2 0 (Or.inl rfl)]; exact x7, fun j hj => by rw [k6.2.2 0 (Or.inl rfl), sA]; exact x8 j hj, by rw [k7 16 (by decide), sF 16 (by decide)]; exact x9, by rw [k5 3 (by decide)]; exact x10, by rw [k7 26 (by decide), sF 26 (by decide)]; exact x11, by rw [k5 4 (by decide)]; exact x12, by rw [k5 6 (by decide)]; exact x13, by rw [k5 7 (by decide)]; exact x14, Or.inl (by rw [k5 5 (by decide)]; exact h5), by rw [k5 13 (by decide)]; exact x16⟩
              refine ⟨n, c', r', ?_, ?_, j3, k4.cp.tr j4, (sP.tr k6.rp).tr j5⟩
              · rw [hc]; unfold f_X1_readToken_b77
                rw [if_pos h5, if_neg h32, hct]; unfold f_X1_takeOtherByte_b29
                rw [x10, x12, ni_sub x4, k1, bv_s, bv_s, ni_p1]; exact j1
              · rw [hr']; unfold f_X7_parse_b132
                rw [if_pos rfl, if_neg h10, if_neg h35, mL_, bi_s, if_neg nL, if_pos rfl, mD_, bi_s, if_neg nD, if_pos rfl, r_sg0 nS, bi_s, if_pos rfl, if_neg h32, k2, bv_s]; exact j2
end
