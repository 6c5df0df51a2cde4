/-! DIGEST -/
def fl_ (l : List Int32) (a : Int64) : Int64 := l.foldl (fun a b => a * 31 + Int32.toInt64 b) a
def PW (a : Option (Int64 × o_S)) (b : o_S → Option (Int64 × o_S)) (e : Nat) : Prop := ∃ v s1 s2, a = some (v, s1) ∧ b s1 = some (v, s2) ∧ Inv (e + 1) s2
section
variable {N e n : Nat} {s : o_S} {T l : List Int32} {kd lv dp : Nat → Nat} {w : Nat → List Int32} {ids : Nat → Nat}
theorem cg_L (h : CT s n kd lv dp w) (k : Int64 → Int32 → o_S → Option (Int64 × o_S)) {i : Nat} (hi : i < n) (ki : kd i = 2) (hl : (w i).length ≤ 600) : ∀ d q a M, q + d = (w i).length → f_X6_digest_L117 N k (M + d + 1) a (nI i) (nI (w i).length) (nI q) s = k (fl_ ((w i).drop q) a) (nI (i + 1)) s := by
  intro d
  induction d with
  | zero =>
    intro q a M hq
    unfold f_X6_digest_L117
    rw [if_pos (nI_le (by omega) (by omega)), List.drop_of_length_le (by omega), ni_p1]; rfl
  | succ d ih =>
    intro q a M hq
    rw [show M + (d + 1) + 1 = (M + d + 1) + 1 by omega]
    unfold f_X6_digest_L117 f_X6_mix
    rw [if_neg (fun z => absurd ((nI_leI (by omega) (by omega)).mp z) (by omega)), ct_letter h hi ki, bi_s, bi_s, if_neg (nI_pos (by omega)), if_neg (fun z => absurd ((nI_leI (by omega) (by omega)).mp z) (by omega)), nI_clamp (by omega), ni_p1, ih (q + 1) _ M (by omega), dr_ (show q < (w i).length by omega)]; rfl
theorem mg_L (h : IV s T n kd lv dp w ids) (k : Int64 → Int32 → o_S → Option (Int64 × o_S)) {i : Nat} (hi : i < n) (ki : kd i = 2) : ∀ d q a M, q + d = (w i).length → f_X7_digest_L86 N k (M + d + 1) a (nI i) (nI (ids i)) (nI q) s = k (fl_ ((w i).drop q) a) (nI (i + 1)) s := by
  obtain ⟨b, ha, hb, hc⟩ := h.rm.2.2.2.2.2 i hi ki
  obtain ⟨ei, -⟩ := h.ct.2.2.2.2.2 i hi ki
  have e7 : o_A s 7 (ids i) = nI (w i).length := (h.rm.2.2.2.2.1 i hi).2.2.2.trans ei
  have di := h.id hi
  intro d
  induction d with
  | zero =>
    intro q a M hq
    unfold f_X7_digest_L86
    rw [ld_ di (by decide), e7, if_pos (nI_le (by omega) (by omega)), List.drop_of_length_le (by omega), ni_p1]; rfl
  | succ d ih =>
    intro q a M hq
    rw [show M + (d + 1) + 1 = (M + d + 1) + 1 by omega]
    unfold f_X7_digest_L86
    rw [ld_ di (by decide), e7, if_neg (fun z => absurd ((nI_leI (by omega) (by omega)).mp z) (by omega)), ld_ di (by decide), h.kk hi, ki, if_pos (show nI 2 = (2 : Int32) from rfl), ld_ di (by decide), ha, nI_add, ld_ (show b + q < 12600 by omega) (by decide), hc q (by omega), ni_p1, ih (q + 1) _ M (by omega), dr_ (show q < (w i).length by omega)]; rfl
/-- the digest's sum over the nodes from i on -/
def dm_ (s : o_S) (n : Nat) (kd lv : Nat → Nat) (w : Nat → List Int32) : Nat → Nat → Int64 → Int64
  | 0, _, a => a
  | d + 1, i, a => dm_ s n kd lv w d (i + 1) (fl_ (if kd i = 2 then w i else []) ((((a * 31 + Int32.toInt64 (nI (kd i))) * 31 + Int32.toInt64 (nI (t_cnt lv (lv i + 1) (aft lv n i - (i + 1)) (i + 1)))) * 31) + Int32.toInt64 (tg s i 5)))
theorem dm_c {s t : o_S} (n : Nat) (kd lv : Nat → Nat) (w : Nat → List Int32) (h : ∀ i, tg t i 5 = tg s i 5) : ∀ d i a, dm_ t n kd lv w d i a = dm_ s n kd lv w d i a := by
  intro d
  induction d with
  | zero => intro i a; rfl
  | succ d ih => intro i a; unfold dm_; rw [ih, h]
theorem cg_M (hN : 2000 ≤ N) (h : IV s T n kd lv dp w ids) : ∀ d i a M, i + d = n → f_X6_digest_L32 N (M + d + 1) a (nI i) s = some ((dm_ s n kd lv w d i a * 31 + Int32.toInt64 (o_F s 0)) * 31 + Int32.toInt64 (nI (cw_ kd w n 0)), s) := by
  have hn := h.nn
  intro d
  induction d with
  | zero =>
    intro i a M hi
    unfold f_X6_digest_L32 f_X5_size f_X3_size f_X6_mix
    rw [bi_s, h.f1, if_pos (nI_le (by omega) (by omega)), bi_s, bi_s, cd_ hN h, bi_s, bi_s]; rfl
  | succ d ih =>
    intro i a M hi
    have hc := h.ct.2.2.2.2.1 i (by omega)
    rw [show M + (d + 1) + 1 = (M + d + 1) + 1 by omega]
    unfold f_X6_digest_L32 f_X5_size f_X6_mix
    rw [bi_s, h.f1, if_neg (fun z => absurd ((nI_leI (by omega) (by omega)).mp z) (by omega)), show (0 : Int32) = nI 0 from rfl, ct_get h.ct (show i < n by omega) 0 (by decide), bi_s, bi_s, ct_count h.ct hN (show i < n by omega), bi_s, bi_s, show (5 : Int32) = nI 5 from rfl, ct_get h.ct (show i < n by omega) 5 (by decide), bi_s, bi_s, show (2 : Int32) = nI 2 from rfl, ct_is h.ct (show i < n by omega) 2 (by decide), bi_s, hc.1, ct_get h.ct (show i < n by omega) 5 (by decide), bi_s]
    unfold dm_
    by_cases ki : kd i = 2
    · obtain ⟨e5, -⟩ := h.ct.2.2.2.2.2 i (by omega) ki
      have li := h.wlen (show i < n by omega) ki
      have := fun a => cg_L (N := N) h.ct (f_X6_digest_L32 N (M + d + 1)) (show i < n by omega) ki li (w i).length 0 a (N - (w i).length - 1) (by omega)
      rw [show N - (w i).length - 1 + (w i).length + 1 = N by omega, List.drop_zero] at this
      rw [if_pos ki, if_neg (by decide), e5, this, ih (i + 1) _ M (by omega), if_pos ki]
    · have := fun a => show f_X6_digest_L117 N (f_X6_digest_L32 N (M + d + 1)) N a (nI i) (nI 0) (nI 0) s = f_X6_digest_L32 N (M + d + 1) a (nI (i + 1)) s by
        rw [show N = N - 1 + 1 by omega]
        rw [f_X6_digest_L117, if_pos (by decide), ni_p1]
      rw [if_neg ki, if_pos (show (0 : Int32) = nI 0 from rfl), this, ih (i + 1) _ M (by omega), if_neg ki]; rfl
theorem mg_M (hN : 2000 ≤ N) (h : IV s T n kd lv dp w ids) : ∀ d i a M, i + d = n → f_X7_digest_L27 N (M + d + 1) a (nI i) s = some ((dm_ s n kd lv w d i a * 31 + Int32.toInt64 (o_F s 19)) * 31 + Int32.toInt64 (nI (cw_ kd w n 0)), s) := by
  have hn := h.nn
  intro d
  induction d with
  | zero =>
    intro i a M hi
    unfold f_X7_digest_L27
    rw [h.f18, if_pos (nI_le (by omega) (by omega)), md_ hN h, bi_s]; rfl
  | succ d ih =>
    intro i a M hi
    have di := h.id (show i < n by omega)
    have hk4 := (h.ct.2.2.2.2.1 i (by omega)).2.1
    have e7 := (h.rm.2.2.2.2.1 i (by omega)).2.2.2
    rw [show M + (d + 1) + 1 = (M + d + 1) + 1 by omega]
    unfold f_X7_digest_L27
    rw [h.f18, if_neg (fun z => absurd ((nI_leI (by omega) (by omega)).mp z) (by omega)), ld_ (show i < 1500 by omega) (by decide), h.no (show i < n by omega), ld_ di (by decide), lk_count h.lk h.wl hN (show i < n by omega), bi_s, ld_ di (by decide), h.kk (show i < n by omega), e7]
    unfold dm_
    by_cases ki : kd i = 2
    · have li := h.wlen (show i < n by omega) ki
      have := fun a => mg_L (N := N) h (f_X7_digest_L27 N (M + d + 1)) (show i < n by omega) ki (w i).length 0 a (N - (w i).length - 1) (by omega)
      rw [show N - (w i).length - 1 + (w i).length + 1 = N by omega, List.drop_zero] at this
      have t2 : ∀ a, f_X7_digest_L86 N (f_X7_digest_L27 N (M + d + 1)) N a (nI i) (nI (ids i)) 0 s = _ := this
      rw [t2, ih (i + 1) _ M (by omega), if_pos ki]
    · have t2 : ∀ a, f_X7_digest_L86 N (f_X7_digest_L27 N (M + d + 1)) N a (nI i) (nI (ids i)) 0 s = f_X7_digest_L27 N (M + d + 1) a (nI (i + 1)) s := by
        intro a
        rw [show N = N - 1 + 1 by omega]
        rw [f_X7_digest_L86, ld_ di (by decide), ni_p1, ld_ di (by decide), h.kk (show i < n by omega), if_lit 2 2 rfl (by omega) (by decide), if_neg ki]
        split <;> rfl
      rw [t2, ih (i + 1) _ M (by omega), if_neg ki]; rfl
end
theorem l_digest {N e : Nat} {s : o_S} (hN : 2000 ≤ N) (hI : Inv e s) : PW (f_X6_digest N s) (fun t => f_X7_digest N t) e := by
  obtain ⟨-, T, n, kd, lv, dp, w, ids, hv⟩ := id hI
  obtain ⟨k, p1, p2, p3, p4, p5⟩ := hv.2.2.2.2.1
  have hn := hv.nn
  have h2 := (lo_F15 s 0).iv hv
  have e1 := cg_M (N := N) hN hv n 0 ((((73 : Int64) * 31) + Int32.toInt64 (nI T.length)) * 31 + Int32.toInt64 (nI n)) (N - n - 1) (by omega)
  have e2 := mg_M (N := N) hN h2 n 0 ((((2263 : Int64)) + Int32.toInt64 (nI T.length)) * 31 + Int32.toInt64 (nI n)) (N - n - 1) (by omega)
  rw [show N - n - 1 + n + 1 = N by omega] at e1 e2
  rw [show (73 : Int64) * 31 = 2263 by decide] at e1
  refine ⟨(dm_ s n kd lv w n 0 (((2263 : Int64) + Int32.toInt64 (nI T.length)) * 31 + Int32.toInt64 (nI n)) * 31 + Int32.toInt64 (o_F s 0)) * 31 + Int32.toInt64 (nI (cw_ kd w n 0)), s, o_setF s 15 0, ?_, ?_, LO.inv hI (lo_F15 _ _) (hI.1.up (by omega))⟩
  · unfold f_X6_digest f_X6_mix f_X5_size
    rw [bi_s, bi_s, bi_s, hv.1.1, hv.f1, show (73 : Int64) * 31 = 2263 by decide]
    exact e1
  · show f_X7_digest N s = _
    unfold f_X7_digest
    rw [do_e, sF_F, if_neg (by decide), sF_F, if_neg (by decide), hv.1.2.2.1, hv.f18]
    refine e2.trans ?_
    rw [sF_F, if_neg (by decide), p4, p2, dm_c n kd lv w (s := s) (t := o_setF s 15 0) (fun i => rfl)]
