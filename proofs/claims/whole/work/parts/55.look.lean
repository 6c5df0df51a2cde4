/-! THE CALLS THAT LOOK -/
/-- a call of the class, caught; then the reference's: the same thrown, the same answer -/
def PX (a : Option (Int32 × o_S)) (b : o_S → Option (Int32 × o_S)) (e : Nat) : Prop := ∃ k s1 v s2, a = some (k, s1) ∧ b s1 = some (v, s2) ∧ o_F s2 15 = k ∧ (k = 0 → o_O s2 0 = Int32.toInt64 v) ∧ Inv (e + 1) s2
def PQ (a : Option (Int32 × o_S)) (b : o_S → Option (Int32 × o_S)) (e : Nat) : Prop := ∃ v s1 s2, a = some (v, s1) ∧ b s1 = some (v, s2) ∧ Inv (e + 1) s2
theorem LO.inv {e : Nat} {s t : o_S} (hI : Inv e s) (h : LO s t) (hG : GS (e + 1) t) : Inv (e + 1) t := by
  obtain ⟨-, T, n, kd, lv, dp, w, ids, hv⟩ := hI
  exact ⟨hG, T, n, kd, lv, dp, w, ids, h.iv hv⟩
theorem lo_F15 (s : o_S) (v : Int32) : LO s (o_setF s 15 v) := ⟨fun _ _ => rfl, fun k hk => by rw [sF_F, if_neg hk], fun _ _ => rfl⟩
theorem lo_O (s : o_S) (i : Nat) (v : Int64) : LO s (o_setO s i v) := ⟨fun _ _ => rfl, fun _ _ => rfl, fun _ _ => rfl⟩
theorem lo_K (s : o_S) (k : Nat) : LO s (o_addK s k) := ⟨fun _ _ => rfl, fun _ _ => rfl, fun _ _ => rfl⟩
theorem PX.bad {a : Option (Int32 × o_S)} {b : o_S → Option (Int32 × o_S)} {e : Nat} {s : o_S} {k v : Int32} (hI : Inv e s) (h1 : a = some (k, o_addK s 3)) (h2 : b (o_addK s 3) = some (v, o_setF (o_setF (o_addK s 3) 15 0) 15 k)) (hk : k ≠ 0) : PX a b e :=
  ⟨k, _, v, _, h1, h2, by rw [sF_F, if_pos rfl], fun z => absurd z hk, LO.inv hI (((lo_K s 3).tr (lo_F15 _ _)).tr (lo_F15 _ _)) hI.1.K⟩
theorem PX.ok {a : Option (Int32 × o_S)} {b : o_S → Option (Int32 × o_S)} {e : Nat} {s : o_S} {v : Int32} (hI : Inv e s) (h1 : a = some (0, o_setO s 0 (Int32.toInt64 v))) (h2 : b (o_setO s 0 (Int32.toInt64 v)) = some (v, o_setF (o_setO s 0 (Int32.toInt64 v)) 15 0)) : PX a b e :=
  ⟨0, _, v, _, h1, h2, by rw [sF_F, if_pos rfl], fun _ => by rw [sF_O, sO_O, if_pos rfl], LO.inv hI ((lo_O s 0 _).tr (lo_F15 _ _)) (hI.1.up (by omega))⟩
section
variable {s : o_S} {N n : Nat} {T : List Int32} {kd lv dp : Nat → Nat} {w : Nat → List Int32} {ids : Nat → Nat}
/-- a number is that of a node, or not -/
theorem nodeP (n : Nat) (hn : n < 2 ^ 31) (p : Int32) : (p < 0 ∨ (¬ p < 0 ∧ ¬ p < nI n ∧ nI n ≤ p)) ∨ ∃ i, i < n ∧ p = nI i := by
  rcases pk_ix p hn with h | h | ⟨j, hj, rfl⟩
  · exact Or.inl (Or.inl h)
  · obtain ⟨j, hj, rfl⟩ | z : (∃ j : Nat, j < 2 ^ 31 ∧ p = nI j) ∨ p < 0 := by
      rcases ni_cases p with z | z
      · exact Or.inr z
      · exact Or.inl z
    · have := (nI_leI hn hj).mp h
      exact Or.inl (Or.inr ⟨nI_pos hj, fun q => absurd ((nI_ltI hj hn).mp q) (by omega), h⟩)
    · exact Or.inl (Or.inl z)
  · exact Or.inr ⟨j, hj, rfl⟩
theorem chk_bad (h : o_F s 1 = nI n) {p : Int32} (hp : p < 0 ∨ (¬ p < 0 ∧ ¬ p < nI n ∧ nI n ≤ p)) : f_X6_checkNode N p s = some (.inl 3, o_addK s 3) := by
  unfold f_X6_checkNode f_X5_size
  rcases hp with q | ⟨q1, q2, -⟩
  · rw [if_pos q]
  · rw [if_neg q1, bi_s, h, if_neg q2]
theorem chk_ok (h : o_F s 1 = nI n) (hn : n < 2 ^ 31) {i : Nat} (hi : i < n) : f_X6_checkNode N (nI i) s = some (.inr (), s) := by
  unfold f_X6_checkNode f_X5_size
  rw [if_neg (nI_pos (by omega)), bi_s, h, if_pos (nI_lt hi hn)]
theorem isn_bad (h : o_F s 18 = nI n) {p : Int32} (hp : p < 0 ∨ (¬ p < 0 ∧ ¬ p < nI n ∧ nI n ≤ p)) : f_X7_isNode N p s = some (0, s) := by
  unfold f_X7_isNode
  rcases hp with q | ⟨q1, -, q2⟩
  · rw [if_pos q]
  · rw [if_neg q1, h, if_pos q2]
theorem isn_ok (h : o_F s 18 = nI n) (hn : n < 2 ^ 31) {i : Nat} (hi : i < n) : f_X7_isNode N (nI i) s = some (1, s) := by
  unfold f_X7_isNode
  rw [if_neg (nI_pos (by omega)), h, if_neg (fun q => absurd ((nI_leI hn (by omega)).mp q) (by omega))]
theorem fail_ (k : Int32) : f_X7_fail N k s = some (0, o_setF s 15 k) := rfl
theorem IV.nn (h : IV s T n kd lv dp w ids) : n ≤ 1202 := h.2.2.2.2.2.2.2.1
theorem IV.f1 (h : IV s T n kd lv dp w ids) : o_F s 1 = nI n := h.2.1.2.1
theorem IV.f18 (h : IV s T n kd lv dp w ids) : o_F s 18 = nI n := h.2.2.2.1.1
theorem IV.ct (h : IV s T n kd lv dp w ids) : CT s n kd lv dp w := h.2.1
theorem IV.ti (h : IV s T n kd lv dp w ids) : TI n kd lv dp := h.2.2.1
theorem IV.wl (h : IV s T n kd lv dp w ids) : WL n lv := h.2.2.1.1
theorem IV.rm (h : IV s T n kd lv dp w ids) : RM s n kd lv w ids := h.2.2.2.1
theorem IV.lk (h : IV s T n kd lv dp w ids) : LK n lv ids s := h.2.2.2.1.2.1
theorem IV.id (h : IV s T n kd lv dp w ids) {i : Nat} (hi : i < n) : ids i < 1500 := h.lk.1 i hi
theorem IV.no (h : IV s T n kd lv dp w ids) {i : Nat} (hi : i < n) : o_A s 10 i = nI (ids i) := (h.rm.2.2.2.1 i hi).1
theorem IV.nu (h : IV s T n kd lv dp w ids) {i : Nat} (hi : i < n) : o_A s 11 (ids i) = nI i := (h.rm.2.2.2.1 i hi).2
theorem IV.kk (h : IV s T n kd lv dp w ids) {i : Nat} (hi : i < n) : o_A s 1 (ids i) = nI (kd i) := (h.rm.2.2.2.2.1 i hi).1
end
section
variable {N e : Nat} {s : o_S}
/-- the plain ones: a field of the node, on both sides -/
theorem l_kind (hN : 2000 ≤ N) (hI : Inv e s) (p : Int32) : PX (f_L_kind N p s) (fun t => f_X7_kind N p t) e := by
  obtain ⟨-, T, n, kd, lv, dp, w, ids, hv⟩ := id hI
  have hn := hv.nn
  rcases nodeP n (by omega) p with hp | ⟨i, hi, rfl⟩
  · refine PX.bad (k := 1) (v := 0) hI ?_ ?_ (by decide)
    · unfold f_L_kind f_X6_kind; rw [chk_bad hv.f1 hp]; rfl
    · unfold f_X7_kind; rw [do_e, isn_bad (s := o_setF (o_addK s 3) 15 0) (n := n) hv.f18 hp, bi_s, if_pos rfl, fail_]; rfl
  · have hc := (hv.ct.2.2.2.2.1 i hi)
    refine PX.ok (v := nI (kd i)) hI ?_ ?_
    · unfold f_L_kind f_X6_kind; rw [chk_ok hv.f1 (by omega) hi, bx_r, show (0 : Int32) = nI 0 from rfl, ct_get hv.ct hi 0 (by decide), hc.1]; rfl
    · have h2 := ((lo_O s 0 (Int32.toInt64 (nI (kd i)))).tr (lo_F15 _ 0)).iv hv
      unfold f_X7_kind
      rw [do_e, isn_ok h2.f18 (by omega) hi, bi_s, if_neg (by decide), ld_ (show i < 1500 by omega) (by decide), h2.no hi, ld_ (h2.id hi) (by decide), h2.kk hi]
theorem l_line (hN : 2000 ≤ N) (hI : Inv e s) (p : Int32) : PX (f_L_line N p s) (fun t => f_X7_line N p t) e := by
  obtain ⟨-, T, n, kd, lv, dp, w, ids, hv⟩ := id hI
  have hn := hv.nn
  rcases nodeP n (by omega) p with hp | ⟨i, hi, rfl⟩
  · refine PX.bad (k := 1) (v := 0) hI ?_ ?_ (by decide)
    · unfold f_L_line f_X6_line; rw [chk_bad hv.f1 hp]; rfl
    · unfold f_X7_line; rw [do_e, isn_bad (s := o_setF (o_addK s 3) 15 0) (n := n) hv.f18 hp, bi_s, if_pos rfl, fail_]; rfl
  · refine PX.ok (v := tg s i 3) hI ?_ ?_
    · unfold f_L_line f_X6_line; rw [chk_ok hv.f1 (by omega) hi, bx_r, show (3 : Int32) = nI 3 from rfl, ct_get hv.ct hi 3 (by decide)]; rfl
    · have h2 := ((lo_O s 0 (Int32.toInt64 (tg s i 3))).tr (lo_F15 _ 0)).iv hv
      unfold f_X7_line
      rw [do_e, isn_ok h2.f18 (by omega) hi, bi_s, if_neg (by decide), ld_ (show i < 1500 by omega) (by decide), h2.no hi, ld_ (h2.id hi) (by decide), (h2.rm.2.2.2.2.1 i hi).2.1]; rfl
theorem l_column (hN : 2000 ≤ N) (hI : Inv e s) (p : Int32) : PX (f_L_column N p s) (fun t => f_X7_column N p t) e := by
  obtain ⟨-, T, n, kd, lv, dp, w, ids, hv⟩ := id hI
  have hn := hv.nn
  rcases nodeP n (by omega) p with hp | ⟨i, hi, rfl⟩
  · refine PX.bad (k := 1) (v := 0) hI ?_ ?_ (by decide)
    · unfold f_L_column f_X6_column; rw [chk_bad hv.f1 hp]; rfl
    · unfold f_X7_column; rw [do_e, isn_bad (s := o_setF (o_addK s 3) 15 0) (n := n) hv.f18 hp, bi_s, if_pos rfl, fail_]; rfl
  · refine PX.ok (v := tg s i 4) hI ?_ ?_
    · unfold f_L_column f_X6_column; rw [chk_ok hv.f1 (by omega) hi, bx_r, show (4 : Int32) = nI 4 from rfl, ct_get hv.ct hi 4 (by decide)]; rfl
    · have h2 := ((lo_O s 0 (Int32.toInt64 (tg s i 4))).tr (lo_F15 _ 0)).iv hv
      unfold f_X7_column
      rw [do_e, isn_ok h2.f18 (by omega) hi, bi_s, if_neg (by decide), ld_ (show i < 1500 by omega) (by decide), h2.no hi, ld_ (h2.id hi) (by decide), (h2.rm.2.2.2.2.1 i hi).2.2.1]; rfl
theorem l_value (hN : 2000 ≤ N) (hI : Inv e s) (p : Int32) : PX (f_L_value N p s) (fun t => f_X7_value N p t) e := by
  obtain ⟨-, T, n, kd, lv, dp, w, ids, hv⟩ := id hI
  have hn := hv.nn
  rcases nodeP n (by omega) p with hp | ⟨i, hi, rfl⟩
  · refine PX.bad (k := 1) (v := 0) hI ?_ ?_ (by decide)
    · unfold f_L_value f_X6_value; rw [chk_bad hv.f1 hp]; rfl
    · unfold f_X7_value; rw [do_e, isn_bad (s := o_setF (o_addK s 3) 15 0) (n := n) hv.f18 hp, bi_s, if_pos rfl, fail_]; rfl
  · refine PX.ok (v := tg s i 5) hI ?_ ?_
    · unfold f_L_value f_X6_value; rw [chk_ok hv.f1 (by omega) hi, bx_r, show (5 : Int32) = nI 5 from rfl, ct_get hv.ct hi 5 (by decide)]; rfl
    · have h2 := ((lo_O s 0 (Int32.toInt64 (tg s i 5))).tr (lo_F15 _ 0)).iv hv
      unfold f_X7_value
      rw [do_e, isn_ok h2.f18 (by omega) hi, bi_s, if_neg (by decide), ld_ (show i < 1500 by omega) (by decide), h2.no hi, ld_ (h2.id hi) (by decide), (h2.rm.2.2.2.2.1 i hi).2.2.2]; rfl
theorem l_parent (hN : 2000 ≤ N) (hI : Inv e s) (p : Int32) : PX (f_L_parent N p s) (fun t => f_X7_parent N p t) e := by
  obtain ⟨-, T, n, kd, lv, dp, w, ids, hv⟩ := id hI
  have hn := hv.nn
  rcases nodeP n (by omega) p with hp | ⟨i, hi, rfl⟩
  · refine PX.bad (k := 1) (v := 0) hI ?_ ?_ (by decide)
    · unfold f_L_parent f_X6_parent; rw [chk_bad hv.f1 hp]; rfl
    · unfold f_X7_parent; rw [do_e, isn_bad (s := o_setF (o_addK s 3) 15 0) (n := n) hv.f18 hp, bi_s, if_pos rfl, fail_]; rfl
  · refine PX.ok (v := t_par lv (lv i) i) hI ?_ ?_
    · unfold f_L_parent f_X6_parent; rw [chk_ok hv.f1 (by omega) hi, bx_r, ct_par hv.ct hN hi]; rfl
    · have h2 := ((lo_O s 0 (Int32.toInt64 (t_par lv (lv i) i))).tr (lo_F15 _ 0)).iv hv
      unfold f_X7_parent
      rw [do_e, isn_ok h2.f18 (by omega) hi, bi_s, if_neg (by decide), if_lit 0 0 rfl (by omega) (by decide)]
      rcases Nat.eq_zero_or_pos i with z | z
      · subst z; rw [if_pos rfl]; rfl
      · obtain ⟨p1, -, -⟩ := h2.wl.par z hi
        rw [if_neg (by omega), ld_ (show i < 1500 by omega) (by decide), h2.no hi, ld_ (h2.id hi) (by decide), h2.lk.2.2.1 i hi, if_neg (show ¬ i = 0 by omega), ld_ (h2.id (show p_par lv (lv i) i < n by omega)) (by decide), h2.nu (show p_par lv (lv i) i < n by omega), t_par_p lv (lv i) (by rw [h2.wl.2.2.1]; exact h2.wl.pos z hi) i z]
theorem l_childCount (hN : 2000 ≤ N) (hI : Inv e s) (p : Int32) : PX (f_L_childCount N p s) (fun t => f_X7_childCount N p t) e := by
  obtain ⟨-, T, n, kd, lv, dp, w, ids, hv⟩ := id hI
  have hn := hv.nn
  rcases nodeP n (by omega) p with hp | ⟨i, hi, rfl⟩
  · refine PX.bad (k := 1) (v := 0) hI ?_ ?_ (by decide)
    · unfold f_L_childCount f_X6_childCount; rw [chk_bad hv.f1 hp]; rfl
    · unfold f_X7_childCount; rw [do_e, isn_bad (s := o_setF (o_addK s 3) 15 0) (n := n) hv.f18 hp, bi_s, if_pos rfl, fail_]; rfl
  · refine PX.ok (v := nI (t_cnt lv (lv i + 1) (aft lv n i - (i + 1)) (i + 1))) hI ?_ ?_
    · unfold f_L_childCount f_X6_childCount; rw [chk_ok hv.f1 (by omega) hi, bx_r, ct_count hv.ct hN hi]; rfl
    · have h2 := ((lo_O s 0 (Int32.toInt64 (nI (t_cnt lv (lv i + 1) (aft lv n i - (i + 1)) (i + 1))))).tr (lo_F15 _ 0)).iv hv
      unfold f_X7_childCount
      rw [do_e, isn_ok h2.f18 (by omega) hi, bi_s, if_neg (by decide), ld_ (show i < 1500 by omega) (by decide), h2.no hi, lk_count h2.lk h2.wl hN hi]; rfl
end
