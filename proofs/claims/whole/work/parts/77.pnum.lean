/-! PARSE: a number's value, a word's letters, a repair -/
theorem bm64 {n : Int} (h1 : -(2 : Int) ^ 63 ≤ n) (h2 : n < (2 : Int) ^ 63) : n.bmod (2 ^ 64) = n := Int.bmod_eq_of_le_mul_two (by omega) (by omega)
theorem bm32 {n : Int} (h1 : -(2 : Int) ^ 31 ≤ n) (h2 : n < (2 : Int) ^ 31) : n.bmod (2 ^ 32) = n := Int.bmod_eq_of_le_mul_two (by omega) (by omega)
theorem i64_ofNat {n : Nat} (h : n < 2 ^ 62) : (Int64.ofNat n).toInt = n := Int64.toInt_ofNat_of_lt (by omega)
theorem md_9 {y : Nat} (h : y < 2 ^ 40) : Int64.ofNat y - Int64.ofNat y / (1000000000 : Int64) * (1000000000 : Int64) = Int64.ofNat (y % 1000000000) := by
  refine Int64.toInt_inj.1 ?_
  have e1 : (Int64.ofNat y / (1000000000 : Int64)).toInt = ((y / 1000000000 : Nat) : Int) := by
    rw [Int64.toInt_div_of_ne_right _ _ (by decide), i64_ofNat (by omega), show (1000000000 : Int64).toInt = ((1000000000 : Nat) : Int) from rfl, Int.ofNat_tdiv]
  have e2 : (Int64.ofNat y / (1000000000 : Int64) * (1000000000 : Int64)).toInt = ((y / 1000000000 * 1000000000 : Nat) : Int) := by
    rw [Int64.toInt_mul, e1, show (1000000000 : Int64).toInt = (1000000000 : Int) from rfl, bm64 (by omega) (by omega)]; omega
  rw [Int64.toInt_sub, e2, i64_ofNat (by omega), i64_ofNat (by omega), bm64 (by omega) (by omega)]
  omega
theorem nm_step {v : Nat} (hv : v < 1000000000) {x : Int32} (hx : isD x = true) : ∃ v', v' < 1000000000 ∧ ((Int64.ofNat v * (10 : Int64)) + (Int32.toInt64 (x - (48 : Int32)))) - ((Int64.ofNat v * (10 : Int64)) + (Int32.toInt64 (x - (48 : Int32)))) / (1000000000 : Int64) * (1000000000 : Int64) = Int64.ofNat v' ∧ ((((10 : Int64) * Int64.ofNat v) + (Int32.toInt64 x)) - (48 : Int64)) - ((((10 : Int64) * Int64.ofNat v) + (Int32.toInt64 x)) - (48 : Int64)) / (1000000000 : Int64) * (1000000000 : Int64) = Int64.ofNat v' := by
  have h1 : 48 ≤ x.toInt ∧ x.toInt ≤ 57 := by unfold isD at hx; rw [Bool.and_eq_true, decide_eq_true_eq, decide_eq_true_eq] at hx; exact hx
  obtain ⟨g, hg⟩ : ∃ g : Nat, x.toInt = 48 + (g : Int) := ⟨(x.toInt - 48).toNat, by omega⟩
  have a := i64_ofNat (show v < 2 ^ 62 by omega)
  have t10 : (10 : Int64).toInt = 10 := rfl
  have t48 : (48 : Int64).toInt = 48 := rfl
  have s48 : (48 : Int32).toInt = 48 := rfl
  have Y : (Int64.ofNat v * (10 : Int64)) + (Int32.toInt64 (x - (48 : Int32))) = Int64.ofNat (v * 10 + g) := by
    refine Int64.toInt_inj.1 ?_
    rw [Int64.toInt_add, Int64.toInt_mul, a, t10, Int32.toInt_toInt64, Int32.toInt_sub, s48, i64_ofNat (by omega), bm64 (n := (v : Int) * 10) (by omega) (by omega), bm32 (by omega) (by omega), bm64 (by omega) (by omega)]
    omega
  have Z : (((10 : Int64) * Int64.ofNat v) + (Int32.toInt64 x)) - (48 : Int64) = Int64.ofNat (v * 10 + g) := by
    refine Int64.toInt_inj.1 ?_
    rw [Int64.toInt_sub, Int64.toInt_add, Int64.toInt_mul, a, t10, t48, Int32.toInt_toInt64, i64_ofNat (by omega), bm64 (n := 10 * (v : Int)) (by omega) (by omega), bm64 (n := 10 * (v : Int) + x.toInt) (by omega) (by omega), bm64 (by omega) (by omega)]
    omega
  refine ⟨(v * 10 + g) % 1000000000, Nat.mod_lt _ (by decide), ?_, ?_⟩
  · rw [Y]; exact md_9 (by omega)
  · rw [Z]; exact md_9 (by omega)
theorem i64_32 (v : Nat) : Int64.toInt32 (Int64.ofNat v) = nI v := Int64.toInt32_ofNat'
section
variable {N e : Nat} {c r : o_S} {T : List Int32}
/-- a number, on both sides -/
theorem nm_L {b : Nat} (hT : o_R c 0 = T) (hTl : T.length ≤ 600) (hA : ∀ j, j < T.length → o_A r 0 j = T.getD j 0) (hb : b ≤ T.length) (hc2 : o_F c 2 = nI b) (hr25 : o_F r 25 = nI b) (to : Int32) : ∀ d i m m' v, i + d = b → d < m → d < m' → v < 1000000000 → (∀ j, i ≤ j → j < b → isD (T.getD j 0) = true) → ∃ v', v' < 1000000000 ∧ f_X1_numberRead_L7 N m (Int64.ofNat v) (nI i) c = some (nI v', c) ∧ f_X7_addPart_L98 N m' to (Int64.ofNat v) (nI i) r = o_bi (f_X7_add N (3 : Int32) to (o_F r 26) (o_F r 27) (nI v') r) fun _ s => some s := by
  intro d
  induction d with
  | zero =>
    intro i m m' v hi hm hm' hv hD
    obtain ⟨m, rfl⟩ : ∃ k, m = k + 1 := ⟨m - 1, by omega⟩
    obtain ⟨m', rfl⟩ : ∃ k, m' = k + 1 := ⟨m' - 1, by omega⟩
    refine ⟨v, hv, ?_, ?_⟩
    · rw [f_X1_numberRead_L7, hc2, if_pos (nI_le (by omega) (by omega)), i64_32]
    · rw [f_X7_addPart_L98, hr25, if_pos (nI_le (by omega) (by omega)), i64_32]
  | succ d ih =>
    intro i m m' v hi hm hm' hv hD
    obtain ⟨m, rfl⟩ : ∃ k, m = k + 1 := ⟨m - 1, by omega⟩
    obtain ⟨m', rfl⟩ : ∃ k, m' = k + 1 := ⟨m' - 1, by omega⟩
    obtain ⟨v1, h1, h2, h3⟩ := nm_step hv (hD i (Nat.le_refl _) (by omega))
    obtain ⟨v2, k1, k2, k3⟩ := ih (i + 1) m m' v1 (by omega) (by omega) (by omega) h1 (fun j j1 j2 => hD j (by omega) j2)
    have ea : o_at c 0 (nI i) = T.getD i 0 := by rw [at_in (by rw [hT]; omega) (by rw [hT]; omega), hT]
    refine ⟨v2, k1, ?_, ?_⟩
    · rw [f_X1_numberRead_L7, hc2, if_neg (fun q => absurd ((nI_leI (by omega) (by omega)).mp q) (by omega)), do_e, ea, h2, ni_p1]; exact k2
    · rw [f_X7_addPart_L98, hr25, if_neg (fun q => absurd ((nI_leI (by omega) (by omega)).mp q) (by omega)), ld_ (show i < 600 by omega) (by decide), hA i (by omega), h3, ni_p1]; exact k3
/-- a word's letters in the class -/
theorem sp_17 {b : Nat} (hTl : T.length ≤ 600) (hb : b ≤ T.length) (l1 l3 : Int32) : ∀ d i m (c : o_S), i + d = b → GS e c → o_R c 0 = T → (o_R c 4).length + d < 16384 → ∃ t, f_X5_spell_L17 N (m + d) l1 l3 (nI b) (nI i) c = f_X5_spell_L17 N m l1 l3 (nI b) (nI b) t ∧ GS e t ∧ o_F t = o_F c ∧ o_A t = o_A c ∧ o_O t = o_O c ∧ (∀ q, q ≠ 4 → o_R t q = o_R c q) ∧ o_R t 4 = o_R c 4 ++ (T.drop i).take d := by
  intro d
  induction d with
  | zero =>
    intro i m c hi hG hT hl
    have : i = b := by omega
    subst this
    exact ⟨c, rfl, hG, rfl, rfl, rfl, fun _ _ => rfl, by rw [List.take_zero, List.append_nil]⟩
  | succ d ih =>
    intro i m c hi hG hT hl
    have m4 : o_M 4 = 16384 := rfl
    obtain ⟨s1, a1, g1, r1, f1, x1, y1⟩ := hG.push (r := 4) (by decide) (T.getD i 0) (by omega)
    have R1 : o_R s1 4 = o_R c 4 ++ [T.getD i 0] := by rw [r1, if_pos rfl]
    obtain ⟨t, t1, t2, t3, t4, t5, t6, t7⟩ := ih (i + 1) m s1 (by omega) g1 (by rw [r1, if_neg (by decide)]; exact hT) (by rw [R1, List.length_append]; show _ + 1 + d < _; omega)
    have ea : o_at c 0 (nI i) = T.getD i 0 := by rw [at_in (by rw [hT]; omega) (by rw [hT]; omega), hT]
    refine ⟨t, ?_, t2, t3.trans f1, t4.trans x1, t5.trans y1, fun q hq => by rw [t6 q hq, r1, if_neg hq], ?_⟩
    · rw [show m + (d + 1) = (m + d) + 1 by omega, f_X5_spell_L17, if_neg (fun q => absurd ((nI_leI (by omega) (by omega)).mp q) (by omega)), do_e, ea, a1, bv_s, ni_p1]; exact t1
    · rw [t7, R1, List.append_assoc, dr_ (l := T) (i := i) (by omega)]; rfl
theorem sp_49 (l1 l3 l4 : Int32) : ∀ d i m (c : o_S), i + d = 8 → GS e c → (o_R c 4).length + d < 16384 → ∃ t, f_X5_spell_L49 N (m + d) l1 l3 l4 (nI i) c = f_X5_spell_L49 N m l1 l3 l4 (nI 8) t ∧ GS e t ∧ o_F t = o_F c ∧ o_A t = o_A c ∧ o_O t = o_O c ∧ (∀ q, q ≠ 4 → o_R t q = o_R c q) ∧ o_R t 4 = o_R c 4 ++ List.replicate d 0 := by
  intro d
  induction d with
  | zero =>
    intro i m c hi hG hl
    have : i = 8 := by omega
    subst this
    exact ⟨c, rfl, hG, rfl, rfl, rfl, fun _ _ => rfl, by rw [List.replicate_zero, List.append_nil]⟩
  | succ d ih =>
    intro i m c hi hG hl
    have m4 : o_M 4 = 16384 := rfl
    obtain ⟨s1, a1, g1, r1, f1, x1, y1⟩ := hG.push (r := 4) (by decide) 0 (by omega)
    have R1 : o_R s1 4 = o_R c 4 ++ [0] := by rw [r1, if_pos rfl]
    obtain ⟨t, t1, t2, t3, t4, t5, t6, t7⟩ := ih (i + 1) m s1 (by omega) g1 (by rw [R1, List.length_append]; show _ + 1 + d < _; omega)
    refine ⟨t, ?_, t2, t3.trans f1, t4.trans x1, t5.trans y1, fun q hq => by rw [t6 q hq, r1, if_neg hq], ?_⟩
    · rw [show m + (d + 1) = (m + d) + 1 by omega, f_X5_spell_L49, show (8 : Int32) = nI 8 from rfl, if_neg (fun q => absurd ((nI_leI (by omega) (by omega)).mp q) (by omega)), a1, bv_s, ni_p1]; exact t1
    · rw [t7, R1, List.append_assoc]; rfl
theorem xspell {n a b : Nat} (hN : 2000 ≤ N) (hG : GS e c) (hl : (o_R c 3).length = 7 * (n + 1)) (hn : n ≤ 1201) (hT : o_R c 0 = T) (hTl : T.length ≤ 600) (hab : a < b) (hb : b ≤ T.length) (h4 : (o_R c 4).length ≤ 15000) : ∃ t X, f_X5_spell N (nI n) (nI a) (nI b) c = some t ∧ GS e t ∧ o_F t = o_F c ∧ o_A t = o_A c ∧ o_O t = o_O c ∧ (∀ q, q ≠ 3 → q ≠ 4 → o_R t q = o_R c q) ∧ o_R t 3 = ((o_R c 3).set (7 * n + 6) (nI (o_R c 4).length)).set (7 * n + 5) (nI (b - a)) ∧ o_R t 4 = o_R c 4 ++ X ∧ X.length = (b - a) + (8 - (b - a)) ∧ ∀ j, j < b - a → X.getD j 0 = T.getD (a + j) 0 := by
  have s1 := pt_ (N := N) hl (by omega) (show n < n + 1 by omega) 6 (by decide) (nI (o_R c 4).length)
  have g1 : GS e (o_setR c 3 (o_cap c 3) ((o_R c 3).set (7 * n + 6) (nI (o_R c 4).length))) := hG.set (by decide) (by rw [List.length_set]; exact (hG.1 3 (by decide)).1)
  have r1 : ∀ q, q ≠ 3 → o_R (o_setR c 3 (o_cap c 3) ((o_R c 3).set (7 * n + 6) (nI (o_R c 4).length))) q = o_R c q := fun q hq => by rw [sR_R, if_neg hq]
  have r13 : o_R (o_setR c 3 (o_cap c 3) ((o_R c 3).set (7 * n + 6) (nI (o_R c 4).length))) 3 = (o_R c 3).set (7 * n + 6) (nI (o_R c 4).length) := by rw [sR_R, if_pos rfl]
  have f1 : o_F (o_setR c 3 (o_cap c 3) ((o_R c 3).set (7 * n + 6) (nI (o_R c 4).length))) = o_F c := rfl
  have x1 : o_A (o_setR c 3 (o_cap c 3) ((o_R c 3).set (7 * n + 6) (nI (o_R c 4).length))) = o_A c := rfl
  have y1 : o_O (o_setR c 3 (o_cap c 3) ((o_R c 3).set (7 * n + 6) (nI (o_R c 4).length))) = o_O c := rfl
  generalize o_setR c 3 (o_cap c 3) ((o_R c 3).set (7 * n + 6) (nI (o_R c 4).length)) = s at s1 g1 r1 r13 f1 x1 y1
  obtain ⟨t, t1, t2, t3, t4, t5, t6, t7⟩ := sp_17 (N := N) (e := e) hTl hb (nI n) (nI a) (b - a) a (N - (b - a)) s (by omega) g1 (by rw [r1 0 (by decide)]; exact hT) (by rw [r1 4 (by decide)]; omega)
  rw [show N - (b - a) + (b - a) = N by omega] at t1
  have lt : (o_R t 4).length = (o_R c 4).length + (b - a) := by rw [t7, r1 4 (by decide), List.length_append, List.length_take, List.length_drop]; omega
  have e49 : ∃ u, f_X5_spell_L49 N N (nI n) (nI a) (nI b) (nI (b - a)) t = o_bv (f_X5_set N (nI n) (5 : Int32) (nI (b - a)) u) some ∧ GS e u ∧ o_F u = o_F t ∧ o_A u = o_A t ∧ o_O u = o_O t ∧ (∀ q, q ≠ 4 → o_R u q = o_R t q) ∧ o_R u 4 = o_R t 4 ++ List.replicate (8 - (b - a)) 0 := by
    have fin : ∀ m (x : Nat) (u : o_S), 8 ≤ x → x < 2 ^ 31 → f_X5_spell_L49 N (m + 1) (nI n) (nI a) (nI b) (nI x) u = o_bv (f_X5_set N (nI n) (5 : Int32) (nI (b - a)) u) some := by
      intro m x u h8 hx
      rw [f_X5_spell_L49, show (8 : Int32) = nI 8 from rfl, if_pos (nI_le h8 hx), ni_sub (by omega)]
    by_cases q : 8 ≤ b - a
    · refine ⟨t, ?_, t2, rfl, rfl, rfl, fun _ _ => rfl, by rw [show 8 - (b - a) = 0 by omega, List.replicate_zero, List.append_nil]⟩
      have := fin (N - 1) (b - a) t q (by omega)
      rw [show N - 1 + 1 = N by omega] at this
      exact this
    · obtain ⟨u, u1, u2, u3, u4, u5, u6, u7⟩ := sp_49 (N := N) (e := e) (nI n) (nI a) (nI b) (8 - (b - a)) (b - a) (N - (8 - (b - a))) t (by omega) t2 (by omega)
      refine ⟨u, ?_, u2, u3, u4, u5, u6, u7⟩
      rw [show N - (8 - (b - a)) + (8 - (b - a)) = N by omega] at u1
      rw [u1]
      have := fin (N - (8 - (b - a)) - 1) 8 u (Nat.le_refl _) (by decide)
      rw [show N - (8 - (b - a)) - 1 + 1 = N - (8 - (b - a)) by omega] at this
      exact this
  obtain ⟨u, u1, u2, u3, u4, u5, u6, u7⟩ := e49
  have u3r : o_R u 3 = (o_R c 3).set (7 * n + 6) (nI (o_R c 4).length) := by rw [u6 3 (by decide), t6 3 (by decide), r13]
  have s5 := pt_ (N := N) (s := u) (n := n + 1) (by rw [u3r, List.length_set, hl]) (by omega) (show n < n + 1 by omega) 5 (by decide) (nI (b - a))
  refine ⟨o_setR u 3 (o_cap u 3) ((o_R u 3).set (7 * n + 5) (nI (b - a))), (T.drop a).take (b - a) ++ List.replicate (8 - (b - a)) 0, ?_, u2.set (by decide) (by rw [List.length_set]; exact (u2.1 3 (by decide)).1), ?_, ?_, ?_, fun q h3 h4 => ?_, ?_, ?_, ?_, fun j hj => ?_⟩
  · unfold f_X5_spell
    rw [show (6 : Int32) = nI 6 from rfl, s1, bv_s, t1]
    obtain ⟨m, hm⟩ : ∃ m, N - (b - a) = m + 1 := ⟨N - (b - a) - 1, by omega⟩
    rw [hm, f_X5_spell_L17, if_pos (nI_le (Nat.le_refl _) (by omega)), ni_sub (by omega), u1, show (5 : Int32) = nI 5 from rfl, s5, bv_s]
  · rw [sR_F, u3, t3, f1]
  · rw [sR_A, u4, t4, x1]
  · rw [sR_O, u5, t5, y1]
  · rw [sR_R, if_neg h3, u6 q h4, t6 q h4, r1 q h3]
  · rw [sR_R, if_pos rfl, u3r]
  · rw [sR_R, if_neg (by decide), u7, t7, r1 4 (by decide), List.append_assoc]
  · rw [List.length_append, List.length_take, List.length_drop, List.length_replicate]; omega
  · rw [gd_l (by rw [List.length_take, List.length_drop]; omega), List.getD_eq_getElem?_getD, List.getElem?_take, if_pos hj, List.getElem?_drop, ← List.getD_eq_getElem?_getD]
/-- repairs, on both sides -/
def RK (c r : o_S) (k : Nat) : Prop := o_F c 0 = nI k ∧ (o_R c 2).length = 3 * k ∧ o_F r 19 = nI k ∧ ∀ j, j < 3 * k → o_A r 12 j = (o_R c 2).getD j 0
theorem RK.cg {c r c' r' : o_S} {k : Nat} (h : RK c r k) (h1 : o_F c' 0 = o_F c 0) (h2 : o_R c' 2 = o_R c 2) (h3 : o_F r' 19 = o_F r 19) (h4 : o_A r' 12 = o_A r 12) : RK c' r' k := by
  obtain ⟨a, b, d, f⟩ := h
  exact ⟨by rw [h1]; exact a, by rw [h2]; exact b, by rw [h3]; exact d, fun j hj => by rw [h4, h2]; exact f j hj⟩
theorem p_rep {k : Nat} (hG : GS e c) (hR : RK c r k) (hk : k ≤ 1289) (v l cl : Int32) (hl : o_F r 26 = l) (hcl : o_F r 27 = cl) : ∃ c' r', f_X3_add N v l cl c = some c' ∧ f_X7_repair N v r = some r' ∧ RK c' r' (k + 1) ∧ GS e c' ∧ o_A c' = o_A c ∧ o_O c' = o_O c ∧ (∀ q, q ≠ 2 → o_R c' q = o_R c q) ∧ (∀ f, f ≠ 0 → o_F c' f = o_F c f) ∧ RQ r r' ∧ (∀ a, a ≠ 12 → o_A r' a = o_A r a) ∧ (∀ f, f ≠ 19 → o_F r' f = o_F r f) := by
  obtain ⟨h1, h2, h3, h4⟩ := hR
  have m2 : o_M 2 = 16384 := rfl
  obtain ⟨s1, a1, g1, r1, f1, x1, y1⟩ := hG.push (r := 2) (by decide) v (by omega)
  have R1 : o_R s1 2 = o_R c 2 ++ [v] := by rw [r1, if_pos rfl]
  obtain ⟨s2, a2, g2, r2, f2, x2, y2⟩ := g1.push (r := 2) (by decide) l (by rw [R1, List.length_append]; show _ + 1 < _; omega)
  have R2 : o_R s2 2 = o_R c 2 ++ [v, l] := by rw [r2, if_pos rfl, R1, List.append_assoc]; rfl
  obtain ⟨s3, a3, g3, r3, f3, x3, y3⟩ := g2.push (r := 2) (by decide) cl (by rw [R2, List.length_append]; show _ + 2 < _; omega)
  have R3 : o_R s3 2 = o_R c 2 ++ [v, l, cl] := by rw [r3, if_pos rfl, R2, List.append_assoc]; rfl
  have F3 : o_F s3 = o_F c := by rw [f3, f2, f1]
  have e3 : (3 : Int32) * nI k = nI (3 * k) := by rw [show (3 : Int32) = nI 3 from rfl, pk_mul]
  have e3a : nI (3 * k) + (1 : Int32) = nI (3 * k + 1) := ni_p1 _
  have e3b : nI (3 * k) + (2 : Int32) = nI (3 * k + 2) := by rw [show (2 : Int32) = nI 2 from rfl, nI_add]
  refine ⟨o_setF s3 0 (nI (k + 1)), o_setF (o_setA (o_setA (o_setA r 12 (3 * k) v) 12 (3 * k + 1) l) 12 (3 * k + 2) cl) 19 (nI (k + 1)), ?_, ?_, ⟨by rw [sF_F, if_pos rfl], ?_, by rw [sF_F, if_pos rfl], fun j hj => ?_⟩, g3.F _ _, ?_, ?_, fun q hq => ?_, fun f hf => ?_, (((RQ.rf r).A _ _ _).A _ _ _).A _ _ _, fun a ha => ?_, fun f hf => ?_⟩
  · unfold f_X3_add
    rw [a1, bv_s, a2, bv_s, a3, bv_s, do_e, F3, h1, ni_p1]
  · unfold f_X7_repair
    rw [h3, e3, st_ (show 3 * k < 3900 by omega) (by decide), sA_F, h3, e3, e3a, hl, st_ (show 3 * k + 1 < 3900 by omega) (by decide), sA_F, sA_F, h3, e3, e3b, hcl, st_ (show 3 * k + 2 < 3900 by omega) (by decide), do_e, sA_F, sA_F, sA_F, h3, ni_p1]
  · rw [sF_R, R3, List.length_append, h2]; show 3 * k + 3 = _; omega
  · rw [sF_R, R3, sF_A, sA_A, if_pos rfl, sA_A, if_pos rfl, sA_A, if_pos rfl]
    by_cases q : j < 3 * k
    · rw [if_neg (by omega), if_neg (by omega), if_neg (by omega), gd_l (by omega)]; exact h4 j q
    · rw [gd_r (by omega), h2]
      by_cases q0 : j = 3 * k
      · rw [if_neg (by omega), if_neg (by omega), if_pos q0, q0, Nat.sub_self]; rfl
      · by_cases q1 : j = 3 * k + 1
        · rw [if_neg (by omega), if_pos q1, q1, show 3 * k + 1 - 3 * k = 1 by omega]; rfl
        · rw [if_pos (show j = 3 * k + 2 by omega), show j - 3 * k = 2 by omega]; rfl
  · rw [sF_A, x3, x2, x1]
  · rw [sF_O, y3, y2, y1]
  · rw [sF_R, r3, if_neg hq, r2, if_neg hq, r1, if_neg hq]
  · rw [sF_F, if_neg hf, F3]
  · rw [sF_A, sA_ne ha, sA_ne ha, sA_ne ha]
  · rw [sF_F, if_neg hf, sA_F, sA_F, sA_F]
end
