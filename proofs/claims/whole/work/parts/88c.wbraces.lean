/-! WRITE: blocks in braces; every part -/
theorem bv_id (x : Option o_S) : (o_bv x fun s => some s) = x := by cases x <;> rfl
section
variable {n : Nat} {kd lv dp : Nat → Nat} {w : Nat → List Int32} {ids : Nat → Nat} {val : Nat → Int32} {N e : Nat}
def CI (N e n : Nat) (kd lv dp : Nat → Nat) (w : Nat → List Int32) (ids : Nat → Nat) (val : Nat → Int32) (RC RR : Nat → Int32 → Int32 → Int32 → o_S → Option o_S) (calls k : Nat) : Prop := ∃ E, E.length ≤ sm (wt kd w) (aft lv n k - (k + 1)) (k + 1) ∧ EC n kd lv dp w val e (fun c => RC 0 (nI k) (nI (aft lv n k)) (nI calls) c) E ∧ ER n kd lv w ids val (fun r => RR 1 (nI (ids k)) 0 0 r) E
theorem skip54 {RC : Nat → Int32 → Int32 → Int32 → o_S → Option o_S} {p st calls : Nat} {c : o_S} {L : Nat} (hc : W1 n kd lv dp w val c) (hst : st ≤ n) (hL : L ≤ 1301) : ∀ d k m, (∀ x, k ≤ x → x < k + d → L < lv x) → k + d ≤ st → f_X2_printBraces_L54 N RC (m + d) (nI p) (nI calls) (nI st) (nI L) (nI k) c = f_X2_printBraces_L54 N RC m (nI p) (nI calls) (nI st) (nI L) (nI (k + d)) c := by
  have hn := hc.1.2.2.1
  intro d
  induction d with
  | zero => intro k m _ _; rfl
  | succ d ih =>
    intro k m h1 h2
    have hl := (hc.1.2.2.2.2.1 k (by omega)).2.2.2.1
    have := h1 k (Nat.le_refl _) (by omega)
    rw [show m + (d + 1) = (m + d) + 1 by omega, f_X2_printBraces_L54, if_neg (fun q => absurd ((nI_leI (by omega) (by omega)).mp q) (by omega)), ct_lv hc.1 (by omega), bi_s, if_ni_eq (by omega) (by omega), if_neg (by omega), ni_p1, ih (k + 1) m (fun x x1 x2 => h1 x (by omega) (by omega)) (by omega), show k + 1 + d = k + (d + 1) by omega]
theorem items_L {RC RR : Nat → Int32 → Int32 → Int32 → o_S → Option o_S} {p calls : Nat} (hN : 20000 ≤ N) (hS : ST n kd lv dp w val) (hp : p < n) (hCI : ∀ k, p < k → k < aft lv n p → lv k = lv p + 1 → kd k = 1 ∧ CI N e n kd lv dp w ids val RC RR calls k) : ∀ D k m m', aft lv n p - k = D → p < k → k ≤ aft lv n p → (k = aft lv n p ∨ lv k = lv p + 1) → D < m → D < m' → ∃ E, E.length ≤ sm (wt kd w) (aft lv n p - k) k ∧ EC n kd lv dp w val e (fun c => f_X2_printBraces_L54 N RC m (nI p) (nI calls) (nI (aft lv n p)) (nI (lv p + 1)) (nI k) c) ((if k = p + 1 ∧ k < aft lv n p then [32] else []) ++ (E ++ [32, 125])) ∧ ER n kd lv w ids val (fun r => f_X7_putAll_L8 N RR m' (nI (ids p)) 1 (-1) (cur n lv ids p (aft lv n p) k) r) E := by
  have hW := hS.1.1
  have hn := hW.2.1
  obtain ⟨a1, a2, a3, a4⟩ := aft_spec (lv := lv) hp
  have hlp := hW.le p hp
  have hsv : sv n lv ids p (aft lv n p) = -1 := if_pos rfl
  intro D
  induction D using Nat.strongRecOn with
  | _ D ih =>
    intro k m m' hD h1 h2 h3 hm hm'
    obtain ⟨m, rfl⟩ : ∃ x, m = x + 1 := ⟨m - 1, by omega⟩
    obtain ⟨m', rfl⟩ : ∃ x, m' = x + 1 := ⟨m' - 1, by omega⟩
    by_cases hk : k = aft lv n p
    · refine ⟨[], Nat.zero_le _, ?_, er_cg er_nil (fun r _ => ?_)⟩
      · rw [if_neg (by omega), List.nil_append, List.nil_append]
        refine ec_cg (ec_p1 32 (ec_push 125)) (fun c _ => ?_)
        rw [f_X2_printBraces_L54, if_pos (nI_le (by omega) (by omega))]
        cases o_push c 8 32 with
        | none => rfl
        | some c1 => show (o_bv (o_push c1 8 125) fun s16 => some s16) = o_push c1 8 125; rw [bv_id]
      · rw [f_X7_putAll_L8]; unfold cur; rw [if_pos hk, hsv, if_pos rfl]
    · have hl : lv k = lv p + 1 := by omega
      have hks : k < aft lv n p := by omega
      obtain ⟨hk1, E1, e1, e2, e3⟩ := hCI k h1 hks hl
      obtain ⟨s1, s2, s3, s4⟩ := sib hp h1 hks hl
      have hkn : k < n := by omega
      have hak := (aft_spec (lv := lv) hkn)
      have n3 : aft lv n k = aft lv n p ∨ lv (aft lv n k) = lv p + 1 := by
        rcases Nat.eq_or_lt_of_le s2 with q | q
        · exact Or.inl q
        · exact Or.inr (s3 q)
      obtain ⟨E2, f1, f2, f3⟩ := ih (aft lv n p - aft lv n k) (by omega) (aft lv n k) (m - (aft lv n k - (k + 1))) m' rfl (by omega) s2 n3 (by omega) (by omega)
      rw [if_neg (show ¬ (aft lv n k = p + 1 ∧ aft lv n k < aft lv n p) by omega), List.nil_append] at f2
      have hsb := sbt_le (kd := kd) (w := w) (p := p) s2 s1
      have hsb2 : sbt n kd lv w k = 62 + sm (wt kd w) (aft lv n k - (k + 1)) (k + 1) := by
        unfold sbt
        rw [show aft lv n k - k = (aft lv n k - (k + 1)) + 1 by omega]
        show wt kd w k + _ = _
        unfold wt; rw [if_pos hk1]
      have f2' : EC n kd lv dp w val e (fun c => f_X2_printBraces_L54 N RC m (nI p) (nI calls) (nI (aft lv n p)) (nI (lv p + 1)) (nI (k + 1)) c) (E2 ++ [32, 125]) := ec_cg f2 (fun c hc => by
        have := skip54 (N := N) (RC := RC) (p := p) (st := aft lv n p) (calls := calls) (L := lv p + 1) hc (by omega) (by omega) (aft lv n k - (k + 1)) (k + 1) (m - (aft lv n k - (k + 1))) (fun x x1 x2 => by have := hak.2.2.1 x (by omega) (by omega); omega) (by omega)
        rw [show m - (aft lv n k - (k + 1)) + (aft lv n k - (k + 1)) = m by omega, show k + 1 + (aft lv n k - (k + 1)) = aft lv n k by omega] at this
        exact this)
      have b92 : EC n kd lv dp w val e (fun c => f_X2_printBraces_b92 N RC (f_X2_printBraces_L54 N RC m) (nI p) (nI calls) (nI (aft lv n p)) (nI (lv p + 1)) (nI k) c) (32 :: (E1 ++ (E2 ++ [32, 125]))) := by
        have g := ec_p1 32 (ec_cg (F := fun s23 => o_bi (f_X5_after N (nI k) s23) fun x27 s25 => o_bv (RC 0 (nI k) x27 (nI calls) s25) fun s28 => f_X2_printBraces_L54 N RC m (nI p) (nI calls) (nI (aft lv n p)) (nI (lv p + 1)) (nI k + 1) s28) (ec_seq e2 f2') (fun c hc => by
          show (o_bi (f_X5_after N (nI k) c) fun x27 s25 => o_bv (RC 0 (nI k) x27 (nI calls) s25) fun s28 => f_X2_printBraces_L54 N RC m (nI p) (nI calls) (nI (aft lv n p)) (nI (lv p + 1)) (nI k + 1) s28) = _
          rw [ct_after hc.1 (by omega) hkn, bi_s, ni_p1]))
        exact g
      have b62 : ER n kd lv w ids val (fun r => f_X7_putAll_b62 N RR (f_X7_putAll_L8 N RR m') (nI (ids p)) 1 (-1) (nI (ids k)) r) (E1 ++ E2) := by
        have g := er_seq e3 (er_cg (F := fun r => if nI (ids k) < 0 ∨ 1500 ≤ Int32.toNatClampNeg (nI (ids k)) then none else o_do (o_A r 4 (Int32.toNatClampNeg (nI (ids k)))) fun x13 => f_X7_putAll_L8 N RR m' (nI (ids p)) 1 (-1) x13 r) f3 (fun r hr => by
          obtain ⟨-, -, -, q4⟩ := cur_next hr.1 hp (Or.inl rfl) h1 hks hl
          show (if nI (ids k) < 0 ∨ 1500 ≤ Int32.toNatClampNeg (nI (ids k)) then none else o_do (o_A r 4 (Int32.toNatClampNeg (nI (ids k)))) fun x13 => f_X7_putAll_L8 N RR m' (nI (ids p)) 1 (-1) x13 r) = _
          rw [ld_ (hr.id hkn) (by decide), q4]))
        exact g
      have fst : ∀ r, WQ n kd lv w ids val r → o_A r 3 (ids p) = nI (ids (p + 1)) := by
        intro r hr
        have l1 : lv p < lv (p + 1) := a3 (p + 1) (by omega) (by omega)
        rw [hr.1.2.2.2.1 p hp, if_pos ⟨by omega, l1⟩]
      have hcur : cur n lv ids p (aft lv n p) k = nI (ids k) := if_neg hk
      have hcl : ∀ c, W1 n kd lv dp w val c → f_X2_printBraces_L54 N RC (m + 1) (nI p) (nI calls) (nI (aft lv n p)) (nI (lv p + 1)) (nI k) c = if k = p + 1 then f_X2_printBraces_b92 N RC (f_X2_printBraces_L54 N RC m) (nI p) (nI calls) (nI (aft lv n p)) (nI (lv p + 1)) (nI k) c else (o_bv (o_push c 8 (59 : Int32)) fun s30 => f_X2_printBraces_b92 N RC (f_X2_printBraces_L54 N RC m) (nI p) (nI calls) (nI (aft lv n p)) (nI (lv p + 1)) (nI k) s30) := by
        intro c hc
        have hlk := (hc.1.2.2.2.2.1 k hkn).2.2.2.1
        rw [f_X2_printBraces_L54, if_neg (fun q => absurd ((nI_leI (by omega) (by omega)).mp q) (by omega)), ct_lv hc.1 hkn, bi_s, if_ni_eq (by omega) (by omega), if_pos hl, ni_p1, if_ni_le (by omega) (by omega)]
        by_cases y : k = p + 1
        · rw [if_pos (by omega), if_pos y]
        · rw [if_neg (by omega), if_neg y]
      have hre : ∀ r, WQ n kd lv w ids val r → f_X7_putAll_L8 N RR (m' + 1) (nI (ids p)) 1 (-1) (cur n lv ids p (aft lv n p) k) r = if k = p + 1 then f_X7_putAll_b62 N RR (f_X7_putAll_L8 N RR m') (nI (ids p)) 1 (-1) (nI (ids k)) r else (o_bv (f_X7_put N (59 : Int32) r) fun s20 => f_X7_putAll_b35 N RR (f_X7_putAll_L8 N RR m') (nI (ids p)) 1 (-1) (nI (ids k)) s20) := by
        intro r hr
        rw [hcur, f_X7_putAll_L8, if_neg (nI_nm1 (by have := hr.id hkn; omega)), ld_ (hr.id hp) (by decide), fst r hr, if_neg (show ¬ (1 : Int32) = 0 by decide)]
        by_cases y : k = p + 1
        · rw [if_pos (by rw [y]), if_pos y]
          unfold f_X7_putAll_b35
          rw [ld_ (hr.id hp) (by decide), fst r hr, if_pos (by rw [y])]
        · rw [if_neg (fun q => y ((nI_id hr hkn (by omega)).mp q)), if_neg y]
      by_cases y : k = p + 1
      · refine ⟨E1 ++ E2, by rw [List.length_append]; omega, ?_, er_cg b62 (fun r hr => by rw [hre r hr, if_pos y])⟩
        rw [if_pos ⟨y, hks⟩, List.append_assoc]
        exact ec_cg b92 (fun c hc => by rw [hcl c hc, if_pos y])
      · refine ⟨59 :: 32 :: (E1 ++ E2), ?_, ?_, ?_⟩
        · show (E1 ++ E2).length + 1 + 1 ≤ _; rw [List.length_append]; omega
        · rw [if_neg (fun q => y q.1), List.nil_append]
          have : (59 :: 32 :: (E1 ++ E2)) ++ [32, 125] = (59 : Int32) :: (32 :: (E1 ++ (E2 ++ [32, 125]))) := by rw [List.cons_append, List.cons_append, List.append_assoc]
          rw [this]
          exact ec_cg (ec_p1 59 b92) (fun c hc => by rw [hcl c hc, if_neg y])
        · have b35 : ER n kd lv w ids val (fun r => f_X7_putAll_b35 N RR (f_X7_putAll_L8 N RR m') (nI (ids p)) 1 (-1) (nI (ids k)) r) (32 :: (E1 ++ E2)) := er_cg (er_p1 (N := N) 32 b62) (fun r hr => by
            unfold f_X7_putAll_b35
            rw [ld_ (hr.id hp) (by decide), fst r hr, if_neg (fun q => y ((nI_id hr hkn (by omega)).mp q)), ld_ (hr.id hkn) (by decide), hr.kk hkn, hk1, if_neg (by decide)])
          exact er_cg (er_p1 (N := N) 59 b35) (fun r hr => by rw [hre r hr, if_neg y])
theorem braces_ {RC RR RR2 : Nat → Int32 → Int32 → Int32 → o_S → Option o_S} {p calls : Nat} (hN : 20000 ≤ N) (hS : ST n kd lv dp w val) (hp : p < n) (hk0 : kd p = 0) (hRR : ∀ a b c s, RR 0 a b c s = f_X7_putAll N RR2 a b c s) (hCI : ∀ k, p < k → k < aft lv n p → lv k = lv p + 1 → kd k = 1 ∧ CI N e n kd lv dp w ids val RC RR2 calls k) : ∃ E, E.length ≤ 6 + sm (wt kd w) (aft lv n p - (p + 1)) (p + 1) ∧ EC n kd lv dp w val e (fun c => f_X2_printBraces N RC (nI p) (nI calls) c) E ∧ ER n kd lv w ids val (fun r => f_X7_putNode_b111 N RR (nI (ids p)) r) E := by
  have hW := hS.1.1
  have hn := hW.2.1
  obtain ⟨a1, a2, a3, a4⟩ := aft_spec (lv := lv) hp
  have hchild : p + 1 = aft lv n p ∨ lv (p + 1) = lv p + 1 := by
    rcases Nat.eq_or_lt_of_le (show p + 1 ≤ aft lv n p by omega) with q | q
    · exact Or.inl q
    · have := a3 (p + 1) (by omega) (by omega); have := (hW.2.2.2 p (by omega)).2; omega
  obtain ⟨E, e1, e2, e3⟩ := items_L (N := N) (RC := RC) (RR := RR2) hN hS hp hCI (aft lv n p - (p + 1)) (p + 1) N N rfl (by omega) (by omega) hchild (by omega) (by omega)
  have hfirst : ∀ r, WQ n kd lv w ids val r → o_A r 3 (ids p) = cur n lv ids p (aft lv n p) (p + 1) := by
    intro r hr
    rw [hr.1.2.2.2.1 p hp]; unfold cur sv
    by_cases q : p + 1 = aft lv n p
    · rw [if_pos q, if_pos rfl, if_neg (fun z => by have := a4 (by omega); rw [← q] at this; omega)]
    · rw [if_neg q]
      have := a3 (p + 1) (by omega) (by omega)
      rw [if_pos ⟨by omega, this⟩]
  have b155 : ER n kd lv w ids val (fun r => f_X7_putNode_b155 N RR (nI (ids p)) r) (E ++ [32, 125]) := by
    have g1 : ER n kd lv w ids val (fun r => RR 0 (nI (ids p)) 1 (-1) r) E := er_cg e3 (fun r hr => by
      rw [hRR]; unfold f_X7_putAll
      rw [ld_ (hr.id hp) (by decide), hfirst r hr])
    refine er_cg (er_seq g1 (er_p1 (N := N) 32 (er_put (N := N) 125))) (fun r hr => ?_)
    show f_X7_putNode_b155 N RR (nI (ids p)) r = _
    unfold f_X7_putNode_b155
    cases RR 0 (nI (ids p)) 1 (-1) r with
    | none => rfl
    | some r1 =>
      show (o_bv (f_X7_put N 32 r1) fun s27 => o_bv (f_X7_put N 125 s27) fun s29 => some s29) = o_bv (f_X7_put N 32 r1) fun s => f_X7_put N 125 s
      cases f_X7_put N 32 r1 with
      | none => rfl
      | some r2 => show (o_bv (f_X7_put N 125 r2) fun s29 => some s29) = f_X7_put N 125 r2; rw [bv_id]
  have cls : EC n kd lv dp w val e (fun c => f_X2_printBraces N RC (nI p) (nI calls) c) (58 :: 32 :: 123 :: ((if p + 1 = p + 1 ∧ p + 1 < aft lv n p then [32] else []) ++ (E ++ [32, 125]))) := by
    have g := ec_p1 58 (ec_p1 32 (ec_p1 123 (ec_cg (F := fun s5 => o_bi (f_X5_after N (nI p) s5) fun x9 s7 => o_bi (f_X5_get N (nI p) (1 : Int32) s7) fun x12 s10 => f_X2_printBraces_L54 N RC N (nI p) (nI calls) x9 (x12 + (1 : Int32)) (nI p + (1 : Int32)) s10) e2 (fun c hc => by
      show (o_bi (f_X5_after N (nI p) c) fun x9 s7 => o_bi (f_X5_get N (nI p) (1 : Int32) s7) fun x12 s10 => f_X2_printBraces_L54 N RC N (nI p) (nI calls) x9 (x12 + (1 : Int32)) (nI p + (1 : Int32)) s10) = _
      rw [ct_after hc.1 (by omega) hp, bi_s, ct_lv hc.1 hp, bi_s, ni_p1, ni_p1]))))
    exact g
  have hk4 := hS.2.2.2 p hp
  by_cases q : p + 1 = aft lv n p
  · refine ⟨58 :: 32 :: 123 :: (E ++ [32, 125]), ?_, ?_, ?_⟩
    · show (E ++ [32, 125]).length + 1 + 1 + 1 ≤ _; rw [List.length_append]; show E.length + 2 + 1 + 1 + 1 ≤ _; omega
    · rw [if_neg (by omega), List.nil_append] at cls; exact cls
    · have g := er_p1 (N := N) 58 (er_p1 (N := N) 32 (er_p1 (N := N) 123 (er_cg (F := fun s20 => if nI (ids p) < 0 ∨ 1500 ≤ Int32.toNatClampNeg (nI (ids p)) then none else o_do (o_A s20 3 (Int32.toNatClampNeg (nI (ids p)))) fun x23 => if x23 = (-1 : Int32) then (f_X7_putNode_b155 N RR (nI (ids p)) s20) else (o_bv (f_X7_put N (32 : Int32) s20) fun s31 => f_X7_putNode_b155 N RR (nI (ids p)) s31)) b155 (fun r hr => by
        show (if nI (ids p) < 0 ∨ 1500 ≤ Int32.toNatClampNeg (nI (ids p)) then none else o_do (o_A r 3 (Int32.toNatClampNeg (nI (ids p)))) fun x23 => if x23 = (-1 : Int32) then (f_X7_putNode_b155 N RR (nI (ids p)) r) else (o_bv (f_X7_put N (32 : Int32) r) fun s31 => f_X7_putNode_b155 N RR (nI (ids p)) s31)) = _
        rw [ld_ (hr.id hp) (by decide), hfirst r hr]; unfold cur sv; rw [if_pos q, if_pos rfl, if_pos rfl]))))
      refine er_cg g (fun r hr => ?_)
      show f_X7_putNode_b111 N RR (nI (ids p)) r = _
      unfold f_X7_putNode_b111
      rw [ld_ (hr.id hp) (by decide), hr.kk hp, hk0, if_pos (show nI 0 = (0 : Int32) from rfl)]
  · refine ⟨58 :: 32 :: 123 :: 32 :: (E ++ [32, 125]), ?_, ?_, ?_⟩
    · show (E ++ [32, 125]).length + 1 + 1 + 1 + 1 ≤ _; rw [List.length_append]; show E.length + 2 + 1 + 1 + 1 + 1 ≤ _; omega
    · rw [if_pos ⟨rfl, by omega⟩] at cls; exact cls
    · have g := er_p1 (N := N) 58 (er_p1 (N := N) 32 (er_p1 (N := N) 123 (er_cg (F := fun s20 => if nI (ids p) < 0 ∨ 1500 ≤ Int32.toNatClampNeg (nI (ids p)) then none else o_do (o_A s20 3 (Int32.toNatClampNeg (nI (ids p)))) fun x23 => if x23 = (-1 : Int32) then (f_X7_putNode_b155 N RR (nI (ids p)) s20) else (o_bv (f_X7_put N (32 : Int32) s20) fun s31 => f_X7_putNode_b155 N RR (nI (ids p)) s31)) (er_p1 (N := N) 32 b155) (fun r hr => by
        show (if nI (ids p) < 0 ∨ 1500 ≤ Int32.toNatClampNeg (nI (ids p)) then none else o_do (o_A r 3 (Int32.toNatClampNeg (nI (ids p)))) fun x23 => if x23 = (-1 : Int32) then (f_X7_putNode_b155 N RR (nI (ids p)) r) else (o_bv (f_X7_put N (32 : Int32) r) fun s31 => f_X7_putNode_b155 N RR (nI (ids p)) s31)) = _
        rw [ld_ (hr.id hp) (by decide), hfirst r hr]; unfold cur; rw [if_neg q, if_neg (nI_nm1 (by have := hr.id (show p + 1 < n by omega); omega))]))))
      refine er_cg g (fun r hr => ?_)
      show f_X7_putNode_b111 N RR (nI (ids p)) r = _
      unfold f_X7_putNode_b111
      rw [ld_ (hr.id hp) (by decide), hr.kk hp, hk0, if_pos (show nI 0 = (0 : Int32) from rfl)]
/-- every part -/
theorem pk_all (hN : 20000 ≤ N) (hS : ST n kd lv dp w val) : ∀ D i, n - i = D → 0 < i → i < n → kd i ≠ 1 → ∀ calls d d', calls ≤ acn (q_bg kd true) lv i → 3 * (32 - acn (q_bg kd true) lv i) + 1 ≤ d → 4 * (32 - acn (q_bg kd true) lv i) + 1 ≤ d' → CH N e n kd lv dp w ids val (f_gP N (d + 1)) (f_gA N (d' + 1)) calls i := by
  have hT := hS.1
  have hW := hT.1
  have hn := hW.2.1
  intro D
  induction D using Nat.strongRecOn with
  | _ D ih =>
    intro i hD hi0 hi hk1 calls d d' hcalls hd hd'
    have hk4 := hS.2.2.2 i hi
    obtain ⟨a1, a2, a3, a4⟩ := aft_spec (lv := lv) hi
    have hsb : sbt n kd lv w i = wt kd w i + sm (wt kd w) (aft lv n i - (i + 1)) (i + 1) := by
      unfold sbt; rw [show aft lv n i - i = (aft lv n i - (i + 1)) + 1 by omega]; rfl
    have hcls : ∀ c, W1 n kd lv dp w val c → f_gP N (d + 1) 1 (nI i) (nI calls) 0 c = f_X2_printPart N (f_gP N d) (nI i) (nI calls) c := fun c _ => rfl
    have hget : ∀ c, W1 n kd lv dp w val c → f_X5_get N (nI i) (0 : Int32) c = some (nI (kd i), c) := fun c hc => by
      rw [show (0 : Int32) = nI 0 from rfl, ct_get hc.1 hi 0 (by decide), (hc.1.2.2.2.2.1 i hi).1]
    have hpar : ∀ k, i < k → k < aft lv n i → lv k = lv i + 1 → p_par lv (lv k) k = i := fun k k1 k2 k3 => (par_iff hW (by omega) (by omega) hi).mpr ⟨by omega, by omega, k3⟩
    rcases (show kd i = 2 ∨ kd i = 3 ∨ kd i = 4 ∨ kd i = 0 by omega) with hk | hk | hk | hk
    · -- a word
      refine ⟨w i, ?_, ec_cg (ec_word hN hS hi hk) (fun c hc => ?_), er_word (rec := f_gA N d') hN hS hi hk⟩
      · rw [if_neg (by omega), hsb]; unfold wt; rw [if_neg (by omega), if_pos hk]; omega
      · rw [hcls c hc]; unfold f_X2_printPart
        rw [hget c hc, bi_s, hk, if_pos (show nI 2 = (2 : Int32) from rfl), bv_id]
    · -- a number
      obtain ⟨v, v1, v2⟩ := hS.2.2.1 i hi hk
      refine ⟨dg 9 v, ?_, ec_cg (ec_num (N := N) (by omega) v1) (fun c hc => ?_), ?_⟩
      · have := dg_len 9 v
        rw [if_neg (by omega), hsb]; unfold wt; rw [if_neg (by omega), if_neg (by omega)]; omega
      · rw [hcls c hc]; unfold f_X2_printPart
        rw [hget c hc, bi_s, hk, if_neg (by decide), if_pos (show nI 3 = (3 : Int32) from rfl), show (5 : Int32) = nI 5 from rfl, ct_get hc.1 hi 5 (by decide), bi_s, hc.2 i hi, v2, bv_id]
      · have h200 : v < 10 ^ 200 := Nat.lt_of_lt_of_le (show v < 10 ^ 9 by omega) (Nat.pow_le_pow_right (by decide) (by decide))
        have g := er_num (n := n) (kd := kd) (lv := lv) (w := w) (ids := ids) (val := val) (N := N) 200 v h200 (by decide) (by omega)
        rw [dg_fuel 200 9 v h200 (by omega) (by decide) (by decide)] at g
        have g2 := er_seq g (er_cg (F := fun r => f_X7_putNode_b65 N (f_gA N d') (nI (ids i)) r) er_nil (fun r hr => by
          rw [t_65 hS hr hi (by omega), t_82 hS hr hi (by omega), t_111 hS hr hi (by omega)]))
        rw [List.append_nil] at g2
        refine er_cg g2 (fun r hr => ?_)
        show f_X7_putNode N (f_gA N d') (nI (ids i)) r = _
        rw [t_pn hS hr hi (by omega)]
        unfold f_X7_putNode_b45
        rw [ld_ (hr.id hi) (by decide), hr.kk hi, hk, if_pos (show nI 3 = (3 : Int32) from rfl), ld_ (hr.id hi) (by decide), (hr.2.1 i hi).2, v2]
    · -- a group
      have hq := (ti_bg hT i hi).2.2 (by omega)
      have hq30 := hT.2.2.2.2.2 i hi (Or.inr hk)
      obtain ⟨d2, rfl⟩ : ∃ x, d = x + 2 := ⟨d - 2, by omega⟩
      obtain ⟨d2', rfl⟩ : ∃ x, d' = x + 2 := ⟨d' - 2, by omega⟩
      obtain ⟨E, e1, e2, e3⟩ := parts_ (N := N) (e := e) (ids := ids) (RC := f_gP N (d2 + 1)) (RR := f_gA N (d2' + 1)) (p := i) (st := aft lv n i) (calls := calls + 1) hN hS hi a1 (Or.inl rfl) (by omega) (fun k k1 k2 k3 => by
        have hp := hpar k k1 k2 k3
        have hok := (hT.2.2.2.1 k (by omega) (by omega)).1
        have hacn := acn_s hW (q_bg kd true) (show 0 < k by omega) (show k < n by omega)
        rw [hp] at hok hacn
        have hb : q_bg kd true i = 1 := by unfold q_bg; rw [if_neg (by omega), if_pos rfl, if_pos hk]
        rw [hb] at hacn
        rw [hk] at hok; unfold kOK at hok
        exact ih (n - k) (by omega) k rfl (by omega) (by omega) (by omega) (calls + 1) d2 d2' (by omega) (by omega) (by omega))
      have hsv : sv n lv ids i (aft lv n i) = -1 := if_pos rfl
      rw [hsv] at e3
      refine ⟨40 :: (E ++ [41]), ?_, ?_, ?_⟩
      · show (E ++ [41]).length + 1 + _ ≤ _
        rw [List.length_append, if_neg (by omega), hsb]
        show E.length + 1 + 1 + 1 ≤ _
        unfold wt at *; rw [if_neg (by omega), if_neg (by omega)]; omega
      · refine ec_cg (ec_p1 40 (ec_seq e2 (ec_push 41))) (fun c hc => ?_)
        rw [hcls c hc]; unfold f_X2_printPart
        rw [hget c hc, bi_s, hk, if_neg (by decide), if_neg (by decide), if_pos (show nI 4 = (4 : Int32) from rfl)]
        cases hcp : o_push c 8 40 with
        | none => rfl
        | some c1 =>
          show (o_bi (f_X5_after N (nI i) c1) fun x18 s16 => o_bv (f_gP N (d2 + 2) 0 (nI i) x18 (nI calls + 1) s16) fun s19 => o_bv (o_push s19 8 41) fun s21 => some s21) = o_bv (f_X2_printParts N (f_gP N (d2 + 1)) (nI i) (nI (aft lv n i)) (nI (calls + 1)) c1) fun c => o_push c 8 41
          have h3 : o_R c1 3 = o_R c 3 ∧ o_F c1 = o_F c := by
            unfold o_push at hcp
            split at hcp
            · cases hcp
            · injection hcp with hcp
              rw [← hcp]; unfold o_app o_grow
              split
              · exact ⟨by rw [sR_R, if_neg (by decide)], rfl⟩
              · exact ⟨by rw [sR_R, if_neg (by decide), sK_R, sR_R, if_neg (by decide)], rfl⟩
          have haf : f_X5_after N (nI i) c1 = some (nI (aft lv n i), c1) := by
            have h4 : o_R c1 4 = o_R c 4 := by
              unfold o_push at hcp
              split at hcp
              · cases hcp
              · injection hcp with hcp
                rw [← hcp]; unfold o_app o_grow
                split
                · rw [sR_R, if_neg (by decide)]
                · rw [sR_R, if_neg (by decide), sK_R, sR_R, if_neg (by decide)]
            have ht : ∀ i f, tg c1 i f = tg c i f := fun i f => by unfold tg; rw [h3.1]
            obtain ⟨c1', c2, c3, c4, c5, c6⟩ := hc.1
            have hct : CT c1 n kd lv dp w := ⟨by rw [h3.1]; exact c1', by rw [h3.2]; exact c2, c3, by rw [h4]; exact c4, fun i hi => by rw [ht, ht, ht]; exact c5 i hi, fun i hi hk => by rw [ht, ht, h4]; exact c6 i hi hk⟩
            exact ct_after hct (by omega) hi
          rw [haf, bi_s, ni_p1]
          show (o_bv (f_X2_printParts N (f_gP N (d2 + 1)) (nI i) (nI (aft lv n i)) (nI (calls + 1)) c1) fun s19 => o_bv (o_push s19 8 41) fun s21 => some s21) = _
          cases f_X2_printParts N (f_gP N (d2 + 1)) (nI i) (nI (aft lv n i)) (nI (calls + 1)) c1 with
          | none => rfl
          | some c2 => show (o_bv (o_push c2 8 41) fun s21 => some s21) = o_push c2 8 41; rw [bv_id]
      · have g := er_p1 (N := N) 40 (er_seq e3 (er_seq (er_put (N := N) 41) (er_cg (F := fun r => f_X7_putNode_b111 N (f_gA N (d2' + 2)) (nI (ids i)) r) er_nil (fun r hr => t_111 hS hr hi (by omega)))))
        rw [List.append_nil] at g
        refine er_cg g (fun r hr => ?_)
        show f_X7_putNode N (f_gA N (d2' + 2)) (nI (ids i)) r = _
        rw [t_pn hS hr hi (by omega), t_45 hS hr hi (by omega), t_65 hS hr hi (by omega)]
        unfold f_X7_putNode_b82
        rw [ld_ (hr.id hi) (by decide), hr.kk hi, hk, if_pos (show nI 4 = (4 : Int32) from rfl)]
        rfl
    · -- a block
      have hq := (ti_bg hT i hi).2.1 hk
      have hq30 := hT.2.2.2.2.2 i hi (Or.inl hk)
      obtain ⟨d2, rfl⟩ : ∃ x, d = x + 3 := ⟨d - 3, by omega⟩
      obtain ⟨d2', rfl⟩ : ∃ x, d' = x + 4 := ⟨d' - 4, by omega⟩
      have hCI : ∀ k, i < k → k < aft lv n i → lv k = lv i + 1 → kd k = 1 ∧ CI N e n kd lv dp w ids val (f_gP N (d2 + 2)) (f_gA N (d2' + 3)) (calls + 1) k := by
        intro k k1 k2 k3
        have hp := hpar k k1 k2 k3
        have hok := (hT.2.2.2.1 k (by omega) (by omega)).1
        have hacn := acn_s hW (q_bg kd true) (show 0 < k by omega) (show k < n by omega)
        rw [hp] at hok hacn
        have hb : q_bg kd true i = 1 := by unfold q_bg; rw [if_pos hk]
        rw [hb] at hacn
        rw [hk] at hok; unfold kOK at hok
        have hkk : kd k = 1 := by omega
        have hkn : k < n := by omega
        obtain ⟨b1, b2, b3, b4⟩ := aft_spec (lv := lv) hkn
        refine ⟨hkk, ?_⟩
        obtain ⟨E, e1, e2, e3⟩ := parts_ (N := N) (e := e) (ids := ids) (RC := f_gP N (d2 + 1)) (RR := f_gA N (d2' + 1)) (p := k) (st := aft lv n k) (calls := calls + 1) hN hS hkn b1 (Or.inl rfl) (by omega) (fun j j1 j2 j3 => by
          have hpj : p_par lv (lv j) j = k := (par_iff hW (by omega) (by omega) hkn).mpr ⟨by omega, by omega, j3⟩
          have hokj := (hT.2.2.2.1 j (by omega) (by omega)).1
          have hacj := acn_s hW (q_bg kd true) (show 0 < j by omega) (show j < n by omega)
          rw [hpj] at hokj hacj
          have hbj : q_bg kd true k = 0 := by unfold q_bg; rw [if_neg (by omega), if_pos rfl, if_neg (by omega)]
          rw [hbj] at hacj
          rw [hkk] at hokj; unfold kOK at hokj
          exact ih (n - j) (by omega) j rfl (by omega) (by omega) (by omega) (calls + 1) d2 d2' (by omega) (by omega) (by omega))
        have hsv : sv n lv ids k (aft lv n k) = -1 := if_pos rfl
        rw [hsv] at e3
        refine ⟨E, e1, ec_cg e2 (fun c _ => rfl), ?_⟩
        have g := er_seq e3 (er_cg (F := fun r => f_X7_putNode_b82 N (f_gA N (d2' + 2)) (nI (ids k)) r) er_nil (fun r hr => by rw [t_82 hS hr hkn (by omega), t_111 hS hr hkn (by omega)]))
        rw [List.append_nil] at g
        refine er_cg g (fun r hr => ?_)
        show f_X7_putNode N (f_gA N (d2' + 2)) (nI (ids k)) r = _
        rw [t_pn hS hr hkn (by omega), t_45 hS hr hkn (by omega)]
        unfold f_X7_putNode_b65
        rw [ld_ (hr.id hkn) (by decide), hr.kk hkn, hkk, if_pos (show nI 1 = (1 : Int32) from rfl)]
        rfl
      obtain ⟨E, e1, e2, e3⟩ := braces_ (N := N) (e := e) (ids := ids) (RC := f_gP N (d2 + 2)) (RR := f_gA N (d2' + 4)) (RR2 := f_gA N (d2' + 3)) (p := i) (calls := calls + 1) hN hS hi hk (fun _ _ _ _ => rfl) hCI
      refine ⟨E, ?_, ec_cg e2 (fun c hc => ?_), er_cg e3 (fun r hr => ?_)⟩
      · rw [if_pos hk, hsb]; unfold wt at *; rw [if_neg (by omega), if_neg (by omega)]; omega
      · rw [hcls c hc]; unfold f_X2_printPart
        rw [hget c hc, bi_s, hk, if_neg (by decide), if_neg (by decide), if_neg (by decide), bv_id, ni_p1]
        rfl
      · show f_X7_putNode N (f_gA N (d2' + 4)) (nI (ids i)) r = _
        rw [t_pn hS hr hi (by omega), t_45 hS hr hi (by omega), t_65 hS hr hi (by omega), t_82 hS hr hi (by omega)]
end
