/-! WRITE: lines -/
theorem t_last_at (lv : Nat → Nat) (L : Nat) : ∀ d x q, q ≤ x → x < q + d → lv q = L → (∀ k, q < k → k ≤ x → lv k ≠ L) → t_last lv L d x = nI q := by
  intro d
  induction d with
  | zero => intro x q h1 h2; omega
  | succ d ih =>
    intro x q h1 h2 h3 h4
    rw [t_last]
    rcases Nat.eq_or_lt_of_le h1 with z | z
    · rw [← z, if_pos h3]
    · rw [if_neg (h4 x z (Nat.le_refl _))]
      exact ih (x - 1) q (by omega) (by omega) h3 (fun k k1 k2 => h4 k k1 (by omega))
section
variable {n : Nat} {kd lv dp : Nat → Nat} {w : Nat → List Int32} {ids : Nat → Nat} {val : Nat → Int32} {N e : Nat}
/-- an item's last child, on both sides -/
theorem last_ {k : Nat} (hN : 20000 ≤ N) (hS : ST n kd lv dp w val) (hk : k < n) (hk1 : kd k = 1) : ∃ q, k < q ∧ q < aft lv n k ∧ lv q = lv k + 1 ∧ aft lv n q = aft lv n k ∧ (∀ c, W1 n kd lv dp w val c → f_X5_lastChild N (nI k) c = some (nI q, c)) ∧ ∀ r, WQ n kd lv w ids val r → f_X7_lastOf N (nI (ids k)) r = some (nI (ids q), r) := by
  have hW := hS.1.1
  have hn := hW.2.1
  obtain ⟨a1, a2, a3, a4⟩ := aft_spec (lv := lv) hk
  obtain ⟨i1, i2⟩ := hS.1.2.2.2.2.1 k hk hk1
  have hlt : k + 1 < aft lv n k := by
    rcases Nat.lt_or_ge (k + 1) (aft lv n k) with q | q
    · exact q
    · have e : aft lv n k = k + 1 := by omega
      have := a4 (by omega); rw [e] at this; omega
  obtain ⟨q, q1, q2, q3, q4, q5⟩ := ch_bef hW hk hlt (Nat.le_refl _) (fun z => absurd z (Nat.lt_irrefl _))
  obtain ⟨b1, b2, b3, b4⟩ := aft_spec (lv := lv) (n := n) (i := q) (by omega)
  refine ⟨q, q1, q2, q3, q4, fun c hc => ?_, fun r hr => ?_⟩
  · rw [ct_last hc.1 (by omega) hk, t_last_at lv (lv k + 1) _ _ q (by omega) (by omega) q3 (fun x x1 x2 => by have := b3 x x1 (by omega); omega)]
  · unfold f_X7_lastOf
    rw [lk_count hr.1 hW (by omega) hk, bi_s, q5, ni_s1 (by omega), Nat.add_sub_cancel]
    have hcl := t_cnt_le lv (lv k + 1) (q - (k + 1)) (k + 1)
    obtain ⟨y, y1, y2⟩ := lk_child (N := N) (x := t_cnt lv (lv k + 1) (q - (k + 1)) (k + 1)) hr.1 hW (by omega) hk (by omega)
    have e1 := t_nth_at lv (lv k + 1) (aft lv n k - (k + 1)) 0 (k + 1) q (by omega) (by omega) q3 (by omega)
    rw [Nat.zero_add] at e1
    rw [e1] at y2
    rw [y1, bi_s]
    rcases y2 with ⟨z, -⟩ | ⟨j, j1, j2, j3⟩
    · exact absurd z (nI_nm1 (by omega))
    · rw [j3, (nI_eq (by omega) (by omega)).mp j2]
/-- a loop over a block's children -/
theorem ch_loop {b : Nat} (hS : ST n kd lv dp w val) (hb : b < n) (FC FR : Nat → o_S → Option o_S) (LF LR : Nat → Int32 → o_S → Option o_S)
    (c1 : ∀ m c, W1 n kd lv dp w val c → LF (m + 1) (nI (aft lv n b)) c = some c) (c2 : ∀ m k c, W1 n kd lv dp w val c → b < k → k < aft lv n b → lv k ≠ lv b + 1 → LF (m + 1) (nI k) c = LF m (nI (k + 1)) c) (c3 : ∀ m k c, W1 n kd lv dp w val c → b < k → k < aft lv n b → lv k = lv b + 1 → LF (m + 1) (nI k) c = o_bv (FC k c) (fun c => LF m (nI (k + 1)) c))
    (r1 : ∀ m r, LR (m + 1) (-1) r = some r) (r2 : ∀ m k r, WQ n kd lv w ids val r → b < k → k < aft lv n b → lv k = lv b + 1 → LR (m + 1) (nI (ids k)) r = o_bv (FR k r) (fun r => if nI (ids k) < 0 ∨ 1500 ≤ Int32.toNatClampNeg (nI (ids k)) then none else o_do (o_A r 4 (Int32.toNatClampNeg (nI (ids k)))) fun x => LR m x r))
    (hE : ∀ k, b < k → k < aft lv n b → lv k = lv b + 1 → ∃ E, E.length ≤ sbt n kd lv w k ∧ EC n kd lv dp w val e (FC k) E ∧ ER n kd lv w ids val (FR k) E) : ∀ D k m m', aft lv n b - k = D → b < k → k ≤ aft lv n b → (k = aft lv n b ∨ lv k = lv b + 1) → D < m → D < m' → ∃ E, E.length ≤ sm (wt kd w) (aft lv n b - k) k ∧ EC n kd lv dp w val e (fun c => LF m (nI k) c) E ∧ ER n kd lv w ids val (fun r => LR m' (cur n lv ids b (aft lv n b) k) r) E := by
  have hW := hS.1.1
  have hn := hW.2.1
  obtain ⟨a1, a2, a3, a4⟩ := aft_spec (lv := lv) hb
  have hsv : sv n lv ids b (aft lv n b) = -1 := if_pos rfl
  intro D
  induction D using Nat.strongRecOn with
  | _ D ih =>
    intro k m m' hD h1 h2 h3 hm hm'
    obtain ⟨m, rfl⟩ : ∃ x, m = x + 1 := ⟨m - 1, by omega⟩
    obtain ⟨m', rfl⟩ : ∃ x, m' = x + 1 := ⟨m' - 1, by omega⟩
    by_cases hk : k = aft lv n b
    · refine ⟨[], Nat.zero_le _, ec_cg ec_nil (fun c hc => ?_), er_cg er_nil (fun r _ => ?_)⟩
      · rw [hk]; exact c1 m c hc
      · unfold cur; rw [if_pos hk, hsv]; exact r1 m' r
    · have hl : lv k = lv b + 1 := by omega
      have hks : k < aft lv n b := by omega
      obtain ⟨E1, e1, e2, e3⟩ := hE k h1 hks hl
      obtain ⟨s1, s2, s3, s4⟩ := sib hb h1 hks hl
      have hkn : k < n := by omega
      have hak := (aft_spec (lv := lv) hkn)
      have n3 : aft lv n k = aft lv n b ∨ lv (aft lv n k) = lv b + 1 := by
        rcases Nat.eq_or_lt_of_le s2 with q | q
        · exact Or.inl q
        · exact Or.inr (s3 q)
      obtain ⟨E2, f1, f2, f3⟩ := ih (aft lv n b - aft lv n k) (by omega) (aft lv n k) (m - (aft lv n k - (k + 1))) m' rfl (by omega) s2 n3 (by omega) (by omega)
      have hsb := sbt_le (kd := kd) (w := w) (p := b) s2 s1
      have skip : ∀ c, W1 n kd lv dp w val c → ∀ d x M, (∀ y, x ≤ y → y < x + d → lv b + 1 < lv y) → b < x → x + d ≤ aft lv n b → LF (M + d) (nI x) c = LF M (nI (x + d)) c := by
        intro c hc d
        induction d with
        | zero => intro x M _ _ _; rfl
        | succ d ihd =>
          intro x M q1 q2 q3
          rw [show M + (d + 1) = (M + d) + 1 by omega, c2 (M + d) x c hc q2 (by omega) (by have := q1 x (Nat.le_refl _) (by omega); omega), ihd (x + 1) M (fun y y1 y2 => q1 y (by omega) (by omega)) (by omega) (by omega), show x + 1 + d = x + (d + 1) by omega]
      have f2' : EC n kd lv dp w val e (fun c => LF m (nI (k + 1)) c) E2 := ec_cg f2 (fun c hc => by
        have := skip c hc (aft lv n k - (k + 1)) (k + 1) (m - (aft lv n k - (k + 1))) (fun x x1 x2 => by have := hak.2.2.1 x (by omega) (by omega); omega) (by omega) (by omega)
        rw [show m - (aft lv n k - (k + 1)) + (aft lv n k - (k + 1)) = m by omega, show k + 1 + (aft lv n k - (k + 1)) = aft lv n k by omega] at this
        exact this)
      refine ⟨E1 ++ E2, by rw [List.length_append]; omega, ec_cg (ec_seq e2 f2') (fun c hc => c3 m k c hc h1 hks hl), ?_⟩
      have g := er_seq e3 (er_cg (F := fun r => if nI (ids k) < 0 ∨ 1500 ≤ Int32.toNatClampNeg (nI (ids k)) then none else o_do (o_A r 4 (Int32.toNatClampNeg (nI (ids k)))) fun x => LR m' x r) f3 (fun r hr => by
        obtain ⟨-, -, -, q4⟩ := cur_next hr.1 hb (Or.inl rfl) h1 hks hl
        show (if nI (ids k) < 0 ∨ 1500 ≤ Int32.toNatClampNeg (nI (ids k)) then none else o_do (o_A r 4 (Int32.toNatClampNeg (nI (ids k)))) fun x => LR m' x r) = _
        rw [ld_ (hr.id hkn) (by decide), q4]))
      refine er_cg g (fun r hr => ?_)
      have : cur n lv ids b (aft lv n b) k = nI (ids k) := if_neg hk
      rw [this]; exact r2 m' k r hr h1 hks hl
/-- spaces before a line -/
theorem ec_ind {RC : Nat → Int32 → Int32 → Int32 → o_S → Option o_S} {k calls : Nat} {R : List Int32} (hc30 : calls ≤ 40) (h : ∀ m, EC n kd lv dp w val e (fun c => f_X2_printLinesOfItem_L2 N RC (m + 1) (nI k) (nI calls) (nI calls) c) R) : ∀ d j m, j + d = calls → EC n kd lv dp w val e (fun c => f_X2_printLinesOfItem_L2 N RC (m + d + 1) (nI k) (nI calls) (nI j) c) (List.replicate (2 * d) 32 ++ R) := by
  intro d
  induction d with
  | zero =>
    intro j m hj
    have : j = calls := by omega
    subst this
    exact h m
  | succ d ih =>
    intro j m hj
    rw [show 2 * (d + 1) = 2 * d + 1 + 1 by omega, List.replicate_succ, List.replicate_succ, List.cons_append, List.cons_append]
    refine ec_cg (ec_p1 32 (ec_p1 32 (ih (j + 1) m (by omega)))) (fun c _ => ?_)
    rw [show m + (d + 1) + 1 = (m + d + 1) + 1 by omega, f_X2_printLinesOfItem_L2, if_neg (fun q => absurd ((nI_leI (by omega) (by omega)).mp q) (by omega)), ni_p1]
theorem er_ind {RR : Nat → Int32 → Int32 → Int32 → o_S → Option o_S} {k ind : Nat} {wc : Int32} {R : List Int32} (hc30 : ind ≤ 80) (h : ∀ m, ER n kd lv w ids val (fun r => f_X7_putLine_L3 N RR (m + 1) (nI (ids k)) (nI ind) wc (nI ind) r) R) : ∀ d j m, j + d = ind → ER n kd lv w ids val (fun r => f_X7_putLine_L3 N RR (m + d + 1) (nI (ids k)) (nI ind) wc (nI j) r) (List.replicate d 32 ++ R) := by
  intro d
  induction d with
  | zero =>
    intro j m hj
    have : j = ind := by omega
    subst this
    exact h m
  | succ d ih =>
    intro j m hj
    rw [List.replicate_succ, List.cons_append]
    refine er_cg (er_p1 (N := N) 32 (ih (j + 1) m (by omega))) (fun r _ => ?_)
    rw [show m + (d + 1) + 1 = (m + d + 1) + 1 by omega, f_X7_putLine_L3, if_neg (fun q => absurd ((nI_leI (by omega) (by omega)).mp q) (by omega)), ni_p1]
/-- an item's own parts, up to its end or its last block -/
theorem own_ {k st calls : Nat} (hN : 20000 ≤ N) (hS : ST n kd lv dp w val) (hk : k < n) (hk1 : kd k = 1) (hks : k < st) (hst : st = aft lv n k ∨ (st < aft lv n k ∧ lv st = lv k + 1)) (hcalls : calls + 1 = dp k) : ∃ E, E.length ≤ sm (wt kd w) (st - (k + 1)) (k + 1) ∧ EC n kd lv dp w val e (fun c => f_gP N 200 0 (nI k) (nI st) (nI calls) c) E ∧ ER n kd lv w ids val (fun r => f_gA N 200 0 (nI (ids k)) 0 (sv n lv ids k st) r) E := by
  have hT := hS.1
  have hW := hT.1
  have hn := hW.2.1
  obtain ⟨a1, a2, a3, a4⟩ := aft_spec (lv := lv) hk
  have hq := (ti_bg hT k hk).1 hk1
  have hk0 : 0 < k := by
    rcases Nat.eq_zero_or_pos k with z | z
    · rw [z, hT.2.1] at hk1; exact absurd hk1 (by decide)
    · exact z
  have h31 : dp k ≤ 31 := by
    obtain ⟨p1, p2, -⟩ := hW.par hk0 hk
    obtain ⟨ok, od⟩ := hT.2.2.2.1 k hk0 hk
    have hkp : kd (p_par lv (lv k) k) = 0 := by rw [hk1] at ok; unfold kOK at ok; omega
    have := hT.2.2.2.2.2 _ (show p_par lv (lv k) k < n by omega) (Or.inl hkp)
    have := (ti_bg hT _ (show p_par lv (lv k) k < n by omega)).2.1 hkp
    rw [if_pos hkp] at od; omega
  exact parts_ (N := N) (e := e) (ids := ids) (RC := f_gP N 199) (RR := f_gA N 199) (p := k) (st := st) (calls := calls) hN hS hk hks hst (by omega) (fun j j1 j2 j3 => by
    have hjn : j < n := by omega
    have hpj : p_par lv (lv j) j = k := (par_iff hW (by omega) hjn hk).mpr ⟨by omega, by omega, j3⟩
    have hokj := (hT.2.2.2.1 j (by omega) hjn).1
    have hacj := acn_s hW (q_bg kd true) (show 0 < j by omega) hjn
    rw [hpj] at hokj hacj
    have hbj : q_bg kd true k = 0 := by unfold q_bg; rw [if_neg (by omega), if_pos rfl, if_neg (by omega)]
    rw [hbj] at hacj
    rw [hk1] at hokj; unfold kOK at hokj
    exact pk_all (N := N) hN hS (n - j) j rfl (by omega) hjn (by omega) calls 198 198 (by omega) (by omega) (by omega))
/-- an item's lines, with columns -/
theorem line_ (hN : 20000 ≤ N) (hS : ST n kd lv dp w val) : ∀ M k, n - k = M → k < n → kd k = 1 → ∀ calls D D', calls + 1 = dp k → 2 * (32 - dp k) ≤ D → 32 - dp k ≤ D' → ∃ E, E.length ≤ sbt n kd lv w k ∧ EC n kd lv dp w val e (fun c => f_gQ N (D + 1) 1 (nI k) (nI calls) 0 c) E ∧ ER n kd lv w ids val (fun r => f_gL N (D' + 1) 0 (nI (ids k)) (nI (2 * calls)) 1 r) E := by
  have hT := hS.1
  have hW := hT.1
  have hn := hW.2.1
  intro M
  induction M using Nat.strongRecOn with
  | _ M ih =>
    intro k hM hk hk1 calls D D' hcalls hD hD'
    obtain ⟨a1, a2, a3, a4⟩ := aft_spec (lv := lv) hk
    have hk0 : 0 < k := by
      rcases Nat.eq_zero_or_pos k with z | z
      · rw [z, hT.2.1] at hk1; exact absurd hk1 (by decide)
      · exact z
    have h31 : dp k ≤ 31 := by
      obtain ⟨p1, p2, -⟩ := hW.par hk0 hk
      obtain ⟨ok, od⟩ := hT.2.2.2.1 k hk0 hk
      have hkp : kd (p_par lv (lv k) k) = 0 := by rw [hk1] at ok; unfold kOK at ok; omega
      have := hT.2.2.2.2.2 _ (show p_par lv (lv k) k < n by omega) (Or.inl hkp)
      have := (ti_bg hT _ (show p_par lv (lv k) k < n by omega)).2.1 hkp
      rw [if_pos hkp] at od; omega
    obtain ⟨q, q1, q2, q3, q4, q5, q6⟩ := last_ (N := N) (ids := ids) hN hS hk hk1
    have hqn : q < n := by omega
    have hkq4 := hS.2.2.2 q hqn
    have hsb : sbt n kd lv w k = 62 + sm (wt kd w) (aft lv n k - (k + 1)) (k + 1) := by
      unfold sbt; rw [show aft lv n k - k = (aft lv n k - (k + 1)) + 1 by omega]
      show wt kd w k + _ = _; unfold wt; rw [if_pos hk1]
    have hpq : p_par lv (lv q) q = k := (par_iff hW (by omega) hqn hk).mpr ⟨by omega, by omega, q3⟩
    have hdq := (hT.2.2.2.1 q (by omega) hqn).2
    rw [hpq, if_neg (by omega)] at hdq
    -- what follows the spaces
    have rest : ∃ R, R.length ≤ 2 + sm (wt kd w) (aft lv n k - (k + 1)) (k + 1) ∧ (∀ m, EC n kd lv dp w val e (fun c => f_X2_printLinesOfItem_L2 N (f_gQ N D) (m + 1) (nI k) (nI calls) (nI calls) c) R) ∧ (∀ m, ER n kd lv w ids val (fun r => f_X7_putLine_L3 N (f_gL N D') (m + 1) (nI (ids k)) (nI (2 * calls)) 1 (nI (2 * calls)) r) R) := by
      by_cases hkq : kd q = 0
      · -- it ends in a block
        obtain ⟨E1, e1, e2, e3⟩ := own_ (N := N) (e := e) (ids := ids) (st := q) hN hS hk hk1 q1 (Or.inr ⟨q2, q3⟩) hcalls
        have hsv : sv n lv ids k q = nI (ids q) := if_neg (by omega)
        rw [hsv] at e3
        obtain ⟨D2, rfl⟩ : ∃ x, D = x + 2 := ⟨D - 2, by omega⟩
        obtain ⟨D2', rfl⟩ : ∃ x, D' = x + 1 := ⟨D' - 1, by omega⟩
        obtain ⟨b1, b2, b3, b4⟩ := aft_spec (lv := lv) hqn
        have hchild : q + 1 = aft lv n q ∨ lv (q + 1) = lv q + 1 := by
          rcases Nat.eq_or_lt_of_le (show q + 1 ≤ aft lv n q by omega) with y | y
          · exact Or.inl y
          · have := b3 (q + 1) (by omega) (by omega); have := (hW.2.2.2 q (by omega)).2; omega
        have hlq := hW.le q hqn
        obtain ⟨E2, f1, f2, f3⟩ := ch_loop (e := e) (ids := ids) hS hqn (fun j c => f_gQ N (D2 + 1) 1 (nI j) (nI (calls + 1)) 0 c) (fun j r => f_gL N (D2' + 1) 0 (nI (ids j)) (nI (2 * calls) + 2) 1 r) (fun m x c => f_X2_printLines_L34 N (f_gQ N (D2 + 1)) m (nI (calls + 1)) (nI (aft lv n q)) (nI (lv q + 1)) x c) (fun m x r => f_X7_putLine_L97 N (f_gL N (D2' + 1)) m (nI (2 * calls)) x r)
          (fun m c _ => by show f_X2_printLines_L34 N _ (m + 1) _ _ _ _ c = _; rw [f_X2_printLines_L34, if_pos (nI_le (Nat.le_refl _) (by omega))])
          (fun m j c hc j1 j2 j3 => by
            have hlj := (hc.1.2.2.2.2.1 j (by omega)).2.2.2.1
            show f_X2_printLines_L34 N _ (m + 1) _ _ _ _ c = _
            rw [f_X2_printLines_L34, if_neg (fun z => absurd ((nI_leI (by omega) (by omega)).mp z) (by omega)), ct_lv hc.1 (by omega), bi_s, if_ni_eq (by omega) (by omega), if_neg j3, ni_p1])
          (fun m j c hc j1 j2 j3 => by
            have hlj := (hc.1.2.2.2.2.1 j (by omega)).2.2.2.1
            show f_X2_printLines_L34 N _ (m + 1) _ _ _ _ c = _
            rw [f_X2_printLines_L34, if_neg (fun z => absurd ((nI_leI (by omega) (by omega)).mp z) (by omega)), ct_lv hc.1 (by omega), bi_s, if_ni_eq (by omega) (by omega), if_pos j3, ni_p1])
          (fun m r => by show f_X7_putLine_L97 N _ (m + 1) _ _ r = _; rw [f_X7_putLine_L97, if_pos rfl])
          (fun m j r hr j1 j2 j3 => by
            show f_X7_putLine_L97 N _ (m + 1) _ _ r = _
            rw [f_X7_putLine_L97, if_neg (nI_nm1 (by have := hr.id (show j < n by omega); omega))])
          (fun j j1 j2 j3 => by
            have hjn : j < n := by omega
            have hpj : p_par lv (lv j) j = q := (par_iff hW (by omega) hjn hqn).mpr ⟨by omega, by omega, j3⟩
            obtain ⟨okj, odj⟩ := hT.2.2.2.1 j (by omega) hjn
            rw [hpj, hkq] at okj
            rw [hpj, if_pos hkq] at odj
            unfold kOK at okj
            obtain ⟨E, g1, g2, g3⟩ := ih (n - j) (by omega) j rfl hjn (by omega) (calls + 1) D2 D2' (by omega) (by omega) (by omega)
            refine ⟨E, g1, g2, er_cg g3 (fun r _ => ?_)⟩
            show f_gL N (D2' + 1) 0 (nI (ids j)) (nI (2 * calls) + 2) 1 r = _
            rw [show nI (2 * calls) + (2 : Int32) = nI (2 * (calls + 1)) from by rw [show (2 : Int32) = nI 2 from rfl, nI_add]; congr 1])
          (aft lv n q - (q + 1)) (q + 1) N N rfl (by omega) (by omega) hchild (by omega) (by omega)
        have hsum : sm (wt kd w) (aft lv n k - (k + 1)) (k + 1) = sm (wt kd w) (q - (k + 1)) (k + 1) + (wt kd w q + sm (wt kd w) (aft lv n q - (q + 1)) (q + 1)) := by
          have h1 := sm_add (wt kd w) (q - (k + 1)) (aft lv n k - q) (k + 1)
          rw [show q - (k + 1) + (aft lv n k - q) = aft lv n k - (k + 1) by omega, show k + 1 + (q - (k + 1)) = q by omega, show aft lv n k - q = (aft lv n q - (q + 1)) + 1 by omega] at h1
          exact h1
        -- the block's lines
        have clines : EC n kd lv dp w val e (fun c => f_gQ N (D2 + 2) 0 (nI q) (nI (calls + 1)) 0 c) E2 := ec_cg f2 (fun c hc => by
          show f_X2_printLines N (f_gQ N (D2 + 1)) (nI q) (nI (calls + 1)) c = _
          unfold f_X2_printLines
          rw [if_lle 40 40 rfl (by omega) (by decide), if_pos (by omega), ct_after hc.1 (by omega) hqn, bi_s, ct_lv hc.1 hqn, bi_s, ni_p1, ni_p1])
        refine ⟨E1 ++ (58 :: 10 :: E2), by rw [List.length_append]; show E1.length + (E2.length + 1 + 1) ≤ _; omega, fun m => ?_, fun m => ?_⟩
        · refine ec_cg (ec_seq e2 (ec_p1 58 (ec_p1 10 clines))) (fun c hc => ?_)
          rw [f_X2_printLinesOfItem_L2, if_pos (nI_le (Nat.le_refl _) (by omega)), q5 c hc, bi_s, show (0 : Int32) = nI 0 from rfl, ct_is hc.1 hqn 0 (by decide), bi_s, if_pos hkq, if_neg (by decide)]
          unfold f_X2_printLinesOfItem_b70 f_X2_printLinesOfItem_b88
          show (o_bv (f_gP N 200 0 (nI k) (nI q) (nI calls) c) fun s12 => o_bv (o_push s12 8 58) fun s20 => o_bv (o_push s20 8 10) fun s15 => o_bv (f_gQ N (D2 + 2) 0 (nI q) (nI calls + 1) 0 s15) fun s18 => some s18) = o_bv (f_gP N 200 0 (nI k) (nI q) (nI calls) c) fun s12 => o_bv (o_push s12 8 58) fun s20 => o_bv (o_push s20 8 10) fun s15 => f_gQ N (D2 + 2) 0 (nI q) (nI (calls + 1)) 0 s15
          simp only [bv_id, ni_p1]
        · have g3 : ER n kd lv w ids val (fun s10 => if nI (ids q) < 0 ∨ 1500 ≤ Int32.toNatClampNeg (nI (ids q)) then none else o_do (o_A s10 3 (Int32.toNatClampNeg (nI (ids q)))) fun x14 => f_X7_putLine_L97 N (f_gL N (D2' + 1)) N (nI (2 * calls)) x14 s10) E2 := er_cg f3 (fun r hr => by
            show (if nI (ids q) < 0 ∨ 1500 ≤ Int32.toNatClampNeg (nI (ids q)) then none else o_do (o_A r 3 (Int32.toNatClampNeg (nI (ids q)))) fun x14 => f_X7_putLine_L97 N (f_gL N (D2' + 1)) N (nI (2 * calls)) x14 r) = _
            rw [ld_ (hr.id hqn) (by decide), hr.1.2.2.2.1 q hqn]
            have : (if q + 1 < n ∧ lv q < lv (q + 1) then nI (ids (q + 1)) else -1) = cur n lv ids q (aft lv n q) (q + 1) := by
              unfold cur sv
              by_cases y : q + 1 = aft lv n q
              · rw [if_pos y, if_pos rfl, if_neg (fun z => by have := b4 (by omega); rw [← y] at this; omega)]
              · have := b3 (q + 1) (by omega) (by omega)
                rw [if_neg y, if_pos ⟨by omega, this⟩]
            rw [this])
          refine er_cg (er_seq e3 (er_p1 (N := N) 58 (er_p1 (N := N) 10 g3))) (fun r hr => ?_)
          rw [f_X7_putLine_L3, if_pos (nI_le (Nat.le_refl _) (by omega)), q6 r hr, bi_s, if_neg (show ¬ (1 : Int32) = 0 by decide), ld_ (hr.id hqn) (by decide), hr.kk hqn, hkq, if_pos (show nI 0 = (0 : Int32) from rfl)]
          unfold f_X7_putLine_b47 f_X7_putLine_b77
          simp only [if_neg (show ¬ (1 : Int32) = 0 by decide)]
      · -- it ends in another part
        obtain ⟨E1, e1, e2, e3⟩ := own_ (N := N) (e := e) (ids := ids) (st := aft lv n k) hN hS hk hk1 a1 (Or.inl rfl) hcalls
        have hsv : sv n lv ids k (aft lv n k) = -1 := if_pos rfl
        rw [hsv] at e3
        refine ⟨E1 ++ [10], by rw [List.length_append]; show E1.length + 1 ≤ _; omega, fun m => ?_, fun m => ?_⟩
        · refine ec_cg (ec_seq e2 (ec_push 10)) (fun c hc => ?_)
          rw [f_X2_printLinesOfItem_L2, if_pos (nI_le (Nat.le_refl _) (by omega)), q5 c hc, bi_s, show (0 : Int32) = nI 0 from rfl, ct_is hc.1 hqn 0 (by decide), bi_s, if_neg hkq, if_pos (by rfl), ct_after hc.1 (by omega) hk, bi_s]
          unfold f_X2_printLinesOfItem_b70 f_X2_printLinesOfItem_b88
          show (o_bv (f_gP N 200 0 (nI k) (nI (aft lv n k)) (nI calls) c) fun s12 => o_bv (o_push s12 8 10) fun s15 => some s15) = o_bv (f_gP N 200 0 (nI k) (nI (aft lv n k)) (nI calls) c) fun s12 => o_push s12 8 10
          simp only [bv_id]
        · refine er_cg (er_seq e3 (er_put (N := N) 10)) (fun r hr => ?_)
          rw [f_X7_putLine_L3, if_pos (nI_le (Nat.le_refl _) (by omega)), q6 r hr, bi_s, if_neg (show ¬ (1 : Int32) = 0 by decide), ld_ (hr.id hqn) (by decide), hr.kk hqn, if_lit 0 0 rfl (by omega) (by decide), if_neg hkq]
          unfold f_X7_putLine_b47 f_X7_putLine_b77
          show (o_bv (f_gA N 200 0 (nI (ids k)) 0 (-1) r) fun s7 => o_bv (f_X7_put N 10 s7) fun s10 => some s10) = o_bv (f_gA N 200 0 (nI (ids k)) 0 (-1) r) fun s7 => f_X7_put N 10 s7
          simp only [bv_id]
    obtain ⟨R, g1, g2, g3⟩ := rest
    refine ⟨List.replicate (2 * calls) 32 ++ R, by rw [List.length_append, List.length_replicate]; omega, ?_, ?_⟩
    · have := ec_ind (N := N) (e := e) (k := k) (by omega) g2 calls 0 (N - calls - 1) (by omega)
      rw [show N - calls - 1 + calls + 1 = N by omega] at this
      exact this
    · have := er_ind (N := N) (k := k) (wc := 1) (by omega) g3 (2 * calls) 0 (N - 2 * calls - 1) (by omega)
      rw [show N - 2 * calls - 1 + 2 * calls + 1 = N by omega] at this
      exact this
end
