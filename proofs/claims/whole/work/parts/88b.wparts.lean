/-! WRITE: words, and the parts of an item or group -/
def ST (n : Nat) (kd lv dp : Nat → Nat) (w : Nat → List Int32) (val : Nat → Int32) : Prop := TI n kd lv dp ∧ (∀ i, i < n → kd i = 2 → val i = nI (w i).length ∧ (w i).length ≤ 12600) ∧ (∀ i, i < n → kd i = 3 → ∃ v, v < 1000000000 ∧ val i = nI v) ∧ ∀ i, i < n → kd i ≤ 4
def wt (kd : Nat → Nat) (w : Nat → List Int32) (i : Nat) : Nat := if kd i = 1 then 62 else if kd i = 2 then (w i).length + 1 else 11
def sbt (n : Nat) (kd lv : Nat → Nat) (w : Nat → List Int32) (i : Nat) : Nat := sm (wt kd w) (aft lv n i - i) i
section
variable {n : Nat} {kd lv dp : Nat → Nat} {w : Nat → List Int32} {ids : Nat → Nat} {val : Nat → Int32} {N e : Nat}
theorem WQ.id {r : o_S} (h : WQ n kd lv w ids val r) {i : Nat} (hi : i < n) : ids i < 1500 := h.1.1 i hi
theorem WQ.kk {r : o_S} (h : WQ n kd lv w ids val r) {i : Nat} (hi : i < n) : o_A r 1 (ids i) = nI (kd i) := (h.2.1 i hi).1
theorem t_111 {rec : Nat → Int32 → Int32 → Int32 → o_S → Option o_S} {r : o_S} {i : Nat} (hS : ST n kd lv dp w val) (h : WQ n kd lv w ids val r) (hi : i < n) (h0 : kd i ≠ 0) : f_X7_putNode_b111 N rec (nI (ids i)) r = some r := by
  have := hS.2.2.2 i hi
  unfold f_X7_putNode_b111
  rw [ld_ (h.id hi) (by decide), h.kk hi, if_lit 0 0 rfl (by omega) (by decide), if_neg h0]
theorem t_82 {rec : Nat → Int32 → Int32 → Int32 → o_S → Option o_S} {r : o_S} {i : Nat} (hS : ST n kd lv dp w val) (h : WQ n kd lv w ids val r) (hi : i < n) (h4 : kd i ≠ 4) : f_X7_putNode_b82 N rec (nI (ids i)) r = f_X7_putNode_b111 N rec (nI (ids i)) r := by
  have := hS.2.2.2 i hi
  unfold f_X7_putNode_b82
  rw [ld_ (h.id hi) (by decide), h.kk hi, if_lit 4 4 rfl (by omega) (by decide), if_neg h4]
theorem t_65 {rec : Nat → Int32 → Int32 → Int32 → o_S → Option o_S} {r : o_S} {i : Nat} (hS : ST n kd lv dp w val) (h : WQ n kd lv w ids val r) (hi : i < n) (h1 : kd i ≠ 1) : f_X7_putNode_b65 N rec (nI (ids i)) r = f_X7_putNode_b82 N rec (nI (ids i)) r := by
  have := hS.2.2.2 i hi
  unfold f_X7_putNode_b65
  rw [ld_ (h.id hi) (by decide), h.kk hi, if_lit 1 1 rfl (by omega) (by decide), if_neg h1]
theorem t_45 {rec : Nat → Int32 → Int32 → Int32 → o_S → Option o_S} {r : o_S} {i : Nat} (hS : ST n kd lv dp w val) (h : WQ n kd lv w ids val r) (hi : i < n) (h3 : kd i ≠ 3) : f_X7_putNode_b45 N rec (nI (ids i)) r = f_X7_putNode_b65 N rec (nI (ids i)) r := by
  have := hS.2.2.2 i hi
  unfold f_X7_putNode_b45
  rw [ld_ (h.id hi) (by decide), h.kk hi, if_lit 3 3 rfl (by omega) (by decide), if_neg h3]
theorem t_pn {rec : Nat → Int32 → Int32 → Int32 → o_S → Option o_S} {r : o_S} {i : Nat} (hS : ST n kd lv dp w val) (h : WQ n kd lv w ids val r) (hi : i < n) (h2 : kd i ≠ 2) : f_X7_putNode N rec (nI (ids i)) r = f_X7_putNode_b45 N rec (nI (ids i)) r := by
  have := hS.2.2.2 i hi
  unfold f_X7_putNode
  rw [ld_ (h.id hi) (by decide), h.kk hi, if_lit 2 2 rfl (by omega) (by decide), if_neg h2]
/-- a word -/
theorem ec_word {i : Nat} (hN : 20000 ≤ N) (hS : ST n kd lv dp w val) (hi : i < n) (hk : kd i = 2) : EC n kd lv dp w val e (fun c => f_X2_printWord N (nI i) c) (w i) := by
  obtain ⟨v1, v2⟩ := hS.2.1 i hi hk
  have L : ∀ d j m, j + d = (w i).length → d < m → EC n kd lv dp w val e (fun c => f_X2_printWord_L12 N m (nI i) (nI (w i).length) (nI j) c) ((w i).drop j) := by
    intro d
    induction d with
    | zero =>
      intro j m hj hm
      obtain ⟨m, rfl⟩ : ∃ x, m = x + 1 := ⟨m - 1, by omega⟩
      rw [List.drop_of_length_le (by omega)]
      refine ec_cg ec_nil (fun c _ => ?_)
      rw [f_X2_printWord_L12, if_pos (nI_le (by omega) (by omega))]
    | succ d ih =>
      intro j m hj hm
      obtain ⟨m, rfl⟩ : ∃ x, m = x + 1 := ⟨m - 1, by omega⟩
      rw [dr_ (l := w i) (i := j) (by omega)]
      refine ec_cg (ec_p1 _ (ih (j + 1) m (by omega) (by omega))) (fun c hc => ?_)
      rw [f_X2_printWord_L12, if_neg (fun q => absurd ((nI_leI (by omega) (by omega)).mp q) (by omega)), ct_letter hc.1 hi hk, bi_s, if_neg (nI_pos (by omega)), if_neg (fun q => absurd ((nI_leI (by omega) (by omega)).mp q) (by omega)), nI_clamp (by omega), ni_p1]
  refine ec_cg (L (w i).length 0 N (by omega) (by omega)) (fun c hc => ?_)
  unfold f_X2_printWord
  rw [show (5 : Int32) = nI 5 from rfl, ct_get hc.1 hi 5 (by decide), bi_s, hc.2 i hi, v1]; rfl
theorem er_word {i : Nat} {rec : Nat → Int32 → Int32 → Int32 → o_S → Option o_S} (hN : 20000 ≤ N) (hS : ST n kd lv dp w val) (hi : i < n) (hk : kd i = 2) : ER n kd lv w ids val (fun r => f_X7_putNode N rec (nI (ids i)) r) (w i) := by
  obtain ⟨v1, v2⟩ := hS.2.1 i hi hk
  have L : ∀ d j m, j + d = (w i).length → d < m → ER n kd lv w ids val (fun r => f_X7_putNode_L12 N rec m (nI (ids i)) (nI j) r) ((w i).drop j) := by
    intro d
    induction d with
    | zero =>
      intro j m hj hm
      obtain ⟨m, rfl⟩ : ∃ x, m = x + 1 := ⟨m - 1, by omega⟩
      rw [List.drop_of_length_le (by omega)]
      refine er_cg er_nil (fun r hr => ?_)
      rw [f_X7_putNode_L12, ld_ (hr.id hi) (by decide), (hr.2.1 i hi).2, v1, if_pos (nI_le (by omega) (by omega)), t_45 hS hr hi (by omega), t_65 hS hr hi (by omega), t_82 hS hr hi (by omega), t_111 hS hr hi (by omega)]
    | succ d ih =>
      intro j m hj hm
      obtain ⟨m, rfl⟩ : ∃ x, m = x + 1 := ⟨m - 1, by omega⟩
      rw [dr_ (l := w i) (i := j) (by omega)]
      refine er_cg (er_p1 (N := N) _ (ih (j + 1) m (by omega) (by omega))) (fun r hr => ?_)
      obtain ⟨a, a1, a2, a3⟩ := hr.2.2 i hi hk
      rw [f_X7_putNode_L12, ld_ (hr.id hi) (by decide), (hr.2.1 i hi).2, v1, if_neg (fun q => absurd ((nI_leI (by omega) (by omega)).mp q) (by omega)), ld_ (hr.id hi) (by decide), a1, nI_add, ld_ (show a + j < 12600 by omega) (by decide), a3 j (by omega), ni_p1]
  refine er_cg (L (w i).length 0 N (by omega) (by omega)) (fun r hr => ?_)
  unfold f_X7_putNode
  rw [ld_ (hr.id hi) (by decide), hr.kk hi, hk, if_pos (show nI 2 = (2 : Int32) from rfl)]; rfl
/-- what a part is, on both sides -/
def CH (N e n : Nat) (kd lv dp : Nat → Nat) (w : Nat → List Int32) (ids : Nat → Nat) (val : Nat → Int32) (RC RR : Nat → Int32 → Int32 → Int32 → o_S → Option o_S) (calls k : Nat) : Prop := ∃ E, E.length + (if kd k = 0 then 0 else 1) ≤ sbt n kd lv w k ∧ EC n kd lv dp w val e (fun c => RC 1 (nI k) (nI calls) 0 c) E ∧ ER n kd lv w ids val (fun r => RR 1 (nI (ids k)) 0 0 r) E
/-- deeper nodes are passed over -/
theorem skip25 {RC : Nat → Int32 → Int32 → Int32 → o_S → Option o_S} {p st calls : Nat} {c : o_S} {L : Nat} (hc : W1 n kd lv dp w val c) (hst : st ≤ n) (hL : L ≤ 1301) : ∀ d k m, (∀ x, k ≤ x → x < k + d → L < lv x) → k + d ≤ st → f_X2_printParts_L25 N RC (m + d) (nI p) (nI st) (nI calls) (nI L) (nI k) c = f_X2_printParts_L25 N RC m (nI p) (nI st) (nI calls) (nI L) (nI (k + d)) c := by
  have hn := hc.1.2.2.1
  intro d
  induction d with
  | zero => intro k m _ _; rfl
  | succ d ih =>
    intro k m h1 h2
    have hl := (hc.1.2.2.2.2.1 k (by omega)).2.2.2.1
    have := h1 k (Nat.le_refl _) (by omega)
    rw [show m + (d + 1) = (m + d) + 1 by omega, f_X2_printParts_L25, if_neg (fun q => absurd ((nI_leI (by omega) (by omega)).mp q) (by omega)), ct_lv hc.1 (by omega), bi_s, if_ni_eq (by omega) (by omega), if_neg (by omega), ni_p1, ih (k + 1) m (fun x x1 x2 => h1 x (by omega) (by omega)) (by omega), show k + 1 + d = k + (d + 1) by omega]
def sv (n : Nat) (lv ids : Nat → Nat) (p st : Nat) : Int32 := if st = aft lv n p then -1 else nI (ids st)
def cur (n : Nat) (lv ids : Nat → Nat) (p st k : Nat) : Int32 := if k = st then sv n lv ids p st else nI (ids k)
/-- the child behind a child -/
theorem cur_next {p st k : Nat} {r : o_S} (hr : LK n lv ids r) (hp : p < n) (hst : st = aft lv n p ∨ (st < aft lv n p ∧ lv st = lv p + 1)) (h1 : p < k) (h2 : k < st) (h3 : lv k = lv p + 1) : k < aft lv n k ∧ aft lv n k ≤ st ∧ (aft lv n k = st ∨ lv (aft lv n k) = lv p + 1) ∧ o_A r 4 (ids k) = cur n lv ids p st (aft lv n k) := by
  obtain ⟨a1, a2, a3, a4⟩ := aft_spec (lv := lv) hp
  have hka : k < aft lv n p := by omega
  obtain ⟨s1, s2, s3, s4⟩ := sib hp h1 hka h3
  obtain ⟨b1, b2, b3, b4⟩ := aft_spec (lv := lv) (n := n) (i := k) (by omega)
  have hle : aft lv n k ≤ st := by
    rcases hst with q | ⟨q1, q2⟩
    · omega
    · rcases Nat.lt_or_ge st (aft lv n k) with y | y
      · have := b3 st h2 y; omega
      · exact y
  have e4 := hr.2.2.2.2 k (by omega)
  refine ⟨s1, hle, ?_, ?_⟩
  · rcases Nat.eq_or_lt_of_le hle with q | q
    · exact Or.inl q
    · exact Or.inr (s3 (by omega))
  · rw [e4]; unfold cur sv
    by_cases q : aft lv n k = aft lv n p
    · rw [if_neg (s4 q)]
      have : aft lv n k = st := by omega
      rw [if_pos this, if_pos (by omega)]
    · have q2 := s3 (by omega)
      rw [if_pos ⟨by omega, by omega⟩]
      by_cases q3 : aft lv n k = st
      · rw [if_pos q3, if_neg (by omega), q3]
      · rw [if_neg q3]
theorem sbt_le {p st k : Nat} (h : aft lv n k ≤ st) (hk : k < aft lv n k) : sm (wt kd w) (st - k) k = sbt n kd lv w k + sm (wt kd w) (st - aft lv n k) (aft lv n k) := by
  have := sm_add (wt kd w) (aft lv n k - k) (st - aft lv n k) k
  rw [show aft lv n k - k + (st - aft lv n k) = st - k by omega, show k + (aft lv n k - k) = aft lv n k by omega] at this
  exact this
theorem nI_id {r : o_S} (h : WQ n kd lv w ids val r) {i j : Nat} (hi : i < n) (hj : j < n) : nI (ids i) = nI (ids j) ↔ i = j := by
  constructor
  · intro q; exact h.1.2.1 i j hi hj ((nI_eq (by have := h.id hi; omega) (by have := h.id hj; omega)).mp q)
  · intro q; rw [q]
theorem parts_L {RC RR : Nat → Int32 → Int32 → Int32 → o_S → Option o_S} {p st calls : Nat} (hS : ST n kd lv dp w val) (hp : p < n) (hst : st = aft lv n p ∨ (st < aft lv n p ∧ lv st = lv p + 1)) (hCH : ∀ k, p < k → k < st → lv k = lv p + 1 → CH N e n kd lv dp w ids val RC RR calls k) : ∀ D k m m', st - k = D → p < k → k ≤ st → (k = st ∨ lv k = lv p + 1) → D < m → D < m' → ∃ E, E.length ≤ sm (wt kd w) (st - k) k ∧ EC n kd lv dp w val e (fun c => f_X2_printParts_L25 N RC m (nI p) (nI st) (nI calls) (nI (lv p + 1)) (nI k) c) E ∧ ER n kd lv w ids val (fun r => f_X7_putAll_L8 N RR m' (nI (ids p)) 0 (sv n lv ids p st) (cur n lv ids p st k) r) E := by
  have hW := hS.1.1
  have hn := hW.2.1
  obtain ⟨a1, a2, a3, a4⟩ := aft_spec (lv := lv) hp
  have hlp := hW.le p hp
  intro D
  induction D using Nat.strongRecOn with
  | _ D ih =>
    intro k m m' hD h1 h2 h3 hm hm'
    obtain ⟨m, rfl⟩ : ∃ x, m = x + 1 := ⟨m - 1, by omega⟩
    obtain ⟨m', rfl⟩ : ∃ x, m' = x + 1 := ⟨m' - 1, by omega⟩
    by_cases hk : k = st
    · refine ⟨[], Nat.zero_le _, ec_cg ec_nil (fun c _ => ?_), er_cg er_nil (fun r _ => ?_)⟩
      · rw [f_X2_printParts_L25, if_pos (nI_le (by omega) (by omega))]
      · rw [f_X7_putAll_L8]; unfold cur; rw [if_pos hk, if_pos rfl]
    · have hl : lv k = lv p + 1 := by omega
      have hks : k < st := by omega
      obtain ⟨E1, e1, e2, e3⟩ := hCH k h1 hks hl
      have nx : k < aft lv n k ∧ aft lv n k ≤ st ∧ (aft lv n k = st ∨ lv (aft lv n k) = lv p + 1) := by
        obtain ⟨s1, s2, s3, s4⟩ := sib hp h1 (show k < aft lv n p by omega) hl
        obtain ⟨b1, b2, b3, b4⟩ := aft_spec (lv := lv) (n := n) (i := k) (by omega)
        have hle : aft lv n k ≤ st := by
          rcases hst with q | ⟨q1, q2⟩
          · omega
          · rcases Nat.lt_or_ge st (aft lv n k) with y | y
            · have := b3 st hks y; omega
            · exact y
        refine ⟨s1, hle, ?_⟩
        rcases Nat.eq_or_lt_of_le hle with q | q
        · exact Or.inl q
        · exact Or.inr (s3 (by omega))
      obtain ⟨n1, n2, n3⟩ := nx
      have hkn : k < n := by omega
      have hak := (aft_spec (lv := lv) hkn)
      obtain ⟨E2, f1, f2, f3⟩ := ih (st - aft lv n k) (by omega) (aft lv n k) (m - (aft lv n k - (k + 1))) m' rfl (by omega) n2 n3 (by omega) (by omega)
      have hsb := sbt_le (kd := kd) (w := w) (p := p) n2 n1
      -- class: behind the part
      have cl : ∀ c, W1 n kd lv dp w val c → f_X2_printParts_L25 N RC m (nI p) (nI st) (nI calls) (nI (lv p + 1)) (nI (k + 1)) c = f_X2_printParts_L25 N RC (m - (aft lv n k - (k + 1))) (nI p) (nI st) (nI calls) (nI (lv p + 1)) (nI (aft lv n k)) c := by
        intro c hc
        have := skip25 (N := N) (RC := RC) (p := p) (st := st) (calls := calls) (L := lv p + 1) hc (by omega) (by omega) (aft lv n k - (k + 1)) (k + 1) (m - (aft lv n k - (k + 1))) (fun x x1 x2 => by have := hak.2.2.1 x (by omega) (by omega); omega) (by omega)
        rw [show m - (aft lv n k - (k + 1)) + (aft lv n k - (k + 1)) = m by omega, show k + 1 + (aft lv n k - (k + 1)) = aft lv n k by omega] at this
        exact this
      have f2' : EC n kd lv dp w val e (fun c => f_X2_printParts_L25 N RC m (nI p) (nI st) (nI calls) (nI (lv p + 1)) (nI (k + 1)) c) E2 := ec_cg f2 cl
      have b62 : ER n kd lv w ids val (fun r => f_X7_putAll_b62 N RR (f_X7_putAll_L8 N RR m') (nI (ids p)) 0 (sv n lv ids p st) (nI (ids k)) r) (E1 ++ E2) := by
        have g := er_seq e3 (er_cg (F := fun r => if nI (ids k) < 0 ∨ 1500 ≤ Int32.toNatClampNeg (nI (ids k)) then none else o_do (o_A r 4 (Int32.toNatClampNeg (nI (ids k)))) fun x13 => f_X7_putAll_L8 N RR m' (nI (ids p)) 0 (sv n lv ids p st) x13 r) f3 (fun r hr => by
          obtain ⟨-, -, -, q4⟩ := cur_next hr.1 hp hst h1 hks hl
          show (if nI (ids k) < 0 ∨ 1500 ≤ Int32.toNatClampNeg (nI (ids k)) then none else o_do (o_A r 4 (Int32.toNatClampNeg (nI (ids k)))) fun x13 => f_X7_putAll_L8 N RR m' (nI (ids p)) 0 (sv n lv ids p st) x13 r) = _
          rw [ld_ (hr.id hkn) (by decide), q4]))
        exact g
      have fst : ∀ r, WQ n kd lv w ids val r → o_A r 3 (ids p) = nI (ids (p + 1)) := by
        intro r hr
        have l1 : lv p < lv (p + 1) := a3 (p + 1) (by omega) (by omega)
        rw [hr.1.2.2.2.1 p hp, if_pos ⟨by omega, l1⟩]
      have ne_sv : ∀ r, WQ n kd lv w ids val r → ¬ nI (ids k) = sv n lv ids p st := by
        intro r hr q
        unfold sv at q
        by_cases y : st = aft lv n p
        · rw [if_pos y] at q; exact nI_nm1 (by have := hr.id hkn; omega) q
        · rw [if_neg y] at q
          have := (nI_id hr hkn (by omega)).mp q; omega
      -- with a space, or without
      have key : ∃ S : List Int32, S.length ≤ (if kd k = 0 then 0 else 1) ∧ EC n kd lv dp w val e (fun c => f_X2_printParts_L25 N RC (m + 1) (nI p) (nI st) (nI calls) (nI (lv p + 1)) (nI k) c) (S ++ (E1 ++ E2)) ∧ ER n kd lv w ids val (fun r => f_X7_putAll_b35 N RR (f_X7_putAll_L8 N RR m') (nI (ids p)) 0 (sv n lv ids p st) (nI (ids k)) r) (S ++ (E1 ++ E2)) := by
        have hk4 := hS.2.2.2 k hkn
        have hb : ∀ r, WQ n kd lv w ids val r → f_X7_putAll_b35 N RR (f_X7_putAll_L8 N RR m') (nI (ids p)) 0 (sv n lv ids p st) (nI (ids k)) r = if k = p + 1 then f_X7_putAll_b62 N RR (f_X7_putAll_L8 N RR m') (nI (ids p)) 0 (sv n lv ids p st) (nI (ids k)) r else (if kd k = 0 then f_X7_putAll_b62 N RR (f_X7_putAll_L8 N RR m') (nI (ids p)) 0 (sv n lv ids p st) (nI (ids k)) r else (o_bv (f_X7_put N (32 : Int32) r) fun s17 => f_X7_putAll_b62 N RR (f_X7_putAll_L8 N RR m') (nI (ids p)) 0 (sv n lv ids p st) (nI (ids k)) s17)) := by
          intro r hr
          unfold f_X7_putAll_b35
          rw [ld_ (hr.id hp) (by decide), fst r hr, ld_ (hr.id hkn) (by decide), hr.kk hkn, if_lit 0 0 rfl (by omega) (by decide)]
          by_cases y : k = p + 1
          · rw [if_pos (by rw [y]), if_pos y]
          · rw [if_neg (fun q => y ((nI_id hr hkn (by omega)).mp q)), if_neg y]
        have hc' : ∀ c, W1 n kd lv dp w val c → f_X2_printParts_L25 N RC (m + 1) (nI p) (nI st) (nI calls) (nI (lv p + 1)) (nI k) c = if k = p + 1 then (o_bv (RC 1 (nI k) (nI calls) 0 c) fun s11 => f_X2_printParts_L25 N RC m (nI p) (nI st) (nI calls) (nI (lv p + 1)) (nI (k + 1)) s11) else (if kd k = 0 then (o_bv (RC 1 (nI k) (nI calls) 0 c) fun s17 => f_X2_printParts_L25 N RC m (nI p) (nI st) (nI calls) (nI (lv p + 1)) (nI (k + 1)) s17) else (o_bv (o_push c 8 (32 : Int32)) fun s19 => o_bv (RC 1 (nI k) (nI calls) 0 s19) fun s21 => f_X2_printParts_L25 N RC m (nI p) (nI st) (nI calls) (nI (lv p + 1)) (nI (k + 1)) s21)) := by
          intro c hc
          have hlk := (hc.1.2.2.2.2.1 k hkn).2.2.2.1
          rw [f_X2_printParts_L25, if_neg (fun q => absurd ((nI_leI (by omega) (by omega)).mp q) (by omega)), ct_lv hc.1 hkn, bi_s, if_ni_eq (by omega) (by omega), if_pos hl, ni_p1, if_ni_le (by omega) (by omega), ni_p1, show (0 : Int32) = nI 0 from rfl, ct_is hc.1 hkn 0 (by decide), bi_s]
          by_cases y : k = p + 1
          · rw [if_pos (by omega), if_pos y]
          · rw [if_neg (by omega), if_neg y]
            by_cases y2 : kd k = 0
            · rw [if_pos y2, if_pos y2, if_neg (by decide)]
            · rw [if_neg y2, if_neg y2, if_pos (by rfl)]
        by_cases y : k = p + 1
        · refine ⟨[], Nat.zero_le _, ?_, ?_⟩ <;> rw [List.nil_append]
          · exact ec_cg (ec_seq e2 f2') (fun c hc => by rw [hc' c hc, if_pos y])
          · exact er_cg b62 (fun r hr => by rw [hb r hr, if_pos y])
        · by_cases y2 : kd k = 0
          · refine ⟨[], Nat.zero_le _, ?_, ?_⟩ <;> rw [List.nil_append]
            · exact ec_cg (ec_seq e2 f2') (fun c hc => by rw [hc' c hc, if_neg y, if_pos y2])
            · exact er_cg b62 (fun r hr => by rw [hb r hr, if_neg y, if_pos y2])
          · refine ⟨[32], by rw [if_neg y2]; exact Nat.le_refl _, ?_, ?_⟩ <;> rw [show ([32] : List Int32) ++ (E1 ++ E2) = 32 :: (E1 ++ E2) from rfl]
            · exact ec_cg (ec_p1 32 (ec_seq e2 f2')) (fun c hc => by rw [hc' c hc, if_neg y, if_neg y2])
            · exact er_cg (er_p1 (N := N) 32 b62) (fun r hr => by rw [hb r hr, if_neg y, if_neg y2])
      obtain ⟨S, s1, s2, s3⟩ := key
      refine ⟨S ++ (E1 ++ E2), by rw [List.length_append, List.length_append]; omega, s2, er_cg s3 (fun r hr => ?_)⟩
      have : cur n lv ids p st k = nI (ids k) := if_neg hk
      rw [this, f_X7_putAll_L8, if_neg (ne_sv r hr), ld_ (hr.id hp) (by decide), if_pos (show (0 : Int32) = 0 from rfl), ite_self]
theorem parts_ {RC RR : Nat → Int32 → Int32 → Int32 → o_S → Option o_S} {p st calls : Nat} (hN : 20000 ≤ N) (hS : ST n kd lv dp w val) (hp : p < n) (hps : p < st) (hst : st = aft lv n p ∨ (st < aft lv n p ∧ lv st = lv p + 1)) (hc40 : calls ≤ 40) (hCH : ∀ k, p < k → k < st → lv k = lv p + 1 → CH N e n kd lv dp w ids val RC RR calls k) : ∃ E, E.length ≤ sm (wt kd w) (st - (p + 1)) (p + 1) ∧ EC n kd lv dp w val e (fun c => f_X2_printParts N RC (nI p) (nI st) (nI calls) c) E ∧ ER n kd lv w ids val (fun r => f_X7_putAll N RR (nI (ids p)) 0 (sv n lv ids p st) r) E := by
  have hW := hS.1.1
  have hn := hW.2.1
  obtain ⟨a1, a2, a3, a4⟩ := aft_spec (lv := lv) hp
  have hchild : p + 1 = st ∨ lv (p + 1) = lv p + 1 := by
    rcases Nat.eq_or_lt_of_le (show p + 1 ≤ st by omega) with q | q
    · exact Or.inl q
    · have := a3 (p + 1) (by omega) (by omega); have := (hW.2.2.2 p (by omega)).2; omega
  obtain ⟨E, e1, e2, e3⟩ := parts_L (N := N) (RC := RC) (RR := RR) hS hp hst hCH (st - (p + 1)) (p + 1) N N rfl (by omega) (by omega) hchild (by omega) (by omega)
  refine ⟨E, e1, ec_cg e2 (fun c hc => ?_), er_cg e3 (fun r hr => ?_)⟩
  · unfold f_X2_printParts
    rw [if_lle 40 40 rfl (by omega) (by decide), if_pos hc40, ct_lv hc.1 hp, bi_s, ni_p1, ni_p1]
  · unfold f_X7_putAll
    rw [ld_ (hr.id hp) (by decide), hr.1.2.2.2.1 p hp]
    have : (if p + 1 < n ∧ lv p < lv (p + 1) then nI (ids (p + 1)) else -1) = cur n lv ids p st (p + 1) := by
      unfold cur sv
      by_cases q : p + 1 = st
      · rw [if_pos q]
        rcases hst with y | ⟨y1, y2⟩
        · rw [if_pos y, if_neg (fun z => by have := a4 (by omega); rw [← y, ← q] at this; omega)]
        · rw [if_neg (show ¬ st = aft lv n p by omega), if_pos (show p + 1 < n ∧ lv p < lv (p + 1) from ⟨by omega, by rw [q]; omega⟩), q]
      · rw [if_neg q]
        have := a3 (p + 1) (by omega) (by omega)
        rw [if_pos ⟨by omega, this⟩]
    rw [this]
end
