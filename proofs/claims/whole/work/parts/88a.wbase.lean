/-! WRITE: what is added to what is written, on each side -/
def W1 (n : Nat) (kd lv dp : Nat → Nat) (w : Nat → List Int32) (val : Nat → Int32) (c : o_S) : Prop := CT c n kd lv dp w ∧ ∀ i, i < n → tg c i 5 = val i
def WQ (n : Nat) (kd lv : Nat → Nat) (w : Nat → List Int32) (ids : Nat → Nat) (val : Nat → Int32) (r : o_S) : Prop := LK n lv ids r ∧ (∀ i, i < n → o_A r 1 (ids i) = nI (kd i) ∧ o_A r 7 (ids i) = val i) ∧ (∀ i, i < n → kd i = 2 → ∃ a, o_A r 8 (ids i) = nI a ∧ a + (w i).length ≤ 12600 ∧ ∀ j, j < (w i).length → o_A r 9 (a + j) = (w i).getD j 0)
def AC (e : Nat) (c c' : o_S) (E : List Int32) : Prop := o_R c' 8 = o_R c 8 ++ E ∧ (∀ q, q ≠ 8 → o_R c' q = o_R c q) ∧ o_F c' = o_F c ∧ o_A c' = o_A c ∧ o_O c' = o_O c ∧ GS e c'
def AR (r r' : o_S) (L : Nat) (E : List Int32) : Prop := o_F r' 20 = nI (L + E.length) ∧ (∀ f, f ≠ 20 → o_F r' f = o_F r f) ∧ (∀ a, a ≠ 13 → o_A r' a = o_A r a) ∧ (∀ j, j < L → o_A r' 13 j = o_A r 13 j) ∧ (∀ j, j < E.length → o_A r' 13 (L + j) = E.getD j 0) ∧ RQ r r'
section
variable {n : Nat} {kd lv dp : Nat → Nat} {w : Nat → List Int32} {ids : Nat → Nat} {val : Nat → Int32} {N e : Nat}
theorem W1.ac {c c' : o_S} {E : List Int32} (h : W1 n kd lv dp w val c) (h2 : AC e c c' E) : W1 n kd lv dp w val c' := by
  obtain ⟨⟨c1, c2, c3, c4, c5, c6⟩, hv⟩ := h
  have ht : ∀ i f, tg c' i f = tg c i f := fun i f => by unfold tg; rw [h2.2.1 3 (by decide)]
  have h4 := h2.2.1 4 (by decide)
  exact ⟨⟨by rw [h2.2.1 3 (by decide)]; exact c1, by rw [h2.2.2.1]; exact c2, c3, by rw [h4]; exact c4, fun i hi => by rw [ht, ht, ht]; exact c5 i hi, fun i hi hk => by rw [ht, ht, h4]; exact c6 i hi hk⟩, fun i hi => by rw [ht]; exact hv i hi⟩
theorem WQ.ar {r r' : o_S} {L : Nat} {E : List Int32} (h : WQ n kd lv w ids val r) (h2 : AR r r' L E) : WQ n kd lv w ids val r' := by
  have hA := h2.2.2.1
  exact ⟨h.1.congr (hA 2 (by decide)) (hA 3 (by decide)) (hA 4 (by decide)), fun i hi => by rw [hA 1 (by decide), hA 7 (by decide)]; exact h.2.1 i hi, fun i hi hk => by rw [hA 8 (by decide), hA 9 (by decide)]; exact h.2.2 i hi hk⟩
theorem AC.tr {c c' c'' : o_S} {E E' : List Int32} (h1 : AC e c c' E) (h2 : AC e c' c'' E') : AC e c c'' (E ++ E') :=
  ⟨by rw [h2.1, h1.1, List.append_assoc], fun q hq => (h2.2.1 q hq).trans (h1.2.1 q hq), h2.2.2.1.trans h1.2.2.1, h2.2.2.2.1.trans h1.2.2.2.1, h2.2.2.2.2.1.trans h1.2.2.2.2.1, h2.2.2.2.2.2⟩
theorem AR.tr {r r' r'' : o_S} {L : Nat} {E E' : List Int32} (h1 : AR r r' L E) (h2 : AR r' r'' (L + E.length) E') : AR r r'' L (E ++ E') := by
  obtain ⟨a1, a2, a3, a4, a5, a6⟩ := h1
  obtain ⟨b1, b2, b3, b4, b5, b6⟩ := h2
  refine ⟨by rw [b1, List.length_append, Nat.add_assoc], fun f hf => (b2 f hf).trans (a2 f hf), fun a ha => (b3 a ha).trans (a3 a ha), fun j hj => (b4 j (by omega)).trans (a4 j hj), fun j hj => ?_, a6.tr b6⟩
  rw [List.length_append] at hj
  by_cases q : j < E.length
  · rw [b4 (L + j) (by omega), gd_l q]; exact a5 j q
  · have := b5 (j - E.length) (by omega)
    rw [show L + E.length + (j - E.length) = L + j by omega] at this
    rw [this, gd_r (by omega)]
def EC (n : Nat) (kd lv dp : Nat → Nat) (w : Nat → List Int32) (val : Nat → Int32) (e : Nat) (F : o_S → Option o_S) (E : List Int32) : Prop := ∀ c, W1 n kd lv dp w val c → GS e c → (o_R c 8).length + E.length ≤ 60000 → ∃ c', F c = some c' ∧ AC e c c' E
def ER (n : Nat) (kd lv : Nat → Nat) (w : Nat → List Int32) (ids : Nat → Nat) (val : Nat → Int32) (F : o_S → Option o_S) (E : List Int32) : Prop := ∀ r L, WQ n kd lv w ids val r → o_F r 20 = nI L → L + E.length ≤ 60000 → ∃ r', F r = some r' ∧ AR r r' L E
theorem ec_cg {F G : o_S → Option o_S} {E : List Int32} (h : EC n kd lv dp w val e G E) (hFG : ∀ c, W1 n kd lv dp w val c → F c = G c) : EC n kd lv dp w val e F E := fun c hc hG hl => by rw [hFG c hc]; exact h c hc hG hl
theorem er_cg {F G : o_S → Option o_S} {E : List Int32} (h : ER n kd lv w ids val G E) (hFG : ∀ r, WQ n kd lv w ids val r → F r = G r) : ER n kd lv w ids val F E := fun r L hr h20 hl => by rw [hFG r hr]; exact h r L hr h20 hl
theorem ec_nil : EC n kd lv dp w val e (fun c => some c) [] := fun c _ hG _ => ⟨c, rfl, by rw [List.append_nil], fun _ _ => rfl, rfl, rfl, rfl, hG⟩
theorem er_nil : ER n kd lv w ids val (fun r => some r) [] := fun r L _ h20 _ => ⟨r, rfl, h20, fun _ _ => rfl, fun _ _ => rfl, fun _ _ => rfl, fun j hj => absurd hj (Nat.not_lt_zero _), RQ.rf r⟩
theorem ec_seq {F G : o_S → Option o_S} {E E' : List Int32} (h1 : EC n kd lv dp w val e F E) (h2 : EC n kd lv dp w val e G E') : EC n kd lv dp w val e (fun c => o_bv (F c) G) (E ++ E') := by
  intro c hc hG hl
  rw [List.length_append] at hl
  obtain ⟨c1, a1, a2⟩ := h1 c hc hG (by omega)
  obtain ⟨c2, b1, b2⟩ := h2 c1 (hc.ac a2) a2.2.2.2.2.2 (by rw [a2.1, List.length_append]; omega)
  exact ⟨c2, by show o_bv (F c) G = _; rw [a1, bv_s, b1], a2.tr b2⟩
theorem er_seq {F G : o_S → Option o_S} {E E' : List Int32} (h1 : ER n kd lv w ids val F E) (h2 : ER n kd lv w ids val G E') : ER n kd lv w ids val (fun r => o_bv (F r) G) (E ++ E') := by
  intro r L hr h20 hl
  rw [List.length_append] at hl
  obtain ⟨r1, a1, a2⟩ := h1 r L hr h20 (by omega)
  obtain ⟨r2, b1, b2⟩ := h2 r1 (L + E.length) (hr.ar a2) a2.1 (by omega)
  exact ⟨r2, by show o_bv (F r) G = _; rw [a1, bv_s, b1], a2.tr b2⟩
theorem ec_push (v : Int32) : EC n kd lv dp w val e (fun c => o_push c 8 v) [v] := by
  intro c hc hG hl
  obtain ⟨t, t1, t2, t3, t4, t5, t6⟩ := hG.push (r := 8) (by decide) v (by show _ < 60000; have : (o_R c 8).length + 1 ≤ 60000 := hl; omega)
  exact ⟨t, t1, by rw [t3, if_pos rfl], fun q hq => by rw [t3, if_neg hq], t4, t5, t6, t2⟩
theorem er_put (v : Int32) : ER n kd lv w ids val (fun r => f_X7_put N v r) [v] := by
  intro r L hr h20 hl
  have hl' : L + 1 ≤ 60000 := hl
  refine ⟨o_setF (o_setA r 13 L v) 20 (nI (L + 1)), ?_, by rw [sF_F, if_pos rfl]; rfl, fun f hf => by rw [sF_F, if_neg hf, sA_F], fun a ha => by rw [sF_A, sA_ne ha], fun j hj => by rw [sF_A, sA_nj (by omega)], fun j hj => ?_, ((RQ.rf r).A _ _ _).F _ _⟩
  · show f_X7_put N v r = _
    unfold f_X7_put
    rw [h20, st_ (show L < 60000 by omega) (by decide), do_e, sA_F, h20, ni_p1]
  · have : j = 0 := by have : j < 1 := hj; omega
    subst this
    rw [sF_A, Nat.add_zero, sA_eq]; rfl
/-- a step, then the rest -/
theorem ec_p1 {G : o_S → Option o_S} {E : List Int32} (v : Int32) (h : EC n kd lv dp w val e G E) : EC n kd lv dp w val e (fun c => o_bv (o_push c 8 v) G) (v :: E) := ec_seq (ec_push v) h
theorem er_p1 {G : o_S → Option o_S} {E : List Int32} (v : Int32) (h : ER n kd lv w ids val G E) : ER n kd lv w ids val (fun r => o_bv (f_X7_put N v r) G) (v :: E) := er_seq (er_put v) h
/-! numbers -/
def dg : Nat → Nat → List Int32
  | 0, _ => []
  | f + 1, v => if v ≤ 9 then [nI (v + 48)] else dg f (v / 10) ++ [nI (v % 10 + 48)]
theorem dg_len : ∀ f v, (dg f v).length ≤ f := by
  intro f
  induction f with
  | zero => intro v; exact Nat.le_refl _
  | succ f ih =>
    intro v; unfold dg; split
    · show 1 ≤ f + 1; omega
    · rw [List.length_append]; have := ih (v / 10); show _ + 1 ≤ _; omega
theorem dg_fuel : ∀ f g v, v < 10 ^ f → v < 10 ^ g → 0 < f → 0 < g → dg f v = dg g v := by
  intro f
  induction f with
  | zero => intro g v _ _ h; omega
  | succ f ih =>
    intro g v h1 h2 _ hg
    obtain ⟨g, rfl⟩ : ∃ x, g = x + 1 := ⟨g - 1, by omega⟩
    unfold dg
    by_cases q : v ≤ 9
    · rw [if_pos q, if_pos q]
    · rw [if_neg q, if_neg q]
      have hf : 0 < f := by
        rcases Nat.eq_zero_or_pos f with z | z
        · subst z; omega
        · exact z
      have hg' : 0 < g := by
        rcases Nat.eq_zero_or_pos g with z | z
        · subst z; omega
        · exact z
      rw [ih g (v / 10) (by rw [Nat.pow_succ] at h1; omega) (by rw [Nat.pow_succ] at h2; omega) hf hg']
def fd : Nat → Nat → List Int32
  | 0, v => [nI (v % 10 + 48)]
  | k + 1, v => nI (v / 10 ^ (k + 1) % 10 + 48) :: fd k v
theorem fd_snoc : ∀ k v, fd (k + 1) v = fd k (v / 10) ++ [nI (v % 10 + 48)] := by
  intro k
  induction k with
  | zero => intro v; rw [fd, fd, fd, Nat.zero_add, Nat.pow_one]; rfl
  | succ k ih =>
    intro v
    rw [fd, ih v, fd, List.cons_append, Nat.div_div_eq_div_mul, show 10 * 10 ^ (k + 1) = 10 ^ (k + 1 + 1) by rw [Nat.pow_succ 10 (k + 1), Nat.mul_comm]]
theorem fd_dg : ∀ k v, v < 10 ^ (k + 1) → (10 ^ k ≤ v ∨ k = 0) → fd k v = dg (k + 1) v := by
  intro k
  induction k with
  | zero => intro v h _; rw [fd, dg, if_pos (by omega), Nat.mod_eq_of_lt (by omega)]
  | succ k ih =>
    intro v h h2
    have h3 : 10 ^ (k + 1) ≤ v := by omega
    have h4 : ¬ v ≤ 9 := by have := Nat.pow_le_pow_right (show 0 < 10 by decide) (show 1 ≤ k + 1 by omega); omega
    rw [fd_snoc, dg, if_neg h4, ih (v / 10) (by rw [Nat.pow_succ] at h; omega) (Or.inl (by rw [Nat.pow_succ] at h3; omega))]
theorem er_num : ∀ d v, v < 10 ^ d → 0 < d → v < 2 ^ 31 → ER n kd lv w ids val (fun r => f_gN N d 0 (nI v) 0 0 r) (dg d v) := by
  intro d
  induction d with
  | zero => intro v _ h; omega
  | succ d ih =>
    intro v h1 _ h3
    have ep : (nI v - nI v / (10 : Int32) * (10 : Int32)) + (48 : Int32) = nI (v % 10 + 48) := by
      rw [show (10 : Int32) = nI 10 from rfl, pk_rem h3 (by decide) (by decide), show (48 : Int32) = nI 48 from rfl, nI_add]
    unfold dg
    by_cases q : v ≤ 9
    · rw [if_pos q]
      refine er_cg (er_put (N := N) (nI (v + 48))) (fun r _ => ?_)
      show f_X7_putNumber N (f_gN N d) (nI v) r = _
      unfold f_X7_putNumber
      rw [if_lle 9 9 rfl h3 (by decide), if_pos q, ep, Nat.mod_eq_of_lt (by omega)]
      cases f_X7_put N (nI (v + 48)) r <;> rfl
    · rw [if_neg q]
      have hd : 0 < d := by
        rcases Nat.eq_zero_or_pos d with z | z
        · subst z; omega
        · exact z
      refine er_cg (er_seq (ih (v / 10) (by rw [Nat.pow_succ] at h1; omega) hd (by omega)) (er_put (N := N) (nI (v % 10 + 48)))) (fun r _ => ?_)
      show f_X7_putNumber N (f_gN N d) (nI v) r = _
      unfold f_X7_putNumber
      rw [if_lle 9 9 rfl h3 (by decide), if_neg q, ep, show (10 : Int32) = nI 10 from rfl, pk_div h3 (by decide) (by decide)]
      cases f_gN N d 0 (nI (v / 10)) 0 0 r with
      | none => rfl
      | some r1 =>
        show o_bv (f_X7_put N (nI (v % 10 + 48)) r1) _ = f_X7_put N (nI (v % 10 + 48)) r1
        cases f_X7_put N (nI (v % 10 + 48)) r1 <;> rfl
theorem ec_fd : ∀ k v m, v < 2 ^ 31 → 10 ^ k < 2 ^ 31 → (10 ^ k ≤ v ∨ k = 0) → k + 1 < m → EC n kd lv dp w val e (fun c => f_X2_printNumber_L3 N m (nI v) (nI (10 ^ k)) c) (fd k v) := by
  intro k
  induction k with
  | zero =>
    intro v m hv hk h hm
    obtain ⟨m, rfl⟩ : ∃ x, m = x + 2 := ⟨m - 2, by omega⟩
    rw [fd]
    refine ec_cg (ec_push (nI (v % 10 + 48))) (fun c _ => ?_)
    have b17 : f_X2_printNumber_b17 N (f_X2_printNumber_L3 N (m + 1)) (nI v) (nI 1) c = o_push c 8 (nI (v % 10 + 48)) := by
      unfold f_X2_printNumber_b17
      rw [if_neg (by decide), pk_div hv (by decide) (by decide), Nat.div_one, show (10 : Int32) = nI 10 from rfl, pk_rem hv (by decide) (by decide), show (48 : Int32) = nI 48 from rfl, nI_add, Nat.add_comm 48, show nI 1 / nI 10 = nI 0 by rw [pk_div (by decide) (by decide) (by decide)]]
      cases o_push c 8 (nI (v % 10 + 48)) with
      | none => rfl
      | some c1 => show f_X2_printNumber_L3 N (m + 1) (nI v) (nI 0) c1 = _; rw [f_X2_printNumber_L3, if_pos (by decide)]
    show f_X2_printNumber_L3 N (m + 2) (nI v) (nI 1) c = _
    rw [f_X2_printNumber_L3, if_neg (by decide), b17, if_pos (show nI 1 = (1 : Int32) from rfl), ite_self]
  | succ k ih =>
    intro v m hv hk h hm
    obtain ⟨m, rfl⟩ : ∃ x, m = x + 1 := ⟨m - 1, by omega⟩
    have h2 : 10 ^ (k + 1) ≤ v := by omega
    have hk' : 10 ^ k < 2 ^ 31 := by rw [Nat.pow_succ] at hk; omega
    have hk0 : 0 < 10 ^ (k + 1) := Nat.pow_pos (by decide)
    have h3 : 10 ^ k ≤ v := by rw [Nat.pow_succ] at h2; omega
    rw [fd]
    refine ec_cg (ec_p1 (nI (v / 10 ^ (k + 1) % 10 + 48)) (ih v m hv hk' (Or.inl h3) (by omega))) (fun c _ => ?_)
    have ed : 10 ^ (k + 1) / 10 = 10 ^ k := by rw [Nat.pow_succ, Nat.mul_div_cancel _ (by decide)]
    have hvd : v / 10 ^ (k + 1) < 2 ^ 31 := Nat.lt_of_le_of_lt (Nat.div_le_self _ _) hv
    show f_X2_printNumber_L3 N (m + 1) (nI v) (nI (10 ^ (k + 1))) c = _
    rw [f_X2_printNumber_L3, if_lle 0 0 rfl hk (by decide), if_neg (by omega), if_ni_le hk hv, if_pos h2]
    unfold f_X2_printNumber_b17
    rw [if_lit 0 0 rfl hk (by decide), if_neg (by omega), pk_div hv hk0 hk, show (10 : Int32) = nI 10 from rfl, pk_rem hvd (by decide) (by decide), show (48 : Int32) = nI 48 from rfl, nI_add, Nat.add_comm 48, pk_div hk (by decide) (by decide), ed]
theorem ec_nm : ∀ k v m, v < 10 ^ (k + 1) → v < 2 ^ 31 → 10 ^ k < 2 ^ 31 → k + 1 < m → EC n kd lv dp w val e (fun c => f_X2_printNumber_L3 N m (nI v) (nI (10 ^ k)) c) (dg (k + 1) v) := by
  intro k
  induction k with
  | zero => intro v m h hv hk hm; rw [← fd_dg 0 v h (Or.inr rfl)]; exact ec_fd 0 v m hv hk (Or.inr rfl) hm
  | succ k ih =>
    intro v m h hv hk hm
    by_cases q : 10 ^ (k + 1) ≤ v
    · rw [← fd_dg (k + 1) v h (Or.inl q)]; exact ec_fd (k + 1) v m hv hk (Or.inl q) hm
    · obtain ⟨m, rfl⟩ : ∃ x, m = x + 1 := ⟨m - 1, by omega⟩
      have hk' : 10 ^ k < 2 ^ 31 := by rw [Nat.pow_succ] at hk; omega
      have hk1 : 1 ≤ 10 ^ k := Nat.pow_pos (by decide)
      have ed : 10 ^ (k + 1) / 10 = 10 ^ k := by rw [Nat.pow_succ, Nat.mul_div_cancel _ (by decide)]
      have e10 : 10 ^ (k + 1) = 10 ^ k * 10 := Nat.pow_succ 10 k
      rw [dg_fuel (k + 1 + 1) (k + 1) v h (by omega) (by omega) (by omega)]
      refine ec_cg (ih v m (by omega) hv hk' (by omega)) (fun c _ => ?_)
      show f_X2_printNumber_L3 N (m + 1) (nI v) (nI (10 ^ (k + 1))) c = _
      rw [f_X2_printNumber_L3, if_lle 0 0 rfl hk (by decide), if_neg (by omega), if_ni_le hk hv, if_neg q, if_lit 1 1 rfl hk (by decide), if_neg (by omega), show (10 : Int32) = nI 10 from rfl, pk_div hk (by decide) (by decide), ed]
theorem ec_num {v : Nat} (hN : 2000 ≤ N) (hv : v < 1000000000) : EC n kd lv dp w val e (fun c => f_X2_printNumber N (nI v) c) (dg 9 v) := by
  have := ec_nm (n := n) (kd := kd) (lv := lv) (dp := dp) (w := w) (val := val) (e := e) (N := N) 8 v N (by omega) (by omega) (by decide) (by omega)
  exact this
end
