/-! THE LAW'S LOOP -/
def QL (x : Option (Int32 × o_S)) : Prop := ∃ t, x = some (1, t) ∧ o_k t ≤ 500000
theorem ql_ite {c : Prop} [Decidable c] {a b : Option (Int32 × o_S)} (h1 : c → QL a) (h2 : ¬ c → QL b) : QL (if c then a else b) := by
  by_cases h : c
  · rw [if_pos h]; exact h1 h
  · rw [if_neg h]; exact h2 h
theorem ql_px {N e : Nat} {a : Option (Int32 × o_S)} {b : o_S → Option (Int32 × o_S)} {G : o_S → Option (Int32 × o_S)} (h : PX a b e) (hG : ∀ s, Inv (e + 1) s → QL (G s)) : QL (o_bi a fun k s1 => o_bi (b s1) fun v s2 => o_bi (f_X7_thrown N s2) fun x s3 => if x = k then (if k = 0 then (if (lg_cmp (o_O s3 (Int32.toNatClampNeg (0 : Int32))) (Int32.toInt64 v)) = 0 then G s3 else some ((0 : Int32), s3)) else G s3) else some ((0 : Int32), s3)) := by
  obtain ⟨k, s1, v, s2, h1, h2, h3, h4, h5⟩ := h
  rw [h1, bi_s, h2, bi_s]
  unfold f_X7_thrown
  rw [bi_s, h3, if_pos rfl]
  by_cases q : k = 0
  · rw [if_pos q, show Int32.toNatClampNeg (0 : Int32) = 0 from rfl, if_pos ((lg_cmp_eq _ _).mpr (h4 q))]; exact hG s2 h5
  · rw [if_neg q]; exact hG s2 h5
theorem ql_pq {e : Nat} {a : Option (Int32 × o_S)} {b : o_S → Option (Int32 × o_S)} {G : o_S → Option (Int32 × o_S)} (h : PQ a b e) (hG : ∀ s, Inv (e + 1) s → QL (G s)) : QL (o_bi a fun k s1 => o_bi (b s1) fun v s2 => if k = v then G s2 else some ((0 : Int32), s2)) := by
  obtain ⟨v, s1, s2, h1, h2, h3⟩ := h
  rw [h1, bi_s, h2, bi_s, if_pos rfl]; exact hG s2 h3
theorem ql_pw {e : Nat} {a : Option (Int64 × o_S)} {b : o_S → Option (Int64 × o_S)} {G : o_S → Option (Int32 × o_S)} (h : PW a b e) (hG : ∀ s, Inv (e + 1) s → QL (G s)) : QL (o_bi a fun k s1 => o_bi (b s1) fun v s2 => if (lg_cmp k v) = 0 then G s2 else some ((0 : Int32), s2)) := by
  obtain ⟨v, s1, s2, h1, h2, h3⟩ := h
  rw [h1, bi_s, h2, bi_s, if_pos ((lg_cmp_eq _ _).mpr rfl)]; exact hG s2 h3
theorem law_L {N Ls : Nat} {xs : Nat → Int32} (hN : 20000 ≤ N) (hLs : Ls ≤ 2048) : ∀ m j s, Inv j s → 4 * j ≤ Ls → Ls < 4 * j + 4 * m → QL (f_L_law_L23 N Ls xs m (nI (4 * j)) s) := by
  intro m
  induction m with
  | zero => intro j s _ h1 h2; omega
  | succ m ih =>
    intro j s hI h1 h2
    rw [f_L_law_L23]
    by_cases hend : Ls < 4 * j + 4
    · have : (Int32.ofNat Ls - (4 : Int32)) < nI (4 * j) := by
        show nI Ls - (4 : Int32) < nI (4 * j)
        rw [lt_t, Int32.toInt_sub, nI_toInt (by omega), nI_toInt (by omega), show (4 : Int32).toInt = 4 from rfl, bm32 (by omega) (by omega)]; omega
      rw [if_pos this]
      exact ⟨s, rfl, hI.1.k (by omega)⟩
    · have : ¬ (Int32.ofNat Ls - (4 : Int32)) < nI (4 * j) := by
        show ¬ nI Ls - (4 : Int32) < nI (4 * j)
        rw [lt_t, Int32.toInt_sub, nI_toInt (by omega), nI_toInt (by omega), show (4 : Int32).toInt = 4 from rfl, bm32 (by omega) (by omega)]; omega
      rw [if_neg this]
      have lx : ∀ i, i < Ls → ∀ f : Int32 → Option (Int32 × o_S), (if nI i < 0 ∨ Ls ≤ Int32.toNatClampNeg (nI i) then none else o_do (xs (Int32.toNatClampNeg (nI i))) f) = f (xs i) := by
        intro i hi f
        rw [if_neg (nI_in hi (by omega)), nI_clamp (by omega)]; rfl
      have x0 := lx (4 * j) (by omega)
      have x1 : ∀ f : Int32 → Option (Int32 × o_S), (if (nI (4 * j) + (1 : Int32)) < 0 ∨ Ls ≤ Int32.toNatClampNeg (nI (4 * j) + (1 : Int32)) then none else o_do (xs (Int32.toNatClampNeg (nI (4 * j) + (1 : Int32)))) f) = f (xs (4 * j + 1)) := by
        rw [show nI (4 * j) + (1 : Int32) = nI (4 * j + 1) from nI_1 _]; exact lx (4 * j + 1) (by omega)
      have x2 : ∀ f : Int32 → Option (Int32 × o_S), (if (nI (4 * j) + (2 : Int32)) < 0 ∨ Ls ≤ Int32.toNatClampNeg (nI (4 * j) + (2 : Int32)) then none else o_do (xs (Int32.toNatClampNeg (nI (4 * j) + (2 : Int32)))) f) = f (xs (4 * j + 2)) := by
        rw [show nI (4 * j) + (2 : Int32) = nI (4 * j + 2) from nI_add _ 2]; exact lx (4 * j + 2) (by omega)
      have x3 : ∀ f : Int32 → Option (Int32 × o_S), (if (nI (4 * j) + (3 : Int32)) < 0 ∨ Ls ≤ Int32.toNatClampNeg (nI (4 * j) + (3 : Int32)) then none else o_do (xs (Int32.toNatClampNeg (nI (4 * j) + (3 : Int32)))) f) = f (xs (4 * j + 3)) := by
        rw [show nI (4 * j) + (3 : Int32) = nI (4 * j + 3) from nI_add _ 3]; exact lx (4 * j + 3) (by omega)
      have go : ∀ t, Inv (j + 1) t → QL (f_L_law_L23 N Ls xs m (nI (4 * j) + 4) t) := by
        intro t ht
        rw [show nI (4 * j) + (4 : Int32) = nI (4 * (j + 1)) from (nI_add (4 * j) 4).trans (by congr 1)]
        exact ih (j + 1) t ht (by omega) (by omega)
      have hN2 : 2000 ≤ N := by omega
      rw [x0]
      generalize xs (4 * j) = op
      refine ql_ite (fun _ => ?_) (fun _ => ?_)
      · simp only [x1, x2]; exact ql_px (l_feed hN2 hI _) go
      refine ql_ite (fun _ => ?_) (fun _ => ?_)
      · simp only [x1]; exact ql_px (l_trim hI _) go
      refine ql_ite (fun _ => ?_) (fun _ => ?_)
      · exact ql_pq (l_length hI) go
      refine ql_ite (fun _ => ?_) (fun _ => ?_)
      · exact ql_pq (l_parse hN2 hI) go
      refine ql_ite (fun _ => ?_) (fun _ => ?_)
      · exact ql_pq (l_repairCount hI) go
      refine ql_ite (fun _ => ?_) (fun _ => ?_)
      · simp only [x1, x2]; exact ql_px (l_repair hI _ _) go
      refine ql_ite (fun _ => ?_) (fun _ => ?_)
      · exact ql_pq (l_nodeCount hI) go
      refine ql_ite (fun _ => ?_) (fun _ => ?_)
      · simp only [x1]; exact ql_px (l_kind hN2 hI _) go
      refine ql_ite (fun _ => ?_) (fun _ => ?_)
      · simp only [x1]; exact ql_px (l_parent hN2 hI _) go
      refine ql_ite (fun _ => ?_) (fun _ => ?_)
      · simp only [x1]; exact ql_px (l_childCount hN2 hI _) go
      refine ql_ite (fun _ => ?_) (fun _ => ?_)
      · simp only [x1, x2]; exact ql_px (l_child hN2 hI _ _) go
      refine ql_ite (fun _ => ?_) (fun _ => ?_)
      · simp only [x1]; exact ql_px (l_line hN2 hI _) go
      refine ql_ite (fun _ => ?_) (fun _ => ?_)
      · simp only [x1]; exact ql_px (l_column hN2 hI _) go
      refine ql_ite (fun _ => ?_) (fun _ => ?_)
      · simp only [x1]; exact ql_px (l_value hN2 hI _) go
      refine ql_ite (fun _ => ?_) (fun _ => ?_)
      · simp only [x1, x2]; exact ql_px (l_letter hN2 hI _ _) go
      refine ql_ite (fun _ => ?_) (fun _ => ?_)
      · simp only [x1]; exact ql_px (l_depth hN2 hI _) go
      refine ql_ite (fun _ => ?_) (fun _ => ?_)
      · simp only [x1, x2, x3]; exact ql_pq (l_find hN2 hI _ _) go
      refine ql_ite (fun _ => ?_) (fun _ => ?_)
      · exact ql_pq (l_wordCount hN2 hI) go
      refine ql_ite (fun _ => ?_) (fun _ => ?_)
      · simp only [x1]; exact ql_px (l_remove hN hI _) go
      refine ql_ite (fun _ => ?_) (fun _ => ?_)
      · simp only [x1, x2, x3]; exact ql_px (l_move hN hI _ _ _) go
      refine ql_ite (fun _ => ?_) (fun _ => ?_)
      · simp only [x1, x2, x3]; exact ql_px (l_rename hN2 hI _ _) go
      refine ql_ite (fun _ => ?_) (fun _ => ?_)
      · simp only [x1]
        by_cases q : xs (4 * j + 1) = 0
        · simp only [if_pos q]; exact ql_pq (l_write hN hI (Or.inl rfl)) go
        · simp only [if_neg q]; exact ql_pq (l_write hN hI (Or.inr rfl)) go
      refine ql_ite (fun _ => ?_) (fun _ => ?_)
      · simp only [x1]; exact ql_px (l_written hI _) go
      refine ql_ite (fun _ => ?_) (fun _ => ?_)
      · exact ql_pw (l_digest hN2 hI) go
      exact go s ⟨hI.1.up (by omega), hI.2⟩
theorem owed_all {L : Nat} {xs : Nat → Int32} (hL : L ≤ 2048) : o_Owed L xs := by
  obtain ⟨σ1, σ2, σ3, a1, a2, a3, a4, a5, a6⟩ := first_ (N := 100000) (by decide)
  obtain ⟨σ4, b1, b2⟩ := law_L (N := 100000) (Ls := L) (xs := xs) (by decide) hL 100000 0 _ a6 (by omega) (by omega)
  exact ⟨100000, σ1, σ2, σ3, σ4, a1, a2, a3, a4, a5, b1, b2⟩
