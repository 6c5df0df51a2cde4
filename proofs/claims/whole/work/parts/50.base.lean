/-! LEVEL 2: plain functions. First the state's reads behind its writes -/
theorem sF_F (s : o_S) (k : Nat) (v : Int32) (j : Nat) : o_F (o_setF s k v) j = if j = k then v else o_F s j := rfl
theorem sF_A (s : o_S) (k : Nat) (v : Int32) : o_A (o_setF s k v) = o_A s := rfl
theorem sF_R (s : o_S) (k : Nat) (v : Int32) : o_R (o_setF s k v) = o_R s := rfl
theorem sF_C (s : o_S) (k : Nat) (v : Int32) : o_cap (o_setF s k v) = o_cap s := rfl
theorem sF_O (s : o_S) (k : Nat) (v : Int32) : o_O (o_setF s k v) = o_O s := rfl
theorem sF_k (s : o_S) (k : Nat) (v : Int32) : o_k (o_setF s k v) = o_k s := rfl
theorem sA_F (s : o_S) (a i : Nat) (v : Int32) : o_F (o_setA s a i v) = o_F s := rfl
theorem sA_A (s : o_S) (a i : Nat) (v : Int32) (b j : Nat) : o_A (o_setA s a i v) b j = if b = a then (if j = i then v else o_A s b j) else o_A s b j := by
  unfold o_A o_setA upd; dsimp only; split <;> rfl
theorem sA_R (s : o_S) (a i : Nat) (v : Int32) : o_R (o_setA s a i v) = o_R s := rfl
theorem sA_C (s : o_S) (a i : Nat) (v : Int32) : o_cap (o_setA s a i v) = o_cap s := rfl
theorem sA_O (s : o_S) (a i : Nat) (v : Int32) : o_O (o_setA s a i v) = o_O s := rfl
theorem sA_k (s : o_S) (a i : Nat) (v : Int32) : o_k (o_setA s a i v) = o_k s := rfl
theorem sR_F (s : o_S) (r c : Nat) (l : List Int32) : o_F (o_setR s r c l) = o_F s := rfl
theorem sR_A (s : o_S) (r c : Nat) (l : List Int32) : o_A (o_setR s r c l) = o_A s := rfl
theorem sR_R (s : o_S) (r c : Nat) (l : List Int32) (q : Nat) : o_R (o_setR s r c l) q = if q = r then l else o_R s q := o_R_setR c l q
theorem sR_C (s : o_S) (r c : Nat) (l : List Int32) (q : Nat) : o_cap (o_setR s r c l) q = if q = r then c else o_cap s q := o_cap_setR c l q
theorem sR_O (s : o_S) (r c : Nat) (l : List Int32) : o_O (o_setR s r c l) = o_O s := rfl
theorem sR_k (s : o_S) (r c : Nat) (l : List Int32) : o_k (o_setR s r c l) = o_k s := rfl
theorem sO_F (s : o_S) (i : Nat) (v : Int64) : o_F (o_setO s i v) = o_F s := rfl
theorem sO_A (s : o_S) (i : Nat) (v : Int64) : o_A (o_setO s i v) = o_A s := rfl
theorem sO_R (s : o_S) (i : Nat) (v : Int64) : o_R (o_setO s i v) = o_R s := rfl
theorem sO_C (s : o_S) (i : Nat) (v : Int64) : o_cap (o_setO s i v) = o_cap s := rfl
theorem sO_k (s : o_S) (i : Nat) (v : Int64) : o_k (o_setO s i v) = o_k s := rfl
theorem sO_O (s : o_S) (i : Nat) (v : Int64) (j : Nat) : o_O (o_setO s i v) j = if j = i then v else o_O s j := rfl
theorem sK_F (s : o_S) (n : Nat) : o_F (o_addK s n) = o_F s := rfl
theorem sK_A (s : o_S) (n : Nat) : o_A (o_addK s n) = o_A s := rfl
theorem sK_R (s : o_S) (n : Nat) : o_R (o_addK s n) = o_R s := rfl
theorem sK_C (s : o_S) (n : Nat) : o_cap (o_addK s n) = o_cap s := rfl
theorem sK_O (s : o_S) (n : Nat) : o_O (o_addK s n) = o_O s := rfl
theorem sK_k (s : o_S) (n : Nat) : o_k (o_addK s n) = o_k s + n := rfl
/-! the printed functions' small words -/
theorem do_e {α β : Type} (a : α) (f : α → Option β) : o_do a f = f a := rfl
theorem bi_s {α β : Type} (v : α) (s : o_S) (f : α → o_S → Option β) : o_bi (some (v, s)) f = f v s := rfl
theorem bv_s {β : Type} (s : o_S) (f : o_S → Option β) : o_bv (some s) f = f s := rfl
theorem bx_l {α β : Type} (e : Nat) (s : o_S) (fe : Nat → o_S → Option β) (f : α → o_S → Option β) : o_bx (some (.inl e, s)) fe f = fe e s := rfl
theorem bx_r {α β : Type} (v : α) (s : o_S) (fe : Nat → o_S → Option β) (f : α → o_S → Option β) : o_bx (some (.inr v, s)) fe f = f v s := rfl
theorem bi_e {α β : Type} {a : Option (α × o_S)} {v : α} {s : o_S} (h : a = some (v, s)) (f : α → o_S → Option β) : o_bi a f = f v s := by rw [h]; rfl
theorem bv_e {β : Type} {a : Option o_S} {s : o_S} (h : a = some s) (f : o_S → Option β) : o_bv a f = f s := by rw [h]; rfl
theorem ite_p {α : Type} {c : Prop} [Decidable c] (h : c) (a b : α) : (if c then a else b) = a := if_pos h
theorem ite_n {α : Type} {c : Prop} [Decidable c] (h : ¬ c) (a b : α) : (if c then a else b) = b := if_neg h
/-! numbers -/
theorem ni_lit (n : Nat) : (OfNat.ofNat n : Int32) = nI n := rfl
theorem ni7 (i f : Nat) : nI i * (7 : Int32) + nI f = nI (7 * i + f) := by
  rw [show (7 : Int32) = nI 7 from rfl, pk_mul, nI_add, Nat.mul_comm]
theorem ni_lt {a b : Nat} (ha : a < 2 ^ 31) (hb : b < 2 ^ 31) : (nI a < nI b) = (a < b) := propext (nI_ltI ha hb)
theorem ni_le {a b : Nat} (ha : a < 2 ^ 31) (hb : b < 2 ^ 31) : (nI a ≤ nI b) = (a ≤ b) := propext (nI_leI ha hb)
theorem ni_eq {a b : Nat} (ha : a < 2 ^ 31) (hb : b < 2 ^ 31) : (nI a = nI b) = (a = b) := propext (nI_eq ha hb)
theorem ni_in {i n : Nat} (h : i < n) (hn : n < 2 ^ 31) : ¬ (nI i < 0 ∨ n ≤ (nI i).toNatClampNeg) := nI_in h hn
/-- an Int32 is negative, or a number -/
theorem ni_cases (x : Int32) : x < 0 ∨ ∃ n : Nat, n < 2 ^ 31 ∧ x = nI n := by
  by_cases h : x < 0
  · exact Or.inl h
  · exact Or.inr (nI_of h)
theorem at_in {s : o_S} {r i : Nat} (h : i < (o_R s r).length) (hn : (o_R s r).length < 2 ^ 31) : o_at s r (nI i) = (o_R s r).getD i 0 := by
  unfold o_at
  rw [if_neg (nI_pos (by omega)), if_neg (fun q => absurd ((nI_leI hn (by omega)).mp q) (by omega)), nI_clamp (by omega)]
theorem at_out {s : o_S} {r i : Nat} (h : (o_R s r).length ≤ i) (hn : i < 2 ^ 31) : o_at s r (nI i) = -1 := by
  unfold o_at
  rw [if_neg (nI_pos (by omega)), if_pos ((nI_leI (by omega) hn).mpr h)]
theorem at_neg {s : o_S} {r : Nat} {x : Int32} (h : x < 0) : o_at s r x = -1 := by
  unfold o_at; rw [if_pos h]
theorem put_in {s : o_S} {r i : Nat} {v : Int32} (h : i < (o_R s r).length) (hn : (o_R s r).length < 2 ^ 31) : o_put s r (nI i) v = o_setR s r (o_cap s r) ((o_R s r).set i v) := by
  unfold o_put
  rw [if_neg (nI_pos (by omega)), if_neg (fun q => absurd ((nI_leI hn (by omega)).mp q) (by omega)), nI_clamp (by omega)]
theorem cut_in {s : o_S} {r i : Nat} (h : i ≤ (o_R s r).length) (hn : (o_R s r).length < 2 ^ 31) : ∃ c, o_cut s r (nI i) = o_setR s r c ((o_R s r).take i) ∧ c = o_cap s r := by
  refine ⟨_, ?_, rfl⟩
  unfold o_cut
  rw [if_neg (nI_pos (by omega))]
  by_cases e : i = (o_R s r).length
  · subst e
    rw [if_pos (nI_le (Nat.le_refl _) hn), List.take_of_length_le (Nat.le_refl _)]
    obtain ⟨a, b, c, d, e⟩ := s
    unfold o_setR o_cap o_R
    refine Prod.ext rfl (Prod.ext rfl (Prod.ext ?_ rfl))
    funext q
    dsimp only
    split
    · next h => rw [h]
    · rfl
  · rw [if_neg (fun q => absurd ((nI_leI hn (by omega)).mp q) (by omega)), nI_clamp (by omega)]
theorem if_ni_eq {α : Type} {a b : Nat} (ha : a < 2 ^ 31) (hb : b < 2 ^ 31) (x y : α) : (if nI a = nI b then x else y) = if a = b then x else y := by
  by_cases h : a = b
  · rw [if_pos h, if_pos ((nI_eq ha hb).mpr h)]
  · rw [if_neg h, if_neg (fun q => h ((nI_eq ha hb).mp q))]
theorem if_ni_le {α : Type} {a b : Nat} (ha : a < 2 ^ 31) (hb : b < 2 ^ 31) (x y : α) : (if nI a ≤ nI b then x else y) = if a ≤ b then x else y := by
  by_cases h : a ≤ b
  · rw [if_pos h, if_pos ((nI_leI ha hb).mpr h)]
  · rw [if_neg h, if_neg (fun q => h ((nI_leI ha hb).mp q))]
theorem if_ni_lt {α : Type} {a b : Nat} (ha : a < 2 ^ 31) (hb : b < 2 ^ 31) (x y : α) : (if nI a < nI b then x else y) = if a < b then x else y := by
  by_cases h : a < b
  · rw [if_pos h, if_pos ((nI_ltI ha hb).mpr h)]
  · rw [if_neg h, if_neg (fun q => h ((nI_ltI ha hb).mp q))]
/-- a guarded load, a guarded store -/
theorem ld_ {α : Type} {s : o_S} {a n i : Nat} (h : i < n) (hn : n < 2 ^ 31) (f : Int32 → Option α) : (if nI i < 0 ∨ n ≤ (nI i).toNatClampNeg then none else o_do (o_A s a (nI i).toNatClampNeg) f) = f (o_A s a i) := by
  rw [if_neg (nI_in h hn), nI_clamp (by omega)]; rfl
theorem st_ {α : Type} {s : o_S} {a n i : Nat} {v : Int32} (h : i < n) (hn : n < 2 ^ 31) (f : o_S → Option α) : (if nI i < 0 ∨ n ≤ (nI i).toNatClampNeg then none else o_do (o_setA s a (nI i).toNatClampNeg v) f) = f (o_setA s a i v) := by
  rw [if_neg (nI_in h hn), nI_clamp (by omega)]; rfl
theorem if_lit {α : Type} {a : Nat} (l : Int32) (c : Nat) (hl : l = nI c) (ha : a < 2 ^ 31) (hc : c < 2 ^ 31) (x y : α) : (if nI a = l then x else y) = if a = c then x else y := by
  subst hl; exact if_ni_eq ha hc x y
theorem if_lle {α : Type} {a : Nat} (l : Int32) (c : Nat) (hl : l = nI c) (ha : a < 2 ^ 31) (hc : c < 2 ^ 31) (x y : α) : (if nI a ≤ l then x else y) = if a ≤ c then x else y := by
  subst hl; exact if_ni_le ha hc x y
theorem if_llt {α : Type} {a : Nat} (l : Int32) (c : Nat) (hl : l = nI c) (ha : a < 2 ^ 31) (hc : c < 2 ^ 31) (x y : α) : (if nI a < l then x else y) = if a < c then x else y := by
  subst hl; exact if_ni_lt ha hc x y
