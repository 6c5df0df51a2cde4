/-- what the law's end must be, and what is known of its script -/
def o_EL (G : o_G) (b Ls : Nat) (xs : Nat → Int32) (X : o_X) : Prop := x_Q X = lw_Z (x_b X) #[Value.ref b] (x_s X) ∧ x_R X = room_1 ∧ x_a X = #[Value.ref b] ∧ g_n0 G = (x_s X).heap.size ∧ b < (x_s X).heap.size ∧ va_X b Ls xs (x_s X) (x_s X).heap
section
variable {G : o_G} {own : String} {cc : ByteArray} {rt : Option FieldType} {nL kd : Nat} {b Ls : Nat} {xs : Nat → Int32} {k' : Nat} {σ : o_S} {pc : Nat} {L : List (Nat × Value)} {st : List Value}
theorem zl_slen (hd : decode cc pc = .ok (.arraylength, 1)) (k : o_Z G own cc rt nL kd (o_EL G b Ls xs) k' σ (pc + 1) L (.int (Int32.ofNat Ls) :: st)) : o_Z G own cc rt nL kd (o_EL G b Ls xs) k' σ pc L (.ref b :: st) :=
  ⟨k.1, fun X C E H locs ls cells slots hP hS hl h1 h2 => va_slen C.1 C.2.1 E.2.2.2.2.2 E.2.2.2.2.1 (by show ¬ g_n0 G ≤ b; rw [E.2.2.2.1]; exact Nat.not_le.mpr E.2.2.2.2.1) hS hd (k.2 X C E H locs ls cells slots hP hS hl h1 h2)⟩
theorem zl_sld {i : Int32} (hin : ¬ (i < 0 ∨ Ls ≤ i.toNatClampNeg)) (hd : decode cc pc = .ok (.iaload, 1)) (k : o_Z G own cc rt nL kd (o_EL G b Ls xs) k' σ (pc + 1) L (.int (xs i.toNatClampNeg) :: st)) : o_Z G own cc rt nL kd (o_EL G b Ls xs) k' σ pc L (.int i :: .ref b :: st) :=
  ⟨k.1, fun X C E H locs ls cells slots hP hS hl h1 h2 => va_sld C.1 C.2.1 E.2.2.2.2.2 E.2.2.2.2.1 (by show ¬ g_n0 G ≤ b; rw [E.2.2.2.1]; exact Nat.not_le.mpr E.2.2.2.2.1) hS hin hd (k.2 X C E H locs ls cells slots hP hS hl h1 h2)⟩
theorem zl_ret (hk : k' = o_k σ) (hd : decode code pc = .ok (.ireturn, 1)) : o_Z G own code ret nL kd (o_EL G b Ls xs) k' σ pc L [.int 1] := by
  subst hk
  refine ⟨Nat.le_refl _, fun X C E H locs ls cells slots hP hS hl h1 h2 => ?_⟩
  obtain ⟨p, e, R, s, m, a, bl, me, c, Q⟩ := X
  obtain ⟨hQ, hR, ha, hn, hb, hX⟩ := E
  dsimp only [x_Q, x_R, x_a, x_s, x_b] at hQ hR ha hn hb hX h1 h2 hS
  subst hR; subst ha; subst hQ
  refine va_forget (fun q hq => ?_) ?_
  · have := hS.2.2 q hq
    have this : g_n0 G ≤ q.base := this
    rw [hn] at this; exact this
  · exact W.widen (Nat.le_trans (Nat.le_add_right _ _) h1) (Nat.le_trans (Nat.le_add_right _ _) h2) (lw_ret C.1 C.2.1 C.2.2.1 C.2.2.2.2.2.2.1 hd)
theorem o_tsw24 {x : Int32} (h : ∀ k : Fin 24, ¬ x = Int32.ofNat k.val) : x.toInt < 0 ∨ 23 < x.toInt := by
  rcases Int.lt_or_le x.toInt 0 with h0 | h0
  · exact Or.inl h0
  · rcases Int.lt_or_le 23 x.toInt with h1 | h1
    · exact Or.inr h1
    · have hk := h ⟨x.toInt.toNat, by omega⟩
      exact absurd (Int32.toInt_inj.mp (by
        show x.toInt = (nI x.toInt.toNat).toInt
        rw [nI_toInt (by omega)]; omega)) hk
end
theorem o_n01 {s σ' : o_S} (h : some ((0 : Int32), s) = some ((1 : Int32), σ')) : False := absurd (show (0 : Int32) = 1 from congrArg Prod.fst (Option.some.inj h)) (by decide)
