/-! THE ROWS: what each method of a row does to its list -/
def o_at (σ : o_S) (r : Nat) (i : Int32) : Int32 := if i < 0 then -1 else if nI (o_R σ r).length ≤ i then -1 else (o_R σ r).getD i.toNatClampNeg 0
def o_put (σ : o_S) (r : Nat) (i v : Int32) : o_S := if i < 0 then σ else if nI (o_R σ r).length ≤ i then σ else o_setR σ r (o_cap σ r) ((o_R σ r).set i.toNatClampNeg v)
def o_cut (σ : o_S) (r : Nat) (i : Int32) : o_S := if i < 0 then σ else if nI (o_R σ r).length ≤ i then σ else o_setR σ r (o_cap σ r) ((o_R σ r).take i.toNatClampNeg)
def o_grow (σ : o_S) (r : Nat) : o_S := if (o_R σ r).length < o_cap σ r then σ else o_addK (o_setR σ r (2 * (o_R σ r).length) (o_R σ r)) (o_R σ r).length
def o_app (σ : o_S) (r : Nat) (v : Int32) : o_S := o_setR σ r (o_cap σ r) (o_R σ r ++ [v])
def o_push (σ : o_S) (r : Nat) (v : Int32) : Option o_S := if 65536 ≤ (o_R σ r).length then none else some (o_app (o_grow σ r) r v)
def o_revL (r : Nat) : Nat → Int32 → Int32 → o_S → Option o_S
  | 0, _, _, _ => none
  | n + 1, i, j, σ => if j ≤ i then some σ else o_revL r n (i + 1) (j + -1) (o_put (o_put σ r i (o_at σ r j)) r j (o_at σ r i))
def o_turn (N r : Nat) (a b c : Int32) (σ : o_S) : Option o_S := (o_revL r N a (b - 1) σ).bind fun σ1 => (o_revL r N b (c - 1) σ1).bind fun σ2 => o_revL r N a (c - 1) σ2
theorem o_set_self {α : Type} {l : List α} {i : Nat} {a : α} (h : l[i]? = some a) : l.set i a = l := by
  obtain ⟨hi, rfl⟩ := List.getElem?_eq_some_iff.mp h
  exact List.set_getElem_self hi
theorem o_r9 {r : Nat} (hr : r < 9) : r = 0 ∨ r = 1 ∨ r = 2 ∨ r = 3 ∨ r = 4 ∨ r = 5 ∨ r = 6 ∨ r = 7 ∨ r = 8 := by omega
section
variable {G : o_G} {ra : Nat → Nat} {gf : Nat → Nat → Int32} {σ : o_S} {r : Nat}
theorem o_W_obj (hr : r < 9) : (o_W G ra gf σ)[6 + r]? = some (g_ad G (7 + r), .inr (4, [.ref (ra r), .int (nI (o_R σ r).length)])) := by
  rcases o_r9 hr with rfl | rfl | rfl | rfl | rfl | rfl | rfl | rfl | rfl <;> rfl
theorem o_W_arr (hr : r < 9) : (o_W G ra gf σ)[15 + r]? = some (ra r, .inl (g_I G, o_cap σ r, .inl (gf r))) := by
  rcases o_r9 hr with rfl | rfl | rfl | rfl | rfl | rfl | rfl | rfl | rfl <;> rfl
theorem o_W_setc (hr : r < 9) (xs : List Int32) : (o_W G ra gf σ).set (6 + r) (g_ad G (7 + r), .inr (4, [.ref (ra r), .int (nI xs.length)])) = o_W G ra gf (o_setR σ r (o_cap σ r) xs) := by
  rcases o_r9 hr with rfl | rfl | rfl | rfl | rfl | rfl | rfl | rfl | rfl <;> rfl
theorem o_W_len (hr : r < 9) {xs : List Int32} (h : xs.length = (o_R σ r).length) : o_W G ra gf (o_setR σ r (o_cap σ r) xs) = o_W G ra gf σ := by
  rw [← o_W_setc hr xs, h]
  exact o_set_self (o_W_obj hr)
def o_gfu (gf : Nat → Nat → Int32) (r : Nat) (f : Nat → Int32) : Nat → Nat → Int32 := fun q => if q = r then f else gf q
theorem o_W_seta (hr : r < 9) (f : Nat → Int32) : (o_W G ra gf σ).set (15 + r) (ra r, .inl (g_I G, o_cap σ r, .inl f)) = o_W G ra (o_gfu gf r f) σ := by
  rcases o_r9 hr with rfl | rfl | rfl | rfl | rfl | rfl | rfl | rfl | rfl <;> rfl
theorem rv_row (hr : r < 9) : o_RV G (g_ad G (7 + r)) RX4 := fun _ _ _ => ⟨6 + r, 4, _, _, o_W_obj hr, rfl, rfl⟩
theorem o_R_setR (cap : Nat) (xs : List Int32) (q : Nat) : o_R (o_setR σ r cap xs) q = if q = r then xs else o_R σ q := by
  unfold o_R o_setR; dsimp only; split <;> rfl
theorem o_cap_setR (cap : Nat) (xs : List Int32) (q : Nat) : o_cap (o_setR σ r cap xs) q = if q = r then cap else o_cap σ q := by
  unfold o_cap o_setR; dsimp only; split <;> rfl
/-- a row's list is cut or changed: the rows' arrays still hold the rows -/
theorem o_RW.set {f : Nat → Int32} {cap : Nat} {xs : List Int32} (h : o_RW gf σ) (h1 : xs.length ≤ cap) (h2 : 64 ≤ cap) (h3 : cap ≤ 131072) (h4 : ∀ i v, xs[i]? = some v → f i = v) : o_RW (o_gfu gf r f) (o_setR σ r cap xs) := by
  intro q hq
  rw [o_R_setR, o_cap_setR]
  unfold o_gfu
  by_cases e : q = r
  · simp only [e, if_true]; exact ⟨h1, h2, h3, h4⟩
  · simp only [e, if_false]; exact h q hq
theorem o_gfu_self : o_gfu gf r (gf r) = gf := by
  funext q; unfold o_gfu; split
  · next h => rw [h]
  · rfl
theorem o_ix {x : Int32} {n : Nat} (h0 : ¬ x < 0) (h : ¬ nI n ≤ x) (hn : n < 2 ^ 31) : x.toNatClampNeg < n ∧ x = nI x.toNatClampNeg ∧ ¬ (x < 0 ∨ n ≤ x.toNatClampNeg) := by
  obtain ⟨j, hj, rfl⟩ := nI_of h0
  have hjn : j < n := Nat.not_le.mp fun q => h (nI_le q hj)
  rw [nI_clamp hj]
  exact ⟨hjn, rfl, fun q => q.elim h0 (fun q => absurd q (Nat.not_le.mpr hjn))⟩
end
section
variable {G : o_G} {own : String} {cc : ByteArray} {ret : Option FieldType} {nL kd : Nat} {En : o_X → Prop} {k' : Nat} {σ : o_S} {pc r : Nat} {L : List (Nat × Value)} {st : List Value}
/-- the row's count -/
theorem zr_count (hr : r < 9) {i : Nat} (hw : Cond.fieldLink own i "OffsideParser$Row" "count" "I" ∈ o_WS) (hd : decode cc pc = .ok (.getfield i, 3)) (k : o_Z G own cc ret nL kd En k' σ (pc + 3) L (.int (nI (o_R σ r).length) :: st)) : o_Z G own cc ret nL kd En k' σ pc L (.ref (g_ad G (7 + r)) :: st) :=
  ⟨k.1, fun X C E H locs ls cells slots hP hS hl h1 h2 => by
    obtain ⟨ra, gf, hrw, hp, hq⟩ := id hP
    exact va_get (D := g_D G) (ci := 4) (C := RX4) (T := TX4) (N := 2) C.1 C.2.1 C.2.2.2.2.2.1 oi_X4 C.2.2.2.2.1 C.2.2.2.2.2.2.2.1.1 hp (6 + r) (o_W_obj hr) rfl 1 (by decide) (C.2.2.2.2.2.1 _ hw) (fun _ h => h) rfl hd (k.2 X C E H locs ls cells slots hP hS hl h1 h2)⟩
/-- cells[i], where i is in local 1 -/
theorem zr_ld (hr : r < 9) {i : Nat} {x : Int32} (h0 : ¬ x < 0) (hx : ¬ nI (o_R σ r).length ≤ x) (q : Nat) (hql : L[q]? = some (1, .int x)) (hw : Cond.fieldLink own i "OffsideParser$Row" "cells" "[I" ∈ o_WS) (hd : decode cc pc = .ok (.getfield i, 3)) (hd2 : decode cc (pc + 3) = .ok (.iload_n 1, 1)) (hd3 : decode cc (pc + 4) = .ok (.iaload, 1)) (k : o_Z G own cc ret nL kd En k' σ (pc + 5) L (.int ((o_R σ r).getD x.toNatClampNeg 0) :: st)) : o_Z G own cc ret nL kd En k' σ pc L (.ref (g_ad G (7 + r)) :: st) :=
  ⟨k.1, fun X C E H locs ls cells slots hP hS hl h1 h2 => by
    obtain ⟨ra, gf, hrw, hp, hq⟩ := id hP
    obtain ⟨w1, w2, w3, w4⟩ := hrw r hr
    obtain ⟨hlt, ex, -⟩ := o_ix h0 hx (by omega)
    refine va_get (D := g_D G) (ci := 4) (C := RX4) (T := TX4) (N := 2) C.1 C.2.1 C.2.2.2.2.2.1 oi_X4 C.2.2.2.2.1 C.2.2.2.2.2.2.2.1.1 hp (6 + r) (o_W_obj hr) rfl 0 (by decide) (C.2.2.2.2.2.1 _ hw) (fun _ h => h) rfl hd ?_
    refine lv_iload_n C.1 C.2.1 hd2 rfl (lv_at hl q hql) ?_
    refine va_iald C.1 C.2.1 C.2.2.2.2.2.2.2.1.1 hp (15 + r) 0 (o_W_arr hr) rfl (fun z => z.elim h0 (fun z => by omega)) hd3 ?_
    have e : gf r x.toNatClampNeg = (o_R σ r).getD x.toNatClampNeg 0 := by
      rw [List.getD_eq_getElem?_getD, List.getElem?_eq_getElem hlt]
      exact w4 _ _ (List.getElem?_eq_getElem hlt)
    rw [e]
    exact k.2 X C E H locs ls cells slots hP hS hl h1 h2⟩
/-- cells[i] = v, where i is in local 1, v in local 2 -/
theorem zr_st (hr : r < 9) {i : Nat} {x v : Int32} (h0 : ¬ x < 0) (hx : ¬ nI (o_R σ r).length ≤ x) (q : Nat) (hql : L[q]? = some (1, .int x)) (q2 : Nat) (hq2 : L[q2]? = some (2, .int v)) (hw : Cond.fieldLink own i "OffsideParser$Row" "cells" "[I" ∈ o_WS) (hd : decode cc pc = .ok (.getfield i, 3)) (hd2 : decode cc (pc + 3) = .ok (.iload_n 1, 1)) (hd3 : decode cc (pc + 4) = .ok (.iload_n 2, 1)) (hd4 : decode cc (pc + 5) = .ok (.iastore, 1)) (k : o_Z G own cc ret nL kd En k' (o_setR σ r (o_cap σ r) ((o_R σ r).set x.toNatClampNeg v)) (pc + 6) L st) : o_Z G own cc ret nL kd En k' σ pc L (.ref (g_ad G (7 + r)) :: st) :=
  ⟨k.1, fun X C E H locs ls cells slots hP hS hl h1 h2 => by
    obtain ⟨ra, gf, hrw, hp, hq⟩ := hP
    obtain ⟨w1, w2, w3, w4⟩ := hrw r hr
    obtain ⟨hlt, ex, -⟩ := o_ix h0 hx (by omega)
    refine va_get (D := g_D G) (ci := 4) (C := RX4) (T := TX4) (N := 2) C.1 C.2.1 C.2.2.2.2.2.1 oi_X4 C.2.2.2.2.1 C.2.2.2.2.2.2.2.1.1 hp (6 + r) (o_W_obj hr) rfl 0 (by decide) (C.2.2.2.2.2.1 _ hw) (fun _ h => h) rfl hd ?_
    refine lv_iload_n C.1 C.2.1 hd2 rfl (lv_at hl q hql) ?_
    refine lv_iload_n C.1 C.2.1 hd3 rfl (lv_at hl q2 hq2) ?_
    refine va_iast C.1 C.2.1 C.2.2.2.2.2.2.2.1.1 hp hq hS (15 + r) 0 (o_W_arr hr) rfl (fun z => z.elim h0 (fun z => by omega)) hd4 (fun H1 locs1 a b c => ?_)
    rw [o_W_seta hr, ← o_W_len hr (List.length_set (as := o_R σ r) (i := x.toNatClampNeg) (a := v))] at a b
    refine k.2 X C E H1 locs1 ls cells slots ⟨ra, _, hrw.set (by rw [List.length_set]; exact w1) w2 w3 (fun j y hy => ?_), a, b⟩ c hl h1 h2
    unfold upd
    rw [List.getElem?_set] at hy
    by_cases e : j = x.toNatClampNeg
    · subst e; simp only [if_true, hlt] at hy ⊢; exact Option.some.inj hy
    · rw [if_neg e]; rw [if_neg (fun z => e z.symm)] at hy; exact w4 _ _ hy⟩
/-- count = n: the row is cut to its beginning -/
theorem zr_cut (hr : r < 9) {i : Nat} {x : Int32} (h0 : ¬ x < 0) (hx : ¬ nI (o_R σ r).length ≤ x) (hw : Cond.fieldLink own i "OffsideParser$Row" "count" "I" ∈ o_WS) (hd : decode cc pc = .ok (.putfield i, 3)) (k : o_Z G own cc ret nL kd En k' (o_setR σ r (o_cap σ r) ((o_R σ r).take x.toNatClampNeg)) (pc + 3) L st) : o_Z G own cc ret nL kd En k' σ pc L (.int x :: .ref (g_ad G (7 + r)) :: st) :=
  ⟨k.1, fun X C E H locs ls cells slots hP hS hl h1 h2 => by
    obtain ⟨ra, gf, hrw, hp, hq⟩ := hP
    obtain ⟨w1, w2, w3, w4⟩ := hrw r hr
    obtain ⟨hlt, ex, -⟩ := o_ix h0 hx (by omega)
    refine va_put (D := g_D G) (ci := 4) (v := .int x) (ty := .int) (C := RX4) (T := TX4) (N := 2) C.1 C.2.1 C.2.2.2.2.2.1 oi_X4 tyX4 tyX4_ok nmX4 C.2.2.2.2.1 C.2.2.2.2.2.2.2.1.1 hp hq hS (6 + r) (o_W_obj hr) rfl 1 (by decide) (C.2.2.2.2.2.1 _ hw) (fun _ h => h) rfl (by decide +kernel) rfl rfl (Nat.le_of_ble_eq_true rfl) hd (fun H1 locs1 a b c => ?_)
    have e : (nI ((o_R σ r).take x.toNatClampNeg).length) = x := by rw [List.length_take, Nat.min_eq_left (Nat.le_of_lt hlt)]; exact ex.symm
    have a : va_P (g_D G) o_cl ((o_W G ra gf σ).set (6 + r) (g_ad G (7 + r), .inr (4, [.ref (ra r), .int x]))) H1 := a
    have b : va_D (g_A G) ((o_W G ra gf σ).set (6 + r) (g_ad G (7 + r), .inr (4, [.ref (ra r), .int x]))) := b
    rw [← e, o_W_setc hr] at a b
    refine k.2 X C E H1 locs1 ls cells slots ⟨ra, gf, ?_, a, b⟩ c hl h1 h2
    have := hrw.set (r := r) (f := gf r) (xs := (o_R σ r).take x.toNatClampNeg) (cap := o_cap σ r) (by rw [List.length_take]; omega) w2 w3 (fun j y hy => ?_)
    · rw [o_gfu_self] at this; exact this
    · rw [List.getElem?_take] at hy
      split at hy
      · exact w4 _ _ hy
      · cases hy⟩
theorem e_row_size (hr : r < 9) : o_Ev G yX4_size cX4_size 1 (some .int) kd [.ref (g_ad G (7 + r))] σ (some (.int (nI (o_R σ r).length))) σ := by
  refine o_Ev.mk rfl (by show 1 ≤ 1; decide) ?_
  refine z_aload_n dX4_size_0 0 rfl ?_
  refine zr_count hr fl_X4_15 dX4_size_1 ?_
  exact z_iret rfl rfl rfl dX4_size_4
theorem e_row_at (hr : r < 9) (x : Int32) : o_Ev G yX4_at cX4_at 2 (some .int) kd [.ref (g_ad G (7 + r)), .int x] σ (some (.int (o_at σ r x))) σ := by
  refine o_Ev.mk rfl (by show 2 ≤ 2; decide) ?_
  unfold o_at
  refine z_iload_n dX4_at_0 1 rfl ?_
  refine z_if_lt (tgt := 21) dX4_at_1 (by decide) (fun hc => ?_) (fun hc => ?_)
  · rw [if_pos hc]
    refine z_iconst (v := -1) dX4_at_21 (by decide) ?_
    exact z_iret rfl rfl rfl dX4_at_22
  · rw [if_neg hc]
    refine z_iload_n dX4_at_4 1 rfl ?_
    refine z_aload_n dX4_at_5 0 rfl ?_
    refine zr_count hr fl_X4_15 dX4_at_6 ?_
    refine z_icmp_ge (tgt := 21) dX4_at_9 (by decide) (fun h2 => ?_) (fun h2 => ?_)
    · rw [if_pos h2]
      refine z_iconst (v := -1) dX4_at_21 (by decide) ?_
      exact z_iret rfl rfl rfl dX4_at_22
    · rw [if_neg h2]
      refine z_aload_n dX4_at_12 0 rfl ?_
      refine zr_ld hr hc h2 1 rfl fl_X4_11 dX4_at_13 dX4_at_16 dX4_at_17 ?_
      refine z_goto (tgt := 22) dX4_at_18 (by decide) ?_
      exact z_iret rfl rfl rfl dX4_at_22
theorem e_row_put (hr : r < 9) (x v : Int32) : o_Ev G yX4_put cX4_put 3 none kd [.ref (g_ad G (7 + r)), .int x, .int v] σ none (o_put σ r x v) := by
  refine o_Ev.mk rfl (by show 3 ≤ 3; decide) ?_
  unfold o_put
  refine z_iload_n dX4_put_0 1 rfl ?_
  refine z_if_lt (tgt := 19) dX4_put_1 (by decide) (fun hc => ?_) (fun hc => ?_)
  · rw [if_pos hc]
    exact z_vret rfl rfl rfl dX4_put_19
  · rw [if_neg hc]
    refine z_iload_n dX4_put_4 1 rfl ?_
    refine z_aload_n dX4_put_5 0 rfl ?_
    refine zr_count hr fl_X4_15 dX4_put_6 ?_
    refine z_icmp_ge (tgt := 19) dX4_put_9 (by decide) (fun h2 => ?_) (fun h2 => ?_)
    · rw [if_pos h2]
      exact z_vret rfl rfl rfl dX4_put_19
    · rw [if_neg h2]
      refine z_aload_n dX4_put_12 0 rfl ?_
      refine zr_st hr hc h2 1 rfl 2 rfl fl_X4_11 dX4_put_13 dX4_put_16 dX4_put_17 dX4_put_18 ?_
      exact z_vret rfl rfl rfl dX4_put_19
theorem e_row_cut (hr : r < 9) (x : Int32) : o_Ev G yX4_cut cX4_cut 2 none kd [.ref (g_ad G (7 + r)), .int x] σ none (o_cut σ r x) := by
  refine o_Ev.mk rfl (by show 2 ≤ 2; decide) ?_
  unfold o_cut
  refine z_iload_n dX4_cut_0 1 rfl ?_
  refine z_if_lt (tgt := 17) dX4_cut_1 (by decide) (fun hc => ?_) (fun hc => ?_)
  · rw [if_pos hc]
    exact z_vret rfl rfl rfl dX4_cut_17
  · rw [if_neg hc]
    refine z_iload_n dX4_cut_4 1 rfl ?_
    refine z_aload_n dX4_cut_5 0 rfl ?_
    refine zr_count hr fl_X4_15 dX4_cut_6 ?_
    refine z_icmp_ge (tgt := 17) dX4_cut_9 (by decide) (fun h2 => ?_) (fun h2 => ?_)
    · rw [if_pos h2]
      exact z_vret rfl rfl rfl dX4_cut_17
    · rw [if_neg h2]
      refine z_aload_n dX4_cut_12 0 rfl ?_
      refine z_iload_n dX4_cut_13 1 rfl ?_
      refine zr_cut hr hc h2 fl_X4_15 dX4_cut_14 ?_
      exact z_vret rfl rfl rfl dX4_cut_17
end
