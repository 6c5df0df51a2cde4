/-! WRITE, WHOLE -/
theorem bv_as {f : o_S → Option o_S} {g : o_S → Option o_S} (x : Option o_S) : o_bv (o_bv x f) g = o_bv x (fun s => o_bv (f s) g) := by cases x <;> rfl
section
variable {n : Nat} {kd lv dp : Nat → Nat} {w : Nat → List Int32} {ids : Nat → Nat} {val : Nat → Int32} {N e : Nat}
theorem wt_sum (hT : TI n kd lv dp) : ∀ D i, n - i = D → i ≤ n → sm (wt kd w) (n - i) i ≤ 37 * (n - i) + sm (fun i => if kd i = 2 then (w i).length - 8 else 0) (n - i) i := by
  have hW := hT.1
  have w1 : ∀ i, kd i ≠ 1 → wt kd w i ≤ 11 + (if kd i = 2 then (w i).length - 8 else 0) := by
    intro i h; unfold wt; rw [if_neg h]; split <;> omega
  intro D
  induction D using Nat.strongRecOn with
  | _ D ih =>
    intro i hD hi
    rcases Nat.eq_or_lt_of_le hi with z | z
    · rw [z, Nat.sub_self]; exact Nat.zero_le _
    · rw [show n - i = (n - (i + 1)) + 1 by omega]
      show wt kd w i + sm (wt kd w) (n - (i + 1)) (i + 1) ≤ 37 * (n - (i + 1) + 1) + ((if kd i = 2 then (w i).length - 8 else 0) + sm (fun i => if kd i = 2 then (w i).length - 8 else 0) (n - (i + 1)) (i + 1))
      by_cases hk : kd i = 1
      · obtain ⟨i1, i2⟩ := hT.2.2.2.2.1 i z hk
        have hp : p_par lv (lv (i + 1)) (i + 1) = i := pp_uniq (by rw [hW.2.2.1]; exact hW.pos (by omega) i1) (by omega) (by omega) (fun x x1 x2 => by omega)
        have ok := (hT.2.2.2.1 (i + 1) (by omega) i1).1
        rw [hp, hk] at ok; unfold kOK at ok
        have h2 := w1 (i + 1) (by omega)
        have h3 := ih (n - (i + 2)) (by omega) (i + 2) rfl (by omega)
        rw [show n - (i + 1) = (n - (i + 2)) + 1 by omega]
        show wt kd w i + (wt kd w (i + 1) + sm (wt kd w) (n - (i + 2)) (i + 2)) ≤ 37 * (n - (i + 2) + 1 + 1) + ((if kd i = 2 then (w i).length - 8 else 0) + ((if kd (i + 1) = 2 then (w (i + 1)).length - 8 else 0) + sm (fun i => if kd i = 2 then (w i).length - 8 else 0) (n - (i + 2)) (i + 2)))
        have h1 : wt kd w i = 62 := by unfold wt; rw [if_pos hk]
        omega
      · have h2 := w1 i hk
        have h3 := ih (n - (i + 1)) (by omega) (i + 1) rfl (by omega)
        omega
theorem l17_val {l1 : Int32} : ∀ m x r v t, f_X7_write_L17 N m l1 x r = some (v, t) → v = o_F t 20 := by
  intro m
  induction m with
  | zero => intro x r v t h; cases h
  | succ m ih =>
    intro x r v t h
    rw [f_X7_write_L17] at h
    by_cases q : x = -1
    · rw [if_pos q] at h; injection h with h; obtain ⟨h1, h2⟩ := Prod.mk.inj h; rw [← h1, ← h2]
    · rw [if_neg q] at h
      cases hg : f_gL N 200 0 x 0 l1 r with
      | none => rw [hg] at h; cases h
      | some r1 =>
        rw [hg, bv_s] at h
        by_cases y : x < 0 ∨ 1500 ≤ Int32.toNatClampNeg x
        · rw [if_pos y] at h; cases h
        · rw [if_neg y, do_e] at h; exact ih _ _ _ _ h
def LW (N : Nat) (l1 : Int32) (m : Nat) (x : Int32) (r : o_S) : Option o_S := (f_X7_write_L17 N m l1 x r).map Prod.snd
theorem lw_1 (l1 : Int32) (m : Nat) (r : o_S) : LW N l1 (m + 1) (-1) r = some r := by
  unfold LW; rw [f_X7_write_L17, if_pos rfl]; rfl
theorem lw_2 {l1 : Int32} {m k : Nat} {r : o_S} (hr : WQ n kd lv w ids val r) (hk : k < n) : LW N l1 (m + 1) (nI (ids k)) r = o_bv (f_gL N 200 0 (nI (ids k)) 0 l1 r) (fun r => if nI (ids k) < 0 ∨ 1500 ≤ Int32.toNatClampNeg (nI (ids k)) then none else o_do (o_A r 4 (Int32.toNatClampNeg (nI (ids k)))) fun x => LW N l1 m x r) := by
  unfold LW
  rw [f_X7_write_L17, if_neg (nI_nm1 (by have := hr.id hk; omega))]
  cases f_gL N 200 0 (nI (ids k)) 0 l1 r with
  | none => rfl
  | some r1 =>
    rw [bv_s, bv_s, ld_ (hr.id hk) (by decide), ld_ (hr.id hk) (by decide)]
/-- the root's items, without columns and with them -/
theorem items_ (hN : 20000 ≤ N) (hS : ST n kd lv dp w val) {b : Int32} (hb : b = 0 ∨ b = 1) : ∃ E, E.length ≤ sm (wt kd w) (n - 1) 1 ∧ EC n kd lv dp w val e (fun c => if b = 0 then f_X2_printItems N c else f_gQ N 200 0 (0 : Int32) (0 : Int32) 0 c) E ∧ ER n kd lv w ids val (fun r => LW N b N (cur n lv ids 0 n 1) r) E := by
  have hT := hS.1
  have hW := hT.1
  have hn := hW.2.1
  have hn0 := hW.1
  have h0 := aft0 hW
  have hl0 : lv 0 = 0 := hW.2.2.1
  have hchild : 0 + 1 = aft lv n 0 ∨ lv (0 + 1) = lv 0 + 1 := by
    rw [h0]
    rcases Nat.eq_or_lt_of_le (show 0 + 1 ≤ n by omega) with q | q
    · exact Or.inl q
    · have := hW.pos (show 0 < 0 + 1 by omega) q; have := (hW.2.2.2 0 (by omega)).2; exact Or.inr (by omega)
  have hit : ∀ k, 0 < k → k < aft lv n 0 → lv k = lv 0 + 1 → k < n ∧ kd k = 1 ∧ dp k = 1 := by
    intro k k1 k2 k3
    rw [h0] at k2
    have hp : p_par lv (lv k) k = 0 := (par_iff hW k1 k2 hn0).mpr ⟨by omega, by rw [h0]; omega, k3⟩
    obtain ⟨ok, od⟩ := hT.2.2.2.1 k k1 k2
    rw [hp, hT.2.1] at ok
    rw [hp, hT.2.1, hT.2.2.1, if_pos rfl] at od
    unfold kOK at ok
    exact ⟨k2, by omega, od⟩
  rcases hb with rfl | rfl
  · obtain ⟨E, e1, e2, e3⟩ := ch_loop (e := e) (ids := ids) hS hn0 (fun j c => o_bi (f_X5_after N (nI j) c) fun x11 s9 => o_bv (f_gP N 200 0 (nI j) x11 (0 : Int32) s9) fun s12 => o_push s12 8 (10 : Int32)) (fun j r => f_gL N 200 0 (nI (ids j)) 0 0 r) (fun m x c => f_X2_printItems_L2 N m x c) (fun m x r => LW N 0 m x r)
      (fun m c hc => by
        show f_X2_printItems_L2 N (m + 1) _ c = _
        rw [f_X2_printItems_L2]; unfold f_X5_size
        rw [bi_s, hc.1.2.1, h0, if_pos (nI_le (Nat.le_refl _) (by omega))])
      (fun m k c hc k1 k2 k3 => by
        have hlk := (hc.1.2.2.2.2.1 k (by omega)).2.2.2.1
        show f_X2_printItems_L2 N (m + 1) _ c = _
        rw [f_X2_printItems_L2]; unfold f_X5_size
        rw [bi_s, hc.1.2.1, if_neg (fun z => absurd ((nI_leI (by omega) (by omega)).mp z) (by omega)), ct_lv hc.1 (by omega), bi_s, if_lit 1 1 rfl (by omega) (by decide), if_neg (by omega), ni_p1])
      (fun m k c hc k1 k2 k3 => by
        have hlk := (hc.1.2.2.2.2.1 k (by omega)).2.2.2.1
        show f_X2_printItems_L2 N (m + 1) _ c = o_bv (o_bi (f_X5_after N (nI k) c) fun x11 s9 => o_bv (f_gP N 200 0 (nI k) x11 (0 : Int32) s9) fun s12 => o_push s12 8 (10 : Int32)) _
        rw [f_X2_printItems_L2]; unfold f_X5_size
        rw [bi_s, hc.1.2.1, if_neg (fun z => absurd ((nI_leI (by omega) (by omega)).mp z) (by omega)), ct_lv hc.1 (by omega), bi_s, if_lit 1 1 rfl (by omega) (by decide), if_pos (by omega), ct_after hc.1 (by omega) (by omega), bi_s, bi_s, bv_as, ni_p1])
      (fun m r => lw_1 0 m r) (fun m k r hr k1 k2 k3 => lw_2 hr (hit k k1 k2 k3).1)
      (fun k k1 k2 k3 => by
        obtain ⟨g1, g2, g3⟩ := hit k k1 k2 k3
        obtain ⟨a1, a2, -, -⟩ := aft_spec (lv := lv) g1
        obtain ⟨q, q1, q2, q3, q4, q5, q6⟩ := last_ (N := N) (ids := ids) hN hS g1 g2
        obtain ⟨E1, f1, f2, f3⟩ := own_ (N := N) (e := e) (ids := ids) (st := aft lv n k) (calls := 0) hN hS g1 g2 a1 (Or.inl rfl) (by omega)
        have hsv : sv n lv ids k (aft lv n k) = -1 := if_pos rfl
        rw [hsv] at f3
        refine ⟨E1 ++ [10], ?_, ec_cg (ec_seq f2 (ec_push 10)) (fun c hc => ?_), er_cg (er_seq f3 (er_put (N := N) 10)) (fun r hr => ?_)⟩
        · rw [List.length_append]; unfold sbt
          rw [show aft lv n k - k = (aft lv n k - (k + 1)) + 1 by omega]
          show E1.length + 1 ≤ wt kd w k + _
          unfold wt at *; rw [if_pos g2]; omega
        · show (o_bi (f_X5_after N (nI k) c) fun x11 s9 => o_bv (f_gP N 200 0 (nI k) x11 (0 : Int32) s9) fun s12 => o_push s12 8 (10 : Int32)) = _
          rw [ct_after hc.1 (by omega) g1, bi_s]; rfl
        · obtain ⟨N', hN'⟩ : ∃ x, N = x + 1 := ⟨N - 1, by omega⟩
          show f_X7_putLine_L3 N (f_gL N 199) N (nI (ids k)) 0 0 0 r = _
          have : ∀ m, f_X7_putLine_L3 N (f_gL N 199) (m + 1) (nI (ids k)) 0 0 0 r = o_bv (f_gA N 200 0 (nI (ids k)) 0 (-1) r) fun s7 => f_X7_put N 10 s7 := by
            intro m
            rw [f_X7_putLine_L3, if_pos (by decide), q6 r hr, bi_s, if_pos rfl]
            unfold f_X7_putLine_b47 f_X7_putLine_b77
            show (o_bv (f_gA N 200 0 (nI (ids k)) 0 (-1) r) fun s7 => o_bv (f_X7_put N 10 s7) fun s10 => some s10) = _
            simp only [bv_id]
          have h := this N'
          rw [← hN'] at h; exact h)
      (aft lv n 0 - (0 + 1)) (0 + 1) N N rfl (by omega) (by omega) hchild (by omega) (by omega)
    rw [h0] at e1 e3
    exact ⟨E, e1, ec_cg e2 (fun c _ => rfl), e3⟩
  · obtain ⟨E, e1, e2, e3⟩ := ch_loop (e := e) (ids := ids) hS hn0 (fun j c => f_gQ N 199 1 (nI j) (nI 0) 0 c) (fun j r => f_gL N 200 0 (nI (ids j)) 0 1 r) (fun m x c => f_X2_printLines_L34 N (f_gQ N 199) m (nI 0) (nI (aft lv n 0)) (nI (lv 0 + 1)) x c) (fun m x r => LW N 1 m x r)
      (fun m c _ => by show f_X2_printLines_L34 N _ (m + 1) _ _ _ _ c = _; rw [f_X2_printLines_L34, if_pos (nI_le (Nat.le_refl _) (by omega))])
      (fun m k c hc k1 k2 k3 => by
        have hlk := (hc.1.2.2.2.2.1 k (by omega)).2.2.2.1
        show f_X2_printLines_L34 N _ (m + 1) _ _ _ _ c = _
        rw [f_X2_printLines_L34, if_neg (fun z => absurd ((nI_leI (by omega) (by omega)).mp z) (by omega)), ct_lv hc.1 (by omega), bi_s, if_ni_eq (by omega) (by omega), if_neg k3, ni_p1])
      (fun m k c hc k1 k2 k3 => by
        have hlk := (hc.1.2.2.2.2.1 k (by omega)).2.2.2.1
        show f_X2_printLines_L34 N _ (m + 1) _ _ _ _ c = _
        rw [f_X2_printLines_L34, if_neg (fun z => absurd ((nI_leI (by omega) (by omega)).mp z) (by omega)), ct_lv hc.1 (by omega), bi_s, if_ni_eq (by omega) (by omega), if_pos k3, ni_p1])
      (fun m r => lw_1 1 m r) (fun m k r hr k1 k2 k3 => lw_2 hr (hit k k1 k2 k3).1)
      (fun k k1 k2 k3 => by
        obtain ⟨g1, g2, g3⟩ := hit k k1 k2 k3
        exact line_ (N := N) hN hS (n - k) k rfl g1 g2 0 198 199 (by omega) (by omega) (by omega))
      (aft lv n 0 - (0 + 1)) (0 + 1) N N rfl (by omega) (by omega) hchild (by omega) (by omega)
    rw [h0] at e1 e3
    refine ⟨E, e1, ec_cg e2 (fun c hc => ?_), e3⟩
    show f_X2_printLines N (f_gQ N 199) (nI 0) (nI 0) c = _
    unfold f_X2_printLines
    rw [if_lle 40 40 rfl (by decide) (by decide), if_pos (by decide), ct_after hc.1 (by omega) hn0, bi_s, ct_lv hc.1 hn0, bi_s, ni_p1, ni_p1]
end
theorem ld0 {α : Type} {s : o_S} {a : Nat} (f : Int32 → Option α) : (if (0 : Int32) < 0 ∨ 1500 ≤ Int32.toNatClampNeg (0 : Int32) then none else o_do (o_A s a (Int32.toNatClampNeg (0 : Int32))) f) = f (o_A s a 0) := ld_ (i := 0) (n := 1500) (by decide) (by decide) f
theorem l_write {N e : Nat} {s : o_S} (hN : 20000 ≤ N) (hI : Inv e s) {b : Int32} (hb : b = 0 ∨ b = 1) : PQ (f_X6_write N b s) (fun t => f_X7_write N b t) e := by
  obtain ⟨hG, T, n, kd, lv, dp, w, ids, hv⟩ := id hI
  obtain ⟨⟨t1, t2, t3, t4⟩, hC, hT, ⟨r1, r2, r3, r4, r5, r6⟩, hRP, hOU, hCL, hBD⟩ := id hv
  obtain ⟨c1, c2, c3, c4, c5, c6⟩ := id hC
  have hn := hv.nn
  have hW := hT.1
  have hS : ST n kd lv dp w (fun i => tg s i 5) := ⟨hT, fun i hi hk => by
      obtain ⟨g1, a, g2, g3, -⟩ := c6 i hi hk
      refine ⟨g1, ?_⟩
      obtain ⟨a', -, g4, -⟩ := r6 i hi hk
      have := r2.1 i hi
      omega, fun i hi hk => hBD.2.1 i hi hk, fun i hi => (c5 i hi).2.1⟩
  obtain ⟨u, x1, g1, -, f1, u1, y1, z1⟩ := cut_0 hG (show 8 < 9 by decide)
  have ht : ∀ i f, tg u i f = tg s i f := fun i f => by unfold tg; rw [z1, if_neg (by decide)]
  have hW1 : W1 n kd lv dp w (fun i => tg s i 5) u := ⟨⟨by rw [z1, if_neg (by decide)]; exact c1, by rw [f1]; exact c2, c3, by rw [z1, if_neg (by decide)]; exact c4, fun i hi => by rw [ht, ht, ht]; exact c5 i hi, fun i hi hk => by rw [ht, ht, z1, if_neg (by decide)]; exact c6 i hi hk⟩, fun i hi => ht i 5⟩
  obtain ⟨E, e1, e2, e3⟩ := items_ (N := N) (e := e) (ids := ids) hN hS hb
  have hE : E.length ≤ 60000 := by
    have h1 := wt_sum (w := w) hT (n - 1) 1 rfl (by have := hW.1; omega)
    have h2 := hBD.2.2
    have h3 : sm (fun i => if kd i = 2 then (w i).length - 8 else 0) n 0 = (if kd 0 = 2 then (w 0).length - 8 else 0) + sm (fun i => if kd i = 2 then (w i).length - 8 else 0) (n - 1) 1 := by
      have := hW.1
      rw [show n = (n - 1) + 1 by omega]; rfl
    omega
  obtain ⟨c', k1, k2⟩ := e2 u hW1 g1 (by rw [z1, if_pos rfl]; show 0 + E.length ≤ 60000; omega)
  obtain ⟨a1, a2, a3, a4, a5, a6⟩ := k2
  have R8 : o_R c' 8 = E := by rw [a1, z1, if_pos rfl]; rfl
  have hcls : f_X6_write N b s = some (nI E.length, c') := by
    unfold f_X6_write f_X2_startAgain f_X2_size
    rw [do_e, x1, bv_s]
    have k1' : (if b = 0 then f_X2_printItems N u else f_gQ N 200 0 (0 : Int32) (0 : Int32) 0 u) = some c' := k1
    by_cases q : b = 0
    · rw [if_pos q] at k1' ⊢; rw [k1', bv_s, bi_s, R8]
    · rw [if_neg q] at k1' ⊢; rw [k1', bv_s, bi_s, R8]
  have hA : o_A c' = o_A s := by rw [a4, u1]
  have hF : o_F c' = o_F s := by rw [a3, f1]
  have hA0 : o_A (o_setF (o_setF c' 15 0) 20 0) = o_A s := by rw [sF_A, sF_A, hA]
  have hWQ : WQ n kd lv w ids (fun i => tg s i 5) (o_setF (o_setF c' 15 0) 20 0) := by
    refine ⟨r2.congr (by rw [hA0]) (by rw [hA0]) (by rw [hA0]), fun i hi => by rw [hA0]; exact ⟨(r5 i hi).1, (r5 i hi).2.2.2⟩, fun i hi hk => ?_⟩
    obtain ⟨a, h1, h2, h3⟩ := r6 i hi hk
    have := r2.1 i hi
    rw [hA0]; exact ⟨a, h1, by omega, h3⟩
  obtain ⟨r', m1, b1, b2, b3, b4, b5, b6⟩ := e3 _ 0 hWQ (by rw [sF_F, if_pos rfl]; rfl) (by omega)
  have hn0 := hW.1
  have hcur : o_A (o_setF (o_setF c' 15 0) 20 0) 3 0 = cur n lv ids 0 n 1 := by
    have h3 := hWQ.1.2.2.2.1 0 hn0
    rw [r3] at h3
    rw [h3]; unfold cur sv
    by_cases q : 1 = n
    · rw [if_pos q, aft0 hW, if_pos rfl, if_neg (by omega)]
    · have := hW.pos (show 0 < 1 by decide) (show 1 < n by omega)
      rw [if_neg q, if_pos ⟨by omega, by rw [hW.2.2.1]; show 0 < lv 1; omega⟩]
  have hlw : ∃ v, f_X7_write_L17 N N b (cur n lv ids 0 n 1) (o_setF (o_setF c' 15 0) 20 0) = some (v, r') := by
    have m1' : LW N b N (cur n lv ids 0 n 1) (o_setF (o_setF c' 15 0) 20 0) = some r' := m1
    unfold LW at m1'
    cases hq : f_X7_write_L17 N N b (cur n lv ids 0 n 1) (o_setF (o_setF c' 15 0) 20 0) with
    | none => rw [hq] at m1'; cases m1'
    | some p => rw [hq] at m1'; injection m1' with m1'; exact ⟨p.1, by rw [← m1']⟩
  obtain ⟨v, hlw⟩ := hlw
  have hv20 := l17_val _ _ _ _ _ hlw
  rw [b1, Nat.zero_add] at hv20
  have href : f_X7_write N b c' = some (nI E.length, r') := by
    unfold f_X7_write
    rw [do_e, do_e, ld0, hcur, hlw, hv20]
  have hF' : ∀ f, f ≠ 15 → f ≠ 20 → o_F r' f = o_F s f := fun f f15 f20 => by rw [b2 f f20, sF_F, if_neg f20, sF_F, if_neg f15, hF]
  have hA' : ∀ a, a ≠ 13 → o_A r' a = o_A s a := fun a ha => by rw [b3 a ha, hA0]
  have hR' : ∀ q, q ≠ 8 → o_R r' q = o_R s q := fun q hq => by rw [b6.1, sF_R, sF_R, a2 q hq, z1, if_neg hq]
  have hR8 : o_R r' 8 = E := by rw [b6.1, sF_R, sF_R, R8]
  have ht' : ∀ i f, tg r' i f = tg s i f := fun i f => by unfold tg; rw [hR' 3 (by decide)]
  refine ⟨nI E.length, c', r', hcls, href, b6.2.2 (e + 1) ((a6.up (by omega)).F _ _ |>.F _ _), T, n, kd, lv, dp, w, ids, ⟨by rw [hR' 0 (by decide)]; exact t1, t2, by rw [hF' 16 (by decide) (by decide)]; exact t3, fun j hj => by rw [hA' 0 (by decide)]; exact t4 j hj⟩, ⟨by rw [hR' 3 (by decide)]; exact c1, by rw [hF' 1 (by decide) (by decide)]; exact c2, c3, by rw [hR' 4 (by decide)]; exact c4, fun i hi => by rw [ht', ht', ht']; exact c5 i hi, fun i hi hk => by rw [ht', ht', hR' 4 (by decide)]; exact c6 i hi hk⟩, hT, ⟨by rw [hF' 18 (by decide) (by decide)]; exact r1, r2.congr (hA' 2 (by decide)) (hA' 3 (by decide)) (hA' 4 (by decide)), r3, fun i hi => by rw [hA' 10 (by decide), hA' 11 (by decide)]; exact r4 i hi, fun i hi => by rw [hA' 1 (by decide), hA' 5 (by decide), hA' 6 (by decide), hA' 7 (by decide), ht', ht', ht']; exact r5 i hi, fun i hi hk => by rw [hA' 8 (by decide), hA' 9 (by decide)]; exact r6 i hi hk⟩, ?_, ⟨by rw [hR8, b1, Nat.zero_add], by rw [hR8]; exact hE, fun j hj => ?_⟩, ?_, ?_⟩
  · obtain ⟨k, p1, p2, p3, p4, p5⟩ := hRP
    exact ⟨k, p1, by rw [hF' 0 (by decide) (by decide)]; exact p2, by rw [hR' 2 (by decide)]; exact p3, by rw [hF' 19 (by decide) (by decide)]; exact p4, fun j hj => by rw [hA' 12 (by decide), hR' 2 (by decide)]; exact p5 j hj⟩
  · rw [hR8] at hj ⊢
    have := b5 j hj
    rw [Nat.zero_add] at this; exact this
  · obtain ⟨rm, l1, l2⟩ := hCL
    exact ⟨rm, fun i hi hk => by rw [ht', hR' 4 (by decide)]; exact l1 i hi hk, fun i j hi hj h1 h2 h3 => by rw [ht', ht']; exact l2 i j hi hj h1 h2 h3⟩
  · exact ⟨hBD.1, fun i hi hk => by rw [ht']; exact hBD.2.1 i hi hk, hBD.2.2⟩
