section
variable {G : o_G} {own : String} {cc : ByteArray} {rt : Option FieldType} {nL kd : Nat} {En : o_X → Prop} {mc ms : Nat} {ws : va_W} {c n pc : Nat} {L : List (Nat × Value)} {st : List Value}
theorem v_callIQ {y : MethodName} {cy : ByteArray} {nY kY m i b mY sY : Nat} {As rest : List Value} {Qc : Array Value → State → Outcome → State → Prop} (hE : o_EvC G y cy nY kY (.ref b :: As) (o_PW G ws) Qc mY sY) (hk : kY + 1 ≤ kd) (hM : o_MC y cy nY m) (hml : Cond.methodLink own i y ∈ o_WS) (hn : As.length = m) (hst : st = As.reverse ++ .ref b :: rest) (hro : (rest.map fun v => v.category).sum ≤ 8) (h1 : c + mY ≤ mc) (h2 : n + sY ≤ ms) (hd : decode cc pc = .ok (.invokespecial i, 3))
    (hQ : ∀ a st₀ oc t, Qc a st₀ oc t → oc = .returned none ∧ va_F (g_A G) st₀ t)
    (k : ∀ a st₀ t, Qc a st₀ (.returned none) t → ∃ ws', va_P (g_D G) o_cl ws' t.heap ∧ va_D (g_A G) ws' ∧ o_V G own cc rt nL kd En mc ms ws' (c + mY) (n + sY) (pc + 3) L rest) : o_V G own cc rt nL kd En mc ms ws c n pc L st :=
  fun X C E r1 r2 H locs ls hP hD hS hl => by
    obtain ⟨hx, hb, hr, hmx, hown, hts, hlk, hSF, hfr, hlo⟩ := id C
    obtain ⟨m1, m3, m4, m5, m7, m6⟩ := hM
    refine o_afterC hS (va_runI (As := As) (rest := rest) (b := b) (n := m) ⟨hx, hb, hmx, hown, hts⟩ (hE ((x_R X).frames - 1) (by omega)) (cwI m hts (o_GoodIn m4) rfl rfl rfl (hts _ m3) (hts _ hml) (hts _ m1) m7 m6 ⟨?_, ?_⟩) ⟨fun a U g mk q => ⟨q.1, q.2.1.calling g mk a, q.2.2⟩, fun U hU hW => ⟨rfl, hSF.moved hW hU hS, by rw [hU]; exact hP, hD⟩⟩ rfl hn hl.1 hst (lv_room hro) hd ⟨Nat.le_trans h1 r1, Nat.le_trans h2 r2⟩) (fun _ _ _ q => hQ _ _ _ _ q) (fun t st₀ H1 locs1 ht hq hS' => ?_)
    · show (x_R X).frames - 1 + 1 ≤ _; omega
    · show 8 + (nY + 11) + 40 * ((x_R X).frames - 1) ≤ _; omega
    · obtain ⟨ws', ha, hb', hv⟩ := k _ _ _ hq
      exact hv X C E r1 r2 H1 locs1 ls (ht ▸ ha) hb' hS' hl
end
/-- WHAT THE PLAIN FUNCTIONS OWE: on every script the law's function answers 1, and little is made -/
def o_Owed (Ls : Nat) (xs : Nat → Int32) : Prop := ∃ (N : Nat) (σ1 σ2 σ3 σ4 : o_S), f_X5_startAgain N o_s0 = some σ1 ∧ o_k σ1 = 0 ∧ f_X7_begin N (o_zM σ1) = some σ2 ∧ f_X7_number N σ2 = some σ3 ∧ o_k σ3 = o_k σ1 ∧ f_L_law N Ls xs (o_zO σ3) = some (1, σ4) ∧ o_k σ4 ≤ 500000
set_option maxRecDepth 10000 in
theorem v_law {G : o_G} {b Ls : Nat} {xs : Nat → Int32} (h : o_Owed Ls xs) : o_V G RL code ret 7 608 (o_EL G b Ls xs) 601024 7293034 [] 0 0 0 [(0, .ref b)] [] := by
  obtain ⟨N, σ1, σ2, σ3, σ4, h1, k1, h2, h3, k3, h4, k4⟩ := h
  refine v_new (ci := 6) (C0 := RX6) (T := TX6) (N := 7) (ty0 := tyX6) (fs := [.null, .null, .null, .null, .null, .null, .null]) oi_X6 tyX6_ok rfl kl_L_8 ib_X6 in_X6 (fun j hj => by rcases (show j = 0 ∨ j = 1 ∨ j = 2 ∨ j = 3 ∨ j = 4 ∨ j = 5 ∨ j = 6 by omega) with rfl | rfl | rfl | rfl | rfl | rfl | rfl <;> rfl) (Nat.le_of_ble_eq_true rfl) (Nat.le_of_ble_eq_true rfl) dL_law_0 (fun q0 => ?_)
  refine v_dup dL_law_3 rfl ?_
  refine v_callIQ (As := []) (c_X6_init (h0 := q0) h1 k1) (by decide) mc_X6_init ml_L_68 rfl rfl (Nat.le_of_ble_eq_true rfl) (Nat.le_of_ble_eq_true rfl) (Nat.le_of_ble_eq_true rfl) dL_law_4 (fun _ _ _ _ q => ⟨q.1, q.2.2⟩) (fun _ _ t hq => ?_)
  obtain ⟨-, ⟨ad, rfl, ra, gf, hrw, hp, hd⟩, -⟩ := hq
  refine ⟨o_W (o_Gd G ad 0) ra gf σ1, hp, hd, ?_⟩
  refine v_astore_n (L' := [(1, .ref _), (0, .ref _)]) dL_law_7 (by decide) rfl ?_
  refine v_new (ci := 7) (C0 := RX7) (T := TX7) (N := 32) (ty0 := tyX7) (fs := [.int 0, .null, .int 0, .int 0, .null, .null, .null, .null, .null, .null, .null, .null, .null, .int 0, .null, .null, .int 0, .null, .null, .int 0, .null, .int 0, .null, .null, .null, .int 0, .int 0, .int 0, .int 0, .int 0, .int 0, .int 0]) oi_X7 tyX7_ok rfl kl_L_69 ib_X7 in_X7 (fun j hj => by rcases (show j = 0 ∨ j = 1 ∨ j = 2 ∨ j = 3 ∨ j = 4 ∨ j = 5 ∨ j = 6 ∨ j = 7 ∨ j = 8 ∨ j = 9 ∨ j = 10 ∨ j = 11 ∨ j = 12 ∨ j = 13 ∨ j = 14 ∨ j = 15 ∨ j = 16 ∨ j = 17 ∨ j = 18 ∨ j = 19 ∨ j = 20 ∨ j = 21 ∨ j = 22 ∨ j = 23 ∨ j = 24 ∨ j = 25 ∨ j = 26 ∨ j = 27 ∨ j = 28 ∨ j = 29 ∨ j = 30 ∨ j = 31 by omega) with rfl | rfl | rfl | rfl | rfl | rfl | rfl | rfl | rfl | rfl | rfl | rfl | rfl | rfl | rfl | rfl | rfl | rfl | rfl | rfl | rfl | rfl | rfl | rfl | rfl | rfl | rfl | rfl | rfl | rfl | rfl | rfl <;> rfl) (Nat.le_of_ble_eq_true rfl) (Nat.le_of_ble_eq_true rfl) dL_law_8 (fun q => ?_)
  refine v_dup dL_law_11 rfl ?_
  refine v_callIQ (As := []) (c_X7_init (G := G) (ad := ad) (ra := ra) (gf := gf) (q := q) hrw h2 h3 k3) (by decide) mc_X7_init ml_L_71 rfl rfl (Nat.le_of_ble_eq_true rfl) (Nat.le_of_ble_eq_true rfl) (Nat.le_of_ble_eq_true rfl) dL_law_12 (fun _ _ _ _ q => ⟨q.1, q.2.2⟩) (fun _ _ t hq => ?_)
  obtain ⟨-, ⟨ad2, e0, rfl, ra2, gf2, hrw2, hp2, hd2⟩, -⟩ := hq
  rw [← e0]
  refine ⟨o_W (o_up (o_Gd G ad2 0)) ra2 gf2 σ3, hp2, hd2, ?_⟩
  refine v_astore_n (L' := [(2, .ref _), (1, .ref _), (0, .ref _)]) dL_law_15 (by decide) rfl ?_
  refine v_iconst (v := 1) dL_law_16 (by decide) ?_
  refine v_newaL (Nat.le_of_ble_eq_true rfl) (Nat.le_of_ble_eq_true rfl) dL_law_17 (fun q9 => ?_)
  refine v_astore_n (L' := [(3, .ref _), (2, .ref _), (1, .ref _), (0, .ref _)]) dL_law_19 (by decide) rfl ?_
  have hz := s_L_law (G := o_Gd G (fun k => if k = 43 then q9 else ad2 k) 0) (b := b) h4
  refine v_toZ (G2 := o_up (o_ou (o_Gd G (fun k => if k = 43 then q9 else ad2 k) 0))) (σ := o_zO σ3) (k' := o_k σ4) (fun X h => h) rfl rfl (fun H hP hD => ⟨ra2, gf2, hrw2, hP, hD⟩) hz ?_ ?_
  · have : o_k σ4 - o_k (o_zO σ3) ≤ 500000 := Nat.le_trans (Nat.sub_le _ _) k4
    show 44 + _ ≤ 601024
    omega
  · have : o_k σ4 - o_k (o_zO σ3) ≤ 500000 := Nat.le_trans (Nat.sub_le _ _) k4
    show 92867 + _ ≤ 7293034
    omega
theorem o_sf0 {s : State} {args : Array Value} {l : Launch} {dC : Nat → ClassId} {dI : Nat → Nat → Nat} {cI cJ : ClassId} (hl : l.stackTraces = false) (hts : ∀ w ∈ lw_tbl, w.before args s = true) (hgv : (Jvm.Cond.and given_1 narrow_1).before args s = true) (hK : va_K (dC, dI) o_cl [(cI, .int), (cJ, .long)] s) : o_SF (l, dC, dI, cI, cJ, fun _ => 0, s.heap.size, 0) s := by
  have hs := flat_of_before _ hgv
  refine ⟨hK, ?_, ?_, ?_, ?_, ?_, ?_, Nat.le_refl _, hl, ?_, ?_⟩
  · exact vx_Zqof (hts _ (List.mem_of_getElem? (i := 640) (by decide +kernel))) (hts _ (List.mem_of_getElem? (i := 81) (by decide +kernel))) (hs _ (by decide +kernel)) (fun a ha => Nat.not_le.mpr ha)
  · exact vx_Zqof (hts _ (List.mem_of_getElem? (i := 642) (by decide +kernel))) (hts _ (List.mem_of_getElem? (i := 81) (by decide +kernel))) (hs _ (by decide +kernel)) (fun a ha => Nat.not_le.mpr ha)
  · have hm : ∀ q ∈ o_nestF, (Cond.fieldLinkNest q.1 q.2.1 q.2.2.1 q.2.2.2.1 q.2.2.2.2.1 q.2.2.2.2.2) ∈ lw_tbl := by decide +kernel
    exact fun q hq => va_Nw.of rfl (hts _ (hm q hq))
  · have hm : ∀ q ∈ o_nestM, (Cond.methodLinkNest q.1 q.2.1 q.2.2.1 q.2.2.2) ∈ lw_tbl := by decide +kernel
    exact fun q hq => va_Nw.of rfl (hts _ (hm q hq))
  · have hm : ∀ q ∈ o_strs, (Cond.stringRef q.1 q.2.1 q.2.2) ∈ lw_tbl := by decide +kernel
    have hn : ∀ q ∈ o_strs, (Cond.exactly (.string q.1 q.2.1) "java/lang/String") ∈ flatC (Jvm.Cond.and given_1 narrow_1) := by decide +kernel
    intro q hq
    have h1 := hts _ (hm q hq)
    obtain ⟨a, -, -, -, h2, -⟩ := Cond.exactly_spec (hs _ (hn q hq))
    have h3 : (Term.string q.1 q.2.1).eval args s none [] s = some (.ref a) := h2
    exact ⟨a, vk_R.of h1 h3⟩
  · have hn : ∀ q ∈ o_ncs, (Cond.not (.castable q.1 q.2)) ∈ flatC (Jvm.Cond.and given_1 narrow_1) := by decide +kernel
    exact fun q hq => va_Nc.of (hs _ (hn q hq))
  · have hm : ∀ q ∈ o_casts, (Cond.castable q.1 q.2) ∈ lw_tbl := by decide +kernel
    exact fun q hq => va_Nw.of rfl (hts _ (hm q hq))
  · have hm : ∀ q ∈ o_decls, (Cond.declares q) ∈ lw_tbl := by decide +kernel
    exact fun q hq => va_Nw.of rfl (hts _ (hm q hq))
theorem o_start {p : Program} {e : Env} {s : State} {m : MethodId} {below : List Frame} {meth : Method} {c : Code} (l : Launch) (hflags : l.flags = flags0) {b L : Nat} {xs : Nat → Int32} (ho : o_Owed L xs) (C0 : lw_At p s m meth c b L xs) : W p l e room_1 s m #[Value.ref b] below meth c s.heap [] 0 0 (lw_Z below #[Value.ref b] s) (entryFrame m ([Value.ref b] : List Value).toArray 7) := by
  obtain ⟨hx, hb, hr, hml, hown, hts, hX, hbl, hlocks, hgv⟩ := id C0
  have hst : l.stackTraces = false := by unfold Launch.stackTraces; rw [hflags]; decide +kernel
  have htw : ∀ w ∈ o_WS, w.before #[Value.ref b] s = true := fun w h => hts w (List.mem_filter.mp h).1
  obtain ⟨c0, i0, k0⟩ := u_known (C := RX0) (T := TX0) (N := 9) (n := 9) htw oi_X0 (htw _ ib_X0)
  obtain ⟨c1, i1, k1⟩ := u_known (C := RX1) (T := TX1) (N := 13) (n := 13) htw oi_X1 (htw _ ib_X1)
  obtain ⟨c2, i2, k2⟩ := u_known (C := RX2) (T := TX2) (N := 2) (n := 2) htw oi_X2 (htw _ ib_X2)
  obtain ⟨c3, i3, k3⟩ := u_known (C := RX3) (T := TX3) (N := 2) (n := 2) htw oi_X3 (htw _ ib_X3)
  obtain ⟨c4, i4, k4⟩ := u_known (C := RX4) (T := TX4) (N := 2) (n := 2) htw oi_X4 (htw _ ib_X4)
  obtain ⟨c5, i5, k5⟩ := u_known (C := RX5) (T := TX5) (N := 3) (n := 3) htw oi_X5 (htw _ ib_X5)
  obtain ⟨c6, i6, k6⟩ := u_known (C := RX6) (T := TX6) (N := 7) (n := 7) htw oi_X6 (htw _ ib_X6)
  obtain ⟨c7, i7, k7⟩ := u_known (C := RX7) (T := TX7) (N := 32) (n := 32) htw oi_X7 (htw _ ib_X7)
  obtain ⟨cI, kI, compI, f1, f2, f3⟩ := Cond.arrayClass_spec (htw _ oa_I)
  obtain ⟨cJ, kJ, compJ, g1, g2, g3⟩ := Cond.arrayClass_spec (htw _ oa_J)
  obtain ⟨dC, dI, hKc⟩ : ∃ (dC : Nat → ClassId) (dI : Nat → Nat → Nat), ∀ (k : Nat) (q : vw_C), o_cl[k]? = some q → u_Kn s q.1 q.2.1 q.2.2 (dC k) (dI k) := by
    refine ⟨fun k => [c0, c1, c2, c3, c4, c5, c6, c7].getD k c0, fun k => [i0, i1, i2, i3, i4, i5, i6, i7].getD k i0, ?_⟩
    intro k q hq
    match k, hq with
    | 0, hq => cases hq; exact k0
    | 1, hq => cases hq; exact k1
    | 2, hq => cases hq; exact k2
    | 3, hq => cases hq; exact k3
    | 4, hq => cases hq; exact k4
    | 5, hq => cases hq; exact k5
    | 6, hq => cases hq; exact k6
    | 7, hq => cases hq; exact k7
    | k + 8, hq => cases hq
  have hK : va_K (dC, dI) o_cl [(cI, .int), (cJ, .long)] s := ⟨hKc, fun k q h => by
    match k, h with
    | 0, h => cases h; exact ⟨fun n z => ⟨fun k h => (by cases h), kI, f2, compI, f3⟩, f1⟩
    | 1, h => cases h; exact ⟨fun n z => ⟨fun k h => (by cases h), kJ, g2, compJ, g3⟩, g1⟩
    | k + 2, h => cases h⟩
  have hSF := o_sf0 hst hts hgv hK
  rw [lg_entry_eq]
  exact v_law (G := (l, dC, dI, cI, cJ, fun _ => 0, s.heap.size, 0)) (b := b) ho (p, e, room_1, s, m, #[Value.ref b], below, meth, c, lw_Z below #[Value.ref b] s) ⟨hx, hb, hr, hml, hown, htw, hlocks, hSF, by show 608 ≤ 2048; decide, by show 40 * 2048 ≤ 84000; decide⟩ ⟨rfl, rfl, rfl, rfl, hbl, hX⟩ (Nat.le_refl _) (Nat.le_refl _) s.heap [] _ (fun k q h => by cases h) ⟨fun i j p q h => (by cases h), fun k q h => (by cases h)⟩ va_S.rf (lv_entry [.ref b] (Nat.le_of_ble_eq_true rfl))
