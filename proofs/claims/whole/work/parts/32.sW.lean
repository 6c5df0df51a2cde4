set_option maxRecDepth 10000 in
theorem s_L_feed {G : o_G} {N : Nat} {r : Int32} {σ' : o_S} {p1 : Int64} {s : o_S} (h : f_L_feed N p1 s = some (r, σ')) : o_Z (o_up (o_ou G)) RL cL_feed (some .int) 5 8 (o_EW (o_up (o_ou G)) [((0 : Nat), (9 : Nat), (12 : Nat), (13 : Nat)), ((0 : Nat), (9 : Nat), (16 : Nat), (15 : Nat))] (some (.int r)) σ') (o_k σ') s 0 [(0, .ref (g_ad G 0)), (1, .long p1), (3, .ref (g_ad G 43))] [] := by
  unfold f_L_feed at h
  refine z_aload_n dL_feed_0 2 rfl ?_
  refine z_iconst (v := 0) dL_feed_1 (by decide) ?_
  refine z_aload_n dL_feed_2 0 rfl ?_
  refine z_lload_n dL_feed_3 1 rfl ?_
  rcases o_bdx h with ⟨ex, s1, e1, h⟩ | ⟨v1, s1, e1, h⟩
  · refine zw_callV (o := .inl ex) (As := [.long _]) (e_X6_feed e1) (by decide) mi_X6_feed ml_L_7 rfl rfl (Nat.le_of_ble_eq_true rfl) rv_0 dL_feed_4 (hh := [((0 : Nat), (9 : Nat), (12 : Nat), (13 : Nat)), ((0 : Nat), (9 : Nat), (16 : Nat), (15 : Nat))]) (fun X h => h.2) (fun e he => ?_) (fun v he => by cases he)
    cases he
    by_cases h0 : ex = 1
    · subst h0
      replace h := o_ip rfl h
      cases h
      refine ⟨[], ⟨0, 9, 12, 13⟩, _, rfl, (by intro z hz; cases hz), by decide, by decide, kl_L_13, by decide, fun q => ?_⟩
      refine z_astore (L' := [(4, .ref _), (0, .ref _), (1, .long _), (3, .ref _)]) dL_feed_12 (by decide) rfl ?_
      refine z_iconst (v := 1) dL_feed_14 (by decide) ?_
      exact zw_iret rfl rfl rfl dL_feed_15
    · replace h := o_in h0 h
      by_cases h1 : ex = 2
      · subst h1
        replace h := o_ip rfl h
        cases h
        refine ⟨[⟨0, 9, 12, 13⟩], ⟨0, 9, 16, 15⟩, _, rfl, (by intro z hz; rcases List.mem_singleton.mp hz with rfl; exact ⟨by decide, _, kl_L_13, by decide⟩), by decide, by decide, kl_L_15, by decide, fun q => ?_⟩
        refine z_astore (L' := [(4, .ref _), (0, .ref _), (1, .long _), (3, .ref _)]) dL_feed_16 (by decide) rfl ?_
        refine z_iconst (v := 2) dL_feed_18 (by decide) ?_
        exact zw_iret rfl rfl rfl dL_feed_19
      · replace h := o_in h1 h
        cases h
  · refine zw_callV (o := .inr (some (.int v1))) (As := [.long _]) (e_X6_feed e1) (by decide) mi_X6_feed ml_L_7 rfl rfl (Nat.le_of_ble_eq_true rfl) rv_0 dL_feed_4 (hh := [((0 : Nat), (9 : Nat), (12 : Nat), (13 : Nat)), ((0 : Nat), (9 : Nat), (16 : Nat), (15 : Nat))]) (fun X h => h.2) (fun e he => by cases he) (fun v he => ?_)
    cases he
    refine z_i2l dL_feed_7 ?_
    replace h := o_dd h
    refine zs_outL (by decide) dL_feed_8 ?_
    refine z_goto (tgt := 20) dL_feed_9 (by decide) ?_
    refine z_iconst (v := 0) dL_feed_20 (by decide) ?_
    cases h
    exact zw_iret rfl rfl rfl dL_feed_21
theorem e_L_feed {G : o_G} {N : Nat} {r : Int32} {σ' : o_S} {p1 : Int64} {s : o_S} (h : f_L_feed N p1 s = some (r, σ')) : o_EvW (o_up (o_ou G)) yL_feed cL_feed 5 (some .int) [((0 : Nat), (9 : Nat), (12 : Nat), (13 : Nat)), ((0 : Nat), (9 : Nat), (16 : Nat), (15 : Nat))] 8 [.ref (g_ad G 0), .long p1, .ref (g_ad G 43)] s (some (.int r)) σ' := o_EvW.mk rfl (Nat.le_of_ble_eq_true rfl) (s_L_feed h)
theorem mi_L_feed : o_MW yL_feed cL_feed 5 (some .int) [((0 : Nat), (9 : Nat), (12 : Nat), (13 : Nat)), ((0 : Nat), (9 : Nat), (16 : Nat), (15 : Nat))] 3 := ⟨sm_L_feed, in_L, co_L_feed, by decide, by decide, by decide, by decide +kernel⟩
set_option maxRecDepth 10000 in
theorem s_L_trim {G : o_G} {N : Nat} {r : Int32} {σ' : o_S} {p1 : Int32} {s : o_S} (h : f_L_trim N p1 s = some (r, σ')) : o_Z (o_up (o_ou G)) RL cL_trim (some .int) 4 7 (o_EW (o_up (o_ou G)) [((0 : Nat), (9 : Nat), (12 : Nat), (13 : Nat))] (some (.int r)) σ') (o_k σ') s 0 [(0, .ref (g_ad G 0)), (1, .int p1), (2, .ref (g_ad G 43))] [] := by
  unfold f_L_trim at h
  refine z_aload_n dL_trim_0 2 rfl ?_
  refine z_iconst (v := 0) dL_trim_1 (by decide) ?_
  refine z_aload_n dL_trim_2 0 rfl ?_
  refine z_iload_n dL_trim_3 1 rfl ?_
  rcases o_bdx h with ⟨ex, s1, e1, h⟩ | ⟨v1, s1, e1, h⟩
  · refine zw_callV (o := .inl ex) (As := [.int _]) (e_X6_trim e1) (by decide) mi_X6_trim ml_L_17 rfl rfl (Nat.le_of_ble_eq_true rfl) rv_0 dL_trim_4 (hh := [((0 : Nat), (9 : Nat), (12 : Nat), (13 : Nat))]) (fun X h => h.2) (fun e he => ?_) (fun v he => by cases he)
    cases he
    by_cases h0 : ex = 1
    · subst h0
      replace h := o_ip rfl h
      cases h
      refine ⟨[], ⟨0, 9, 12, 13⟩, _, rfl, (by intro z hz; cases hz), by decide, by decide, kl_L_13, by decide, fun q => ?_⟩
      refine z_astore_n (L' := [(3, .ref _), (0, .ref _), (1, .int _), (2, .ref _)]) dL_trim_12 (by decide) rfl ?_
      refine z_iconst (v := 1) dL_trim_13 (by decide) ?_
      exact zw_iret rfl rfl rfl dL_trim_14
    · replace h := o_in h0 h
      cases h
  · refine zw_callV (o := .inr (some (.int v1))) (As := [.int _]) (e_X6_trim e1) (by decide) mi_X6_trim ml_L_17 rfl rfl (Nat.le_of_ble_eq_true rfl) rv_0 dL_trim_4 (hh := [((0 : Nat), (9 : Nat), (12 : Nat), (13 : Nat))]) (fun X h => h.2) (fun e he => by cases he) (fun v he => ?_)
    cases he
    refine z_i2l dL_trim_7 ?_
    replace h := o_dd h
    refine zs_outL (by decide) dL_trim_8 ?_
    refine z_goto (tgt := 15) dL_trim_9 (by decide) ?_
    refine z_iconst (v := 0) dL_trim_15 (by decide) ?_
    cases h
    exact zw_iret rfl rfl rfl dL_trim_16
theorem e_L_trim {G : o_G} {N : Nat} {r : Int32} {σ' : o_S} {p1 : Int32} {s : o_S} (h : f_L_trim N p1 s = some (r, σ')) : o_EvW (o_up (o_ou G)) yL_trim cL_trim 4 (some .int) [((0 : Nat), (9 : Nat), (12 : Nat), (13 : Nat))] 7 [.ref (g_ad G 0), .int p1, .ref (g_ad G 43)] s (some (.int r)) σ' := o_EvW.mk rfl (Nat.le_of_ble_eq_true rfl) (s_L_trim h)
theorem mi_L_trim : o_MW yL_trim cL_trim 4 (some .int) [((0 : Nat), (9 : Nat), (12 : Nat), (13 : Nat))] 3 := ⟨sm_L_trim, in_L, co_L_trim, by decide, by decide, by decide, by decide +kernel⟩
set_option maxRecDepth 10000 in
theorem s_L_repair {G : o_G} {N : Nat} {r : Int32} {σ' : o_S} {p1 : Int32} {p2 : Int32} {s : o_S} (h : f_L_repair N p1 p2 s = some (r, σ')) : o_Z (o_up (o_ou G)) RL cL_repair (some .int) 5 7 (o_EW (o_up (o_ou G)) [((0 : Nat), (10 : Nat), (13 : Nat), (25 : Nat))] (some (.int r)) σ') (o_k σ') s 0 [(0, .ref (g_ad G 0)), (1, .int p1), (2, .int p2), (3, .ref (g_ad G 43))] [] := by
  unfold f_L_repair at h
  refine z_aload_n dL_repair_0 3 rfl ?_
  refine z_iconst (v := 0) dL_repair_1 (by decide) ?_
  refine z_aload_n dL_repair_2 0 rfl ?_
  refine z_iload_n dL_repair_3 1 rfl ?_
  refine z_iload_n dL_repair_4 2 rfl ?_
  rcases o_bdx h with ⟨ex, s1, e1, h⟩ | ⟨v1, s1, e1, h⟩
  · refine zw_callV (o := .inl ex) (As := [.int _, .int _]) (e_X6_repair e1) (by decide) mi_X6_repair ml_L_21 rfl rfl (Nat.le_of_ble_eq_true rfl) rv_0 dL_repair_5 (hh := [((0 : Nat), (10 : Nat), (13 : Nat), (25 : Nat))]) (fun X h => h.2) (fun e he => ?_) (fun v he => by cases he)
    cases he
    by_cases h0 : ex = 3
    · subst h0
      replace h := o_ip rfl h
      cases h
      refine ⟨[], ⟨0, 10, 13, 25⟩, _, rfl, (by intro z hz; cases hz), by decide, by decide, kl_L_25, by decide, fun q => ?_⟩
      refine z_astore (L' := [(4, .ref _), (0, .ref _), (1, .int _), (2, .int _), (3, .ref _)]) dL_repair_13 (by decide) rfl ?_
      refine z_iconst (v := 1) dL_repair_15 (by decide) ?_
      exact zw_iret rfl rfl rfl dL_repair_16
    · replace h := o_in h0 h
      cases h
  · refine zw_callV (o := .inr (some (.int v1))) (As := [.int _, .int _]) (e_X6_repair e1) (by decide) mi_X6_repair ml_L_21 rfl rfl (Nat.le_of_ble_eq_true rfl) rv_0 dL_repair_5 (hh := [((0 : Nat), (10 : Nat), (13 : Nat), (25 : Nat))]) (fun X h => h.2) (fun e he => by cases he) (fun v he => ?_)
    cases he
    refine z_i2l dL_repair_8 ?_
    replace h := o_dd h
    refine zs_outL (by decide) dL_repair_9 ?_
    refine z_goto (tgt := 17) dL_repair_10 (by decide) ?_
    refine z_iconst (v := 0) dL_repair_17 (by decide) ?_
    cases h
    exact zw_iret rfl rfl rfl dL_repair_18
theorem e_L_repair {G : o_G} {N : Nat} {r : Int32} {σ' : o_S} {p1 : Int32} {p2 : Int32} {s : o_S} (h : f_L_repair N p1 p2 s = some (r, σ')) : o_EvW (o_up (o_ou G)) yL_repair cL_repair 5 (some .int) [((0 : Nat), (10 : Nat), (13 : Nat), (25 : Nat))] 7 [.ref (g_ad G 0), .int p1, .int p2, .ref (g_ad G 43)] s (some (.int r)) σ' := o_EvW.mk rfl (Nat.le_of_ble_eq_true rfl) (s_L_repair h)
theorem mi_L_repair : o_MW yL_repair cL_repair 5 (some .int) [((0 : Nat), (10 : Nat), (13 : Nat), (25 : Nat))] 4 := ⟨sm_L_repair, in_L, co_L_repair, by decide, by decide, by decide, by decide +kernel⟩
set_option maxRecDepth 10000 in
theorem s_L_kind {G : o_G} {N : Nat} {r : Int32} {σ' : o_S} {p1 : Int32} {s : o_S} (h : f_L_kind N p1 s = some (r, σ')) : o_Z (o_up (o_ou G)) RL cL_kind (some .int) 4 8 (o_EW (o_up (o_ou G)) [((0 : Nat), (9 : Nat), (12 : Nat), (25 : Nat))] (some (.int r)) σ') (o_k σ') s 0 [(0, .ref (g_ad G 0)), (1, .int p1), (2, .ref (g_ad G 43))] [] := by
  unfold f_L_kind at h
  refine z_aload_n dL_kind_0 2 rfl ?_
  refine z_iconst (v := 0) dL_kind_1 (by decide) ?_
  refine z_aload_n dL_kind_2 0 rfl ?_
  refine z_iload_n dL_kind_3 1 rfl ?_
  rcases o_bdx h with ⟨ex, s1, e1, h⟩ | ⟨v1, s1, e1, h⟩
  · refine zw_callV (o := .inl ex) (As := [.int _]) (e_X6_kind e1) (by decide) mi_X6_kind ml_L_27 rfl rfl (Nat.le_of_ble_eq_true rfl) rv_0 dL_kind_4 (hh := [((0 : Nat), (9 : Nat), (12 : Nat), (25 : Nat))]) (fun X h => h.2) (fun e he => ?_) (fun v he => by cases he)
    cases he
    by_cases h0 : ex = 3
    · subst h0
      replace h := o_ip rfl h
      cases h
      refine ⟨[], ⟨0, 9, 12, 25⟩, _, rfl, (by intro z hz; cases hz), by decide, by decide, kl_L_25, by decide, fun q => ?_⟩
      refine z_astore_n (L' := [(3, .ref _), (0, .ref _), (1, .int _), (2, .ref _)]) dL_kind_12 (by decide) rfl ?_
      refine z_iconst (v := 1) dL_kind_13 (by decide) ?_
      exact zw_iret rfl rfl rfl dL_kind_14
    · replace h := o_in h0 h
      cases h
  · refine zw_callV (o := .inr (some (.int v1))) (As := [.int _]) (e_X6_kind e1) (by decide) mi_X6_kind ml_L_27 rfl rfl (Nat.le_of_ble_eq_true rfl) rv_0 dL_kind_4 (hh := [((0 : Nat), (9 : Nat), (12 : Nat), (25 : Nat))]) (fun X h => h.2) (fun e he => by cases he) (fun v he => ?_)
    cases he
    refine z_i2l dL_kind_7 ?_
    replace h := o_dd h
    refine zs_outL (by decide) dL_kind_8 ?_
    refine z_goto (tgt := 15) dL_kind_9 (by decide) ?_
    refine z_iconst (v := 0) dL_kind_15 (by decide) ?_
    cases h
    exact zw_iret rfl rfl rfl dL_kind_16
theorem e_L_kind {G : o_G} {N : Nat} {r : Int32} {σ' : o_S} {p1 : Int32} {s : o_S} (h : f_L_kind N p1 s = some (r, σ')) : o_EvW (o_up (o_ou G)) yL_kind cL_kind 4 (some .int) [((0 : Nat), (9 : Nat), (12 : Nat), (25 : Nat))] 8 [.ref (g_ad G 0), .int p1, .ref (g_ad G 43)] s (some (.int r)) σ' := o_EvW.mk rfl (Nat.le_of_ble_eq_true rfl) (s_L_kind h)
theorem mi_L_kind : o_MW yL_kind cL_kind 4 (some .int) [((0 : Nat), (9 : Nat), (12 : Nat), (25 : Nat))] 3 := ⟨sm_L_kind, in_L, co_L_kind, by decide, by decide, by decide, by decide +kernel⟩
set_option maxRecDepth 10000 in
theorem s_L_parent {G : o_G} {N : Nat} {r : Int32} {σ' : o_S} {p1 : Int32} {s : o_S} (h : f_L_parent N p1 s = some (r, σ')) : o_Z (o_up (o_ou G)) RL cL_parent (some .int) 4 8 (o_EW (o_up (o_ou G)) [((0 : Nat), (9 : Nat), (12 : Nat), (25 : Nat))] (some (.int r)) σ') (o_k σ') s 0 [(0, .ref (g_ad G 0)), (1, .int p1), (2, .ref (g_ad G 43))] [] := by
  unfold f_L_parent at h
  refine z_aload_n dL_parent_0 2 rfl ?_
  refine z_iconst (v := 0) dL_parent_1 (by decide) ?_
  refine z_aload_n dL_parent_2 0 rfl ?_
  refine z_iload_n dL_parent_3 1 rfl ?_
  rcases o_bdx h with ⟨ex, s1, e1, h⟩ | ⟨v1, s1, e1, h⟩
  · refine zw_callV (o := .inl ex) (As := [.int _]) (e_X6_parent e1) (by decide) mi_X6_parent ml_L_30 rfl rfl (Nat.le_of_ble_eq_true rfl) rv_0 dL_parent_4 (hh := [((0 : Nat), (9 : Nat), (12 : Nat), (25 : Nat))]) (fun X h => h.2) (fun e he => ?_) (fun v he => by cases he)
    cases he
    by_cases h0 : ex = 3
    · subst h0
      replace h := o_ip rfl h
      cases h
      refine ⟨[], ⟨0, 9, 12, 25⟩, _, rfl, (by intro z hz; cases hz), by decide, by decide, kl_L_25, by decide, fun q => ?_⟩
      refine z_astore_n (L' := [(3, .ref _), (0, .ref _), (1, .int _), (2, .ref _)]) dL_parent_12 (by decide) rfl ?_
      refine z_iconst (v := 1) dL_parent_13 (by decide) ?_
      exact zw_iret rfl rfl rfl dL_parent_14
    · replace h := o_in h0 h
      cases h
  · refine zw_callV (o := .inr (some (.int v1))) (As := [.int _]) (e_X6_parent e1) (by decide) mi_X6_parent ml_L_30 rfl rfl (Nat.le_of_ble_eq_true rfl) rv_0 dL_parent_4 (hh := [((0 : Nat), (9 : Nat), (12 : Nat), (25 : Nat))]) (fun X h => h.2) (fun e he => by cases he) (fun v he => ?_)
    cases he
    refine z_i2l dL_parent_7 ?_
    replace h := o_dd h
    refine zs_outL (by decide) dL_parent_8 ?_
    refine z_goto (tgt := 15) dL_parent_9 (by decide) ?_
    refine z_iconst (v := 0) dL_parent_15 (by decide) ?_
    cases h
    exact zw_iret rfl rfl rfl dL_parent_16
theorem e_L_parent {G : o_G} {N : Nat} {r : Int32} {σ' : o_S} {p1 : Int32} {s : o_S} (h : f_L_parent N p1 s = some (r, σ')) : o_EvW (o_up (o_ou G)) yL_parent cL_parent 4 (some .int) [((0 : Nat), (9 : Nat), (12 : Nat), (25 : Nat))] 8 [.ref (g_ad G 0), .int p1, .ref (g_ad G 43)] s (some (.int r)) σ' := o_EvW.mk rfl (Nat.le_of_ble_eq_true rfl) (s_L_parent h)
theorem mi_L_parent : o_MW yL_parent cL_parent 4 (some .int) [((0 : Nat), (9 : Nat), (12 : Nat), (25 : Nat))] 3 := ⟨sm_L_parent, in_L, co_L_parent, by decide, by decide, by decide, by decide +kernel⟩
set_option maxRecDepth 10000 in
theorem s_L_childCount {G : o_G} {N : Nat} {r : Int32} {σ' : o_S} {p1 : Int32} {s : o_S} (h : f_L_childCount N p1 s = some (r, σ')) : o_Z (o_up (o_ou G)) RL cL_childCount (some .int) 4 8 (o_EW (o_up (o_ou G)) [((0 : Nat), (9 : Nat), (12 : Nat), (25 : Nat))] (some (.int r)) σ') (o_k σ') s 0 [(0, .ref (g_ad G 0)), (1, .int p1), (2, .ref (g_ad G 43))] [] := by
  unfold f_L_childCount at h
  refine z_aload_n dL_childCount_0 2 rfl ?_
  refine z_iconst (v := 0) dL_childCount_1 (by decide) ?_
  refine z_aload_n dL_childCount_2 0 rfl ?_
  refine z_iload_n dL_childCount_3 1 rfl ?_
  rcases o_bdx h with ⟨ex, s1, e1, h⟩ | ⟨v1, s1, e1, h⟩
  · refine zw_callV (o := .inl ex) (As := [.int _]) (e_X6_childCount e1) (by decide) mi_X6_childCount ml_L_33 rfl rfl (Nat.le_of_ble_eq_true rfl) rv_0 dL_childCount_4 (hh := [((0 : Nat), (9 : Nat), (12 : Nat), (25 : Nat))]) (fun X h => h.2) (fun e he => ?_) (fun v he => by cases he)
    cases he
    by_cases h0 : ex = 3
    · subst h0
      replace h := o_ip rfl h
      cases h
      refine ⟨[], ⟨0, 9, 12, 25⟩, _, rfl, (by intro z hz; cases hz), by decide, by decide, kl_L_25, by decide, fun q => ?_⟩
      refine z_astore_n (L' := [(3, .ref _), (0, .ref _), (1, .int _), (2, .ref _)]) dL_childCount_12 (by decide) rfl ?_
      refine z_iconst (v := 1) dL_childCount_13 (by decide) ?_
      exact zw_iret rfl rfl rfl dL_childCount_14
    · replace h := o_in h0 h
      cases h
  · refine zw_callV (o := .inr (some (.int v1))) (As := [.int _]) (e_X6_childCount e1) (by decide) mi_X6_childCount ml_L_33 rfl rfl (Nat.le_of_ble_eq_true rfl) rv_0 dL_childCount_4 (hh := [((0 : Nat), (9 : Nat), (12 : Nat), (25 : Nat))]) (fun X h => h.2) (fun e he => by cases he) (fun v he => ?_)
    cases he
    refine z_i2l dL_childCount_7 ?_
    replace h := o_dd h
    refine zs_outL (by decide) dL_childCount_8 ?_
    refine z_goto (tgt := 15) dL_childCount_9 (by decide) ?_
    refine z_iconst (v := 0) dL_childCount_15 (by decide) ?_
    cases h
    exact zw_iret rfl rfl rfl dL_childCount_16
theorem e_L_childCount {G : o_G} {N : Nat} {r : Int32} {σ' : o_S} {p1 : Int32} {s : o_S} (h : f_L_childCount N p1 s = some (r, σ')) : o_EvW (o_up (o_ou G)) yL_childCount cL_childCount 4 (some .int) [((0 : Nat), (9 : Nat), (12 : Nat), (25 : Nat))] 8 [.ref (g_ad G 0), .int p1, .ref (g_ad G 43)] s (some (.int r)) σ' := o_EvW.mk rfl (Nat.le_of_ble_eq_true rfl) (s_L_childCount h)
theorem mi_L_childCount : o_MW yL_childCount cL_childCount 4 (some .int) [((0 : Nat), (9 : Nat), (12 : Nat), (25 : Nat))] 3 := ⟨sm_L_childCount, in_L, co_L_childCount, by decide, by decide, by decide, by decide +kernel⟩
set_option maxRecDepth 10000 in
theorem s_L_child {G : o_G} {N : Nat} {r : Int32} {σ' : o_S} {p1 : Int32} {p2 : Int32} {s : o_S} (h : f_L_child N p1 p2 s = some (r, σ')) : o_Z (o_up (o_ou G)) RL cL_child (some .int) 5 8 (o_EW (o_up (o_ou G)) [((0 : Nat), (10 : Nat), (13 : Nat), (25 : Nat))] (some (.int r)) σ') (o_k σ') s 0 [(0, .ref (g_ad G 0)), (1, .int p1), (2, .int p2), (3, .ref (g_ad G 43))] [] := by
  unfold f_L_child at h
  refine z_aload_n dL_child_0 3 rfl ?_
  refine z_iconst (v := 0) dL_child_1 (by decide) ?_
  refine z_aload_n dL_child_2 0 rfl ?_
  refine z_iload_n dL_child_3 1 rfl ?_
  refine z_iload_n dL_child_4 2 rfl ?_
  rcases o_bdx h with ⟨ex, s1, e1, h⟩ | ⟨v1, s1, e1, h⟩
  · refine zw_callV (o := .inl ex) (As := [.int _, .int _]) (e_X6_child e1) (by decide) mi_X6_child ml_L_36 rfl rfl (Nat.le_of_ble_eq_true rfl) rv_0 dL_child_5 (hh := [((0 : Nat), (10 : Nat), (13 : Nat), (25 : Nat))]) (fun X h => h.2) (fun e he => ?_) (fun v he => by cases he)
    cases he
    by_cases h0 : ex = 3
    · subst h0
      replace h := o_ip rfl h
      cases h
      refine ⟨[], ⟨0, 10, 13, 25⟩, _, rfl, (by intro z hz; cases hz), by decide, by decide, kl_L_25, by decide, fun q => ?_⟩
      refine z_astore (L' := [(4, .ref _), (0, .ref _), (1, .int _), (2, .int _), (3, .ref _)]) dL_child_13 (by decide) rfl ?_
      refine z_iconst (v := 1) dL_child_15 (by decide) ?_
      exact zw_iret rfl rfl rfl dL_child_16
    · replace h := o_in h0 h
      cases h
  · refine zw_callV (o := .inr (some (.int v1))) (As := [.int _, .int _]) (e_X6_child e1) (by decide) mi_X6_child ml_L_36 rfl rfl (Nat.le_of_ble_eq_true rfl) rv_0 dL_child_5 (hh := [((0 : Nat), (10 : Nat), (13 : Nat), (25 : Nat))]) (fun X h => h.2) (fun e he => by cases he) (fun v he => ?_)
    cases he
    refine z_i2l dL_child_8 ?_
    replace h := o_dd h
    refine zs_outL (by decide) dL_child_9 ?_
    refine z_goto (tgt := 17) dL_child_10 (by decide) ?_
    refine z_iconst (v := 0) dL_child_17 (by decide) ?_
    cases h
    exact zw_iret rfl rfl rfl dL_child_18
theorem e_L_child {G : o_G} {N : Nat} {r : Int32} {σ' : o_S} {p1 : Int32} {p2 : Int32} {s : o_S} (h : f_L_child N p1 p2 s = some (r, σ')) : o_EvW (o_up (o_ou G)) yL_child cL_child 5 (some .int) [((0 : Nat), (10 : Nat), (13 : Nat), (25 : Nat))] 8 [.ref (g_ad G 0), .int p1, .int p2, .ref (g_ad G 43)] s (some (.int r)) σ' := o_EvW.mk rfl (Nat.le_of_ble_eq_true rfl) (s_L_child h)
theorem mi_L_child : o_MW yL_child cL_child 5 (some .int) [((0 : Nat), (10 : Nat), (13 : Nat), (25 : Nat))] 4 := ⟨sm_L_child, in_L, co_L_child, by decide, by decide, by decide, by decide +kernel⟩
set_option maxRecDepth 10000 in
theorem s_L_line {G : o_G} {N : Nat} {r : Int32} {σ' : o_S} {p1 : Int32} {s : o_S} (h : f_L_line N p1 s = some (r, σ')) : o_Z (o_up (o_ou G)) RL cL_line (some .int) 4 8 (o_EW (o_up (o_ou G)) [((0 : Nat), (9 : Nat), (12 : Nat), (25 : Nat))] (some (.int r)) σ') (o_k σ') s 0 [(0, .ref (g_ad G 0)), (1, .int p1), (2, .ref (g_ad G 43))] [] := by
  unfold f_L_line at h
  refine z_aload_n dL_line_0 2 rfl ?_
  refine z_iconst (v := 0) dL_line_1 (by decide) ?_
  refine z_aload_n dL_line_2 0 rfl ?_
  refine z_iload_n dL_line_3 1 rfl ?_
  rcases o_bdx h with ⟨ex, s1, e1, h⟩ | ⟨v1, s1, e1, h⟩
  · refine zw_callV (o := .inl ex) (As := [.int _]) (e_X6_line e1) (by decide) mi_X6_line ml_L_39 rfl rfl (Nat.le_of_ble_eq_true rfl) rv_0 dL_line_4 (hh := [((0 : Nat), (9 : Nat), (12 : Nat), (25 : Nat))]) (fun X h => h.2) (fun e he => ?_) (fun v he => by cases he)
    cases he
    by_cases h0 : ex = 3
    · subst h0
      replace h := o_ip rfl h
      cases h
      refine ⟨[], ⟨0, 9, 12, 25⟩, _, rfl, (by intro z hz; cases hz), by decide, by decide, kl_L_25, by decide, fun q => ?_⟩
      refine z_astore_n (L' := [(3, .ref _), (0, .ref _), (1, .int _), (2, .ref _)]) dL_line_12 (by decide) rfl ?_
      refine z_iconst (v := 1) dL_line_13 (by decide) ?_
      exact zw_iret rfl rfl rfl dL_line_14
    · replace h := o_in h0 h
      cases h
  · refine zw_callV (o := .inr (some (.int v1))) (As := [.int _]) (e_X6_line e1) (by decide) mi_X6_line ml_L_39 rfl rfl (Nat.le_of_ble_eq_true rfl) rv_0 dL_line_4 (hh := [((0 : Nat), (9 : Nat), (12 : Nat), (25 : Nat))]) (fun X h => h.2) (fun e he => by cases he) (fun v he => ?_)
    cases he
    refine z_i2l dL_line_7 ?_
    replace h := o_dd h
    refine zs_outL (by decide) dL_line_8 ?_
    refine z_goto (tgt := 15) dL_line_9 (by decide) ?_
    refine z_iconst (v := 0) dL_line_15 (by decide) ?_
    cases h
    exact zw_iret rfl rfl rfl dL_line_16
theorem e_L_line {G : o_G} {N : Nat} {r : Int32} {σ' : o_S} {p1 : Int32} {s : o_S} (h : f_L_line N p1 s = some (r, σ')) : o_EvW (o_up (o_ou G)) yL_line cL_line 4 (some .int) [((0 : Nat), (9 : Nat), (12 : Nat), (25 : Nat))] 8 [.ref (g_ad G 0), .int p1, .ref (g_ad G 43)] s (some (.int r)) σ' := o_EvW.mk rfl (Nat.le_of_ble_eq_true rfl) (s_L_line h)
theorem mi_L_line : o_MW yL_line cL_line 4 (some .int) [((0 : Nat), (9 : Nat), (12 : Nat), (25 : Nat))] 3 := ⟨sm_L_line, in_L, co_L_line, by decide, by decide, by decide, by decide +kernel⟩
set_option maxRecDepth 10000 in
theorem s_L_column {G : o_G} {N : Nat} {r : Int32} {σ' : o_S} {p1 : Int32} {s : o_S} (h : f_L_column N p1 s = some (r, σ')) : o_Z (o_up (o_ou G)) RL cL_column (some .int) 4 8 (o_EW (o_up (o_ou G)) [((0 : Nat), (9 : Nat), (12 : Nat), (25 : Nat))] (some (.int r)) σ') (o_k σ') s 0 [(0, .ref (g_ad G 0)), (1, .int p1), (2, .ref (g_ad G 43))] [] := by
  unfold f_L_column at h
  refine z_aload_n dL_column_0 2 rfl ?_
  refine z_iconst (v := 0) dL_column_1 (by decide) ?_
  refine z_aload_n dL_column_2 0 rfl ?_
  refine z_iload_n dL_column_3 1 rfl ?_
  rcases o_bdx h with ⟨ex, s1, e1, h⟩ | ⟨v1, s1, e1, h⟩
  · refine zw_callV (o := .inl ex) (As := [.int _]) (e_X6_column e1) (by decide) mi_X6_column ml_L_42 rfl rfl (Nat.le_of_ble_eq_true rfl) rv_0 dL_column_4 (hh := [((0 : Nat), (9 : Nat), (12 : Nat), (25 : Nat))]) (fun X h => h.2) (fun e he => ?_) (fun v he => by cases he)
    cases he
    by_cases h0 : ex = 3
    · subst h0
      replace h := o_ip rfl h
      cases h
      refine ⟨[], ⟨0, 9, 12, 25⟩, _, rfl, (by intro z hz; cases hz), by decide, by decide, kl_L_25, by decide, fun q => ?_⟩
      refine z_astore_n (L' := [(3, .ref _), (0, .ref _), (1, .int _), (2, .ref _)]) dL_column_12 (by decide) rfl ?_
      refine z_iconst (v := 1) dL_column_13 (by decide) ?_
      exact zw_iret rfl rfl rfl dL_column_14
    · replace h := o_in h0 h
      cases h
  · refine zw_callV (o := .inr (some (.int v1))) (As := [.int _]) (e_X6_column e1) (by decide) mi_X6_column ml_L_42 rfl rfl (Nat.le_of_ble_eq_true rfl) rv_0 dL_column_4 (hh := [((0 : Nat), (9 : Nat), (12 : Nat), (25 : Nat))]) (fun X h => h.2) (fun e he => by cases he) (fun v he => ?_)
    cases he
    refine z_i2l dL_column_7 ?_
    replace h := o_dd h
    refine zs_outL (by decide) dL_column_8 ?_
    refine z_goto (tgt := 15) dL_column_9 (by decide) ?_
    refine z_iconst (v := 0) dL_column_15 (by decide) ?_
    cases h
    exact zw_iret rfl rfl rfl dL_column_16
theorem e_L_column {G : o_G} {N : Nat} {r : Int32} {σ' : o_S} {p1 : Int32} {s : o_S} (h : f_L_column N p1 s = some (r, σ')) : o_EvW (o_up (o_ou G)) yL_column cL_column 4 (some .int) [((0 : Nat), (9 : Nat), (12 : Nat), (25 : Nat))] 8 [.ref (g_ad G 0), .int p1, .ref (g_ad G 43)] s (some (.int r)) σ' := o_EvW.mk rfl (Nat.le_of_ble_eq_true rfl) (s_L_column h)
theorem mi_L_column : o_MW yL_column cL_column 4 (some .int) [((0 : Nat), (9 : Nat), (12 : Nat), (25 : Nat))] 3 := ⟨sm_L_column, in_L, co_L_column, by decide, by decide, by decide, by decide +kernel⟩
set_option maxRecDepth 10000 in
theorem s_L_value {G : o_G} {N : Nat} {r : Int32} {σ' : o_S} {p1 : Int32} {s : o_S} (h : f_L_value N p1 s = some (r, σ')) : o_Z (o_up (o_ou G)) RL cL_value (some .int) 4 8 (o_EW (o_up (o_ou G)) [((0 : Nat), (9 : Nat), (12 : Nat), (25 : Nat))] (some (.int r)) σ') (o_k σ') s 0 [(0, .ref (g_ad G 0)), (1, .int p1), (2, .ref (g_ad G 43))] [] := by
  unfold f_L_value at h
  refine z_aload_n dL_value_0 2 rfl ?_
  refine z_iconst (v := 0) dL_value_1 (by decide) ?_
  refine z_aload_n dL_value_2 0 rfl ?_
  refine z_iload_n dL_value_3 1 rfl ?_
  rcases o_bdx h with ⟨ex, s1, e1, h⟩ | ⟨v1, s1, e1, h⟩
  · refine zw_callV (o := .inl ex) (As := [.int _]) (e_X6_value e1) (by decide) mi_X6_value ml_L_45 rfl rfl (Nat.le_of_ble_eq_true rfl) rv_0 dL_value_4 (hh := [((0 : Nat), (9 : Nat), (12 : Nat), (25 : Nat))]) (fun X h => h.2) (fun e he => ?_) (fun v he => by cases he)
    cases he
    by_cases h0 : ex = 3
    · subst h0
      replace h := o_ip rfl h
      cases h
      refine ⟨[], ⟨0, 9, 12, 25⟩, _, rfl, (by intro z hz; cases hz), by decide, by decide, kl_L_25, by decide, fun q => ?_⟩
      refine z_astore_n (L' := [(3, .ref _), (0, .ref _), (1, .int _), (2, .ref _)]) dL_value_12 (by decide) rfl ?_
      refine z_iconst (v := 1) dL_value_13 (by decide) ?_
      exact zw_iret rfl rfl rfl dL_value_14
    · replace h := o_in h0 h
      cases h
  · refine zw_callV (o := .inr (some (.int v1))) (As := [.int _]) (e_X6_value e1) (by decide) mi_X6_value ml_L_45 rfl rfl (Nat.le_of_ble_eq_true rfl) rv_0 dL_value_4 (hh := [((0 : Nat), (9 : Nat), (12 : Nat), (25 : Nat))]) (fun X h => h.2) (fun e he => by cases he) (fun v he => ?_)
    cases he
    refine z_i2l dL_value_7 ?_
    replace h := o_dd h
    refine zs_outL (by decide) dL_value_8 ?_
    refine z_goto (tgt := 15) dL_value_9 (by decide) ?_
    refine z_iconst (v := 0) dL_value_15 (by decide) ?_
    cases h
    exact zw_iret rfl rfl rfl dL_value_16
theorem e_L_value {G : o_G} {N : Nat} {r : Int32} {σ' : o_S} {p1 : Int32} {s : o_S} (h : f_L_value N p1 s = some (r, σ')) : o_EvW (o_up (o_ou G)) yL_value cL_value 4 (some .int) [((0 : Nat), (9 : Nat), (12 : Nat), (25 : Nat))] 8 [.ref (g_ad G 0), .int p1, .ref (g_ad G 43)] s (some (.int r)) σ' := o_EvW.mk rfl (Nat.le_of_ble_eq_true rfl) (s_L_value h)
theorem mi_L_value : o_MW yL_value cL_value 4 (some .int) [((0 : Nat), (9 : Nat), (12 : Nat), (25 : Nat))] 3 := ⟨sm_L_value, in_L, co_L_value, by decide, by decide, by decide, by decide +kernel⟩
set_option maxRecDepth 10000 in
theorem s_L_letter {G : o_G} {N : Nat} {r : Int32} {σ' : o_S} {p1 : Int32} {p2 : Int32} {s : o_S} (h : f_L_letter N p1 p2 s = some (r, σ')) : o_Z (o_up (o_ou G)) RL cL_letter (some .int) 5 8 (o_EW (o_up (o_ou G)) [((0 : Nat), (10 : Nat), (13 : Nat), (25 : Nat))] (some (.int r)) σ') (o_k σ') s 0 [(0, .ref (g_ad G 0)), (1, .int p1), (2, .int p2), (3, .ref (g_ad G 43))] [] := by
  unfold f_L_letter at h
  refine z_aload_n dL_letter_0 3 rfl ?_
  refine z_iconst (v := 0) dL_letter_1 (by decide) ?_
  refine z_aload_n dL_letter_2 0 rfl ?_
  refine z_iload_n dL_letter_3 1 rfl ?_
  refine z_iload_n dL_letter_4 2 rfl ?_
  rcases o_bdx h with ⟨ex, s1, e1, h⟩ | ⟨v1, s1, e1, h⟩
  · refine zw_callV (o := .inl ex) (As := [.int _, .int _]) (e_X6_letter e1) (by decide) mi_X6_letter ml_L_48 rfl rfl (Nat.le_of_ble_eq_true rfl) rv_0 dL_letter_5 (hh := [((0 : Nat), (10 : Nat), (13 : Nat), (25 : Nat))]) (fun X h => h.2) (fun e he => ?_) (fun v he => by cases he)
    cases he
    by_cases h0 : ex = 3
    · subst h0
      replace h := o_ip rfl h
      cases h
      refine ⟨[], ⟨0, 10, 13, 25⟩, _, rfl, (by intro z hz; cases hz), by decide, by decide, kl_L_25, by decide, fun q => ?_⟩
      refine z_astore (L' := [(4, .ref _), (0, .ref _), (1, .int _), (2, .int _), (3, .ref _)]) dL_letter_13 (by decide) rfl ?_
      refine z_iconst (v := 1) dL_letter_15 (by decide) ?_
      exact zw_iret rfl rfl rfl dL_letter_16
    · replace h := o_in h0 h
      cases h
  · refine zw_callV (o := .inr (some (.int v1))) (As := [.int _, .int _]) (e_X6_letter e1) (by decide) mi_X6_letter ml_L_48 rfl rfl (Nat.le_of_ble_eq_true rfl) rv_0 dL_letter_5 (hh := [((0 : Nat), (10 : Nat), (13 : Nat), (25 : Nat))]) (fun X h => h.2) (fun e he => by cases he) (fun v he => ?_)
    cases he
    refine z_i2l dL_letter_8 ?_
    replace h := o_dd h
    refine zs_outL (by decide) dL_letter_9 ?_
    refine z_goto (tgt := 17) dL_letter_10 (by decide) ?_
    refine z_iconst (v := 0) dL_letter_17 (by decide) ?_
    cases h
    exact zw_iret rfl rfl rfl dL_letter_18
theorem e_L_letter {G : o_G} {N : Nat} {r : Int32} {σ' : o_S} {p1 : Int32} {p2 : Int32} {s : o_S} (h : f_L_letter N p1 p2 s = some (r, σ')) : o_EvW (o_up (o_ou G)) yL_letter cL_letter 5 (some .int) [((0 : Nat), (10 : Nat), (13 : Nat), (25 : Nat))] 8 [.ref (g_ad G 0), .int p1, .int p2, .ref (g_ad G 43)] s (some (.int r)) σ' := o_EvW.mk rfl (Nat.le_of_ble_eq_true rfl) (s_L_letter h)
theorem mi_L_letter : o_MW yL_letter cL_letter 5 (some .int) [((0 : Nat), (10 : Nat), (13 : Nat), (25 : Nat))] 4 := ⟨sm_L_letter, in_L, co_L_letter, by decide, by decide, by decide, by decide +kernel⟩
set_option maxRecDepth 10000 in
theorem s_L_depth {G : o_G} {N : Nat} {r : Int32} {σ' : o_S} {p1 : Int32} {s : o_S} (h : f_L_depth N p1 s = some (r, σ')) : o_Z (o_up (o_ou G)) RL cL_depth (some .int) 4 8 (o_EW (o_up (o_ou G)) [((0 : Nat), (9 : Nat), (12 : Nat), (25 : Nat))] (some (.int r)) σ') (o_k σ') s 0 [(0, .ref (g_ad G 0)), (1, .int p1), (2, .ref (g_ad G 43))] [] := by
  unfold f_L_depth at h
  refine z_aload_n dL_depth_0 2 rfl ?_
  refine z_iconst (v := 0) dL_depth_1 (by decide) ?_
  refine z_aload_n dL_depth_2 0 rfl ?_
  refine z_iload_n dL_depth_3 1 rfl ?_
  rcases o_bdx h with ⟨ex, s1, e1, h⟩ | ⟨v1, s1, e1, h⟩
  · refine zw_callV (o := .inl ex) (As := [.int _]) (e_X6_depth e1) (by decide) mi_X6_depth ml_L_51 rfl rfl (Nat.le_of_ble_eq_true rfl) rv_0 dL_depth_4 (hh := [((0 : Nat), (9 : Nat), (12 : Nat), (25 : Nat))]) (fun X h => h.2) (fun e he => ?_) (fun v he => by cases he)
    cases he
    by_cases h0 : ex = 3
    · subst h0
      replace h := o_ip rfl h
      cases h
      refine ⟨[], ⟨0, 9, 12, 25⟩, _, rfl, (by intro z hz; cases hz), by decide, by decide, kl_L_25, by decide, fun q => ?_⟩
      refine z_astore_n (L' := [(3, .ref _), (0, .ref _), (1, .int _), (2, .ref _)]) dL_depth_12 (by decide) rfl ?_
      refine z_iconst (v := 1) dL_depth_13 (by decide) ?_
      exact zw_iret rfl rfl rfl dL_depth_14
    · replace h := o_in h0 h
      cases h
  · refine zw_callV (o := .inr (some (.int v1))) (As := [.int _]) (e_X6_depth e1) (by decide) mi_X6_depth ml_L_51 rfl rfl (Nat.le_of_ble_eq_true rfl) rv_0 dL_depth_4 (hh := [((0 : Nat), (9 : Nat), (12 : Nat), (25 : Nat))]) (fun X h => h.2) (fun e he => by cases he) (fun v he => ?_)
    cases he
    refine z_i2l dL_depth_7 ?_
    replace h := o_dd h
    refine zs_outL (by decide) dL_depth_8 ?_
    refine z_goto (tgt := 15) dL_depth_9 (by decide) ?_
    refine z_iconst (v := 0) dL_depth_15 (by decide) ?_
    cases h
    exact zw_iret rfl rfl rfl dL_depth_16
theorem e_L_depth {G : o_G} {N : Nat} {r : Int32} {σ' : o_S} {p1 : Int32} {s : o_S} (h : f_L_depth N p1 s = some (r, σ')) : o_EvW (o_up (o_ou G)) yL_depth cL_depth 4 (some .int) [((0 : Nat), (9 : Nat), (12 : Nat), (25 : Nat))] 8 [.ref (g_ad G 0), .int p1, .ref (g_ad G 43)] s (some (.int r)) σ' := o_EvW.mk rfl (Nat.le_of_ble_eq_true rfl) (s_L_depth h)
theorem mi_L_depth : o_MW yL_depth cL_depth 4 (some .int) [((0 : Nat), (9 : Nat), (12 : Nat), (25 : Nat))] 3 := ⟨sm_L_depth, in_L, co_L_depth, by decide, by decide, by decide, by decide +kernel⟩
set_option maxRecDepth 10000 in
theorem s_L_remove {G : o_G} {N : Nat} {r : Int32} {σ' : o_S} {p1 : Int32} {s : o_S} (h : f_L_remove N p1 s = some (r, σ')) : o_Z (o_up (o_ou G)) RL cL_remove (some .int) 4 8 (o_EW (o_up (o_ou G)) [((0 : Nat), (9 : Nat), (12 : Nat), (25 : Nat)), ((0 : Nat), (9 : Nat), (15 : Nat), (13 : Nat))] (some (.int r)) σ') (o_k σ') s 0 [(0, .ref (g_ad G 0)), (1, .int p1), (2, .ref (g_ad G 43))] [] := by
  unfold f_L_remove at h
  refine z_aload_n dL_remove_0 2 rfl ?_
  refine z_iconst (v := 0) dL_remove_1 (by decide) ?_
  refine z_aload_n dL_remove_2 0 rfl ?_
  refine z_iload_n dL_remove_3 1 rfl ?_
  rcases o_bdx h with ⟨ex, s1, e1, h⟩ | ⟨v1, s1, e1, h⟩
  · refine zw_callV (o := .inl ex) (As := [.int _]) (e_X6_remove e1) (by decide) mi_X6_remove ml_L_54 rfl rfl (Nat.le_of_ble_eq_true rfl) rv_0 dL_remove_4 (hh := [((0 : Nat), (9 : Nat), (12 : Nat), (25 : Nat)), ((0 : Nat), (9 : Nat), (15 : Nat), (13 : Nat))]) (fun X h => h.2) (fun e he => ?_) (fun v he => by cases he)
    cases he
    by_cases h0 : ex = 3
    · subst h0
      replace h := o_ip rfl h
      cases h
      refine ⟨[], ⟨0, 9, 12, 25⟩, _, rfl, (by intro z hz; cases hz), by decide, by decide, kl_L_25, by decide, fun q => ?_⟩
      refine z_astore_n (L' := [(3, .ref _), (0, .ref _), (1, .int _), (2, .ref _)]) dL_remove_12 (by decide) rfl ?_
      refine z_iconst (v := 1) dL_remove_13 (by decide) ?_
      exact zw_iret rfl rfl rfl dL_remove_14
    · replace h := o_in h0 h
      by_cases h1 : ex = 1
      · subst h1
        replace h := o_ip rfl h
        cases h
        refine ⟨[⟨0, 9, 12, 25⟩], ⟨0, 9, 15, 13⟩, _, rfl, (by intro z hz; rcases List.mem_singleton.mp hz with rfl; exact ⟨by decide, _, kl_L_25, by decide⟩), by decide, by decide, kl_L_13, by decide, fun q => ?_⟩
        refine z_astore_n (L' := [(3, .ref _), (0, .ref _), (1, .int _), (2, .ref _)]) dL_remove_15 (by decide) rfl ?_
        refine z_iconst (v := 2) dL_remove_16 (by decide) ?_
        exact zw_iret rfl rfl rfl dL_remove_17
      · replace h := o_in h1 h
        cases h
  · refine zw_callV (o := .inr (some (.int v1))) (As := [.int _]) (e_X6_remove e1) (by decide) mi_X6_remove ml_L_54 rfl rfl (Nat.le_of_ble_eq_true rfl) rv_0 dL_remove_4 (hh := [((0 : Nat), (9 : Nat), (12 : Nat), (25 : Nat)), ((0 : Nat), (9 : Nat), (15 : Nat), (13 : Nat))]) (fun X h => h.2) (fun e he => by cases he) (fun v he => ?_)
    cases he
    refine z_i2l dL_remove_7 ?_
    replace h := o_dd h
    refine zs_outL (by decide) dL_remove_8 ?_
    refine z_goto (tgt := 18) dL_remove_9 (by decide) ?_
    refine z_iconst (v := 0) dL_remove_18 (by decide) ?_
    cases h
    exact zw_iret rfl rfl rfl dL_remove_19
theorem e_L_remove {G : o_G} {N : Nat} {r : Int32} {σ' : o_S} {p1 : Int32} {s : o_S} (h : f_L_remove N p1 s = some (r, σ')) : o_EvW (o_up (o_ou G)) yL_remove cL_remove 4 (some .int) [((0 : Nat), (9 : Nat), (12 : Nat), (25 : Nat)), ((0 : Nat), (9 : Nat), (15 : Nat), (13 : Nat))] 8 [.ref (g_ad G 0), .int p1, .ref (g_ad G 43)] s (some (.int r)) σ' := o_EvW.mk rfl (Nat.le_of_ble_eq_true rfl) (s_L_remove h)
theorem mi_L_remove : o_MW yL_remove cL_remove 4 (some .int) [((0 : Nat), (9 : Nat), (12 : Nat), (25 : Nat)), ((0 : Nat), (9 : Nat), (15 : Nat), (13 : Nat))] 3 := ⟨sm_L_remove, in_L, co_L_remove, by decide, by decide, by decide, by decide +kernel⟩
set_option maxRecDepth 10000 in
theorem s_L_move {G : o_G} {N : Nat} {r : Int32} {σ' : o_S} {p1 : Int32} {p2 : Int32} {p3 : Int32} {s : o_S} (h : f_L_move N p1 p2 p3 s = some (r, σ')) : o_Z (o_up (o_ou G)) RL cL_move (some .int) 6 8 (o_EW (o_up (o_ou G)) [((0 : Nat), (12 : Nat), (15 : Nat), (25 : Nat)), ((0 : Nat), (12 : Nat), (19 : Nat), (13 : Nat))] (some (.int r)) σ') (o_k σ') s 0 [(0, .ref (g_ad G 0)), (1, .int p1), (2, .int p2), (3, .int p3), (4, .ref (g_ad G 43))] [] := by
  unfold f_L_move at h
  refine z_aload dL_move_0 4 rfl ?_
  refine z_iconst (v := 0) dL_move_2 (by decide) ?_
  refine z_aload_n dL_move_3 0 rfl ?_
  refine z_iload_n dL_move_4 1 rfl ?_
  refine z_iload_n dL_move_5 2 rfl ?_
  refine z_iload_n dL_move_6 3 rfl ?_
  rcases o_bdx h with ⟨ex, s1, e1, h⟩ | ⟨v1, s1, e1, h⟩
  · refine zw_callV (o := .inl ex) (As := [.int _, .int _, .int _]) (e_X6_move e1) (by decide) mi_X6_move ml_L_57 rfl rfl (Nat.le_of_ble_eq_true rfl) rv_0 dL_move_7 (hh := [((0 : Nat), (12 : Nat), (15 : Nat), (25 : Nat)), ((0 : Nat), (12 : Nat), (19 : Nat), (13 : Nat))]) (fun X h => h.2) (fun e he => ?_) (fun v he => by cases he)
    cases he
    by_cases h0 : ex = 3
    · subst h0
      replace h := o_ip rfl h
      cases h
      refine ⟨[], ⟨0, 12, 15, 25⟩, _, rfl, (by intro z hz; cases hz), by decide, by decide, kl_L_25, by decide, fun q => ?_⟩
      refine z_astore (L' := [(5, .ref _), (0, .ref _), (1, .int _), (2, .int _), (3, .int _), (4, .ref _)]) dL_move_15 (by decide) rfl ?_
      refine z_iconst (v := 1) dL_move_17 (by decide) ?_
      exact zw_iret rfl rfl rfl dL_move_18
    · replace h := o_in h0 h
      by_cases h1 : ex = 1
      · subst h1
        replace h := o_ip rfl h
        cases h
        refine ⟨[⟨0, 12, 15, 25⟩], ⟨0, 12, 19, 13⟩, _, rfl, (by intro z hz; rcases List.mem_singleton.mp hz with rfl; exact ⟨by decide, _, kl_L_25, by decide⟩), by decide, by decide, kl_L_13, by decide, fun q => ?_⟩
        refine z_astore (L' := [(5, .ref _), (0, .ref _), (1, .int _), (2, .int _), (3, .int _), (4, .ref _)]) dL_move_19 (by decide) rfl ?_
        refine z_iconst (v := 2) dL_move_21 (by decide) ?_
        exact zw_iret rfl rfl rfl dL_move_22
      · replace h := o_in h1 h
        cases h
  · refine zw_callV (o := .inr (some (.int v1))) (As := [.int _, .int _, .int _]) (e_X6_move e1) (by decide) mi_X6_move ml_L_57 rfl rfl (Nat.le_of_ble_eq_true rfl) rv_0 dL_move_7 (hh := [((0 : Nat), (12 : Nat), (15 : Nat), (25 : Nat)), ((0 : Nat), (12 : Nat), (19 : Nat), (13 : Nat))]) (fun X h => h.2) (fun e he => by cases he) (fun v he => ?_)
    cases he
    refine z_i2l dL_move_10 ?_
    replace h := o_dd h
    refine zs_outL (by decide) dL_move_11 ?_
    refine z_goto (tgt := 23) dL_move_12 (by decide) ?_
    refine z_iconst (v := 0) dL_move_23 (by decide) ?_
    cases h
    exact zw_iret rfl rfl rfl dL_move_24
theorem e_L_move {G : o_G} {N : Nat} {r : Int32} {σ' : o_S} {p1 : Int32} {p2 : Int32} {p3 : Int32} {s : o_S} (h : f_L_move N p1 p2 p3 s = some (r, σ')) : o_EvW (o_up (o_ou G)) yL_move cL_move 6 (some .int) [((0 : Nat), (12 : Nat), (15 : Nat), (25 : Nat)), ((0 : Nat), (12 : Nat), (19 : Nat), (13 : Nat))] 8 [.ref (g_ad G 0), .int p1, .int p2, .int p3, .ref (g_ad G 43)] s (some (.int r)) σ' := o_EvW.mk rfl (Nat.le_of_ble_eq_true rfl) (s_L_move h)
theorem mi_L_move : o_MW yL_move cL_move 6 (some .int) [((0 : Nat), (12 : Nat), (15 : Nat), (25 : Nat)), ((0 : Nat), (12 : Nat), (19 : Nat), (13 : Nat))] 5 := ⟨sm_L_move, in_L, co_L_move, by decide, by decide, by decide, by decide +kernel⟩
set_option maxRecDepth 10000 in
theorem s_L_rename {G : o_G} {N : Nat} {r : Int32} {σ' : o_S} {p1 : Int32} {p2 : Int64} {s : o_S} (h : f_L_rename N p1 p2 s = some (r, σ')) : o_Z (o_up (o_ou G)) RL cL_rename (some .int) 6 8 (o_EW (o_up (o_ou G)) [((0 : Nat), (11 : Nat), (14 : Nat), (25 : Nat)), ((0 : Nat), (11 : Nat), (18 : Nat), (13 : Nat))] (some (.int r)) σ') (o_k σ') s 0 [(0, .ref (g_ad G 0)), (1, .int p1), (2, .long p2), (4, .ref (g_ad G 43))] [] := by
  unfold f_L_rename at h
  refine z_aload dL_rename_0 3 rfl ?_
  refine z_iconst (v := 0) dL_rename_2 (by decide) ?_
  refine z_aload_n dL_rename_3 0 rfl ?_
  refine z_iload_n dL_rename_4 1 rfl ?_
  refine z_lload_n dL_rename_5 2 rfl ?_
  rcases o_bdx h with ⟨ex, s1, e1, h⟩ | ⟨v1, s1, e1, h⟩
  · refine zw_callV (o := .inl ex) (As := [.int _, .long _]) (e_X6_rename e1) (by decide) mi_X6_rename ml_L_61 rfl rfl (Nat.le_of_ble_eq_true rfl) rv_0 dL_rename_6 (hh := [((0 : Nat), (11 : Nat), (14 : Nat), (25 : Nat)), ((0 : Nat), (11 : Nat), (18 : Nat), (13 : Nat))]) (fun X h => h.2) (fun e he => ?_) (fun v he => by cases he)
    cases he
    by_cases h0 : ex = 3
    · subst h0
      replace h := o_ip rfl h
      cases h
      refine ⟨[], ⟨0, 11, 14, 25⟩, _, rfl, (by intro z hz; cases hz), by decide, by decide, kl_L_25, by decide, fun q => ?_⟩
      refine z_astore (L' := [(5, .ref _), (0, .ref _), (1, .int _), (2, .long _), (4, .ref _)]) dL_rename_14 (by decide) rfl ?_
      refine z_iconst (v := 1) dL_rename_16 (by decide) ?_
      exact zw_iret rfl rfl rfl dL_rename_17
    · replace h := o_in h0 h
      by_cases h1 : ex = 1
      · subst h1
        replace h := o_ip rfl h
        cases h
        refine ⟨[⟨0, 11, 14, 25⟩], ⟨0, 11, 18, 13⟩, _, rfl, (by intro z hz; rcases List.mem_singleton.mp hz with rfl; exact ⟨by decide, _, kl_L_25, by decide⟩), by decide, by decide, kl_L_13, by decide, fun q => ?_⟩
        refine z_astore (L' := [(5, .ref _), (0, .ref _), (1, .int _), (2, .long _), (4, .ref _)]) dL_rename_18 (by decide) rfl ?_
        refine z_iconst (v := 2) dL_rename_20 (by decide) ?_
        exact zw_iret rfl rfl rfl dL_rename_21
      · replace h := o_in h1 h
        cases h
  · refine zw_callV (o := .inr (some (.int v1))) (As := [.int _, .long _]) (e_X6_rename e1) (by decide) mi_X6_rename ml_L_61 rfl rfl (Nat.le_of_ble_eq_true rfl) rv_0 dL_rename_6 (hh := [((0 : Nat), (11 : Nat), (14 : Nat), (25 : Nat)), ((0 : Nat), (11 : Nat), (18 : Nat), (13 : Nat))]) (fun X h => h.2) (fun e he => by cases he) (fun v he => ?_)
    cases he
    refine z_i2l dL_rename_9 ?_
    replace h := o_dd h
    refine zs_outL (by decide) dL_rename_10 ?_
    refine z_goto (tgt := 22) dL_rename_11 (by decide) ?_
    refine z_iconst (v := 0) dL_rename_22 (by decide) ?_
    cases h
    exact zw_iret rfl rfl rfl dL_rename_23
theorem e_L_rename {G : o_G} {N : Nat} {r : Int32} {σ' : o_S} {p1 : Int32} {p2 : Int64} {s : o_S} (h : f_L_rename N p1 p2 s = some (r, σ')) : o_EvW (o_up (o_ou G)) yL_rename cL_rename 6 (some .int) [((0 : Nat), (11 : Nat), (14 : Nat), (25 : Nat)), ((0 : Nat), (11 : Nat), (18 : Nat), (13 : Nat))] 8 [.ref (g_ad G 0), .int p1, .long p2, .ref (g_ad G 43)] s (some (.int r)) σ' := o_EvW.mk rfl (Nat.le_of_ble_eq_true rfl) (s_L_rename h)
theorem mi_L_rename : o_MW yL_rename cL_rename 6 (some .int) [((0 : Nat), (11 : Nat), (14 : Nat), (25 : Nat)), ((0 : Nat), (11 : Nat), (18 : Nat), (13 : Nat))] 4 := ⟨sm_L_rename, in_L, co_L_rename, by decide, by decide, by decide, by decide +kernel⟩
set_option maxRecDepth 10000 in
theorem s_L_written {G : o_G} {N : Nat} {r : Int32} {σ' : o_S} {p1 : Int32} {s : o_S} (h : f_L_written N p1 s = some (r, σ')) : o_Z (o_up (o_ou G)) RL cL_written (some .int) 4 7 (o_EW (o_up (o_ou G)) [((0 : Nat), (9 : Nat), (12 : Nat), (25 : Nat))] (some (.int r)) σ') (o_k σ') s 0 [(0, .ref (g_ad G 0)), (1, .int p1), (2, .ref (g_ad G 43))] [] := by
  unfold f_L_written at h
  refine z_aload_n dL_written_0 2 rfl ?_
  refine z_iconst (v := 0) dL_written_1 (by decide) ?_
  refine z_aload_n dL_written_2 0 rfl ?_
  refine z_iload_n dL_written_3 1 rfl ?_
  rcases o_bdx h with ⟨ex, s1, e1, h⟩ | ⟨v1, s1, e1, h⟩
  · refine zw_callV (o := .inl ex) (As := [.int _]) (e_X6_written e1) (by decide) mi_X6_written ml_L_65 rfl rfl (Nat.le_of_ble_eq_true rfl) rv_0 dL_written_4 (hh := [((0 : Nat), (9 : Nat), (12 : Nat), (25 : Nat))]) (fun X h => h.2) (fun e he => ?_) (fun v he => by cases he)
    cases he
    by_cases h0 : ex = 3
    · subst h0
      replace h := o_ip rfl h
      cases h
      refine ⟨[], ⟨0, 9, 12, 25⟩, _, rfl, (by intro z hz; cases hz), by decide, by decide, kl_L_25, by decide, fun q => ?_⟩
      refine z_astore_n (L' := [(3, .ref _), (0, .ref _), (1, .int _), (2, .ref _)]) dL_written_12 (by decide) rfl ?_
      refine z_iconst (v := 1) dL_written_13 (by decide) ?_
      exact zw_iret rfl rfl rfl dL_written_14
    · replace h := o_in h0 h
      cases h
  · refine zw_callV (o := .inr (some (.int v1))) (As := [.int _]) (e_X6_written e1) (by decide) mi_X6_written ml_L_65 rfl rfl (Nat.le_of_ble_eq_true rfl) rv_0 dL_written_4 (hh := [((0 : Nat), (9 : Nat), (12 : Nat), (25 : Nat))]) (fun X h => h.2) (fun e he => by cases he) (fun v he => ?_)
    cases he
    refine z_i2l dL_written_7 ?_
    replace h := o_dd h
    refine zs_outL (by decide) dL_written_8 ?_
    refine z_goto (tgt := 15) dL_written_9 (by decide) ?_
    refine z_iconst (v := 0) dL_written_15 (by decide) ?_
    cases h
    exact zw_iret rfl rfl rfl dL_written_16
theorem e_L_written {G : o_G} {N : Nat} {r : Int32} {σ' : o_S} {p1 : Int32} {s : o_S} (h : f_L_written N p1 s = some (r, σ')) : o_EvW (o_up (o_ou G)) yL_written cL_written 4 (some .int) [((0 : Nat), (9 : Nat), (12 : Nat), (25 : Nat))] 7 [.ref (g_ad G 0), .int p1, .ref (g_ad G 43)] s (some (.int r)) σ' := o_EvW.mk rfl (Nat.le_of_ble_eq_true rfl) (s_L_written h)
theorem mi_L_written : o_MW yL_written cL_written 4 (some .int) [((0 : Nat), (9 : Nat), (12 : Nat), (25 : Nat))] 3 := ⟨sm_L_written, in_L, co_L_written, by decide, by decide, by decide, by decide +kernel⟩
