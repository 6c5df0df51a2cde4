-- X0_enter
set_option maxRecDepth 10000 in
theorem s_X0_enter {G : o_G} {N : Nat} {σ' : o_S} {p1 : Int32} {p2 : Int32} {s : o_S} (h : f_X0_enter N p1 p2 s = some σ') : o_Z G RX0 cX0_enter (Option.none : Option Jvm.ClassFile.FieldType) 3 6 (o_E G (none) σ') (o_k σ') s 0 [(0, .ref (g_ad G 4)), (1, .int p1), (2, .int p2)] [] := by
  unfold f_X0_enter at h
  refine z_aload_n dX0_enter_0 0 rfl ?_
  refine zg_X0_openNodes fl_X0_12 dX0_enter_1 ?_
  refine z_iload_n dX0_enter_4 1 rfl ?_
  obtain ⟨s1, e2, h⟩ := o_bdv h
  refine z_callVv (As := [.int _]) (e_row_push (r := 5) (kd := 5) (by decide) (by decide) e2) (by decide) rm_push ml_X0_103 rfl rfl (Nat.le_of_ble_eq_true rfl) (rv_row (r := 5) (by decide)) dX0_enter_5 ?_
  refine z_aload_n dX0_enter_8 0 rfl ?_
  refine zg_X0_openColumns fl_X0_18 dX0_enter_9 ?_
  refine z_iload_n dX0_enter_12 2 rfl ?_
  obtain ⟨s3, e4, h⟩ := o_bdv h
  refine z_callVv (As := [.int _]) (e_row_push (r := 6) (kd := 5) (by decide) (by decide) e4) (by decide) rm_push ml_X0_103 rfl rfl (Nat.le_of_ble_eq_true rfl) (rv_row (r := 6) (by decide)) dX0_enter_13 ?_
  refine z_aload_n dX0_enter_16 0 rfl ?_
  refine zg_X0_currentItems fl_X0_21 dX0_enter_17 ?_
  refine z_iconst (v := (-1)) dX0_enter_20 (by decide) ?_
  obtain ⟨s5, e6, h⟩ := o_bdv h
  refine z_callVv (As := [.int _]) (e_row_push (r := 7) (kd := 5) (by decide) (by decide) e6) (by decide) rm_push ml_X0_103 rfl rfl (Nat.le_of_ble_eq_true rfl) (rv_row (r := 7) (by decide)) dX0_enter_21 ?_
  cases h
  exact z_vret rfl rfl rfl dX0_enter_24
theorem e_X0_enter {G : o_G} {N : Nat} {σ' : o_S} {p1 : Int32} {p2 : Int32} {s : o_S} (h : f_X0_enter N p1 p2 s = some σ') : o_Ev G yX0_enter cX0_enter 3 (Option.none : Option Jvm.ClassFile.FieldType) 6 [.ref (g_ad G 4), .int p1, .int p2] s (none) σ' := o_Ev.mk rfl (Nat.le_of_ble_eq_true rfl) (s_X0_enter h)
-- X0_startAgain
set_option maxRecDepth 10000 in
theorem s_X0_startAgain {G : o_G} {N : Nat} {σ' : o_S} {s : o_S} (h : f_X0_startAgain N  s = some σ') : o_Z G RX0 cX0_startAgain (Option.none : Option Jvm.ClassFile.FieldType) 1 7 (o_E G (none) σ') (o_k σ') s 0 [(0, .ref (g_ad G 4))] [] := by
  unfold f_X0_startAgain at h
  refine z_aload_n dX0_startAgain_0 0 rfl ?_
  refine zg_X0_openNodes fl_X0_12 dX0_startAgain_1 ?_
  refine z_iconst (v := 0) dX0_startAgain_4 (by decide) ?_
  replace h := o_dd h
  refine z_callVv (As := [.int _]) (e_row_cut (r := 5) (kd := 0) (by decide) _) (by decide) rm_cut ml_X0_46 rfl rfl (Nat.le_of_ble_eq_true rfl) (rv_row (r := 5) (by decide)) dX0_startAgain_5 ?_
  refine z_aload_n dX0_startAgain_8 0 rfl ?_
  refine zg_X0_openColumns fl_X0_18 dX0_startAgain_9 ?_
  refine z_iconst (v := 0) dX0_startAgain_12 (by decide) ?_
  replace h := o_dd h
  refine z_callVv (As := [.int _]) (e_row_cut (r := 6) (kd := 0) (by decide) _) (by decide) rm_cut ml_X0_46 rfl rfl (Nat.le_of_ble_eq_true rfl) (rv_row (r := 6) (by decide)) dX0_startAgain_13 ?_
  refine z_aload_n dX0_startAgain_16 0 rfl ?_
  refine zg_X0_currentItems fl_X0_21 dX0_startAgain_17 ?_
  refine z_iconst (v := 0) dX0_startAgain_20 (by decide) ?_
  replace h := o_dd h
  refine z_callVv (As := [.int _]) (e_row_cut (r := 7) (kd := 0) (by decide) _) (by decide) rm_cut ml_X0_46 rfl rfl (Nat.le_of_ble_eq_true rfl) (rv_row (r := 7) (by decide)) dX0_startAgain_21 ?_
  refine z_aload_n dX0_startAgain_24 0 rfl ?_
  refine z_iconst (v := 0) dX0_startAgain_25 (by decide) ?_
  replace h := o_dd h
  refine zp_X0_hasBegun (by decide) fl_X0_24 dX0_startAgain_26 ?_
  refine z_aload_n dX0_startAgain_29 0 rfl ?_
  refine z_iconst (v := 0) dX0_startAgain_30 (by decide) ?_
  replace h := o_dd h
  refine zp_X0_colonBefore (by decide) fl_X0_28 dX0_startAgain_31 ?_
  refine z_aload_n dX0_startAgain_34 0 rfl ?_
  refine z_iconst (v := 0) dX0_startAgain_35 (by decide) ?_
  refine z_iconst (v := 0) dX0_startAgain_36 (by decide) ?_
  obtain ⟨s6, e7, h⟩ := o_bdv h
  refine z_callVv (As := [.int _, .int _]) (e_X0_enter e7) (by decide) mi_X0_enter ml_X0_50 rfl rfl (Nat.le_of_ble_eq_true rfl) rv_4 dX0_startAgain_37 ?_
  cases h
  exact z_vret rfl rfl rfl dX0_startAgain_40
theorem e_X0_startAgain {G : o_G} {N : Nat} {σ' : o_S} {s : o_S} (h : f_X0_startAgain N  s = some σ') : o_Ev G yX0_startAgain cX0_startAgain 1 (Option.none : Option Jvm.ClassFile.FieldType) 7 [.ref (g_ad G 4)] s (none) σ' := o_Ev.mk rfl (Nat.le_of_ble_eq_true rfl) (s_X0_startAgain h)
-- X0_innermost
set_option maxRecDepth 10000 in
theorem s_X0_innermost {G : o_G} {N : Nat} {r : Int32} {σ' : o_S} {s : o_S} (h : f_X0_innermost N  s = some (r, σ')) : o_Z G RX0 cX0_innermost (Option.some Jvm.ClassFile.FieldType.int) 1 1 (o_E G (some (.int r)) σ') (o_k σ') s 0 [(0, .ref (g_ad G 4))] [] := by
  unfold f_X0_innermost at h
  refine z_aload_n dX0_innermost_0 0 rfl ?_
  refine zg_X0_openNodes fl_X0_12 dX0_innermost_1 ?_
  refine z_callVi (As := []) (e_row_size (r := 5) (kd := 0) (by decide)) (by decide) rm_size ml_X0_100 rfl rfl (Nat.le_of_ble_eq_true rfl) (rv_row (r := 5) (by decide)) dX0_innermost_4 ?_
  refine z_iconst (v := 1) dX0_innermost_7 (by decide) ?_
  refine z_isub dX0_innermost_8 ?_
  cases h
  exact z_iret rfl rfl rfl dX0_innermost_9
theorem e_X0_innermost {G : o_G} {N : Nat} {r : Int32} {σ' : o_S} {s : o_S} (h : f_X0_innermost N  s = some (r, σ')) : o_Ev G yX0_innermost cX0_innermost 1 (Option.some Jvm.ClassFile.FieldType.int) 1 [.ref (g_ad G 4)] s (some (.int r)) σ' := o_Ev.mk rfl (Nat.le_of_ble_eq_true rfl) (s_X0_innermost h)
-- X5_is
set_option maxRecDepth 10000 in
theorem s_X5_is {G : o_G} {N : Nat} {r : Int32} {σ' : o_S} {p1 : Int32} {p2 : Int32} {s : o_S} (h : f_X5_is N p1 p2 s = some (r, σ')) : o_Z G RX5 cX5_is (Option.some Jvm.ClassFile.FieldType.boolean) 3 1 (o_E G (some (.int r)) σ') (o_k σ') s 0 [(0, .ref (g_ad G 2)), (1, .int p1), (2, .int p2)] [] := by
  unfold f_X5_is at h
  refine z_aload_n dX5_is_0 0 rfl ?_
  refine zg_X5_cells fl_X5_12 dX5_is_1 ?_
  refine z_iload_n dX5_is_4 1 rfl ?_
  refine z_bipush (v := 7) dX5_is_5 (by decide) ?_
  refine z_imul dX5_is_7 ?_
  refine z_iconst (v := 0) dX5_is_8 (by decide) ?_
  refine z_iadd dX5_is_9 ?_
  replace h := o_dd h
  refine z_callVi (As := [.int _]) (e_row_at (r := 3) (kd := 0) (by decide) _) (by decide) rm_at ml_X5_33 rfl rfl (Nat.le_of_ble_eq_true rfl) (rv_row (r := 3) (by decide)) dX5_is_10 ?_
  refine z_iload_n dX5_is_13 2 rfl ?_
  refine z_icmp_ne (tgt := 21) dX5_is_14 (by decide) (fun hc2 => ?_) (fun hc2 => ?_)
  · replace h := o_in hc2 h
    refine z_iconst (v := 0) dX5_is_21 (by decide) ?_
    cases h
    exact z_zret (by decide) rfl rfl rfl dX5_is_22
  · replace h := o_ip hc2 h
    refine z_iconst (v := 1) dX5_is_17 (by decide) ?_
    refine z_goto (tgt := 22) dX5_is_18 (by decide) ?_
    cases h
    exact z_zret (by decide) rfl rfl rfl dX5_is_22
theorem e_X5_is {G : o_G} {N : Nat} {r : Int32} {σ' : o_S} {p1 : Int32} {p2 : Int32} {s : o_S} (h : f_X5_is N p1 p2 s = some (r, σ')) : o_Ev G yX5_is cX5_is 3 (Option.some Jvm.ClassFile.FieldType.boolean) 1 [.ref (g_ad G 2), .int p1, .int p2] s (some (.int r)) σ' := o_Ev.mk rfl (Nat.le_of_ble_eq_true rfl) (s_X5_is h)
-- X5_get
set_option maxRecDepth 10000 in
theorem s_X5_get {G : o_G} {N : Nat} {r : Int32} {σ' : o_S} {p1 : Int32} {p2 : Int32} {s : o_S} (h : f_X5_get N p1 p2 s = some (r, σ')) : o_Z G RX5 cX5_get (Option.some Jvm.ClassFile.FieldType.int) 3 1 (o_E G (some (.int r)) σ') (o_k σ') s 0 [(0, .ref (g_ad G 2)), (1, .int p1), (2, .int p2)] [] := by
  unfold f_X5_get at h
  refine z_aload_n dX5_get_0 0 rfl ?_
  refine zg_X5_cells fl_X5_12 dX5_get_1 ?_
  refine z_iload_n dX5_get_4 1 rfl ?_
  refine z_bipush (v := 7) dX5_get_5 (by decide) ?_
  refine z_imul dX5_get_7 ?_
  refine z_iload_n dX5_get_8 2 rfl ?_
  refine z_iadd dX5_get_9 ?_
  replace h := o_dd h
  refine z_callVi (As := [.int _]) (e_row_at (r := 3) (kd := 0) (by decide) _) (by decide) rm_at ml_X5_33 rfl rfl (Nat.le_of_ble_eq_true rfl) (rv_row (r := 3) (by decide)) dX5_get_10 ?_
  cases h
  exact z_iret rfl rfl rfl dX5_get_13
theorem e_X5_get {G : o_G} {N : Nat} {r : Int32} {σ' : o_S} {p1 : Int32} {p2 : Int32} {s : o_S} (h : f_X5_get N p1 p2 s = some (r, σ')) : o_Ev G yX5_get cX5_get 3 (Option.some Jvm.ClassFile.FieldType.int) 1 [.ref (g_ad G 2), .int p1, .int p2] s (some (.int r)) σ' := o_Ev.mk rfl (Nat.le_of_ble_eq_true rfl) (s_X5_get h)
-- X5_add
set_option maxRecDepth 10000 in
theorem s_X5_add_b78 {G : o_G} {N : Nat} {r : Int32} {σ' : o_S} {l3 : Int32} {l4 : Int32} {l5 : Int32} {y0 : Int32} {s : o_S} (h : f_X5_add_b78 N l3 l4 l5 y0 s = some (r, σ')) : o_Z G RX5 cX5_add (Option.some Jvm.ClassFile.FieldType.int) 7 6 (o_E G (some (.int r)) σ') (o_k σ') s 78 [(0, .ref (g_ad G 2)), (3, .int l3), (4, .int l4), (5, .int l5)] [.int y0, .ref (g_ad G 10)] := by
  unfold f_X5_add_b78 at h
  obtain ⟨s18, e19, h⟩ := o_bdv h
  refine z_callVv (As := [.int _]) (e_row_push (r := 3) (kd := 5) (by decide) (by decide) e19) (by decide) rm_push ml_X5_41 rfl rfl (Nat.le_of_ble_eq_true rfl) (rv_row (r := 3) (by decide)) dX5_add_78 ?_
  refine z_aload_n dX5_add_81 0 rfl ?_
  refine zg_X5_cells fl_X5_12 dX5_add_82 ?_
  refine z_iload_n dX5_add_85 1 rfl ?_
  obtain ⟨s20, e21, h⟩ := o_bdv h
  refine z_callVv (As := [.int _]) (e_row_push (r := 3) (kd := 5) (by decide) (by decide) e21) (by decide) rm_push ml_X5_41 rfl rfl (Nat.le_of_ble_eq_true rfl) (rv_row (r := 3) (by decide)) dX5_add_86 ?_
  refine z_aload_n dX5_add_89 0 rfl ?_
  refine zg_X5_cells fl_X5_12 dX5_add_90 ?_
  refine z_iload dX5_add_93 2 rfl ?_
  obtain ⟨s22, e23, h⟩ := o_bdv h
  refine z_callVv (As := [.int _]) (e_row_push (r := 3) (kd := 5) (by decide) (by decide) e23) (by decide) rm_push ml_X5_41 rfl rfl (Nat.le_of_ble_eq_true rfl) (rv_row (r := 3) (by decide)) dX5_add_95 ?_
  refine z_aload_n dX5_add_98 0 rfl ?_
  refine zg_X5_cells fl_X5_12 dX5_add_99 ?_
  refine z_iload dX5_add_102 3 rfl ?_
  obtain ⟨s24, e25, h⟩ := o_bdv h
  refine z_callVv (As := [.int _]) (e_row_push (r := 3) (kd := 5) (by decide) (by decide) e25) (by decide) rm_push ml_X5_41 rfl rfl (Nat.le_of_ble_eq_true rfl) (rv_row (r := 3) (by decide)) dX5_add_104 ?_
  refine z_aload_n dX5_add_107 0 rfl ?_
  refine zg_X5_cells fl_X5_12 dX5_add_108 ?_
  refine z_aload_n dX5_add_111 0 rfl ?_
  refine zg_X5_letters fl_X5_18 dX5_add_112 ?_
  refine z_callVi (As := []) (e_row_size (r := 4) (kd := 0) (by decide)) (by decide) rm_size ml_X5_52 rfl rfl (Nat.le_of_ble_eq_true rfl) (rv_row (r := 4) (by decide)) dX5_add_115 ?_
  obtain ⟨s26, e27, h⟩ := o_bdv h
  refine z_callVv (As := [.int _]) (e_row_push (r := 3) (kd := 5) (by decide) (by decide) e27) (by decide) rm_push ml_X5_41 rfl rfl (Nat.le_of_ble_eq_true rfl) (rv_row (r := 3) (by decide)) dX5_add_118 ?_
  refine z_aload_n dX5_add_121 0 rfl ?_
  refine z_dup dX5_add_122 rfl ?_
  refine zg_X5_count fl_X5_21 dX5_add_123 ?_
  refine z_iconst (v := 1) dX5_add_126 (by decide) ?_
  refine z_iadd dX5_add_127 ?_
  replace h := o_dd h
  refine zp_X5_count fl_X5_21 dX5_add_128 ?_
  refine z_aload_n dX5_add_131 0 rfl ?_
  refine zg_X5_count fl_X5_21 dX5_add_132 ?_
  refine z_iconst (v := 1) dX5_add_135 (by decide) ?_
  refine z_isub dX5_add_136 ?_
  cases h
  exact z_iret rfl rfl rfl dX5_add_137
set_option maxRecDepth 10000 in
theorem s_X5_add_b41 {G : o_G} {N : Nat} {r : Int32} {σ' : o_S} {l1 : Int32} {l3 : Int32} {l4 : Int32} {l5 : Int32} {l6 : Int32} {y0 : Int32} {s : o_S} (h : f_X5_add_b41 N l1 l3 l4 l5 l6 y0 s = some (r, σ')) : o_Z G RX5 cX5_add (Option.some Jvm.ClassFile.FieldType.int) 7 6 (o_E G (some (.int r)) σ') (o_k σ') s 41 [(0, .ref (g_ad G 2)), (1, .int l1), (3, .int l3), (4, .int l4), (5, .int l5), (6, .int l6)] [.int y0, .ref (g_ad G 10)] := by
  unfold f_X5_add_b41 at h
  obtain ⟨s8, e9, h⟩ := o_bdv h
  refine z_callVv (As := [.int _]) (e_row_push (r := 3) (kd := 5) (by decide) (by decide) e9) (by decide) rm_push ml_X5_41 rfl rfl (Nat.le_of_ble_eq_true rfl) (rv_row (r := 3) (by decide)) dX5_add_41 ?_
  refine z_aload_n dX5_add_44 0 rfl ?_
  refine zg_X5_cells fl_X5_12 dX5_add_45 ?_
  refine z_iload dX5_add_48 5 rfl ?_
  refine z_if_eq (tgt := 57) dX5_add_50 (by decide) (fun hc10 => ?_) (fun hc10 => ?_)
  · replace h := o_ip hc10 h
    refine z_aload_n dX5_add_57 0 rfl ?_
    refine z_iload_n dX5_add_58 1 rfl ?_
    refine z_iconst (v := 2) dX5_add_59 (by decide) ?_
    obtain ⟨x13, s11, e12, h⟩ := o_bdi h
    refine z_callVi (As := [.int _, .int _]) (e_X5_get e12) (by decide) mi_X5_get ml_X5_44 rfl rfl (Nat.le_of_ble_eq_true rfl) rv_2 dX5_add_60 ?_
    refine z_aload_n dX5_add_63 0 rfl ?_
    refine z_iload_n dX5_add_64 1 rfl ?_
    refine z_iconst (v := 0) dX5_add_65 (by decide) ?_
    obtain ⟨x16, s14, e15, h⟩ := o_bdi h
    refine z_callVi (As := [.int _, .int _]) (e_X5_is e15) (by decide) mi_X5_is ml_X5_48 rfl rfl (Nat.le_of_ble_eq_true rfl) rv_2 dX5_add_66 ?_
    refine z_if_eq (tgt := 76) dX5_add_69 (by decide) (fun hc17 => ?_) (fun hc17 => ?_)
    · replace h := o_ip hc17 h
      refine z_iconst (v := 0) dX5_add_76 (by decide) ?_
      refine z_iadd dX5_add_77 ?_
      exact o_Z.sub [0, 2, 3, 4] rfl (s_X5_add_b78 h)
    · replace h := o_in hc17 h
      refine z_iconst (v := 1) dX5_add_72 (by decide) ?_
      refine z_goto (tgt := 77) dX5_add_73 (by decide) ?_
      refine z_iadd dX5_add_77 ?_
      exact o_Z.sub [0, 2, 3, 4] rfl (s_X5_add_b78 h)
  · replace h := o_in hc10 h
    refine z_iconst (v := 0) dX5_add_53 (by decide) ?_
    refine z_goto (tgt := 78) dX5_add_54 (by decide) ?_
    exact o_Z.sub [0, 2, 3, 4] rfl (s_X5_add_b78 h)
set_option maxRecDepth 10000 in
theorem s_X5_add_b10 {G : o_G} {N : Nat} {r : Int32} {σ' : o_S} {l1 : Int32} {l2 : Int32} {l3 : Int32} {l4 : Int32} {l5 : Int32} {y0 : Int32} {s : o_S} (h : f_X5_add_b10 N l1 l2 l3 l4 l5 y0 s = some (r, σ')) : o_Z G RX5 cX5_add (Option.some Jvm.ClassFile.FieldType.int) 7 6 (o_E G (some (.int r)) σ') (o_k σ') s 10 [(0, .ref (g_ad G 2)), (1, .int l1), (2, .int l2), (3, .int l3), (4, .int l4), (5, .int l5)] [.int y0] := by
  unfold f_X5_add_b10 at h
  refine z_istore (L' := [(6, .int _), (0, .ref _), (1, .int _), (2, .int _), (3, .int _), (4, .int _), (5, .int _)]) dX5_add_10 (by decide) rfl ?_
  refine z_aload_n dX5_add_12 1 rfl ?_
  refine zg_X5_cells fl_X5_12 dX5_add_13 ?_
  refine z_iload_n dX5_add_16 3 rfl ?_
  obtain ⟨s2, e3, h⟩ := o_bdv h
  refine z_callVv (As := [.int _]) (e_row_push (r := 3) (kd := 5) (by decide) (by decide) e3) (by decide) rm_push ml_X5_41 rfl rfl (Nat.le_of_ble_eq_true rfl) (rv_row (r := 3) (by decide)) dX5_add_17 ?_
  refine z_aload_n dX5_add_20 1 rfl ?_
  refine zg_X5_cells fl_X5_12 dX5_add_21 ?_
  refine z_iload dX5_add_24 0 rfl ?_
  refine z_if_eq (tgt := 33) dX5_add_26 (by decide) (fun hc4 => ?_) (fun hc4 => ?_)
  · replace h := o_ip hc4 h
    refine z_aload_n dX5_add_33 1 rfl ?_
    refine z_iload_n dX5_add_34 2 rfl ?_
    refine z_iconst (v := 1) dX5_add_35 (by decide) ?_
    obtain ⟨x7, s5, e6, h⟩ := o_bdi h
    refine z_callVi (As := [.int _, .int _]) (e_X5_get e6) (by decide) mi_X5_get ml_X5_44 rfl rfl (Nat.le_of_ble_eq_true rfl) rv_2 dX5_add_36 ?_
    refine z_iconst (v := 1) dX5_add_39 (by decide) ?_
    refine z_iadd dX5_add_40 ?_
    exact o_Z.sub [1, 2, 4, 5, 6, 0] rfl (s_X5_add_b41 h)
  · replace h := o_in hc4 h
    refine z_iconst (v := 0) dX5_add_29 (by decide) ?_
    refine z_goto (tgt := 41) dX5_add_30 (by decide) ?_
    exact o_Z.sub [1, 2, 4, 5, 6, 0] rfl (s_X5_add_b41 h)
set_option maxRecDepth 10000 in
theorem s_X5_add {G : o_G} {N : Nat} {r : Int32} {σ' : o_S} {p1 : Int32} {p2 : Int32} {p3 : Int32} {p4 : Int32} {p5 : Int32} {s : o_S} (h : f_X5_add N p1 p2 p3 p4 p5 s = some (r, σ')) : o_Z G RX5 cX5_add (Option.some Jvm.ClassFile.FieldType.int) 7 6 (o_E G (some (.int r)) σ') (o_k σ') s 0 [(0, .ref (g_ad G 2)), (1, .int p1), (2, .int p2), (3, .int p3), (4, .int p4), (5, .int p5)] [] := by
  unfold f_X5_add at h
  refine z_iload_n dX5_add_0 1 rfl ?_
  refine z_iconst (v := (-1)) dX5_add_1 (by decide) ?_
  refine z_icmp_ne (tgt := 9) dX5_add_2 (by decide) (fun hc1 => ?_) (fun hc1 => ?_)
  · replace h := o_in hc1 h
    refine z_iconst (v := 0) dX5_add_9 (by decide) ?_
    exact o_Z.sub [0, 1, 2, 3, 4, 5] rfl (s_X5_add_b10 h)
  · replace h := o_ip hc1 h
    refine z_iconst (v := 1) dX5_add_5 (by decide) ?_
    refine z_goto (tgt := 10) dX5_add_6 (by decide) ?_
    exact o_Z.sub [0, 1, 2, 3, 4, 5] rfl (s_X5_add_b10 h)
theorem e_X5_add {G : o_G} {N : Nat} {r : Int32} {σ' : o_S} {p1 : Int32} {p2 : Int32} {p3 : Int32} {p4 : Int32} {p5 : Int32} {s : o_S} (h : f_X5_add N p1 p2 p3 p4 p5 s = some (r, σ')) : o_Ev G yX5_add cX5_add 7 (Option.some Jvm.ClassFile.FieldType.int) 6 [.ref (g_ad G 2), .int p1, .int p2, .int p3, .int p4, .int p5] s (some (.int r)) σ' := o_Ev.mk rfl (Nat.le_of_ble_eq_true rfl) (s_X5_add h)
-- X0_addPart
set_option maxRecDepth 10000 in
theorem s_X0_addPart_b83 {G : o_G} {N : Nat} {r : Int32} {σ' : o_S} {l1 : Int32} {l2 : Int32} {l4 : Int32} {s : o_S} (h : f_X0_addPart_b83 N l1 l2 l4 s = some (r, σ')) : o_Z G RX0 cX0_addPart (Option.some Jvm.ClassFile.FieldType.int) 5 7 (o_E G (some (.int r)) σ') (o_k σ') s 83 [(0, .ref (g_ad G 4)), (1, .int l1), (2, .int l2), (4, .int l4)] [] := by
  unfold f_X0_addPart_b83 at h
  refine z_aload_n dX0_addPart_83 0 rfl ?_
  refine zg_X0_tree fl_X0_38 dX0_addPart_84 ?_
  refine z_iload dX0_addPart_87 3 rfl ?_
  refine z_iload_n dX0_addPart_89 1 rfl ?_
  refine z_aload_n dX0_addPart_90 0 rfl ?_
  refine zg_X0_lexer fl_X0_34 dX0_addPart_91 ?_
  refine zn_X1_atLine (host := "OffsideParser") (by decide) dX0_addPart_94 ?_
  refine z_aload_n dX0_addPart_97 0 rfl ?_
  refine zg_X0_lexer fl_X0_34 dX0_addPart_98 ?_
  refine zn_X1_atColumn (host := "OffsideParser") (by decide) dX0_addPart_101 ?_
  refine z_iload_n dX0_addPart_104 2 rfl ?_
  obtain ⟨x11, s9, e10, h⟩ := o_bdi h
  refine z_callVi (As := [.int _, .int _, .int _, .int _, .int _]) (e_X5_add e10) (by decide) mi_X5_add ml_X0_152 rfl rfl (Nat.le_of_ble_eq_true rfl) rv_2 dX0_addPart_105 ?_
  cases h
  exact z_iret rfl rfl rfl dX0_addPart_108
set_option maxRecDepth 10000 in
theorem s_X0_addPart {G : o_G} {N : Nat} {r : Int32} {σ' : o_S} {p1 : Int32} {p2 : Int32} {s : o_S} (h : f_X0_addPart N p1 p2 s = some (r, σ')) : o_Z G RX0 cX0_addPart (Option.some Jvm.ClassFile.FieldType.int) 5 7 (o_E G (some (.int r)) σ') (o_k σ') s 0 [(0, .ref (g_ad G 4)), (1, .int p1), (2, .int p2)] [] := by
  unfold f_X0_addPart at h
  refine z_aload_n dX0_addPart_0 0 rfl ?_
  obtain ⟨x3, s1, e2, h⟩ := o_bdi h
  refine z_callVi (As := []) (e_X0_innermost e2) (by decide) mi_X0_innermost ml_X0_63 rfl rfl (Nat.le_of_ble_eq_true rfl) rv_4 dX0_addPart_1 ?_
  refine z_istore_n (L' := [(3, .int _), (0, .ref _), (1, .int _), (2, .int _)]) dX0_addPart_4 (by decide) rfl ?_
  refine z_aload_n dX0_addPart_5 1 rfl ?_
  refine zg_X0_openNodes fl_X0_12 dX0_addPart_6 ?_
  refine z_iload_n dX0_addPart_9 0 rfl ?_
  replace h := o_dd h
  refine z_callVi (As := [.int _]) (e_row_at (r := 5) (kd := 0) (by decide) _) (by decide) rm_at ml_X0_67 rfl rfl (Nat.le_of_ble_eq_true rfl) (rv_row (r := 5) (by decide)) dX0_addPart_10 ?_
  refine z_istore (L' := [(4, .int _), (3, .int _), (0, .ref _), (1, .int _), (2, .int _)]) dX0_addPart_13 (by decide) rfl ?_
  refine z_aload_n dX0_addPart_15 2 rfl ?_
  refine zg_X0_tree fl_X0_38 dX0_addPart_16 ?_
  refine z_iload dX0_addPart_19 0 rfl ?_
  refine z_iconst (v := 0) dX0_addPart_21 (by decide) ?_
  obtain ⟨x7, s5, e6, h⟩ := o_bdi h
  refine z_callVi (As := [.int _, .int _]) (e_X5_is e6) (by decide) mi_X5_is ml_X0_71 rfl rfl (Nat.le_of_ble_eq_true rfl) rv_2 dX0_addPart_22 ?_
  refine z_if_eq (tgt := 83) dX0_addPart_25 (by decide) (fun hc8 => ?_) (fun hc8 => ?_)
  · replace h := o_ip hc8 h
    exact o_Z.sub [2, 3, 4, 0] rfl (s_X0_addPart_b83 h)
  · replace h := o_in hc8 h
    refine z_aload_n dX0_addPart_28 2 rfl ?_
    refine zg_X0_currentItems fl_X0_21 dX0_addPart_29 ?_
    refine z_iload_n dX0_addPart_32 1 rfl ?_
    replace h := o_dd h
    refine z_callVi (As := [.int _]) (e_row_at (r := 7) (kd := 0) (by decide) _) (by decide) rm_at ml_X0_67 rfl rfl (Nat.le_of_ble_eq_true rfl) (rv_row (r := 7) (by decide)) dX0_addPart_33 ?_
    refine z_iconst (v := (-1)) dX0_addPart_36 (by decide) ?_
    refine z_icmp_ne (tgt := 73) dX0_addPart_37 (by decide) (fun hc13 => ?_) (fun hc13 => ?_)
    · replace h := o_in hc13 h
      refine z_aload_n dX0_addPart_73 2 rfl ?_
      refine zg_X0_currentItems fl_X0_21 dX0_addPart_74 ?_
      refine z_iload_n dX0_addPart_77 1 rfl ?_
      replace h := o_dd h
      refine z_callVi (As := [.int _]) (e_row_at (r := 7) (kd := 0) (by decide) _) (by decide) rm_at ml_X0_67 rfl rfl (Nat.le_of_ble_eq_true rfl) (rv_row (r := 7) (by decide)) dX0_addPart_78 ?_
      refine z_istore (L' := [(4, .int _), (3, .int _), (0, .ref _), (1, .int _), (2, .int _)]) dX0_addPart_81 (by decide) rfl ?_
      exact o_Z.sub [2, 3, 4, 0] rfl (s_X0_addPart_b83 h)
    · replace h := o_ip hc13 h
      refine z_aload_n dX0_addPart_40 2 rfl ?_
      refine zg_X0_currentItems fl_X0_21 dX0_addPart_41 ?_
      refine z_iload_n dX0_addPart_44 1 rfl ?_
      refine z_aload_n dX0_addPart_45 2 rfl ?_
      refine zg_X0_tree fl_X0_38 dX0_addPart_46 ?_
      refine z_iload dX0_addPart_49 0 rfl ?_
      refine z_iconst (v := 1) dX0_addPart_51 (by decide) ?_
      refine z_aload_n dX0_addPart_52 2 rfl ?_
      refine zg_X0_lexer fl_X0_34 dX0_addPart_53 ?_
      refine zn_X1_atLine (host := "OffsideParser") (by decide) dX0_addPart_56 ?_
      refine z_aload_n dX0_addPart_59 2 rfl ?_
      refine zg_X0_lexer fl_X0_34 dX0_addPart_60 ?_
      refine zn_X1_atColumn (host := "OffsideParser") (by decide) dX0_addPart_63 ?_
      refine z_iconst (v := 0) dX0_addPart_66 (by decide) ?_
      obtain ⟨x17, s15, e16, h⟩ := o_bdi h
      refine z_callVi (As := [.int _, .int _, .int _, .int _, .int _]) (e_X5_add e16) (by decide) mi_X5_add ml_X0_152 rfl rfl (Nat.le_of_ble_eq_true rfl) rv_2 dX0_addPart_67 ?_
      replace h := o_dd h
      refine z_callVv (As := [.int _, .int _]) (e_row_put (r := 7) (kd := 0) (by decide) _ _) (by decide) rm_put ml_X0_60 rfl rfl (Nat.le_of_ble_eq_true rfl) (rv_row (r := 7) (by decide)) dX0_addPart_70 ?_
      refine z_aload_n dX0_addPart_73 2 rfl ?_
      refine zg_X0_currentItems fl_X0_21 dX0_addPart_74 ?_
      refine z_iload_n dX0_addPart_77 1 rfl ?_
      replace h := o_dd h
      refine z_callVi (As := [.int _]) (e_row_at (r := 7) (kd := 0) (by decide) _) (by decide) rm_at ml_X0_67 rfl rfl (Nat.le_of_ble_eq_true rfl) (rv_row (r := 7) (by decide)) dX0_addPart_78 ?_
      refine z_istore (L' := [(4, .int _), (3, .int _), (0, .ref _), (1, .int _), (2, .int _)]) dX0_addPart_81 (by decide) rfl ?_
      exact o_Z.sub [2, 3, 4, 0] rfl (s_X0_addPart_b83 h)
theorem e_X0_addPart {G : o_G} {N : Nat} {r : Int32} {σ' : o_S} {p1 : Int32} {p2 : Int32} {s : o_S} (h : f_X0_addPart N p1 p2 s = some (r, σ')) : o_Ev G yX0_addPart cX0_addPart 5 (Option.some Jvm.ClassFile.FieldType.int) 7 [.ref (g_ad G 4), .int p1, .int p2] s (some (.int r)) σ' := o_Ev.mk rfl (Nat.le_of_ble_eq_true rfl) (s_X0_addPart h)
-- X5_set
set_option maxRecDepth 10000 in
theorem s_X5_set {G : o_G} {N : Nat} {σ' : o_S} {p1 : Int32} {p2 : Int32} {p3 : Int32} {s : o_S} (h : f_X5_set N p1 p2 p3 s = some σ') : o_Z G RX5 cX5_set (Option.none : Option Jvm.ClassFile.FieldType) 4 1 (o_E G (none) σ') (o_k σ') s 0 [(0, .ref (g_ad G 2)), (1, .int p1), (2, .int p2), (3, .int p3)] [] := by
  unfold f_X5_set at h
  refine z_aload_n dX5_set_0 0 rfl ?_
  refine zg_X5_cells fl_X5_12 dX5_set_1 ?_
  refine z_iload_n dX5_set_4 1 rfl ?_
  refine z_bipush (v := 7) dX5_set_5 (by decide) ?_
  refine z_imul dX5_set_7 ?_
  refine z_iload_n dX5_set_8 2 rfl ?_
  refine z_iadd dX5_set_9 ?_
  refine z_iload_n dX5_set_10 3 rfl ?_
  replace h := o_dd h
  refine z_callVv (As := [.int _, .int _]) (e_row_put (r := 3) (kd := 0) (by decide) _ _) (by decide) rm_put ml_X5_37 rfl rfl (Nat.le_of_ble_eq_true rfl) (rv_row (r := 3) (by decide)) dX5_set_11 ?_
  cases h
  exact z_vret rfl rfl rfl dX5_set_14
theorem e_X5_set {G : o_G} {N : Nat} {σ' : o_S} {p1 : Int32} {p2 : Int32} {p3 : Int32} {s : o_S} (h : f_X5_set N p1 p2 p3 s = some σ') : o_Ev G yX5_set cX5_set 4 (Option.none : Option Jvm.ClassFile.FieldType) 1 [.ref (g_ad G 2), .int p1, .int p2, .int p3] s (none) σ' := o_Ev.mk rfl (Nat.le_of_ble_eq_true rfl) (s_X5_set h)
-- X5_spell
set_option maxRecDepth 10000 in
theorem s_X5_spell_L49 {G : o_G} {N : Nat} {σ' : o_S} : ∀ (n : Nat) (l1 : Int32) (l3 : Int32) (l4 : Int32) (l5 : Int32) (s : o_S), f_X5_spell_L49 N n l1 l3 l4 l5 s = some σ' → o_Z G RX5 cX5_spell (Option.none : Option Jvm.ClassFile.FieldType) 6 6 (o_E G (none) σ') (o_k σ') s 49 [(0, .ref (g_ad G 2)), (1, .int l1), (3, .int l3), (4, .int l4), (5, .int l5)] [] := by
  intro n
  induction n with
  | zero => intro l1 l3 l4 l5 s h; cases h
  | succ n ih =>
    intro l1 l3 l4 l5 s h
    rw [f_X5_spell_L49] at h
    refine z_iload dX5_spell_49 4 rfl ?_
    refine z_bipush (v := 8) dX5_spell_51 (by decide) ?_
    refine z_icmp_ge (tgt := 70) dX5_spell_53 (by decide) (fun hc4 => ?_) (fun hc4 => ?_)
    · replace h := o_ip hc4 h
      refine z_aload_n dX5_spell_70 0 rfl ?_
      refine z_iload_n dX5_spell_71 1 rfl ?_
      refine z_iconst (v := 5) dX5_spell_72 (by decide) ?_
      refine z_iload dX5_spell_73 3 rfl ?_
      refine z_iload_n dX5_spell_75 2 rfl ?_
      refine z_isub dX5_spell_76 ?_
      obtain ⟨s5, e6, h⟩ := o_bdv h
      refine z_callVv (As := [.int _, .int _, .int _]) (e_X5_set e6) (by decide) mi_X5_set ml_X5_56 rfl rfl (Nat.le_of_ble_eq_true rfl) rv_2 dX5_spell_77 ?_
      cases h
      exact z_vret rfl rfl rfl dX5_spell_80
    · replace h := o_in hc4 h
      refine z_aload_n dX5_spell_56 0 rfl ?_
      refine zg_X5_letters fl_X5_18 dX5_spell_57 ?_
      refine z_iconst (v := 0) dX5_spell_60 (by decide) ?_
      obtain ⟨s7, e8, h⟩ := o_bdv h
      refine z_callVv (As := [.int _]) (e_row_push (r := 4) (kd := 5) (by decide) (by decide) e8) (by decide) rm_push ml_X5_41 rfl rfl (Nat.le_of_ble_eq_true rfl) (rv_row (r := 4) (by decide)) dX5_spell_61 ?_
      refine z_iinc (v := _ + 1) (L' := [(5, .int _), (0, .ref _), (1, .int _), (3, .int _), (4, .int _)]) dX5_spell_64 4 rfl rfl (by decide) rfl ?_
      refine z_goto (tgt := 49) dX5_spell_67 (by decide) ?_
      exact o_Z.sub [1, 2, 3, 4, 0] rfl (ih _ _ _ _ _ h)
set_option maxRecDepth 10000 in
theorem s_X5_spell_L17 {G : o_G} {N : Nat} {σ' : o_S} : ∀ (n : Nat) (l1 : Int32) (l3 : Int32) (l4 : Int32) (l5 : Int32) (s : o_S), f_X5_spell_L17 N n l1 l3 l4 l5 s = some σ' → o_Z G RX5 cX5_spell (Option.none : Option Jvm.ClassFile.FieldType) 6 6 (o_E G (none) σ') (o_k σ') s 17 [(0, .ref (g_ad G 2)), (1, .int l1), (2, .ref (g_ad G 7)), (3, .int l3), (4, .int l4), (5, .int l5)] [] := by
  intro n
  induction n with
  | zero => intro l1 l3 l4 l5 s h; cases h
  | succ n ih =>
    intro l1 l3 l4 l5 s h
    rw [f_X5_spell_L17] at h
    refine z_iload dX5_spell_17 5 rfl ?_
    refine z_iload dX5_spell_19 4 rfl ?_
    refine z_icmp_ge (tgt := 43) dX5_spell_21 (by decide) (fun hc3 => ?_) (fun hc3 => ?_)
    · replace h := o_ip hc3 h
      refine z_iload dX5_spell_43 4 rfl ?_
      refine z_iload_n dX5_spell_45 3 rfl ?_
      refine z_isub dX5_spell_46 ?_
      refine z_istore (L' := [(5, .int _), (0, .ref _), (1, .int _), (2, .ref _), (3, .int _), (4, .int _)]) dX5_spell_47 (by decide) rfl ?_
      exact o_Z.sub [1, 2, 4, 5, 0] rfl (s_X5_spell_L49 _ _ _ _ _ _ h)
    · replace h := o_in hc3 h
      refine z_aload_n dX5_spell_24 0 rfl ?_
      refine zg_X5_letters fl_X5_18 dX5_spell_25 ?_
      refine z_aload_n dX5_spell_28 2 rfl ?_
      refine z_iload dX5_spell_29 5 rfl ?_
      replace h := o_dd h
      refine z_callVi (As := [.int _]) (e_row_at (r := 0) (kd := 0) (by decide) _) (by decide) rm_at ml_X5_33 rfl rfl (Nat.le_of_ble_eq_true rfl) (rv_row (r := 0) (by decide)) dX5_spell_31 ?_
      obtain ⟨s10, e11, h⟩ := o_bdv h
      refine z_callVv (As := [.int _]) (e_row_push (r := 4) (kd := 5) (by decide) (by decide) e11) (by decide) rm_push ml_X5_41 rfl rfl (Nat.le_of_ble_eq_true rfl) (rv_row (r := 4) (by decide)) dX5_spell_34 ?_
      refine z_iinc (v := _ + 1) (L' := [(5, .int _), (0, .ref _), (1, .int _), (2, .ref _), (3, .int _), (4, .int _)]) dX5_spell_37 5 rfl rfl (by decide) rfl ?_
      refine z_goto (tgt := 17) dX5_spell_40 (by decide) ?_
      exact o_Z.sub [1, 2, 3, 4, 5, 0] rfl (ih _ _ _ _ _ h)
set_option maxRecDepth 10000 in
theorem s_X5_spell {G : o_G} {N : Nat} {σ' : o_S} {p1 : Int32} {p3 : Int32} {p4 : Int32} {s : o_S} (h : f_X5_spell N p1 p3 p4 s = some σ') : o_Z G RX5 cX5_spell (Option.none : Option Jvm.ClassFile.FieldType) 6 6 (o_E G (none) σ') (o_k σ') s 0 [(0, .ref (g_ad G 2)), (1, .int p1), (2, .ref (g_ad G 7)), (3, .int p3), (4, .int p4)] [] := by
  unfold f_X5_spell at h
  refine z_aload_n dX5_spell_0 0 rfl ?_
  refine z_iload_n dX5_spell_1 1 rfl ?_
  refine z_bipush (v := 6) dX5_spell_2 (by decide) ?_
  refine z_aload_n dX5_spell_4 0 rfl ?_
  refine zg_X5_letters fl_X5_18 dX5_spell_5 ?_
  refine z_callVi (As := []) (e_row_size (r := 4) (kd := 0) (by decide)) (by decide) rm_size ml_X5_52 rfl rfl (Nat.le_of_ble_eq_true rfl) (rv_row (r := 4) (by decide)) dX5_spell_8 ?_
  obtain ⟨s1, e2, h⟩ := o_bdv h
  refine z_callVv (As := [.int _, .int _, .int _]) (e_X5_set e2) (by decide) mi_X5_set ml_X5_56 rfl rfl (Nat.le_of_ble_eq_true rfl) rv_2 dX5_spell_11 ?_
  refine z_iload_n dX5_spell_14 3 rfl ?_
  refine z_istore (L' := [(5, .int _), (0, .ref _), (1, .int _), (2, .ref _), (3, .int _), (4, .int _)]) dX5_spell_15 (by decide) rfl ?_
  exact o_Z.sub [1, 2, 3, 4, 5, 0] rfl (s_X5_spell_L17 _ _ _ _ _ _ h)
theorem e_X5_spell {G : o_G} {N : Nat} {σ' : o_S} {p1 : Int32} {p3 : Int32} {p4 : Int32} {s : o_S} (h : f_X5_spell N p1 p3 p4 s = some σ') : o_Ev G yX5_spell cX5_spell 6 (Option.none : Option Jvm.ClassFile.FieldType) 6 [.ref (g_ad G 2), .int p1, .ref (g_ad G 7), .int p3, .int p4] s (none) σ' := o_Ev.mk rfl (Nat.le_of_ble_eq_true rfl) (s_X5_spell h)
-- X0_addWord
set_option maxRecDepth 10000 in
theorem s_X0_addWord {G : o_G} {N : Nat} {σ' : o_S} {s : o_S} (h : f_X0_addWord N  s = some σ') : o_Z G RX0 cX0_addWord (Option.none : Option Jvm.ClassFile.FieldType) 1 8 (o_E G (none) σ') (o_k σ') s 0 [(0, .ref (g_ad G 4))] [] := by
  unfold f_X0_addWord at h
  refine z_aload_n dX0_addWord_0 0 rfl ?_
  refine zg_X0_tree fl_X0_38 dX0_addWord_1 ?_
  refine z_aload_n dX0_addWord_4 0 rfl ?_
  refine z_iconst (v := 2) dX0_addWord_5 (by decide) ?_
  refine z_iconst (v := 0) dX0_addWord_6 (by decide) ?_
  obtain ⟨x3, s1, e2, h⟩ := o_bdi h
  refine z_callVi (As := [.int _, .int _]) (e_X0_addPart e2) (by decide) mi_X0_addPart ml_X0_83 rfl rfl (Nat.le_of_ble_eq_true rfl) rv_4 dX0_addWord_7 ?_
  refine z_aload_n dX0_addWord_10 0 rfl ?_
  refine zg_X0_text fl_X0_31 dX0_addWord_11 ?_
  refine z_aload_n dX0_addWord_14 0 rfl ?_
  refine zg_X0_lexer fl_X0_34 dX0_addWord_15 ?_
  refine zn_X1_start (host := "OffsideParser") (by decide) dX0_addWord_18 ?_
  refine z_aload_n dX0_addWord_21 0 rfl ?_
  refine zg_X0_lexer fl_X0_34 dX0_addWord_22 ?_
  refine zn_X1_position (host := "OffsideParser") (by decide) dX0_addWord_25 ?_
  obtain ⟨s4, e5, h⟩ := o_bdv h
  refine z_callVv (As := [.int _, .ref _, .int _, .int _]) (e_X5_spell e5) (by decide) mi_X5_spell ml_X0_145 rfl rfl (Nat.le_of_ble_eq_true rfl) rv_2 dX0_addWord_28 ?_
  cases h
  exact z_vret rfl rfl rfl dX0_addWord_31
theorem e_X0_addWord {G : o_G} {N : Nat} {σ' : o_S} {s : o_S} (h : f_X0_addWord N  s = some σ') : o_Ev G yX0_addWord cX0_addWord 1 (Option.none : Option Jvm.ClassFile.FieldType) 8 [.ref (g_ad G 4)] s (none) σ' := o_Ev.mk rfl (Nat.le_of_ble_eq_true rfl) (s_X0_addWord h)
-- X1_numberRead
set_option maxRecDepth 10000 in
theorem s_X1_numberRead_L7 {G : o_G} {N : Nat} {r : Int32} {σ' : o_S} : ∀ (n : Nat) (l1 : Int64) (l3 : Int32) (s : o_S), f_X1_numberRead_L7 N n l1 l3 s = some (r, σ') → o_Z G RX1 cX1_numberRead (Option.some Jvm.ClassFile.FieldType.int) 4 1 (o_E G (some (.int r)) σ') (o_k σ') s 7 [(0, .ref (g_ad G 3)), (1, .long l1), (3, .int l3)] [] := by
  intro n
  induction n with
  | zero => intro l1 l3 s h; cases h
  | succ n ih =>
    intro l1 l3 s h
    rw [f_X1_numberRead_L7] at h
    refine z_iload_n dX1_numberRead_7 2 rfl ?_
    refine z_aload_n dX1_numberRead_8 0 rfl ?_
    refine zg_X1_position fl_X1_9 dX1_numberRead_9 ?_
    refine z_icmp_ge (tgt := 44) dX1_numberRead_12 (by decide) (fun hc1 => ?_) (fun hc1 => ?_)
    · replace h := o_ip hc1 h
      refine z_lload_n dX1_numberRead_44 1 rfl ?_
      refine z_l2i dX1_numberRead_45 ?_
      cases h
      exact z_iret rfl rfl rfl dX1_numberRead_46
    · replace h := o_in hc1 h
      refine z_lload_n dX1_numberRead_15 1 rfl ?_
      refine z_ldc2 cl_X1_95 dX1_numberRead_16 ?_
      refine z_lmul dX1_numberRead_19 ?_
      refine z_aload_n dX1_numberRead_20 0 rfl ?_
      refine zg_X1_text fl_X1_46 dX1_numberRead_21 ?_
      refine z_iload_n dX1_numberRead_24 2 rfl ?_
      replace h := o_dd h
      refine z_callVi (As := [.int _]) (e_row_at (r := 0) (kd := 0) (by decide) _) (by decide) rm_at ml_X1_60 rfl rfl (Nat.le_of_ble_eq_true rfl) (rv_row (r := 0) (by decide)) dX1_numberRead_25 ?_
      refine z_bipush (v := 48) dX1_numberRead_28 (by decide) ?_
      refine z_isub dX1_numberRead_30 ?_
      refine z_i2l dX1_numberRead_31 ?_
      refine z_ladd dX1_numberRead_32 ?_
      refine z_ldc2 cl_X1_97 dX1_numberRead_33 ?_
      refine z_lrem (by decide) dX1_numberRead_36 ?_
      refine z_lstore_n (L' := [(1, .long _), (0, .ref _), (3, .int _)]) dX1_numberRead_37 (by decide) rfl ?_
      refine z_iinc (v := _ + 1) (L' := [(3, .int _), (1, .long _), (0, .ref _)]) dX1_numberRead_38 2 rfl rfl (by decide) rfl ?_
      refine z_goto (tgt := 7) dX1_numberRead_41 (by decide) ?_
      exact o_Z.sub [2, 1, 0] rfl (ih _ _ _ h)
set_option maxRecDepth 10000 in
theorem s_X1_numberRead {G : o_G} {N : Nat} {r : Int32} {σ' : o_S} {s : o_S} (h : f_X1_numberRead N  s = some (r, σ')) : o_Z G RX1 cX1_numberRead (Option.some Jvm.ClassFile.FieldType.int) 4 1 (o_E G (some (.int r)) σ') (o_k σ') s 0 [(0, .ref (g_ad G 3))] [] := by
  unfold f_X1_numberRead at h
  refine z_lconst (v := 0) dX1_numberRead_0 (by decide) ?_
  refine z_lstore_n (L' := [(1, .long _), (0, .ref _)]) dX1_numberRead_1 (by decide) rfl ?_
  refine z_aload_n dX1_numberRead_2 1 rfl ?_
  refine zg_X1_start fl_X1_34 dX1_numberRead_3 ?_
  refine z_istore_n (L' := [(3, .int _), (1, .long _), (0, .ref _)]) dX1_numberRead_6 (by decide) rfl ?_
  exact o_Z.sub [2, 1, 0] rfl (s_X1_numberRead_L7 _ _ _ _ h)
theorem e_X1_numberRead {G : o_G} {N : Nat} {r : Int32} {σ' : o_S} {s : o_S} (h : f_X1_numberRead N  s = some (r, σ')) : o_Ev G yX1_numberRead cX1_numberRead 4 (Option.some Jvm.ClassFile.FieldType.int) 1 [.ref (g_ad G 3)] s (some (.int r)) σ' := o_Ev.mk rfl (Nat.le_of_ble_eq_true rfl) (s_X1_numberRead h)
-- X0_isDeep
set_option maxRecDepth 10000 in
theorem s_X0_isDeep {G : o_G} {N : Nat} {r : Int32} {σ' : o_S} {s : o_S} (h : f_X0_isDeep N  s = some (r, σ')) : o_Z G RX0 cX0_isDeep (Option.some Jvm.ClassFile.FieldType.boolean) 1 2 (o_E G (some (.int r)) σ') (o_k σ') s 0 [(0, .ref (g_ad G 4))] [] := by
  unfold f_X0_isDeep at h
  refine z_aload_n dX0_isDeep_0 0 rfl ?_
  obtain ⟨x3, s1, e2, h⟩ := o_bdi h
  refine z_callVi (As := []) (e_X0_innermost e2) (by decide) mi_X0_innermost ml_X0_63 rfl rfl (Nat.le_of_ble_eq_true rfl) rv_4 dX0_isDeep_1 ?_
  refine z_bipush (v := 30) dX0_isDeep_4 (by decide) ?_
  refine z_icmp_lt (tgt := 13) dX0_isDeep_6 (by decide) (fun hc4 => ?_) (fun hc4 => ?_)
  · replace h := o_ip hc4 h
    refine z_iconst (v := 0) dX0_isDeep_13 (by decide) ?_
    cases h
    exact z_zret (by decide) rfl rfl rfl dX0_isDeep_14
  · replace h := o_in hc4 h
    refine z_iconst (v := 1) dX0_isDeep_9 (by decide) ?_
    refine z_goto (tgt := 14) dX0_isDeep_10 (by decide) ?_
    cases h
    exact z_zret (by decide) rfl rfl rfl dX0_isDeep_14
theorem e_X0_isDeep {G : o_G} {N : Nat} {r : Int32} {σ' : o_S} {s : o_S} (h : f_X0_isDeep N  s = some (r, σ')) : o_Ev G yX0_isDeep cX0_isDeep 1 (Option.some Jvm.ClassFile.FieldType.boolean) 2 [.ref (g_ad G 4)] s (some (.int r)) σ' := o_Ev.mk rfl (Nat.le_of_ble_eq_true rfl) (s_X0_isDeep h)
-- X3_add
set_option maxRecDepth 10000 in
theorem s_X3_add {G : o_G} {N : Nat} {σ' : o_S} {p1 : Int32} {p2 : Int32} {p3 : Int32} {s : o_S} (h : f_X3_add N p1 p2 p3 s = some σ') : o_Z G RX3 cX3_add (Option.none : Option Jvm.ClassFile.FieldType) 4 6 (o_E G (none) σ') (o_k σ') s 0 [(0, .ref (g_ad G 1)), (1, .int p1), (2, .int p2), (3, .int p3)] [] := by
  unfold f_X3_add at h
  refine z_aload_n dX3_add_0 0 rfl ?_
  refine zg_X3_cells fl_X3_10 dX3_add_1 ?_
  refine z_iload_n dX3_add_4 1 rfl ?_
  obtain ⟨s1, e2, h⟩ := o_bdv h
  refine z_callVv (As := [.int _]) (e_row_push (r := 2) (kd := 5) (by decide) (by decide) e2) (by decide) rm_push ml_X3_28 rfl rfl (Nat.le_of_ble_eq_true rfl) (rv_row (r := 2) (by decide)) dX3_add_5 ?_
  refine z_aload_n dX3_add_8 0 rfl ?_
  refine zg_X3_cells fl_X3_10 dX3_add_9 ?_
  refine z_iload_n dX3_add_12 2 rfl ?_
  obtain ⟨s3, e4, h⟩ := o_bdv h
  refine z_callVv (As := [.int _]) (e_row_push (r := 2) (kd := 5) (by decide) (by decide) e4) (by decide) rm_push ml_X3_28 rfl rfl (Nat.le_of_ble_eq_true rfl) (rv_row (r := 2) (by decide)) dX3_add_13 ?_
  refine z_aload_n dX3_add_16 0 rfl ?_
  refine zg_X3_cells fl_X3_10 dX3_add_17 ?_
  refine z_iload_n dX3_add_20 3 rfl ?_
  obtain ⟨s5, e6, h⟩ := o_bdv h
  refine z_callVv (As := [.int _]) (e_row_push (r := 2) (kd := 5) (by decide) (by decide) e6) (by decide) rm_push ml_X3_28 rfl rfl (Nat.le_of_ble_eq_true rfl) (rv_row (r := 2) (by decide)) dX3_add_21 ?_
  refine z_aload_n dX3_add_24 0 rfl ?_
  refine z_dup dX3_add_25 rfl ?_
  refine zg_X3_count fl_X3_16 dX3_add_26 ?_
  refine z_iconst (v := 1) dX3_add_29 (by decide) ?_
  refine z_iadd dX3_add_30 ?_
  replace h := o_dd h
  refine zp_X3_count fl_X3_16 dX3_add_31 ?_
  cases h
  exact z_vret rfl rfl rfl dX3_add_34
theorem e_X3_add {G : o_G} {N : Nat} {σ' : o_S} {p1 : Int32} {p2 : Int32} {p3 : Int32} {s : o_S} (h : f_X3_add N p1 p2 p3 s = some σ') : o_Ev G yX3_add cX3_add 4 (Option.none : Option Jvm.ClassFile.FieldType) 6 [.ref (g_ad G 1), .int p1, .int p2, .int p3] s (none) σ' := o_Ev.mk rfl (Nat.le_of_ble_eq_true rfl) (s_X3_add h)
-- X0_report
set_option maxRecDepth 10000 in
theorem s_X0_report {G : o_G} {N : Nat} {σ' : o_S} {p1 : Int32} {s : o_S} (h : f_X0_report N p1 s = some σ') : o_Z G RX0 cX0_report (Option.none : Option Jvm.ClassFile.FieldType) 2 7 (o_E G (none) σ') (o_k σ') s 0 [(0, .ref (g_ad G 4)), (1, .int p1)] [] := by
  unfold f_X0_report at h
  refine z_aload_n dX0_report_0 0 rfl ?_
  refine zg_X0_repairs fl_X0_42 dX0_report_1 ?_
  refine z_iload_n dX0_report_4 1 rfl ?_
  refine z_aload_n dX0_report_5 0 rfl ?_
  refine zg_X0_lexer fl_X0_34 dX0_report_6 ?_
  refine zn_X1_atLine (host := "OffsideParser") (by decide) dX0_report_9 ?_
  refine z_aload_n dX0_report_12 0 rfl ?_
  refine zg_X0_lexer fl_X0_34 dX0_report_13 ?_
  refine zn_X1_atColumn (host := "OffsideParser") (by decide) dX0_report_16 ?_
  obtain ⟨s1, e2, h⟩ := o_bdv h
  refine z_callVv (As := [.int _, .int _, .int _]) (e_X3_add e2) (by decide) mi_X3_add ml_X0_109 rfl rfl (Nat.le_of_ble_eq_true rfl) rv_1 dX0_report_19 ?_
  cases h
  exact z_vret rfl rfl rfl dX0_report_22
theorem e_X0_report {G : o_G} {N : Nat} {σ' : o_S} {p1 : Int32} {s : o_S} (h : f_X0_report N p1 s = some σ') : o_Ev G yX0_report cX0_report 2 (Option.none : Option Jvm.ClassFile.FieldType) 7 [.ref (g_ad G 4), .int p1] s (none) σ' := o_Ev.mk rfl (Nat.le_of_ble_eq_true rfl) (s_X0_report h)
-- X0_openGroup
set_option maxRecDepth 10000 in
theorem s_X0_openGroup {G : o_G} {N : Nat} {σ' : o_S} {s : o_S} (h : f_X0_openGroup N  s = some σ') : o_Z G RX0 cX0_openGroup (Option.none : Option Jvm.ClassFile.FieldType) 1 8 (o_E G (none) σ') (o_k σ') s 0 [(0, .ref (g_ad G 4))] [] := by
  unfold f_X0_openGroup at h
  refine z_aload_n dX0_openGroup_0 0 rfl ?_
  obtain ⟨x3, s1, e2, h⟩ := o_bdi h
  refine z_callVi (As := []) (e_X0_isDeep e2) (by decide) mi_X0_isDeep ml_X0_149 rfl rfl (Nat.le_of_ble_eq_true rfl) rv_4 dX0_openGroup_1 ?_
  refine z_if_eq (tgt := 15) dX0_openGroup_4 (by decide) (fun hc4 => ?_) (fun hc4 => ?_)
  · replace h := o_ip hc4 h
    refine z_aload_n dX0_openGroup_15 0 rfl ?_
    refine z_aload_n dX0_openGroup_16 0 rfl ?_
    refine z_iconst (v := 4) dX0_openGroup_17 (by decide) ?_
    refine z_iconst (v := 0) dX0_openGroup_18 (by decide) ?_
    obtain ⟨x7, s5, e6, h⟩ := o_bdi h
    refine z_callVi (As := [.int _, .int _]) (e_X0_addPart e6) (by decide) mi_X0_addPart ml_X0_83 rfl rfl (Nat.le_of_ble_eq_true rfl) rv_4 dX0_openGroup_19 ?_
    refine z_iconst (v := (-1)) dX0_openGroup_22 (by decide) ?_
    obtain ⟨s8, e9, h⟩ := o_bdv h
    refine z_callVv (As := [.int _, .int _]) (e_X0_enter e9) (by decide) mi_X0_enter ml_X0_50 rfl rfl (Nat.le_of_ble_eq_true rfl) rv_4 dX0_openGroup_23 ?_
    cases h
    exact z_vret rfl rfl rfl dX0_openGroup_26
  · replace h := o_in hc4 h
    refine z_aload_n dX0_openGroup_7 0 rfl ?_
    refine z_iconst (v := 5) dX0_openGroup_8 (by decide) ?_
    obtain ⟨s10, e11, h⟩ := o_bdv h
    refine z_callVv (As := [.int _]) (e_X0_report e11) (by decide) mi_X0_report ml_X0_97 rfl rfl (Nat.le_of_ble_eq_true rfl) rv_4 dX0_openGroup_9 ?_
    refine z_goto (tgt := 26) dX0_openGroup_12 (by decide) ?_
    cases h
    exact z_vret rfl rfl rfl dX0_openGroup_26
theorem e_X0_openGroup {G : o_G} {N : Nat} {σ' : o_S} {s : o_S} (h : f_X0_openGroup N  s = some σ') : o_Ev G yX0_openGroup cX0_openGroup 1 (Option.none : Option Jvm.ClassFile.FieldType) 8 [.ref (g_ad G 4)] s (none) σ' := o_Ev.mk rfl (Nat.le_of_ble_eq_true rfl) (s_X0_openGroup h)
-- X0_close
set_option maxRecDepth 10000 in
theorem s_X0_close {G : o_G} {N : Nat} {σ' : o_S} {p1 : Int32} {s : o_S} (h : f_X0_close N p1 s = some σ') : o_Z G RX0 cX0_close (Option.none : Option Jvm.ClassFile.FieldType) 2 1 (o_E G (none) σ') (o_k σ') s 0 [(0, .ref (g_ad G 4)), (1, .int p1)] [] := by
  unfold f_X0_close at h
  refine z_aload_n dX0_close_0 0 rfl ?_
  refine zg_X0_openNodes fl_X0_12 dX0_close_1 ?_
  refine z_iload_n dX0_close_4 1 rfl ?_
  replace h := o_dd h
  refine z_callVv (As := [.int _]) (e_row_cut (r := 5) (kd := 0) (by decide) _) (by decide) rm_cut ml_X0_46 rfl rfl (Nat.le_of_ble_eq_true rfl) (rv_row (r := 5) (by decide)) dX0_close_5 ?_
  refine z_aload_n dX0_close_8 0 rfl ?_
  refine zg_X0_openColumns fl_X0_18 dX0_close_9 ?_
  refine z_iload_n dX0_close_12 1 rfl ?_
  replace h := o_dd h
  refine z_callVv (As := [.int _]) (e_row_cut (r := 6) (kd := 0) (by decide) _) (by decide) rm_cut ml_X0_46 rfl rfl (Nat.le_of_ble_eq_true rfl) (rv_row (r := 6) (by decide)) dX0_close_13 ?_
  refine z_aload_n dX0_close_16 0 rfl ?_
  refine zg_X0_currentItems fl_X0_21 dX0_close_17 ?_
  refine z_iload_n dX0_close_20 1 rfl ?_
  replace h := o_dd h
  refine z_callVv (As := [.int _]) (e_row_cut (r := 7) (kd := 0) (by decide) _) (by decide) rm_cut ml_X0_46 rfl rfl (Nat.le_of_ble_eq_true rfl) (rv_row (r := 7) (by decide)) dX0_close_21 ?_
  cases h
  exact z_vret rfl rfl rfl dX0_close_24
theorem e_X0_close {G : o_G} {N : Nat} {σ' : o_S} {p1 : Int32} {s : o_S} (h : f_X0_close N p1 s = some σ') : o_Ev G yX0_close cX0_close 2 (Option.none : Option Jvm.ClassFile.FieldType) 1 [.ref (g_ad G 4), .int p1] s (none) σ' := o_Ev.mk rfl (Nat.le_of_ble_eq_true rfl) (s_X0_close h)
-- X0_placeInGroup
set_option maxRecDepth 10000 in
theorem s_X0_placeInGroup {G : o_G} {N : Nat} {σ' : o_S} {s : o_S} (h : f_X0_placeInGroup N  s = some σ') : o_Z G RX0 cX0_placeInGroup (Option.none : Option Jvm.ClassFile.FieldType) 1 9 (o_E G (none) σ') (o_k σ') s 0 [(0, .ref (g_ad G 4))] [] := by
  unfold f_X0_placeInGroup at h
  refine z_aload_n dX0_placeInGroup_0 0 rfl ?_
  refine zg_X0_lexer fl_X0_34 dX0_placeInGroup_1 ?_
  refine zn_X1_token (host := "OffsideParser") (by decide) dX0_placeInGroup_4 ?_
  by_cases hc1 : (o_F s 8) = 2
  · replace h := o_ip hc1 h
    refine z_lookup (tgt := 48) dX0_placeInGroup_7 (by decide) (off := 41) (by rw [hc1]; decide) (by decide) ?_
    refine z_aload_n dX0_placeInGroup_48 0 rfl ?_
    obtain ⟨s2, e3, h⟩ := o_bdv h
    refine z_callVv (As := []) (e_X0_addWord e3) (by decide) mi_X0_addWord ml_X0_124 rfl rfl (Nat.le_of_ble_eq_true rfl) rv_4 dX0_placeInGroup_49 ?_
    refine z_goto (tgt := 94) dX0_placeInGroup_52 (by decide) ?_
    cases h
    exact z_vret rfl rfl rfl dX0_placeInGroup_94
  · replace h := o_in hc1 h
    by_cases hc4 : (o_F s 8) = 3
    · replace h := o_ip hc4 h
      refine z_lookup (tgt := 55) dX0_placeInGroup_7 (by decide) (off := 48) (by rw [hc4]; decide) (by decide) ?_
      refine z_aload_n dX0_placeInGroup_55 0 rfl ?_
      refine z_iconst (v := 3) dX0_placeInGroup_56 (by decide) ?_
      refine z_aload_n dX0_placeInGroup_57 0 rfl ?_
      refine zg_X0_lexer fl_X0_34 dX0_placeInGroup_58 ?_
      obtain ⟨x7, s5, e6, h⟩ := o_bdi h
      refine z_callVi (As := []) (e_X1_numberRead e6) (by decide) mi_X1_numberRead ml_X0_127 rfl rfl (Nat.le_of_ble_eq_true rfl) rv_3 dX0_placeInGroup_61 ?_
      obtain ⟨x10, s8, e9, h⟩ := o_bdi h
      refine z_callVi (As := [.int _, .int _]) (e_X0_addPart e9) (by decide) mi_X0_addPart ml_X0_83 rfl rfl (Nat.le_of_ble_eq_true rfl) rv_4 dX0_placeInGroup_64 ?_
      refine z_pop dX0_placeInGroup_67 rfl ?_
      refine z_goto (tgt := 94) dX0_placeInGroup_68 (by decide) ?_
      cases h
      exact z_vret rfl rfl rfl dX0_placeInGroup_94
    · replace h := o_in hc4 h
      by_cases hc11 : (o_F s 8) = 40
      · replace h := o_ip hc11 h
        refine z_lookup (tgt := 71) dX0_placeInGroup_7 (by decide) (off := 64) (by rw [hc11]; decide) (by decide) ?_
        refine z_aload_n dX0_placeInGroup_71 0 rfl ?_
        obtain ⟨s12, e13, h⟩ := o_bdv h
        refine z_callVv (As := []) (e_X0_openGroup e13) (by decide) mi_X0_openGroup ml_X0_130 rfl rfl (Nat.le_of_ble_eq_true rfl) rv_4 dX0_placeInGroup_72 ?_
        refine z_goto (tgt := 94) dX0_placeInGroup_75 (by decide) ?_
        cases h
        exact z_vret rfl rfl rfl dX0_placeInGroup_94
      · replace h := o_in hc11 h
        by_cases hc14 : (o_F s 8) = 41
        · replace h := o_ip hc14 h
          refine z_lookup (tgt := 78) dX0_placeInGroup_7 (by decide) (off := 71) (by rw [hc14]; decide) (by decide) ?_
          refine z_aload_n dX0_placeInGroup_78 0 rfl ?_
          refine z_aload_n dX0_placeInGroup_79 0 rfl ?_
          obtain ⟨x17, s15, e16, h⟩ := o_bdi h
          refine z_callVi (As := []) (e_X0_innermost e16) (by decide) mi_X0_innermost ml_X0_63 rfl rfl (Nat.le_of_ble_eq_true rfl) rv_4 dX0_placeInGroup_80 ?_
          obtain ⟨s18, e19, h⟩ := o_bdv h
          refine z_callVv (As := [.int _]) (e_X0_close e19) (by decide) mi_X0_close ml_X0_118 rfl rfl (Nat.le_of_ble_eq_true rfl) rv_4 dX0_placeInGroup_83 ?_
          refine z_goto (tgt := 94) dX0_placeInGroup_86 (by decide) ?_
          cases h
          exact z_vret rfl rfl rfl dX0_placeInGroup_94
        · replace h := o_in hc14 h
          refine z_lookup (tgt := 89) dX0_placeInGroup_7 (by decide) (off := 82) (by show Op.lookupswitch.offset [(2, 41), (3, 48), (40, 64), (41, 71)] 82 _ = _; rw [lv_osw hc1 (by decide), lv_osw hc4 (by decide), lv_osw hc11 (by decide), lv_osw hc14 (by decide)]; rfl) (by decide) ?_
          refine z_aload_n dX0_placeInGroup_89 0 rfl ?_
          refine z_iconst (v := 1) dX0_placeInGroup_90 (by decide) ?_
          obtain ⟨s20, e21, h⟩ := o_bdv h
          refine z_callVv (As := [.int _]) (e_X0_report e21) (by decide) mi_X0_report ml_X0_97 rfl rfl (Nat.le_of_ble_eq_true rfl) rv_4 dX0_placeInGroup_91 ?_
          cases h
          exact z_vret rfl rfl rfl dX0_placeInGroup_94
theorem e_X0_placeInGroup {G : o_G} {N : Nat} {σ' : o_S} {s : o_S} (h : f_X0_placeInGroup N  s = some σ') : o_Ev G yX0_placeInGroup cX0_placeInGroup 1 (Option.none : Option Jvm.ClassFile.FieldType) 9 [.ref (g_ad G 4)] s (none) σ' := o_Ev.mk rfl (Nat.le_of_ble_eq_true rfl) (s_X0_placeInGroup h)
-- X0_beginsBlock
set_option maxRecDepth 10000 in
theorem s_X0_beginsBlock_b39 {G : o_G} {N : Nat} {r : Int32} {σ' : o_S} {y0 : Int32} {s : o_S} (h : f_X0_beginsBlock_b39 N y0 s = some (r, σ')) : o_Z G RX0 cX0_beginsBlock (Option.some Jvm.ClassFile.FieldType.boolean) 2 2 (o_E G (some (.int r)) σ') (o_k σ') s 39 [(0, .ref (g_ad G 4))] [.int y0] := by
  unfold f_X0_beginsBlock_b39 at h
  refine z_istore_n (L' := [(1, .int _), (0, .ref _)]) dX0_beginsBlock_39 (by decide) rfl ?_
  refine z_iload_n dX0_beginsBlock_40 0 rfl ?_
  refine z_if_eq (tgt := 69) dX0_beginsBlock_41 (by decide) (fun hc2 => ?_) (fun hc2 => ?_)
  · replace h := o_ip hc2 h
    refine z_iconst (v := 0) dX0_beginsBlock_69 (by decide) ?_
    cases h
    exact z_zret (by decide) rfl rfl rfl dX0_beginsBlock_70
  · replace h := o_in hc2 h
    refine z_aload_n dX0_beginsBlock_44 1 rfl ?_
    refine zg_X0_openColumns fl_X0_18 dX0_beginsBlock_45 ?_
    refine z_aload_n dX0_beginsBlock_48 1 rfl ?_
    obtain ⟨x5, s3, e4, h⟩ := o_bdi h
    refine z_callVi (As := []) (e_X0_innermost e4) (by decide) mi_X0_innermost ml_X0_63 rfl rfl (Nat.le_of_ble_eq_true rfl) rv_4 dX0_beginsBlock_49 ?_
    replace h := o_dd h
    refine z_callVi (As := [.int _]) (e_row_at (r := 6) (kd := 0) (by decide) _) (by decide) rm_at ml_X0_67 rfl rfl (Nat.le_of_ble_eq_true rfl) (rv_row (r := 6) (by decide)) dX0_beginsBlock_52 ?_
    refine z_aload_n dX0_beginsBlock_55 1 rfl ?_
    refine zg_X0_lexer fl_X0_34 dX0_beginsBlock_56 ?_
    refine zn_X1_atColumn (host := "OffsideParser") (by decide) dX0_beginsBlock_59 ?_
    refine z_icmp_ge (tgt := 69) dX0_beginsBlock_62 (by decide) (fun hc7 => ?_) (fun hc7 => ?_)
    · replace h := o_ip hc7 h
      refine z_iconst (v := 0) dX0_beginsBlock_69 (by decide) ?_
      cases h
      exact z_zret (by decide) rfl rfl rfl dX0_beginsBlock_70
    · replace h := o_in hc7 h
      refine z_iconst (v := 1) dX0_beginsBlock_65 (by decide) ?_
      refine z_goto (tgt := 70) dX0_beginsBlock_66 (by decide) ?_
      cases h
      exact z_zret (by decide) rfl rfl rfl dX0_beginsBlock_70
set_option maxRecDepth 10000 in
theorem s_X0_beginsBlock {G : o_G} {N : Nat} {r : Int32} {σ' : o_S} {s : o_S} (h : f_X0_beginsBlock N  s = some (r, σ')) : o_Z G RX0 cX0_beginsBlock (Option.some Jvm.ClassFile.FieldType.boolean) 2 2 (o_E G (some (.int r)) σ') (o_k σ') s 0 [(0, .ref (g_ad G 4))] [] := by
  unfold f_X0_beginsBlock at h
  refine z_aload_n dX0_beginsBlock_0 0 rfl ?_
  refine zg_X0_lexer fl_X0_34 dX0_beginsBlock_1 ?_
  refine zn_X1_token (host := "OffsideParser") (by decide) dX0_beginsBlock_4 ?_
  refine z_iconst (v := 2) dX0_beginsBlock_7 (by decide) ?_
  refine z_icmp_eq (tgt := 34) dX0_beginsBlock_8 (by decide) (fun hc1 => ?_) (fun hc1 => ?_)
  · replace h := o_ip hc1 h
    refine z_iconst (v := 1) dX0_beginsBlock_34 (by decide) ?_
    refine z_goto (tgt := 39) dX0_beginsBlock_35 (by decide) ?_
    exact o_Z.sub [0] rfl (s_X0_beginsBlock_b39 h)
  · replace h := o_in hc1 h
    refine z_aload_n dX0_beginsBlock_11 0 rfl ?_
    refine zg_X0_lexer fl_X0_34 dX0_beginsBlock_12 ?_
    refine zn_X1_token (host := "OffsideParser") (by decide) dX0_beginsBlock_15 ?_
    refine z_iconst (v := 3) dX0_beginsBlock_18 (by decide) ?_
    refine z_icmp_eq (tgt := 34) dX0_beginsBlock_19 (by decide) (fun hc8 => ?_) (fun hc8 => ?_)
    · replace h := o_ip hc8 h
      refine z_iconst (v := 1) dX0_beginsBlock_34 (by decide) ?_
      refine z_goto (tgt := 39) dX0_beginsBlock_35 (by decide) ?_
      exact o_Z.sub [0] rfl (s_X0_beginsBlock_b39 h)
    · replace h := o_in hc8 h
      refine z_aload_n dX0_beginsBlock_22 0 rfl ?_
      refine zg_X0_lexer fl_X0_34 dX0_beginsBlock_23 ?_
      refine zn_X1_token (host := "OffsideParser") (by decide) dX0_beginsBlock_26 ?_
      refine z_bipush (v := 40) dX0_beginsBlock_29 (by decide) ?_
      refine z_icmp_ne (tgt := 38) dX0_beginsBlock_31 (by decide) (fun hc9 => ?_) (fun hc9 => ?_)
      · replace h := o_in hc9 h
        refine z_iconst (v := 0) dX0_beginsBlock_38 (by decide) ?_
        exact o_Z.sub [0] rfl (s_X0_beginsBlock_b39 h)
      · replace h := o_ip hc9 h
        refine z_iconst (v := 1) dX0_beginsBlock_34 (by decide) ?_
        refine z_goto (tgt := 39) dX0_beginsBlock_35 (by decide) ?_
        exact o_Z.sub [0] rfl (s_X0_beginsBlock_b39 h)
theorem e_X0_beginsBlock {G : o_G} {N : Nat} {r : Int32} {σ' : o_S} {s : o_S} (h : f_X0_beginsBlock N  s = some (r, σ')) : o_Ev G yX0_beginsBlock cX0_beginsBlock 2 (Option.some Jvm.ClassFile.FieldType.boolean) 2 [.ref (g_ad G 4)] s (some (.int r)) σ' := o_Ev.mk rfl (Nat.le_of_ble_eq_true rfl) (s_X0_beginsBlock h)
-- X0_endItem
set_option maxRecDepth 10000 in
theorem s_X0_endItem {G : o_G} {N : Nat} {σ' : o_S} {s : o_S} (h : f_X0_endItem N  s = some σ') : o_Z G RX0 cX0_endItem (Option.none : Option Jvm.ClassFile.FieldType) 1 2 (o_E G (none) σ') (o_k σ') s 0 [(0, .ref (g_ad G 4))] [] := by
  unfold f_X0_endItem at h
  refine z_aload_n dX0_endItem_0 0 rfl ?_
  refine zg_X0_currentItems fl_X0_21 dX0_endItem_1 ?_
  refine z_aload_n dX0_endItem_4 0 rfl ?_
  obtain ⟨x3, s1, e2, h⟩ := o_bdi h
  refine z_callVi (As := []) (e_X0_innermost e2) (by decide) mi_X0_innermost ml_X0_63 rfl rfl (Nat.le_of_ble_eq_true rfl) rv_4 dX0_endItem_5 ?_
  refine z_iconst (v := (-1)) dX0_endItem_8 (by decide) ?_
  replace h := o_dd h
  refine z_callVv (As := [.int _, .int _]) (e_row_put (r := 7) (kd := 0) (by decide) _ _) (by decide) rm_put ml_X0_60 rfl rfl (Nat.le_of_ble_eq_true rfl) (rv_row (r := 7) (by decide)) dX0_endItem_9 ?_
  cases h
  exact z_vret rfl rfl rfl dX0_endItem_12
theorem e_X0_endItem {G : o_G} {N : Nat} {σ' : o_S} {s : o_S} (h : f_X0_endItem N  s = some σ') : o_Ev G yX0_endItem cX0_endItem 1 (Option.none : Option Jvm.ClassFile.FieldType) 2 [.ref (g_ad G 4)] s (none) σ' := o_Ev.mk rfl (Nat.le_of_ble_eq_true rfl) (s_X0_endItem h)
-- X0_alignToColumn
set_option maxRecDepth 10000 in
theorem s_X0_alignToColumn_b46 {G : o_G} {N : Nat} {σ' : o_S} {l1 : Int32} {l2 : Int32} {s : o_S} (h : f_X0_alignToColumn_b46 N l1 l2 s = some σ') : o_Z G RX0 cX0_alignToColumn (Option.none : Option Jvm.ClassFile.FieldType) 4 8 (o_E G (none) σ') (o_k σ') s 46 [(0, .ref (g_ad G 4)), (1, .int l1), (2, .int l2)] [] := by
  unfold f_X0_alignToColumn_b46 at h
  refine z_aload_n dX0_alignToColumn_46 0 rfl ?_
  refine z_iload_n dX0_alignToColumn_47 2 rfl ?_
  refine z_iconst (v := 1) dX0_alignToColumn_48 (by decide) ?_
  refine z_iadd dX0_alignToColumn_49 ?_
  obtain ⟨s6, e7, h⟩ := o_bdv h
  refine z_callVv (As := [.int _]) (e_X0_close e7) (by decide) mi_X0_close ml_X0_118 rfl rfl (Nat.le_of_ble_eq_true rfl) rv_4 dX0_alignToColumn_50 ?_
  refine z_aload_n dX0_alignToColumn_53 0 rfl ?_
  refine zg_X0_openColumns fl_X0_18 dX0_alignToColumn_54 ?_
  refine z_iload_n dX0_alignToColumn_57 2 rfl ?_
  replace h := o_dd h
  refine z_callVi (As := [.int _]) (e_row_at (r := 6) (kd := 0) (by decide) _) (by decide) rm_at ml_X0_67 rfl rfl (Nat.le_of_ble_eq_true rfl) (rv_row (r := 6) (by decide)) dX0_alignToColumn_58 ?_
  refine z_istore_n (L' := [(3, .int _), (0, .ref _), (1, .int _), (2, .int _)]) dX0_alignToColumn_61 (by decide) rfl ?_
  refine z_iload_n dX0_alignToColumn_62 0 rfl ?_
  refine z_aload_n dX0_alignToColumn_63 1 rfl ?_
  refine zg_X0_lexer fl_X0_34 dX0_alignToColumn_64 ?_
  refine zn_X1_atColumn (host := "OffsideParser") (by decide) dX0_alignToColumn_67 ?_
  refine z_icmp_ne (tgt := 80) dX0_alignToColumn_70 (by decide) (fun hc9 => ?_) (fun hc9 => ?_)
  · replace h := o_in hc9 h
    refine z_iload_n dX0_alignToColumn_80 0 rfl ?_
    refine z_aload_n dX0_alignToColumn_81 1 rfl ?_
    refine zg_X0_lexer fl_X0_34 dX0_alignToColumn_82 ?_
    refine zn_X1_atColumn (host := "OffsideParser") (by decide) dX0_alignToColumn_85 ?_
    refine z_icmp_gt (tgt := 101) dX0_alignToColumn_88 (by decide) (fun hc10 => ?_) (fun hc10 => ?_)
    · replace h := o_ip hc10 h
      refine z_aload_n dX0_alignToColumn_101 1 rfl ?_
      refine z_iconst (v := 2) dX0_alignToColumn_102 (by decide) ?_
      obtain ⟨s11, e12, h⟩ := o_bdv h
      refine z_callVv (As := [.int _]) (e_X0_report e12) (by decide) mi_X0_report ml_X0_97 rfl rfl (Nat.le_of_ble_eq_true rfl) rv_4 dX0_alignToColumn_103 ?_
      refine z_aload_n dX0_alignToColumn_106 1 rfl ?_
      obtain ⟨s13, e14, h⟩ := o_bdv h
      refine z_callVv (As := []) (e_X0_endItem e14) (by decide) mi_X0_endItem ml_X0_121 rfl rfl (Nat.le_of_ble_eq_true rfl) rv_4 dX0_alignToColumn_107 ?_
      cases h
      exact z_vret rfl rfl rfl dX0_alignToColumn_110
    · replace h := o_in hc10 h
      refine z_iload_n dX0_alignToColumn_91 0 rfl ?_
      refine z_iconst (v := (-1)) dX0_alignToColumn_92 (by decide) ?_
      refine z_icmp_eq (tgt := 110) dX0_alignToColumn_93 (by decide) (fun hc15 => ?_) (fun hc15 => ?_)
      · replace h := o_ip hc15 h
        cases h
        exact z_vret rfl rfl rfl dX0_alignToColumn_110
      · replace h := o_in hc15 h
        refine z_iload_n dX0_alignToColumn_96 3 rfl ?_
        refine z_iload_n dX0_alignToColumn_97 2 rfl ?_
        refine z_icmp_ge (tgt := 110) dX0_alignToColumn_98 (by decide) (fun hc16 => ?_) (fun hc16 => ?_)
        · replace h := o_ip hc16 h
          cases h
          exact z_vret rfl rfl rfl dX0_alignToColumn_110
        · replace h := o_in hc16 h
          refine z_aload_n dX0_alignToColumn_101 1 rfl ?_
          refine z_iconst (v := 2) dX0_alignToColumn_102 (by decide) ?_
          obtain ⟨s17, e18, h⟩ := o_bdv h
          refine z_callVv (As := [.int _]) (e_X0_report e18) (by decide) mi_X0_report ml_X0_97 rfl rfl (Nat.le_of_ble_eq_true rfl) rv_4 dX0_alignToColumn_103 ?_
          refine z_aload_n dX0_alignToColumn_106 1 rfl ?_
          obtain ⟨s19, e20, h⟩ := o_bdv h
          refine z_callVv (As := []) (e_X0_endItem e20) (by decide) mi_X0_endItem ml_X0_121 rfl rfl (Nat.le_of_ble_eq_true rfl) rv_4 dX0_alignToColumn_107 ?_
          cases h
          exact z_vret rfl rfl rfl dX0_alignToColumn_110
  · replace h := o_ip hc9 h
    refine z_aload_n dX0_alignToColumn_73 1 rfl ?_
    obtain ⟨s21, e22, h⟩ := o_bdv h
    refine z_callVv (As := []) (e_X0_endItem e22) (by decide) mi_X0_endItem ml_X0_121 rfl rfl (Nat.le_of_ble_eq_true rfl) rv_4 dX0_alignToColumn_74 ?_
    refine z_goto (tgt := 110) dX0_alignToColumn_77 (by decide) ?_
    cases h
    exact z_vret rfl rfl rfl dX0_alignToColumn_110
set_option maxRecDepth 10000 in
theorem s_X0_alignToColumn_L18 {G : o_G} {N : Nat} {σ' : o_S} : ∀ (n : Nat) (l1 : Int32) (l2 : Int32) (s : o_S), f_X0_alignToColumn_L18 N n l1 l2 s = some σ' → o_Z G RX0 cX0_alignToColumn (Option.none : Option Jvm.ClassFile.FieldType) 4 8 (o_E G (none) σ') (o_k σ') s 18 [(0, .ref (g_ad G 4)), (1, .int l1), (2, .int l2)] [] := by
  intro n
  induction n with
  | zero => intro l1 l2 s h; cases h
  | succ n ih =>
    intro l1 l2 s h
    rw [f_X0_alignToColumn_L18] at h
    refine z_iload_n dX0_alignToColumn_18 2 rfl ?_
    refine z_if_le (tgt := 46) dX0_alignToColumn_19 (by decide) (fun hc5 => ?_) (fun hc5 => ?_)
    · replace h := o_ip hc5 h
      exact o_Z.sub [0, 1, 2] rfl (s_X0_alignToColumn_b46 h)
    · replace h := o_in hc5 h
      refine z_aload_n dX0_alignToColumn_22 0 rfl ?_
      refine zg_X0_openColumns fl_X0_18 dX0_alignToColumn_23 ?_
      refine z_iload_n dX0_alignToColumn_26 2 rfl ?_
      replace h := o_dd h
      refine z_callVi (As := [.int _]) (e_row_at (r := 6) (kd := 0) (by decide) _) (by decide) rm_at ml_X0_67 rfl rfl (Nat.le_of_ble_eq_true rfl) (rv_row (r := 6) (by decide)) dX0_alignToColumn_27 ?_
      refine z_aload_n dX0_alignToColumn_30 0 rfl ?_
      refine zg_X0_lexer fl_X0_34 dX0_alignToColumn_31 ?_
      refine zn_X1_atColumn (host := "OffsideParser") (by decide) dX0_alignToColumn_34 ?_
      refine z_icmp_le (tgt := 46) dX0_alignToColumn_37 (by decide) (fun hc24 => ?_) (fun hc24 => ?_)
      · replace h := o_ip hc24 h
        exact o_Z.sub [0, 1, 2] rfl (s_X0_alignToColumn_b46 h)
      · replace h := o_in hc24 h
        refine z_iinc (v := _ + (-1)) (L' := [(2, .int _), (0, .ref _), (1, .int _)]) dX0_alignToColumn_40 2 rfl rfl (by decide) rfl ?_
        refine z_goto (tgt := 18) dX0_alignToColumn_43 (by decide) ?_
        exact o_Z.sub [1, 2, 0] rfl (ih _ _ _ h)
set_option maxRecDepth 10000 in
theorem s_X0_alignToColumn {G : o_G} {N : Nat} {σ' : o_S} {s : o_S} (h : f_X0_alignToColumn N  s = some σ') : o_Z G RX0 cX0_alignToColumn (Option.none : Option Jvm.ClassFile.FieldType) 4 8 (o_E G (none) σ') (o_k σ') s 0 [(0, .ref (g_ad G 4))] [] := by
  unfold f_X0_alignToColumn at h
  refine z_aload_n dX0_alignToColumn_0 0 rfl ?_
  refine zg_X0_lexer fl_X0_34 dX0_alignToColumn_1 ?_
  refine zn_X1_isFirst (host := "OffsideParser") (by decide) dX0_alignToColumn_4 ?_
  refine z_if_ne (tgt := 11) dX0_alignToColumn_7 (by decide) (fun hc1 => ?_) (fun hc1 => ?_)
  · replace h := o_in hc1 h
    refine z_aload_n dX0_alignToColumn_11 0 rfl ?_
    obtain ⟨x4, s2, e3, h⟩ := o_bdi h
    refine z_callVi (As := []) (e_X0_innermost e3) (by decide) mi_X0_innermost ml_X0_63 rfl rfl (Nat.le_of_ble_eq_true rfl) rv_4 dX0_alignToColumn_12 ?_
    refine z_istore_n (L' := [(1, .int _), (0, .ref _)]) dX0_alignToColumn_15 (by decide) rfl ?_
    refine z_iload_n dX0_alignToColumn_16 0 rfl ?_
    refine z_istore_n (L' := [(2, .int _), (1, .int _), (0, .ref _)]) dX0_alignToColumn_17 (by decide) rfl ?_
    exact o_Z.sub [2, 1, 0] rfl (s_X0_alignToColumn_L18 _ _ _ _ h)
  · replace h := o_ip hc1 h
    cases h
    exact z_vret rfl rfl rfl dX0_alignToColumn_10
theorem e_X0_alignToColumn {G : o_G} {N : Nat} {σ' : o_S} {s : o_S} (h : f_X0_alignToColumn N  s = some σ') : o_Ev G yX0_alignToColumn cX0_alignToColumn 4 (Option.none : Option Jvm.ClassFile.FieldType) 8 [.ref (g_ad G 4)] s (none) σ' := o_Ev.mk rfl (Nat.le_of_ble_eq_true rfl) (s_X0_alignToColumn h)
-- X0_takeColon
set_option maxRecDepth 10000 in
theorem s_X0_takeColon {G : o_G} {N : Nat} {σ' : o_S} {s : o_S} (h : f_X0_takeColon N  s = some σ') : o_Z G RX0 cX0_takeColon (Option.none : Option Jvm.ClassFile.FieldType) 1 8 (o_E G (none) σ') (o_k σ') s 0 [(0, .ref (g_ad G 4))] [] := by
  unfold f_X0_takeColon at h
  refine z_aload_n dX0_takeColon_0 0 rfl ?_
  refine zg_X0_currentItems fl_X0_21 dX0_takeColon_1 ?_
  refine z_aload_n dX0_takeColon_4 0 rfl ?_
  obtain ⟨x3, s1, e2, h⟩ := o_bdi h
  refine z_callVi (As := []) (e_X0_innermost e2) (by decide) mi_X0_innermost ml_X0_63 rfl rfl (Nat.le_of_ble_eq_true rfl) rv_4 dX0_takeColon_5 ?_
  replace h := o_dd h
  refine z_callVi (As := [.int _]) (e_row_at (r := 7) (kd := 0) (by decide) _) (by decide) rm_at ml_X0_67 rfl rfl (Nat.le_of_ble_eq_true rfl) (rv_row (r := 7) (by decide)) dX0_takeColon_8 ?_
  refine z_iconst (v := (-1)) dX0_takeColon_11 (by decide) ?_
  refine z_icmp_ne (tgt := 23) dX0_takeColon_12 (by decide) (fun hc5 => ?_) (fun hc5 => ?_)
  · replace h := o_in hc5 h
    refine z_aload_n dX0_takeColon_23 0 rfl ?_
    obtain ⟨x8, s6, e7, h⟩ := o_bdi h
    refine z_callVi (As := []) (e_X0_isDeep e7) (by decide) mi_X0_isDeep ml_X0_149 rfl rfl (Nat.le_of_ble_eq_true rfl) rv_4 dX0_takeColon_24 ?_
    refine z_if_eq (tgt := 38) dX0_takeColon_27 (by decide) (fun hc9 => ?_) (fun hc9 => ?_)
    · replace h := o_ip hc9 h
      refine z_aload_n dX0_takeColon_38 0 rfl ?_
      refine z_iconst (v := 1) dX0_takeColon_39 (by decide) ?_
      replace h := o_dd h
      refine zp_X0_colonBefore (by decide) fl_X0_28 dX0_takeColon_40 ?_
      cases h
      exact z_vret rfl rfl rfl dX0_takeColon_43
    · replace h := o_in hc9 h
      refine z_aload_n dX0_takeColon_30 0 rfl ?_
      refine z_iconst (v := 5) dX0_takeColon_31 (by decide) ?_
      obtain ⟨s11, e12, h⟩ := o_bdv h
      refine z_callVv (As := [.int _]) (e_X0_report e12) (by decide) mi_X0_report ml_X0_97 rfl rfl (Nat.le_of_ble_eq_true rfl) rv_4 dX0_takeColon_32 ?_
      refine z_goto (tgt := 43) dX0_takeColon_35 (by decide) ?_
      cases h
      exact z_vret rfl rfl rfl dX0_takeColon_43
  · replace h := o_ip hc5 h
    refine z_aload_n dX0_takeColon_15 0 rfl ?_
    refine z_iconst (v := 3) dX0_takeColon_16 (by decide) ?_
    obtain ⟨s13, e14, h⟩ := o_bdv h
    refine z_callVv (As := [.int _]) (e_X0_report e14) (by decide) mi_X0_report ml_X0_97 rfl rfl (Nat.le_of_ble_eq_true rfl) rv_4 dX0_takeColon_17 ?_
    refine z_goto (tgt := 43) dX0_takeColon_20 (by decide) ?_
    cases h
    exact z_vret rfl rfl rfl dX0_takeColon_43
theorem e_X0_takeColon {G : o_G} {N : Nat} {σ' : o_S} {s : o_S} (h : f_X0_takeColon N  s = some σ') : o_Ev G yX0_takeColon cX0_takeColon 1 (Option.none : Option Jvm.ClassFile.FieldType) 8 [.ref (g_ad G 4)] s (none) σ' := o_Ev.mk rfl (Nat.le_of_ble_eq_true rfl) (s_X0_takeColon h)
-- X0_closeBraces
set_option maxRecDepth 10000 in
theorem s_X0_closeBraces_b27 {G : o_G} {N : Nat} {σ' : o_S} {l1 : Int32} {s : o_S} (h : f_X0_closeBraces_b27 N l1 s = some σ') : o_Z G RX0 cX0_closeBraces (Option.none : Option Jvm.ClassFile.FieldType) 2 8 (o_E G (none) σ') (o_k σ') s 27 [(0, .ref (g_ad G 4)), (1, .int l1)] [] := by
  unfold f_X0_closeBraces_b27 at h
  refine z_iload_n dX0_closeBraces_27 1 rfl ?_
  refine z_if_le (tgt := 39) dX0_closeBraces_28 (by decide) (fun hc5 => ?_) (fun hc5 => ?_)
  · replace h := o_ip hc5 h
    refine z_aload_n dX0_closeBraces_39 0 rfl ?_
    refine z_iconst (v := 4) dX0_closeBraces_40 (by decide) ?_
    obtain ⟨s6, e7, h⟩ := o_bdv h
    refine z_callVv (As := [.int _]) (e_X0_report e7) (by decide) mi_X0_report ml_X0_97 rfl rfl (Nat.le_of_ble_eq_true rfl) rv_4 dX0_closeBraces_41 ?_
    cases h
    exact z_vret rfl rfl rfl dX0_closeBraces_44
  · replace h := o_in hc5 h
    refine z_aload_n dX0_closeBraces_31 0 rfl ?_
    refine z_iload_n dX0_closeBraces_32 1 rfl ?_
    obtain ⟨s8, e9, h⟩ := o_bdv h
    refine z_callVv (As := [.int _]) (e_X0_close e9) (by decide) mi_X0_close ml_X0_118 rfl rfl (Nat.le_of_ble_eq_true rfl) rv_4 dX0_closeBraces_33 ?_
    refine z_goto (tgt := 44) dX0_closeBraces_36 (by decide) ?_
    cases h
    exact z_vret rfl rfl rfl dX0_closeBraces_44
set_option maxRecDepth 10000 in
theorem s_X0_closeBraces_L5 {G : o_G} {N : Nat} {σ' : o_S} : ∀ (n : Nat) (l1 : Int32) (s : o_S), f_X0_closeBraces_L5 N n l1 s = some σ' → o_Z G RX0 cX0_closeBraces (Option.none : Option Jvm.ClassFile.FieldType) 2 8 (o_E G (none) σ') (o_k σ') s 5 [(0, .ref (g_ad G 4)), (1, .int l1)] [] := by
  intro n
  induction n with
  | zero => intro l1 s h; cases h
  | succ n ih =>
    intro l1 s h
    rw [f_X0_closeBraces_L5] at h
    refine z_iload_n dX0_closeBraces_5 1 rfl ?_
    refine z_if_le (tgt := 27) dX0_closeBraces_6 (by decide) (fun hc4 => ?_) (fun hc4 => ?_)
    · replace h := o_ip hc4 h
      exact o_Z.sub [0, 1] rfl (s_X0_closeBraces_b27 h)
    · replace h := o_in hc4 h
      refine z_aload_n dX0_closeBraces_9 0 rfl ?_
      refine zg_X0_openColumns fl_X0_18 dX0_closeBraces_10 ?_
      refine z_iload_n dX0_closeBraces_13 1 rfl ?_
      replace h := o_dd h
      refine z_callVi (As := [.int _]) (e_row_at (r := 6) (kd := 0) (by decide) _) (by decide) rm_at ml_X0_67 rfl rfl (Nat.le_of_ble_eq_true rfl) (rv_row (r := 6) (by decide)) dX0_closeBraces_14 ?_
      refine z_iconst (v := (-1)) dX0_closeBraces_17 (by decide) ?_
      refine z_icmp_eq (tgt := 27) dX0_closeBraces_18 (by decide) (fun hc11 => ?_) (fun hc11 => ?_)
      · replace h := o_ip hc11 h
        exact o_Z.sub [0, 1] rfl (s_X0_closeBraces_b27 h)
      · replace h := o_in hc11 h
        refine z_iinc (v := _ + (-1)) (L' := [(1, .int _), (0, .ref _)]) dX0_closeBraces_21 1 rfl rfl (by decide) rfl ?_
        refine z_goto (tgt := 5) dX0_closeBraces_24 (by decide) ?_
        exact o_Z.sub [1, 0] rfl (ih _ _ h)
set_option maxRecDepth 10000 in
theorem s_X0_closeBraces {G : o_G} {N : Nat} {σ' : o_S} {s : o_S} (h : f_X0_closeBraces N  s = some σ') : o_Z G RX0 cX0_closeBraces (Option.none : Option Jvm.ClassFile.FieldType) 2 8 (o_E G (none) σ') (o_k σ') s 0 [(0, .ref (g_ad G 4))] [] := by
  unfold f_X0_closeBraces at h
  refine z_aload_n dX0_closeBraces_0 0 rfl ?_
  obtain ⟨x3, s1, e2, h⟩ := o_bdi h
  refine z_callVi (As := []) (e_X0_innermost e2) (by decide) mi_X0_innermost ml_X0_63 rfl rfl (Nat.le_of_ble_eq_true rfl) rv_4 dX0_closeBraces_1 ?_
  refine z_istore_n (L' := [(1, .int _), (0, .ref _)]) dX0_closeBraces_4 (by decide) rfl ?_
  exact o_Z.sub [1, 0] rfl (s_X0_closeBraces_L5 _ _ _ h)
theorem e_X0_closeBraces {G : o_G} {N : Nat} {σ' : o_S} {s : o_S} (h : f_X0_closeBraces N  s = some σ') : o_Ev G yX0_closeBraces cX0_closeBraces 2 (Option.none : Option Jvm.ClassFile.FieldType) 8 [.ref (g_ad G 4)] s (none) σ' := o_Ev.mk rfl (Nat.le_of_ble_eq_true rfl) (s_X0_closeBraces h)
-- X0_placeInBlock
set_option maxRecDepth 10000 in
theorem s_X0_placeInBlock {G : o_G} {N : Nat} {σ' : o_S} {s : o_S} (h : f_X0_placeInBlock N  s = some σ') : o_Z G RX0 cX0_placeInBlock (Option.none : Option Jvm.ClassFile.FieldType) 1 9 (o_E G (none) σ') (o_k σ') s 0 [(0, .ref (g_ad G 4))] [] := by
  unfold f_X0_placeInBlock at h
  refine z_aload_n dX0_placeInBlock_0 0 rfl ?_
  refine zg_X0_lexer fl_X0_34 dX0_placeInBlock_1 ?_
  refine zn_X1_token (host := "OffsideParser") (by decide) dX0_placeInBlock_4 ?_
  by_cases hc1 : (o_F s 8) = 2
  · replace h := o_ip hc1 h
    refine z_lookup (tgt := 72) dX0_placeInBlock_7 (by decide) (off := 65) (by rw [hc1]; decide) (by decide) ?_
    refine z_aload_n dX0_placeInBlock_72 0 rfl ?_
    obtain ⟨s2, e3, h⟩ := o_bdv h
    refine z_callVv (As := []) (e_X0_addWord e3) (by decide) mi_X0_addWord ml_X0_124 rfl rfl (Nat.le_of_ble_eq_true rfl) rv_4 dX0_placeInBlock_73 ?_
    refine z_goto (tgt := 136) dX0_placeInBlock_76 (by decide) ?_
    cases h
    exact z_vret rfl rfl rfl dX0_placeInBlock_136
  · replace h := o_in hc1 h
    by_cases hc4 : (o_F s 8) = 3
    · replace h := o_ip hc4 h
      refine z_lookup (tgt := 79) dX0_placeInBlock_7 (by decide) (off := 72) (by rw [hc4]; decide) (by decide) ?_
      refine z_aload_n dX0_placeInBlock_79 0 rfl ?_
      refine z_iconst (v := 3) dX0_placeInBlock_80 (by decide) ?_
      refine z_aload_n dX0_placeInBlock_81 0 rfl ?_
      refine zg_X0_lexer fl_X0_34 dX0_placeInBlock_82 ?_
      obtain ⟨x7, s5, e6, h⟩ := o_bdi h
      refine z_callVi (As := []) (e_X1_numberRead e6) (by decide) mi_X1_numberRead ml_X0_127 rfl rfl (Nat.le_of_ble_eq_true rfl) rv_3 dX0_placeInBlock_85 ?_
      obtain ⟨x10, s8, e9, h⟩ := o_bdi h
      refine z_callVi (As := [.int _, .int _]) (e_X0_addPart e9) (by decide) mi_X0_addPart ml_X0_83 rfl rfl (Nat.le_of_ble_eq_true rfl) rv_4 dX0_placeInBlock_88 ?_
      refine z_pop dX0_placeInBlock_91 rfl ?_
      refine z_goto (tgt := 136) dX0_placeInBlock_92 (by decide) ?_
      cases h
      exact z_vret rfl rfl rfl dX0_placeInBlock_136
    · replace h := o_in hc4 h
      by_cases hc11 : (o_F s 8) = 40
      · replace h := o_ip hc11 h
        refine z_lookup (tgt := 95) dX0_placeInBlock_7 (by decide) (off := 88) (by rw [hc11]; decide) (by decide) ?_
        refine z_aload_n dX0_placeInBlock_95 0 rfl ?_
        obtain ⟨s12, e13, h⟩ := o_bdv h
        refine z_callVv (As := []) (e_X0_openGroup e13) (by decide) mi_X0_openGroup ml_X0_130 rfl rfl (Nat.le_of_ble_eq_true rfl) rv_4 dX0_placeInBlock_96 ?_
        refine z_goto (tgt := 136) dX0_placeInBlock_99 (by decide) ?_
        cases h
        exact z_vret rfl rfl rfl dX0_placeInBlock_136
      · replace h := o_in hc11 h
        by_cases hc14 : (o_F s 8) = 58
        · replace h := o_ip hc14 h
          refine z_lookup (tgt := 109) dX0_placeInBlock_7 (by decide) (off := 102) (by rw [hc14]; decide) (by decide) ?_
          refine z_aload_n dX0_placeInBlock_109 0 rfl ?_
          obtain ⟨s15, e16, h⟩ := o_bdv h
          refine z_callVv (As := []) (e_X0_takeColon e16) (by decide) mi_X0_takeColon ml_X0_133 rfl rfl (Nat.le_of_ble_eq_true rfl) rv_4 dX0_placeInBlock_110 ?_
          refine z_goto (tgt := 136) dX0_placeInBlock_113 (by decide) ?_
          cases h
          exact z_vret rfl rfl rfl dX0_placeInBlock_136
        · replace h := o_in hc14 h
          by_cases hc17 : (o_F s 8) = 59
          · replace h := o_ip hc17 h
            refine z_lookup (tgt := 102) dX0_placeInBlock_7 (by decide) (off := 95) (by rw [hc17]; decide) (by decide) ?_
            refine z_aload_n dX0_placeInBlock_102 0 rfl ?_
            obtain ⟨s18, e19, h⟩ := o_bdv h
            refine z_callVv (As := []) (e_X0_endItem e19) (by decide) mi_X0_endItem ml_X0_121 rfl rfl (Nat.le_of_ble_eq_true rfl) rv_4 dX0_placeInBlock_103 ?_
            refine z_goto (tgt := 136) dX0_placeInBlock_106 (by decide) ?_
            cases h
            exact z_vret rfl rfl rfl dX0_placeInBlock_136
          · replace h := o_in hc17 h
            by_cases hc20 : (o_F s 8) = 123
            · replace h := o_ip hc20 h
              refine z_lookup (tgt := 123) dX0_placeInBlock_7 (by decide) (off := 116) (by rw [hc20]; decide) (by decide) ?_
              refine z_aload_n dX0_placeInBlock_123 0 rfl ?_
              refine z_iconst (v := 3) dX0_placeInBlock_124 (by decide) ?_
              obtain ⟨s21, e22, h⟩ := o_bdv h
              refine z_callVv (As := [.int _]) (e_X0_report e22) (by decide) mi_X0_report ml_X0_97 rfl rfl (Nat.le_of_ble_eq_true rfl) rv_4 dX0_placeInBlock_125 ?_
              refine z_goto (tgt := 136) dX0_placeInBlock_128 (by decide) ?_
              cases h
              exact z_vret rfl rfl rfl dX0_placeInBlock_136
            · replace h := o_in hc20 h
              by_cases hc23 : (o_F s 8) = 125
              · replace h := o_ip hc23 h
                refine z_lookup (tgt := 116) dX0_placeInBlock_7 (by decide) (off := 109) (by rw [hc23]; decide) (by decide) ?_
                refine z_aload_n dX0_placeInBlock_116 0 rfl ?_
                obtain ⟨s24, e25, h⟩ := o_bdv h
                refine z_callVv (As := []) (e_X0_closeBraces e25) (by decide) mi_X0_closeBraces ml_X0_136 rfl rfl (Nat.le_of_ble_eq_true rfl) rv_4 dX0_placeInBlock_117 ?_
                refine z_goto (tgt := 136) dX0_placeInBlock_120 (by decide) ?_
                cases h
                exact z_vret rfl rfl rfl dX0_placeInBlock_136
              · replace h := o_in hc23 h
                refine z_lookup (tgt := 131) dX0_placeInBlock_7 (by decide) (off := 124) (by show Op.lookupswitch.offset [(2, 65), (3, 72), (40, 88), (58, 102), (59, 95), (123, 116), (125, 109)] 124 _ = _; rw [lv_osw hc1 (by decide), lv_osw hc4 (by decide), lv_osw hc11 (by decide), lv_osw hc14 (by decide), lv_osw hc17 (by decide), lv_osw hc20 (by decide), lv_osw hc23 (by decide)]; rfl) (by decide) ?_
                refine z_aload_n dX0_placeInBlock_131 0 rfl ?_
                refine z_iconst (v := 4) dX0_placeInBlock_132 (by decide) ?_
                obtain ⟨s26, e27, h⟩ := o_bdv h
                refine z_callVv (As := [.int _]) (e_X0_report e27) (by decide) mi_X0_report ml_X0_97 rfl rfl (Nat.le_of_ble_eq_true rfl) rv_4 dX0_placeInBlock_133 ?_
                cases h
                exact z_vret rfl rfl rfl dX0_placeInBlock_136
theorem e_X0_placeInBlock {G : o_G} {N : Nat} {σ' : o_S} {s : o_S} (h : f_X0_placeInBlock N  s = some σ') : o_Ev G yX0_placeInBlock cX0_placeInBlock 1 (Option.none : Option Jvm.ClassFile.FieldType) 9 [.ref (g_ad G 4)] s (none) σ' := o_Ev.mk rfl (Nat.le_of_ble_eq_true rfl) (s_X0_placeInBlock h)
-- X0_take
set_option maxRecDepth 10000 in
theorem s_X0_take_b127 {G : o_G} {N : Nat} {σ' : o_S} {l1 : Int32} {s : o_S} (h : f_X0_take_b127 N l1 s = some σ') : o_Z G RX0 cX0_take (Option.none : Option Jvm.ClassFile.FieldType) 2 10 (o_E G (none) σ') (o_k σ') s 127 [(0, .ref (g_ad G 4)), (1, .int l1)] [] := by
  unfold f_X0_take_b127 at h
  refine z_iload_n dX0_take_127 1 rfl ?_
  refine z_if_eq (tgt := 138) dX0_take_128 (by decide) (fun hc13 => ?_) (fun hc13 => ?_)
  · replace h := o_ip hc13 h
    refine z_aload_n dX0_take_138 0 rfl ?_
    obtain ⟨s14, e15, h⟩ := o_bdv h
    refine z_callVv (As := []) (e_X0_alignToColumn e15) (by decide) mi_X0_alignToColumn ml_X0_91 rfl rfl (Nat.le_of_ble_eq_true rfl) rv_4 dX0_take_139 ?_
    refine z_aload_n dX0_take_142 0 rfl ?_
    obtain ⟨s16, e17, h⟩ := o_bdv h
    refine z_callVv (As := []) (e_X0_placeInBlock e17) (by decide) mi_X0_placeInBlock ml_X0_94 rfl rfl (Nat.le_of_ble_eq_true rfl) rv_4 dX0_take_143 ?_
    cases h
    exact z_vret rfl rfl rfl dX0_take_146
  · replace h := o_in hc13 h
    refine z_aload_n dX0_take_131 0 rfl ?_
    refine z_iconst (v := 0) dX0_take_132 (by decide) ?_
    refine z_iconst (v := 0) dX0_take_133 (by decide) ?_
    obtain ⟨x20, s18, e19, h⟩ := o_bdi h
    refine z_callVi (As := [.int _, .int _]) (e_X0_addPart e19) (by decide) mi_X0_addPart ml_X0_83 rfl rfl (Nat.le_of_ble_eq_true rfl) rv_4 dX0_take_134 ?_
    refine z_pop dX0_take_137 rfl ?_
    refine z_aload_n dX0_take_138 0 rfl ?_
    obtain ⟨s21, e22, h⟩ := o_bdv h
    refine z_callVv (As := []) (e_X0_alignToColumn e22) (by decide) mi_X0_alignToColumn ml_X0_91 rfl rfl (Nat.le_of_ble_eq_true rfl) rv_4 dX0_take_139 ?_
    refine z_aload_n dX0_take_142 0 rfl ?_
    obtain ⟨s23, e24, h⟩ := o_bdv h
    refine z_callVv (As := []) (e_X0_placeInBlock e24) (by decide) mi_X0_placeInBlock ml_X0_94 rfl rfl (Nat.le_of_ble_eq_true rfl) rv_4 dX0_take_143 ?_
    cases h
    exact z_vret rfl rfl rfl dX0_take_146
set_option maxRecDepth 10000 in
theorem s_X0_take_b96 {G : o_G} {N : Nat} {σ' : o_S} {l1 : Int32} {s : o_S} (h : f_X0_take_b96 N l1 s = some σ') : o_Z G RX0 cX0_take (Option.none : Option Jvm.ClassFile.FieldType) 2 10 (o_E G (none) σ') (o_k σ') s 96 [(0, .ref (g_ad G 4)), (1, .int l1)] [] := by
  unfold f_X0_take_b96 at h
  refine z_iload_n dX0_take_96 1 rfl ?_
  refine z_if_eq (tgt := 127) dX0_take_97 (by decide) (fun hc12 => ?_) (fun hc12 => ?_)
  · replace h := o_ip hc12 h
    exact o_Z.sub [0, 1] rfl (s_X0_take_b127 h)
  · replace h := o_in hc12 h
    refine z_aload_n dX0_take_100 0 rfl ?_
    obtain ⟨x27, s25, e26, h⟩ := o_bdi h
    refine z_callVi (As := []) (e_X0_beginsBlock e26) (by decide) mi_X0_beginsBlock ml_X0_87 rfl rfl (Nat.le_of_ble_eq_true rfl) rv_4 dX0_take_101 ?_
    refine z_if_eq (tgt := 127) dX0_take_104 (by decide) (fun hc28 => ?_) (fun hc28 => ?_)
    · replace h := o_ip hc28 h
      exact o_Z.sub [0, 1] rfl (s_X0_take_b127 h)
    · replace h := o_in hc28 h
      refine z_aload_n dX0_take_107 0 rfl ?_
      refine z_aload_n dX0_take_108 0 rfl ?_
      refine z_iconst (v := 0) dX0_take_109 (by decide) ?_
      refine z_iconst (v := 0) dX0_take_110 (by decide) ?_
      obtain ⟨x31, s29, e30, h⟩ := o_bdi h
      refine z_callVi (As := [.int _, .int _]) (e_X0_addPart e30) (by decide) mi_X0_addPart ml_X0_83 rfl rfl (Nat.le_of_ble_eq_true rfl) rv_4 dX0_take_111 ?_
      refine z_aload_n dX0_take_114 0 rfl ?_
      refine zg_X0_lexer fl_X0_34 dX0_take_115 ?_
      refine zn_X1_atColumn (host := "OffsideParser") (by decide) dX0_take_118 ?_
      obtain ⟨s32, e33, h⟩ := o_bdv h
      refine z_callVv (As := [.int _, .int _]) (e_X0_enter e33) (by decide) mi_X0_enter ml_X0_50 rfl rfl (Nat.le_of_ble_eq_true rfl) rv_4 dX0_take_121 ?_
      refine z_goto (tgt := 142) dX0_take_124 (by decide) ?_
      refine z_aload_n dX0_take_142 0 rfl ?_
      obtain ⟨s34, e35, h⟩ := o_bdv h
      refine z_callVv (As := []) (e_X0_placeInBlock e35) (by decide) mi_X0_placeInBlock ml_X0_94 rfl rfl (Nat.le_of_ble_eq_true rfl) rv_4 dX0_take_143 ?_
      cases h
      exact z_vret rfl rfl rfl dX0_take_146
set_option maxRecDepth 10000 in
theorem s_X0_take_b37 {G : o_G} {N : Nat} {σ' : o_S} {l1 : Int32} {s : o_S} (h : f_X0_take_b37 N l1 s = some σ') : o_Z G RX0 cX0_take (Option.none : Option Jvm.ClassFile.FieldType) 2 10 (o_E G (none) σ') (o_k σ') s 37 [(0, .ref (g_ad G 4)), (1, .int l1)] [] := by
  unfold f_X0_take_b37 at h
  refine z_aload_n dX0_take_37 0 rfl ?_
  refine zg_X0_tree fl_X0_38 dX0_take_38 ?_
  refine z_aload_n dX0_take_41 0 rfl ?_
  refine zg_X0_openNodes fl_X0_12 dX0_take_42 ?_
  refine z_aload_n dX0_take_45 0 rfl ?_
  obtain ⟨x5, s3, e4, h⟩ := o_bdi h
  refine z_callVi (As := []) (e_X0_innermost e4) (by decide) mi_X0_innermost ml_X0_63 rfl rfl (Nat.le_of_ble_eq_true rfl) rv_4 dX0_take_46 ?_
  replace h := o_dd h
  refine z_callVi (As := [.int _]) (e_row_at (r := 5) (kd := 0) (by decide) _) (by decide) rm_at ml_X0_67 rfl rfl (Nat.le_of_ble_eq_true rfl) (rv_row (r := 5) (by decide)) dX0_take_49 ?_
  refine z_iconst (v := 4) dX0_take_52 (by decide) ?_
  obtain ⟨x9, s7, e8, h⟩ := o_bdi h
  refine z_callVi (As := [.int _, .int _]) (e_X5_is e8) (by decide) mi_X5_is ml_X0_71 rfl rfl (Nat.le_of_ble_eq_true rfl) rv_2 dX0_take_53 ?_
  refine z_if_eq (tgt := 66) dX0_take_56 (by decide) (fun hc10 => ?_) (fun hc10 => ?_)
  · replace h := o_ip hc10 h
    refine z_iload_n dX0_take_66 1 rfl ?_
    refine z_if_eq (tgt := 96) dX0_take_67 (by decide) (fun hc11 => ?_) (fun hc11 => ?_)
    · replace h := o_ip hc11 h
      exact o_Z.sub [0, 1] rfl (s_X0_take_b96 h)
    · replace h := o_in hc11 h
      refine z_aload_n dX0_take_70 0 rfl ?_
      refine zg_X0_lexer fl_X0_34 dX0_take_71 ?_
      refine zn_X1_token (host := "OffsideParser") (by decide) dX0_take_74 ?_
      refine z_bipush (v := 123) dX0_take_77 (by decide) ?_
      refine z_icmp_ne (tgt := 96) dX0_take_79 (by decide) (fun hc36 => ?_) (fun hc36 => ?_)
      · replace h := o_in hc36 h
        exact o_Z.sub [0, 1] rfl (s_X0_take_b96 h)
      · replace h := o_ip hc36 h
        refine z_aload_n dX0_take_82 0 rfl ?_
        refine z_aload_n dX0_take_83 0 rfl ?_
        refine z_iconst (v := 0) dX0_take_84 (by decide) ?_
        refine z_iconst (v := 1) dX0_take_85 (by decide) ?_
        obtain ⟨x39, s37, e38, h⟩ := o_bdi h
        refine z_callVi (As := [.int _, .int _]) (e_X0_addPart e38) (by decide) mi_X0_addPart ml_X0_83 rfl rfl (Nat.le_of_ble_eq_true rfl) rv_4 dX0_take_86 ?_
        refine z_iconst (v := (-1)) dX0_take_89 (by decide) ?_
        obtain ⟨s40, e41, h⟩ := o_bdv h
        refine z_callVv (As := [.int _, .int _]) (e_X0_enter e41) (by decide) mi_X0_enter ml_X0_50 rfl rfl (Nat.le_of_ble_eq_true rfl) rv_4 dX0_take_90 ?_
        refine z_goto (tgt := 146) dX0_take_93 (by decide) ?_
        cases h
        exact z_vret rfl rfl rfl dX0_take_146
  · replace h := o_in hc10 h
    refine z_aload_n dX0_take_59 0 rfl ?_
    obtain ⟨s42, e43, h⟩ := o_bdv h
    refine z_callVv (As := []) (e_X0_placeInGroup e43) (by decide) mi_X0_placeInGroup ml_X0_77 rfl rfl (Nat.le_of_ble_eq_true rfl) rv_4 dX0_take_60 ?_
    refine z_goto (tgt := 146) dX0_take_63 (by decide) ?_
    cases h
    exact z_vret rfl rfl rfl dX0_take_146
set_option maxRecDepth 10000 in
theorem s_X0_take {G : o_G} {N : Nat} {σ' : o_S} {s : o_S} (h : f_X0_take N  s = some σ') : o_Z G RX0 cX0_take (Option.none : Option Jvm.ClassFile.FieldType) 2 10 (o_E G (none) σ') (o_k σ') s 0 [(0, .ref (g_ad G 4))] [] := by
  unfold f_X0_take at h
  refine z_aload_n dX0_take_0 0 rfl ?_
  refine zg_X0_colonBefore fl_X0_28 dX0_take_1 ?_
  refine z_istore_n (L' := [(1, .int _), (0, .ref _)]) dX0_take_4 (by decide) rfl ?_
  refine z_aload_n dX0_take_5 1 rfl ?_
  refine z_iconst (v := 0) dX0_take_6 (by decide) ?_
  replace h := o_dd h
  refine zp_X0_colonBefore (by decide) fl_X0_28 dX0_take_7 ?_
  refine z_aload_n dX0_take_10 1 rfl ?_
  refine zg_X0_hasBegun fl_X0_24 dX0_take_11 ?_
  refine z_if_ne (tgt := 37) dX0_take_14 (by decide) (fun hc2 => ?_) (fun hc2 => ?_)
  · replace h := o_in hc2 h
    exact o_Z.sub [1, 0] rfl (s_X0_take_b37 h)
  · replace h := o_ip hc2 h
    refine z_aload_n dX0_take_17 1 rfl ?_
    refine z_iconst (v := 1) dX0_take_18 (by decide) ?_
    replace h := o_dd h
    refine zp_X0_hasBegun (by decide) fl_X0_24 dX0_take_19 ?_
    refine z_aload_n dX0_take_22 1 rfl ?_
    refine zg_X0_openColumns fl_X0_18 dX0_take_23 ?_
    refine z_iconst (v := 0) dX0_take_26 (by decide) ?_
    refine z_aload_n dX0_take_27 1 rfl ?_
    refine zg_X0_lexer fl_X0_34 dX0_take_28 ?_
    refine zn_X1_atColumn (host := "OffsideParser") (by decide) dX0_take_31 ?_
    replace h := o_dd h
    refine z_callVv (As := [.int _, .int _]) (e_row_put (r := 6) (kd := 0) (by decide) _ _) (by decide) rm_put ml_X0_60 rfl rfl (Nat.le_of_ble_eq_true rfl) (rv_row (r := 6) (by decide)) dX0_take_34 ?_
    exact o_Z.sub [1, 0] rfl (s_X0_take_b37 h)
theorem e_X0_take {G : o_G} {N : Nat} {σ' : o_S} {s : o_S} (h : f_X0_take N  s = some σ') : o_Ev G yX0_take cX0_take 2 (Option.none : Option Jvm.ClassFile.FieldType) 10 [.ref (g_ad G 4)] s (none) σ' := o_Ev.mk rfl (Nat.le_of_ble_eq_true rfl) (s_X0_take h)
-- X0_finish
set_option maxRecDepth 10000 in
theorem s_X0_finish_L19 {G : o_G} {N : Nat} {σ' : o_S} : ∀ (n : Nat) (l1 : Int32) (s : o_S), f_X0_finish_L19 N n l1 s = some σ' → o_Z G RX0 cX0_finish (Option.none : Option Jvm.ClassFile.FieldType) 2 8 (o_E G (none) σ') (o_k σ') s 19 [(0, .ref (g_ad G 4)), (1, .int l1)] [] := by
  intro n
  induction n with
  | zero => intro l1 s h; cases h
  | succ n ih =>
    intro l1 s h
    rw [f_X0_finish_L19] at h
    refine z_iload_n dX0_finish_19 1 rfl ?_
    refine z_if_le (tgt := 47) dX0_finish_20 (by decide) (fun hc5 => ?_) (fun hc5 => ?_)
    · replace h := o_ip hc5 h
      cases h
      exact z_vret rfl rfl rfl dX0_finish_47
    · replace h := o_in hc5 h
      refine z_aload_n dX0_finish_23 0 rfl ?_
      refine zg_X0_openColumns fl_X0_18 dX0_finish_24 ?_
      refine z_iload_n dX0_finish_27 1 rfl ?_
      replace h := o_dd h
      refine z_callVi (As := [.int _]) (e_row_at (r := 6) (kd := 0) (by decide) _) (by decide) rm_at ml_X0_67 rfl rfl (Nat.le_of_ble_eq_true rfl) (rv_row (r := 6) (by decide)) dX0_finish_28 ?_
      refine z_iconst (v := (-1)) dX0_finish_31 (by decide) ?_
      refine z_icmp_ne (tgt := 41) dX0_finish_32 (by decide) (fun hc7 => ?_) (fun hc7 => ?_)
      · replace h := o_in hc7 h
        refine z_iinc (v := _ + (-1)) (L' := [(1, .int _), (0, .ref _)]) dX0_finish_41 1 rfl rfl (by decide) rfl ?_
        refine z_goto (tgt := 19) dX0_finish_44 (by decide) ?_
        exact o_Z.sub [1, 0] rfl (ih _ _ h)
      · replace h := o_ip hc7 h
        refine z_aload_n dX0_finish_35 0 rfl ?_
        refine z_bipush (v := 6) dX0_finish_36 (by decide) ?_
        obtain ⟨s8, e9, h⟩ := o_bdv h
        refine z_callVv (As := [.int _]) (e_X0_report e9) (by decide) mi_X0_report ml_X0_97 rfl rfl (Nat.le_of_ble_eq_true rfl) rv_4 dX0_finish_38 ?_
        refine z_iinc (v := _ + (-1)) (L' := [(1, .int _), (0, .ref _)]) dX0_finish_41 1 rfl rfl (by decide) rfl ?_
        refine z_goto (tgt := 19) dX0_finish_44 (by decide) ?_
        exact o_Z.sub [1, 0] rfl (ih _ _ h)
set_option maxRecDepth 10000 in
theorem s_X0_finish {G : o_G} {N : Nat} {σ' : o_S} {s : o_S} (h : f_X0_finish N  s = some σ') : o_Z G RX0 cX0_finish (Option.none : Option Jvm.ClassFile.FieldType) 2 8 (o_E G (none) σ') (o_k σ') s 0 [(0, .ref (g_ad G 4))] [] := by
  unfold f_X0_finish at h
  refine z_aload_n dX0_finish_0 0 rfl ?_
  refine zg_X0_colonBefore fl_X0_28 dX0_finish_1 ?_
  refine z_if_eq (tgt := 14) dX0_finish_4 (by decide) (fun hc1 => ?_) (fun hc1 => ?_)
  · replace h := o_ip hc1 h
    refine z_aload_n dX0_finish_14 0 rfl ?_
    obtain ⟨x4, s2, e3, h⟩ := o_bdi h
    refine z_callVi (As := []) (e_X0_innermost e3) (by decide) mi_X0_innermost ml_X0_63 rfl rfl (Nat.le_of_ble_eq_true rfl) rv_4 dX0_finish_15 ?_
    refine z_istore_n (L' := [(1, .int _), (0, .ref _)]) dX0_finish_18 (by decide) rfl ?_
    exact o_Z.sub [1, 0] rfl (s_X0_finish_L19 _ _ _ h)
  · replace h := o_in hc1 h
    refine z_aload_n dX0_finish_7 0 rfl ?_
    refine z_iconst (v := 0) dX0_finish_8 (by decide) ?_
    refine z_iconst (v := 0) dX0_finish_9 (by decide) ?_
    obtain ⟨x12, s10, e11, h⟩ := o_bdi h
    refine z_callVi (As := [.int _, .int _]) (e_X0_addPart e11) (by decide) mi_X0_addPart ml_X0_83 rfl rfl (Nat.le_of_ble_eq_true rfl) rv_4 dX0_finish_10 ?_
    refine z_pop dX0_finish_13 rfl ?_
    refine z_aload_n dX0_finish_14 0 rfl ?_
    obtain ⟨x15, s13, e14, h⟩ := o_bdi h
    refine z_callVi (As := []) (e_X0_innermost e14) (by decide) mi_X0_innermost ml_X0_63 rfl rfl (Nat.le_of_ble_eq_true rfl) rv_4 dX0_finish_15 ?_
    refine z_istore_n (L' := [(1, .int _), (0, .ref _)]) dX0_finish_18 (by decide) rfl ?_
    exact o_Z.sub [1, 0] rfl (s_X0_finish_L19 _ _ _ h)
theorem e_X0_finish {G : o_G} {N : Nat} {σ' : o_S} {s : o_S} (h : f_X0_finish N  s = some σ') : o_Ev G yX0_finish cX0_finish 2 (Option.none : Option Jvm.ClassFile.FieldType) 8 [.ref (g_ad G 4)] s (none) σ' := o_Ev.mk rfl (Nat.le_of_ble_eq_true rfl) (s_X0_finish h)
-- X1_startAgain
set_option maxRecDepth 10000 in
theorem s_X1_startAgain {G : o_G} {N : Nat} {σ' : o_S} {s : o_S} (h : f_X1_startAgain N  s = some σ') : o_Z G RX1 cX1_startAgain (Option.none : Option Jvm.ClassFile.FieldType) 1 0 (o_E G (none) σ') (o_k σ') s 0 [(0, .ref (g_ad G 3))] [] := by
  unfold f_X1_startAgain at h
  refine z_aload_n dX1_startAgain_0 0 rfl ?_
  refine z_iconst (v := 0) dX1_startAgain_1 (by decide) ?_
  replace h := o_dd h
  refine zp_X1_position fl_X1_9 dX1_startAgain_2 ?_
  refine z_aload_n dX1_startAgain_5 0 rfl ?_
  refine z_iconst (v := 0) dX1_startAgain_6 (by decide) ?_
  replace h := o_dd h
  refine zp_X1_lineNumber fl_X1_15 dX1_startAgain_7 ?_
  refine z_aload_n dX1_startAgain_10 0 rfl ?_
  refine z_iconst (v := 0) dX1_startAgain_11 (by decide) ?_
  replace h := o_dd h
  refine zp_X1_lineStart fl_X1_18 dX1_startAgain_12 ?_
  refine z_aload_n dX1_startAgain_15 0 rfl ?_
  refine z_iconst (v := 0) dX1_startAgain_16 (by decide) ?_
  replace h := o_dd h
  refine zp_X1_inComment (by decide) fl_X1_21 dX1_startAgain_17 ?_
  refine z_aload_n dX1_startAgain_20 0 rfl ?_
  refine z_iconst (v := 0) dX1_startAgain_21 (by decide) ?_
  replace h := o_dd h
  refine zp_X1_joinsNextLine (by decide) fl_X1_25 dX1_startAgain_22 ?_
  refine z_aload_n dX1_startAgain_25 0 rfl ?_
  refine z_iconst (v := 0) dX1_startAgain_26 (by decide) ?_
  replace h := o_dd h
  refine zp_X1_firstIsGone (by decide) fl_X1_28 dX1_startAgain_27 ?_
  cases h
  exact z_vret rfl rfl rfl dX1_startAgain_30
theorem e_X1_startAgain {G : o_G} {N : Nat} {σ' : o_S} {s : o_S} (h : f_X1_startAgain N  s = some σ') : o_Ev G yX1_startAgain cX1_startAgain 1 (Option.none : Option Jvm.ClassFile.FieldType) 0 [.ref (g_ad G 3)] s (none) σ' := o_Ev.mk rfl (Nat.le_of_ble_eq_true rfl) (s_X1_startAgain h)
-- X1_beginLine
set_option maxRecDepth 10000 in
theorem s_X1_beginLine {G : o_G} {N : Nat} {σ' : o_S} {p1 : Int32} {s : o_S} (h : f_X1_beginLine N p1 s = some σ') : o_Z G RX1 cX1_beginLine (Option.none : Option Jvm.ClassFile.FieldType) 2 0 (o_E G (none) σ') (o_k σ') s 0 [(0, .ref (g_ad G 3)), (1, .int p1)] [] := by
  unfold f_X1_beginLine at h
  refine z_aload_n dX1_beginLine_0 0 rfl ?_
  refine z_dup dX1_beginLine_1 rfl ?_
  refine zg_X1_lineNumber fl_X1_15 dX1_beginLine_2 ?_
  refine z_iconst (v := 1) dX1_beginLine_5 (by decide) ?_
  refine z_iadd dX1_beginLine_6 ?_
  replace h := o_dd h
  refine zp_X1_lineNumber fl_X1_15 dX1_beginLine_7 ?_
  refine z_aload_n dX1_beginLine_10 0 rfl ?_
  refine z_iload_n dX1_beginLine_11 1 rfl ?_
  replace h := o_dd h
  refine zp_X1_lineStart fl_X1_18 dX1_beginLine_12 ?_
  refine z_aload_n dX1_beginLine_15 0 rfl ?_
  refine z_iconst (v := 0) dX1_beginLine_16 (by decide) ?_
  replace h := o_dd h
  refine zp_X1_inComment (by decide) fl_X1_21 dX1_beginLine_17 ?_
  refine z_aload_n dX1_beginLine_20 0 rfl ?_
  refine z_aload_n dX1_beginLine_21 0 rfl ?_
  refine zg_X1_joinsNextLine fl_X1_25 dX1_beginLine_22 ?_
  obtain ⟨g4, h⟩ := o_gd h
  replace h := o_dd h
  refine zp_X1_firstIsGone (Decidable.not_not.mp g4) fl_X1_28 dX1_beginLine_25 ?_
  refine z_aload_n dX1_beginLine_28 0 rfl ?_
  refine z_iconst (v := 0) dX1_beginLine_29 (by decide) ?_
  replace h := o_dd h
  refine zp_X1_joinsNextLine (by decide) fl_X1_25 dX1_beginLine_30 ?_
  cases h
  exact z_vret rfl rfl rfl dX1_beginLine_33
theorem e_X1_beginLine {G : o_G} {N : Nat} {σ' : o_S} {p1 : Int32} {s : o_S} (h : f_X1_beginLine N p1 s = some σ') : o_Ev G yX1_beginLine cX1_beginLine 2 (Option.none : Option Jvm.ClassFile.FieldType) 0 [.ref (g_ad G 3), .int p1] s (none) σ' := o_Ev.mk rfl (Nat.le_of_ble_eq_true rfl) (s_X1_beginLine h)
-- X6_isLetter
set_option maxRecDepth 10000 in
theorem s_X6_isLetter_b12 {G : o_G} {N : Nat} {r : Int32} {σ' : o_S} {l0 : Int32} {s : o_S} (h : f_X6_isLetter_b12 N l0 s = some (r, σ')) : o_Z G RX6 cX6_isLetter (Option.some Jvm.ClassFile.FieldType.boolean) 1 0 (o_E G (some (.int r)) σ') (o_k σ') s 12 [(0, .int l0)] [] := by
  unfold f_X6_isLetter_b12 at h
  refine z_iload_n dX6_isLetter_12 0 rfl ?_
  refine z_bipush (v := 97) dX6_isLetter_13 (by decide) ?_
  refine z_icmp_lt (tgt := 28) dX6_isLetter_15 (by decide) (fun hc2 => ?_) (fun hc2 => ?_)
  · replace h := o_ip hc2 h
    refine z_iconst (v := 0) dX6_isLetter_28 (by decide) ?_
    cases h
    exact z_zret (by decide) rfl rfl rfl dX6_isLetter_29
  · replace h := o_in hc2 h
    refine z_iload_n dX6_isLetter_18 0 rfl ?_
    refine z_bipush (v := 122) dX6_isLetter_19 (by decide) ?_
    refine z_icmp_gt (tgt := 28) dX6_isLetter_21 (by decide) (fun hc3 => ?_) (fun hc3 => ?_)
    · replace h := o_ip hc3 h
      refine z_iconst (v := 0) dX6_isLetter_28 (by decide) ?_
      cases h
      exact z_zret (by decide) rfl rfl rfl dX6_isLetter_29
    · replace h := o_in hc3 h
      refine z_iconst (v := 1) dX6_isLetter_24 (by decide) ?_
      refine z_goto (tgt := 29) dX6_isLetter_25 (by decide) ?_
      cases h
      exact z_zret (by decide) rfl rfl rfl dX6_isLetter_29
set_option maxRecDepth 10000 in
theorem s_X6_isLetter {G : o_G} {N : Nat} {r : Int32} {σ' : o_S} {p1 : Int32} {s : o_S} (h : f_X6_isLetter N p1 s = some (r, σ')) : o_Z G RX6 cX6_isLetter (Option.some Jvm.ClassFile.FieldType.boolean) 1 0 (o_E G (some (.int r)) σ') (o_k σ') s 0 [(0, .int p1)] [] := by
  unfold f_X6_isLetter at h
  refine z_iload_n dX6_isLetter_0 0 rfl ?_
  refine z_bipush (v := 65) dX6_isLetter_1 (by decide) ?_
  refine z_icmp_lt (tgt := 12) dX6_isLetter_3 (by decide) (fun hc1 => ?_) (fun hc1 => ?_)
  · replace h := o_ip hc1 h
    exact o_Z.sub [0] rfl (s_X6_isLetter_b12 h)
  · replace h := o_in hc1 h
    refine z_iload_n dX6_isLetter_6 0 rfl ?_
    refine z_bipush (v := 90) dX6_isLetter_7 (by decide) ?_
    refine z_icmp_le (tgt := 24) dX6_isLetter_9 (by decide) (fun hc4 => ?_) (fun hc4 => ?_)
    · replace h := o_ip hc4 h
      refine z_iconst (v := 1) dX6_isLetter_24 (by decide) ?_
      refine z_goto (tgt := 29) dX6_isLetter_25 (by decide) ?_
      cases h
      exact z_zret (by decide) rfl rfl rfl dX6_isLetter_29
    · replace h := o_in hc4 h
      exact o_Z.sub [0] rfl (s_X6_isLetter_b12 h)
theorem e_X6_isLetter {G : o_G} {N : Nat} {r : Int32} {σ' : o_S} {p1 : Int32} {s : o_S} (h : f_X6_isLetter N p1 s = some (r, σ')) : o_Ev G yX6_isLetter cX6_isLetter 1 (Option.some Jvm.ClassFile.FieldType.boolean) 0 [.int p1] s (some (.int r)) σ' := o_Ev.mk rfl (Nat.le_of_ble_eq_true rfl) (s_X6_isLetter h)
-- X6_isDigit
set_option maxRecDepth 10000 in
theorem s_X6_isDigit {G : o_G} {N : Nat} {r : Int32} {σ' : o_S} {p1 : Int32} {s : o_S} (h : f_X6_isDigit N p1 s = some (r, σ')) : o_Z G RX6 cX6_isDigit (Option.some Jvm.ClassFile.FieldType.boolean) 1 0 (o_E G (some (.int r)) σ') (o_k σ') s 0 [(0, .int p1)] [] := by
  unfold f_X6_isDigit at h
  refine z_iload_n dX6_isDigit_0 0 rfl ?_
  refine z_bipush (v := 48) dX6_isDigit_1 (by decide) ?_
  refine z_icmp_lt (tgt := 16) dX6_isDigit_3 (by decide) (fun hc1 => ?_) (fun hc1 => ?_)
  · replace h := o_ip hc1 h
    refine z_iconst (v := 0) dX6_isDigit_16 (by decide) ?_
    cases h
    exact z_zret (by decide) rfl rfl rfl dX6_isDigit_17
  · replace h := o_in hc1 h
    refine z_iload_n dX6_isDigit_6 0 rfl ?_
    refine z_bipush (v := 57) dX6_isDigit_7 (by decide) ?_
    refine z_icmp_gt (tgt := 16) dX6_isDigit_9 (by decide) (fun hc2 => ?_) (fun hc2 => ?_)
    · replace h := o_ip hc2 h
      refine z_iconst (v := 0) dX6_isDigit_16 (by decide) ?_
      cases h
      exact z_zret (by decide) rfl rfl rfl dX6_isDigit_17
    · replace h := o_in hc2 h
      refine z_iconst (v := 1) dX6_isDigit_12 (by decide) ?_
      refine z_goto (tgt := 17) dX6_isDigit_13 (by decide) ?_
      cases h
      exact z_zret (by decide) rfl rfl rfl dX6_isDigit_17
theorem e_X6_isDigit {G : o_G} {N : Nat} {r : Int32} {σ' : o_S} {p1 : Int32} {s : o_S} (h : f_X6_isDigit N p1 s = some (r, σ')) : o_Ev G yX6_isDigit cX6_isDigit 1 (Option.some Jvm.ClassFile.FieldType.boolean) 0 [.int p1] s (some (.int r)) σ' := o_Ev.mk rfl (Nat.le_of_ble_eq_true rfl) (s_X6_isDigit h)
-- X1_startsToken
set_option maxRecDepth 10000 in
theorem s_X1_startsToken {G : o_G} {N : Nat} {r : Int32} {σ' : o_S} {p1 : Int32} {s : o_S} (h : f_X1_startsToken N p1 s = some (r, σ')) : o_Z G RX1 cX1_startsToken (Option.some Jvm.ClassFile.FieldType.boolean) 1 1 (o_E G (some (.int r)) σ') (o_k σ') s 0 [(0, .int p1)] [] := by
  unfold f_X1_startsToken at h
  refine z_iload_n dX1_startsToken_0 0 rfl ?_
  obtain ⟨x3, s1, e2, h⟩ := o_bdi h
  refine z_callSNi (As := [.int _]) (e_X6_isLetter e2) (by decide) mi_X6_isLetter (host := "OffsideParser") (by decide) rfl rfl (Nat.le_of_ble_eq_true rfl) dX1_startsToken_1 ?_
  refine z_if_ne (tgt := 50) dX1_startsToken_4 (by decide) (fun hc4 => ?_) (fun hc4 => ?_)
  · replace h := o_in hc4 h
    refine z_iconst (v := 1) dX1_startsToken_50 (by decide) ?_
    refine z_goto (tgt := 55) dX1_startsToken_51 (by decide) ?_
    cases h
    exact z_zret (by decide) rfl rfl rfl dX1_startsToken_55
  · replace h := o_ip hc4 h
    refine z_iload_n dX1_startsToken_7 0 rfl ?_
    obtain ⟨x7, s5, e6, h⟩ := o_bdi h
    refine z_callSNi (As := [.int _]) (e_X6_isDigit e6) (by decide) mi_X6_isDigit (host := "OffsideParser") (by decide) rfl rfl (Nat.le_of_ble_eq_true rfl) dX1_startsToken_8 ?_
    refine z_if_ne (tgt := 50) dX1_startsToken_11 (by decide) (fun hc8 => ?_) (fun hc8 => ?_)
    · replace h := o_in hc8 h
      refine z_iconst (v := 1) dX1_startsToken_50 (by decide) ?_
      refine z_goto (tgt := 55) dX1_startsToken_51 (by decide) ?_
      cases h
      exact z_zret (by decide) rfl rfl rfl dX1_startsToken_55
    · replace h := o_ip hc8 h
      refine z_iload_n dX1_startsToken_14 0 rfl ?_
      refine z_bipush (v := 123) dX1_startsToken_15 (by decide) ?_
      refine z_icmp_eq (tgt := 50) dX1_startsToken_17 (by decide) (fun hc9 => ?_) (fun hc9 => ?_)
      · replace h := o_ip hc9 h
        refine z_iconst (v := 1) dX1_startsToken_50 (by decide) ?_
        refine z_goto (tgt := 55) dX1_startsToken_51 (by decide) ?_
        cases h
        exact z_zret (by decide) rfl rfl rfl dX1_startsToken_55
      · replace h := o_in hc9 h
        refine z_iload_n dX1_startsToken_20 0 rfl ?_
        refine z_bipush (v := 125) dX1_startsToken_21 (by decide) ?_
        refine z_icmp_eq (tgt := 50) dX1_startsToken_23 (by decide) (fun hc10 => ?_) (fun hc10 => ?_)
        · replace h := o_ip hc10 h
          refine z_iconst (v := 1) dX1_startsToken_50 (by decide) ?_
          refine z_goto (tgt := 55) dX1_startsToken_51 (by decide) ?_
          cases h
          exact z_zret (by decide) rfl rfl rfl dX1_startsToken_55
        · replace h := o_in hc10 h
          refine z_iload_n dX1_startsToken_26 0 rfl ?_
          refine z_bipush (v := 40) dX1_startsToken_27 (by decide) ?_
          refine z_icmp_eq (tgt := 50) dX1_startsToken_29 (by decide) (fun hc11 => ?_) (fun hc11 => ?_)
          · replace h := o_ip hc11 h
            refine z_iconst (v := 1) dX1_startsToken_50 (by decide) ?_
            refine z_goto (tgt := 55) dX1_startsToken_51 (by decide) ?_
            cases h
            exact z_zret (by decide) rfl rfl rfl dX1_startsToken_55
          · replace h := o_in hc11 h
            refine z_iload_n dX1_startsToken_32 0 rfl ?_
            refine z_bipush (v := 41) dX1_startsToken_33 (by decide) ?_
            refine z_icmp_eq (tgt := 50) dX1_startsToken_35 (by decide) (fun hc12 => ?_) (fun hc12 => ?_)
            · replace h := o_ip hc12 h
              refine z_iconst (v := 1) dX1_startsToken_50 (by decide) ?_
              refine z_goto (tgt := 55) dX1_startsToken_51 (by decide) ?_
              cases h
              exact z_zret (by decide) rfl rfl rfl dX1_startsToken_55
            · replace h := o_in hc12 h
              refine z_iload_n dX1_startsToken_38 0 rfl ?_
              refine z_bipush (v := 58) dX1_startsToken_39 (by decide) ?_
              refine z_icmp_eq (tgt := 50) dX1_startsToken_41 (by decide) (fun hc13 => ?_) (fun hc13 => ?_)
              · replace h := o_ip hc13 h
                refine z_iconst (v := 1) dX1_startsToken_50 (by decide) ?_
                refine z_goto (tgt := 55) dX1_startsToken_51 (by decide) ?_
                cases h
                exact z_zret (by decide) rfl rfl rfl dX1_startsToken_55
              · replace h := o_in hc13 h
                refine z_iload_n dX1_startsToken_44 0 rfl ?_
                refine z_bipush (v := 59) dX1_startsToken_45 (by decide) ?_
                refine z_icmp_ne (tgt := 54) dX1_startsToken_47 (by decide) (fun hc14 => ?_) (fun hc14 => ?_)
                · replace h := o_in hc14 h
                  refine z_iconst (v := 0) dX1_startsToken_54 (by decide) ?_
                  cases h
                  exact z_zret (by decide) rfl rfl rfl dX1_startsToken_55
                · replace h := o_ip hc14 h
                  refine z_iconst (v := 1) dX1_startsToken_50 (by decide) ?_
                  refine z_goto (tgt := 55) dX1_startsToken_51 (by decide) ?_
                  cases h
                  exact z_zret (by decide) rfl rfl rfl dX1_startsToken_55
theorem e_X1_startsToken {G : o_G} {N : Nat} {r : Int32} {σ' : o_S} {p1 : Int32} {s : o_S} (h : f_X1_startsToken N p1 s = some (r, σ')) : o_Ev G yX1_startsToken cX1_startsToken 1 (Option.some Jvm.ClassFile.FieldType.boolean) 1 [.int p1] s (some (.int r)) σ' := o_Ev.mk rfl (Nat.le_of_ble_eq_true rfl) (s_X1_startsToken h)
-- X1_endOfRun
set_option maxRecDepth 10000 in
theorem s_X1_endOfRun_L2 {G : o_G} {N : Nat} {r : Int32} {σ' : o_S} : ∀ (n : Nat) (l2 : Int32) (l3 : Int32) (s : o_S), f_X1_endOfRun_L2 N n l2 l3 s = some (r, σ') → o_Z G RX1 cX1_endOfRun (Option.some Jvm.ClassFile.FieldType.int) 4 1 (o_E G (some (.int r)) σ') (o_k σ') s 2 [(0, .ref (g_ad G 3)), (2, .int l2), (3, .int l3)] [] := by
  intro n
  induction n with
  | zero => intro l2 l3 s h; cases h
  | succ n ih =>
    intro l2 l3 s h
    rw [f_X1_endOfRun_L2] at h
    refine z_iload_n dX1_endOfRun_2 2 rfl ?_
    refine z_aload_n dX1_endOfRun_3 0 rfl ?_
    refine zg_X1_text fl_X1_46 dX1_endOfRun_4 ?_
    refine z_callVi (As := []) (e_row_size (r := 0) (kd := 0) (by decide)) (by decide) rm_size ml_X1_54 rfl rfl (Nat.le_of_ble_eq_true rfl) (rv_row (r := 0) (by decide)) dX1_endOfRun_7 ?_
    refine z_icmp_ge (tgt := 51) dX1_endOfRun_10 (by decide) (fun hc1 => ?_) (fun hc1 => ?_)
    · replace h := o_ip hc1 h
      refine z_iload_n dX1_endOfRun_51 2 rfl ?_
      cases h
      exact z_iret rfl rfl rfl dX1_endOfRun_52
    · replace h := o_in hc1 h
      refine z_aload_n dX1_endOfRun_13 0 rfl ?_
      refine zg_X1_text fl_X1_46 dX1_endOfRun_14 ?_
      refine z_iload_n dX1_endOfRun_17 2 rfl ?_
      replace h := o_dd h
      refine z_callVi (As := [.int _]) (e_row_at (r := 0) (kd := 0) (by decide) _) (by decide) rm_at ml_X1_60 rfl rfl (Nat.le_of_ble_eq_true rfl) (rv_row (r := 0) (by decide)) dX1_endOfRun_18 ?_
      obtain ⟨x5, s3, e4, h⟩ := o_bdi h
      refine z_callSNi (As := [.int _]) (e_X6_isDigit e4) (by decide) mi_X6_isDigit (host := "OffsideParser") (by decide) rfl rfl (Nat.le_of_ble_eq_true rfl) dX1_endOfRun_21 ?_
      refine z_if_ne (tgt := 45) dX1_endOfRun_24 (by decide) (fun hc6 => ?_) (fun hc6 => ?_)
      · replace h := o_in hc6 h
        refine z_iinc (v := _ + 1) (L' := [(3, .int _), (0, .ref _), (2, .int _)]) dX1_endOfRun_45 2 rfl rfl (by decide) rfl ?_
        refine z_goto (tgt := 2) dX1_endOfRun_48 (by decide) ?_
        exact o_Z.sub [1, 2, 0] rfl (ih _ _ _ h)
      · replace h := o_ip hc6 h
        refine z_iload_n dX1_endOfRun_27 1 rfl ?_
        refine z_if_eq (tgt := 51) dX1_endOfRun_28 (by decide) (fun hc7 => ?_) (fun hc7 => ?_)
        · replace h := o_ip hc7 h
          refine z_iload_n dX1_endOfRun_51 2 rfl ?_
          cases h
          exact z_iret rfl rfl rfl dX1_endOfRun_52
        · replace h := o_in hc7 h
          refine z_aload_n dX1_endOfRun_31 0 rfl ?_
          refine zg_X1_text fl_X1_46 dX1_endOfRun_32 ?_
          refine z_iload_n dX1_endOfRun_35 2 rfl ?_
          replace h := o_dd h
          refine z_callVi (As := [.int _]) (e_row_at (r := 0) (kd := 0) (by decide) _) (by decide) rm_at ml_X1_60 rfl rfl (Nat.le_of_ble_eq_true rfl) (rv_row (r := 0) (by decide)) dX1_endOfRun_36 ?_
          obtain ⟨x11, s9, e10, h⟩ := o_bdi h
          refine z_callSNi (As := [.int _]) (e_X6_isLetter e10) (by decide) mi_X6_isLetter (host := "OffsideParser") (by decide) rfl rfl (Nat.le_of_ble_eq_true rfl) dX1_endOfRun_39 ?_
          refine z_if_eq (tgt := 51) dX1_endOfRun_42 (by decide) (fun hc12 => ?_) (fun hc12 => ?_)
          · replace h := o_ip hc12 h
            refine z_iload_n dX1_endOfRun_51 2 rfl ?_
            cases h
            exact z_iret rfl rfl rfl dX1_endOfRun_52
          · replace h := o_in hc12 h
            refine z_iinc (v := _ + 1) (L' := [(3, .int _), (0, .ref _), (2, .int _)]) dX1_endOfRun_45 2 rfl rfl (by decide) rfl ?_
            refine z_goto (tgt := 2) dX1_endOfRun_48 (by decide) ?_
            exact o_Z.sub [1, 2, 0] rfl (ih _ _ _ h)
set_option maxRecDepth 10000 in
theorem s_X1_endOfRun {G : o_G} {N : Nat} {r : Int32} {σ' : o_S} {p1 : Int32} {p2 : Int32} {s : o_S} (h : f_X1_endOfRun N p1 p2 s = some (r, σ')) : o_Z G RX1 cX1_endOfRun (Option.some Jvm.ClassFile.FieldType.int) 4 1 (o_E G (some (.int r)) σ') (o_k σ') s 0 [(0, .ref (g_ad G 3)), (1, .int p1), (2, .int p2)] [] := by
  unfold f_X1_endOfRun at h
  refine z_iload_n dX1_endOfRun_0 1 rfl ?_
  refine z_istore_n (L' := [(3, .int _), (0, .ref _), (1, .int _), (2, .int _)]) dX1_endOfRun_1 (by decide) rfl ?_
  exact o_Z.sub [1, 3, 0] rfl (s_X1_endOfRun_L2 _ _ _ _ h)
theorem e_X1_endOfRun {G : o_G} {N : Nat} {r : Int32} {σ' : o_S} {p1 : Int32} {p2 : Int32} {s : o_S} (h : f_X1_endOfRun N p1 p2 s = some (r, σ')) : o_Ev G yX1_endOfRun cX1_endOfRun 4 (Option.some Jvm.ClassFile.FieldType.int) 1 [.ref (g_ad G 3), .int p1, .int p2] s (some (.int r)) σ' := o_Ev.mk rfl (Nat.le_of_ble_eq_true rfl) (s_X1_endOfRun h)
-- X1_takeToken
set_option maxRecDepth 10000 in
theorem s_X1_takeToken_b94 {G : o_G} {N : Nat} {σ' : o_S} {l1 : Int32} {s : o_S} (h : f_X1_takeToken_b94 N l1 s = some σ') : o_Z G RX1 cX1_takeToken (Option.none : Option Jvm.ClassFile.FieldType) 3 2 (o_E G (none) σ') (o_k σ') s 94 [(0, .ref (g_ad G 3)), (1, .int l1)] [] := by
  unfold f_X1_takeToken_b94 at h
  refine z_aload_n dX1_takeToken_94 0 rfl ?_
  refine z_aload_n dX1_takeToken_95 0 rfl ?_
  refine z_iload_n dX1_takeToken_96 1 rfl ?_
  refine z_aload_n dX1_takeToken_97 0 rfl ?_
  refine zg_X1_token fl_X1_31 dX1_takeToken_98 ?_
  refine z_iconst (v := 2) dX1_takeToken_101 (by decide) ?_
  refine z_icmp_ne (tgt := 109) dX1_takeToken_102 (by decide) (fun hc19 => ?_) (fun hc19 => ?_)
  · replace h := o_in hc19 h
    refine z_iconst (v := 0) dX1_takeToken_109 (by decide) ?_
    obtain ⟨x22, s20, e21, h⟩ := o_bdi h
    refine z_callVi (As := [.int _, .int _]) (e_X1_endOfRun e21) (by decide) mi_X1_endOfRun ml_X1_91 rfl rfl (Nat.le_of_ble_eq_true rfl) rv_3 dX1_takeToken_110 ?_
    replace h := o_dd h
    refine zp_X1_position fl_X1_9 dX1_takeToken_113 ?_
    cases h
    exact z_vret rfl rfl rfl dX1_takeToken_116
  · replace h := o_ip hc19 h
    refine z_iconst (v := 1) dX1_takeToken_105 (by decide) ?_
    refine z_goto (tgt := 110) dX1_takeToken_106 (by decide) ?_
    obtain ⟨x26, s24, e25, h⟩ := o_bdi h
    refine z_callVi (As := [.int _, .int _]) (e_X1_endOfRun e25) (by decide) mi_X1_endOfRun ml_X1_91 rfl rfl (Nat.le_of_ble_eq_true rfl) rv_3 dX1_takeToken_110 ?_
    replace h := o_dd h
    refine zp_X1_position fl_X1_9 dX1_takeToken_113 ?_
    cases h
    exact z_vret rfl rfl rfl dX1_takeToken_116
set_option maxRecDepth 10000 in
theorem s_X1_takeToken_b68 {G : o_G} {N : Nat} {σ' : o_S} {l1 : Int32} {y0 : Int32} {s : o_S} (h : f_X1_takeToken_b68 N l1 y0 s = some σ') : o_Z G RX1 cX1_takeToken (Option.none : Option Jvm.ClassFile.FieldType) 3 2 (o_E G (none) σ') (o_k σ') s 68 [(0, .ref (g_ad G 3)), (1, .int l1)] [.int y0, .ref (g_ad G 3)] := by
  unfold f_X1_takeToken_b68 at h
  replace h := o_dd h
  refine zp_X1_token fl_X1_31 dX1_takeToken_68 ?_
  refine z_aload_n dX1_takeToken_71 0 rfl ?_
  refine z_iload_n dX1_takeToken_72 1 rfl ?_
  refine z_iconst (v := 1) dX1_takeToken_73 (by decide) ?_
  refine z_iadd dX1_takeToken_74 ?_
  replace h := o_dd h
  refine zp_X1_position fl_X1_9 dX1_takeToken_75 ?_
  refine z_aload_n dX1_takeToken_78 0 rfl ?_
  refine zg_X1_token fl_X1_31 dX1_takeToken_79 ?_
  refine z_iconst (v := 2) dX1_takeToken_82 (by decide) ?_
  refine z_icmp_eq (tgt := 94) dX1_takeToken_83 (by decide) (fun hc18 => ?_) (fun hc18 => ?_)
  · replace h := o_ip hc18 h
    exact o_Z.sub [0, 1] rfl (s_X1_takeToken_b94 h)
  · replace h := o_in hc18 h
    refine z_aload_n dX1_takeToken_86 0 rfl ?_
    refine zg_X1_token fl_X1_31 dX1_takeToken_87 ?_
    refine z_iconst (v := 3) dX1_takeToken_90 (by decide) ?_
    refine z_icmp_ne (tgt := 116) dX1_takeToken_91 (by decide) (fun hc28 => ?_) (fun hc28 => ?_)
    · replace h := o_in hc28 h
      cases h
      exact z_vret rfl rfl rfl dX1_takeToken_116
    · replace h := o_ip hc28 h
      exact o_Z.sub [0, 1] rfl (s_X1_takeToken_b94 h)
set_option maxRecDepth 10000 in
theorem s_X1_takeToken_b36 {G : o_G} {N : Nat} {σ' : o_S} {l1 : Int32} {l2 : Int32} {y0 : Int32} {s : o_S} (h : f_X1_takeToken_b36 N l1 l2 y0 s = some σ') : o_Z G RX1 cX1_takeToken (Option.none : Option Jvm.ClassFile.FieldType) 3 2 (o_E G (none) σ') (o_k σ') s 36 [(0, .ref (g_ad G 3)), (1, .int l1), (2, .int l2)] [.int y0, .ref (g_ad G 3)] := by
  unfold f_X1_takeToken_b36 at h
  obtain ⟨g5, h⟩ := o_gd h
  replace h := o_dd h
  refine zp_X1_isFirst (Decidable.not_not.mp g5) fl_X1_43 dX1_takeToken_36 ?_
  refine z_aload_n dX1_takeToken_39 0 rfl ?_
  refine z_iconst (v := 1) dX1_takeToken_40 (by decide) ?_
  replace h := o_dd h
  refine zp_X1_firstIsGone (by decide) fl_X1_28 dX1_takeToken_41 ?_
  refine z_aload_n dX1_takeToken_44 0 rfl ?_
  refine z_iload_n dX1_takeToken_45 2 rfl ?_
  obtain ⟨x10, s8, e9, h⟩ := o_bdi h
  refine z_callSNi (As := [.int _]) (e_X6_isLetter e9) (by decide) mi_X6_isLetter (host := "OffsideParser") (by decide) rfl rfl (Nat.le_of_ble_eq_true rfl) dX1_takeToken_46 ?_
  refine z_if_eq (tgt := 56) dX1_takeToken_49 (by decide) (fun hc11 => ?_) (fun hc11 => ?_)
  · replace h := o_ip hc11 h
    refine z_iload_n dX1_takeToken_56 2 rfl ?_
    obtain ⟨x14, s12, e13, h⟩ := o_bdi h
    refine z_callSNi (As := [.int _]) (e_X6_isDigit e13) (by decide) mi_X6_isDigit (host := "OffsideParser") (by decide) rfl rfl (Nat.le_of_ble_eq_true rfl) dX1_takeToken_57 ?_
    refine z_if_eq (tgt := 67) dX1_takeToken_60 (by decide) (fun hc15 => ?_) (fun hc15 => ?_)
    · replace h := o_ip hc15 h
      refine z_iload_n dX1_takeToken_67 2 rfl ?_
      exact o_Z.sub [0, 1] rfl (s_X1_takeToken_b68 h)
    · replace h := o_in hc15 h
      refine z_iconst (v := 3) dX1_takeToken_63 (by decide) ?_
      refine z_goto (tgt := 68) dX1_takeToken_64 (by decide) ?_
      exact o_Z.sub [0, 1] rfl (s_X1_takeToken_b68 h)
  · replace h := o_in hc11 h
    refine z_iconst (v := 2) dX1_takeToken_52 (by decide) ?_
    refine z_goto (tgt := 68) dX1_takeToken_53 (by decide) ?_
    exact o_Z.sub [0, 1] rfl (s_X1_takeToken_b68 h)
set_option maxRecDepth 10000 in
theorem s_X1_takeToken {G : o_G} {N : Nat} {σ' : o_S} {p1 : Int32} {p2 : Int32} {s : o_S} (h : f_X1_takeToken N p1 p2 s = some σ') : o_Z G RX1 cX1_takeToken (Option.none : Option Jvm.ClassFile.FieldType) 3 2 (o_E G (none) σ') (o_k σ') s 0 [(0, .ref (g_ad G 3)), (1, .int p1), (2, .int p2)] [] := by
  unfold f_X1_takeToken at h
  refine z_aload_n dX1_takeToken_0 0 rfl ?_
  refine z_iload_n dX1_takeToken_1 1 rfl ?_
  replace h := o_dd h
  refine zp_X1_start fl_X1_34 dX1_takeToken_2 ?_
  refine z_aload_n dX1_takeToken_5 0 rfl ?_
  refine z_aload_n dX1_takeToken_6 0 rfl ?_
  refine zg_X1_lineNumber fl_X1_15 dX1_takeToken_7 ?_
  replace h := o_dd h
  refine zp_X1_atLine fl_X1_37 dX1_takeToken_10 ?_
  refine z_aload_n dX1_takeToken_13 0 rfl ?_
  refine z_iload_n dX1_takeToken_14 1 rfl ?_
  refine z_aload_n dX1_takeToken_15 0 rfl ?_
  refine zg_X1_lineStart fl_X1_18 dX1_takeToken_16 ?_
  refine z_isub dX1_takeToken_19 ?_
  replace h := o_dd h
  refine zp_X1_atColumn fl_X1_40 dX1_takeToken_20 ?_
  refine z_aload_n dX1_takeToken_23 0 rfl ?_
  refine z_aload_n dX1_takeToken_24 0 rfl ?_
  refine zg_X1_firstIsGone fl_X1_28 dX1_takeToken_25 ?_
  refine z_if_ne (tgt := 35) dX1_takeToken_28 (by decide) (fun hc4 => ?_) (fun hc4 => ?_)
  · replace h := o_in hc4 h
    refine z_iconst (v := 0) dX1_takeToken_35 (by decide) ?_
    exact o_Z.sub [0, 1, 2] rfl (s_X1_takeToken_b36 h)
  · replace h := o_ip hc4 h
    refine z_iconst (v := 1) dX1_takeToken_31 (by decide) ?_
    refine z_goto (tgt := 36) dX1_takeToken_32 (by decide) ?_
    exact o_Z.sub [0, 1, 2] rfl (s_X1_takeToken_b36 h)
theorem e_X1_takeToken {G : o_G} {N : Nat} {σ' : o_S} {p1 : Int32} {p2 : Int32} {s : o_S} (h : f_X1_takeToken N p1 p2 s = some σ') : o_Ev G yX1_takeToken cX1_takeToken 3 (Option.none : Option Jvm.ClassFile.FieldType) 2 [.ref (g_ad G 3), .int p1, .int p2] s (none) σ' := o_Ev.mk rfl (Nat.le_of_ble_eq_true rfl) (s_X1_takeToken h)
-- X1_takeOtherByte
set_option maxRecDepth 10000 in
theorem s_X1_takeOtherByte_b29 {G : o_G} {N : Nat} {σ' : o_S} {l1 : Int32} {s : o_S} (h : f_X1_takeOtherByte_b29 N l1 s = some σ') : o_Z G RX1 cX1_takeOtherByte (Option.none : Option Jvm.ClassFile.FieldType) 3 7 (o_E G (none) σ') (o_k σ') s 29 [(0, .ref (g_ad G 3)), (1, .int l1)] [] := by
  unfold f_X1_takeOtherByte_b29 at h
  refine z_aload_n dX1_takeOtherByte_29 0 rfl ?_
  refine zg_X1_repairs fl_X1_50 dX1_takeOtherByte_30 ?_
  refine z_iconst (v := 1) dX1_takeOtherByte_33 (by decide) ?_
  refine z_aload_n dX1_takeOtherByte_34 0 rfl ?_
  refine zg_X1_lineNumber fl_X1_15 dX1_takeOtherByte_35 ?_
  refine z_iload_n dX1_takeOtherByte_38 1 rfl ?_
  refine z_aload_n dX1_takeOtherByte_39 0 rfl ?_
  refine zg_X1_lineStart fl_X1_18 dX1_takeOtherByte_40 ?_
  refine z_isub dX1_takeOtherByte_43 ?_
  obtain ⟨s2, e3, h⟩ := o_bdv h
  refine z_callVv (As := [.int _, .int _, .int _]) (e_X3_add e3) (by decide) mi_X3_add ml_X1_79 rfl rfl (Nat.le_of_ble_eq_true rfl) rv_1 dX1_takeOtherByte_44 ?_
  cases h
  exact z_vret rfl rfl rfl dX1_takeOtherByte_47
set_option maxRecDepth 10000 in
theorem s_X1_takeOtherByte {G : o_G} {N : Nat} {σ' : o_S} {p1 : Int32} {p2 : Int32} {s : o_S} (h : f_X1_takeOtherByte N p1 p2 s = some σ') : o_Z G RX1 cX1_takeOtherByte (Option.none : Option Jvm.ClassFile.FieldType) 3 7 (o_E G (none) σ') (o_k σ') s 0 [(0, .ref (g_ad G 3)), (1, .int p1), (2, .int p2)] [] := by
  unfold f_X1_takeOtherByte at h
  refine z_iload_n dX1_takeOtherByte_0 2 rfl ?_
  refine z_bipush (v := 92) dX1_takeOtherByte_1 (by decide) ?_
  refine z_icmp_ne (tgt := 29) dX1_takeOtherByte_3 (by decide) (fun hc1 => ?_) (fun hc1 => ?_)
  · replace h := o_in hc1 h
    exact o_Z.sub [0, 1] rfl (s_X1_takeOtherByte_b29 h)
  · replace h := o_ip hc1 h
    refine z_aload_n dX1_takeOtherByte_6 0 rfl ?_
    refine zg_X1_text fl_X1_46 dX1_takeOtherByte_7 ?_
    refine z_iload_n dX1_takeOtherByte_10 1 rfl ?_
    refine z_iconst (v := 1) dX1_takeOtherByte_11 (by decide) ?_
    refine z_iadd dX1_takeOtherByte_12 ?_
    replace h := o_dd h
    refine z_callVi (As := [.int _]) (e_row_at (r := 0) (kd := 0) (by decide) _) (by decide) rm_at ml_X1_60 rfl rfl (Nat.le_of_ble_eq_true rfl) (rv_row (r := 0) (by decide)) dX1_takeOtherByte_13 ?_
    refine z_bipush (v := 10) dX1_takeOtherByte_16 (by decide) ?_
    refine z_icmp_ne (tgt := 29) dX1_takeOtherByte_18 (by decide) (fun hc5 => ?_) (fun hc5 => ?_)
    · replace h := o_in hc5 h
      exact o_Z.sub [0, 1] rfl (s_X1_takeOtherByte_b29 h)
    · replace h := o_ip hc5 h
      refine z_aload_n dX1_takeOtherByte_21 0 rfl ?_
      refine z_iconst (v := 1) dX1_takeOtherByte_22 (by decide) ?_
      replace h := o_dd h
      refine zp_X1_joinsNextLine (by decide) fl_X1_25 dX1_takeOtherByte_23 ?_
      refine z_goto (tgt := 47) dX1_takeOtherByte_26 (by decide) ?_
      cases h
      exact z_vret rfl rfl rfl dX1_takeOtherByte_47
theorem e_X1_takeOtherByte {G : o_G} {N : Nat} {σ' : o_S} {p1 : Int32} {p2 : Int32} {s : o_S} (h : f_X1_takeOtherByte N p1 p2 s = some σ') : o_Ev G yX1_takeOtherByte cX1_takeOtherByte 3 (Option.none : Option Jvm.ClassFile.FieldType) 7 [.ref (g_ad G 3), .int p1, .int p2] s (none) σ' := o_Ev.mk rfl (Nat.le_of_ble_eq_true rfl) (s_X1_takeOtherByte h)
-- X1_readToken
set_option maxRecDepth 10000 in
theorem s_X1_readToken_b77 {G : o_G} {N : Nat} {k5 : Int32 → o_S → Option (Int32 × o_S)} {r : Int32} {σ' : o_S} {l1 : Int32} {l2 : Int32} (hk5 : ∀ (z1 : Int32) (s : o_S), k5 z1 s = some (r, σ') → o_Z G RX1 cX1_readToken (Option.some Jvm.ClassFile.FieldType.boolean) 3 8 (o_E G (some (.int r)) σ') (o_k σ') s 5 [(0, .ref (g_ad G 3)), (1, .int z1)] []) {s : o_S} (h : f_X1_readToken_b77 N k5 l1 l2 s = some (r, σ')) : o_Z G RX1 cX1_readToken (Option.some Jvm.ClassFile.FieldType.boolean) 3 8 (o_E G (some (.int r)) σ') (o_k σ') s 77 [(0, .ref (g_ad G 3)), (1, .int l1), (2, .int l2)] [] := by
  unfold f_X1_readToken_b77 at h
  refine z_aload_n dX1_readToken_77 0 rfl ?_
  refine zg_X1_inComment fl_X1_21 dX1_readToken_78 ?_
  refine z_if_ne (tgt := 96) dX1_readToken_81 (by decide) (fun hc10 => ?_) (fun hc10 => ?_)
  · replace h := o_in hc10 h
    refine z_iinc (v := _ + 1) (L' := [(1, .int _), (0, .ref _), (2, .int _)]) dX1_readToken_96 1 rfl rfl (by decide) rfl ?_
    refine z_goto (tgt := 5) dX1_readToken_99 (by decide) ?_
    exact o_Z.sub [1, 0] rfl (hk5 _ _ h)
  · replace h := o_ip hc10 h
    refine z_iload_n dX1_readToken_84 2 rfl ?_
    refine z_bipush (v := 32) dX1_readToken_85 (by decide) ?_
    refine z_icmp_eq (tgt := 96) dX1_readToken_87 (by decide) (fun hc11 => ?_) (fun hc11 => ?_)
    · replace h := o_ip hc11 h
      refine z_iinc (v := _ + 1) (L' := [(1, .int _), (0, .ref _), (2, .int _)]) dX1_readToken_96 1 rfl rfl (by decide) rfl ?_
      refine z_goto (tgt := 5) dX1_readToken_99 (by decide) ?_
      exact o_Z.sub [1, 0] rfl (hk5 _ _ h)
    · replace h := o_in hc11 h
      refine z_aload_n dX1_readToken_90 0 rfl ?_
      refine z_iload_n dX1_readToken_91 1 rfl ?_
      refine z_iload_n dX1_readToken_92 2 rfl ?_
      obtain ⟨s12, e13, h⟩ := o_bdv h
      refine z_callVv (As := [.int _, .int _]) (e_X1_takeOtherByte e13) (by decide) mi_X1_takeOtherByte ml_X1_76 rfl rfl (Nat.le_of_ble_eq_true rfl) rv_3 dX1_readToken_93 ?_
      refine z_iinc (v := _ + 1) (L' := [(1, .int _), (0, .ref _), (2, .int _)]) dX1_readToken_96 1 rfl rfl (by decide) rfl ?_
      refine z_goto (tgt := 5) dX1_readToken_99 (by decide) ?_
      exact o_Z.sub [1, 0] rfl (hk5 _ _ h)
set_option maxRecDepth 10000 in
theorem s_X1_readToken_L5 {G : o_G} {N : Nat} {r : Int32} {σ' : o_S} : ∀ (n : Nat) (l1 : Int32) (s : o_S), f_X1_readToken_L5 N n l1 s = some (r, σ') → o_Z G RX1 cX1_readToken (Option.some Jvm.ClassFile.FieldType.boolean) 3 8 (o_E G (some (.int r)) σ') (o_k σ') s 5 [(0, .ref (g_ad G 3)), (1, .int l1)] [] := by
  intro n
  induction n with
  | zero => intro l1 s h; cases h
  | succ n ih =>
    intro l1 s h
    rw [f_X1_readToken_L5] at h
    refine z_iload_n dX1_readToken_5 1 rfl ?_
    refine z_aload_n dX1_readToken_6 0 rfl ?_
    refine zg_X1_text fl_X1_46 dX1_readToken_7 ?_
    refine z_callVi (As := []) (e_row_size (r := 0) (kd := 0) (by decide)) (by decide) rm_size ml_X1_54 rfl rfl (Nat.le_of_ble_eq_true rfl) (rv_row (r := 0) (by decide)) dX1_readToken_10 ?_
    refine z_icmp_ge (tgt := 102) dX1_readToken_13 (by decide) (fun hc1 => ?_) (fun hc1 => ?_)
    · replace h := o_ip hc1 h
      refine z_aload_n dX1_readToken_102 0 rfl ?_
      refine z_aload_n dX1_readToken_103 0 rfl ?_
      refine zg_X1_text fl_X1_46 dX1_readToken_104 ?_
      refine z_callVi (As := []) (e_row_size (r := 0) (kd := 0) (by decide)) (by decide) rm_size ml_X1_54 rfl rfl (Nat.le_of_ble_eq_true rfl) (rv_row (r := 0) (by decide)) dX1_readToken_107 ?_
      replace h := o_dd h
      refine zp_X1_position fl_X1_9 dX1_readToken_110 ?_
      refine z_aload_n dX1_readToken_113 0 rfl ?_
      refine z_iconst (v := (-1)) dX1_readToken_114 (by decide) ?_
      replace h := o_dd h
      refine zp_X1_token fl_X1_31 dX1_readToken_115 ?_
      refine z_aload_n dX1_readToken_118 0 rfl ?_
      refine z_aload_n dX1_readToken_119 0 rfl ?_
      refine zg_X1_lineNumber fl_X1_15 dX1_readToken_120 ?_
      replace h := o_dd h
      refine zp_X1_atLine fl_X1_37 dX1_readToken_123 ?_
      refine z_aload_n dX1_readToken_126 0 rfl ?_
      refine z_aload_n dX1_readToken_127 0 rfl ?_
      refine zg_X1_position fl_X1_9 dX1_readToken_128 ?_
      refine z_aload_n dX1_readToken_131 0 rfl ?_
      refine zg_X1_lineStart fl_X1_18 dX1_readToken_132 ?_
      refine z_isub dX1_readToken_135 ?_
      replace h := o_dd h
      refine zp_X1_atColumn fl_X1_40 dX1_readToken_136 ?_
      refine z_iconst (v := 0) dX1_readToken_139 (by decide) ?_
      cases h
      exact z_zret (by decide) rfl rfl rfl dX1_readToken_140
    · replace h := o_in hc1 h
      refine z_aload_n dX1_readToken_16 0 rfl ?_
      refine zg_X1_text fl_X1_46 dX1_readToken_17 ?_
      refine z_iload_n dX1_readToken_20 1 rfl ?_
      replace h := o_dd h
      refine z_callVi (As := [.int _]) (e_row_at (r := 0) (kd := 0) (by decide) _) (by decide) rm_at ml_X1_60 rfl rfl (Nat.le_of_ble_eq_true rfl) (rv_row (r := 0) (by decide)) dX1_readToken_21 ?_
      refine z_istore_n (L' := [(2, .int _), (0, .ref _), (1, .int _)]) dX1_readToken_24 (by decide) rfl ?_
      refine z_iload_n dX1_readToken_25 0 rfl ?_
      refine z_bipush (v := 10) dX1_readToken_26 (by decide) ?_
      refine z_icmp_ne (tgt := 41) dX1_readToken_28 (by decide) (fun hc7 => ?_) (fun hc7 => ?_)
      · replace h := o_in hc7 h
        refine z_iload_n dX1_readToken_41 0 rfl ?_
        refine z_bipush (v := 35) dX1_readToken_42 (by decide) ?_
        refine z_icmp_ne (tgt := 55) dX1_readToken_44 (by decide) (fun hc8 => ?_) (fun hc8 => ?_)
        · replace h := o_in hc8 h
          refine z_aload_n dX1_readToken_55 1 rfl ?_
          refine zg_X1_inComment fl_X1_21 dX1_readToken_56 ?_
          refine z_if_ne (tgt := 77) dX1_readToken_59 (by decide) (fun hc9 => ?_) (fun hc9 => ?_)
          · replace h := o_in hc9 h
            exact o_Z.sub [1, 2, 0] rfl (s_X1_readToken_b77 ih h)
          · replace h := o_ip hc9 h
            refine z_iload_n dX1_readToken_62 0 rfl ?_
            obtain ⟨x16, s14, e15, h⟩ := o_bdi h
            refine z_callSi (As := [.int _]) (e_X1_startsToken e15) (by decide) mi_X1_startsToken ml_X1_68 rfl rfl (Nat.le_of_ble_eq_true rfl) dX1_readToken_63 ?_
            refine z_if_eq (tgt := 77) dX1_readToken_66 (by decide) (fun hc17 => ?_) (fun hc17 => ?_)
            · replace h := o_ip hc17 h
              exact o_Z.sub [1, 2, 0] rfl (s_X1_readToken_b77 ih h)
            · replace h := o_in hc17 h
              refine z_aload_n dX1_readToken_69 1 rfl ?_
              refine z_iload_n dX1_readToken_70 2 rfl ?_
              refine z_iload_n dX1_readToken_71 0 rfl ?_
              obtain ⟨s18, e19, h⟩ := o_bdv h
              refine z_callVv (As := [.int _, .int _]) (e_X1_takeToken e19) (by decide) mi_X1_takeToken ml_X1_72 rfl rfl (Nat.le_of_ble_eq_true rfl) rv_3 dX1_readToken_72 ?_
              refine z_iconst (v := 1) dX1_readToken_75 (by decide) ?_
              cases h
              exact z_zret (by decide) rfl rfl rfl dX1_readToken_76
        · replace h := o_ip hc8 h
          refine z_aload_n dX1_readToken_47 1 rfl ?_
          refine z_iconst (v := 1) dX1_readToken_48 (by decide) ?_
          replace h := o_dd h
          refine zp_X1_inComment (by decide) fl_X1_21 dX1_readToken_49 ?_
          refine z_goto (tgt := 96) dX1_readToken_52 (by decide) ?_
          refine z_iinc (v := _ + 1) (L' := [(1, .int _), (2, .int _), (0, .ref _)]) dX1_readToken_96 2 rfl rfl (by decide) rfl ?_
          refine z_goto (tgt := 5) dX1_readToken_99 (by decide) ?_
          exact o_Z.sub [2, 0] rfl (ih _ _ h)
      · replace h := o_ip hc7 h
        refine z_aload_n dX1_readToken_31 1 rfl ?_
        refine z_iload_n dX1_readToken_32 2 rfl ?_
        refine z_iconst (v := 1) dX1_readToken_33 (by decide) ?_
        refine z_iadd dX1_readToken_34 ?_
        obtain ⟨s21, e22, h⟩ := o_bdv h
        refine z_callVv (As := [.int _]) (e_X1_beginLine e22) (by decide) mi_X1_beginLine ml_X1_64 rfl rfl (Nat.le_of_ble_eq_true rfl) rv_3 dX1_readToken_35 ?_
        refine z_goto (tgt := 96) dX1_readToken_38 (by decide) ?_
        refine z_iinc (v := _ + 1) (L' := [(1, .int _), (2, .int _), (0, .ref _)]) dX1_readToken_96 2 rfl rfl (by decide) rfl ?_
        refine z_goto (tgt := 5) dX1_readToken_99 (by decide) ?_
        exact o_Z.sub [2, 0] rfl (ih _ _ h)
set_option maxRecDepth 10000 in
theorem s_X1_readToken {G : o_G} {N : Nat} {r : Int32} {σ' : o_S} {s : o_S} (h : f_X1_readToken N  s = some (r, σ')) : o_Z G RX1 cX1_readToken (Option.some Jvm.ClassFile.FieldType.boolean) 3 8 (o_E G (some (.int r)) σ') (o_k σ') s 0 [(0, .ref (g_ad G 3))] [] := by
  unfold f_X1_readToken at h
  refine z_aload_n dX1_readToken_0 0 rfl ?_
  refine zg_X1_position fl_X1_9 dX1_readToken_1 ?_
  refine z_istore_n (L' := [(1, .int _), (0, .ref _)]) dX1_readToken_4 (by decide) rfl ?_
  exact o_Z.sub [1, 0] rfl (s_X1_readToken_L5 _ _ _ h)
theorem e_X1_readToken {G : o_G} {N : Nat} {r : Int32} {σ' : o_S} {s : o_S} (h : f_X1_readToken N  s = some (r, σ')) : o_Ev G yX1_readToken cX1_readToken 3 (Option.some Jvm.ClassFile.FieldType.boolean) 8 [.ref (g_ad G 3)] s (some (.int r)) σ' := o_Ev.mk rfl (Nat.le_of_ble_eq_true rfl) (s_X1_readToken h)
-- X2_size
set_option maxRecDepth 10000 in
theorem s_X2_size {G : o_G} {N : Nat} {r : Int32} {σ' : o_S} {s : o_S} (h : f_X2_size N  s = some (r, σ')) : o_Z G RX2 cX2_size (Option.some Jvm.ClassFile.FieldType.int) 1 1 (o_E G (some (.int r)) σ') (o_k σ') s 0 [(0, .ref (g_ad G 5))] [] := by
  unfold f_X2_size at h
  refine z_aload_n dX2_size_0 0 rfl ?_
  refine zg_X2_out fl_X2_12 dX2_size_1 ?_
  refine z_callVi (As := []) (e_row_size (r := 8) (kd := 0) (by decide)) (by decide) rm_size ml_X2_22 rfl rfl (Nat.le_of_ble_eq_true rfl) (rv_row (r := 8) (by decide)) dX2_size_4 ?_
  cases h
  exact z_iret rfl rfl rfl dX2_size_7
theorem e_X2_size {G : o_G} {N : Nat} {r : Int32} {σ' : o_S} {s : o_S} (h : f_X2_size N  s = some (r, σ')) : o_Ev G yX2_size cX2_size 1 (Option.some Jvm.ClassFile.FieldType.int) 1 [.ref (g_ad G 5)] s (some (.int r)) σ' := o_Ev.mk rfl (Nat.le_of_ble_eq_true rfl) (s_X2_size h)
-- X2_get
set_option maxRecDepth 10000 in
theorem s_X2_get {G : o_G} {N : Nat} {r : Int32} {σ' : o_S} {p1 : Int32} {s : o_S} (h : f_X2_get N p1 s = some (r, σ')) : o_Z G RX2 cX2_get (Option.some Jvm.ClassFile.FieldType.int) 2 1 (o_E G (some (.int r)) σ') (o_k σ') s 0 [(0, .ref (g_ad G 5)), (1, .int p1)] [] := by
  unfold f_X2_get at h
  refine z_aload_n dX2_get_0 0 rfl ?_
  refine zg_X2_out fl_X2_12 dX2_get_1 ?_
  refine z_iload_n dX2_get_4 1 rfl ?_
  replace h := o_dd h
  refine z_callVi (As := [.int _]) (e_row_at (r := 8) (kd := 0) (by decide) _) (by decide) rm_at ml_X2_26 rfl rfl (Nat.le_of_ble_eq_true rfl) (rv_row (r := 8) (by decide)) dX2_get_5 ?_
  cases h
  exact z_iret rfl rfl rfl dX2_get_8
theorem e_X2_get {G : o_G} {N : Nat} {r : Int32} {σ' : o_S} {p1 : Int32} {s : o_S} (h : f_X2_get N p1 s = some (r, σ')) : o_Ev G yX2_get cX2_get 2 (Option.some Jvm.ClassFile.FieldType.int) 1 [.ref (g_ad G 5), .int p1] s (some (.int r)) σ' := o_Ev.mk rfl (Nat.le_of_ble_eq_true rfl) (s_X2_get h)
-- X2_startAgain
set_option maxRecDepth 10000 in
theorem s_X2_startAgain {G : o_G} {N : Nat} {σ' : o_S} {s : o_S} (h : f_X2_startAgain N  s = some σ') : o_Z G RX2 cX2_startAgain (Option.none : Option Jvm.ClassFile.FieldType) 1 1 (o_E G (none) σ') (o_k σ') s 0 [(0, .ref (g_ad G 5))] [] := by
  unfold f_X2_startAgain at h
  refine z_aload_n dX2_startAgain_0 0 rfl ?_
  refine zg_X2_out fl_X2_12 dX2_startAgain_1 ?_
  refine z_iconst (v := 0) dX2_startAgain_4 (by decide) ?_
  replace h := o_dd h
  refine z_callVv (As := [.int _]) (e_row_cut (r := 8) (kd := 0) (by decide) _) (by decide) rm_cut ml_X2_30 rfl rfl (Nat.le_of_ble_eq_true rfl) (rv_row (r := 8) (by decide)) dX2_startAgain_5 ?_
  cases h
  exact z_vret rfl rfl rfl dX2_startAgain_8
theorem e_X2_startAgain {G : o_G} {N : Nat} {σ' : o_S} {s : o_S} (h : f_X2_startAgain N  s = some σ') : o_Ev G yX2_startAgain cX2_startAgain 1 (Option.none : Option Jvm.ClassFile.FieldType) 1 [.ref (g_ad G 5)] s (none) σ' := o_Ev.mk rfl (Nat.le_of_ble_eq_true rfl) (s_X2_startAgain h)
-- X5_size
set_option maxRecDepth 10000 in
theorem s_X5_size {G : o_G} {N : Nat} {r : Int32} {σ' : o_S} {s : o_S} (h : f_X5_size N  s = some (r, σ')) : o_Z G RX5 cX5_size (Option.some Jvm.ClassFile.FieldType.int) 1 0 (o_E G (some (.int r)) σ') (o_k σ') s 0 [(0, .ref (g_ad G 2))] [] := by
  unfold f_X5_size at h
  refine z_aload_n dX5_size_0 0 rfl ?_
  refine zg_X5_count fl_X5_21 dX5_size_1 ?_
  cases h
  exact z_iret rfl rfl rfl dX5_size_4
theorem e_X5_size {G : o_G} {N : Nat} {r : Int32} {σ' : o_S} {s : o_S} (h : f_X5_size N  s = some (r, σ')) : o_Ev G yX5_size cX5_size 1 (Option.some Jvm.ClassFile.FieldType.int) 0 [.ref (g_ad G 2)] s (some (.int r)) σ' := o_Ev.mk rfl (Nat.le_of_ble_eq_true rfl) (s_X5_size h)
-- X5_after
set_option maxRecDepth 10000 in
theorem s_X5_after_L18 {G : o_G} {N : Nat} {r : Int32} {σ' : o_S} : ∀ (n : Nat) (l2 : Int32) (l3 : Int32) (s : o_S), f_X5_after_L18 N n l2 l3 s = some (r, σ') → o_Z G RX5 cX5_after (Option.some Jvm.ClassFile.FieldType.int) 4 1 (o_E G (some (.int r)) σ') (o_k σ') s 18 [(0, .ref (g_ad G 2)), (2, .int l2), (3, .int l3)] [] := by
  intro n
  induction n with
  | zero => intro l2 l3 s h; cases h
  | succ n ih =>
    intro l2 l3 s h
    rw [f_X5_after_L18] at h
    refine z_iload_n dX5_after_18 2 rfl ?_
    refine z_aload_n dX5_after_19 0 rfl ?_
    refine zg_X5_count fl_X5_21 dX5_after_20 ?_
    refine z_icmp_ge (tgt := 49) dX5_after_23 (by decide) (fun hc2 => ?_) (fun hc2 => ?_)
    · replace h := o_ip hc2 h
      refine z_iload_n dX5_after_49 2 rfl ?_
      cases h
      exact z_iret rfl rfl rfl dX5_after_50
    · replace h := o_in hc2 h
      refine z_aload_n dX5_after_26 0 rfl ?_
      refine zg_X5_cells fl_X5_12 dX5_after_27 ?_
      refine z_iload_n dX5_after_30 2 rfl ?_
      refine z_bipush (v := 7) dX5_after_31 (by decide) ?_
      refine z_imul dX5_after_33 ?_
      refine z_iconst (v := 1) dX5_after_34 (by decide) ?_
      refine z_iadd dX5_after_35 ?_
      replace h := o_dd h
      refine z_callVi (As := [.int _]) (e_row_at (r := 3) (kd := 0) (by decide) _) (by decide) rm_at ml_X5_33 rfl rfl (Nat.le_of_ble_eq_true rfl) (rv_row (r := 3) (by decide)) dX5_after_36 ?_
      refine z_iload_n dX5_after_39 1 rfl ?_
      refine z_icmp_le (tgt := 49) dX5_after_40 (by decide) (fun hc4 => ?_) (fun hc4 => ?_)
      · replace h := o_ip hc4 h
        refine z_iload_n dX5_after_49 2 rfl ?_
        cases h
        exact z_iret rfl rfl rfl dX5_after_50
      · replace h := o_in hc4 h
        refine z_iinc (v := _ + 1) (L' := [(3, .int _), (0, .ref _), (2, .int _)]) dX5_after_43 2 rfl rfl (by decide) rfl ?_
        refine z_goto (tgt := 18) dX5_after_46 (by decide) ?_
        exact o_Z.sub [1, 2, 0] rfl (ih _ _ _ h)
set_option maxRecDepth 10000 in
theorem s_X5_after {G : o_G} {N : Nat} {r : Int32} {σ' : o_S} {p1 : Int32} {s : o_S} (h : f_X5_after N p1 s = some (r, σ')) : o_Z G RX5 cX5_after (Option.some Jvm.ClassFile.FieldType.int) 4 1 (o_E G (some (.int r)) σ') (o_k σ') s 0 [(0, .ref (g_ad G 2)), (1, .int p1)] [] := by
  unfold f_X5_after at h
  refine z_aload_n dX5_after_0 0 rfl ?_
  refine zg_X5_cells fl_X5_12 dX5_after_1 ?_
  refine z_iload_n dX5_after_4 1 rfl ?_
  refine z_bipush (v := 7) dX5_after_5 (by decide) ?_
  refine z_imul dX5_after_7 ?_
  refine z_iconst (v := 1) dX5_after_8 (by decide) ?_
  refine z_iadd dX5_after_9 ?_
  replace h := o_dd h
  refine z_callVi (As := [.int _]) (e_row_at (r := 3) (kd := 0) (by decide) _) (by decide) rm_at ml_X5_33 rfl rfl (Nat.le_of_ble_eq_true rfl) (rv_row (r := 3) (by decide)) dX5_after_10 ?_
  refine z_istore_n (L' := [(2, .int _), (0, .ref _), (1, .int _)]) dX5_after_13 (by decide) rfl ?_
  refine z_iload_n dX5_after_14 2 rfl ?_
  refine z_iconst (v := 1) dX5_after_15 (by decide) ?_
  refine z_iadd dX5_after_16 ?_
  refine z_istore_n (L' := [(3, .int _), (2, .int _), (0, .ref _), (1, .int _)]) dX5_after_17 (by decide) rfl ?_
  exact o_Z.sub [2, 1, 0] rfl (s_X5_after_L18 _ _ _ _ h)
theorem e_X5_after {G : o_G} {N : Nat} {r : Int32} {σ' : o_S} {p1 : Int32} {s : o_S} (h : f_X5_after N p1 s = some (r, σ')) : o_Ev G yX5_after cX5_after 4 (Option.some Jvm.ClassFile.FieldType.int) 1 [.ref (g_ad G 2), .int p1] s (some (.int r)) σ' := o_Ev.mk rfl (Nat.le_of_ble_eq_true rfl) (s_X5_after h)
-- X5_letterOf
set_option maxRecDepth 10000 in
theorem s_X5_letterOf_b26 {G : o_G} {N : Nat} {r : Int32} {σ' : o_S} {l1 : Int32} {l2 : Int32} {y0 : Int32} {s : o_S} (h : f_X5_letterOf_b26 N l1 l2 y0 s = some (r, σ')) : o_Z G RX5 cX5_letterOf (Option.some Jvm.ClassFile.FieldType.int) 4 1 (o_E G (some (.int r)) σ') (o_k σ') s 26 [(0, .ref (g_ad G 2)), (1, .int l1), (2, .int l2)] [.int y0] := by
  unfold f_X5_letterOf_b26 at h
  refine z_istore_n (L' := [(3, .int _), (0, .ref _), (1, .int _), (2, .int _)]) dX5_letterOf_26 (by decide) rfl ?_
  refine z_iload_n dX5_letterOf_27 0 rfl ?_
  refine z_if_eq (tgt := 57) dX5_letterOf_28 (by decide) (fun hc2 => ?_) (fun hc2 => ?_)
  · replace h := o_ip hc2 h
    refine z_iconst (v := (-1)) dX5_letterOf_57 (by decide) ?_
    cases h
    exact z_iret rfl rfl rfl dX5_letterOf_58
  · replace h := o_in hc2 h
    refine z_aload_n dX5_letterOf_31 1 rfl ?_
    refine zg_X5_letters fl_X5_18 dX5_letterOf_32 ?_
    refine z_aload_n dX5_letterOf_35 1 rfl ?_
    refine zg_X5_cells fl_X5_12 dX5_letterOf_36 ?_
    refine z_iload_n dX5_letterOf_39 2 rfl ?_
    refine z_bipush (v := 7) dX5_letterOf_40 (by decide) ?_
    refine z_imul dX5_letterOf_42 ?_
    refine z_bipush (v := 6) dX5_letterOf_43 (by decide) ?_
    refine z_iadd dX5_letterOf_45 ?_
    replace h := o_dd h
    refine z_callVi (As := [.int _]) (e_row_at (r := 3) (kd := 0) (by decide) _) (by decide) rm_at ml_X5_33 rfl rfl (Nat.le_of_ble_eq_true rfl) (rv_row (r := 3) (by decide)) dX5_letterOf_46 ?_
    refine z_iload_n dX5_letterOf_49 3 rfl ?_
    refine z_iadd dX5_letterOf_50 ?_
    replace h := o_dd h
    refine z_callVi (As := [.int _]) (e_row_at (r := 4) (kd := 0) (by decide) _) (by decide) rm_at ml_X5_33 rfl rfl (Nat.le_of_ble_eq_true rfl) (rv_row (r := 4) (by decide)) dX5_letterOf_51 ?_
    refine z_goto (tgt := 58) dX5_letterOf_54 (by decide) ?_
    cases h
    exact z_iret rfl rfl rfl dX5_letterOf_58
set_option maxRecDepth 10000 in
theorem s_X5_letterOf {G : o_G} {N : Nat} {r : Int32} {σ' : o_S} {p1 : Int32} {p2 : Int32} {s : o_S} (h : f_X5_letterOf N p1 p2 s = some (r, σ')) : o_Z G RX5 cX5_letterOf (Option.some Jvm.ClassFile.FieldType.int) 4 1 (o_E G (some (.int r)) σ') (o_k σ') s 0 [(0, .ref (g_ad G 2)), (1, .int p1), (2, .int p2)] [] := by
  unfold f_X5_letterOf at h
  refine z_iload_n dX5_letterOf_0 2 rfl ?_
  refine z_if_lt (tgt := 25) dX5_letterOf_1 (by decide) (fun hc1 => ?_) (fun hc1 => ?_)
  · replace h := o_ip hc1 h
    refine z_iconst (v := 0) dX5_letterOf_25 (by decide) ?_
    exact o_Z.sub [0, 1, 2] rfl (s_X5_letterOf_b26 h)
  · replace h := o_in hc1 h
    refine z_iload_n dX5_letterOf_4 2 rfl ?_
    refine z_aload_n dX5_letterOf_5 0 rfl ?_
    refine zg_X5_cells fl_X5_12 dX5_letterOf_6 ?_
    refine z_iload_n dX5_letterOf_9 1 rfl ?_
    refine z_bipush (v := 7) dX5_letterOf_10 (by decide) ?_
    refine z_imul dX5_letterOf_12 ?_
    refine z_iconst (v := 5) dX5_letterOf_13 (by decide) ?_
    refine z_iadd dX5_letterOf_14 ?_
    replace h := o_dd h
    refine z_callVi (As := [.int _]) (e_row_at (r := 3) (kd := 0) (by decide) _) (by decide) rm_at ml_X5_33 rfl rfl (Nat.le_of_ble_eq_true rfl) (rv_row (r := 3) (by decide)) dX5_letterOf_15 ?_
    refine z_icmp_ge (tgt := 25) dX5_letterOf_18 (by decide) (fun hc6 => ?_) (fun hc6 => ?_)
    · replace h := o_ip hc6 h
      refine z_iconst (v := 0) dX5_letterOf_25 (by decide) ?_
      exact o_Z.sub [0, 1, 2] rfl (s_X5_letterOf_b26 h)
    · replace h := o_in hc6 h
      refine z_iconst (v := 1) dX5_letterOf_21 (by decide) ?_
      refine z_goto (tgt := 26) dX5_letterOf_22 (by decide) ?_
      exact o_Z.sub [0, 1, 2] rfl (s_X5_letterOf_b26 h)
theorem e_X5_letterOf {G : o_G} {N : Nat} {r : Int32} {σ' : o_S} {p1 : Int32} {p2 : Int32} {s : o_S} (h : f_X5_letterOf N p1 p2 s = some (r, σ')) : o_Ev G yX5_letterOf cX5_letterOf 4 (Option.some Jvm.ClassFile.FieldType.int) 1 [.ref (g_ad G 2), .int p1, .int p2] s (some (.int r)) σ' := o_Ev.mk rfl (Nat.le_of_ble_eq_true rfl) (s_X5_letterOf h)
-- X2_printWord
set_option maxRecDepth 10000 in
theorem s_X2_printWord_L12 {G : o_G} {N : Nat} {σ' : o_S} : ∀ (n : Nat) (l1 : Int32) (l2 : Int32) (l3 : Int32) (s : o_S), f_X2_printWord_L12 N n l1 l2 l3 s = some σ' → o_Z G RX2 cX2_printWord (Option.none : Option Jvm.ClassFile.FieldType) 4 6 (o_E G (none) σ') (o_k σ') s 12 [(0, .ref (g_ad G 5)), (1, .int l1), (2, .int l2), (3, .int l3)] [] := by
  intro n
  induction n with
  | zero => intro l1 l2 l3 s h; cases h
  | succ n ih =>
    intro l1 l2 l3 s h
    rw [f_X2_printWord_L12] at h
    refine z_iload_n dX2_printWord_12 3 rfl ?_
    refine z_iload_n dX2_printWord_13 2 rfl ?_
    refine z_icmp_ge (tgt := 39) dX2_printWord_14 (by decide) (fun hc4 => ?_) (fun hc4 => ?_)
    · replace h := o_ip hc4 h
      cases h
      exact z_vret rfl rfl rfl dX2_printWord_39
    · replace h := o_in hc4 h
      refine z_aload_n dX2_printWord_17 0 rfl ?_
      refine zg_X2_out fl_X2_12 dX2_printWord_18 ?_
      refine z_aload_n dX2_printWord_21 0 rfl ?_
      refine zg_X2_tree fl_X2_18 dX2_printWord_22 ?_
      refine z_iload_n dX2_printWord_25 1 rfl ?_
      refine z_iload_n dX2_printWord_26 3 rfl ?_
      obtain ⟨x7, s5, e6, h⟩ := o_bdi h
      refine z_callVi (As := [.int _, .int _]) (e_X5_letterOf e6) (by decide) mi_X5_letterOf ml_X2_77 rfl rfl (Nat.le_of_ble_eq_true rfl) rv_2 dX2_printWord_27 ?_
      obtain ⟨s8, e9, h⟩ := o_bdv h
      refine z_callVv (As := [.int _]) (e_row_push (r := 8) (kd := 5) (by decide) (by decide) e9) (by decide) rm_push ml_X2_48 rfl rfl (Nat.le_of_ble_eq_true rfl) (rv_row (r := 8) (by decide)) dX2_printWord_30 ?_
      refine z_iinc (v := _ + 1) (L' := [(3, .int _), (0, .ref _), (1, .int _), (2, .int _)]) dX2_printWord_33 3 rfl rfl (by decide) rfl ?_
      refine z_goto (tgt := 12) dX2_printWord_36 (by decide) ?_
      exact o_Z.sub [1, 2, 3, 0] rfl (ih _ _ _ _ h)
set_option maxRecDepth 10000 in
theorem s_X2_printWord {G : o_G} {N : Nat} {σ' : o_S} {p1 : Int32} {s : o_S} (h : f_X2_printWord N p1 s = some σ') : o_Z G RX2 cX2_printWord (Option.none : Option Jvm.ClassFile.FieldType) 4 6 (o_E G (none) σ') (o_k σ') s 0 [(0, .ref (g_ad G 5)), (1, .int p1)] [] := by
  unfold f_X2_printWord at h
  refine z_aload_n dX2_printWord_0 0 rfl ?_
  refine zg_X2_tree fl_X2_18 dX2_printWord_1 ?_
  refine z_iload_n dX2_printWord_4 1 rfl ?_
  refine z_iconst (v := 5) dX2_printWord_5 (by decide) ?_
  obtain ⟨x3, s1, e2, h⟩ := o_bdi h
  refine z_callVi (As := [.int _, .int _]) (e_X5_get e2) (by decide) mi_X5_get ml_X2_37 rfl rfl (Nat.le_of_ble_eq_true rfl) rv_2 dX2_printWord_6 ?_
  refine z_istore_n (L' := [(2, .int _), (0, .ref _), (1, .int _)]) dX2_printWord_9 (by decide) rfl ?_
  refine z_iconst (v := 0) dX2_printWord_10 (by decide) ?_
  refine z_istore_n (L' := [(3, .int _), (2, .int _), (0, .ref _), (1, .int _)]) dX2_printWord_11 (by decide) rfl ?_
  exact o_Z.sub [2, 3, 1, 0] rfl (s_X2_printWord_L12 _ _ _ _ _ h)
theorem e_X2_printWord {G : o_G} {N : Nat} {σ' : o_S} {p1 : Int32} {s : o_S} (h : f_X2_printWord N p1 s = some σ') : o_Ev G yX2_printWord cX2_printWord 4 (Option.none : Option Jvm.ClassFile.FieldType) 6 [.ref (g_ad G 5), .int p1] s (none) σ' := o_Ev.mk rfl (Nat.le_of_ble_eq_true rfl) (s_X2_printWord h)
-- X2_printNumber
set_option maxRecDepth 10000 in
theorem s_X2_printNumber_b17 {G : o_G} {N : Nat} {k3 : Int32 → Int32 → o_S → Option o_S} {σ' : o_S} {l1 : Int32} {l2 : Int32} (hk3 : ∀ (z1 : Int32) (z2 : Int32) (s : o_S), k3 z1 z2 s = some σ' → o_Z G RX2 cX2_printNumber (Option.none : Option Jvm.ClassFile.FieldType) 3 6 (o_E G (none) σ') (o_k σ') s 3 [(0, .ref (g_ad G 5)), (1, .int z1), (2, .int z2)] []) {s : o_S} (h : f_X2_printNumber_b17 N k3 l1 l2 s = some σ') : o_Z G RX2 cX2_printNumber (Option.none : Option Jvm.ClassFile.FieldType) 3 6 (o_E G (none) σ') (o_k σ') s 17 [(0, .ref (g_ad G 5)), (1, .int l1), (2, .int l2)] [] := by
  unfold f_X2_printNumber_b17 at h
  refine z_aload_n dX2_printNumber_17 0 rfl ?_
  refine zg_X2_out fl_X2_12 dX2_printNumber_18 ?_
  refine z_bipush (v := 48) dX2_printNumber_21 (by decide) ?_
  refine z_iload_n dX2_printNumber_23 1 rfl ?_
  refine z_iload_n dX2_printNumber_24 2 rfl ?_
  obtain ⟨g3, h⟩ := o_gd h
  refine z_idiv g3 dX2_printNumber_25 ?_
  refine z_bipush (v := 10) dX2_printNumber_26 (by decide) ?_
  refine z_irem (by decide) dX2_printNumber_28 ?_
  refine z_iadd dX2_printNumber_29 ?_
  obtain ⟨s4, e5, h⟩ := o_bdv h
  refine z_callVv (As := [.int _]) (e_row_push (r := 8) (kd := 5) (by decide) (by decide) e5) (by decide) rm_push ml_X2_48 rfl rfl (Nat.le_of_ble_eq_true rfl) (rv_row (r := 8) (by decide)) dX2_printNumber_30 ?_
  refine z_iload_n dX2_printNumber_33 2 rfl ?_
  refine z_bipush (v := 10) dX2_printNumber_34 (by decide) ?_
  refine z_idiv (by decide) dX2_printNumber_36 ?_
  refine z_istore_n (L' := [(2, .int _), (0, .ref _), (1, .int _)]) dX2_printNumber_37 (by decide) rfl ?_
  refine z_goto (tgt := 3) dX2_printNumber_38 (by decide) ?_
  exact o_Z.sub [1, 2, 0] rfl (hk3 _ _ _ h)
set_option maxRecDepth 10000 in
theorem s_X2_printNumber_L3 {G : o_G} {N : Nat} {σ' : o_S} : ∀ (n : Nat) (l1 : Int32) (l2 : Int32) (s : o_S), f_X2_printNumber_L3 N n l1 l2 s = some σ' → o_Z G RX2 cX2_printNumber (Option.none : Option Jvm.ClassFile.FieldType) 3 6 (o_E G (none) σ') (o_k σ') s 3 [(0, .ref (g_ad G 5)), (1, .int l1), (2, .int l2)] [] := by
  intro n
  induction n with
  | zero => intro l1 l2 s h; cases h
  | succ n ih =>
    intro l1 l2 s h
    rw [f_X2_printNumber_L3] at h
    refine z_iload_n dX2_printNumber_3 2 rfl ?_
    refine z_if_le (tgt := 41) dX2_printNumber_4 (by decide) (fun hc1 => ?_) (fun hc1 => ?_)
    · replace h := o_ip hc1 h
      cases h
      exact z_vret rfl rfl rfl dX2_printNumber_41
    · replace h := o_in hc1 h
      refine z_iload_n dX2_printNumber_7 1 rfl ?_
      refine z_iload_n dX2_printNumber_8 2 rfl ?_
      refine z_icmp_ge (tgt := 17) dX2_printNumber_9 (by decide) (fun hc2 => ?_) (fun hc2 => ?_)
      · replace h := o_ip hc2 h
        exact o_Z.sub [0, 1, 2] rfl (s_X2_printNumber_b17 ih h)
      · replace h := o_in hc2 h
        refine z_iload_n dX2_printNumber_12 2 rfl ?_
        refine z_iconst (v := 1) dX2_printNumber_13 (by decide) ?_
        refine z_icmp_ne (tgt := 33) dX2_printNumber_14 (by decide) (fun hc6 => ?_) (fun hc6 => ?_)
        · replace h := o_in hc6 h
          refine z_iload_n dX2_printNumber_33 2 rfl ?_
          refine z_bipush (v := 10) dX2_printNumber_34 (by decide) ?_
          refine z_idiv (by decide) dX2_printNumber_36 ?_
          refine z_istore_n (L' := [(2, .int _), (0, .ref _), (1, .int _)]) dX2_printNumber_37 (by decide) rfl ?_
          refine z_goto (tgt := 3) dX2_printNumber_38 (by decide) ?_
          exact o_Z.sub [1, 2, 0] rfl (ih _ _ _ h)
        · replace h := o_ip hc6 h
          exact o_Z.sub [0, 1, 2] rfl (s_X2_printNumber_b17 ih h)
set_option maxRecDepth 10000 in
theorem s_X2_printNumber {G : o_G} {N : Nat} {σ' : o_S} {p1 : Int32} {s : o_S} (h : f_X2_printNumber N p1 s = some σ') : o_Z G RX2 cX2_printNumber (Option.none : Option Jvm.ClassFile.FieldType) 3 6 (o_E G (none) σ') (o_k σ') s 0 [(0, .ref (g_ad G 5)), (1, .int p1)] [] := by
  unfold f_X2_printNumber at h
  refine z_ldc cn_X2_80 dX2_printNumber_0 ?_
  refine z_istore_n (L' := [(2, .int _), (0, .ref _), (1, .int _)]) dX2_printNumber_2 (by decide) rfl ?_
  exact o_Z.sub [1, 2, 0] rfl (s_X2_printNumber_L3 _ _ _ _ h)
theorem e_X2_printNumber {G : o_G} {N : Nat} {σ' : o_S} {p1 : Int32} {s : o_S} (h : f_X2_printNumber N p1 s = some σ') : o_Ev G yX2_printNumber cX2_printNumber 3 (Option.none : Option Jvm.ClassFile.FieldType) 6 [.ref (g_ad G 5), .int p1] s (none) σ' := o_Ev.mk rfl (Nat.le_of_ble_eq_true rfl) (s_X2_printNumber h)
-- gP
set_option maxRecDepth 10000 in
theorem s_X2_printParts_L25 {G : o_G} {N : Nat} {d : Nat} {rec : Nat → Int32 → Int32 → Int32 → o_S → Option o_S} {σ' : o_S} (hrec : (∀ (a b c : Int32) (s s1 : o_S), rec 0 a b c s = some s1 → o_Ev G yX2_printParts cX2_printParts 6 (none) (7 + d) [.ref (g_ad G 5), .int a, .int b, .int c] s none s1) ∧ (∀ (a b : Int32) (s s1 : o_S), rec 1 a b 0 s = some s1 → o_Ev G yX2_printPart cX2_printPart 3 (none) (7 + d) [.ref (g_ad G 5), .int a, .int b] s none s1) ∧ (∀ (a b : Int32) (s s1 : o_S), rec 2 a b 0 s = some s1 → o_Ev G yX2_printBraces cX2_printBraces 6 (none) (7 + d) [.ref (g_ad G 5), .int a, .int b] s none s1)) : ∀ (n : Nat) (l1 : Int32) (l2 : Int32) (l3 : Int32) (l4 : Int32) (l5 : Int32) (s : o_S), f_X2_printParts_L25 N rec n l1 l2 l3 l4 l5 s = some σ' → o_Z G RX2 cX2_printParts (Option.none : Option Jvm.ClassFile.FieldType) 6 (8 + d) (o_E G (none) σ') (o_k σ') s 25 [(0, .ref (g_ad G 5)), (1, .int l1), (2, .int l2), (3, .int l3), (4, .int l4), (5, .int l5)] [] := by
  intro n
  induction n with
  | zero => intro l1 l2 l3 l4 l5 s h; cases h
  | succ n ih =>
    intro l1 l2 l3 l4 l5 s h
    rw [f_X2_printParts_L25] at h
    refine z_iload dX2_printParts_25 5 rfl ?_
    refine z_iload_n dX2_printParts_27 2 rfl ?_
    refine z_icmp_ge (tgt := 89) dX2_printParts_28 (by decide) (fun hc5 => ?_) (fun hc5 => ?_)
    · replace h := o_ip hc5 h
      cases h
      exact z_vret rfl rfl rfl dX2_printParts_89
    · replace h := o_in hc5 h
      refine z_aload_n dX2_printParts_31 0 rfl ?_
      refine zg_X2_tree fl_X2_18 dX2_printParts_32 ?_
      refine z_iload dX2_printParts_35 5 rfl ?_
      refine z_iconst (v := 1) dX2_printParts_37 (by decide) ?_
      obtain ⟨x8, s6, e7, h⟩ := o_bdi h
      refine z_callVi (As := [.int _, .int _]) (e_X5_get e7) (by omega) mi_X5_get ml_X2_37 rfl rfl (Nat.le_of_ble_eq_true rfl) rv_2 dX2_printParts_38 ?_
      refine z_iload dX2_printParts_41 4 rfl ?_
      refine z_icmp_ne (tgt := 83) dX2_printParts_43 (by decide) (fun hc9 => ?_) (fun hc9 => ?_)
      · replace h := o_in hc9 h
        refine z_iinc (v := _ + 1) (L' := [(5, .int _), (0, .ref _), (1, .int _), (2, .int _), (3, .int _), (4, .int _)]) dX2_printParts_83 5 rfl rfl (by decide) rfl ?_
        refine z_goto (tgt := 25) dX2_printParts_86 (by decide) ?_
        exact o_Z.sub [1, 2, 3, 4, 5, 0] rfl (ih _ _ _ _ _ _ h)
      · replace h := o_ip hc9 h
        refine z_iload dX2_printParts_46 5 rfl ?_
        refine z_iload_n dX2_printParts_48 1 rfl ?_
        refine z_iconst (v := 1) dX2_printParts_49 (by decide) ?_
        refine z_iadd dX2_printParts_50 ?_
        refine z_icmp_le (tgt := 76) dX2_printParts_51 (by decide) (fun hc10 => ?_) (fun hc10 => ?_)
        · replace h := o_ip hc10 h
          refine z_aload_n dX2_printParts_76 0 rfl ?_
          refine z_iload dX2_printParts_77 5 rfl ?_
          refine z_iload_n dX2_printParts_79 3 rfl ?_
          obtain ⟨s11, e12, h⟩ := o_bdv h
          refine z_callVv (As := [.int _, .int _]) (hrec.2.1 _ _ _ _ e12) (by omega) mi_X2_printPart ml_X2_65 rfl rfl (Nat.le_of_ble_eq_true rfl) rv_5 dX2_printParts_80 ?_
          refine z_iinc (v := _ + 1) (L' := [(5, .int _), (0, .ref _), (1, .int _), (2, .int _), (3, .int _), (4, .int _)]) dX2_printParts_83 5 rfl rfl (by decide) rfl ?_
          refine z_goto (tgt := 25) dX2_printParts_86 (by decide) ?_
          exact o_Z.sub [1, 2, 3, 4, 5, 0] rfl (ih _ _ _ _ _ _ h)
        · replace h := o_in hc10 h
          refine z_aload_n dX2_printParts_54 0 rfl ?_
          refine zg_X2_tree fl_X2_18 dX2_printParts_55 ?_
          refine z_iload dX2_printParts_58 5 rfl ?_
          refine z_iconst (v := 0) dX2_printParts_60 (by decide) ?_
          obtain ⟨x15, s13, e14, h⟩ := o_bdi h
          refine z_callVi (As := [.int _, .int _]) (e_X5_is e14) (by omega) mi_X5_is ml_X2_58 rfl rfl (Nat.le_of_ble_eq_true rfl) rv_2 dX2_printParts_61 ?_
          refine z_if_ne (tgt := 76) dX2_printParts_64 (by decide) (fun hc16 => ?_) (fun hc16 => ?_)
          · replace h := o_in hc16 h
            refine z_aload_n dX2_printParts_76 0 rfl ?_
            refine z_iload dX2_printParts_77 5 rfl ?_
            refine z_iload_n dX2_printParts_79 3 rfl ?_
            obtain ⟨s17, e18, h⟩ := o_bdv h
            refine z_callVv (As := [.int _, .int _]) (hrec.2.1 _ _ _ _ e18) (by omega) mi_X2_printPart ml_X2_65 rfl rfl (Nat.le_of_ble_eq_true rfl) rv_5 dX2_printParts_80 ?_
            refine z_iinc (v := _ + 1) (L' := [(5, .int _), (0, .ref _), (1, .int _), (2, .int _), (3, .int _), (4, .int _)]) dX2_printParts_83 5 rfl rfl (by decide) rfl ?_
            refine z_goto (tgt := 25) dX2_printParts_86 (by decide) ?_
            exact o_Z.sub [1, 2, 3, 4, 5, 0] rfl (ih _ _ _ _ _ _ h)
          · replace h := o_ip hc16 h
            refine z_aload_n dX2_printParts_67 0 rfl ?_
            refine zg_X2_out fl_X2_12 dX2_printParts_68 ?_
            refine z_bipush (v := 32) dX2_printParts_71 (by decide) ?_
            obtain ⟨s19, e20, h⟩ := o_bdv h
            refine z_callVv (As := [.int _]) (e_row_push (r := 8) (kd := 5) (by decide) (by decide) e20) (by omega) rm_push ml_X2_48 rfl rfl (Nat.le_of_ble_eq_true rfl) (rv_row (r := 8) (by decide)) dX2_printParts_73 ?_
            refine z_aload_n dX2_printParts_76 0 rfl ?_
            refine z_iload dX2_printParts_77 5 rfl ?_
            refine z_iload_n dX2_printParts_79 3 rfl ?_
            obtain ⟨s21, e22, h⟩ := o_bdv h
            refine z_callVv (As := [.int _, .int _]) (hrec.2.1 _ _ _ _ e22) (by omega) mi_X2_printPart ml_X2_65 rfl rfl (Nat.le_of_ble_eq_true rfl) rv_5 dX2_printParts_80 ?_
            refine z_iinc (v := _ + 1) (L' := [(5, .int _), (0, .ref _), (1, .int _), (2, .int _), (3, .int _), (4, .int _)]) dX2_printParts_83 5 rfl rfl (by decide) rfl ?_
            refine z_goto (tgt := 25) dX2_printParts_86 (by decide) ?_
            exact o_Z.sub [1, 2, 3, 4, 5, 0] rfl (ih _ _ _ _ _ _ h)
set_option maxRecDepth 10000 in
theorem s_X2_printParts {G : o_G} {N : Nat} {d : Nat} {rec : Nat → Int32 → Int32 → Int32 → o_S → Option o_S} {σ' : o_S} {p1 : Int32} {p2 : Int32} {p3 : Int32} (hrec : (∀ (a b c : Int32) (s s1 : o_S), rec 0 a b c s = some s1 → o_Ev G yX2_printParts cX2_printParts 6 (none) (7 + d) [.ref (g_ad G 5), .int a, .int b, .int c] s none s1) ∧ (∀ (a b : Int32) (s s1 : o_S), rec 1 a b 0 s = some s1 → o_Ev G yX2_printPart cX2_printPart 3 (none) (7 + d) [.ref (g_ad G 5), .int a, .int b] s none s1) ∧ (∀ (a b : Int32) (s s1 : o_S), rec 2 a b 0 s = some s1 → o_Ev G yX2_printBraces cX2_printBraces 6 (none) (7 + d) [.ref (g_ad G 5), .int a, .int b] s none s1)) {s : o_S} (h : f_X2_printParts N rec p1 p2 p3 s = some σ') : o_Z G RX2 cX2_printParts (Option.none : Option Jvm.ClassFile.FieldType) 6 (8 + d) (o_E G (none) σ') (o_k σ') s 0 [(0, .ref (g_ad G 5)), (1, .int p1), (2, .int p2), (3, .int p3)] [] := by
  unfold f_X2_printParts at h
  refine z_iload_n dX2_printParts_0 3 rfl ?_
  refine z_bipush (v := 40) dX2_printParts_1 (by decide) ?_
  refine z_icmp_le (tgt := 7) dX2_printParts_3 (by decide) (fun hc1 => ?_) (fun hc1 => ?_)
  · replace h := o_ip hc1 h
    refine z_aload_n dX2_printParts_7 0 rfl ?_
    refine zg_X2_tree fl_X2_18 dX2_printParts_8 ?_
    refine z_iload_n dX2_printParts_11 1 rfl ?_
    refine z_iconst (v := 1) dX2_printParts_12 (by decide) ?_
    obtain ⟨x4, s2, e3, h⟩ := o_bdi h
    refine z_callVi (As := [.int _, .int _]) (e_X5_get e3) (by omega) mi_X5_get ml_X2_37 rfl rfl (Nat.le_of_ble_eq_true rfl) rv_2 dX2_printParts_13 ?_
    refine z_iconst (v := 1) dX2_printParts_16 (by decide) ?_
    refine z_iadd dX2_printParts_17 ?_
    refine z_istore (L' := [(4, .int _), (0, .ref _), (1, .int _), (2, .int _), (3, .int _)]) dX2_printParts_18 (by decide) rfl ?_
    refine z_iload_n dX2_printParts_20 2 rfl ?_
    refine z_iconst (v := 1) dX2_printParts_21 (by decide) ?_
    refine z_iadd dX2_printParts_22 ?_
    refine z_istore (L' := [(5, .int _), (4, .int _), (0, .ref _), (1, .int _), (2, .int _), (3, .int _)]) dX2_printParts_23 (by decide) rfl ?_
    exact o_Z.sub [2, 3, 4, 5, 1, 0] rfl (s_X2_printParts_L25 hrec _ _ _ _ _ _ _ h)
  · replace h := o_in hc1 h
    cases h
    exact z_vret rfl rfl rfl dX2_printParts_6
set_option maxRecDepth 10000 in
theorem s_X2_printPart {G : o_G} {N : Nat} {d : Nat} {rec : Nat → Int32 → Int32 → Int32 → o_S → Option o_S} {σ' : o_S} {p1 : Int32} {p2 : Int32} (hrec : (∀ (a b c : Int32) (s s1 : o_S), rec 0 a b c s = some s1 → o_Ev G yX2_printParts cX2_printParts 6 (none) (7 + d) [.ref (g_ad G 5), .int a, .int b, .int c] s none s1) ∧ (∀ (a b : Int32) (s s1 : o_S), rec 1 a b 0 s = some s1 → o_Ev G yX2_printPart cX2_printPart 3 (none) (7 + d) [.ref (g_ad G 5), .int a, .int b] s none s1) ∧ (∀ (a b : Int32) (s s1 : o_S), rec 2 a b 0 s = some s1 → o_Ev G yX2_printBraces cX2_printBraces 6 (none) (7 + d) [.ref (g_ad G 5), .int a, .int b] s none s1)) {s : o_S} (h : f_X2_printPart N rec p1 p2 s = some σ') : o_Z G RX2 cX2_printPart (Option.none : Option Jvm.ClassFile.FieldType) 3 (8 + d) (o_E G (none) σ') (o_k σ') s 0 [(0, .ref (g_ad G 5)), (1, .int p1), (2, .int p2)] [] := by
  unfold f_X2_printPart at h
  refine z_aload_n dX2_printPart_0 0 rfl ?_
  refine zg_X2_tree fl_X2_18 dX2_printPart_1 ?_
  refine z_iload_n dX2_printPart_4 1 rfl ?_
  refine z_iconst (v := 0) dX2_printPart_5 (by decide) ?_
  obtain ⟨x3, s1, e2, h⟩ := o_bdi h
  refine z_callVi (As := [.int _, .int _]) (e_X5_get e2) (by omega) mi_X5_get ml_X2_37 rfl rfl (Nat.le_of_ble_eq_true rfl) rv_2 dX2_printPart_6 ?_
  by_cases hc4 : x3 = 2
  · replace h := o_ip hc4 h
    refine z_tableIn (tgt := 36) dX2_printPart_9 (off := 27) (by rw [hc4]; decide) (by rw [hc4]; decide) (by rw [hc4]; rfl) (by decide) ?_
    refine z_aload_n dX2_printPart_36 0 rfl ?_
    refine z_iload_n dX2_printPart_37 1 rfl ?_
    obtain ⟨s5, e6, h⟩ := o_bdv h
    refine z_callVv (As := [.int _]) (e_X2_printWord e6) (by omega) mi_X2_printWord ml_X2_68 rfl rfl (Nat.le_of_ble_eq_true rfl) rv_5 dX2_printPart_38 ?_
    refine z_goto (tgt := 105) dX2_printPart_41 (by decide) ?_
    cases h
    exact z_vret rfl rfl rfl dX2_printPart_105
  · replace h := o_in hc4 h
    by_cases hc7 : x3 = 3
    · replace h := o_ip hc7 h
      refine z_tableIn (tgt := 44) dX2_printPart_9 (off := 35) (by rw [hc7]; decide) (by rw [hc7]; decide) (by rw [hc7]; rfl) (by decide) ?_
      refine z_aload_n dX2_printPart_44 0 rfl ?_
      refine z_aload_n dX2_printPart_45 0 rfl ?_
      refine zg_X2_tree fl_X2_18 dX2_printPart_46 ?_
      refine z_iload_n dX2_printPart_49 1 rfl ?_
      refine z_iconst (v := 5) dX2_printPart_50 (by decide) ?_
      obtain ⟨x10, s8, e9, h⟩ := o_bdi h
      refine z_callVi (As := [.int _, .int _]) (e_X5_get e9) (by omega) mi_X5_get ml_X2_37 rfl rfl (Nat.le_of_ble_eq_true rfl) rv_2 dX2_printPart_51 ?_
      obtain ⟨s11, e12, h⟩ := o_bdv h
      refine z_callVv (As := [.int _]) (e_X2_printNumber e12) (by omega) mi_X2_printNumber ml_X2_71 rfl rfl (Nat.le_of_ble_eq_true rfl) rv_5 dX2_printPart_54 ?_
      refine z_goto (tgt := 105) dX2_printPart_57 (by decide) ?_
      cases h
      exact z_vret rfl rfl rfl dX2_printPart_105
    · replace h := o_in hc7 h
      by_cases hc13 : x3 = 4
      · replace h := o_ip hc13 h
        refine z_tableIn (tgt := 60) dX2_printPart_9 (off := 51) (by rw [hc13]; decide) (by rw [hc13]; decide) (by rw [hc13]; rfl) (by decide) ?_
        refine z_aload_n dX2_printPart_60 0 rfl ?_
        refine zg_X2_out fl_X2_12 dX2_printPart_61 ?_
        refine z_bipush (v := 40) dX2_printPart_64 (by decide) ?_
        obtain ⟨s14, e15, h⟩ := o_bdv h
        refine z_callVv (As := [.int _]) (e_row_push (r := 8) (kd := 5) (by decide) (by decide) e15) (by omega) rm_push ml_X2_48 rfl rfl (Nat.le_of_ble_eq_true rfl) (rv_row (r := 8) (by decide)) dX2_printPart_66 ?_
        refine z_aload_n dX2_printPart_69 0 rfl ?_
        refine z_iload_n dX2_printPart_70 1 rfl ?_
        refine z_aload_n dX2_printPart_71 0 rfl ?_
        refine zg_X2_tree fl_X2_18 dX2_printPart_72 ?_
        refine z_iload_n dX2_printPart_75 1 rfl ?_
        obtain ⟨x18, s16, e17, h⟩ := o_bdi h
        refine z_callVi (As := [.int _]) (e_X5_after e17) (by omega) mi_X5_after ml_X2_41 rfl rfl (Nat.le_of_ble_eq_true rfl) rv_2 dX2_printPart_76 ?_
        refine z_iload_n dX2_printPart_79 2 rfl ?_
        refine z_iconst (v := 1) dX2_printPart_80 (by decide) ?_
        refine z_iadd dX2_printPart_81 ?_
        obtain ⟨s19, e20, h⟩ := o_bdv h
        refine z_callVv (As := [.int _, .int _, .int _]) (hrec.1 _ _ _ _ _ e20) (by omega) mi_X2_printParts ml_X2_44 rfl rfl (Nat.le_of_ble_eq_true rfl) rv_5 dX2_printPart_82 ?_
        refine z_aload_n dX2_printPart_85 0 rfl ?_
        refine zg_X2_out fl_X2_12 dX2_printPart_86 ?_
        refine z_bipush (v := 41) dX2_printPart_89 (by decide) ?_
        obtain ⟨s21, e22, h⟩ := o_bdv h
        refine z_callVv (As := [.int _]) (e_row_push (r := 8) (kd := 5) (by decide) (by decide) e22) (by omega) rm_push ml_X2_48 rfl rfl (Nat.le_of_ble_eq_true rfl) (rv_row (r := 8) (by decide)) dX2_printPart_91 ?_
        refine z_goto (tgt := 105) dX2_printPart_94 (by decide) ?_
        cases h
        exact z_vret rfl rfl rfl dX2_printPart_105
      · replace h := o_in hc13 h
        refine z_tableOut (tgt := 97) dX2_printPart_9 (o_tsw hc4 hc7 hc13) (by decide) ?_
        refine z_aload_n dX2_printPart_97 0 rfl ?_
        refine z_iload_n dX2_printPart_98 1 rfl ?_
        refine z_iload_n dX2_printPart_99 2 rfl ?_
        refine z_iconst (v := 1) dX2_printPart_100 (by decide) ?_
        refine z_iadd dX2_printPart_101 ?_
        obtain ⟨s23, e24, h⟩ := o_bdv h
        refine z_callVv (As := [.int _, .int _]) (hrec.2.2 _ _ _ _ e24) (by omega) mi_X2_printBraces ml_X2_74 rfl rfl (Nat.le_of_ble_eq_true rfl) rv_5 dX2_printPart_102 ?_
        cases h
        exact z_vret rfl rfl rfl dX2_printPart_105
set_option maxRecDepth 10000 in
theorem s_X2_printBraces_b92 {G : o_G} {N : Nat} {d : Nat} {rec : Nat → Int32 → Int32 → Int32 → o_S → Option o_S} {k54 : Int32 → Int32 → Int32 → Int32 → Int32 → o_S → Option o_S} {σ' : o_S} {l1 : Int32} {l2 : Int32} {l3 : Int32} {l4 : Int32} {l5 : Int32} (hrec : (∀ (a b c : Int32) (s s1 : o_S), rec 0 a b c s = some s1 → o_Ev G yX2_printParts cX2_printParts 6 (none) (7 + d) [.ref (g_ad G 5), .int a, .int b, .int c] s none s1) ∧ (∀ (a b : Int32) (s s1 : o_S), rec 1 a b 0 s = some s1 → o_Ev G yX2_printPart cX2_printPart 3 (none) (7 + d) [.ref (g_ad G 5), .int a, .int b] s none s1) ∧ (∀ (a b : Int32) (s s1 : o_S), rec 2 a b 0 s = some s1 → o_Ev G yX2_printBraces cX2_printBraces 6 (none) (7 + d) [.ref (g_ad G 5), .int a, .int b] s none s1)) (hk54 : ∀ (z1 : Int32) (z2 : Int32) (z3 : Int32) (z4 : Int32) (z5 : Int32) (s : o_S), k54 z1 z2 z3 z4 z5 s = some σ' → o_Z G RX2 cX2_printBraces (Option.none : Option Jvm.ClassFile.FieldType) 6 (8 + d) (o_E G (none) σ') (o_k σ') s 54 [(0, .ref (g_ad G 5)), (1, .int z1), (2, .int z2), (3, .int z3), (4, .int z4), (5, .int z5)] []) {s : o_S} (h : f_X2_printBraces_b92 N rec k54 l1 l2 l3 l4 l5 s = some σ') : o_Z G RX2 cX2_printBraces (Option.none : Option Jvm.ClassFile.FieldType) 6 (8 + d) (o_E G (none) σ') (o_k σ') s 92 [(0, .ref (g_ad G 5)), (1, .int l1), (2, .int l2), (3, .int l3), (4, .int l4), (5, .int l5)] [] := by
  unfold f_X2_printBraces_b92 at h
  refine z_aload_n dX2_printBraces_92 0 rfl ?_
  refine zg_X2_out fl_X2_12 dX2_printBraces_93 ?_
  refine z_bipush (v := 32) dX2_printBraces_96 (by decide) ?_
  obtain ⟨s23, e24, h⟩ := o_bdv h
  refine z_callVv (As := [.int _]) (e_row_push (r := 8) (kd := 5) (by decide) (by decide) e24) (by omega) rm_push ml_X2_48 rfl rfl (Nat.le_of_ble_eq_true rfl) (rv_row (r := 8) (by decide)) dX2_printBraces_98 ?_
  refine z_aload_n dX2_printBraces_101 0 rfl ?_
  refine z_iload dX2_printBraces_102 5 rfl ?_
  refine z_aload_n dX2_printBraces_104 0 rfl ?_
  refine zg_X2_tree fl_X2_18 dX2_printBraces_105 ?_
  refine z_iload dX2_printBraces_108 5 rfl ?_
  obtain ⟨x27, s25, e26, h⟩ := o_bdi h
  refine z_callVi (As := [.int _]) (e_X5_after e26) (by omega) mi_X5_after ml_X2_41 rfl rfl (Nat.le_of_ble_eq_true rfl) rv_2 dX2_printBraces_110 ?_
  refine z_iload_n dX2_printBraces_113 2 rfl ?_
  obtain ⟨s28, e29, h⟩ := o_bdv h
  refine z_callVv (As := [.int _, .int _, .int _]) (hrec.1 _ _ _ _ _ e29) (by omega) mi_X2_printParts ml_X2_44 rfl rfl (Nat.le_of_ble_eq_true rfl) rv_5 dX2_printBraces_114 ?_
  refine z_iinc (v := _ + 1) (L' := [(5, .int _), (0, .ref _), (1, .int _), (2, .int _), (3, .int _), (4, .int _)]) dX2_printBraces_117 5 rfl rfl (by decide) rfl ?_
  refine z_goto (tgt := 54) dX2_printBraces_120 (by decide) ?_
  exact o_Z.sub [1, 2, 3, 4, 5, 0] rfl (hk54 _ _ _ _ _ _ h)
set_option maxRecDepth 10000 in
theorem s_X2_printBraces_L54 {G : o_G} {N : Nat} {d : Nat} {rec : Nat → Int32 → Int32 → Int32 → o_S → Option o_S} {σ' : o_S} (hrec : (∀ (a b c : Int32) (s s1 : o_S), rec 0 a b c s = some s1 → o_Ev G yX2_printParts cX2_printParts 6 (none) (7 + d) [.ref (g_ad G 5), .int a, .int b, .int c] s none s1) ∧ (∀ (a b : Int32) (s s1 : o_S), rec 1 a b 0 s = some s1 → o_Ev G yX2_printPart cX2_printPart 3 (none) (7 + d) [.ref (g_ad G 5), .int a, .int b] s none s1) ∧ (∀ (a b : Int32) (s s1 : o_S), rec 2 a b 0 s = some s1 → o_Ev G yX2_printBraces cX2_printBraces 6 (none) (7 + d) [.ref (g_ad G 5), .int a, .int b] s none s1)) : ∀ (n : Nat) (l1 : Int32) (l2 : Int32) (l3 : Int32) (l4 : Int32) (l5 : Int32) (s : o_S), f_X2_printBraces_L54 N rec n l1 l2 l3 l4 l5 s = some σ' → o_Z G RX2 cX2_printBraces (Option.none : Option Jvm.ClassFile.FieldType) 6 (8 + d) (o_E G (none) σ') (o_k σ') s 54 [(0, .ref (g_ad G 5)), (1, .int l1), (2, .int l2), (3, .int l3), (4, .int l4), (5, .int l5)] [] := by
  intro n
  induction n with
  | zero => intro l1 l2 l3 l4 l5 s h; cases h
  | succ n ih =>
    intro l1 l2 l3 l4 l5 s h
    rw [f_X2_printBraces_L54] at h
    refine z_iload dX2_printBraces_54 5 rfl ?_
    refine z_iload_n dX2_printBraces_56 3 rfl ?_
    refine z_icmp_ge (tgt := 123) dX2_printBraces_57 (by decide) (fun hc13 => ?_) (fun hc13 => ?_)
    · replace h := o_ip hc13 h
      refine z_aload_n dX2_printBraces_123 0 rfl ?_
      refine zg_X2_out fl_X2_12 dX2_printBraces_124 ?_
      refine z_bipush (v := 32) dX2_printBraces_127 (by decide) ?_
      obtain ⟨s14, e15, h⟩ := o_bdv h
      refine z_callVv (As := [.int _]) (e_row_push (r := 8) (kd := 5) (by decide) (by decide) e15) (by omega) rm_push ml_X2_48 rfl rfl (Nat.le_of_ble_eq_true rfl) (rv_row (r := 8) (by decide)) dX2_printBraces_129 ?_
      refine z_aload_n dX2_printBraces_132 0 rfl ?_
      refine zg_X2_out fl_X2_12 dX2_printBraces_133 ?_
      refine z_bipush (v := 125) dX2_printBraces_136 (by decide) ?_
      obtain ⟨s16, e17, h⟩ := o_bdv h
      refine z_callVv (As := [.int _]) (e_row_push (r := 8) (kd := 5) (by decide) (by decide) e17) (by omega) rm_push ml_X2_48 rfl rfl (Nat.le_of_ble_eq_true rfl) (rv_row (r := 8) (by decide)) dX2_printBraces_138 ?_
      cases h
      exact z_vret rfl rfl rfl dX2_printBraces_141
    · replace h := o_in hc13 h
      refine z_aload_n dX2_printBraces_60 0 rfl ?_
      refine zg_X2_tree fl_X2_18 dX2_printBraces_61 ?_
      refine z_iload dX2_printBraces_64 5 rfl ?_
      refine z_iconst (v := 1) dX2_printBraces_66 (by decide) ?_
      obtain ⟨x20, s18, e19, h⟩ := o_bdi h
      refine z_callVi (As := [.int _, .int _]) (e_X5_get e19) (by omega) mi_X5_get ml_X2_37 rfl rfl (Nat.le_of_ble_eq_true rfl) rv_2 dX2_printBraces_67 ?_
      refine z_iload dX2_printBraces_70 4 rfl ?_
      refine z_icmp_ne (tgt := 117) dX2_printBraces_72 (by decide) (fun hc21 => ?_) (fun hc21 => ?_)
      · replace h := o_in hc21 h
        refine z_iinc (v := _ + 1) (L' := [(5, .int _), (0, .ref _), (1, .int _), (2, .int _), (3, .int _), (4, .int _)]) dX2_printBraces_117 5 rfl rfl (by decide) rfl ?_
        refine z_goto (tgt := 54) dX2_printBraces_120 (by decide) ?_
        exact o_Z.sub [1, 2, 3, 4, 5, 0] rfl (ih _ _ _ _ _ _ h)
      · replace h := o_ip hc21 h
        refine z_iload dX2_printBraces_75 5 rfl ?_
        refine z_iload_n dX2_printBraces_77 1 rfl ?_
        refine z_iconst (v := 1) dX2_printBraces_78 (by decide) ?_
        refine z_iadd dX2_printBraces_79 ?_
        refine z_icmp_le (tgt := 92) dX2_printBraces_80 (by decide) (fun hc22 => ?_) (fun hc22 => ?_)
        · replace h := o_ip hc22 h
          exact o_Z.sub [0, 1, 2, 3, 4, 5] rfl (s_X2_printBraces_b92 hrec ih h)
        · replace h := o_in hc22 h
          refine z_aload_n dX2_printBraces_83 0 rfl ?_
          refine zg_X2_out fl_X2_12 dX2_printBraces_84 ?_
          refine z_bipush (v := 59) dX2_printBraces_87 (by decide) ?_
          obtain ⟨s30, e31, h⟩ := o_bdv h
          refine z_callVv (As := [.int _]) (e_row_push (r := 8) (kd := 5) (by decide) (by decide) e31) (by omega) rm_push ml_X2_48 rfl rfl (Nat.le_of_ble_eq_true rfl) (rv_row (r := 8) (by decide)) dX2_printBraces_89 ?_
          exact o_Z.sub [0, 1, 2, 3, 4, 5] rfl (s_X2_printBraces_b92 hrec ih h)
set_option maxRecDepth 10000 in
theorem s_X2_printBraces {G : o_G} {N : Nat} {d : Nat} {rec : Nat → Int32 → Int32 → Int32 → o_S → Option o_S} {σ' : o_S} {p1 : Int32} {p2 : Int32} (hrec : (∀ (a b c : Int32) (s s1 : o_S), rec 0 a b c s = some s1 → o_Ev G yX2_printParts cX2_printParts 6 (none) (7 + d) [.ref (g_ad G 5), .int a, .int b, .int c] s none s1) ∧ (∀ (a b : Int32) (s s1 : o_S), rec 1 a b 0 s = some s1 → o_Ev G yX2_printPart cX2_printPart 3 (none) (7 + d) [.ref (g_ad G 5), .int a, .int b] s none s1) ∧ (∀ (a b : Int32) (s s1 : o_S), rec 2 a b 0 s = some s1 → o_Ev G yX2_printBraces cX2_printBraces 6 (none) (7 + d) [.ref (g_ad G 5), .int a, .int b] s none s1)) {s : o_S} (h : f_X2_printBraces N rec p1 p2 s = some σ') : o_Z G RX2 cX2_printBraces (Option.none : Option Jvm.ClassFile.FieldType) 6 (8 + d) (o_E G (none) σ') (o_k σ') s 0 [(0, .ref (g_ad G 5)), (1, .int p1), (2, .int p2)] [] := by
  unfold f_X2_printBraces at h
  refine z_aload_n dX2_printBraces_0 0 rfl ?_
  refine zg_X2_out fl_X2_12 dX2_printBraces_1 ?_
  refine z_bipush (v := 58) dX2_printBraces_4 (by decide) ?_
  obtain ⟨s1, e2, h⟩ := o_bdv h
  refine z_callVv (As := [.int _]) (e_row_push (r := 8) (kd := 5) (by decide) (by decide) e2) (by omega) rm_push ml_X2_48 rfl rfl (Nat.le_of_ble_eq_true rfl) (rv_row (r := 8) (by decide)) dX2_printBraces_6 ?_
  refine z_aload_n dX2_printBraces_9 0 rfl ?_
  refine zg_X2_out fl_X2_12 dX2_printBraces_10 ?_
  refine z_bipush (v := 32) dX2_printBraces_13 (by decide) ?_
  obtain ⟨s3, e4, h⟩ := o_bdv h
  refine z_callVv (As := [.int _]) (e_row_push (r := 8) (kd := 5) (by decide) (by decide) e4) (by omega) rm_push ml_X2_48 rfl rfl (Nat.le_of_ble_eq_true rfl) (rv_row (r := 8) (by decide)) dX2_printBraces_15 ?_
  refine z_aload_n dX2_printBraces_18 0 rfl ?_
  refine zg_X2_out fl_X2_12 dX2_printBraces_19 ?_
  refine z_bipush (v := 123) dX2_printBraces_22 (by decide) ?_
  obtain ⟨s5, e6, h⟩ := o_bdv h
  refine z_callVv (As := [.int _]) (e_row_push (r := 8) (kd := 5) (by decide) (by decide) e6) (by omega) rm_push ml_X2_48 rfl rfl (Nat.le_of_ble_eq_true rfl) (rv_row (r := 8) (by decide)) dX2_printBraces_24 ?_
  refine z_aload_n dX2_printBraces_27 0 rfl ?_
  refine zg_X2_tree fl_X2_18 dX2_printBraces_28 ?_
  refine z_iload_n dX2_printBraces_31 1 rfl ?_
  obtain ⟨x9, s7, e8, h⟩ := o_bdi h
  refine z_callVi (As := [.int _]) (e_X5_after e8) (by omega) mi_X5_after ml_X2_41 rfl rfl (Nat.le_of_ble_eq_true rfl) rv_2 dX2_printBraces_32 ?_
  refine z_istore_n (L' := [(3, .int _), (0, .ref _), (1, .int _), (2, .int _)]) dX2_printBraces_35 (by decide) rfl ?_
  refine z_aload_n dX2_printBraces_36 1 rfl ?_
  refine zg_X2_tree fl_X2_18 dX2_printBraces_37 ?_
  refine z_iload_n dX2_printBraces_40 2 rfl ?_
  refine z_iconst (v := 1) dX2_printBraces_41 (by decide) ?_
  obtain ⟨x12, s10, e11, h⟩ := o_bdi h
  refine z_callVi (As := [.int _, .int _]) (e_X5_get e11) (by omega) mi_X5_get ml_X2_37 rfl rfl (Nat.le_of_ble_eq_true rfl) rv_2 dX2_printBraces_42 ?_
  refine z_iconst (v := 1) dX2_printBraces_45 (by decide) ?_
  refine z_iadd dX2_printBraces_46 ?_
  refine z_istore (L' := [(4, .int _), (3, .int _), (0, .ref _), (1, .int _), (2, .int _)]) dX2_printBraces_47 (by decide) rfl ?_
  refine z_iload_n dX2_printBraces_49 3 rfl ?_
  refine z_iconst (v := 1) dX2_printBraces_50 (by decide) ?_
  refine z_iadd dX2_printBraces_51 ?_
  refine z_istore (L' := [(5, .int _), (4, .int _), (3, .int _), (0, .ref _), (1, .int _), (2, .int _)]) dX2_printBraces_52 (by decide) rfl ?_
  exact o_Z.sub [3, 4, 5, 2, 1, 0] rfl (s_X2_printBraces_L54 hrec _ _ _ _ _ _ _ h)
theorem r_gP {G : o_G} {N : Nat} : ∀ d : Nat, (∀ (a b c : Int32) (s s1 : o_S), f_gP N d 0 a b c s = some s1 → o_Ev G yX2_printParts cX2_printParts 6 (Option.none : Option Jvm.ClassFile.FieldType) (7 + d) [.ref (g_ad G 5), .int a, .int b, .int c] s none s1) ∧ (∀ (a b : Int32) (s s1 : o_S), f_gP N d 1 a b 0 s = some s1 → o_Ev G yX2_printPart cX2_printPart 3 (Option.none : Option Jvm.ClassFile.FieldType) (7 + d) [.ref (g_ad G 5), .int a, .int b] s none s1) ∧ (∀ (a b : Int32) (s s1 : o_S), f_gP N d 2 a b 0 s = some s1 → o_Ev G yX2_printBraces cX2_printBraces 6 (Option.none : Option Jvm.ClassFile.FieldType) (7 + d) [.ref (g_ad G 5), .int a, .int b] s none s1) := by
  intro d
  induction d with
  | zero => exact ⟨fun a b c s s1 h => (by cases h), fun a b s s1 h => (by cases h), fun a b s s1 h => (by cases h)⟩
  | succ d ih =>
    have e : 7 + (d + 1) = 8 + d := by omega
    rw [e]
    exact ⟨fun a b c s s1 h => o_Ev.mk rfl (Nat.le_of_ble_eq_true rfl) (s_X2_printParts ih (by rw [f_gP] at h; exact h)), fun a b s s1 h => o_Ev.mk rfl (Nat.le_of_ble_eq_true rfl) (s_X2_printPart ih (by rw [f_gP] at h; exact h)), fun a b s s1 h => o_Ev.mk rfl (Nat.le_of_ble_eq_true rfl) (s_X2_printBraces ih (by rw [f_gP] at h; exact h))⟩
theorem e_X2_printParts {G : o_G} {N : Nat} {a : Int32} {b : Int32} {c : Int32} {s s1 : o_S} (h : f_gP N 200 0 a b c s = some s1) : o_Ev G yX2_printParts cX2_printParts 6 (Option.none : Option Jvm.ClassFile.FieldType) 207 [.ref (g_ad G 5), .int a, .int b, .int c] s none s1 := (r_gP 200).1 _ _ _ _ _ h
theorem e_X2_printPart {G : o_G} {N : Nat} {a : Int32} {b : Int32} {s s1 : o_S} (h : f_gP N 200 1 a b 0 s = some s1) : o_Ev G yX2_printPart cX2_printPart 3 (Option.none : Option Jvm.ClassFile.FieldType) 207 [.ref (g_ad G 5), .int a, .int b] s none s1 := (r_gP 200).2.1 _ _ _ _ h
theorem e_X2_printBraces {G : o_G} {N : Nat} {a : Int32} {b : Int32} {s s1 : o_S} (h : f_gP N 200 2 a b 0 s = some s1) : o_Ev G yX2_printBraces cX2_printBraces 6 (Option.none : Option Jvm.ClassFile.FieldType) 207 [.ref (g_ad G 5), .int a, .int b] s none s1 := (r_gP 200).2.2 _ _ _ _ h
-- X2_printItems
set_option maxRecDepth 10000 in
theorem s_X2_printItems_L2 {G : o_G} {N : Nat} {σ' : o_S} : ∀ (n : Nat) (l1 : Int32) (s : o_S), f_X2_printItems_L2 N n l1 s = some σ' → o_Z G RX2 cX2_printItems (Option.none : Option Jvm.ClassFile.FieldType) 2 209 (o_E G (none) σ') (o_k σ') s 2 [(0, .ref (g_ad G 5)), (1, .int l1)] [] := by
  intro n
  induction n with
  | zero => intro l1 s h; cases h
  | succ n ih =>
    intro l1 s h
    rw [f_X2_printItems_L2] at h
    refine z_iload_n dX2_printItems_2 1 rfl ?_
    refine z_aload_n dX2_printItems_3 0 rfl ?_
    refine zg_X2_tree fl_X2_18 dX2_printItems_4 ?_
    obtain ⟨x3, s1, e2, h⟩ := o_bdi h
    refine z_callVi (As := []) (e_X5_size e2) (by decide) mi_X5_size ml_X2_34 rfl rfl (Nat.le_of_ble_eq_true rfl) rv_2 dX2_printItems_7 ?_
    refine z_icmp_ge (tgt := 55) dX2_printItems_10 (by decide) (fun hc4 => ?_) (fun hc4 => ?_)
    · replace h := o_ip hc4 h
      cases h
      exact z_vret rfl rfl rfl dX2_printItems_55
    · replace h := o_in hc4 h
      refine z_aload_n dX2_printItems_13 0 rfl ?_
      refine zg_X2_tree fl_X2_18 dX2_printItems_14 ?_
      refine z_iload_n dX2_printItems_17 1 rfl ?_
      refine z_iconst (v := 1) dX2_printItems_18 (by decide) ?_
      obtain ⟨x7, s5, e6, h⟩ := o_bdi h
      refine z_callVi (As := [.int _, .int _]) (e_X5_get e6) (by decide) mi_X5_get ml_X2_37 rfl rfl (Nat.le_of_ble_eq_true rfl) rv_2 dX2_printItems_19 ?_
      refine z_iconst (v := 1) dX2_printItems_22 (by decide) ?_
      refine z_icmp_ne (tgt := 49) dX2_printItems_23 (by decide) (fun hc8 => ?_) (fun hc8 => ?_)
      · replace h := o_in hc8 h
        refine z_iinc (v := _ + 1) (L' := [(1, .int _), (0, .ref _)]) dX2_printItems_49 1 rfl rfl (by decide) rfl ?_
        refine z_goto (tgt := 2) dX2_printItems_52 (by decide) ?_
        exact o_Z.sub [1, 0] rfl (ih _ _ h)
      · replace h := o_ip hc8 h
        refine z_aload_n dX2_printItems_26 0 rfl ?_
        refine z_iload_n dX2_printItems_27 1 rfl ?_
        refine z_aload_n dX2_printItems_28 0 rfl ?_
        refine zg_X2_tree fl_X2_18 dX2_printItems_29 ?_
        refine z_iload_n dX2_printItems_32 1 rfl ?_
        obtain ⟨x11, s9, e10, h⟩ := o_bdi h
        refine z_callVi (As := [.int _]) (e_X5_after e10) (by decide) mi_X5_after ml_X2_41 rfl rfl (Nat.le_of_ble_eq_true rfl) rv_2 dX2_printItems_33 ?_
        refine z_iconst (v := 0) dX2_printItems_36 (by decide) ?_
        obtain ⟨s12, e13, h⟩ := o_bdv h
        refine z_callVv (As := [.int _, .int _, .int _]) (e_X2_printParts e13) (by decide) mi_X2_printParts ml_X2_44 rfl rfl (Nat.le_of_ble_eq_true rfl) rv_5 dX2_printItems_37 ?_
        refine z_aload_n dX2_printItems_40 0 rfl ?_
        refine zg_X2_out fl_X2_12 dX2_printItems_41 ?_
        refine z_bipush (v := 10) dX2_printItems_44 (by decide) ?_
        obtain ⟨s14, e15, h⟩ := o_bdv h
        refine z_callVv (As := [.int _]) (e_row_push (r := 8) (kd := 5) (by decide) (by decide) e15) (by decide) rm_push ml_X2_48 rfl rfl (Nat.le_of_ble_eq_true rfl) (rv_row (r := 8) (by decide)) dX2_printItems_46 ?_
        refine z_iinc (v := _ + 1) (L' := [(1, .int _), (0, .ref _)]) dX2_printItems_49 1 rfl rfl (by decide) rfl ?_
        refine z_goto (tgt := 2) dX2_printItems_52 (by decide) ?_
        exact o_Z.sub [1, 0] rfl (ih _ _ h)
set_option maxRecDepth 10000 in
theorem s_X2_printItems {G : o_G} {N : Nat} {σ' : o_S} {s : o_S} (h : f_X2_printItems N  s = some σ') : o_Z G RX2 cX2_printItems (Option.none : Option Jvm.ClassFile.FieldType) 2 209 (o_E G (none) σ') (o_k σ') s 0 [(0, .ref (g_ad G 5))] [] := by
  unfold f_X2_printItems at h
  refine z_iconst (v := 1) dX2_printItems_0 (by decide) ?_
  refine z_istore_n (L' := [(1, .int _), (0, .ref _)]) dX2_printItems_1 (by decide) rfl ?_
  exact o_Z.sub [1, 0] rfl (s_X2_printItems_L2 _ _ _ h)
theorem e_X2_printItems {G : o_G} {N : Nat} {σ' : o_S} {s : o_S} (h : f_X2_printItems N  s = some σ') : o_Ev G yX2_printItems cX2_printItems 2 (Option.none : Option Jvm.ClassFile.FieldType) 209 [.ref (g_ad G 5)] s (none) σ' := o_Ev.mk rfl (Nat.le_of_ble_eq_true rfl) (s_X2_printItems h)
-- X5_lastChild
set_option maxRecDepth 10000 in
theorem s_X5_lastChild_L20 {G : o_G} {N : Nat} {r : Int32} {σ' : o_S} : ∀ (n : Nat) (l1 : Int32) (l3 : Int32) (l4 : Int32) (s : o_S), f_X5_lastChild_L20 N n l1 l3 l4 s = some (r, σ') → o_Z G RX5 cX5_lastChild (Option.some Jvm.ClassFile.FieldType.int) 5 2 (o_E G (some (.int r)) σ') (o_k σ') s 20 [(0, .ref (g_ad G 2)), (1, .int l1), (3, .int l3), (4, .int l4)] [] := by
  intro n
  induction n with
  | zero => intro l1 l3 l4 s h; cases h
  | succ n ih =>
    intro l1 l3 l4 s h
    rw [f_X5_lastChild_L20] at h
    refine z_iload dX5_lastChild_20 3 rfl ?_
    refine z_iload_n dX5_lastChild_22 1 rfl ?_
    refine z_icmp_le (tgt := 46) dX5_lastChild_23 (by decide) (fun hc7 => ?_) (fun hc7 => ?_)
    · replace h := o_ip hc7 h
      refine z_iconst (v := (-1)) dX5_lastChild_46 (by decide) ?_
      cases h
      exact z_iret rfl rfl rfl dX5_lastChild_47
    · replace h := o_in hc7 h
      refine z_aload_n dX5_lastChild_26 0 rfl ?_
      refine z_iload dX5_lastChild_27 3 rfl ?_
      refine z_iconst (v := 1) dX5_lastChild_29 (by decide) ?_
      obtain ⟨x10, s8, e9, h⟩ := o_bdi h
      refine z_callVi (As := [.int _, .int _]) (e_X5_get e9) (by decide) mi_X5_get ml_X5_44 rfl rfl (Nat.le_of_ble_eq_true rfl) rv_2 dX5_lastChild_30 ?_
      refine z_iload_n dX5_lastChild_33 2 rfl ?_
      refine z_icmp_ne (tgt := 40) dX5_lastChild_34 (by decide) (fun hc11 => ?_) (fun hc11 => ?_)
      · replace h := o_in hc11 h
        refine z_iinc (v := _ + (-1)) (L' := [(4, .int _), (0, .ref _), (1, .int _), (3, .int _)]) dX5_lastChild_40 3 rfl rfl (by decide) rfl ?_
        refine z_goto (tgt := 20) dX5_lastChild_43 (by decide) ?_
        exact o_Z.sub [1, 2, 3, 0] rfl (ih _ _ _ _ h)
      · replace h := o_ip hc11 h
        refine z_iload dX5_lastChild_37 3 rfl ?_
        cases h
        exact z_iret rfl rfl rfl dX5_lastChild_39
set_option maxRecDepth 10000 in
theorem s_X5_lastChild {G : o_G} {N : Nat} {r : Int32} {σ' : o_S} {p1 : Int32} {s : o_S} (h : f_X5_lastChild N p1 s = some (r, σ')) : o_Z G RX5 cX5_lastChild (Option.some Jvm.ClassFile.FieldType.int) 5 2 (o_E G (some (.int r)) σ') (o_k σ') s 0 [(0, .ref (g_ad G 2)), (1, .int p1)] [] := by
  unfold f_X5_lastChild at h
  refine z_aload_n dX5_lastChild_0 0 rfl ?_
  refine z_iload_n dX5_lastChild_1 1 rfl ?_
  obtain ⟨x3, s1, e2, h⟩ := o_bdi h
  refine z_callVi (As := [.int _]) (e_X5_after e2) (by decide) mi_X5_after ml_X5_60 rfl rfl (Nat.le_of_ble_eq_true rfl) rv_2 dX5_lastChild_2 ?_
  refine z_istore_n (L' := [(2, .int _), (0, .ref _), (1, .int _)]) dX5_lastChild_5 (by decide) rfl ?_
  refine z_aload_n dX5_lastChild_6 1 rfl ?_
  refine z_iload_n dX5_lastChild_7 2 rfl ?_
  refine z_iconst (v := 1) dX5_lastChild_8 (by decide) ?_
  obtain ⟨x6, s4, e5, h⟩ := o_bdi h
  refine z_callVi (As := [.int _, .int _]) (e_X5_get e5) (by decide) mi_X5_get ml_X5_44 rfl rfl (Nat.le_of_ble_eq_true rfl) rv_2 dX5_lastChild_9 ?_
  refine z_iconst (v := 1) dX5_lastChild_12 (by decide) ?_
  refine z_iadd dX5_lastChild_13 ?_
  refine z_istore_n (L' := [(3, .int _), (2, .int _), (0, .ref _), (1, .int _)]) dX5_lastChild_14 (by decide) rfl ?_
  refine z_iload_n dX5_lastChild_15 1 rfl ?_
  refine z_iconst (v := 1) dX5_lastChild_16 (by decide) ?_
  refine z_isub dX5_lastChild_17 ?_
  refine z_istore (L' := [(4, .int _), (3, .int _), (2, .int _), (0, .ref _), (1, .int _)]) dX5_lastChild_18 (by decide) rfl ?_
  exact o_Z.sub [3, 4, 1, 0] rfl (s_X5_lastChild_L20 _ _ _ _ _ h)
theorem e_X5_lastChild {G : o_G} {N : Nat} {r : Int32} {σ' : o_S} {p1 : Int32} {s : o_S} (h : f_X5_lastChild N p1 s = some (r, σ')) : o_Ev G yX5_lastChild cX5_lastChild 5 (Option.some Jvm.ClassFile.FieldType.int) 2 [.ref (g_ad G 2), .int p1] s (some (.int r)) σ' := o_Ev.mk rfl (Nat.le_of_ble_eq_true rfl) (s_X5_lastChild h)
-- gQ
set_option maxRecDepth 10000 in
theorem s_X2_printLines_L34 {G : o_G} {N : Nat} {d : Nat} {rec : Nat → Int32 → Int32 → Int32 → o_S → Option o_S} {σ' : o_S} (hrec : (∀ (a b : Int32) (s s1 : o_S), rec 0 a b 0 s = some s1 → o_Ev G yX2_printLines cX2_printLines 6 (none) (209 + d) [.ref (g_ad G 5), .int a, .int b] s none s1) ∧ (∀ (a b : Int32) (s s1 : o_S), rec 1 a b 0 s = some s1 → o_Ev G yX2_printLinesOfItem cX2_printLinesOfItem 5 (none) (209 + d) [.ref (g_ad G 5), .int a, .int b] s none s1)) : ∀ (n : Nat) (l2 : Int32) (l3 : Int32) (l4 : Int32) (l5 : Int32) (s : o_S), f_X2_printLines_L34 N rec n l2 l3 l4 l5 s = some σ' → o_Z G RX2 cX2_printLines (Option.none : Option Jvm.ClassFile.FieldType) 6 (210 + d) (o_E G (none) σ') (o_k σ') s 34 [(0, .ref (g_ad G 5)), (2, .int l2), (3, .int l3), (4, .int l4), (5, .int l5)] [] := by
  intro n
  induction n with
  | zero => intro l2 l3 l4 l5 s h; cases h
  | succ n ih =>
    intro l2 l3 l4 l5 s h
    rw [f_X2_printLines_L34] at h
    refine z_iload dX2_printLines_34 4 rfl ?_
    refine z_iload_n dX2_printLines_36 2 rfl ?_
    refine z_icmp_ge (tgt := 68) dX2_printLines_37 (by decide) (fun hc8 => ?_) (fun hc8 => ?_)
    · replace h := o_ip hc8 h
      cases h
      exact z_vret rfl rfl rfl dX2_printLines_68
    · replace h := o_in hc8 h
      refine z_aload_n dX2_printLines_40 0 rfl ?_
      refine zg_X2_tree fl_X2_18 dX2_printLines_41 ?_
      refine z_iload dX2_printLines_44 4 rfl ?_
      refine z_iconst (v := 1) dX2_printLines_46 (by decide) ?_
      obtain ⟨x11, s9, e10, h⟩ := o_bdi h
      refine z_callVi (As := [.int _, .int _]) (e_X5_get e10) (by omega) mi_X5_get ml_X2_37 rfl rfl (Nat.le_of_ble_eq_true rfl) rv_2 dX2_printLines_47 ?_
      refine z_iload dX2_printLines_50 3 rfl ?_
      refine z_icmp_ne (tgt := 62) dX2_printLines_52 (by decide) (fun hc12 => ?_) (fun hc12 => ?_)
      · replace h := o_in hc12 h
        refine z_iinc (v := _ + 1) (L' := [(5, .int _), (0, .ref _), (2, .int _), (3, .int _), (4, .int _)]) dX2_printLines_62 4 rfl rfl (by decide) rfl ?_
        refine z_goto (tgt := 34) dX2_printLines_65 (by decide) ?_
        exact o_Z.sub [1, 2, 3, 4, 0] rfl (ih _ _ _ _ _ h)
      · replace h := o_ip hc12 h
        refine z_aload_n dX2_printLines_55 0 rfl ?_
        refine z_iload dX2_printLines_56 4 rfl ?_
        refine z_iload_n dX2_printLines_58 1 rfl ?_
        obtain ⟨s13, e14, h⟩ := o_bdv h
        refine z_callVv (As := [.int _, .int _]) (hrec.2 _ _ _ _ e14) (by omega) mi_X2_printLinesOfItem ml_X2_51 rfl rfl (Nat.le_of_ble_eq_true rfl) rv_5 dX2_printLines_59 ?_
        refine z_iinc (v := _ + 1) (L' := [(5, .int _), (0, .ref _), (2, .int _), (3, .int _), (4, .int _)]) dX2_printLines_62 4 rfl rfl (by decide) rfl ?_
        refine z_goto (tgt := 34) dX2_printLines_65 (by decide) ?_
        exact o_Z.sub [1, 2, 3, 4, 0] rfl (ih _ _ _ _ _ h)
set_option maxRecDepth 10000 in
theorem s_X2_printLines {G : o_G} {N : Nat} {d : Nat} {rec : Nat → Int32 → Int32 → Int32 → o_S → Option o_S} {σ' : o_S} {p1 : Int32} {p2 : Int32} (hrec : (∀ (a b : Int32) (s s1 : o_S), rec 0 a b 0 s = some s1 → o_Ev G yX2_printLines cX2_printLines 6 (none) (209 + d) [.ref (g_ad G 5), .int a, .int b] s none s1) ∧ (∀ (a b : Int32) (s s1 : o_S), rec 1 a b 0 s = some s1 → o_Ev G yX2_printLinesOfItem cX2_printLinesOfItem 5 (none) (209 + d) [.ref (g_ad G 5), .int a, .int b] s none s1)) {s : o_S} (h : f_X2_printLines N rec p1 p2 s = some σ') : o_Z G RX2 cX2_printLines (Option.none : Option Jvm.ClassFile.FieldType) 6 (210 + d) (o_E G (none) σ') (o_k σ') s 0 [(0, .ref (g_ad G 5)), (1, .int p1), (2, .int p2)] [] := by
  unfold f_X2_printLines at h
  refine z_iload_n dX2_printLines_0 2 rfl ?_
  refine z_bipush (v := 40) dX2_printLines_1 (by decide) ?_
  refine z_icmp_le (tgt := 7) dX2_printLines_3 (by decide) (fun hc1 => ?_) (fun hc1 => ?_)
  · replace h := o_ip hc1 h
    refine z_aload_n dX2_printLines_7 0 rfl ?_
    refine zg_X2_tree fl_X2_18 dX2_printLines_8 ?_
    refine z_iload_n dX2_printLines_11 1 rfl ?_
    obtain ⟨x4, s2, e3, h⟩ := o_bdi h
    refine z_callVi (As := [.int _]) (e_X5_after e3) (by omega) mi_X5_after ml_X2_41 rfl rfl (Nat.le_of_ble_eq_true rfl) rv_2 dX2_printLines_12 ?_
    refine z_istore_n (L' := [(3, .int _), (0, .ref _), (1, .int _), (2, .int _)]) dX2_printLines_15 (by decide) rfl ?_
    refine z_aload_n dX2_printLines_16 1 rfl ?_
    refine zg_X2_tree fl_X2_18 dX2_printLines_17 ?_
    refine z_iload_n dX2_printLines_20 2 rfl ?_
    refine z_iconst (v := 1) dX2_printLines_21 (by decide) ?_
    obtain ⟨x7, s5, e6, h⟩ := o_bdi h
    refine z_callVi (As := [.int _, .int _]) (e_X5_get e6) (by omega) mi_X5_get ml_X2_37 rfl rfl (Nat.le_of_ble_eq_true rfl) rv_2 dX2_printLines_22 ?_
    refine z_iconst (v := 1) dX2_printLines_25 (by decide) ?_
    refine z_iadd dX2_printLines_26 ?_
    refine z_istore (L' := [(4, .int _), (3, .int _), (0, .ref _), (1, .int _), (2, .int _)]) dX2_printLines_27 (by decide) rfl ?_
    refine z_iload_n dX2_printLines_29 3 rfl ?_
    refine z_iconst (v := 1) dX2_printLines_30 (by decide) ?_
    refine z_iadd dX2_printLines_31 ?_
    refine z_istore (L' := [(5, .int _), (4, .int _), (3, .int _), (0, .ref _), (1, .int _), (2, .int _)]) dX2_printLines_32 (by decide) rfl ?_
    exact o_Z.sub [3, 5, 2, 1, 0] rfl (s_X2_printLines_L34 hrec _ _ _ _ _ _ h)
  · replace h := o_in hc1 h
    cases h
    exact z_vret rfl rfl rfl dX2_printLines_6
set_option maxRecDepth 10000 in
theorem s_X2_printLinesOfItem_b88 {G : o_G} {N : Nat} {d : Nat} {rec : Nat → Int32 → Int32 → Int32 → o_S → Option o_S} {σ' : o_S} {l2 : Int32} {l3 : Int32} {l4 : Int32} (hrec : (∀ (a b : Int32) (s s1 : o_S), rec 0 a b 0 s = some s1 → o_Ev G yX2_printLines cX2_printLines 6 (none) (209 + d) [.ref (g_ad G 5), .int a, .int b] s none s1) ∧ (∀ (a b : Int32) (s s1 : o_S), rec 1 a b 0 s = some s1 → o_Ev G yX2_printLinesOfItem cX2_printLinesOfItem 5 (none) (209 + d) [.ref (g_ad G 5), .int a, .int b] s none s1)) {s : o_S} (h : f_X2_printLinesOfItem_b88 N rec l2 l3 l4 s = some σ') : o_Z G RX2 cX2_printLinesOfItem (Option.none : Option Jvm.ClassFile.FieldType) 5 (210 + d) (o_E G (none) σ') (o_k σ') s 88 [(0, .ref (g_ad G 5)), (2, .int l2), (3, .int l3), (4, .int l4)] [] := by
  unfold f_X2_printLinesOfItem_b88 at h
  refine z_aload_n dX2_printLinesOfItem_88 0 rfl ?_
  refine zg_X2_out fl_X2_12 dX2_printLinesOfItem_89 ?_
  refine z_bipush (v := 10) dX2_printLinesOfItem_92 (by decide) ?_
  obtain ⟨s15, e16, h⟩ := o_bdv h
  refine z_callVv (As := [.int _]) (e_row_push (r := 8) (kd := 5) (by decide) (by decide) e16) (by omega) rm_push ml_X2_48 rfl rfl (Nat.le_of_ble_eq_true rfl) (rv_row (r := 8) (by decide)) dX2_printLinesOfItem_94 ?_
  refine z_iload dX2_printLinesOfItem_97 3 rfl ?_
  refine z_if_eq (tgt := 110) dX2_printLinesOfItem_99 (by decide) (fun hc17 => ?_) (fun hc17 => ?_)
  · replace h := o_ip hc17 h
    cases h
    exact z_vret rfl rfl rfl dX2_printLinesOfItem_110
  · replace h := o_in hc17 h
    refine z_aload_n dX2_printLinesOfItem_102 0 rfl ?_
    refine z_iload_n dX2_printLinesOfItem_103 2 rfl ?_
    refine z_iload_n dX2_printLinesOfItem_104 1 rfl ?_
    refine z_iconst (v := 1) dX2_printLinesOfItem_105 (by decide) ?_
    refine z_iadd dX2_printLinesOfItem_106 ?_
    obtain ⟨s18, e19, h⟩ := o_bdv h
    refine z_callVv (As := [.int _, .int _]) (hrec.1 _ _ _ _ e19) (by omega) mi_X2_printLines ml_X2_62 rfl rfl (Nat.le_of_ble_eq_true rfl) rv_5 dX2_printLinesOfItem_107 ?_
    cases h
    exact z_vret rfl rfl rfl dX2_printLinesOfItem_110
set_option maxRecDepth 10000 in
theorem s_X2_printLinesOfItem_b70 {G : o_G} {N : Nat} {d : Nat} {rec : Nat → Int32 → Int32 → Int32 → o_S → Option o_S} {σ' : o_S} {l2 : Int32} {l3 : Int32} {l4 : Int32} {y0 : Int32} {y1 : Int32} (hrec : (∀ (a b : Int32) (s s1 : o_S), rec 0 a b 0 s = some s1 → o_Ev G yX2_printLines cX2_printLines 6 (none) (209 + d) [.ref (g_ad G 5), .int a, .int b] s none s1) ∧ (∀ (a b : Int32) (s s1 : o_S), rec 1 a b 0 s = some s1 → o_Ev G yX2_printLinesOfItem cX2_printLinesOfItem 5 (none) (209 + d) [.ref (g_ad G 5), .int a, .int b] s none s1)) {s : o_S} (h : f_X2_printLinesOfItem_b70 N rec l2 l3 l4 y0 y1 s = some σ') : o_Z G RX2 cX2_printLinesOfItem (Option.none : Option Jvm.ClassFile.FieldType) 5 (210 + d) (o_E G (none) σ') (o_k σ') s 70 [(0, .ref (g_ad G 5)), (2, .int l2), (3, .int l3), (4, .int l4)] [.int y0, .int y1, .ref (g_ad G 5)] := by
  unfold f_X2_printLinesOfItem_b70 at h
  refine z_iload_n dX2_printLinesOfItem_70 1 rfl ?_
  obtain ⟨s12, e13, h⟩ := o_bdv h
  refine z_callVv (As := [.int _, .int _, .int _]) (e_X2_printParts e13) (by omega) mi_X2_printParts ml_X2_44 rfl rfl (Nat.le_of_ble_eq_true rfl) rv_5 dX2_printLinesOfItem_71 ?_
  refine z_iload dX2_printLinesOfItem_74 3 rfl ?_
  refine z_if_eq (tgt := 88) dX2_printLinesOfItem_76 (by decide) (fun hc14 => ?_) (fun hc14 => ?_)
  · replace h := o_ip hc14 h
    exact o_Z.sub [0, 1, 2, 3] rfl (s_X2_printLinesOfItem_b88 hrec h)
  · replace h := o_in hc14 h
    refine z_aload_n dX2_printLinesOfItem_79 0 rfl ?_
    refine zg_X2_out fl_X2_12 dX2_printLinesOfItem_80 ?_
    refine z_bipush (v := 58) dX2_printLinesOfItem_83 (by decide) ?_
    obtain ⟨s20, e21, h⟩ := o_bdv h
    refine z_callVv (As := [.int _]) (e_row_push (r := 8) (kd := 5) (by decide) (by decide) e21) (by omega) rm_push ml_X2_48 rfl rfl (Nat.le_of_ble_eq_true rfl) (rv_row (r := 8) (by decide)) dX2_printLinesOfItem_85 ?_
    exact o_Z.sub [0, 1, 2, 3] rfl (s_X2_printLinesOfItem_b88 hrec h)
set_option maxRecDepth 10000 in
theorem s_X2_printLinesOfItem_L2 {G : o_G} {N : Nat} {d : Nat} {rec : Nat → Int32 → Int32 → Int32 → o_S → Option o_S} {σ' : o_S} (hrec : (∀ (a b : Int32) (s s1 : o_S), rec 0 a b 0 s = some s1 → o_Ev G yX2_printLines cX2_printLines 6 (none) (209 + d) [.ref (g_ad G 5), .int a, .int b] s none s1) ∧ (∀ (a b : Int32) (s s1 : o_S), rec 1 a b 0 s = some s1 → o_Ev G yX2_printLinesOfItem cX2_printLinesOfItem 5 (none) (209 + d) [.ref (g_ad G 5), .int a, .int b] s none s1)) : ∀ (n : Nat) (l1 : Int32) (l2 : Int32) (l3 : Int32) (s : o_S), f_X2_printLinesOfItem_L2 N rec n l1 l2 l3 s = some σ' → o_Z G RX2 cX2_printLinesOfItem (Option.none : Option Jvm.ClassFile.FieldType) 5 (210 + d) (o_E G (none) σ') (o_k σ') s 2 [(0, .ref (g_ad G 5)), (1, .int l1), (2, .int l2), (3, .int l3)] [] := by
  intro n
  induction n with
  | zero => intro l1 l2 l3 s h; cases h
  | succ n ih =>
    intro l1 l2 l3 s h
    rw [f_X2_printLinesOfItem_L2] at h
    refine z_iload_n dX2_printLinesOfItem_2 3 rfl ?_
    refine z_iload_n dX2_printLinesOfItem_3 2 rfl ?_
    refine z_icmp_ge (tgt := 31) dX2_printLinesOfItem_4 (by decide) (fun hc1 => ?_) (fun hc1 => ?_)
    · replace h := o_ip hc1 h
      refine z_aload_n dX2_printLinesOfItem_31 0 rfl ?_
      refine zg_X2_tree fl_X2_18 dX2_printLinesOfItem_32 ?_
      refine z_iload_n dX2_printLinesOfItem_35 1 rfl ?_
      obtain ⟨x4, s2, e3, h⟩ := o_bdi h
      refine z_callVi (As := [.int _]) (e_X5_lastChild e3) (by omega) mi_X5_lastChild ml_X2_55 rfl rfl (Nat.le_of_ble_eq_true rfl) rv_2 dX2_printLinesOfItem_36 ?_
      refine z_istore_n (L' := [(3, .int _), (0, .ref _), (1, .int _), (2, .int _)]) dX2_printLinesOfItem_39 (by decide) rfl ?_
      refine z_aload_n dX2_printLinesOfItem_40 1 rfl ?_
      refine zg_X2_tree fl_X2_18 dX2_printLinesOfItem_41 ?_
      refine z_iload_n dX2_printLinesOfItem_44 0 rfl ?_
      refine z_iconst (v := 0) dX2_printLinesOfItem_45 (by decide) ?_
      obtain ⟨x7, s5, e6, h⟩ := o_bdi h
      refine z_callVi (As := [.int _, .int _]) (e_X5_is e6) (by omega) mi_X5_is ml_X2_58 rfl rfl (Nat.le_of_ble_eq_true rfl) rv_2 dX2_printLinesOfItem_46 ?_
      refine z_istore (L' := [(4, .int _), (3, .int _), (0, .ref _), (1, .int _), (2, .int _)]) dX2_printLinesOfItem_49 (by decide) rfl ?_
      refine z_aload_n dX2_printLinesOfItem_51 2 rfl ?_
      refine z_iload_n dX2_printLinesOfItem_52 3 rfl ?_
      refine z_iload dX2_printLinesOfItem_53 0 rfl ?_
      refine z_if_eq (tgt := 62) dX2_printLinesOfItem_55 (by decide) (fun hc8 => ?_) (fun hc8 => ?_)
      · replace h := o_ip hc8 h
        refine z_aload_n dX2_printLinesOfItem_62 2 rfl ?_
        refine zg_X2_tree fl_X2_18 dX2_printLinesOfItem_63 ?_
        refine z_iload_n dX2_printLinesOfItem_66 3 rfl ?_
        obtain ⟨x11, s9, e10, h⟩ := o_bdi h
        refine z_callVi (As := [.int _]) (e_X5_after e10) (by omega) mi_X5_after ml_X2_41 rfl rfl (Nat.le_of_ble_eq_true rfl) rv_2 dX2_printLinesOfItem_67 ?_
        exact o_Z.sub [2, 4, 1, 0] rfl (s_X2_printLinesOfItem_b70 hrec h)
      · replace h := o_in hc8 h
        refine z_iload_n dX2_printLinesOfItem_58 1 rfl ?_
        refine z_goto (tgt := 70) dX2_printLinesOfItem_59 (by decide) ?_
        exact o_Z.sub [2, 4, 1, 0] rfl (s_X2_printLinesOfItem_b70 hrec h)
    · replace h := o_in hc1 h
      refine z_aload_n dX2_printLinesOfItem_7 0 rfl ?_
      refine zg_X2_out fl_X2_12 dX2_printLinesOfItem_8 ?_
      refine z_bipush (v := 32) dX2_printLinesOfItem_11 (by decide) ?_
      obtain ⟨s22, e23, h⟩ := o_bdv h
      refine z_callVv (As := [.int _]) (e_row_push (r := 8) (kd := 5) (by decide) (by decide) e23) (by omega) rm_push ml_X2_48 rfl rfl (Nat.le_of_ble_eq_true rfl) (rv_row (r := 8) (by decide)) dX2_printLinesOfItem_13 ?_
      refine z_aload_n dX2_printLinesOfItem_16 0 rfl ?_
      refine zg_X2_out fl_X2_12 dX2_printLinesOfItem_17 ?_
      refine z_bipush (v := 32) dX2_printLinesOfItem_20 (by decide) ?_
      obtain ⟨s24, e25, h⟩ := o_bdv h
      refine z_callVv (As := [.int _]) (e_row_push (r := 8) (kd := 5) (by decide) (by decide) e25) (by omega) rm_push ml_X2_48 rfl rfl (Nat.le_of_ble_eq_true rfl) (rv_row (r := 8) (by decide)) dX2_printLinesOfItem_22 ?_
      refine z_iinc (v := _ + 1) (L' := [(3, .int _), (0, .ref _), (1, .int _), (2, .int _)]) dX2_printLinesOfItem_25 3 rfl rfl (by decide) rfl ?_
      refine z_goto (tgt := 2) dX2_printLinesOfItem_28 (by decide) ?_
      exact o_Z.sub [1, 2, 3, 0] rfl (ih _ _ _ _ h)
set_option maxRecDepth 10000 in
theorem s_X2_printLinesOfItem {G : o_G} {N : Nat} {d : Nat} {rec : Nat → Int32 → Int32 → Int32 → o_S → Option o_S} {σ' : o_S} {p1 : Int32} {p2 : Int32} (hrec : (∀ (a b : Int32) (s s1 : o_S), rec 0 a b 0 s = some s1 → o_Ev G yX2_printLines cX2_printLines 6 (none) (209 + d) [.ref (g_ad G 5), .int a, .int b] s none s1) ∧ (∀ (a b : Int32) (s s1 : o_S), rec 1 a b 0 s = some s1 → o_Ev G yX2_printLinesOfItem cX2_printLinesOfItem 5 (none) (209 + d) [.ref (g_ad G 5), .int a, .int b] s none s1)) {s : o_S} (h : f_X2_printLinesOfItem N rec p1 p2 s = some σ') : o_Z G RX2 cX2_printLinesOfItem (Option.none : Option Jvm.ClassFile.FieldType) 5 (210 + d) (o_E G (none) σ') (o_k σ') s 0 [(0, .ref (g_ad G 5)), (1, .int p1), (2, .int p2)] [] := by
  unfold f_X2_printLinesOfItem at h
  refine z_iconst (v := 0) dX2_printLinesOfItem_0 (by decide) ?_
  refine z_istore_n (L' := [(3, .int _), (0, .ref _), (1, .int _), (2, .int _)]) dX2_printLinesOfItem_1 (by decide) rfl ?_
  exact o_Z.sub [1, 2, 3, 0] rfl (s_X2_printLinesOfItem_L2 hrec _ _ _ _ _ h)
theorem r_gQ {G : o_G} {N : Nat} : ∀ d : Nat, (∀ (a b : Int32) (s s1 : o_S), f_gQ N d 0 a b 0 s = some s1 → o_Ev G yX2_printLines cX2_printLines 6 (Option.none : Option Jvm.ClassFile.FieldType) (209 + d) [.ref (g_ad G 5), .int a, .int b] s none s1) ∧ (∀ (a b : Int32) (s s1 : o_S), f_gQ N d 1 a b 0 s = some s1 → o_Ev G yX2_printLinesOfItem cX2_printLinesOfItem 5 (Option.none : Option Jvm.ClassFile.FieldType) (209 + d) [.ref (g_ad G 5), .int a, .int b] s none s1) := by
  intro d
  induction d with
  | zero => exact ⟨fun a b s s1 h => (by cases h), fun a b s s1 h => (by cases h)⟩
  | succ d ih =>
    have e : 209 + (d + 1) = 210 + d := by omega
    rw [e]
    exact ⟨fun a b s s1 h => o_Ev.mk rfl (Nat.le_of_ble_eq_true rfl) (s_X2_printLines ih (by rw [f_gQ] at h; exact h)), fun a b s s1 h => o_Ev.mk rfl (Nat.le_of_ble_eq_true rfl) (s_X2_printLinesOfItem ih (by rw [f_gQ] at h; exact h))⟩
theorem e_X2_printLines {G : o_G} {N : Nat} {a : Int32} {b : Int32} {s s1 : o_S} (h : f_gQ N 200 0 a b 0 s = some s1) : o_Ev G yX2_printLines cX2_printLines 6 (Option.none : Option Jvm.ClassFile.FieldType) 409 [.ref (g_ad G 5), .int a, .int b] s none s1 := (r_gQ 200).1 _ _ _ _ h
theorem e_X2_printLinesOfItem {G : o_G} {N : Nat} {a : Int32} {b : Int32} {s s1 : o_S} (h : f_gQ N 200 1 a b 0 s = some s1) : o_Ev G yX2_printLinesOfItem cX2_printLinesOfItem 5 (Option.none : Option Jvm.ClassFile.FieldType) 409 [.ref (g_ad G 5), .int a, .int b] s none s1 := (r_gQ 200).2 _ _ _ _ h
-- X3_startAgain
set_option maxRecDepth 10000 in
theorem s_X3_startAgain {G : o_G} {N : Nat} {σ' : o_S} {s : o_S} (h : f_X3_startAgain N  s = some σ') : o_Z G RX3 cX3_startAgain (Option.none : Option Jvm.ClassFile.FieldType) 1 1 (o_E G (none) σ') (o_k σ') s 0 [(0, .ref (g_ad G 1))] [] := by
  unfold f_X3_startAgain at h
  refine z_aload_n dX3_startAgain_0 0 rfl ?_
  refine zg_X3_cells fl_X3_10 dX3_startAgain_1 ?_
  refine z_iconst (v := 0) dX3_startAgain_4 (by decide) ?_
  replace h := o_dd h
  refine z_callVv (As := [.int _]) (e_row_cut (r := 2) (kd := 0) (by decide) _) (by decide) rm_cut ml_X3_20 rfl rfl (Nat.le_of_ble_eq_true rfl) (rv_row (r := 2) (by decide)) dX3_startAgain_5 ?_
  refine z_aload_n dX3_startAgain_8 0 rfl ?_
  refine z_iconst (v := 0) dX3_startAgain_9 (by decide) ?_
  replace h := o_dd h
  refine zp_X3_count fl_X3_16 dX3_startAgain_10 ?_
  cases h
  exact z_vret rfl rfl rfl dX3_startAgain_13
theorem e_X3_startAgain {G : o_G} {N : Nat} {σ' : o_S} {s : o_S} (h : f_X3_startAgain N  s = some σ') : o_Ev G yX3_startAgain cX3_startAgain 1 (Option.none : Option Jvm.ClassFile.FieldType) 1 [.ref (g_ad G 1)] s (none) σ' := o_Ev.mk rfl (Nat.le_of_ble_eq_true rfl) (s_X3_startAgain h)
-- X3_size
set_option maxRecDepth 10000 in
theorem s_X3_size {G : o_G} {N : Nat} {r : Int32} {σ' : o_S} {s : o_S} (h : f_X3_size N  s = some (r, σ')) : o_Z G RX3 cX3_size (Option.some Jvm.ClassFile.FieldType.int) 1 0 (o_E G (some (.int r)) σ') (o_k σ') s 0 [(0, .ref (g_ad G 1))] [] := by
  unfold f_X3_size at h
  refine z_aload_n dX3_size_0 0 rfl ?_
  refine zg_X3_count fl_X3_16 dX3_size_1 ?_
  cases h
  exact z_iret rfl rfl rfl dX3_size_4
theorem e_X3_size {G : o_G} {N : Nat} {r : Int32} {σ' : o_S} {s : o_S} (h : f_X3_size N  s = some (r, σ')) : o_Ev G yX3_size cX3_size 1 (Option.some Jvm.ClassFile.FieldType.int) 0 [.ref (g_ad G 1)] s (some (.int r)) σ' := o_Ev.mk rfl (Nat.le_of_ble_eq_true rfl) (s_X3_size h)
-- X3_get
set_option maxRecDepth 10000 in
theorem s_X3_get {G : o_G} {N : Nat} {r : Int32} {σ' : o_S} {p1 : Int32} {p2 : Int32} {s : o_S} (h : f_X3_get N p1 p2 s = some (r, σ')) : o_Z G RX3 cX3_get (Option.some Jvm.ClassFile.FieldType.int) 3 1 (o_E G (some (.int r)) σ') (o_k σ') s 0 [(0, .ref (g_ad G 1)), (1, .int p1), (2, .int p2)] [] := by
  unfold f_X3_get at h
  refine z_aload_n dX3_get_0 0 rfl ?_
  refine zg_X3_cells fl_X3_10 dX3_get_1 ?_
  refine z_iload_n dX3_get_4 1 rfl ?_
  refine z_iconst (v := 3) dX3_get_5 (by decide) ?_
  refine z_imul dX3_get_6 ?_
  refine z_iload_n dX3_get_7 2 rfl ?_
  refine z_iadd dX3_get_8 ?_
  replace h := o_dd h
  refine z_callVi (As := [.int _]) (e_row_at (r := 2) (kd := 0) (by decide) _) (by decide) rm_at ml_X3_24 rfl rfl (Nat.le_of_ble_eq_true rfl) (rv_row (r := 2) (by decide)) dX3_get_9 ?_
  cases h
  exact z_iret rfl rfl rfl dX3_get_12
theorem e_X3_get {G : o_G} {N : Nat} {r : Int32} {σ' : o_S} {p1 : Int32} {p2 : Int32} {s : o_S} (h : f_X3_get N p1 p2 s = some (r, σ')) : o_Ev G yX3_get cX3_get 3 (Option.some Jvm.ClassFile.FieldType.int) 1 [.ref (g_ad G 1), .int p1, .int p2] s (some (.int r)) σ' := o_Ev.mk rfl (Nat.le_of_ble_eq_true rfl) (s_X3_get h)
-- X5_startAgain
set_option maxRecDepth 10000 in
theorem s_X5_startAgain {G : o_G} {N : Nat} {σ' : o_S} {s : o_S} (h : f_X5_startAgain N  s = some σ') : o_Z G RX5 cX5_startAgain (Option.none : Option Jvm.ClassFile.FieldType) 1 7 (o_E G (none) σ') (o_k σ') s 0 [(0, .ref (g_ad G 2))] [] := by
  unfold f_X5_startAgain at h
  refine z_aload_n dX5_startAgain_0 0 rfl ?_
  refine zg_X5_cells fl_X5_12 dX5_startAgain_1 ?_
  refine z_iconst (v := 0) dX5_startAgain_4 (by decide) ?_
  replace h := o_dd h
  refine z_callVv (As := [.int _]) (e_row_cut (r := 3) (kd := 0) (by decide) _) (by decide) rm_cut ml_X5_25 rfl rfl (Nat.le_of_ble_eq_true rfl) (rv_row (r := 3) (by decide)) dX5_startAgain_5 ?_
  refine z_aload_n dX5_startAgain_8 0 rfl ?_
  refine zg_X5_letters fl_X5_18 dX5_startAgain_9 ?_
  refine z_iconst (v := 0) dX5_startAgain_12 (by decide) ?_
  replace h := o_dd h
  refine z_callVv (As := [.int _]) (e_row_cut (r := 4) (kd := 0) (by decide) _) (by decide) rm_cut ml_X5_25 rfl rfl (Nat.le_of_ble_eq_true rfl) (rv_row (r := 4) (by decide)) dX5_startAgain_13 ?_
  refine z_aload_n dX5_startAgain_16 0 rfl ?_
  refine z_iconst (v := 0) dX5_startAgain_17 (by decide) ?_
  replace h := o_dd h
  refine zp_X5_count fl_X5_21 dX5_startAgain_18 ?_
  refine z_aload_n dX5_startAgain_21 0 rfl ?_
  refine z_iconst (v := (-1)) dX5_startAgain_22 (by decide) ?_
  refine z_iconst (v := 0) dX5_startAgain_23 (by decide) ?_
  refine z_iconst (v := 0) dX5_startAgain_24 (by decide) ?_
  refine z_iconst (v := 0) dX5_startAgain_25 (by decide) ?_
  refine z_iconst (v := 0) dX5_startAgain_26 (by decide) ?_
  obtain ⟨x6, s4, e5, h⟩ := o_bdi h
  refine z_callVi (As := [.int _, .int _, .int _, .int _, .int _]) (e_X5_add e5) (by decide) mi_X5_add ml_X5_29 rfl rfl (Nat.le_of_ble_eq_true rfl) rv_2 dX5_startAgain_27 ?_
  refine z_pop dX5_startAgain_30 rfl ?_
  cases h
  exact z_vret rfl rfl rfl dX5_startAgain_31
theorem e_X5_startAgain {G : o_G} {N : Nat} {σ' : o_S} {s : o_S} (h : f_X5_startAgain N  s = some σ') : o_Ev G yX5_startAgain cX5_startAgain 1 (Option.none : Option Jvm.ClassFile.FieldType) 7 [.ref (g_ad G 2)] s (none) σ' := o_Ev.mk rfl (Nat.le_of_ble_eq_true rfl) (s_X5_startAgain h)
-- X5_respell
set_option maxRecDepth 10000 in
theorem s_X5_respell_L11 {G : o_G} {N : Nat} {σ' : o_S} : ∀ (n : Nat) (l1 : Int32) (l3 : Int32) (l4 : Int32) (s : o_S), f_X5_respell_L11 N n l1 l3 l4 s = some σ' → o_Z G RX5 cX5_respell (Option.none : Option Jvm.ClassFile.FieldType) 5 2 (o_E G (none) σ') (o_k σ') s 11 [(0, .ref (g_ad G 2)), (1, .int l1), (2, .ref (g_ad G 8)), (3, .int l3), (4, .int l4)] [] := by
  intro n
  induction n with
  | zero => intro l1 l3 l4 s h; cases h
  | succ n ih =>
    intro l1 l3 l4 s h
    rw [f_X5_respell_L11] at h
    refine z_iload dX5_respell_11 4 rfl ?_
    refine z_aload_n dX5_respell_13 2 rfl ?_
    refine z_callVi (As := []) (e_row_size (r := 1) (kd := 0) (by decide)) (by decide) rm_size ml_X5_52 rfl rfl (Nat.le_of_ble_eq_true rfl) (rv_row (r := 1) (by decide)) dX5_respell_14 ?_
    refine z_icmp_ge (tgt := 43) dX5_respell_17 (by decide) (fun hc4 => ?_) (fun hc4 => ?_)
    · replace h := o_ip hc4 h
      refine z_aload_n dX5_respell_43 0 rfl ?_
      refine z_iload_n dX5_respell_44 1 rfl ?_
      refine z_iconst (v := 5) dX5_respell_45 (by decide) ?_
      refine z_aload_n dX5_respell_46 2 rfl ?_
      refine z_callVi (As := []) (e_row_size (r := 1) (kd := 0) (by decide)) (by decide) rm_size ml_X5_52 rfl rfl (Nat.le_of_ble_eq_true rfl) (rv_row (r := 1) (by decide)) dX5_respell_47 ?_
      obtain ⟨s5, e6, h⟩ := o_bdv h
      refine z_callVv (As := [.int _, .int _, .int _]) (e_X5_set e6) (by decide) mi_X5_set ml_X5_56 rfl rfl (Nat.le_of_ble_eq_true rfl) rv_2 dX5_respell_50 ?_
      cases h
      exact z_vret rfl rfl rfl dX5_respell_53
    · replace h := o_in hc4 h
      refine z_aload_n dX5_respell_20 0 rfl ?_
      refine zg_X5_letters fl_X5_18 dX5_respell_21 ?_
      refine z_iload_n dX5_respell_24 3 rfl ?_
      refine z_iload dX5_respell_25 4 rfl ?_
      refine z_iadd dX5_respell_27 ?_
      refine z_aload_n dX5_respell_28 2 rfl ?_
      refine z_iload dX5_respell_29 4 rfl ?_
      replace h := o_dd h
      refine z_callVi (As := [.int _]) (e_row_at (r := 1) (kd := 0) (by decide) _) (by decide) rm_at ml_X5_33 rfl rfl (Nat.le_of_ble_eq_true rfl) (rv_row (r := 1) (by decide)) dX5_respell_31 ?_
      replace h := o_dd h
      refine z_callVv (As := [.int _, .int _]) (e_row_put (r := 4) (kd := 0) (by decide) _ _) (by decide) rm_put ml_X5_37 rfl rfl (Nat.le_of_ble_eq_true rfl) (rv_row (r := 4) (by decide)) dX5_respell_34 ?_
      refine z_iinc (v := _ + 1) (L' := [(4, .int _), (0, .ref _), (1, .int _), (2, .ref _), (3, .int _)]) dX5_respell_37 4 rfl rfl (by decide) rfl ?_
      refine z_goto (tgt := 11) dX5_respell_40 (by decide) ?_
      exact o_Z.sub [1, 2, 3, 4, 0] rfl (ih _ _ _ _ h)
set_option maxRecDepth 10000 in
theorem s_X5_respell {G : o_G} {N : Nat} {σ' : o_S} {p1 : Int32} {s : o_S} (h : f_X5_respell N p1 s = some σ') : o_Z G RX5 cX5_respell (Option.none : Option Jvm.ClassFile.FieldType) 5 2 (o_E G (none) σ') (o_k σ') s 0 [(0, .ref (g_ad G 2)), (1, .int p1), (2, .ref (g_ad G 8))] [] := by
  unfold f_X5_respell at h
  refine z_aload_n dX5_respell_0 0 rfl ?_
  refine z_iload_n dX5_respell_1 1 rfl ?_
  refine z_bipush (v := 6) dX5_respell_2 (by decide) ?_
  obtain ⟨x3, s1, e2, h⟩ := o_bdi h
  refine z_callVi (As := [.int _, .int _]) (e_X5_get e2) (by decide) mi_X5_get ml_X5_44 rfl rfl (Nat.le_of_ble_eq_true rfl) rv_2 dX5_respell_4 ?_
  refine z_istore_n (L' := [(3, .int _), (0, .ref _), (1, .int _), (2, .ref _)]) dX5_respell_7 (by decide) rfl ?_
  refine z_iconst (v := 0) dX5_respell_8 (by decide) ?_
  refine z_istore (L' := [(4, .int _), (3, .int _), (0, .ref _), (1, .int _), (2, .ref _)]) dX5_respell_9 (by decide) rfl ?_
  exact o_Z.sub [2, 3, 4, 1, 0] rfl (s_X5_respell_L11 _ _ _ _ _ h)
theorem e_X5_respell {G : o_G} {N : Nat} {σ' : o_S} {p1 : Int32} {s : o_S} (h : f_X5_respell N p1 s = some σ') : o_Ev G yX5_respell cX5_respell 5 (Option.none : Option Jvm.ClassFile.FieldType) 2 [.ref (g_ad G 2), .int p1, .ref (g_ad G 8)] s (none) σ' := o_Ev.mk rfl (Nat.le_of_ble_eq_true rfl) (s_X5_respell h)
-- X5_holder
set_option maxRecDepth 10000 in
theorem s_X5_holder_L11 {G : o_G} {N : Nat} {r : Int32} {σ' : o_S} : ∀ (n : Nat) (l2 : Int32) (l3 : Int32) (s : o_S), f_X5_holder_L11 N n l2 l3 s = some (r, σ') → o_Z G RX5 cX5_holder (Option.some Jvm.ClassFile.FieldType.int) 4 2 (o_E G (some (.int r)) σ') (o_k σ') s 11 [(0, .ref (g_ad G 2)), (2, .int l2), (3, .int l3)] [] := by
  intro n
  induction n with
  | zero => intro l2 l3 s h; cases h
  | succ n ih =>
    intro l2 l3 s h
    rw [f_X5_holder_L11] at h
    refine z_iload_n dX5_holder_11 2 rfl ?_
    refine z_if_lt (tgt := 33) dX5_holder_12 (by decide) (fun hc4 => ?_) (fun hc4 => ?_)
    · replace h := o_ip hc4 h
      refine z_iconst (v := (-1)) dX5_holder_33 (by decide) ?_
      cases h
      exact z_iret rfl rfl rfl dX5_holder_34
    · replace h := o_in hc4 h
      refine z_aload_n dX5_holder_15 0 rfl ?_
      refine z_iload_n dX5_holder_16 2 rfl ?_
      refine z_iconst (v := 1) dX5_holder_17 (by decide) ?_
      obtain ⟨x7, s5, e6, h⟩ := o_bdi h
      refine z_callVi (As := [.int _, .int _]) (e_X5_get e6) (by decide) mi_X5_get ml_X5_44 rfl rfl (Nat.le_of_ble_eq_true rfl) rv_2 dX5_holder_18 ?_
      refine z_iload_n dX5_holder_21 1 rfl ?_
      refine z_icmp_ge (tgt := 27) dX5_holder_22 (by decide) (fun hc8 => ?_) (fun hc8 => ?_)
      · replace h := o_ip hc8 h
        refine z_iinc (v := _ + (-1)) (L' := [(3, .int _), (0, .ref _), (2, .int _)]) dX5_holder_27 2 rfl rfl (by decide) rfl ?_
        refine z_goto (tgt := 11) dX5_holder_30 (by decide) ?_
        exact o_Z.sub [1, 2, 0] rfl (ih _ _ _ h)
      · replace h := o_in hc8 h
        refine z_iload_n dX5_holder_25 2 rfl ?_
        cases h
        exact z_iret rfl rfl rfl dX5_holder_26
set_option maxRecDepth 10000 in
theorem s_X5_holder {G : o_G} {N : Nat} {r : Int32} {σ' : o_S} {p1 : Int32} {s : o_S} (h : f_X5_holder N p1 s = some (r, σ')) : o_Z G RX5 cX5_holder (Option.some Jvm.ClassFile.FieldType.int) 4 2 (o_E G (some (.int r)) σ') (o_k σ') s 0 [(0, .ref (g_ad G 2)), (1, .int p1)] [] := by
  unfold f_X5_holder at h
  refine z_aload_n dX5_holder_0 0 rfl ?_
  refine z_iload_n dX5_holder_1 1 rfl ?_
  refine z_iconst (v := 1) dX5_holder_2 (by decide) ?_
  obtain ⟨x3, s1, e2, h⟩ := o_bdi h
  refine z_callVi (As := [.int _, .int _]) (e_X5_get e2) (by decide) mi_X5_get ml_X5_44 rfl rfl (Nat.le_of_ble_eq_true rfl) rv_2 dX5_holder_3 ?_
  refine z_istore_n (L' := [(2, .int _), (0, .ref _), (1, .int _)]) dX5_holder_6 (by decide) rfl ?_
  refine z_iload_n dX5_holder_7 2 rfl ?_
  refine z_iconst (v := 1) dX5_holder_8 (by decide) ?_
  refine z_isub dX5_holder_9 ?_
  refine z_istore_n (L' := [(3, .int _), (2, .int _), (0, .ref _), (1, .int _)]) dX5_holder_10 (by decide) rfl ?_
  exact o_Z.sub [2, 1, 0] rfl (s_X5_holder_L11 _ _ _ _ h)
theorem e_X5_holder {G : o_G} {N : Nat} {r : Int32} {σ' : o_S} {p1 : Int32} {s : o_S} (h : f_X5_holder N p1 s = some (r, σ')) : o_Ev G yX5_holder cX5_holder 4 (Option.some Jvm.ClassFile.FieldType.int) 2 [.ref (g_ad G 2), .int p1] s (some (.int r)) σ' := o_Ev.mk rfl (Nat.le_of_ble_eq_true rfl) (s_X5_holder h)
-- X5_countChildren
set_option maxRecDepth 10000 in
theorem s_X5_countChildren_L23 {G : o_G} {N : Nat} {r : Int32} {σ' : o_S} : ∀ (n : Nat) (l2 : Int32) (l3 : Int32) (l4 : Int32) (l5 : Int32) (s : o_S), f_X5_countChildren_L23 N n l2 l3 l4 l5 s = some (r, σ') → o_Z G RX5 cX5_countChildren (Option.some Jvm.ClassFile.FieldType.int) 6 2 (o_E G (some (.int r)) σ') (o_k σ') s 23 [(0, .ref (g_ad G 2)), (2, .int l2), (3, .int l3), (4, .int l4), (5, .int l5)] [] := by
  intro n
  induction n with
  | zero => intro l2 l3 l4 l5 s h; cases h
  | succ n ih =>
    intro l2 l3 l4 l5 s h
    rw [f_X5_countChildren_L23] at h
    refine z_iload dX5_countChildren_23 4 rfl ?_
    refine z_iload_n dX5_countChildren_25 1 rfl ?_
    refine z_icmp_ge (tgt := 49) dX5_countChildren_26 (by decide) (fun hc7 => ?_) (fun hc7 => ?_)
    · replace h := o_ip hc7 h
      refine z_iload dX5_countChildren_49 3 rfl ?_
      cases h
      exact z_iret rfl rfl rfl dX5_countChildren_51
    · replace h := o_in hc7 h
      refine z_aload_n dX5_countChildren_29 0 rfl ?_
      refine z_iload dX5_countChildren_30 4 rfl ?_
      refine z_iconst (v := 1) dX5_countChildren_32 (by decide) ?_
      obtain ⟨x10, s8, e9, h⟩ := o_bdi h
      refine z_callVi (As := [.int _, .int _]) (e_X5_get e9) (by decide) mi_X5_get ml_X5_44 rfl rfl (Nat.le_of_ble_eq_true rfl) rv_2 dX5_countChildren_33 ?_
      refine z_iload_n dX5_countChildren_36 2 rfl ?_
      refine z_icmp_ne (tgt := 43) dX5_countChildren_37 (by decide) (fun hc11 => ?_) (fun hc11 => ?_)
      · replace h := o_in hc11 h
        refine z_iinc (v := _ + 1) (L' := [(5, .int _), (0, .ref _), (2, .int _), (3, .int _), (4, .int _)]) dX5_countChildren_43 4 rfl rfl (by decide) rfl ?_
        refine z_goto (tgt := 23) dX5_countChildren_46 (by decide) ?_
        exact o_Z.sub [1, 2, 3, 4, 0] rfl (ih _ _ _ _ _ h)
      · replace h := o_ip hc11 h
        refine z_iinc (v := _ + 1) (L' := [(4, .int _), (0, .ref _), (2, .int _), (3, .int _), (5, .int _)]) dX5_countChildren_40 3 rfl rfl (by decide) rfl ?_
        refine z_iinc (v := _ + 1) (L' := [(5, .int _), (4, .int _), (0, .ref _), (2, .int _), (3, .int _)]) dX5_countChildren_43 4 rfl rfl (by decide) rfl ?_
        refine z_goto (tgt := 23) dX5_countChildren_46 (by decide) ?_
        exact o_Z.sub [2, 3, 4, 1, 0] rfl (ih _ _ _ _ _ h)
set_option maxRecDepth 10000 in
theorem s_X5_countChildren {G : o_G} {N : Nat} {r : Int32} {σ' : o_S} {p1 : Int32} {s : o_S} (h : f_X5_countChildren N p1 s = some (r, σ')) : o_Z G RX5 cX5_countChildren (Option.some Jvm.ClassFile.FieldType.int) 6 2 (o_E G (some (.int r)) σ') (o_k σ') s 0 [(0, .ref (g_ad G 2)), (1, .int p1)] [] := by
  unfold f_X5_countChildren at h
  refine z_aload_n dX5_countChildren_0 0 rfl ?_
  refine z_iload_n dX5_countChildren_1 1 rfl ?_
  obtain ⟨x3, s1, e2, h⟩ := o_bdi h
  refine z_callVi (As := [.int _]) (e_X5_after e2) (by decide) mi_X5_after ml_X5_60 rfl rfl (Nat.le_of_ble_eq_true rfl) rv_2 dX5_countChildren_2 ?_
  refine z_istore_n (L' := [(2, .int _), (0, .ref _), (1, .int _)]) dX5_countChildren_5 (by decide) rfl ?_
  refine z_aload_n dX5_countChildren_6 1 rfl ?_
  refine z_iload_n dX5_countChildren_7 2 rfl ?_
  refine z_iconst (v := 1) dX5_countChildren_8 (by decide) ?_
  obtain ⟨x6, s4, e5, h⟩ := o_bdi h
  refine z_callVi (As := [.int _, .int _]) (e_X5_get e5) (by decide) mi_X5_get ml_X5_44 rfl rfl (Nat.le_of_ble_eq_true rfl) rv_2 dX5_countChildren_9 ?_
  refine z_iconst (v := 1) dX5_countChildren_12 (by decide) ?_
  refine z_iadd dX5_countChildren_13 ?_
  refine z_istore_n (L' := [(3, .int _), (2, .int _), (0, .ref _), (1, .int _)]) dX5_countChildren_14 (by decide) rfl ?_
  refine z_iconst (v := 0) dX5_countChildren_15 (by decide) ?_
  refine z_istore (L' := [(4, .int _), (3, .int _), (2, .int _), (0, .ref _), (1, .int _)]) dX5_countChildren_16 (by decide) rfl ?_
  refine z_iload_n dX5_countChildren_18 4 rfl ?_
  refine z_iconst (v := 1) dX5_countChildren_19 (by decide) ?_
  refine z_iadd dX5_countChildren_20 ?_
  refine z_istore (L' := [(5, .int _), (4, .int _), (3, .int _), (2, .int _), (0, .ref _), (1, .int _)]) dX5_countChildren_21 (by decide) rfl ?_
  exact o_Z.sub [4, 3, 2, 1, 0] rfl (s_X5_countChildren_L23 _ _ _ _ _ _ h)
theorem e_X5_countChildren {G : o_G} {N : Nat} {r : Int32} {σ' : o_S} {p1 : Int32} {s : o_S} (h : f_X5_countChildren N p1 s = some (r, σ')) : o_Ev G yX5_countChildren cX5_countChildren 6 (Option.some Jvm.ClassFile.FieldType.int) 2 [.ref (g_ad G 2), .int p1] s (some (.int r)) σ' := o_Ev.mk rfl (Nat.le_of_ble_eq_true rfl) (s_X5_countChildren h)
-- X5_nthChild
set_option maxRecDepth 10000 in
theorem s_X5_nthChild_L24 {G : o_G} {N : Nat} {r : Int32} {σ' : o_S} : ∀ (n : Nat) (l2 : Int32) (l3 : Int32) (l4 : Int32) (l5 : Int32) (l6 : Int32) (s : o_S), f_X5_nthChild_L24 N n l2 l3 l4 l5 l6 s = some (r, σ') → o_Z G RX5 cX5_nthChild (Option.some Jvm.ClassFile.FieldType.int) 7 2 (o_E G (some (.int r)) σ') (o_k σ') s 24 [(0, .ref (g_ad G 2)), (2, .int l2), (3, .int l3), (4, .int l4), (5, .int l5), (6, .int l6)] [] := by
  intro n
  induction n with
  | zero => intro l2 l3 l4 l5 l6 s h; cases h
  | succ n ih =>
    intro l2 l3 l4 l5 l6 s h
    rw [f_X5_nthChild_L24] at h
    refine z_iload dX5_nthChild_24 5 rfl ?_
    refine z_iload_n dX5_nthChild_26 2 rfl ?_
    refine z_icmp_ge (tgt := 60) dX5_nthChild_27 (by decide) (fun hc7 => ?_) (fun hc7 => ?_)
    · replace h := o_ip hc7 h
      refine z_iconst (v := (-1)) dX5_nthChild_60 (by decide) ?_
      cases h
      exact z_iret rfl rfl rfl dX5_nthChild_61
    · replace h := o_in hc7 h
      refine z_aload_n dX5_nthChild_30 0 rfl ?_
      refine z_iload dX5_nthChild_31 5 rfl ?_
      refine z_iconst (v := 1) dX5_nthChild_33 (by decide) ?_
      obtain ⟨x10, s8, e9, h⟩ := o_bdi h
      refine z_callVi (As := [.int _, .int _]) (e_X5_get e9) (by decide) mi_X5_get ml_X5_44 rfl rfl (Nat.le_of_ble_eq_true rfl) rv_2 dX5_nthChild_34 ?_
      refine z_iload dX5_nthChild_37 3 rfl ?_
      refine z_icmp_ne (tgt := 54) dX5_nthChild_39 (by decide) (fun hc11 => ?_) (fun hc11 => ?_)
      · replace h := o_in hc11 h
        refine z_iinc (v := _ + 1) (L' := [(6, .int _), (0, .ref _), (2, .int _), (3, .int _), (4, .int _), (5, .int _)]) dX5_nthChild_54 5 rfl rfl (by decide) rfl ?_
        refine z_goto (tgt := 24) dX5_nthChild_57 (by decide) ?_
        exact o_Z.sub [1, 2, 3, 4, 5, 0] rfl (ih _ _ _ _ _ _ h)
      · replace h := o_ip hc11 h
        refine z_iload dX5_nthChild_42 4 rfl ?_
        refine z_iload_n dX5_nthChild_44 1 rfl ?_
        refine z_icmp_ne (tgt := 51) dX5_nthChild_45 (by decide) (fun hc12 => ?_) (fun hc12 => ?_)
        · replace h := o_in hc12 h
          refine z_iinc (v := _ + 1) (L' := [(5, .int _), (0, .ref _), (2, .int _), (3, .int _), (4, .int _), (6, .int _)]) dX5_nthChild_51 4 rfl rfl (by decide) rfl ?_
          refine z_iinc (v := _ + 1) (L' := [(6, .int _), (5, .int _), (0, .ref _), (2, .int _), (3, .int _), (4, .int _)]) dX5_nthChild_54 5 rfl rfl (by decide) rfl ?_
          refine z_goto (tgt := 24) dX5_nthChild_57 (by decide) ?_
          exact o_Z.sub [2, 3, 4, 5, 1, 0] rfl (ih _ _ _ _ _ _ h)
        · replace h := o_ip hc12 h
          refine z_iload dX5_nthChild_48 5 rfl ?_
          cases h
          exact z_iret rfl rfl rfl dX5_nthChild_50
set_option maxRecDepth 10000 in
theorem s_X5_nthChild {G : o_G} {N : Nat} {r : Int32} {σ' : o_S} {p1 : Int32} {p2 : Int32} {s : o_S} (h : f_X5_nthChild N p1 p2 s = some (r, σ')) : o_Z G RX5 cX5_nthChild (Option.some Jvm.ClassFile.FieldType.int) 7 2 (o_E G (some (.int r)) σ') (o_k σ') s 0 [(0, .ref (g_ad G 2)), (1, .int p1), (2, .int p2)] [] := by
  unfold f_X5_nthChild at h
  refine z_aload_n dX5_nthChild_0 0 rfl ?_
  refine z_iload_n dX5_nthChild_1 1 rfl ?_
  obtain ⟨x3, s1, e2, h⟩ := o_bdi h
  refine z_callVi (As := [.int _]) (e_X5_after e2) (by decide) mi_X5_after ml_X5_60 rfl rfl (Nat.le_of_ble_eq_true rfl) rv_2 dX5_nthChild_2 ?_
  refine z_istore_n (L' := [(3, .int _), (0, .ref _), (1, .int _), (2, .int _)]) dX5_nthChild_5 (by decide) rfl ?_
  refine z_aload_n dX5_nthChild_6 1 rfl ?_
  refine z_iload_n dX5_nthChild_7 2 rfl ?_
  refine z_iconst (v := 1) dX5_nthChild_8 (by decide) ?_
  obtain ⟨x6, s4, e5, h⟩ := o_bdi h
  refine z_callVi (As := [.int _, .int _]) (e_X5_get e5) (by decide) mi_X5_get ml_X5_44 rfl rfl (Nat.le_of_ble_eq_true rfl) rv_2 dX5_nthChild_9 ?_
  refine z_iconst (v := 1) dX5_nthChild_12 (by decide) ?_
  refine z_iadd dX5_nthChild_13 ?_
  refine z_istore (L' := [(4, .int _), (3, .int _), (0, .ref _), (1, .int _), (2, .int _)]) dX5_nthChild_14 (by decide) rfl ?_
  refine z_iconst (v := 0) dX5_nthChild_16 (by decide) ?_
  refine z_istore (L' := [(5, .int _), (4, .int _), (3, .int _), (0, .ref _), (1, .int _), (2, .int _)]) dX5_nthChild_17 (by decide) rfl ?_
  refine z_iload_n dX5_nthChild_19 4 rfl ?_
  refine z_iconst (v := 1) dX5_nthChild_20 (by decide) ?_
  refine z_iadd dX5_nthChild_21 ?_
  refine z_istore (L' := [(6, .int _), (5, .int _), (4, .int _), (3, .int _), (0, .ref _), (1, .int _), (2, .int _)]) dX5_nthChild_22 (by decide) rfl ?_
  exact o_Z.sub [4, 6, 3, 2, 1, 0] rfl (s_X5_nthChild_L24 _ _ _ _ _ _ _ h)
theorem e_X5_nthChild {G : o_G} {N : Nat} {r : Int32} {σ' : o_S} {p1 : Int32} {p2 : Int32} {s : o_S} (h : f_X5_nthChild N p1 p2 s = some (r, σ')) : o_Ev G yX5_nthChild cX5_nthChild 7 (Option.some Jvm.ClassFile.FieldType.int) 2 [.ref (g_ad G 2), .int p1, .int p2] s (some (.int r)) σ' := o_Ev.mk rfl (Nat.le_of_ble_eq_true rfl) (s_X5_nthChild h)
-- X5_isSpelled
set_option maxRecDepth 10000 in
theorem s_X5_isSpelled_L17 {G : o_G} {N : Nat} {r : Int32} {σ' : o_S} : ∀ (n : Nat) (l1 : Int32) (l3 : Int32) (s : o_S), f_X5_isSpelled_L17 N n l1 l3 s = some (r, σ') → o_Z G RX5 cX5_isSpelled (Option.some Jvm.ClassFile.FieldType.boolean) 4 2 (o_E G (some (.int r)) σ') (o_k σ') s 17 [(0, .ref (g_ad G 2)), (1, .int l1), (2, .ref (g_ad G 8)), (3, .int l3)] [] := by
  intro n
  induction n with
  | zero => intro l1 l3 s h; cases h
  | succ n ih =>
    intro l1 l3 s h
    rw [f_X5_isSpelled_L17] at h
    refine z_iload_n dX5_isSpelled_17 3 rfl ?_
    refine z_aload_n dX5_isSpelled_18 2 rfl ?_
    refine z_callVi (As := []) (e_row_size (r := 1) (kd := 0) (by decide)) (by decide) rm_size ml_X5_52 rfl rfl (Nat.le_of_ble_eq_true rfl) (rv_row (r := 1) (by decide)) dX5_isSpelled_19 ?_
    refine z_icmp_ge (tgt := 47) dX5_isSpelled_22 (by decide) (fun hc5 => ?_) (fun hc5 => ?_)
    · replace h := o_ip hc5 h
      refine z_iconst (v := 1) dX5_isSpelled_47 (by decide) ?_
      cases h
      exact z_zret (by decide) rfl rfl rfl dX5_isSpelled_48
    · replace h := o_in hc5 h
      refine z_aload_n dX5_isSpelled_25 0 rfl ?_
      refine z_iload_n dX5_isSpelled_26 1 rfl ?_
      refine z_iload_n dX5_isSpelled_27 3 rfl ?_
      obtain ⟨x8, s6, e7, h⟩ := o_bdi h
      refine z_callVi (As := [.int _, .int _]) (e_X5_letterOf e7) (by decide) mi_X5_letterOf ml_X5_67 rfl rfl (Nat.le_of_ble_eq_true rfl) rv_2 dX5_isSpelled_28 ?_
      refine z_aload_n dX5_isSpelled_31 2 rfl ?_
      refine z_iload_n dX5_isSpelled_32 3 rfl ?_
      replace h := o_dd h
      refine z_callVi (As := [.int _]) (e_row_at (r := 1) (kd := 0) (by decide) _) (by decide) rm_at ml_X5_33 rfl rfl (Nat.le_of_ble_eq_true rfl) (rv_row (r := 1) (by decide)) dX5_isSpelled_33 ?_
      refine z_icmp_eq (tgt := 41) dX5_isSpelled_36 (by decide) (fun hc10 => ?_) (fun hc10 => ?_)
      · replace h := o_ip hc10 h
        refine z_iinc (v := _ + 1) (L' := [(3, .int _), (0, .ref _), (1, .int _), (2, .ref _)]) dX5_isSpelled_41 3 rfl rfl (by decide) rfl ?_
        refine z_goto (tgt := 17) dX5_isSpelled_44 (by decide) ?_
        exact o_Z.sub [1, 2, 3, 0] rfl (ih _ _ _ h)
      · replace h := o_in hc10 h
        refine z_iconst (v := 0) dX5_isSpelled_39 (by decide) ?_
        cases h
        exact z_zret (by decide) rfl rfl rfl dX5_isSpelled_40
set_option maxRecDepth 10000 in
theorem s_X5_isSpelled {G : o_G} {N : Nat} {r : Int32} {σ' : o_S} {p1 : Int32} {s : o_S} (h : f_X5_isSpelled N p1 s = some (r, σ')) : o_Z G RX5 cX5_isSpelled (Option.some Jvm.ClassFile.FieldType.boolean) 4 2 (o_E G (some (.int r)) σ') (o_k σ') s 0 [(0, .ref (g_ad G 2)), (1, .int p1), (2, .ref (g_ad G 8))] [] := by
  unfold f_X5_isSpelled at h
  refine z_aload_n dX5_isSpelled_0 0 rfl ?_
  refine z_iload_n dX5_isSpelled_1 1 rfl ?_
  refine z_iconst (v := 5) dX5_isSpelled_2 (by decide) ?_
  obtain ⟨x3, s1, e2, h⟩ := o_bdi h
  refine z_callVi (As := [.int _, .int _]) (e_X5_get e2) (by decide) mi_X5_get ml_X5_44 rfl rfl (Nat.le_of_ble_eq_true rfl) rv_2 dX5_isSpelled_3 ?_
  refine z_aload_n dX5_isSpelled_6 2 rfl ?_
  refine z_callVi (As := []) (e_row_size (r := 1) (kd := 0) (by decide)) (by decide) rm_size ml_X5_52 rfl rfl (Nat.le_of_ble_eq_true rfl) (rv_row (r := 1) (by decide)) dX5_isSpelled_7 ?_
  refine z_icmp_eq (tgt := 15) dX5_isSpelled_10 (by decide) (fun hc4 => ?_) (fun hc4 => ?_)
  · replace h := o_ip hc4 h
    refine z_iconst (v := 0) dX5_isSpelled_15 (by decide) ?_
    refine z_istore_n (L' := [(3, .int _), (0, .ref _), (1, .int _), (2, .ref _)]) dX5_isSpelled_16 (by decide) rfl ?_
    exact o_Z.sub [1, 2, 3, 0] rfl (s_X5_isSpelled_L17 _ _ _ _ h)
  · replace h := o_in hc4 h
    refine z_iconst (v := 0) dX5_isSpelled_13 (by decide) ?_
    cases h
    exact z_zret (by decide) rfl rfl rfl dX5_isSpelled_14
theorem e_X5_isSpelled {G : o_G} {N : Nat} {r : Int32} {σ' : o_S} {p1 : Int32} {s : o_S} (h : f_X5_isSpelled N p1 s = some (r, σ')) : o_Ev G yX5_isSpelled cX5_isSpelled 4 (Option.some Jvm.ClassFile.FieldType.boolean) 2 [.ref (g_ad G 2), .int p1, .ref (g_ad G 8)] s (some (.int r)) σ' := o_Ev.mk rfl (Nat.le_of_ble_eq_true rfl) (s_X5_isSpelled h)
-- X5_nthWord
set_option maxRecDepth 10000 in
theorem s_X5_nthWord_L5 {G : o_G} {N : Nat} {r : Int32} {σ' : o_S} : ∀ (n : Nat) (l2 : Int32) (l3 : Int32) (l4 : Int32) (s : o_S), f_X5_nthWord_L5 N n l2 l3 l4 s = some (r, σ') → o_Z G RX5 cX5_nthWord (Option.some Jvm.ClassFile.FieldType.int) 5 3 (o_E G (some (.int r)) σ') (o_k σ') s 5 [(0, .ref (g_ad G 2)), (1, .ref (g_ad G 8)), (2, .int l2), (3, .int l3), (4, .int l4)] [] := by
  intro n
  induction n with
  | zero => intro l2 l3 l4 s h; cases h
  | succ n ih =>
    intro l2 l3 l4 s h
    rw [f_X5_nthWord_L5] at h
    refine z_iload dX5_nthWord_5 4 rfl ?_
    refine z_aload_n dX5_nthWord_7 0 rfl ?_
    refine zg_X5_count fl_X5_21 dX5_nthWord_8 ?_
    refine z_icmp_ge (tgt := 51) dX5_nthWord_11 (by decide) (fun hc1 => ?_) (fun hc1 => ?_)
    · replace h := o_ip hc1 h
      refine z_iconst (v := (-1)) dX5_nthWord_51 (by decide) ?_
      cases h
      exact z_iret rfl rfl rfl dX5_nthWord_52
    · replace h := o_in hc1 h
      refine z_aload_n dX5_nthWord_14 0 rfl ?_
      refine z_iload dX5_nthWord_15 4 rfl ?_
      refine z_iconst (v := 2) dX5_nthWord_17 (by decide) ?_
      obtain ⟨x4, s2, e3, h⟩ := o_bdi h
      refine z_callVi (As := [.int _, .int _]) (e_X5_is e3) (by decide) mi_X5_is ml_X5_48 rfl rfl (Nat.le_of_ble_eq_true rfl) rv_2 dX5_nthWord_18 ?_
      refine z_if_eq (tgt := 45) dX5_nthWord_21 (by decide) (fun hc5 => ?_) (fun hc5 => ?_)
      · replace h := o_ip hc5 h
        refine z_iinc (v := _ + 1) (L' := [(4, .int _), (0, .ref _), (1, .ref _), (2, .int _), (3, .int _)]) dX5_nthWord_45 4 rfl rfl (by decide) rfl ?_
        refine z_goto (tgt := 5) dX5_nthWord_48 (by decide) ?_
        exact o_Z.sub [1, 2, 3, 4, 0] rfl (ih _ _ _ _ h)
      · replace h := o_in hc5 h
        refine z_aload_n dX5_nthWord_24 0 rfl ?_
        refine z_iload dX5_nthWord_25 4 rfl ?_
        refine z_aload_n dX5_nthWord_27 1 rfl ?_
        obtain ⟨x8, s6, e7, h⟩ := o_bdi h
        refine z_callVi (As := [.int _, .ref _]) (e_X5_isSpelled e7) (by decide) mi_X5_isSpelled ml_X5_63 rfl rfl (Nat.le_of_ble_eq_true rfl) rv_2 dX5_nthWord_28 ?_
        refine z_if_eq (tgt := 45) dX5_nthWord_31 (by decide) (fun hc9 => ?_) (fun hc9 => ?_)
        · replace h := o_ip hc9 h
          refine z_iinc (v := _ + 1) (L' := [(4, .int _), (0, .ref _), (1, .ref _), (2, .int _), (3, .int _)]) dX5_nthWord_45 4 rfl rfl (by decide) rfl ?_
          refine z_goto (tgt := 5) dX5_nthWord_48 (by decide) ?_
          exact o_Z.sub [1, 2, 3, 4, 0] rfl (ih _ _ _ _ h)
        · replace h := o_in hc9 h
          refine z_iload_n dX5_nthWord_34 3 rfl ?_
          refine z_iload_n dX5_nthWord_35 2 rfl ?_
          refine z_icmp_ne (tgt := 42) dX5_nthWord_36 (by decide) (fun hc10 => ?_) (fun hc10 => ?_)
          · replace h := o_in hc10 h
            refine z_iinc (v := _ + 1) (L' := [(3, .int _), (0, .ref _), (1, .ref _), (2, .int _), (4, .int _)]) dX5_nthWord_42 3 rfl rfl (by decide) rfl ?_
            refine z_iinc (v := _ + 1) (L' := [(4, .int _), (3, .int _), (0, .ref _), (1, .ref _), (2, .int _)]) dX5_nthWord_45 4 rfl rfl (by decide) rfl ?_
            refine z_goto (tgt := 5) dX5_nthWord_48 (by decide) ?_
            exact o_Z.sub [2, 3, 4, 1, 0] rfl (ih _ _ _ _ h)
          · replace h := o_ip hc10 h
            refine z_iload dX5_nthWord_39 4 rfl ?_
            cases h
            exact z_iret rfl rfl rfl dX5_nthWord_41
set_option maxRecDepth 10000 in
theorem s_X5_nthWord {G : o_G} {N : Nat} {r : Int32} {σ' : o_S} {p2 : Int32} {s : o_S} (h : f_X5_nthWord N p2 s = some (r, σ')) : o_Z G RX5 cX5_nthWord (Option.some Jvm.ClassFile.FieldType.int) 5 3 (o_E G (some (.int r)) σ') (o_k σ') s 0 [(0, .ref (g_ad G 2)), (1, .ref (g_ad G 8)), (2, .int p2)] [] := by
  unfold f_X5_nthWord at h
  refine z_iconst (v := 0) dX5_nthWord_0 (by decide) ?_
  refine z_istore_n (L' := [(3, .int _), (0, .ref _), (1, .ref _), (2, .int _)]) dX5_nthWord_1 (by decide) rfl ?_
  refine z_iconst (v := 0) dX5_nthWord_2 (by decide) ?_
  refine z_istore (L' := [(4, .int _), (3, .int _), (0, .ref _), (1, .ref _), (2, .int _)]) dX5_nthWord_3 (by decide) rfl ?_
  exact o_Z.sub [2, 3, 4, 1, 0] rfl (s_X5_nthWord_L5 _ _ _ _ _ h)
theorem e_X5_nthWord {G : o_G} {N : Nat} {r : Int32} {σ' : o_S} {p2 : Int32} {s : o_S} (h : f_X5_nthWord N p2 s = some (r, σ')) : o_Ev G yX5_nthWord cX5_nthWord 5 (Option.some Jvm.ClassFile.FieldType.int) 3 [.ref (g_ad G 2), .ref (g_ad G 8), .int p2] s (some (.int r)) σ' := o_Ev.mk rfl (Nat.le_of_ble_eq_true rfl) (s_X5_nthWord h)
-- X5_areSame
set_option maxRecDepth 10000 in
theorem s_X5_areSame_L22 {G : o_G} {N : Nat} {r : Int32} {σ' : o_S} : ∀ (n : Nat) (l1 : Int32) (l2 : Int32) (l3 : Int32) (l4 : Int32) (s : o_S), f_X5_areSame_L22 N n l1 l2 l3 l4 s = some (r, σ') → o_Z G RX5 cX5_areSame (Option.some Jvm.ClassFile.FieldType.boolean) 5 2 (o_E G (some (.int r)) σ') (o_k σ') s 22 [(0, .ref (g_ad G 2)), (1, .int l1), (2, .int l2), (3, .int l3), (4, .int l4)] [] := by
  intro n
  induction n with
  | zero => intro l1 l2 l3 l4 s h; cases h
  | succ n ih =>
    intro l1 l2 l3 l4 s h
    rw [f_X5_areSame_L22] at h
    refine z_iload dX5_areSame_22 4 rfl ?_
    refine z_iload_n dX5_areSame_24 3 rfl ?_
    refine z_icmp_ge (tgt := 53) dX5_areSame_25 (by decide) (fun hc8 => ?_) (fun hc8 => ?_)
    · replace h := o_ip hc8 h
      refine z_iconst (v := 1) dX5_areSame_53 (by decide) ?_
      cases h
      exact z_zret (by decide) rfl rfl rfl dX5_areSame_54
    · replace h := o_in hc8 h
      refine z_aload_n dX5_areSame_28 0 rfl ?_
      refine z_iload_n dX5_areSame_29 1 rfl ?_
      refine z_iload dX5_areSame_30 4 rfl ?_
      obtain ⟨x11, s9, e10, h⟩ := o_bdi h
      refine z_callVi (As := [.int _, .int _]) (e_X5_letterOf e10) (by decide) mi_X5_letterOf ml_X5_67 rfl rfl (Nat.le_of_ble_eq_true rfl) rv_2 dX5_areSame_32 ?_
      refine z_aload_n dX5_areSame_35 0 rfl ?_
      refine z_iload_n dX5_areSame_36 2 rfl ?_
      refine z_iload dX5_areSame_37 4 rfl ?_
      obtain ⟨x14, s12, e13, h⟩ := o_bdi h
      refine z_callVi (As := [.int _, .int _]) (e_X5_letterOf e13) (by decide) mi_X5_letterOf ml_X5_67 rfl rfl (Nat.le_of_ble_eq_true rfl) rv_2 dX5_areSame_39 ?_
      refine z_icmp_eq (tgt := 47) dX5_areSame_42 (by decide) (fun hc15 => ?_) (fun hc15 => ?_)
      · replace h := o_ip hc15 h
        refine z_iinc (v := _ + 1) (L' := [(4, .int _), (0, .ref _), (1, .int _), (2, .int _), (3, .int _)]) dX5_areSame_47 4 rfl rfl (by decide) rfl ?_
        refine z_goto (tgt := 22) dX5_areSame_50 (by decide) ?_
        exact o_Z.sub [1, 2, 3, 4, 0] rfl (ih _ _ _ _ _ h)
      · replace h := o_in hc15 h
        refine z_iconst (v := 0) dX5_areSame_45 (by decide) ?_
        cases h
        exact z_zret (by decide) rfl rfl rfl dX5_areSame_46
set_option maxRecDepth 10000 in
theorem s_X5_areSame {G : o_G} {N : Nat} {r : Int32} {σ' : o_S} {p1 : Int32} {p2 : Int32} {s : o_S} (h : f_X5_areSame N p1 p2 s = some (r, σ')) : o_Z G RX5 cX5_areSame (Option.some Jvm.ClassFile.FieldType.boolean) 5 2 (o_E G (some (.int r)) σ') (o_k σ') s 0 [(0, .ref (g_ad G 2)), (1, .int p1), (2, .int p2)] [] := by
  unfold f_X5_areSame at h
  refine z_aload_n dX5_areSame_0 0 rfl ?_
  refine z_iload_n dX5_areSame_1 1 rfl ?_
  refine z_iconst (v := 5) dX5_areSame_2 (by decide) ?_
  obtain ⟨x3, s1, e2, h⟩ := o_bdi h
  refine z_callVi (As := [.int _, .int _]) (e_X5_get e2) (by decide) mi_X5_get ml_X5_44 rfl rfl (Nat.le_of_ble_eq_true rfl) rv_2 dX5_areSame_3 ?_
  refine z_istore_n (L' := [(3, .int _), (0, .ref _), (1, .int _), (2, .int _)]) dX5_areSame_6 (by decide) rfl ?_
  refine z_iload_n dX5_areSame_7 0 rfl ?_
  refine z_aload_n dX5_areSame_8 1 rfl ?_
  refine z_iload_n dX5_areSame_9 3 rfl ?_
  refine z_iconst (v := 5) dX5_areSame_10 (by decide) ?_
  obtain ⟨x6, s4, e5, h⟩ := o_bdi h
  refine z_callVi (As := [.int _, .int _]) (e_X5_get e5) (by decide) mi_X5_get ml_X5_44 rfl rfl (Nat.le_of_ble_eq_true rfl) rv_2 dX5_areSame_11 ?_
  refine z_icmp_eq (tgt := 19) dX5_areSame_14 (by decide) (fun hc7 => ?_) (fun hc7 => ?_)
  · replace h := o_ip hc7 h
    refine z_iconst (v := 0) dX5_areSame_19 (by decide) ?_
    refine z_istore (L' := [(4, .int _), (3, .int _), (0, .ref _), (1, .int _), (2, .int _)]) dX5_areSame_20 (by decide) rfl ?_
    exact o_Z.sub [2, 3, 4, 1, 0] rfl (s_X5_areSame_L22 _ _ _ _ _ _ h)
  · replace h := o_in hc7 h
    refine z_iconst (v := 0) dX5_areSame_17 (by decide) ?_
    cases h
    exact z_zret (by decide) rfl rfl rfl dX5_areSame_18
theorem e_X5_areSame {G : o_G} {N : Nat} {r : Int32} {σ' : o_S} {p1 : Int32} {p2 : Int32} {s : o_S} (h : f_X5_areSame N p1 p2 s = some (r, σ')) : o_Ev G yX5_areSame cX5_areSame 5 (Option.some Jvm.ClassFile.FieldType.boolean) 2 [.ref (g_ad G 2), .int p1, .int p2] s (some (.int r)) σ' := o_Ev.mk rfl (Nat.le_of_ble_eq_true rfl) (s_X5_areSame h)
-- X5_isNewWord
set_option maxRecDepth 10000 in
theorem s_X5_isNewWord_L2 {G : o_G} {N : Nat} {r : Int32} {σ' : o_S} : ∀ (n : Nat) (l1 : Int32) (l2 : Int32) (s : o_S), f_X5_isNewWord_L2 N n l1 l2 s = some (r, σ') → o_Z G RX5 cX5_isNewWord (Option.some Jvm.ClassFile.FieldType.boolean) 3 3 (o_E G (some (.int r)) σ') (o_k σ') s 2 [(0, .ref (g_ad G 2)), (1, .int l1), (2, .int l2)] [] := by
  intro n
  induction n with
  | zero => intro l1 l2 s h; cases h
  | succ n ih =>
    intro l1 l2 s h
    rw [f_X5_isNewWord_L2] at h
    refine z_iload_n dX5_isNewWord_2 2 rfl ?_
    refine z_iload_n dX5_isNewWord_3 1 rfl ?_
    refine z_icmp_ge (tgt := 33) dX5_isNewWord_4 (by decide) (fun hc1 => ?_) (fun hc1 => ?_)
    · replace h := o_ip hc1 h
      refine z_iconst (v := 1) dX5_isNewWord_33 (by decide) ?_
      cases h
      exact z_zret (by decide) rfl rfl rfl dX5_isNewWord_34
    · replace h := o_in hc1 h
      refine z_aload_n dX5_isNewWord_7 0 rfl ?_
      refine z_iload_n dX5_isNewWord_8 2 rfl ?_
      refine z_iconst (v := 2) dX5_isNewWord_9 (by decide) ?_
      obtain ⟨x4, s2, e3, h⟩ := o_bdi h
      refine z_callVi (As := [.int _, .int _]) (e_X5_is e3) (by decide) mi_X5_is ml_X5_48 rfl rfl (Nat.le_of_ble_eq_true rfl) rv_2 dX5_isNewWord_10 ?_
      refine z_if_eq (tgt := 27) dX5_isNewWord_13 (by decide) (fun hc5 => ?_) (fun hc5 => ?_)
      · replace h := o_ip hc5 h
        refine z_iinc (v := _ + 1) (L' := [(2, .int _), (0, .ref _), (1, .int _)]) dX5_isNewWord_27 2 rfl rfl (by decide) rfl ?_
        refine z_goto (tgt := 2) dX5_isNewWord_30 (by decide) ?_
        exact o_Z.sub [1, 2, 0] rfl (ih _ _ _ h)
      · replace h := o_in hc5 h
        refine z_aload_n dX5_isNewWord_16 0 rfl ?_
        refine z_iload_n dX5_isNewWord_17 2 rfl ?_
        refine z_iload_n dX5_isNewWord_18 1 rfl ?_
        obtain ⟨x8, s6, e7, h⟩ := o_bdi h
        refine z_callVi (As := [.int _, .int _]) (e_X5_areSame e7) (by decide) mi_X5_areSame ml_X5_74 rfl rfl (Nat.le_of_ble_eq_true rfl) rv_2 dX5_isNewWord_19 ?_
        refine z_if_eq (tgt := 27) dX5_isNewWord_22 (by decide) (fun hc9 => ?_) (fun hc9 => ?_)
        · replace h := o_ip hc9 h
          refine z_iinc (v := _ + 1) (L' := [(2, .int _), (0, .ref _), (1, .int _)]) dX5_isNewWord_27 2 rfl rfl (by decide) rfl ?_
          refine z_goto (tgt := 2) dX5_isNewWord_30 (by decide) ?_
          exact o_Z.sub [1, 2, 0] rfl (ih _ _ _ h)
        · replace h := o_in hc9 h
          refine z_iconst (v := 0) dX5_isNewWord_25 (by decide) ?_
          cases h
          exact z_zret (by decide) rfl rfl rfl dX5_isNewWord_26
set_option maxRecDepth 10000 in
theorem s_X5_isNewWord {G : o_G} {N : Nat} {r : Int32} {σ' : o_S} {p1 : Int32} {s : o_S} (h : f_X5_isNewWord N p1 s = some (r, σ')) : o_Z G RX5 cX5_isNewWord (Option.some Jvm.ClassFile.FieldType.boolean) 3 3 (o_E G (some (.int r)) σ') (o_k σ') s 0 [(0, .ref (g_ad G 2)), (1, .int p1)] [] := by
  unfold f_X5_isNewWord at h
  refine z_iconst (v := 0) dX5_isNewWord_0 (by decide) ?_
  refine z_istore_n (L' := [(2, .int _), (0, .ref _), (1, .int _)]) dX5_isNewWord_1 (by decide) rfl ?_
  exact o_Z.sub [1, 2, 0] rfl (s_X5_isNewWord_L2 _ _ _ _ h)
theorem e_X5_isNewWord {G : o_G} {N : Nat} {r : Int32} {σ' : o_S} {p1 : Int32} {s : o_S} (h : f_X5_isNewWord N p1 s = some (r, σ')) : o_Ev G yX5_isNewWord cX5_isNewWord 3 (Option.some Jvm.ClassFile.FieldType.boolean) 3 [.ref (g_ad G 2), .int p1] s (some (.int r)) σ' := o_Ev.mk rfl (Nat.le_of_ble_eq_true rfl) (s_X5_isNewWord h)
-- X5_countDifferentWords
set_option maxRecDepth 10000 in
theorem s_X5_countDifferentWords_L4 {G : o_G} {N : Nat} {r : Int32} {σ' : o_S} : ∀ (n : Nat) (l1 : Int32) (l2 : Int32) (s : o_S), f_X5_countDifferentWords_L4 N n l1 l2 s = some (r, σ') → o_Z G RX5 cX5_countDifferentWords (Option.some Jvm.ClassFile.FieldType.int) 3 4 (o_E G (some (.int r)) σ') (o_k σ') s 4 [(0, .ref (g_ad G 2)), (1, .int l1), (2, .int l2)] [] := by
  intro n
  induction n with
  | zero => intro l1 l2 s h; cases h
  | succ n ih =>
    intro l1 l2 s h
    rw [f_X5_countDifferentWords_L4] at h
    refine z_iload_n dX5_countDifferentWords_4 2 rfl ?_
    refine z_aload_n dX5_countDifferentWords_5 0 rfl ?_
    refine zg_X5_count fl_X5_21 dX5_countDifferentWords_6 ?_
    refine z_icmp_ge (tgt := 38) dX5_countDifferentWords_9 (by decide) (fun hc1 => ?_) (fun hc1 => ?_)
    · replace h := o_ip hc1 h
      refine z_iload_n dX5_countDifferentWords_38 1 rfl ?_
      cases h
      exact z_iret rfl rfl rfl dX5_countDifferentWords_39
    · replace h := o_in hc1 h
      refine z_aload_n dX5_countDifferentWords_12 0 rfl ?_
      refine z_iload_n dX5_countDifferentWords_13 2 rfl ?_
      refine z_iconst (v := 2) dX5_countDifferentWords_14 (by decide) ?_
      obtain ⟨x4, s2, e3, h⟩ := o_bdi h
      refine z_callVi (As := [.int _, .int _]) (e_X5_is e3) (by decide) mi_X5_is ml_X5_48 rfl rfl (Nat.le_of_ble_eq_true rfl) rv_2 dX5_countDifferentWords_15 ?_
      refine z_if_eq (tgt := 32) dX5_countDifferentWords_18 (by decide) (fun hc5 => ?_) (fun hc5 => ?_)
      · replace h := o_ip hc5 h
        refine z_iinc (v := _ + 1) (L' := [(2, .int _), (0, .ref _), (1, .int _)]) dX5_countDifferentWords_32 2 rfl rfl (by decide) rfl ?_
        refine z_goto (tgt := 4) dX5_countDifferentWords_35 (by decide) ?_
        exact o_Z.sub [1, 2, 0] rfl (ih _ _ _ h)
      · replace h := o_in hc5 h
        refine z_aload_n dX5_countDifferentWords_21 0 rfl ?_
        refine z_iload_n dX5_countDifferentWords_22 2 rfl ?_
        obtain ⟨x8, s6, e7, h⟩ := o_bdi h
        refine z_callVi (As := [.int _]) (e_X5_isNewWord e7) (by decide) mi_X5_isNewWord ml_X5_70 rfl rfl (Nat.le_of_ble_eq_true rfl) rv_2 dX5_countDifferentWords_23 ?_
        refine z_if_eq (tgt := 32) dX5_countDifferentWords_26 (by decide) (fun hc9 => ?_) (fun hc9 => ?_)
        · replace h := o_ip hc9 h
          refine z_iinc (v := _ + 1) (L' := [(2, .int _), (0, .ref _), (1, .int _)]) dX5_countDifferentWords_32 2 rfl rfl (by decide) rfl ?_
          refine z_goto (tgt := 4) dX5_countDifferentWords_35 (by decide) ?_
          exact o_Z.sub [1, 2, 0] rfl (ih _ _ _ h)
        · replace h := o_in hc9 h
          refine z_iinc (v := _ + 1) (L' := [(1, .int _), (0, .ref _), (2, .int _)]) dX5_countDifferentWords_29 1 rfl rfl (by decide) rfl ?_
          refine z_iinc (v := _ + 1) (L' := [(2, .int _), (1, .int _), (0, .ref _)]) dX5_countDifferentWords_32 2 rfl rfl (by decide) rfl ?_
          refine z_goto (tgt := 4) dX5_countDifferentWords_35 (by decide) ?_
          exact o_Z.sub [2, 1, 0] rfl (ih _ _ _ h)
set_option maxRecDepth 10000 in
theorem s_X5_countDifferentWords {G : o_G} {N : Nat} {r : Int32} {σ' : o_S} {s : o_S} (h : f_X5_countDifferentWords N  s = some (r, σ')) : o_Z G RX5 cX5_countDifferentWords (Option.some Jvm.ClassFile.FieldType.int) 3 4 (o_E G (some (.int r)) σ') (o_k σ') s 0 [(0, .ref (g_ad G 2))] [] := by
  unfold f_X5_countDifferentWords at h
  refine z_iconst (v := 0) dX5_countDifferentWords_0 (by decide) ?_
  refine z_istore_n (L' := [(1, .int _), (0, .ref _)]) dX5_countDifferentWords_1 (by decide) rfl ?_
  refine z_iconst (v := 0) dX5_countDifferentWords_2 (by decide) ?_
  refine z_istore_n (L' := [(2, .int _), (1, .int _), (0, .ref _)]) dX5_countDifferentWords_3 (by decide) rfl ?_
  exact o_Z.sub [2, 1, 0] rfl (s_X5_countDifferentWords_L4 _ _ _ _ h)
theorem e_X5_countDifferentWords {G : o_G} {N : Nat} {r : Int32} {σ' : o_S} {s : o_S} (h : f_X5_countDifferentWords N  s = some (r, σ')) : o_Ev G yX5_countDifferentWords cX5_countDifferentWords 3 (Option.some Jvm.ClassFile.FieldType.int) 4 [.ref (g_ad G 2)] s (some (.int r)) σ' := o_Ev.mk rfl (Nat.le_of_ble_eq_true rfl) (s_X5_countDifferentWords h)
-- X5_nesting
set_option maxRecDepth 10000 in
theorem s_X5_nesting {G : o_G} {N : Nat} {r : Int32} {σ' : o_S} {p1 : Int32} {s : o_S} (h : f_X5_nesting N p1 s = some (r, σ')) : o_Z G RX5 cX5_nesting (Option.some Jvm.ClassFile.FieldType.int) 2 2 (o_E G (some (.int r)) σ') (o_k σ') s 0 [(0, .ref (g_ad G 2)), (1, .int p1)] [] := by
  unfold f_X5_nesting at h
  refine z_aload_n dX5_nesting_0 0 rfl ?_
  refine z_iload_n dX5_nesting_1 1 rfl ?_
  refine z_iconst (v := 1) dX5_nesting_2 (by decide) ?_
  obtain ⟨x3, s1, e2, h⟩ := o_bdi h
  refine z_callVi (As := [.int _, .int _]) (e_X5_get e2) (by decide) mi_X5_get ml_X5_44 rfl rfl (Nat.le_of_ble_eq_true rfl) rv_2 dX5_nesting_3 ?_
  refine z_aload_n dX5_nesting_6 0 rfl ?_
  refine z_iload_n dX5_nesting_7 1 rfl ?_
  refine z_iconst (v := 2) dX5_nesting_8 (by decide) ?_
  obtain ⟨x6, s4, e5, h⟩ := o_bdi h
  refine z_callVi (As := [.int _, .int _]) (e_X5_get e5) (by decide) mi_X5_get ml_X5_44 rfl rfl (Nat.le_of_ble_eq_true rfl) rv_2 dX5_nesting_9 ?_
  refine z_isub dX5_nesting_12 ?_
  cases h
  exact z_iret rfl rfl rfl dX5_nesting_13
theorem e_X5_nesting {G : o_G} {N : Nat} {r : Int32} {σ' : o_S} {p1 : Int32} {s : o_S} (h : f_X5_nesting N p1 s = some (r, σ')) : o_Ev G yX5_nesting cX5_nesting 2 (Option.some Jvm.ClassFile.FieldType.int) 2 [.ref (g_ad G 2), .int p1] s (some (.int r)) σ' := o_Ev.mk rfl (Nat.le_of_ble_eq_true rfl) (s_X5_nesting h)
-- X5_innerNesting
set_option maxRecDepth 10000 in
theorem s_X5_innerNesting_b49 {G : o_G} {N : Nat} {k23 : Int32 → Int32 → Int32 → Int32 → o_S → Option (Int32 × o_S)} {r : Int32} {σ' : o_S} {l2 : Int32} {l3 : Int32} {l4 : Int32} {l5 : Int32} (hk23 : ∀ (z2 : Int32) (z3 : Int32) (z4 : Int32) (z5 : Int32) (s : o_S), k23 z2 z3 z4 z5 s = some (r, σ') → o_Z G RX5 cX5_innerNesting (Option.some Jvm.ClassFile.FieldType.int) 6 3 (o_E G (some (.int r)) σ') (o_k σ') s 23 [(0, .ref (g_ad G 2)), (2, .int z2), (3, .int z3), (4, .int z4), (5, .int z5)] []) {s : o_S} (h : f_X5_innerNesting_b49 N k23 l2 l3 l4 l5 s = some (r, σ')) : o_Z G RX5 cX5_innerNesting (Option.some Jvm.ClassFile.FieldType.int) 6 3 (o_E G (some (.int r)) σ') (o_k σ') s 49 [(0, .ref (g_ad G 2)), (2, .int l2), (3, .int l3), (4, .int l4), (5, .int l5)] [] := by
  unfold f_X5_innerNesting_b49 at h
  refine z_iload dX5_innerNesting_49 3 rfl ?_
  refine z_aload_n dX5_innerNesting_51 0 rfl ?_
  refine z_iload dX5_innerNesting_52 4 rfl ?_
  obtain ⟨x14, s12, e13, h⟩ := o_bdi h
  refine z_callVi (As := [.int _]) (e_X5_nesting e13) (by decide) mi_X5_nesting ml_X5_77 rfl rfl (Nat.le_of_ble_eq_true rfl) rv_2 dX5_innerNesting_54 ?_
  refine z_iload_n dX5_innerNesting_57 2 rfl ?_
  refine z_isub dX5_innerNesting_58 ?_
  refine z_mmax (by decide) ml_X5_80 (Nat.le_of_ble_eq_true rfl) dX5_innerNesting_59 ?_
  refine z_istore (L' := [(4, .int _), (0, .ref _), (2, .int _), (3, .int _), (5, .int _)]) dX5_innerNesting_62 (by decide) rfl ?_
  refine z_iinc (v := _ + 1) (L' := [(5, .int _), (4, .int _), (0, .ref _), (2, .int _), (3, .int _)]) dX5_innerNesting_64 4 rfl rfl (by decide) rfl ?_
  refine z_goto (tgt := 23) dX5_innerNesting_67 (by decide) ?_
  exact o_Z.sub [2, 3, 4, 1, 0] rfl (hk23 _ _ _ _ _ h)
set_option maxRecDepth 10000 in
theorem s_X5_innerNesting_L23 {G : o_G} {N : Nat} {r : Int32} {σ' : o_S} : ∀ (n : Nat) (l2 : Int32) (l3 : Int32) (l4 : Int32) (l5 : Int32) (s : o_S), f_X5_innerNesting_L23 N n l2 l3 l4 l5 s = some (r, σ') → o_Z G RX5 cX5_innerNesting (Option.some Jvm.ClassFile.FieldType.int) 6 3 (o_E G (some (.int r)) σ') (o_k σ') s 23 [(0, .ref (g_ad G 2)), (2, .int l2), (3, .int l3), (4, .int l4), (5, .int l5)] [] := by
  intro n
  induction n with
  | zero => intro l2 l3 l4 l5 s h; cases h
  | succ n ih =>
    intro l2 l3 l4 l5 s h
    rw [f_X5_innerNesting_L23] at h
    refine z_iload dX5_innerNesting_23 4 rfl ?_
    refine z_iload_n dX5_innerNesting_25 1 rfl ?_
    refine z_icmp_ge (tgt := 70) dX5_innerNesting_26 (by decide) (fun hc7 => ?_) (fun hc7 => ?_)
    · replace h := o_ip hc7 h
      refine z_iload dX5_innerNesting_70 3 rfl ?_
      cases h
      exact z_iret rfl rfl rfl dX5_innerNesting_72
    · replace h := o_in hc7 h
      refine z_aload_n dX5_innerNesting_29 0 rfl ?_
      refine z_iload dX5_innerNesting_30 4 rfl ?_
      refine z_iconst (v := 0) dX5_innerNesting_32 (by decide) ?_
      obtain ⟨x10, s8, e9, h⟩ := o_bdi h
      refine z_callVi (As := [.int _, .int _]) (e_X5_is e9) (by decide) mi_X5_is ml_X5_48 rfl rfl (Nat.le_of_ble_eq_true rfl) rv_2 dX5_innerNesting_33 ?_
      refine z_if_ne (tgt := 49) dX5_innerNesting_36 (by decide) (fun hc11 => ?_) (fun hc11 => ?_)
      · replace h := o_in hc11 h
        exact o_Z.sub [0, 1, 2, 3, 4] rfl (s_X5_innerNesting_b49 ih h)
      · replace h := o_ip hc11 h
        refine z_aload_n dX5_innerNesting_39 0 rfl ?_
        refine z_iload dX5_innerNesting_40 4 rfl ?_
        refine z_iconst (v := 4) dX5_innerNesting_42 (by decide) ?_
        obtain ⟨x17, s15, e16, h⟩ := o_bdi h
        refine z_callVi (As := [.int _, .int _]) (e_X5_is e16) (by decide) mi_X5_is ml_X5_48 rfl rfl (Nat.le_of_ble_eq_true rfl) rv_2 dX5_innerNesting_43 ?_
        refine z_if_eq (tgt := 64) dX5_innerNesting_46 (by decide) (fun hc18 => ?_) (fun hc18 => ?_)
        · replace h := o_ip hc18 h
          refine z_iinc (v := _ + 1) (L' := [(5, .int _), (0, .ref _), (2, .int _), (3, .int _), (4, .int _)]) dX5_innerNesting_64 4 rfl rfl (by decide) rfl ?_
          refine z_goto (tgt := 23) dX5_innerNesting_67 (by decide) ?_
          exact o_Z.sub [1, 2, 3, 4, 0] rfl (ih _ _ _ _ _ h)
        · replace h := o_in hc18 h
          exact o_Z.sub [0, 1, 2, 3, 4] rfl (s_X5_innerNesting_b49 ih h)
set_option maxRecDepth 10000 in
theorem s_X5_innerNesting {G : o_G} {N : Nat} {r : Int32} {σ' : o_S} {p1 : Int32} {s : o_S} (h : f_X5_innerNesting N p1 s = some (r, σ')) : o_Z G RX5 cX5_innerNesting (Option.some Jvm.ClassFile.FieldType.int) 6 3 (o_E G (some (.int r)) σ') (o_k σ') s 0 [(0, .ref (g_ad G 2)), (1, .int p1)] [] := by
  unfold f_X5_innerNesting at h
  refine z_aload_n dX5_innerNesting_0 0 rfl ?_
  refine z_iload_n dX5_innerNesting_1 1 rfl ?_
  obtain ⟨x3, s1, e2, h⟩ := o_bdi h
  refine z_callVi (As := [.int _]) (e_X5_after e2) (by decide) mi_X5_after ml_X5_60 rfl rfl (Nat.le_of_ble_eq_true rfl) rv_2 dX5_innerNesting_2 ?_
  refine z_istore_n (L' := [(2, .int _), (0, .ref _), (1, .int _)]) dX5_innerNesting_5 (by decide) rfl ?_
  refine z_aload_n dX5_innerNesting_6 1 rfl ?_
  refine z_iload_n dX5_innerNesting_7 2 rfl ?_
  refine z_iconst (v := 2) dX5_innerNesting_8 (by decide) ?_
  obtain ⟨x6, s4, e5, h⟩ := o_bdi h
  refine z_callVi (As := [.int _, .int _]) (e_X5_get e5) (by decide) mi_X5_get ml_X5_44 rfl rfl (Nat.le_of_ble_eq_true rfl) rv_2 dX5_innerNesting_9 ?_
  refine z_iconst (v := 1) dX5_innerNesting_12 (by decide) ?_
  refine z_isub dX5_innerNesting_13 ?_
  refine z_istore_n (L' := [(3, .int _), (2, .int _), (0, .ref _), (1, .int _)]) dX5_innerNesting_14 (by decide) rfl ?_
  refine z_iconst (v := 0) dX5_innerNesting_15 (by decide) ?_
  refine z_istore (L' := [(4, .int _), (3, .int _), (2, .int _), (0, .ref _), (1, .int _)]) dX5_innerNesting_16 (by decide) rfl ?_
  refine z_iload_n dX5_innerNesting_18 4 rfl ?_
  refine z_iconst (v := 1) dX5_innerNesting_19 (by decide) ?_
  refine z_iadd dX5_innerNesting_20 ?_
  refine z_istore (L' := [(5, .int _), (4, .int _), (3, .int _), (2, .int _), (0, .ref _), (1, .int _)]) dX5_innerNesting_21 (by decide) rfl ?_
  exact o_Z.sub [4, 3, 2, 1, 0] rfl (s_X5_innerNesting_L23 _ _ _ _ _ _ h)
theorem e_X5_innerNesting {G : o_G} {N : Nat} {r : Int32} {σ' : o_S} {p1 : Int32} {s : o_S} (h : f_X5_innerNesting N p1 s = some (r, σ')) : o_Ev G yX5_innerNesting cX5_innerNesting 6 (Option.some Jvm.ClassFile.FieldType.int) 3 [.ref (g_ad G 2), .int p1] s (some (.int r)) σ' := o_Ev.mk rfl (Nat.le_of_ble_eq_true rfl) (s_X5_innerNesting h)
-- X5_erase
set_option maxRecDepth 10000 in
theorem s_X5_erase {G : o_G} {N : Nat} {σ' : o_S} {p1 : Int32} {s : o_S} (h : f_X5_erase N p1 s = some σ') : o_Z G RX5 cX5_erase (Option.none : Option Jvm.ClassFile.FieldType) 3 3 (o_E G (none) σ') (o_k σ') s 0 [(0, .ref (g_ad G 2)), (1, .int p1)] [] := by
  unfold f_X5_erase at h
  refine z_aload_n dX5_erase_0 0 rfl ?_
  refine z_iload_n dX5_erase_1 1 rfl ?_
  obtain ⟨x3, s1, e2, h⟩ := o_bdi h
  refine z_callVi (As := [.int _]) (e_X5_after e2) (by decide) mi_X5_after ml_X5_60 rfl rfl (Nat.le_of_ble_eq_true rfl) rv_2 dX5_erase_2 ?_
  refine z_istore_n (L' := [(2, .int _), (0, .ref _), (1, .int _)]) dX5_erase_5 (by decide) rfl ?_
  refine z_aload_n dX5_erase_6 1 rfl ?_
  refine zg_X5_cells fl_X5_12 dX5_erase_7 ?_
  refine z_iload_n dX5_erase_10 2 rfl ?_
  refine z_bipush (v := 7) dX5_erase_11 (by decide) ?_
  refine z_imul dX5_erase_13 ?_
  refine z_iload_n dX5_erase_14 0 rfl ?_
  refine z_bipush (v := 7) dX5_erase_15 (by decide) ?_
  refine z_imul dX5_erase_17 ?_
  refine z_aload_n dX5_erase_18 1 rfl ?_
  refine zg_X5_count fl_X5_21 dX5_erase_19 ?_
  refine z_bipush (v := 7) dX5_erase_22 (by decide) ?_
  refine z_imul dX5_erase_24 ?_
  obtain ⟨s4, e5, h⟩ := o_bdv h
  refine z_callVv (As := [.int _, .int _, .int _]) (e_row_turn (r := 3) (kd := 2) (by decide) (by decide) e5) (by decide) rm_turn ml_X5_85 rfl rfl (Nat.le_of_ble_eq_true rfl) (rv_row (r := 3) (by decide)) dX5_erase_25 ?_
  refine z_aload_n dX5_erase_28 1 rfl ?_
  refine z_dup dX5_erase_29 rfl ?_
  refine zg_X5_count fl_X5_21 dX5_erase_30 ?_
  refine z_iload_n dX5_erase_33 0 rfl ?_
  refine z_iload_n dX5_erase_34 2 rfl ?_
  refine z_isub dX5_erase_35 ?_
  refine z_isub dX5_erase_36 ?_
  replace h := o_dd h
  refine zp_X5_count fl_X5_21 dX5_erase_37 ?_
  refine z_aload_n dX5_erase_40 1 rfl ?_
  refine zg_X5_cells fl_X5_12 dX5_erase_41 ?_
  refine z_aload_n dX5_erase_44 1 rfl ?_
  refine zg_X5_count fl_X5_21 dX5_erase_45 ?_
  refine z_bipush (v := 7) dX5_erase_48 (by decide) ?_
  refine z_imul dX5_erase_50 ?_
  replace h := o_dd h
  refine z_callVv (As := [.int _]) (e_row_cut (r := 3) (kd := 0) (by decide) _) (by decide) rm_cut ml_X5_25 rfl rfl (Nat.le_of_ble_eq_true rfl) (rv_row (r := 3) (by decide)) dX5_erase_51 ?_
  cases h
  exact z_vret rfl rfl rfl dX5_erase_54
theorem e_X5_erase {G : o_G} {N : Nat} {σ' : o_S} {p1 : Int32} {s : o_S} (h : f_X5_erase N p1 s = some σ') : o_Ev G yX5_erase cX5_erase 3 (Option.none : Option Jvm.ClassFile.FieldType) 3 [.ref (g_ad G 2), .int p1] s (none) σ' := o_Ev.mk rfl (Nat.le_of_ble_eq_true rfl) (s_X5_erase h)
-- X5_placeFor
set_option maxRecDepth 10000 in
theorem s_X5_placeFor_L25 {G : o_G} {N : Nat} {r : Int32} {σ' : o_S} : ∀ (n : Nat) (l1 : Int32) (l3 : Int32) (l4 : Int32) (l5 : Int32) (l6 : Int32) (l7 : Int32) (s : o_S), f_X5_placeFor_L25 N n l1 l3 l4 l5 l6 l7 s = some (r, σ') → o_Z G RX5 cX5_placeFor (Option.some Jvm.ClassFile.FieldType.int) 8 2 (o_E G (some (.int r)) σ') (o_k σ') s 25 [(0, .ref (g_ad G 2)), (1, .int l1), (3, .int l3), (4, .int l4), (5, .int l5), (6, .int l6), (7, .int l7)] [] := by
  intro n
  induction n with
  | zero => intro l1 l3 l4 l5 l6 l7 s h; cases h
  | succ n ih =>
    intro l1 l3 l4 l5 l6 l7 s h
    rw [f_X5_placeFor_L25] at h
    refine z_iload dX5_placeFor_25 6 rfl ?_
    refine z_iload dX5_placeFor_27 3 rfl ?_
    refine z_icmp_ge (tgt := 68) dX5_placeFor_29 (by decide) (fun hc7 => ?_) (fun hc7 => ?_)
    · replace h := o_ip hc7 h
      refine z_iload dX5_placeFor_68 5 rfl ?_
      refine z_iload_n dX5_placeFor_70 2 rfl ?_
      refine z_icmp_ne (tgt := 79) dX5_placeFor_71 (by decide) (fun hc8 => ?_) (fun hc8 => ?_)
      · replace h := o_in hc8 h
        refine z_iconst (v := (-1)) dX5_placeFor_79 (by decide) ?_
        cases h
        exact z_iret rfl rfl rfl dX5_placeFor_80
      · replace h := o_ip hc8 h
        refine z_iload dX5_placeFor_74 3 rfl ?_
        refine z_goto (tgt := 80) dX5_placeFor_76 (by decide) ?_
        cases h
        exact z_iret rfl rfl rfl dX5_placeFor_80
    · replace h := o_in hc7 h
      refine z_iload dX5_placeFor_32 6 rfl ?_
      refine z_iload_n dX5_placeFor_34 1 rfl ?_
      refine z_icmp_eq (tgt := 62) dX5_placeFor_35 (by decide) (fun hc9 => ?_) (fun hc9 => ?_)
      · replace h := o_ip hc9 h
        refine z_iinc (v := _ + 1) (L' := [(7, .int _), (0, .ref _), (1, .int _), (3, .int _), (4, .int _), (5, .int _), (6, .int _)]) dX5_placeFor_62 6 rfl rfl (by decide) rfl ?_
        refine z_goto (tgt := 25) dX5_placeFor_65 (by decide) ?_
        exact o_Z.sub [1, 2, 3, 4, 5, 6, 0] rfl (ih _ _ _ _ _ _ _ h)
      · replace h := o_in hc9 h
        refine z_aload_n dX5_placeFor_38 0 rfl ?_
        refine z_iload dX5_placeFor_39 6 rfl ?_
        refine z_iconst (v := 1) dX5_placeFor_41 (by decide) ?_
        obtain ⟨x12, s10, e11, h⟩ := o_bdi h
        refine z_callVi (As := [.int _, .int _]) (e_X5_get e11) (by decide) mi_X5_get ml_X5_44 rfl rfl (Nat.le_of_ble_eq_true rfl) rv_2 dX5_placeFor_42 ?_
        refine z_iload dX5_placeFor_45 4 rfl ?_
        refine z_icmp_ne (tgt := 62) dX5_placeFor_47 (by decide) (fun hc13 => ?_) (fun hc13 => ?_)
        · replace h := o_in hc13 h
          refine z_iinc (v := _ + 1) (L' := [(7, .int _), (0, .ref _), (1, .int _), (3, .int _), (4, .int _), (5, .int _), (6, .int _)]) dX5_placeFor_62 6 rfl rfl (by decide) rfl ?_
          refine z_goto (tgt := 25) dX5_placeFor_65 (by decide) ?_
          exact o_Z.sub [1, 2, 3, 4, 5, 6, 0] rfl (ih _ _ _ _ _ _ _ h)
        · replace h := o_ip hc13 h
          refine z_iload dX5_placeFor_50 5 rfl ?_
          refine z_iload_n dX5_placeFor_52 2 rfl ?_
          refine z_icmp_ne (tgt := 59) dX5_placeFor_53 (by decide) (fun hc14 => ?_) (fun hc14 => ?_)
          · replace h := o_in hc14 h
            refine z_iinc (v := _ + 1) (L' := [(6, .int _), (0, .ref _), (1, .int _), (3, .int _), (4, .int _), (5, .int _), (7, .int _)]) dX5_placeFor_59 5 rfl rfl (by decide) rfl ?_
            refine z_iinc (v := _ + 1) (L' := [(7, .int _), (6, .int _), (0, .ref _), (1, .int _), (3, .int _), (4, .int _), (5, .int _)]) dX5_placeFor_62 6 rfl rfl (by decide) rfl ?_
            refine z_goto (tgt := 25) dX5_placeFor_65 (by decide) ?_
            exact o_Z.sub [2, 3, 4, 5, 6, 1, 0] rfl (ih _ _ _ _ _ _ _ h)
          · replace h := o_ip hc14 h
            refine z_iload dX5_placeFor_56 6 rfl ?_
            cases h
            exact z_iret rfl rfl rfl dX5_placeFor_58
set_option maxRecDepth 10000 in
theorem s_X5_placeFor {G : o_G} {N : Nat} {r : Int32} {σ' : o_S} {p1 : Int32} {p2 : Int32} {p3 : Int32} {s : o_S} (h : f_X5_placeFor N p1 p2 p3 s = some (r, σ')) : o_Z G RX5 cX5_placeFor (Option.some Jvm.ClassFile.FieldType.int) 8 2 (o_E G (some (.int r)) σ') (o_k σ') s 0 [(0, .ref (g_ad G 2)), (1, .int p1), (2, .int p2), (3, .int p3)] [] := by
  unfold f_X5_placeFor at h
  refine z_aload_n dX5_placeFor_0 0 rfl ?_
  refine z_iload_n dX5_placeFor_1 2 rfl ?_
  obtain ⟨x3, s1, e2, h⟩ := o_bdi h
  refine z_callVi (As := [.int _]) (e_X5_after e2) (by decide) mi_X5_after ml_X5_60 rfl rfl (Nat.le_of_ble_eq_true rfl) rv_2 dX5_placeFor_2 ?_
  refine z_istore (L' := [(4, .int _), (0, .ref _), (1, .int _), (2, .int _), (3, .int _)]) dX5_placeFor_5 (by decide) rfl ?_
  refine z_aload_n dX5_placeFor_7 1 rfl ?_
  refine z_iload_n dX5_placeFor_8 3 rfl ?_
  refine z_iconst (v := 1) dX5_placeFor_9 (by decide) ?_
  obtain ⟨x6, s4, e5, h⟩ := o_bdi h
  refine z_callVi (As := [.int _, .int _]) (e_X5_get e5) (by decide) mi_X5_get ml_X5_44 rfl rfl (Nat.le_of_ble_eq_true rfl) rv_2 dX5_placeFor_10 ?_
  refine z_iconst (v := 1) dX5_placeFor_13 (by decide) ?_
  refine z_iadd dX5_placeFor_14 ?_
  refine z_istore (L' := [(5, .int _), (4, .int _), (0, .ref _), (1, .int _), (2, .int _), (3, .int _)]) dX5_placeFor_15 (by decide) rfl ?_
  refine z_iconst (v := 0) dX5_placeFor_17 (by decide) ?_
  refine z_istore (L' := [(6, .int _), (5, .int _), (4, .int _), (0, .ref _), (1, .int _), (2, .int _), (3, .int _)]) dX5_placeFor_18 (by decide) rfl ?_
  refine z_iload_n dX5_placeFor_20 5 rfl ?_
  refine z_iconst (v := 1) dX5_placeFor_21 (by decide) ?_
  refine z_iadd dX5_placeFor_22 ?_
  refine z_istore (L' := [(7, .int _), (6, .int _), (5, .int _), (4, .int _), (0, .ref _), (1, .int _), (2, .int _), (3, .int _)]) dX5_placeFor_23 (by decide) rfl ?_
  exact o_Z.sub [4, 5, 7, 3, 2, 1, 0] rfl (s_X5_placeFor_L25 _ _ _ _ _ _ _ _ h)
theorem e_X5_placeFor {G : o_G} {N : Nat} {r : Int32} {σ' : o_S} {p1 : Int32} {p2 : Int32} {p3 : Int32} {s : o_S} (h : f_X5_placeFor N p1 p2 p3 s = some (r, σ')) : o_Ev G yX5_placeFor cX5_placeFor 8 (Option.some Jvm.ClassFile.FieldType.int) 2 [.ref (g_ad G 2), .int p1, .int p2, .int p3] s (some (.int r)) σ' := o_Ev.mk rfl (Nat.le_of_ble_eq_true rfl) (s_X5_placeFor h)
-- X5_carry
set_option maxRecDepth 10000 in
theorem s_X5_carry_L44 {G : o_G} {N : Nat} {r : Int32} {σ' : o_S} : ∀ (n : Nat) (l1 : Int32) (l3 : Int32) (l4 : Int32) (l5 : Int32) (l6 : Int32) (l7 : Int32) (s : o_S), f_X5_carry_L44 N n l1 l3 l4 l5 l6 l7 s = some (r, σ') → o_Z G RX5 cX5_carry (Option.some Jvm.ClassFile.FieldType.int) 8 3 (o_E G (some (.int r)) σ') (o_k σ') s 44 [(0, .ref (g_ad G 2)), (1, .int l1), (3, .int l3), (4, .int l4), (5, .int l5), (6, .int l6), (7, .int l7)] [] := by
  intro n
  induction n with
  | zero => intro l1 l3 l4 l5 l6 l7 s h; cases h
  | succ n ih =>
    intro l1 l3 l4 l5 l6 l7 s h
    rw [f_X5_carry_L44] at h
    refine z_iload dX5_carry_44 6 rfl ?_
    refine z_iload dX5_carry_46 3 rfl ?_
    refine z_icmp_ge (tgt := 91) dX5_carry_48 (by decide) (fun hc16 => ?_) (fun hc16 => ?_)
    · replace h := o_ip hc16 h
      refine z_iload_n dX5_carry_91 2 rfl ?_
      refine z_iload_n dX5_carry_92 1 rfl ?_
      refine z_icmp_gt (tgt := 118) dX5_carry_93 (by decide) (fun hc17 => ?_) (fun hc17 => ?_)
      · replace h := o_ip hc17 h
        refine z_aload_n dX5_carry_118 0 rfl ?_
        refine zg_X5_cells fl_X5_12 dX5_carry_119 ?_
        refine z_iload_n dX5_carry_122 1 rfl ?_
        refine z_bipush (v := 7) dX5_carry_123 (by decide) ?_
        refine z_imul dX5_carry_125 ?_
        refine z_iload dX5_carry_126 3 rfl ?_
        refine z_bipush (v := 7) dX5_carry_128 (by decide) ?_
        refine z_imul dX5_carry_130 ?_
        refine z_iload_n dX5_carry_131 2 rfl ?_
        refine z_bipush (v := 7) dX5_carry_132 (by decide) ?_
        refine z_imul dX5_carry_134 ?_
        obtain ⟨s18, e19, h⟩ := o_bdv h
        refine z_callVv (As := [.int _, .int _, .int _]) (e_row_turn (r := 3) (kd := 2) (by decide) (by decide) e19) (by decide) rm_turn ml_X5_85 rfl rfl (Nat.le_of_ble_eq_true rfl) (rv_row (r := 3) (by decide)) dX5_carry_135 ?_
        refine z_iload_n dX5_carry_138 2 rfl ?_
        refine z_iload dX5_carry_139 3 rfl ?_
        refine z_iload_n dX5_carry_141 1 rfl ?_
        refine z_isub dX5_carry_142 ?_
        refine z_isub dX5_carry_143 ?_
        cases h
        exact z_iret rfl rfl rfl dX5_carry_144
      · replace h := o_in hc17 h
        refine z_aload_n dX5_carry_96 0 rfl ?_
        refine zg_X5_cells fl_X5_12 dX5_carry_97 ?_
        refine z_iload_n dX5_carry_100 2 rfl ?_
        refine z_bipush (v := 7) dX5_carry_101 (by decide) ?_
        refine z_imul dX5_carry_103 ?_
        refine z_iload_n dX5_carry_104 1 rfl ?_
        refine z_bipush (v := 7) dX5_carry_105 (by decide) ?_
        refine z_imul dX5_carry_107 ?_
        refine z_iload dX5_carry_108 3 rfl ?_
        refine z_bipush (v := 7) dX5_carry_110 (by decide) ?_
        refine z_imul dX5_carry_112 ?_
        obtain ⟨s20, e21, h⟩ := o_bdv h
        refine z_callVv (As := [.int _, .int _, .int _]) (e_row_turn (r := 3) (kd := 2) (by decide) (by decide) e21) (by decide) rm_turn ml_X5_85 rfl rfl (Nat.le_of_ble_eq_true rfl) (rv_row (r := 3) (by decide)) dX5_carry_113 ?_
        refine z_iload_n dX5_carry_116 2 rfl ?_
        cases h
        exact z_iret rfl rfl rfl dX5_carry_117
    · replace h := o_in hc16 h
      refine z_aload_n dX5_carry_51 0 rfl ?_
      refine z_iload dX5_carry_52 6 rfl ?_
      refine z_iconst (v := 1) dX5_carry_54 (by decide) ?_
      refine z_aload_n dX5_carry_55 0 rfl ?_
      refine z_iload dX5_carry_56 6 rfl ?_
      refine z_iconst (v := 1) dX5_carry_58 (by decide) ?_
      obtain ⟨x24, s22, e23, h⟩ := o_bdi h
      refine z_callVi (As := [.int _, .int _]) (e_X5_get e23) (by decide) mi_X5_get ml_X5_44 rfl rfl (Nat.le_of_ble_eq_true rfl) rv_2 dX5_carry_59 ?_
      refine z_iload dX5_carry_62 4 rfl ?_
      refine z_iadd dX5_carry_64 ?_
      obtain ⟨s25, e26, h⟩ := o_bdv h
      refine z_callVv (As := [.int _, .int _, .int _]) (e_X5_set e26) (by decide) mi_X5_set ml_X5_56 rfl rfl (Nat.le_of_ble_eq_true rfl) rv_2 dX5_carry_65 ?_
      refine z_aload_n dX5_carry_68 0 rfl ?_
      refine z_iload dX5_carry_69 6 rfl ?_
      refine z_iconst (v := 2) dX5_carry_71 (by decide) ?_
      refine z_aload_n dX5_carry_72 0 rfl ?_
      refine z_iload dX5_carry_73 6 rfl ?_
      refine z_iconst (v := 2) dX5_carry_75 (by decide) ?_
      obtain ⟨x29, s27, e28, h⟩ := o_bdi h
      refine z_callVi (As := [.int _, .int _]) (e_X5_get e28) (by decide) mi_X5_get ml_X5_44 rfl rfl (Nat.le_of_ble_eq_true rfl) rv_2 dX5_carry_76 ?_
      refine z_iload dX5_carry_79 5 rfl ?_
      refine z_iadd dX5_carry_81 ?_
      obtain ⟨s30, e31, h⟩ := o_bdv h
      refine z_callVv (As := [.int _, .int _, .int _]) (e_X5_set e31) (by decide) mi_X5_set ml_X5_56 rfl rfl (Nat.le_of_ble_eq_true rfl) rv_2 dX5_carry_82 ?_
      refine z_iinc (v := _ + 1) (L' := [(7, .int _), (0, .ref _), (1, .int _), (3, .int _), (4, .int _), (5, .int _), (6, .int _)]) dX5_carry_85 6 rfl rfl (by decide) rfl ?_
      refine z_goto (tgt := 44) dX5_carry_88 (by decide) ?_
      exact o_Z.sub [1, 2, 3, 4, 5, 6, 0] rfl (ih _ _ _ _ _ _ _ h)
set_option maxRecDepth 10000 in
theorem s_X5_carry {G : o_G} {N : Nat} {r : Int32} {σ' : o_S} {p1 : Int32} {p2 : Int32} {p3 : Int32} {s : o_S} (h : f_X5_carry N p1 p2 p3 s = some (r, σ')) : o_Z G RX5 cX5_carry (Option.some Jvm.ClassFile.FieldType.int) 8 3 (o_E G (some (.int r)) σ') (o_k σ') s 0 [(0, .ref (g_ad G 2)), (1, .int p1), (2, .int p2), (3, .int p3)] [] := by
  unfold f_X5_carry at h
  refine z_aload_n dX5_carry_0 0 rfl ?_
  refine z_iload_n dX5_carry_1 1 rfl ?_
  obtain ⟨x3, s1, e2, h⟩ := o_bdi h
  refine z_callVi (As := [.int _]) (e_X5_after e2) (by decide) mi_X5_after ml_X5_60 rfl rfl (Nat.le_of_ble_eq_true rfl) rv_2 dX5_carry_2 ?_
  refine z_istore (L' := [(4, .int _), (0, .ref _), (1, .int _), (2, .int _), (3, .int _)]) dX5_carry_5 (by decide) rfl ?_
  refine z_aload_n dX5_carry_7 1 rfl ?_
  refine z_iload_n dX5_carry_8 3 rfl ?_
  refine z_iconst (v := 1) dX5_carry_9 (by decide) ?_
  obtain ⟨x6, s4, e5, h⟩ := o_bdi h
  refine z_callVi (As := [.int _, .int _]) (e_X5_get e5) (by decide) mi_X5_get ml_X5_44 rfl rfl (Nat.le_of_ble_eq_true rfl) rv_2 dX5_carry_10 ?_
  refine z_iconst (v := 1) dX5_carry_13 (by decide) ?_
  refine z_iadd dX5_carry_14 ?_
  refine z_aload_n dX5_carry_15 1 rfl ?_
  refine z_iload_n dX5_carry_16 2 rfl ?_
  refine z_iconst (v := 1) dX5_carry_17 (by decide) ?_
  obtain ⟨x9, s7, e8, h⟩ := o_bdi h
  refine z_callVi (As := [.int _, .int _]) (e_X5_get e8) (by decide) mi_X5_get ml_X5_44 rfl rfl (Nat.le_of_ble_eq_true rfl) rv_2 dX5_carry_18 ?_
  refine z_isub dX5_carry_21 ?_
  refine z_istore (L' := [(5, .int _), (4, .int _), (0, .ref _), (1, .int _), (2, .int _), (3, .int _)]) dX5_carry_22 (by decide) rfl ?_
  refine z_aload_n dX5_carry_24 2 rfl ?_
  refine z_iload_n dX5_carry_25 4 rfl ?_
  refine z_iconst (v := 2) dX5_carry_26 (by decide) ?_
  obtain ⟨x12, s10, e11, h⟩ := o_bdi h
  refine z_callVi (As := [.int _, .int _]) (e_X5_get e11) (by decide) mi_X5_get ml_X5_44 rfl rfl (Nat.le_of_ble_eq_true rfl) rv_2 dX5_carry_27 ?_
  refine z_iconst (v := 1) dX5_carry_30 (by decide) ?_
  refine z_iadd dX5_carry_31 ?_
  refine z_aload_n dX5_carry_32 2 rfl ?_
  refine z_iload_n dX5_carry_33 3 rfl ?_
  refine z_iconst (v := 2) dX5_carry_34 (by decide) ?_
  obtain ⟨x15, s13, e14, h⟩ := o_bdi h
  refine z_callVi (As := [.int _, .int _]) (e_X5_get e14) (by decide) mi_X5_get ml_X5_44 rfl rfl (Nat.le_of_ble_eq_true rfl) rv_2 dX5_carry_35 ?_
  refine z_isub dX5_carry_38 ?_
  refine z_istore (L' := [(6, .int _), (5, .int _), (4, .int _), (0, .ref _), (1, .int _), (2, .int _), (3, .int _)]) dX5_carry_39 (by decide) rfl ?_
  refine z_iload_n dX5_carry_41 4 rfl ?_
  refine z_istore (L' := [(7, .int _), (6, .int _), (5, .int _), (4, .int _), (0, .ref _), (1, .int _), (2, .int _), (3, .int _)]) dX5_carry_42 (by decide) rfl ?_
  exact o_Z.sub [4, 5, 7, 3, 2, 1, 0] rfl (s_X5_carry_L44 _ _ _ _ _ _ _ _ h)
theorem e_X5_carry {G : o_G} {N : Nat} {r : Int32} {σ' : o_S} {p1 : Int32} {p2 : Int32} {p3 : Int32} {s : o_S} (h : f_X5_carry N p1 p2 p3 s = some (r, σ')) : o_Ev G yX5_carry cX5_carry 8 (Option.some Jvm.ClassFile.FieldType.int) 3 [.ref (g_ad G 2), .int p1, .int p2, .int p3] s (some (.int r)) σ' := o_Ev.mk rfl (Nat.le_of_ble_eq_true rfl) (s_X5_carry h)
-- X6_unpack
set_option maxRecDepth 10000 in
theorem s_X6_unpack_L11 {G : o_G} {N : Nat} {σ' : o_S} : ∀ (n : Nat) (l1 : Int64) (l3 : Int32) (s : o_S), f_X6_unpack_L11 N n l1 l3 s = some σ' → o_Z G RX6 cX6_unpack (Option.none : Option Jvm.ClassFile.FieldType) 5 6 (o_E G (none) σ') (o_k σ') s 11 [(0, .ref (g_ad G 0)), (1, .long l1), (3, .int l3)] [] := by
  intro n
  induction n with
  | zero => intro l1 l3 s h; cases h
  | succ n ih =>
    intro l1 l3 s h
    rw [f_X6_unpack_L11] at h
    refine z_iload_n dX6_unpack_11 2 rfl ?_
    refine z_if_lt (tgt := 45) dX6_unpack_12 (by decide) (fun hc2 => ?_) (fun hc2 => ?_)
    · replace h := o_ip hc2 h
      cases h
      exact z_vret rfl rfl rfl dX6_unpack_45
    · replace h := o_in hc2 h
      refine z_lload_n dX6_unpack_15 1 rfl ?_
      refine z_iload_n dX6_unpack_16 2 rfl ?_
      refine z_lushr dX6_unpack_17 ?_
      refine z_l2i dX6_unpack_18 ?_
      refine z_sipush (v := 255) dX6_unpack_19 (by decide) ?_
      refine z_iand dX6_unpack_22 ?_
      refine z_istore (L' := [(4, .int _), (0, .ref _), (1, .long _), (3, .int _)]) dX6_unpack_23 (by decide) rfl ?_
      refine z_iload dX6_unpack_25 0 rfl ?_
      refine z_if_eq (tgt := 39) dX6_unpack_27 (by decide) (fun hc3 => ?_) (fun hc3 => ?_)
      · replace h := o_ip hc3 h
        refine z_iinc (v := _ + (-8)) (L' := [(3, .int _), (4, .int _), (0, .ref _), (1, .long _)]) dX6_unpack_39 3 rfl rfl (by decide) rfl ?_
        refine z_goto (tgt := 11) dX6_unpack_42 (by decide) ?_
        exact o_Z.sub [2, 3, 0] rfl (ih _ _ _ h)
      · replace h := o_in hc3 h
        refine z_aload_n dX6_unpack_30 1 rfl ?_
        refine zg_X6_unpacked fl_X6_16 dX6_unpack_31 ?_
        refine z_iload dX6_unpack_34 0 rfl ?_
        obtain ⟨s4, e5, h⟩ := o_bdv h
        refine z_callVv (As := [.int _]) (e_row_push (r := 1) (kd := 5) (by decide) (by decide) e5) (by decide) rm_push ml_X6_91 rfl rfl (Nat.le_of_ble_eq_true rfl) (rv_row (r := 1) (by decide)) dX6_unpack_36 ?_
        refine z_iinc (v := _ + (-8)) (L' := [(3, .int _), (4, .int _), (0, .ref _), (1, .long _)]) dX6_unpack_39 3 rfl rfl (by decide) rfl ?_
        refine z_goto (tgt := 11) dX6_unpack_42 (by decide) ?_
        exact o_Z.sub [2, 3, 0] rfl (ih _ _ _ h)
set_option maxRecDepth 10000 in
theorem s_X6_unpack {G : o_G} {N : Nat} {σ' : o_S} {p1 : Int64} {s : o_S} (h : f_X6_unpack N p1 s = some σ') : o_Z G RX6 cX6_unpack (Option.none : Option Jvm.ClassFile.FieldType) 5 6 (o_E G (none) σ') (o_k σ') s 0 [(0, .ref (g_ad G 0)), (1, .long p1)] [] := by
  unfold f_X6_unpack at h
  refine z_aload_n dX6_unpack_0 0 rfl ?_
  refine zg_X6_unpacked fl_X6_16 dX6_unpack_1 ?_
  refine z_iconst (v := 0) dX6_unpack_4 (by decide) ?_
  replace h := o_dd h
  refine z_callVv (As := [.int _]) (e_row_cut (r := 1) (kd := 0) (by decide) _) (by decide) rm_cut ml_X6_97 rfl rfl (Nat.le_of_ble_eq_true rfl) (rv_row (r := 1) (by decide)) dX6_unpack_5 ?_
  refine z_bipush (v := 56) dX6_unpack_8 (by decide) ?_
  refine z_istore_n (L' := [(3, .int _), (0, .ref _), (1, .long _)]) dX6_unpack_10 (by decide) rfl ?_
  exact o_Z.sub [1, 2, 0] rfl (s_X6_unpack_L11 _ _ _ _ h)
theorem e_X6_unpack {G : o_G} {N : Nat} {σ' : o_S} {p1 : Int64} {s : o_S} (h : f_X6_unpack N p1 s = some σ') : o_Ev G yX6_unpack cX6_unpack 5 (Option.none : Option Jvm.ClassFile.FieldType) 6 [.ref (g_ad G 0), .long p1] s (none) σ' := o_Ev.mk rfl (Nat.le_of_ble_eq_true rfl) (s_X6_unpack h)
-- X6_isTextByte
set_option maxRecDepth 10000 in
theorem s_X6_isTextByte {G : o_G} {N : Nat} {r : Int32} {σ' : o_S} {p1 : Int32} {s : o_S} (h : f_X6_isTextByte N p1 s = some (r, σ')) : o_Z G RX6 cX6_isTextByte (Option.some Jvm.ClassFile.FieldType.boolean) 1 0 (o_E G (some (.int r)) σ') (o_k σ') s 0 [(0, .int p1)] [] := by
  unfold f_X6_isTextByte at h
  refine z_iload_n dX6_isTextByte_0 0 rfl ?_
  refine z_bipush (v := 10) dX6_isTextByte_1 (by decide) ?_
  refine z_icmp_eq (tgt := 18) dX6_isTextByte_3 (by decide) (fun hc1 => ?_) (fun hc1 => ?_)
  · replace h := o_ip hc1 h
    refine z_iconst (v := 1) dX6_isTextByte_18 (by decide) ?_
    refine z_goto (tgt := 23) dX6_isTextByte_19 (by decide) ?_
    cases h
    exact z_zret (by decide) rfl rfl rfl dX6_isTextByte_23
  · replace h := o_in hc1 h
    refine z_iload_n dX6_isTextByte_6 0 rfl ?_
    refine z_bipush (v := 32) dX6_isTextByte_7 (by decide) ?_
    refine z_icmp_lt (tgt := 22) dX6_isTextByte_9 (by decide) (fun hc2 => ?_) (fun hc2 => ?_)
    · replace h := o_ip hc2 h
      refine z_iconst (v := 0) dX6_isTextByte_22 (by decide) ?_
      cases h
      exact z_zret (by decide) rfl rfl rfl dX6_isTextByte_23
    · replace h := o_in hc2 h
      refine z_iload_n dX6_isTextByte_12 0 rfl ?_
      refine z_bipush (v := 126) dX6_isTextByte_13 (by decide) ?_
      refine z_icmp_gt (tgt := 22) dX6_isTextByte_15 (by decide) (fun hc3 => ?_) (fun hc3 => ?_)
      · replace h := o_ip hc3 h
        refine z_iconst (v := 0) dX6_isTextByte_22 (by decide) ?_
        cases h
        exact z_zret (by decide) rfl rfl rfl dX6_isTextByte_23
      · replace h := o_in hc3 h
        refine z_iconst (v := 1) dX6_isTextByte_18 (by decide) ?_
        refine z_goto (tgt := 23) dX6_isTextByte_19 (by decide) ?_
        cases h
        exact z_zret (by decide) rfl rfl rfl dX6_isTextByte_23
theorem e_X6_isTextByte {G : o_G} {N : Nat} {r : Int32} {σ' : o_S} {p1 : Int32} {s : o_S} (h : f_X6_isTextByte N p1 s = some (r, σ')) : o_Ev G yX6_isTextByte cX6_isTextByte 1 (Option.some Jvm.ClassFile.FieldType.boolean) 0 [.int p1] s (some (.int r)) σ' := o_Ev.mk rfl (Nat.le_of_ble_eq_true rfl) (s_X6_isTextByte h)
-- X6_feed
set_option maxRecDepth 10000 in
theorem s_X6_feed_L81 {G : o_G} {N : Nat} {o : Nat ⊕ Int32} {σ' : o_S} : ∀ (n : Nat) (l3 : Int32) (s : o_S), f_X6_feed_L81 N n l3 s = some (o, σ') → o_Z G RX6 cX6_feed (Option.some Jvm.ClassFile.FieldType.int) 4 7 (o_EX G (Sum.map id (fun r => some (.int r)) o) σ') (o_k σ') s 81 [(0, .ref (g_ad G 0)), (3, .int l3)] [] := by
  intro n
  induction n with
  | zero => intro l3 s h; cases h
  | succ n ih =>
    intro l3 s h
    rw [f_X6_feed_L81] at h
    refine z_iload_n dX6_feed_81 1 rfl ?_
    refine z_aload_n dX6_feed_82 0 rfl ?_
    refine zg_X6_unpacked fl_X6_16 dX6_feed_83 ?_
    refine z_callVi (As := []) (e_row_size (r := 1) (kd := 0) (by decide)) (by decide) rm_size ml_X6_67 rfl rfl (Nat.le_of_ble_eq_true rfl) (rv_row (r := 1) (by decide)) dX6_feed_86 ?_
    refine z_icmp_ge (tgt := 113) dX6_feed_89 (by decide) (fun hc5 => ?_) (fun hc5 => ?_)
    · replace h := o_ip hc5 h
      refine z_aload_n dX6_feed_113 0 rfl ?_
      refine zg_X6_text fl_X6_10 dX6_feed_114 ?_
      refine z_callVi (As := []) (e_row_size (r := 0) (kd := 0) (by decide)) (by decide) rm_size ml_X6_67 rfl rfl (Nat.le_of_ble_eq_true rfl) (rv_row (r := 0) (by decide)) dX6_feed_117 ?_
      cases h
      exact zx_iret rfl rfl rfl dX6_feed_120
    · replace h := o_in hc5 h
      refine z_aload_n dX6_feed_92 0 rfl ?_
      refine zg_X6_text fl_X6_10 dX6_feed_93 ?_
      refine z_aload_n dX6_feed_96 0 rfl ?_
      refine zg_X6_unpacked fl_X6_16 dX6_feed_97 ?_
      refine z_iload_n dX6_feed_100 1 rfl ?_
      replace h := o_dd h
      refine z_callVi (As := [.int _]) (e_row_at (r := 1) (kd := 0) (by decide) _) (by decide) rm_at ml_X6_71 rfl rfl (Nat.le_of_ble_eq_true rfl) (rv_row (r := 1) (by decide)) dX6_feed_101 ?_
      obtain ⟨s7, e8, h⟩ := o_bdv h
      refine z_callVv (As := [.int _]) (e_row_push (r := 0) (kd := 5) (by decide) (by decide) e8) (by decide) rm_push ml_X6_91 rfl rfl (Nat.le_of_ble_eq_true rfl) (rv_row (r := 0) (by decide)) dX6_feed_104 ?_
      refine z_iinc (v := _ + 1) (L' := [(3, .int _), (0, .ref _)]) dX6_feed_107 1 rfl rfl (by decide) rfl ?_
      refine z_goto (tgt := 81) dX6_feed_110 (by decide) ?_
      exact o_Z.sub [1, 0] rfl (ih _ _ h)
set_option maxRecDepth 10000 in
theorem s_X6_feed_L7 {G : o_G} {N : Nat} {o : Nat ⊕ Int32} {σ' : o_S} : ∀ (n : Nat) (l3 : Int32) (s : o_S), f_X6_feed_L7 N n l3 s = some (o, σ') → o_Z G RX6 cX6_feed (Option.some Jvm.ClassFile.FieldType.int) 4 7 (o_EX G (Sum.map id (fun r => some (.int r)) o) σ') (o_k σ') s 7 [(0, .ref (g_ad G 0)), (3, .int l3)] [] := by
  intro n
  induction n with
  | zero => intro l3 s h; cases h
  | succ n ih =>
    intro l3 s h
    rw [f_X6_feed_L7] at h
    refine z_iload_n dX6_feed_7 1 rfl ?_
    refine z_aload_n dX6_feed_8 0 rfl ?_
    refine zg_X6_unpacked fl_X6_16 dX6_feed_9 ?_
    refine z_callVi (As := []) (e_row_size (r := 1) (kd := 0) (by decide)) (by decide) rm_size ml_X6_67 rfl rfl (Nat.le_of_ble_eq_true rfl) (rv_row (r := 1) (by decide)) dX6_feed_12 ?_
    refine z_icmp_ge (tgt := 48) dX6_feed_15 (by decide) (fun hc3 => ?_) (fun hc3 => ?_)
    · replace h := o_ip hc3 h
      refine z_aload_n dX6_feed_48 0 rfl ?_
      refine zg_X6_text fl_X6_10 dX6_feed_49 ?_
      refine z_callVi (As := []) (e_row_size (r := 0) (kd := 0) (by decide)) (by decide) rm_size ml_X6_67 rfl rfl (Nat.le_of_ble_eq_true rfl) (rv_row (r := 0) (by decide)) dX6_feed_52 ?_
      refine z_aload_n dX6_feed_55 0 rfl ?_
      refine zg_X6_unpacked fl_X6_16 dX6_feed_56 ?_
      refine z_callVi (As := []) (e_row_size (r := 1) (kd := 0) (by decide)) (by decide) rm_size ml_X6_67 rfl rfl (Nat.le_of_ble_eq_true rfl) (rv_row (r := 1) (by decide)) dX6_feed_59 ?_
      refine z_iadd dX6_feed_62 ?_
      refine z_sipush (v := 600) dX6_feed_63 (by decide) ?_
      refine z_icmp_le (tgt := 79) dX6_feed_66 (by decide) (fun hc4 => ?_) (fun hc4 => ?_)
      · replace h := o_ip hc4 h
        refine z_iconst (v := 0) dX6_feed_79 (by decide) ?_
        refine z_istore_n (L' := [(3, .int _), (0, .ref _)]) dX6_feed_80 (by decide) rfl ?_
        exact o_Z.sub [1, 0] rfl (s_X6_feed_L81 _ _ _ h)
      · replace h := o_in hc4 h
        cases h
        exact zx_throw (n := 2) rfl rfl (by decide) kl_X6_86 in_IllegalStateException (by decide) (text := "the text would be too long") (by decide) o_atS dX6_feed_69 dX6_feed_72 dX6_feed_73 dX6_feed_75 dX6_feed_78 (Nat.le_of_ble_eq_true rfl)
    · replace h := o_in hc3 h
      refine z_aload_n dX6_feed_18 0 rfl ?_
      refine zg_X6_unpacked fl_X6_16 dX6_feed_19 ?_
      refine z_iload_n dX6_feed_22 1 rfl ?_
      replace h := o_dd h
      refine z_callVi (As := [.int _]) (e_row_at (r := 1) (kd := 0) (by decide) _) (by decide) rm_at ml_X6_71 rfl rfl (Nat.le_of_ble_eq_true rfl) (rv_row (r := 1) (by decide)) dX6_feed_23 ?_
      obtain ⟨x12, s10, e11, h⟩ := o_bdi h
      refine z_callSi (As := [.int _]) (e_X6_isTextByte e11) (by decide) mi_X6_isTextByte ml_X6_75 rfl rfl (Nat.le_of_ble_eq_true rfl) dX6_feed_26 ?_
      refine z_if_ne (tgt := 42) dX6_feed_29 (by decide) (fun hc13 => ?_) (fun hc13 => ?_)
      · replace h := o_in hc13 h
        refine z_iinc (v := _ + 1) (L' := [(3, .int _), (0, .ref _)]) dX6_feed_42 1 rfl rfl (by decide) rfl ?_
        refine z_goto (tgt := 7) dX6_feed_45 (by decide) ?_
        exact o_Z.sub [1, 0] rfl (ih _ _ h)
      · replace h := o_ip hc13 h
        cases h
        exact zx_throw (n := 1) rfl rfl (by decide) kl_X6_79 in_IllegalArgumentException (by decide) (text := "a byte that no text may have") (by decide) o_atA dX6_feed_32 dX6_feed_35 dX6_feed_36 dX6_feed_38 dX6_feed_41 (Nat.le_of_ble_eq_true rfl)
set_option maxRecDepth 10000 in
theorem s_X6_feed {G : o_G} {N : Nat} {o : Nat ⊕ Int32} {σ' : o_S} {p1 : Int64} {s : o_S} (h : f_X6_feed N p1 s = some (o, σ')) : o_Z G RX6 cX6_feed (Option.some Jvm.ClassFile.FieldType.int) 4 7 (o_EX G (Sum.map id (fun r => some (.int r)) o) σ') (o_k σ') s 0 [(0, .ref (g_ad G 0)), (1, .long p1)] [] := by
  unfold f_X6_feed at h
  refine z_aload_n dX6_feed_0 0 rfl ?_
  refine z_lload_n dX6_feed_1 1 rfl ?_
  obtain ⟨s1, e2, h⟩ := o_bdv h
  refine z_callVv (As := [.long _]) (e_X6_unpack e2) (by decide) mi_X6_unpack ml_X6_63 rfl rfl (Nat.le_of_ble_eq_true rfl) rv_0 dX6_feed_2 ?_
  refine z_iconst (v := 0) dX6_feed_5 (by decide) ?_
  refine z_istore_n (L' := [(3, .int _), (0, .ref _), (1, .long _)]) dX6_feed_6 (by decide) rfl ?_
  exact o_Z.sub [1, 0] rfl (s_X6_feed_L7 _ _ _ h)
theorem e_X6_feed {G : o_G} {N : Nat} {o : Nat ⊕ Int32} {σ' : o_S} {p1 : Int64} {s : o_S} (h : f_X6_feed N p1 s = some (o, σ')) : o_EvX G yX6_feed cX6_feed 4 (Option.some Jvm.ClassFile.FieldType.int) 7 [.ref (g_ad G 0), .long p1] s (Sum.map id (fun r => some (.int r)) o) σ' := o_EvX.mk rfl (Nat.le_of_ble_eq_true rfl) (s_X6_feed h)
-- X6_trim
set_option maxRecDepth 10000 in
theorem s_X6_trim {G : o_G} {N : Nat} {o : Nat ⊕ Int32} {σ' : o_S} {p1 : Int32} {s : o_S} (h : f_X6_trim N p1 s = some (o, σ')) : o_Z G RX6 cX6_trim (Option.some Jvm.ClassFile.FieldType.int) 3 6 (o_EX G (Sum.map id (fun r => some (.int r)) o) σ') (o_k σ') s 0 [(0, .ref (g_ad G 0)), (1, .int p1)] [] := by
  unfold f_X6_trim at h
  refine z_aload_n dX6_trim_0 0 rfl ?_
  refine zg_X6_text fl_X6_10 dX6_trim_1 ?_
  refine z_callVi (As := []) (e_row_size (r := 0) (kd := 0) (by decide)) (by decide) rm_size ml_X6_67 rfl rfl (Nat.le_of_ble_eq_true rfl) (rv_row (r := 0) (by decide)) dX6_trim_4 ?_
  refine z_istore_n (L' := [(2, .int _), (0, .ref _), (1, .int _)]) dX6_trim_7 (by decide) rfl ?_
  refine z_iload_n dX6_trim_8 2 rfl ?_
  refine z_if_lt (tgt := 17) dX6_trim_9 (by decide) (fun hc1 => ?_) (fun hc1 => ?_)
  · replace h := o_ip hc1 h
    cases h
    exact zx_throw (n := 1) rfl rfl (by decide) kl_X6_79 in_IllegalArgumentException (by decide) (text := "not a length within the text") (by decide) o_atA dX6_trim_17 dX6_trim_20 dX6_trim_21 dX6_trim_23 dX6_trim_26 (Nat.le_of_ble_eq_true rfl)
  · replace h := o_in hc1 h
    refine z_iload_n dX6_trim_12 2 rfl ?_
    refine z_iload_n dX6_trim_13 0 rfl ?_
    refine z_icmp_le (tgt := 27) dX6_trim_14 (by decide) (fun hc2 => ?_) (fun hc2 => ?_)
    · replace h := o_ip hc2 h
      refine z_aload_n dX6_trim_27 1 rfl ?_
      refine zg_X6_text fl_X6_10 dX6_trim_28 ?_
      refine z_iload_n dX6_trim_31 2 rfl ?_
      replace h := o_dd h
      refine z_callVv (As := [.int _]) (e_row_cut (r := 0) (kd := 0) (by decide) _) (by decide) rm_cut ml_X6_97 rfl rfl (Nat.le_of_ble_eq_true rfl) (rv_row (r := 0) (by decide)) dX6_trim_32 ?_
      refine z_iload_n dX6_trim_35 0 rfl ?_
      cases h
      exact zx_iret rfl rfl rfl dX6_trim_36
    · replace h := o_in hc2 h
      cases h
      exact zx_throw (n := 1) rfl rfl (by decide) kl_X6_79 in_IllegalArgumentException (by decide) (text := "not a length within the text") (by decide) o_atA dX6_trim_17 dX6_trim_20 dX6_trim_21 dX6_trim_23 dX6_trim_26 (Nat.le_of_ble_eq_true rfl)
theorem e_X6_trim {G : o_G} {N : Nat} {o : Nat ⊕ Int32} {σ' : o_S} {p1 : Int32} {s : o_S} (h : f_X6_trim N p1 s = some (o, σ')) : o_EvX G yX6_trim cX6_trim 3 (Option.some Jvm.ClassFile.FieldType.int) 6 [.ref (g_ad G 0), .int p1] s (Sum.map id (fun r => some (.int r)) o) σ' := o_EvX.mk rfl (Nat.le_of_ble_eq_true rfl) (s_X6_trim h)
-- X6_length
set_option maxRecDepth 10000 in
theorem s_X6_length {G : o_G} {N : Nat} {r : Int32} {σ' : o_S} {s : o_S} (h : f_X6_length N  s = some (r, σ')) : o_Z G RX6 cX6_length (Option.some Jvm.ClassFile.FieldType.int) 1 1 (o_E G (some (.int r)) σ') (o_k σ') s 0 [(0, .ref (g_ad G 0))] [] := by
  unfold f_X6_length at h
  refine z_aload_n dX6_length_0 0 rfl ?_
  refine zg_X6_text fl_X6_10 dX6_length_1 ?_
  refine z_callVi (As := []) (e_row_size (r := 0) (kd := 0) (by decide)) (by decide) rm_size ml_X6_67 rfl rfl (Nat.le_of_ble_eq_true rfl) (rv_row (r := 0) (by decide)) dX6_length_4 ?_
  cases h
  exact z_iret rfl rfl rfl dX6_length_7
theorem e_X6_length {G : o_G} {N : Nat} {r : Int32} {σ' : o_S} {s : o_S} (h : f_X6_length N  s = some (r, σ')) : o_Ev G yX6_length cX6_length 1 (Option.some Jvm.ClassFile.FieldType.int) 1 [.ref (g_ad G 0)] s (some (.int r)) σ' := o_Ev.mk rfl (Nat.le_of_ble_eq_true rfl) (s_X6_length h)
-- X6_parse
set_option maxRecDepth 10000 in
theorem s_X6_parse_L30 {G : o_G} {N : Nat} {r : Int32} {σ' : o_S} : ∀ (n : Nat) (l1 : Int32) (s : o_S), f_X6_parse_L30 N n l1 s = some (r, σ') → o_Z G RX6 cX6_parse (Option.some Jvm.ClassFile.FieldType.int) 2 11 (o_E G (some (.int r)) σ') (o_k σ') s 30 [(0, .ref (g_ad G 0)), (1, .int l1)] [] := by
  intro n
  induction n with
  | zero => intro l1 s h; cases h
  | succ n ih =>
    intro l1 s h
    rw [f_X6_parse_L30] at h
    refine z_iload_n dX6_parse_30 1 rfl ?_
    refine z_sipush (v := 600) dX6_parse_31 (by decide) ?_
    refine z_icmp_gt (tgt := 60) dX6_parse_34 (by decide) (fun hc9 => ?_) (fun hc9 => ?_)
    · replace h := o_ip hc9 h
      refine z_aload_n dX6_parse_60 0 rfl ?_
      refine zg_X6_builder fl_X6_47 dX6_parse_61 ?_
      obtain ⟨s10, e11, h⟩ := o_bdv h
      refine z_callVv (As := []) (e_X0_finish e11) (by decide) mi_X0_finish ml_X6_110 rfl rfl (Nat.le_of_ble_eq_true rfl) rv_4 dX6_parse_64 ?_
      refine z_aload_n dX6_parse_67 0 rfl ?_
      refine zg_X6_tree fl_X6_29 dX6_parse_68 ?_
      obtain ⟨x14, s12, e13, h⟩ := o_bdi h
      refine z_callVi (As := []) (e_X5_size e13) (by decide) mi_X5_size ml_X6_113 rfl rfl (Nat.le_of_ble_eq_true rfl) rv_2 dX6_parse_71 ?_
      cases h
      exact z_iret rfl rfl rfl dX6_parse_74
    · replace h := o_in hc9 h
      refine z_aload_n dX6_parse_37 0 rfl ?_
      refine zg_X6_lexer fl_X6_38 dX6_parse_38 ?_
      obtain ⟨x17, s15, e16, h⟩ := o_bdi h
      refine z_callVi (As := []) (e_X1_readToken e16) (by decide) mi_X1_readToken ml_X6_103 rfl rfl (Nat.le_of_ble_eq_true rfl) rv_3 dX6_parse_41 ?_
      refine z_if_eq (tgt := 60) dX6_parse_44 (by decide) (fun hc18 => ?_) (fun hc18 => ?_)
      · replace h := o_ip hc18 h
        refine z_aload_n dX6_parse_60 0 rfl ?_
        refine zg_X6_builder fl_X6_47 dX6_parse_61 ?_
        obtain ⟨s19, e20, h⟩ := o_bdv h
        refine z_callVv (As := []) (e_X0_finish e20) (by decide) mi_X0_finish ml_X6_110 rfl rfl (Nat.le_of_ble_eq_true rfl) rv_4 dX6_parse_64 ?_
        refine z_aload_n dX6_parse_67 0 rfl ?_
        refine zg_X6_tree fl_X6_29 dX6_parse_68 ?_
        obtain ⟨x23, s21, e22, h⟩ := o_bdi h
        refine z_callVi (As := []) (e_X5_size e22) (by decide) mi_X5_size ml_X6_113 rfl rfl (Nat.le_of_ble_eq_true rfl) rv_2 dX6_parse_71 ?_
        cases h
        exact z_iret rfl rfl rfl dX6_parse_74
      · replace h := o_in hc18 h
        refine z_aload_n dX6_parse_47 0 rfl ?_
        refine zg_X6_builder fl_X6_47 dX6_parse_48 ?_
        obtain ⟨s24, e25, h⟩ := o_bdv h
        refine z_callVv (As := []) (e_X0_take e25) (by decide) mi_X0_take ml_X6_107 rfl rfl (Nat.le_of_ble_eq_true rfl) rv_4 dX6_parse_51 ?_
        refine z_iinc (v := _ + 1) (L' := [(1, .int _), (0, .ref _)]) dX6_parse_54 1 rfl rfl (by decide) rfl ?_
        refine z_goto (tgt := 30) dX6_parse_57 (by decide) ?_
        exact o_Z.sub [1, 0] rfl (ih _ _ h)
set_option maxRecDepth 10000 in
theorem s_X6_parse {G : o_G} {N : Nat} {r : Int32} {σ' : o_S} {s : o_S} (h : f_X6_parse N  s = some (r, σ')) : o_Z G RX6 cX6_parse (Option.some Jvm.ClassFile.FieldType.int) 2 11 (o_E G (some (.int r)) σ') (o_k σ') s 0 [(0, .ref (g_ad G 0))] [] := by
  unfold f_X6_parse at h
  refine z_aload_n dX6_parse_0 0 rfl ?_
  refine zg_X6_repairs fl_X6_22 dX6_parse_1 ?_
  obtain ⟨s1, e2, h⟩ := o_bdv h
  refine z_callVv (As := []) (e_X3_startAgain e2) (by decide) mi_X3_startAgain ml_X6_100 rfl rfl (Nat.le_of_ble_eq_true rfl) rv_1 dX6_parse_4 ?_
  refine z_aload_n dX6_parse_7 0 rfl ?_
  refine zg_X6_tree fl_X6_29 dX6_parse_8 ?_
  obtain ⟨s3, e4, h⟩ := o_bdv h
  refine z_callVv (As := []) (e_X5_startAgain e4) (by decide) mi_X5_startAgain ml_X6_60 rfl rfl (Nat.le_of_ble_eq_true rfl) rv_2 dX6_parse_11 ?_
  refine z_aload_n dX6_parse_14 0 rfl ?_
  refine zg_X6_lexer fl_X6_38 dX6_parse_15 ?_
  obtain ⟨s5, e6, h⟩ := o_bdv h
  refine z_callVv (As := []) (e_X1_startAgain e6) (by decide) mi_X1_startAgain ml_X6_101 rfl rfl (Nat.le_of_ble_eq_true rfl) rv_3 dX6_parse_18 ?_
  refine z_aload_n dX6_parse_21 0 rfl ?_
  refine zg_X6_builder fl_X6_47 dX6_parse_22 ?_
  obtain ⟨s7, e8, h⟩ := o_bdv h
  refine z_callVv (As := []) (e_X0_startAgain e8) (by decide) mi_X0_startAgain ml_X6_102 rfl rfl (Nat.le_of_ble_eq_true rfl) rv_4 dX6_parse_25 ?_
  refine z_iconst (v := 0) dX6_parse_28 (by decide) ?_
  refine z_istore_n (L' := [(1, .int _), (0, .ref _)]) dX6_parse_29 (by decide) rfl ?_
  exact o_Z.sub [1, 0] rfl (s_X6_parse_L30 _ _ _ h)
theorem e_X6_parse {G : o_G} {N : Nat} {r : Int32} {σ' : o_S} {s : o_S} (h : f_X6_parse N  s = some (r, σ')) : o_Ev G yX6_parse cX6_parse 2 (Option.some Jvm.ClassFile.FieldType.int) 11 [.ref (g_ad G 0)] s (some (.int r)) σ' := o_Ev.mk rfl (Nat.le_of_ble_eq_true rfl) (s_X6_parse h)
-- X6_repairCount
set_option maxRecDepth 10000 in
theorem s_X6_repairCount {G : o_G} {N : Nat} {r : Int32} {σ' : o_S} {s : o_S} (h : f_X6_repairCount N  s = some (r, σ')) : o_Z G RX6 cX6_repairCount (Option.some Jvm.ClassFile.FieldType.int) 1 1 (o_E G (some (.int r)) σ') (o_k σ') s 0 [(0, .ref (g_ad G 0))] [] := by
  unfold f_X6_repairCount at h
  refine z_aload_n dX6_repairCount_0 0 rfl ?_
  refine zg_X6_repairs fl_X6_22 dX6_repairCount_1 ?_
  obtain ⟨x3, s1, e2, h⟩ := o_bdi h
  refine z_callVi (As := []) (e_X3_size e2) (by decide) mi_X3_size ml_X6_114 rfl rfl (Nat.le_of_ble_eq_true rfl) rv_1 dX6_repairCount_4 ?_
  cases h
  exact z_iret rfl rfl rfl dX6_repairCount_7
theorem e_X6_repairCount {G : o_G} {N : Nat} {r : Int32} {σ' : o_S} {s : o_S} (h : f_X6_repairCount N  s = some (r, σ')) : o_Ev G yX6_repairCount cX6_repairCount 1 (Option.some Jvm.ClassFile.FieldType.int) 1 [.ref (g_ad G 0)] s (some (.int r)) σ' := o_Ev.mk rfl (Nat.le_of_ble_eq_true rfl) (s_X6_repairCount h)
-- X6_repair
set_option maxRecDepth 10000 in
theorem s_X6_repair {G : o_G} {N : Nat} {o : Nat ⊕ Int32} {σ' : o_S} {p1 : Int32} {p2 : Int32} {s : o_S} (h : f_X6_repair N p1 p2 s = some (o, σ')) : o_Z G RX6 cX6_repair (Option.some Jvm.ClassFile.FieldType.int) 3 6 (o_EX G (Sum.map id (fun r => some (.int r)) o) σ') (o_k σ') s 0 [(0, .ref (g_ad G 0)), (1, .int p1), (2, .int p2)] [] := by
  unfold f_X6_repair at h
  refine z_iload_n dX6_repair_0 1 rfl ?_
  refine z_if_lt (tgt := 24) dX6_repair_1 (by decide) (fun hc1 => ?_) (fun hc1 => ?_)
  · replace h := o_ip hc1 h
    cases h
    exact zx_throw (n := 3) rfl rfl (by decide) kl_X6_115 in_IndexOutOfBoundsException (by decide) (text := "no such repair") (by decide) o_atI dX6_repair_24 dX6_repair_27 dX6_repair_28 dX6_repair_30 dX6_repair_33 (Nat.le_of_ble_eq_true rfl)
  · replace h := o_in hc1 h
    refine z_iload_n dX6_repair_4 1 rfl ?_
    refine z_aload_n dX6_repair_5 0 rfl ?_
    refine zg_X6_repairs fl_X6_22 dX6_repair_6 ?_
    obtain ⟨x4, s2, e3, h⟩ := o_bdi h
    refine z_callVi (As := []) (e_X3_size e3) (by decide) mi_X3_size ml_X6_114 rfl rfl (Nat.le_of_ble_eq_true rfl) rv_1 dX6_repair_9 ?_
    refine z_icmp_ge (tgt := 24) dX6_repair_12 (by decide) (fun hc5 => ?_) (fun hc5 => ?_)
    · replace h := o_ip hc5 h
      cases h
      exact zx_throw (n := 3) rfl rfl (by decide) kl_X6_115 in_IndexOutOfBoundsException (by decide) (text := "no such repair") (by decide) o_atI dX6_repair_24 dX6_repair_27 dX6_repair_28 dX6_repair_30 dX6_repair_33 (Nat.le_of_ble_eq_true rfl)
    · replace h := o_in hc5 h
      refine z_iload_n dX6_repair_15 2 rfl ?_
      refine z_if_lt (tgt := 24) dX6_repair_16 (by decide) (fun hc6 => ?_) (fun hc6 => ?_)
      · replace h := o_ip hc6 h
        cases h
        exact zx_throw (n := 3) rfl rfl (by decide) kl_X6_115 in_IndexOutOfBoundsException (by decide) (text := "no such repair") (by decide) o_atI dX6_repair_24 dX6_repair_27 dX6_repair_28 dX6_repair_30 dX6_repair_33 (Nat.le_of_ble_eq_true rfl)
      · replace h := o_in hc6 h
        refine z_iload_n dX6_repair_19 2 rfl ?_
        refine z_iconst (v := 3) dX6_repair_20 (by decide) ?_
        refine z_icmp_lt (tgt := 34) dX6_repair_21 (by decide) (fun hc7 => ?_) (fun hc7 => ?_)
        · replace h := o_ip hc7 h
          refine z_aload_n dX6_repair_34 0 rfl ?_
          refine zg_X6_repairs fl_X6_22 dX6_repair_35 ?_
          refine z_iload_n dX6_repair_38 1 rfl ?_
          refine z_iload_n dX6_repair_39 2 rfl ?_
          obtain ⟨x10, s8, e9, h⟩ := o_bdi h
          refine z_callVi (As := [.int _, .int _]) (e_X3_get e9) (by decide) mi_X3_get ml_X6_120 rfl rfl (Nat.le_of_ble_eq_true rfl) rv_1 dX6_repair_40 ?_
          cases h
          exact zx_iret rfl rfl rfl dX6_repair_43
        · replace h := o_in hc7 h
          cases h
          exact zx_throw (n := 3) rfl rfl (by decide) kl_X6_115 in_IndexOutOfBoundsException (by decide) (text := "no such repair") (by decide) o_atI dX6_repair_24 dX6_repair_27 dX6_repair_28 dX6_repair_30 dX6_repair_33 (Nat.le_of_ble_eq_true rfl)
theorem e_X6_repair {G : o_G} {N : Nat} {o : Nat ⊕ Int32} {σ' : o_S} {p1 : Int32} {p2 : Int32} {s : o_S} (h : f_X6_repair N p1 p2 s = some (o, σ')) : o_EvX G yX6_repair cX6_repair 3 (Option.some Jvm.ClassFile.FieldType.int) 6 [.ref (g_ad G 0), .int p1, .int p2] s (Sum.map id (fun r => some (.int r)) o) σ' := o_EvX.mk rfl (Nat.le_of_ble_eq_true rfl) (s_X6_repair h)
-- X6_nodeCount
set_option maxRecDepth 10000 in
theorem s_X6_nodeCount {G : o_G} {N : Nat} {r : Int32} {σ' : o_S} {s : o_S} (h : f_X6_nodeCount N  s = some (r, σ')) : o_Z G RX6 cX6_nodeCount (Option.some Jvm.ClassFile.FieldType.int) 1 1 (o_E G (some (.int r)) σ') (o_k σ') s 0 [(0, .ref (g_ad G 0))] [] := by
  unfold f_X6_nodeCount at h
  refine z_aload_n dX6_nodeCount_0 0 rfl ?_
  refine zg_X6_tree fl_X6_29 dX6_nodeCount_1 ?_
  obtain ⟨x3, s1, e2, h⟩ := o_bdi h
  refine z_callVi (As := []) (e_X5_size e2) (by decide) mi_X5_size ml_X6_113 rfl rfl (Nat.le_of_ble_eq_true rfl) rv_2 dX6_nodeCount_4 ?_
  cases h
  exact z_iret rfl rfl rfl dX6_nodeCount_7
theorem e_X6_nodeCount {G : o_G} {N : Nat} {r : Int32} {σ' : o_S} {s : o_S} (h : f_X6_nodeCount N  s = some (r, σ')) : o_Ev G yX6_nodeCount cX6_nodeCount 1 (Option.some Jvm.ClassFile.FieldType.int) 1 [.ref (g_ad G 0)] s (some (.int r)) σ' := o_Ev.mk rfl (Nat.le_of_ble_eq_true rfl) (s_X6_nodeCount h)
-- X6_checkNode
set_option maxRecDepth 10000 in
theorem s_X6_checkNode {G : o_G} {N : Nat} {o : Nat ⊕ Unit} {σ' : o_S} {p1 : Int32} {s : o_S} (h : f_X6_checkNode N p1 s = some (o, σ')) : o_Z G RX6 cX6_checkNode (Option.none : Option Jvm.ClassFile.FieldType) 2 6 (o_EX G (Sum.map id (fun _ => none) o) σ') (o_k σ') s 0 [(0, .ref (g_ad G 0)), (1, .int p1)] [] := by
  unfold f_X6_checkNode at h
  refine z_iload_n dX6_checkNode_0 1 rfl ?_
  refine z_if_lt (tgt := 15) dX6_checkNode_1 (by decide) (fun hc1 => ?_) (fun hc1 => ?_)
  · replace h := o_ip hc1 h
    cases h
    exact zx_throw (n := 3) rfl rfl (by decide) kl_X6_115 in_IndexOutOfBoundsException (by decide) (text := "no such node") (by decide) o_atI dX6_checkNode_15 dX6_checkNode_18 dX6_checkNode_19 dX6_checkNode_21 dX6_checkNode_24 (Nat.le_of_ble_eq_true rfl)
  · replace h := o_in hc1 h
    refine z_iload_n dX6_checkNode_4 1 rfl ?_
    refine z_aload_n dX6_checkNode_5 0 rfl ?_
    refine zg_X6_tree fl_X6_29 dX6_checkNode_6 ?_
    obtain ⟨x4, s2, e3, h⟩ := o_bdi h
    refine z_callVi (As := []) (e_X5_size e3) (by decide) mi_X5_size ml_X6_113 rfl rfl (Nat.le_of_ble_eq_true rfl) rv_2 dX6_checkNode_9 ?_
    refine z_icmp_lt (tgt := 25) dX6_checkNode_12 (by decide) (fun hc5 => ?_) (fun hc5 => ?_)
    · replace h := o_ip hc5 h
      cases h
      exact zx_vret rfl rfl rfl dX6_checkNode_25
    · replace h := o_in hc5 h
      cases h
      exact zx_throw (n := 3) rfl rfl (by decide) kl_X6_115 in_IndexOutOfBoundsException (by decide) (text := "no such node") (by decide) o_atI dX6_checkNode_15 dX6_checkNode_18 dX6_checkNode_19 dX6_checkNode_21 dX6_checkNode_24 (Nat.le_of_ble_eq_true rfl)
theorem e_X6_checkNode {G : o_G} {N : Nat} {o : Nat ⊕ Unit} {σ' : o_S} {p1 : Int32} {s : o_S} (h : f_X6_checkNode N p1 s = some (o, σ')) : o_EvX G yX6_checkNode cX6_checkNode 2 (Option.none : Option Jvm.ClassFile.FieldType) 6 [.ref (g_ad G 0), .int p1] s (Sum.map id (fun _ => none) o) σ' := o_EvX.mk rfl (Nat.le_of_ble_eq_true rfl) (s_X6_checkNode h)
-- X6_kind
set_option maxRecDepth 10000 in
theorem s_X6_kind {G : o_G} {N : Nat} {o : Nat ⊕ Int32} {σ' : o_S} {p1 : Int32} {s : o_S} (h : f_X6_kind N p1 s = some (o, σ')) : o_Z G RX6 cX6_kind (Option.some Jvm.ClassFile.FieldType.int) 2 7 (o_EX G (Sum.map id (fun r => some (.int r)) o) σ') (o_k σ') s 0 [(0, .ref (g_ad G 0)), (1, .int p1)] [] := by
  unfold f_X6_kind at h
  refine z_aload_n dX6_kind_0 0 rfl ?_
  refine z_iload_n dX6_kind_1 1 rfl ?_
  rcases o_bdx h with ⟨ex7, s1, e2, h⟩ | ⟨v3, s1, e2, h⟩
  · cases h
    exact zx_callV (o := .inl ex7) (As := [.int _]) (e_X6_checkNode e2) (by decide) mi_X6_checkNode ml_X6_124 rfl rfl (Nat.le_of_ble_eq_true rfl) rv_0 dX6_kind_2 (fun e he => by cases he; exact ⟨rfl, rfl⟩) (fun v he => by cases he)
  · refine zx_callV (o := .inr (none)) (As := [.int _]) (e_X6_checkNode e2) (by decide) mi_X6_checkNode ml_X6_124 rfl rfl (Nat.le_of_ble_eq_true rfl) rv_0 dX6_kind_2 (fun e he => by cases he) (fun v he => ?_)
    cases he
    refine z_aload_n dX6_kind_5 0 rfl ?_
    refine zg_X6_tree fl_X6_29 dX6_kind_6 ?_
    refine z_iload_n dX6_kind_9 1 rfl ?_
    refine z_iconst (v := 0) dX6_kind_10 (by decide) ?_
    obtain ⟨x6, s4, e5, h⟩ := o_bdi h
    refine z_callVi (As := [.int _, .int _]) (e_X5_get e5) (by decide) mi_X5_get ml_X6_127 rfl rfl (Nat.le_of_ble_eq_true rfl) rv_2 dX6_kind_11 ?_
    cases h
    exact zx_iret rfl rfl rfl dX6_kind_14
theorem e_X6_kind {G : o_G} {N : Nat} {o : Nat ⊕ Int32} {σ' : o_S} {p1 : Int32} {s : o_S} (h : f_X6_kind N p1 s = some (o, σ')) : o_EvX G yX6_kind cX6_kind 2 (Option.some Jvm.ClassFile.FieldType.int) 7 [.ref (g_ad G 0), .int p1] s (Sum.map id (fun r => some (.int r)) o) σ' := o_EvX.mk rfl (Nat.le_of_ble_eq_true rfl) (s_X6_kind h)
-- X6_parent
set_option maxRecDepth 10000 in
theorem s_X6_parent {G : o_G} {N : Nat} {o : Nat ⊕ Int32} {σ' : o_S} {p1 : Int32} {s : o_S} (h : f_X6_parent N p1 s = some (o, σ')) : o_Z G RX6 cX6_parent (Option.some Jvm.ClassFile.FieldType.int) 2 7 (o_EX G (Sum.map id (fun r => some (.int r)) o) σ') (o_k σ') s 0 [(0, .ref (g_ad G 0)), (1, .int p1)] [] := by
  unfold f_X6_parent at h
  refine z_aload_n dX6_parent_0 0 rfl ?_
  refine z_iload_n dX6_parent_1 1 rfl ?_
  rcases o_bdx h with ⟨ex7, s1, e2, h⟩ | ⟨v3, s1, e2, h⟩
  · cases h
    exact zx_callV (o := .inl ex7) (As := [.int _]) (e_X6_checkNode e2) (by decide) mi_X6_checkNode ml_X6_124 rfl rfl (Nat.le_of_ble_eq_true rfl) rv_0 dX6_parent_2 (fun e he => by cases he; exact ⟨rfl, rfl⟩) (fun v he => by cases he)
  · refine zx_callV (o := .inr (none)) (As := [.int _]) (e_X6_checkNode e2) (by decide) mi_X6_checkNode ml_X6_124 rfl rfl (Nat.le_of_ble_eq_true rfl) rv_0 dX6_parent_2 (fun e he => by cases he) (fun v he => ?_)
    cases he
    refine z_aload_n dX6_parent_5 0 rfl ?_
    refine zg_X6_tree fl_X6_29 dX6_parent_6 ?_
    refine z_iload_n dX6_parent_9 1 rfl ?_
    obtain ⟨x6, s4, e5, h⟩ := o_bdi h
    refine z_callVi (As := [.int _]) (e_X5_holder e5) (by decide) mi_X5_holder ml_X6_128 rfl rfl (Nat.le_of_ble_eq_true rfl) rv_2 dX6_parent_10 ?_
    cases h
    exact zx_iret rfl rfl rfl dX6_parent_13
theorem e_X6_parent {G : o_G} {N : Nat} {o : Nat ⊕ Int32} {σ' : o_S} {p1 : Int32} {s : o_S} (h : f_X6_parent N p1 s = some (o, σ')) : o_EvX G yX6_parent cX6_parent 2 (Option.some Jvm.ClassFile.FieldType.int) 7 [.ref (g_ad G 0), .int p1] s (Sum.map id (fun r => some (.int r)) o) σ' := o_EvX.mk rfl (Nat.le_of_ble_eq_true rfl) (s_X6_parent h)
-- X6_childCount
set_option maxRecDepth 10000 in
theorem s_X6_childCount {G : o_G} {N : Nat} {o : Nat ⊕ Int32} {σ' : o_S} {p1 : Int32} {s : o_S} (h : f_X6_childCount N p1 s = some (o, σ')) : o_Z G RX6 cX6_childCount (Option.some Jvm.ClassFile.FieldType.int) 2 7 (o_EX G (Sum.map id (fun r => some (.int r)) o) σ') (o_k σ') s 0 [(0, .ref (g_ad G 0)), (1, .int p1)] [] := by
  unfold f_X6_childCount at h
  refine z_aload_n dX6_childCount_0 0 rfl ?_
  refine z_iload_n dX6_childCount_1 1 rfl ?_
  rcases o_bdx h with ⟨ex7, s1, e2, h⟩ | ⟨v3, s1, e2, h⟩
  · cases h
    exact zx_callV (o := .inl ex7) (As := [.int _]) (e_X6_checkNode e2) (by decide) mi_X6_checkNode ml_X6_124 rfl rfl (Nat.le_of_ble_eq_true rfl) rv_0 dX6_childCount_2 (fun e he => by cases he; exact ⟨rfl, rfl⟩) (fun v he => by cases he)
  · refine zx_callV (o := .inr (none)) (As := [.int _]) (e_X6_checkNode e2) (by decide) mi_X6_checkNode ml_X6_124 rfl rfl (Nat.le_of_ble_eq_true rfl) rv_0 dX6_childCount_2 (fun e he => by cases he) (fun v he => ?_)
    cases he
    refine z_aload_n dX6_childCount_5 0 rfl ?_
    refine zg_X6_tree fl_X6_29 dX6_childCount_6 ?_
    refine z_iload_n dX6_childCount_9 1 rfl ?_
    obtain ⟨x6, s4, e5, h⟩ := o_bdi h
    refine z_callVi (As := [.int _]) (e_X5_countChildren e5) (by decide) mi_X5_countChildren ml_X6_131 rfl rfl (Nat.le_of_ble_eq_true rfl) rv_2 dX6_childCount_10 ?_
    cases h
    exact zx_iret rfl rfl rfl dX6_childCount_13
theorem e_X6_childCount {G : o_G} {N : Nat} {o : Nat ⊕ Int32} {σ' : o_S} {p1 : Int32} {s : o_S} (h : f_X6_childCount N p1 s = some (o, σ')) : o_EvX G yX6_childCount cX6_childCount 2 (Option.some Jvm.ClassFile.FieldType.int) 7 [.ref (g_ad G 0), .int p1] s (Sum.map id (fun r => some (.int r)) o) σ' := o_EvX.mk rfl (Nat.le_of_ble_eq_true rfl) (s_X6_childCount h)
-- X6_child
set_option maxRecDepth 10000 in
theorem s_X6_child {G : o_G} {N : Nat} {o : Nat ⊕ Int32} {σ' : o_S} {p1 : Int32} {p2 : Int32} {s : o_S} (h : f_X6_child N p1 p2 s = some (o, σ')) : o_Z G RX6 cX6_child (Option.some Jvm.ClassFile.FieldType.int) 4 7 (o_EX G (Sum.map id (fun r => some (.int r)) o) σ') (o_k σ') s 0 [(0, .ref (g_ad G 0)), (1, .int p1), (2, .int p2)] [] := by
  unfold f_X6_child at h
  refine z_aload_n dX6_child_0 0 rfl ?_
  refine z_iload_n dX6_child_1 1 rfl ?_
  rcases o_bdx h with ⟨ex8, s1, e2, h⟩ | ⟨v3, s1, e2, h⟩
  · cases h
    exact zx_callV (o := .inl ex8) (As := [.int _]) (e_X6_checkNode e2) (by decide) mi_X6_checkNode ml_X6_124 rfl rfl (Nat.le_of_ble_eq_true rfl) rv_0 dX6_child_2 (fun e he => by cases he; exact ⟨rfl, rfl⟩) (fun v he => by cases he)
  · refine zx_callV (o := .inr (none)) (As := [.int _]) (e_X6_checkNode e2) (by decide) mi_X6_checkNode ml_X6_124 rfl rfl (Nat.le_of_ble_eq_true rfl) rv_0 dX6_child_2 (fun e he => by cases he) (fun v he => ?_)
    cases he
    refine z_aload_n dX6_child_5 0 rfl ?_
    refine zg_X6_tree fl_X6_29 dX6_child_6 ?_
    refine z_iload_n dX6_child_9 1 rfl ?_
    refine z_iload_n dX6_child_10 2 rfl ?_
    obtain ⟨x6, s4, e5, h⟩ := o_bdi h
    refine z_callVi (As := [.int _, .int _]) (e_X5_nthChild e5) (by decide) mi_X5_nthChild ml_X6_134 rfl rfl (Nat.le_of_ble_eq_true rfl) rv_2 dX6_child_11 ?_
    refine z_istore_n (L' := [(3, .int _), (0, .ref _), (1, .int _), (2, .int _)]) dX6_child_14 (by decide) rfl ?_
    refine z_iload_n dX6_child_15 0 rfl ?_
    refine z_iconst (v := (-1)) dX6_child_16 (by decide) ?_
    refine z_icmp_ne (tgt := 30) dX6_child_17 (by decide) (fun hc7 => ?_) (fun hc7 => ?_)
    · replace h := o_in hc7 h
      refine z_iload_n dX6_child_30 0 rfl ?_
      cases h
      exact zx_iret rfl rfl rfl dX6_child_31
    · replace h := o_ip hc7 h
      cases h
      exact zx_throw (n := 3) rfl rfl (by decide) kl_X6_115 in_IndexOutOfBoundsException (by decide) (text := "no such child") (by decide) o_atI dX6_child_20 dX6_child_23 dX6_child_24 dX6_child_26 dX6_child_29 (Nat.le_of_ble_eq_true rfl)
theorem e_X6_child {G : o_G} {N : Nat} {o : Nat ⊕ Int32} {σ' : o_S} {p1 : Int32} {p2 : Int32} {s : o_S} (h : f_X6_child N p1 p2 s = some (o, σ')) : o_EvX G yX6_child cX6_child 4 (Option.some Jvm.ClassFile.FieldType.int) 7 [.ref (g_ad G 0), .int p1, .int p2] s (Sum.map id (fun r => some (.int r)) o) σ' := o_EvX.mk rfl (Nat.le_of_ble_eq_true rfl) (s_X6_child h)
-- X6_line
set_option maxRecDepth 10000 in
theorem s_X6_line {G : o_G} {N : Nat} {o : Nat ⊕ Int32} {σ' : o_S} {p1 : Int32} {s : o_S} (h : f_X6_line N p1 s = some (o, σ')) : o_Z G RX6 cX6_line (Option.some Jvm.ClassFile.FieldType.int) 2 7 (o_EX G (Sum.map id (fun r => some (.int r)) o) σ') (o_k σ') s 0 [(0, .ref (g_ad G 0)), (1, .int p1)] [] := by
  unfold f_X6_line at h
  refine z_aload_n dX6_line_0 0 rfl ?_
  refine z_iload_n dX6_line_1 1 rfl ?_
  rcases o_bdx h with ⟨ex7, s1, e2, h⟩ | ⟨v3, s1, e2, h⟩
  · cases h
    exact zx_callV (o := .inl ex7) (As := [.int _]) (e_X6_checkNode e2) (by decide) mi_X6_checkNode ml_X6_124 rfl rfl (Nat.le_of_ble_eq_true rfl) rv_0 dX6_line_2 (fun e he => by cases he; exact ⟨rfl, rfl⟩) (fun v he => by cases he)
  · refine zx_callV (o := .inr (none)) (As := [.int _]) (e_X6_checkNode e2) (by decide) mi_X6_checkNode ml_X6_124 rfl rfl (Nat.le_of_ble_eq_true rfl) rv_0 dX6_line_2 (fun e he => by cases he) (fun v he => ?_)
    cases he
    refine z_aload_n dX6_line_5 0 rfl ?_
    refine zg_X6_tree fl_X6_29 dX6_line_6 ?_
    refine z_iload_n dX6_line_9 1 rfl ?_
    refine z_iconst (v := 3) dX6_line_10 (by decide) ?_
    obtain ⟨x6, s4, e5, h⟩ := o_bdi h
    refine z_callVi (As := [.int _, .int _]) (e_X5_get e5) (by decide) mi_X5_get ml_X6_127 rfl rfl (Nat.le_of_ble_eq_true rfl) rv_2 dX6_line_11 ?_
    cases h
    exact zx_iret rfl rfl rfl dX6_line_14
theorem e_X6_line {G : o_G} {N : Nat} {o : Nat ⊕ Int32} {σ' : o_S} {p1 : Int32} {s : o_S} (h : f_X6_line N p1 s = some (o, σ')) : o_EvX G yX6_line cX6_line 2 (Option.some Jvm.ClassFile.FieldType.int) 7 [.ref (g_ad G 0), .int p1] s (Sum.map id (fun r => some (.int r)) o) σ' := o_EvX.mk rfl (Nat.le_of_ble_eq_true rfl) (s_X6_line h)
-- X6_column
set_option maxRecDepth 10000 in
theorem s_X6_column {G : o_G} {N : Nat} {o : Nat ⊕ Int32} {σ' : o_S} {p1 : Int32} {s : o_S} (h : f_X6_column N p1 s = some (o, σ')) : o_Z G RX6 cX6_column (Option.some Jvm.ClassFile.FieldType.int) 2 7 (o_EX G (Sum.map id (fun r => some (.int r)) o) σ') (o_k σ') s 0 [(0, .ref (g_ad G 0)), (1, .int p1)] [] := by
  unfold f_X6_column at h
  refine z_aload_n dX6_column_0 0 rfl ?_
  refine z_iload_n dX6_column_1 1 rfl ?_
  rcases o_bdx h with ⟨ex7, s1, e2, h⟩ | ⟨v3, s1, e2, h⟩
  · cases h
    exact zx_callV (o := .inl ex7) (As := [.int _]) (e_X6_checkNode e2) (by decide) mi_X6_checkNode ml_X6_124 rfl rfl (Nat.le_of_ble_eq_true rfl) rv_0 dX6_column_2 (fun e he => by cases he; exact ⟨rfl, rfl⟩) (fun v he => by cases he)
  · refine zx_callV (o := .inr (none)) (As := [.int _]) (e_X6_checkNode e2) (by decide) mi_X6_checkNode ml_X6_124 rfl rfl (Nat.le_of_ble_eq_true rfl) rv_0 dX6_column_2 (fun e he => by cases he) (fun v he => ?_)
    cases he
    refine z_aload_n dX6_column_5 0 rfl ?_
    refine zg_X6_tree fl_X6_29 dX6_column_6 ?_
    refine z_iload_n dX6_column_9 1 rfl ?_
    refine z_iconst (v := 4) dX6_column_10 (by decide) ?_
    obtain ⟨x6, s4, e5, h⟩ := o_bdi h
    refine z_callVi (As := [.int _, .int _]) (e_X5_get e5) (by decide) mi_X5_get ml_X6_127 rfl rfl (Nat.le_of_ble_eq_true rfl) rv_2 dX6_column_11 ?_
    cases h
    exact zx_iret rfl rfl rfl dX6_column_14
theorem e_X6_column {G : o_G} {N : Nat} {o : Nat ⊕ Int32} {σ' : o_S} {p1 : Int32} {s : o_S} (h : f_X6_column N p1 s = some (o, σ')) : o_EvX G yX6_column cX6_column 2 (Option.some Jvm.ClassFile.FieldType.int) 7 [.ref (g_ad G 0), .int p1] s (Sum.map id (fun r => some (.int r)) o) σ' := o_EvX.mk rfl (Nat.le_of_ble_eq_true rfl) (s_X6_column h)
-- X6_value
set_option maxRecDepth 10000 in
theorem s_X6_value {G : o_G} {N : Nat} {o : Nat ⊕ Int32} {σ' : o_S} {p1 : Int32} {s : o_S} (h : f_X6_value N p1 s = some (o, σ')) : o_Z G RX6 cX6_value (Option.some Jvm.ClassFile.FieldType.int) 2 7 (o_EX G (Sum.map id (fun r => some (.int r)) o) σ') (o_k σ') s 0 [(0, .ref (g_ad G 0)), (1, .int p1)] [] := by
  unfold f_X6_value at h
  refine z_aload_n dX6_value_0 0 rfl ?_
  refine z_iload_n dX6_value_1 1 rfl ?_
  rcases o_bdx h with ⟨ex7, s1, e2, h⟩ | ⟨v3, s1, e2, h⟩
  · cases h
    exact zx_callV (o := .inl ex7) (As := [.int _]) (e_X6_checkNode e2) (by decide) mi_X6_checkNode ml_X6_124 rfl rfl (Nat.le_of_ble_eq_true rfl) rv_0 dX6_value_2 (fun e he => by cases he; exact ⟨rfl, rfl⟩) (fun v he => by cases he)
  · refine zx_callV (o := .inr (none)) (As := [.int _]) (e_X6_checkNode e2) (by decide) mi_X6_checkNode ml_X6_124 rfl rfl (Nat.le_of_ble_eq_true rfl) rv_0 dX6_value_2 (fun e he => by cases he) (fun v he => ?_)
    cases he
    refine z_aload_n dX6_value_5 0 rfl ?_
    refine zg_X6_tree fl_X6_29 dX6_value_6 ?_
    refine z_iload_n dX6_value_9 1 rfl ?_
    refine z_iconst (v := 5) dX6_value_10 (by decide) ?_
    obtain ⟨x6, s4, e5, h⟩ := o_bdi h
    refine z_callVi (As := [.int _, .int _]) (e_X5_get e5) (by decide) mi_X5_get ml_X6_127 rfl rfl (Nat.le_of_ble_eq_true rfl) rv_2 dX6_value_11 ?_
    cases h
    exact zx_iret rfl rfl rfl dX6_value_14
theorem e_X6_value {G : o_G} {N : Nat} {o : Nat ⊕ Int32} {σ' : o_S} {p1 : Int32} {s : o_S} (h : f_X6_value N p1 s = some (o, σ')) : o_EvX G yX6_value cX6_value 2 (Option.some Jvm.ClassFile.FieldType.int) 7 [.ref (g_ad G 0), .int p1] s (Sum.map id (fun r => some (.int r)) o) σ' := o_EvX.mk rfl (Nat.le_of_ble_eq_true rfl) (s_X6_value h)
-- X6_letter
set_option maxRecDepth 10000 in
theorem s_X6_letter {G : o_G} {N : Nat} {o : Nat ⊕ Int32} {σ' : o_S} {p1 : Int32} {p2 : Int32} {s : o_S} (h : f_X6_letter N p1 p2 s = some (o, σ')) : o_Z G RX6 cX6_letter (Option.some Jvm.ClassFile.FieldType.int) 3 7 (o_EX G (Sum.map id (fun r => some (.int r)) o) σ') (o_k σ') s 0 [(0, .ref (g_ad G 0)), (1, .int p1), (2, .int p2)] [] := by
  unfold f_X6_letter at h
  refine z_aload_n dX6_letter_0 0 rfl ?_
  refine z_iload_n dX6_letter_1 1 rfl ?_
  rcases o_bdx h with ⟨ex11, s1, e2, h⟩ | ⟨v3, s1, e2, h⟩
  · cases h
    exact zx_callV (o := .inl ex11) (As := [.int _]) (e_X6_checkNode e2) (by decide) mi_X6_checkNode ml_X6_124 rfl rfl (Nat.le_of_ble_eq_true rfl) rv_0 dX6_letter_2 (fun e he => by cases he; exact ⟨rfl, rfl⟩) (fun v he => by cases he)
  · refine zx_callV (o := .inr (none)) (As := [.int _]) (e_X6_checkNode e2) (by decide) mi_X6_checkNode ml_X6_124 rfl rfl (Nat.le_of_ble_eq_true rfl) rv_0 dX6_letter_2 (fun e he => by cases he) (fun v he => ?_)
    cases he
    refine z_aload_n dX6_letter_5 0 rfl ?_
    refine zg_X6_tree fl_X6_29 dX6_letter_6 ?_
    refine z_iload_n dX6_letter_9 1 rfl ?_
    refine z_iconst (v := 2) dX6_letter_10 (by decide) ?_
    obtain ⟨x6, s4, e5, h⟩ := o_bdi h
    refine z_callVi (As := [.int _, .int _]) (e_X5_is e5) (by decide) mi_X5_is ml_X6_139 rfl rfl (Nat.le_of_ble_eq_true rfl) rv_2 dX6_letter_11 ?_
    refine z_if_eq (tgt := 29) dX6_letter_14 (by decide) (fun hc7 => ?_) (fun hc7 => ?_)
    · replace h := o_ip hc7 h
      refine z_iconst (v := (-1)) dX6_letter_29 (by decide) ?_
      cases h
      exact zx_iret rfl rfl rfl dX6_letter_30
    · replace h := o_in hc7 h
      refine z_aload_n dX6_letter_17 0 rfl ?_
      refine zg_X6_tree fl_X6_29 dX6_letter_18 ?_
      refine z_iload_n dX6_letter_21 1 rfl ?_
      refine z_iload_n dX6_letter_22 2 rfl ?_
      obtain ⟨x10, s8, e9, h⟩ := o_bdi h
      refine z_callVi (As := [.int _, .int _]) (e_X5_letterOf e9) (by decide) mi_X5_letterOf ml_X6_143 rfl rfl (Nat.le_of_ble_eq_true rfl) rv_2 dX6_letter_23 ?_
      refine z_goto (tgt := 30) dX6_letter_26 (by decide) ?_
      cases h
      exact zx_iret rfl rfl rfl dX6_letter_30
theorem e_X6_letter {G : o_G} {N : Nat} {o : Nat ⊕ Int32} {σ' : o_S} {p1 : Int32} {p2 : Int32} {s : o_S} (h : f_X6_letter N p1 p2 s = some (o, σ')) : o_EvX G yX6_letter cX6_letter 3 (Option.some Jvm.ClassFile.FieldType.int) 7 [.ref (g_ad G 0), .int p1, .int p2] s (Sum.map id (fun r => some (.int r)) o) σ' := o_EvX.mk rfl (Nat.le_of_ble_eq_true rfl) (s_X6_letter h)
-- X6_depth
set_option maxRecDepth 10000 in
theorem s_X6_depth {G : o_G} {N : Nat} {o : Nat ⊕ Int32} {σ' : o_S} {p1 : Int32} {s : o_S} (h : f_X6_depth N p1 s = some (o, σ')) : o_Z G RX6 cX6_depth (Option.some Jvm.ClassFile.FieldType.int) 2 7 (o_EX G (Sum.map id (fun r => some (.int r)) o) σ') (o_k σ') s 0 [(0, .ref (g_ad G 0)), (1, .int p1)] [] := by
  unfold f_X6_depth at h
  refine z_aload_n dX6_depth_0 0 rfl ?_
  refine z_iload_n dX6_depth_1 1 rfl ?_
  rcases o_bdx h with ⟨ex7, s1, e2, h⟩ | ⟨v3, s1, e2, h⟩
  · cases h
    exact zx_callV (o := .inl ex7) (As := [.int _]) (e_X6_checkNode e2) (by decide) mi_X6_checkNode ml_X6_124 rfl rfl (Nat.le_of_ble_eq_true rfl) rv_0 dX6_depth_2 (fun e he => by cases he; exact ⟨rfl, rfl⟩) (fun v he => by cases he)
  · refine zx_callV (o := .inr (none)) (As := [.int _]) (e_X6_checkNode e2) (by decide) mi_X6_checkNode ml_X6_124 rfl rfl (Nat.le_of_ble_eq_true rfl) rv_0 dX6_depth_2 (fun e he => by cases he) (fun v he => ?_)
    cases he
    refine z_aload_n dX6_depth_5 0 rfl ?_
    refine zg_X6_tree fl_X6_29 dX6_depth_6 ?_
    refine z_iload_n dX6_depth_9 1 rfl ?_
    refine z_iconst (v := 2) dX6_depth_10 (by decide) ?_
    obtain ⟨x6, s4, e5, h⟩ := o_bdi h
    refine z_callVi (As := [.int _, .int _]) (e_X5_get e5) (by decide) mi_X5_get ml_X6_127 rfl rfl (Nat.le_of_ble_eq_true rfl) rv_2 dX6_depth_11 ?_
    cases h
    exact zx_iret rfl rfl rfl dX6_depth_14
theorem e_X6_depth {G : o_G} {N : Nat} {o : Nat ⊕ Int32} {σ' : o_S} {p1 : Int32} {s : o_S} (h : f_X6_depth N p1 s = some (o, σ')) : o_EvX G yX6_depth cX6_depth 2 (Option.some Jvm.ClassFile.FieldType.int) 7 [.ref (g_ad G 0), .int p1] s (Sum.map id (fun r => some (.int r)) o) σ' := o_EvX.mk rfl (Nat.le_of_ble_eq_true rfl) (s_X6_depth h)
-- X6_find
set_option maxRecDepth 10000 in
theorem s_X6_find {G : o_G} {N : Nat} {r : Int32} {σ' : o_S} {p1 : Int64} {p2 : Int32} {s : o_S} (h : f_X6_find N p1 p2 s = some (r, σ')) : o_Z G RX6 cX6_find (Option.some Jvm.ClassFile.FieldType.int) 4 7 (o_E G (some (.int r)) σ') (o_k σ') s 0 [(0, .ref (g_ad G 0)), (1, .long p1), (3, .int p2)] [] := by
  unfold f_X6_find at h
  refine z_aload_n dX6_find_0 0 rfl ?_
  refine z_lload_n dX6_find_1 1 rfl ?_
  obtain ⟨s1, e2, h⟩ := o_bdv h
  refine z_callVv (As := [.long _]) (e_X6_unpack e2) (by decide) mi_X6_unpack ml_X6_63 rfl rfl (Nat.le_of_ble_eq_true rfl) rv_0 dX6_find_2 ?_
  refine z_aload_n dX6_find_5 0 rfl ?_
  refine zg_X6_tree fl_X6_29 dX6_find_6 ?_
  refine z_aload_n dX6_find_9 0 rfl ?_
  refine zg_X6_unpacked fl_X6_16 dX6_find_10 ?_
  refine z_iload_n dX6_find_13 2 rfl ?_
  obtain ⟨x5, s3, e4, h⟩ := o_bdi h
  refine z_callVi (As := [.ref _, .int _]) (e_X5_nthWord e4) (by decide) mi_X5_nthWord ml_X6_146 rfl rfl (Nat.le_of_ble_eq_true rfl) rv_2 dX6_find_14 ?_
  cases h
  exact z_iret rfl rfl rfl dX6_find_17
theorem e_X6_find {G : o_G} {N : Nat} {r : Int32} {σ' : o_S} {p1 : Int64} {p2 : Int32} {s : o_S} (h : f_X6_find N p1 p2 s = some (r, σ')) : o_Ev G yX6_find cX6_find 4 (Option.some Jvm.ClassFile.FieldType.int) 7 [.ref (g_ad G 0), .long p1, .int p2] s (some (.int r)) σ' := o_Ev.mk rfl (Nat.le_of_ble_eq_true rfl) (s_X6_find h)
-- X6_wordCount
set_option maxRecDepth 10000 in
theorem s_X6_wordCount {G : o_G} {N : Nat} {r : Int32} {σ' : o_S} {s : o_S} (h : f_X6_wordCount N  s = some (r, σ')) : o_Z G RX6 cX6_wordCount (Option.some Jvm.ClassFile.FieldType.int) 1 5 (o_E G (some (.int r)) σ') (o_k σ') s 0 [(0, .ref (g_ad G 0))] [] := by
  unfold f_X6_wordCount at h
  refine z_aload_n dX6_wordCount_0 0 rfl ?_
  refine zg_X6_tree fl_X6_29 dX6_wordCount_1 ?_
  obtain ⟨x3, s1, e2, h⟩ := o_bdi h
  refine z_callVi (As := []) (e_X5_countDifferentWords e2) (by decide) mi_X5_countDifferentWords ml_X6_150 rfl rfl (Nat.le_of_ble_eq_true rfl) rv_2 dX6_wordCount_4 ?_
  cases h
  exact z_iret rfl rfl rfl dX6_wordCount_7
theorem e_X6_wordCount {G : o_G} {N : Nat} {r : Int32} {σ' : o_S} {s : o_S} (h : f_X6_wordCount N  s = some (r, σ')) : o_Ev G yX6_wordCount cX6_wordCount 1 (Option.some Jvm.ClassFile.FieldType.int) 5 [.ref (g_ad G 0)] s (some (.int r)) σ' := o_Ev.mk rfl (Nat.le_of_ble_eq_true rfl) (s_X6_wordCount h)
-- X6_remove
set_option maxRecDepth 10000 in
theorem s_X6_remove {G : o_G} {N : Nat} {o : Nat ⊕ Int32} {σ' : o_S} {p1 : Int32} {s : o_S} (h : f_X6_remove N p1 s = some (o, σ')) : o_Z G RX6 cX6_remove (Option.some Jvm.ClassFile.FieldType.int) 2 7 (o_EX G (Sum.map id (fun r => some (.int r)) o) σ') (o_k σ') s 0 [(0, .ref (g_ad G 0)), (1, .int p1)] [] := by
  unfold f_X6_remove at h
  refine z_aload_n dX6_remove_0 0 rfl ?_
  refine z_iload_n dX6_remove_1 1 rfl ?_
  rcases o_bdx h with ⟨ex13, s1, e2, h⟩ | ⟨v3, s1, e2, h⟩
  · cases h
    exact zx_callV (o := .inl ex13) (As := [.int _]) (e_X6_checkNode e2) (by decide) mi_X6_checkNode ml_X6_124 rfl rfl (Nat.le_of_ble_eq_true rfl) rv_0 dX6_remove_2 (fun e he => by cases he; exact ⟨rfl, rfl⟩) (fun v he => by cases he)
  · refine zx_callV (o := .inr (none)) (As := [.int _]) (e_X6_checkNode e2) (by decide) mi_X6_checkNode ml_X6_124 rfl rfl (Nat.le_of_ble_eq_true rfl) rv_0 dX6_remove_2 (fun e he => by cases he) (fun v he => ?_)
    cases he
    refine z_aload_n dX6_remove_5 0 rfl ?_
    refine zg_X6_tree fl_X6_29 dX6_remove_6 ?_
    refine z_iload_n dX6_remove_9 1 rfl ?_
    refine z_iconst (v := 1) dX6_remove_10 (by decide) ?_
    obtain ⟨x6, s4, e5, h⟩ := o_bdi h
    refine z_callVi (As := [.int _, .int _]) (e_X5_is e5) (by decide) mi_X5_is ml_X6_139 rfl rfl (Nat.le_of_ble_eq_true rfl) rv_2 dX6_remove_11 ?_
    refine z_if_ne (tgt := 27) dX6_remove_14 (by decide) (fun hc7 => ?_) (fun hc7 => ?_)
    · replace h := o_in hc7 h
      refine z_aload_n dX6_remove_27 0 rfl ?_
      refine zg_X6_tree fl_X6_29 dX6_remove_28 ?_
      refine z_iload_n dX6_remove_31 1 rfl ?_
      obtain ⟨s8, e9, h⟩ := o_bdv h
      refine z_callVv (As := [.int _]) (e_X5_erase e9) (by decide) mi_X5_erase ml_X6_155 rfl rfl (Nat.le_of_ble_eq_true rfl) rv_2 dX6_remove_32 ?_
      refine z_aload_n dX6_remove_35 0 rfl ?_
      refine zg_X6_tree fl_X6_29 dX6_remove_36 ?_
      obtain ⟨x12, s10, e11, h⟩ := o_bdi h
      refine z_callVi (As := []) (e_X5_size e11) (by decide) mi_X5_size ml_X6_113 rfl rfl (Nat.le_of_ble_eq_true rfl) rv_2 dX6_remove_39 ?_
      cases h
      exact zx_iret rfl rfl rfl dX6_remove_42
    · replace h := o_ip hc7 h
      cases h
      exact zx_throw (n := 1) rfl rfl (by decide) kl_X6_79 in_IllegalArgumentException (by decide) (text := "only an item can be removed") (by decide) o_atA dX6_remove_17 dX6_remove_20 dX6_remove_21 dX6_remove_23 dX6_remove_26 (Nat.le_of_ble_eq_true rfl)
theorem e_X6_remove {G : o_G} {N : Nat} {o : Nat ⊕ Int32} {σ' : o_S} {p1 : Int32} {s : o_S} (h : f_X6_remove N p1 s = some (o, σ')) : o_EvX G yX6_remove cX6_remove 2 (Option.some Jvm.ClassFile.FieldType.int) 7 [.ref (g_ad G 0), .int p1] s (Sum.map id (fun r => some (.int r)) o) σ' := o_EvX.mk rfl (Nat.le_of_ble_eq_true rfl) (s_X6_remove h)
-- X6_move
set_option maxRecDepth 10000 in
theorem s_X6_move_b71 {G : o_G} {N : Nat} {o : Nat ⊕ Int32} {σ' : o_S} {l1 : Int32} {l2 : Int32} {l3 : Int32} {s : o_S} (h : f_X6_move_b71 N l1 l2 l3 s = some (o, σ')) : o_Z G RX6 cX6_move (Option.some Jvm.ClassFile.FieldType.int) 5 7 (o_EX G (Sum.map id (fun r => some (.int r)) o) σ') (o_k σ') s 71 [(0, .ref (g_ad G 0)), (1, .int l1), (2, .int l2), (3, .int l3)] [] := by
  unfold f_X6_move_b71 at h
  refine z_aload_n dX6_move_71 0 rfl ?_
  refine zg_X6_tree fl_X6_29 dX6_move_72 ?_
  refine z_iload_n dX6_move_75 2 rfl ?_
  obtain ⟨x18, s16, e17, h⟩ := o_bdi h
  refine z_callVi (As := [.int _]) (e_X5_nesting e17) (by decide) mi_X5_nesting ml_X6_165 rfl rfl (Nat.le_of_ble_eq_true rfl) rv_2 dX6_move_76 ?_
  refine z_aload_n dX6_move_79 0 rfl ?_
  refine zg_X6_tree fl_X6_29 dX6_move_80 ?_
  refine z_iload_n dX6_move_83 1 rfl ?_
  obtain ⟨x21, s19, e20, h⟩ := o_bdi h
  refine z_callVi (As := [.int _]) (e_X5_innerNesting e20) (by decide) mi_X5_innerNesting ml_X6_168 rfl rfl (Nat.le_of_ble_eq_true rfl) rv_2 dX6_move_84 ?_
  refine z_iadd dX6_move_87 ?_
  refine z_bipush (v := 30) dX6_move_88 (by decide) ?_
  refine z_icmp_le (tgt := 103) dX6_move_90 (by decide) (fun hc22 => ?_) (fun hc22 => ?_)
  · replace h := o_ip hc22 h
    refine z_aload_n dX6_move_103 0 rfl ?_
    refine zg_X6_tree fl_X6_29 dX6_move_104 ?_
    refine z_iload_n dX6_move_107 1 rfl ?_
    refine z_iload_n dX6_move_108 2 rfl ?_
    refine z_iload_n dX6_move_109 3 rfl ?_
    obtain ⟨x25, s23, e24, h⟩ := o_bdi h
    refine z_callVi (As := [.int _, .int _, .int _]) (e_X5_placeFor e24) (by decide) mi_X5_placeFor ml_X6_173 rfl rfl (Nat.le_of_ble_eq_true rfl) rv_2 dX6_move_110 ?_
    refine z_istore (L' := [(4, .int _), (0, .ref _), (1, .int _), (2, .int _), (3, .int _)]) dX6_move_113 (by decide) rfl ?_
    refine z_iload dX6_move_115 0 rfl ?_
    refine z_iconst (v := (-1)) dX6_move_117 (by decide) ?_
    refine z_icmp_ne (tgt := 131) dX6_move_118 (by decide) (fun hc26 => ?_) (fun hc26 => ?_)
    · replace h := o_in hc26 h
      refine z_aload_n dX6_move_131 1 rfl ?_
      refine zg_X6_tree fl_X6_29 dX6_move_132 ?_
      refine z_iload_n dX6_move_135 2 rfl ?_
      refine z_iload_n dX6_move_136 3 rfl ?_
      refine z_iload dX6_move_137 0 rfl ?_
      obtain ⟨x29, s27, e28, h⟩ := o_bdi h
      refine z_callVi (As := [.int _, .int _, .int _]) (e_X5_carry e28) (by decide) mi_X5_carry ml_X6_179 rfl rfl (Nat.le_of_ble_eq_true rfl) rv_2 dX6_move_139 ?_
      cases h
      exact zx_iret rfl rfl rfl dX6_move_142
    · replace h := o_ip hc26 h
      cases h
      exact zx_throw (n := 1) rfl rfl (by decide) kl_X6_79 in_IllegalArgumentException (by decide) (text := "no such index in the block") (by decide) o_atA dX6_move_121 dX6_move_124 dX6_move_125 dX6_move_127 dX6_move_130 (Nat.le_of_ble_eq_true rfl)
  · replace h := o_in hc22 h
    cases h
    exact zx_throw (n := 1) rfl rfl (by decide) kl_X6_79 in_IllegalArgumentException (by decide) (text := "too many blocks and groups in one another") (by decide) o_atA dX6_move_93 dX6_move_96 dX6_move_97 dX6_move_99 dX6_move_102 (Nat.le_of_ble_eq_true rfl)
set_option maxRecDepth 10000 in
theorem s_X6_move {G : o_G} {N : Nat} {o : Nat ⊕ Int32} {σ' : o_S} {p1 : Int32} {p2 : Int32} {p3 : Int32} {s : o_S} (h : f_X6_move N p1 p2 p3 s = some (o, σ')) : o_Z G RX6 cX6_move (Option.some Jvm.ClassFile.FieldType.int) 5 7 (o_EX G (Sum.map id (fun r => some (.int r)) o) σ') (o_k σ') s 0 [(0, .ref (g_ad G 0)), (1, .int p1), (2, .int p2), (3, .int p3)] [] := by
  unfold f_X6_move at h
  refine z_aload_n dX6_move_0 0 rfl ?_
  refine z_iload_n dX6_move_1 1 rfl ?_
  rcases o_bdx h with ⟨ex35, s1, e2, h⟩ | ⟨v3, s1, e2, h⟩
  · cases h
    exact zx_callV (o := .inl ex35) (As := [.int _]) (e_X6_checkNode e2) (by decide) mi_X6_checkNode ml_X6_124 rfl rfl (Nat.le_of_ble_eq_true rfl) rv_0 dX6_move_2 (fun e he => by cases he; exact ⟨rfl, rfl⟩) (fun v he => by cases he)
  · refine zx_callV (o := .inr (none)) (As := [.int _]) (e_X6_checkNode e2) (by decide) mi_X6_checkNode ml_X6_124 rfl rfl (Nat.le_of_ble_eq_true rfl) rv_0 dX6_move_2 (fun e he => by cases he) (fun v he => ?_)
    cases he
    refine z_aload_n dX6_move_5 0 rfl ?_
    refine z_iload_n dX6_move_6 2 rfl ?_
    rcases o_bdx h with ⟨ex34, s4, e5, h⟩ | ⟨v6, s4, e5, h⟩
    · cases h
      exact zx_callV (o := .inl ex34) (As := [.int _]) (e_X6_checkNode e5) (by decide) mi_X6_checkNode ml_X6_124 rfl rfl (Nat.le_of_ble_eq_true rfl) rv_0 dX6_move_7 (fun e he => by cases he; exact ⟨rfl, rfl⟩) (fun v he => by cases he)
    · refine zx_callV (o := .inr (none)) (As := [.int _]) (e_X6_checkNode e5) (by decide) mi_X6_checkNode ml_X6_124 rfl rfl (Nat.le_of_ble_eq_true rfl) rv_0 dX6_move_7 (fun e he => by cases he) (fun v he => ?_)
      cases he
      refine z_aload_n dX6_move_10 0 rfl ?_
      refine zg_X6_tree fl_X6_29 dX6_move_11 ?_
      refine z_iload_n dX6_move_14 1 rfl ?_
      refine z_iconst (v := 1) dX6_move_15 (by decide) ?_
      obtain ⟨x9, s7, e8, h⟩ := o_bdi h
      refine z_callVi (As := [.int _, .int _]) (e_X5_is e8) (by decide) mi_X5_is ml_X6_139 rfl rfl (Nat.le_of_ble_eq_true rfl) rv_2 dX6_move_16 ?_
      refine z_if_eq (tgt := 34) dX6_move_19 (by decide) (fun hc10 => ?_) (fun hc10 => ?_)
      · replace h := o_ip hc10 h
        cases h
        exact zx_throw (n := 1) rfl rfl (by decide) kl_X6_79 in_IllegalArgumentException (by decide) (text := "only an item can be moved, and only to a block") (by decide) o_atA dX6_move_34 dX6_move_37 dX6_move_38 dX6_move_40 dX6_move_43 (Nat.le_of_ble_eq_true rfl)
      · replace h := o_in hc10 h
        refine z_aload_n dX6_move_22 0 rfl ?_
        refine zg_X6_tree fl_X6_29 dX6_move_23 ?_
        refine z_iload_n dX6_move_26 2 rfl ?_
        refine z_iconst (v := 0) dX6_move_27 (by decide) ?_
        obtain ⟨x13, s11, e12, h⟩ := o_bdi h
        refine z_callVi (As := [.int _, .int _]) (e_X5_is e12) (by decide) mi_X5_is ml_X6_139 rfl rfl (Nat.le_of_ble_eq_true rfl) rv_2 dX6_move_28 ?_
        refine z_if_ne (tgt := 44) dX6_move_31 (by decide) (fun hc14 => ?_) (fun hc14 => ?_)
        · replace h := o_in hc14 h
          refine z_iload_n dX6_move_44 2 rfl ?_
          refine z_iload_n dX6_move_45 1 rfl ?_
          refine z_icmp_le (tgt := 71) dX6_move_46 (by decide) (fun hc15 => ?_) (fun hc15 => ?_)
          · replace h := o_ip hc15 h
            exact o_Z.sub [0, 1, 2, 3] rfl (s_X6_move_b71 h)
          · replace h := o_in hc15 h
            refine z_iload_n dX6_move_49 2 rfl ?_
            refine z_aload_n dX6_move_50 0 rfl ?_
            refine zg_X6_tree fl_X6_29 dX6_move_51 ?_
            refine z_iload_n dX6_move_54 1 rfl ?_
            obtain ⟨x32, s30, e31, h⟩ := o_bdi h
            refine z_callVi (As := [.int _]) (e_X5_after e31) (by decide) mi_X5_after ml_X6_160 rfl rfl (Nat.le_of_ble_eq_true rfl) rv_2 dX6_move_55 ?_
            refine z_icmp_ge (tgt := 71) dX6_move_58 (by decide) (fun hc33 => ?_) (fun hc33 => ?_)
            · replace h := o_ip hc33 h
              exact o_Z.sub [0, 1, 2, 3] rfl (s_X6_move_b71 h)
            · replace h := o_in hc33 h
              cases h
              exact zx_throw (n := 1) rfl rfl (by decide) kl_X6_79 in_IllegalArgumentException (by decide) (text := "the block is in the item") (by decide) o_atA dX6_move_61 dX6_move_64 dX6_move_65 dX6_move_67 dX6_move_70 (Nat.le_of_ble_eq_true rfl)
        · replace h := o_ip hc14 h
          cases h
          exact zx_throw (n := 1) rfl rfl (by decide) kl_X6_79 in_IllegalArgumentException (by decide) (text := "only an item can be moved, and only to a block") (by decide) o_atA dX6_move_34 dX6_move_37 dX6_move_38 dX6_move_40 dX6_move_43 (Nat.le_of_ble_eq_true rfl)
theorem e_X6_move {G : o_G} {N : Nat} {o : Nat ⊕ Int32} {σ' : o_S} {p1 : Int32} {p2 : Int32} {p3 : Int32} {s : o_S} (h : f_X6_move N p1 p2 p3 s = some (o, σ')) : o_EvX G yX6_move cX6_move 5 (Option.some Jvm.ClassFile.FieldType.int) 7 [.ref (g_ad G 0), .int p1, .int p2, .int p3] s (Sum.map id (fun r => some (.int r)) o) σ' := o_EvX.mk rfl (Nat.le_of_ble_eq_true rfl) (s_X6_move h)
-- X6_isWord
set_option maxRecDepth 10000 in
theorem s_X6_isWord_b36 {G : o_G} {N : Nat} {k2 : Int32 → o_S → Option (Int32 × o_S)} {r : Int32} {σ' : o_S} {l1 : Int32} (hk2 : ∀ (z1 : Int32) (s : o_S), k2 z1 s = some (r, σ') → o_Z G RX6 cX6_isWord (Option.some Jvm.ClassFile.FieldType.boolean) 3 1 (o_E G (some (.int r)) σ') (o_k σ') s 2 [(0, .ref (g_ad G 8)), (1, .int z1)] []) {s : o_S} (h : f_X6_isWord_b36 N k2 l1 s = some (r, σ')) : o_Z G RX6 cX6_isWord (Option.some Jvm.ClassFile.FieldType.boolean) 3 1 (o_E G (some (.int r)) σ') (o_k σ') s 36 [(0, .ref (g_ad G 8)), (1, .int l1)] [] := by
  unfold f_X6_isWord_b36 at h
  refine z_iconst (v := 1) dX6_isWord_36 (by decide) ?_
  refine z_goto (tgt := 41) dX6_isWord_37 (by decide) ?_
  refine z_istore_n (L' := [(2, .int _), (0, .ref _), (1, .int _)]) dX6_isWord_41 (by decide) rfl ?_
  refine z_iload_n dX6_isWord_42 0 rfl ?_
  refine z_if_ne (tgt := 48) dX6_isWord_43 (by decide) (fun hc8 => ?_) (fun hc8 => ?_)
  · replace h := o_in hc8 h
    refine z_iinc (v := _ + 1) (L' := [(1, .int _), (2, .int _), (0, .ref _)]) dX6_isWord_48 2 rfl rfl (by decide) rfl ?_
    refine z_goto (tgt := 2) dX6_isWord_51 (by decide) ?_
    exact o_Z.sub [2, 0] rfl (hk2 _ _ h)
  · replace h := o_ip hc8 h
    refine z_iconst (v := 0) dX6_isWord_46 (by decide) ?_
    cases h
    exact z_zret (by decide) rfl rfl rfl dX6_isWord_47
set_option maxRecDepth 10000 in
theorem s_X6_isWord_L2 {G : o_G} {N : Nat} {r : Int32} {σ' : o_S} : ∀ (n : Nat) (l1 : Int32) (s : o_S), f_X6_isWord_L2 N n l1 s = some (r, σ') → o_Z G RX6 cX6_isWord (Option.some Jvm.ClassFile.FieldType.boolean) 3 1 (o_E G (some (.int r)) σ') (o_k σ') s 2 [(0, .ref (g_ad G 8)), (1, .int l1)] [] := by
  intro n
  induction n with
  | zero => intro l1 s h; cases h
  | succ n ih =>
    intro l1 s h
    rw [f_X6_isWord_L2] at h
    refine z_iload_n dX6_isWord_2 1 rfl ?_
    refine z_aload_n dX6_isWord_3 0 rfl ?_
    refine z_callVi (As := []) (e_row_size (r := 1) (kd := 0) (by decide)) (by decide) rm_size ml_X6_67 rfl rfl (Nat.le_of_ble_eq_true rfl) (rv_row (r := 1) (by decide)) dX6_isWord_4 ?_
    refine z_icmp_ge (tgt := 54) dX6_isWord_7 (by decide) (fun hc1 => ?_) (fun hc1 => ?_)
    · replace h := o_ip hc1 h
      refine z_aload_n dX6_isWord_54 0 rfl ?_
      refine z_callVi (As := []) (e_row_size (r := 1) (kd := 0) (by decide)) (by decide) rm_size ml_X6_67 rfl rfl (Nat.le_of_ble_eq_true rfl) (rv_row (r := 1) (by decide)) dX6_isWord_55 ?_
      refine z_if_le (tgt := 65) dX6_isWord_58 (by decide) (fun hc2 => ?_) (fun hc2 => ?_)
      · replace h := o_ip hc2 h
        refine z_iconst (v := 0) dX6_isWord_65 (by decide) ?_
        cases h
        exact z_zret (by decide) rfl rfl rfl dX6_isWord_66
      · replace h := o_in hc2 h
        refine z_iconst (v := 1) dX6_isWord_61 (by decide) ?_
        refine z_goto (tgt := 66) dX6_isWord_62 (by decide) ?_
        cases h
        exact z_zret (by decide) rfl rfl rfl dX6_isWord_66
    · replace h := o_in hc1 h
      refine z_aload_n dX6_isWord_10 0 rfl ?_
      refine z_iload_n dX6_isWord_11 1 rfl ?_
      replace h := o_dd h
      refine z_callVi (As := [.int _]) (e_row_at (r := 1) (kd := 0) (by decide) _) (by decide) rm_at ml_X6_71 rfl rfl (Nat.le_of_ble_eq_true rfl) (rv_row (r := 1) (by decide)) dX6_isWord_12 ?_
      obtain ⟨x6, s4, e5, h⟩ := o_bdi h
      refine z_callSi (As := [.int _]) (e_X6_isLetter e5) (by decide) mi_X6_isLetter ml_X6_215 rfl rfl (Nat.le_of_ble_eq_true rfl) dX6_isWord_15 ?_
      refine z_if_ne (tgt := 36) dX6_isWord_18 (by decide) (fun hc7 => ?_) (fun hc7 => ?_)
      · replace h := o_in hc7 h
        exact o_Z.sub [0, 1] rfl (s_X6_isWord_b36 ih h)
      · replace h := o_ip hc7 h
        refine z_iload_n dX6_isWord_21 1 rfl ?_
        refine z_if_le (tgt := 40) dX6_isWord_22 (by decide) (fun hc9 => ?_) (fun hc9 => ?_)
        · replace h := o_ip hc9 h
          refine z_iconst (v := 0) dX6_isWord_40 (by decide) ?_
          refine z_istore_n (L' := [(2, .int _), (0, .ref _), (1, .int _)]) dX6_isWord_41 (by decide) rfl ?_
          refine z_iload_n dX6_isWord_42 0 rfl ?_
          refine z_if_ne (tgt := 48) dX6_isWord_43 (by decide) (fun hc10 => ?_) (fun hc10 => ?_)
          · replace h := o_in hc10 h
            refine z_iinc (v := _ + 1) (L' := [(1, .int _), (2, .int _), (0, .ref _)]) dX6_isWord_48 2 rfl rfl (by decide) rfl ?_
            refine z_goto (tgt := 2) dX6_isWord_51 (by decide) ?_
            exact o_Z.sub [2, 0] rfl (ih _ _ h)
          · replace h := o_ip hc10 h
            refine z_iconst (v := 0) dX6_isWord_46 (by decide) ?_
            cases h
            exact z_zret (by decide) rfl rfl rfl dX6_isWord_47
        · replace h := o_in hc9 h
          refine z_aload_n dX6_isWord_25 0 rfl ?_
          refine z_iload_n dX6_isWord_26 1 rfl ?_
          replace h := o_dd h
          refine z_callVi (As := [.int _]) (e_row_at (r := 1) (kd := 0) (by decide) _) (by decide) rm_at ml_X6_71 rfl rfl (Nat.le_of_ble_eq_true rfl) (rv_row (r := 1) (by decide)) dX6_isWord_27 ?_
          obtain ⟨x14, s12, e13, h⟩ := o_bdi h
          refine z_callSi (As := [.int _]) (e_X6_isDigit e13) (by decide) mi_X6_isDigit ml_X6_218 rfl rfl (Nat.le_of_ble_eq_true rfl) dX6_isWord_30 ?_
          refine z_if_eq (tgt := 40) dX6_isWord_33 (by decide) (fun hc15 => ?_) (fun hc15 => ?_)
          · replace h := o_ip hc15 h
            refine z_iconst (v := 0) dX6_isWord_40 (by decide) ?_
            refine z_istore_n (L' := [(2, .int _), (0, .ref _), (1, .int _)]) dX6_isWord_41 (by decide) rfl ?_
            refine z_iload_n dX6_isWord_42 0 rfl ?_
            refine z_if_ne (tgt := 48) dX6_isWord_43 (by decide) (fun hc16 => ?_) (fun hc16 => ?_)
            · replace h := o_in hc16 h
              refine z_iinc (v := _ + 1) (L' := [(1, .int _), (2, .int _), (0, .ref _)]) dX6_isWord_48 2 rfl rfl (by decide) rfl ?_
              refine z_goto (tgt := 2) dX6_isWord_51 (by decide) ?_
              exact o_Z.sub [2, 0] rfl (ih _ _ h)
            · replace h := o_ip hc16 h
              refine z_iconst (v := 0) dX6_isWord_46 (by decide) ?_
              cases h
              exact z_zret (by decide) rfl rfl rfl dX6_isWord_47
          · replace h := o_in hc15 h
            exact o_Z.sub [0, 1] rfl (s_X6_isWord_b36 ih h)
set_option maxRecDepth 10000 in
theorem s_X6_isWord {G : o_G} {N : Nat} {r : Int32} {σ' : o_S} {s : o_S} (h : f_X6_isWord N  s = some (r, σ')) : o_Z G RX6 cX6_isWord (Option.some Jvm.ClassFile.FieldType.boolean) 3 1 (o_E G (some (.int r)) σ') (o_k σ') s 0 [(0, .ref (g_ad G 8))] [] := by
  unfold f_X6_isWord at h
  refine z_iconst (v := 0) dX6_isWord_0 (by decide) ?_
  refine z_istore_n (L' := [(1, .int _), (0, .ref _)]) dX6_isWord_1 (by decide) rfl ?_
  exact o_Z.sub [1, 0] rfl (s_X6_isWord_L2 _ _ _ h)
theorem e_X6_isWord {G : o_G} {N : Nat} {r : Int32} {σ' : o_S} {s : o_S} (h : f_X6_isWord N  s = some (r, σ')) : o_Ev G yX6_isWord cX6_isWord 3 (Option.some Jvm.ClassFile.FieldType.boolean) 1 [.ref (g_ad G 8)] s (some (.int r)) σ' := o_Ev.mk rfl (Nat.le_of_ble_eq_true rfl) (s_X6_isWord h)
-- X6_rename
set_option maxRecDepth 10000 in
theorem s_X6_rename {G : o_G} {N : Nat} {o : Nat ⊕ Int32} {σ' : o_S} {p1 : Int32} {p2 : Int64} {s : o_S} (h : f_X6_rename N p1 p2 s = some (o, σ')) : o_Z G RX6 cX6_rename (Option.some Jvm.ClassFile.FieldType.int) 4 7 (o_EX G (Sum.map id (fun r => some (.int r)) o) σ') (o_k σ') s 0 [(0, .ref (g_ad G 0)), (1, .int p1), (2, .long p2)] [] := by
  unfold f_X6_rename at h
  refine z_aload_n dX6_rename_0 0 rfl ?_
  refine z_iload_n dX6_rename_1 1 rfl ?_
  rcases o_bdx h with ⟨ex16, s1, e2, h⟩ | ⟨v3, s1, e2, h⟩
  · cases h
    exact zx_callV (o := .inl ex16) (As := [.int _]) (e_X6_checkNode e2) (by decide) mi_X6_checkNode ml_X6_124 rfl rfl (Nat.le_of_ble_eq_true rfl) rv_0 dX6_rename_2 (fun e he => by cases he; exact ⟨rfl, rfl⟩) (fun v he => by cases he)
  · refine zx_callV (o := .inr (none)) (As := [.int _]) (e_X6_checkNode e2) (by decide) mi_X6_checkNode ml_X6_124 rfl rfl (Nat.le_of_ble_eq_true rfl) rv_0 dX6_rename_2 (fun e he => by cases he) (fun v he => ?_)
    cases he
    refine z_aload_n dX6_rename_5 0 rfl ?_
    refine z_lload_n dX6_rename_6 2 rfl ?_
    obtain ⟨s4, e5, h⟩ := o_bdv h
    refine z_callVv (As := [.long _]) (e_X6_unpack e5) (by decide) mi_X6_unpack ml_X6_63 rfl rfl (Nat.le_of_ble_eq_true rfl) rv_0 dX6_rename_7 ?_
    refine z_aload_n dX6_rename_10 0 rfl ?_
    refine zg_X6_tree fl_X6_29 dX6_rename_11 ?_
    refine z_iload_n dX6_rename_14 1 rfl ?_
    refine z_iconst (v := 2) dX6_rename_15 (by decide) ?_
    obtain ⟨x8, s6, e7, h⟩ := o_bdi h
    refine z_callVi (As := [.int _, .int _]) (e_X5_is e7) (by decide) mi_X5_is ml_X6_139 rfl rfl (Nat.le_of_ble_eq_true rfl) rv_2 dX6_rename_16 ?_
    refine z_if_eq (tgt := 32) dX6_rename_19 (by decide) (fun hc9 => ?_) (fun hc9 => ?_)
    · replace h := o_ip hc9 h
      cases h
      exact zx_throw (n := 1) rfl rfl (by decide) kl_X6_79 in_IllegalArgumentException (by decide) (text := "only a word can be renamed, and only to a word") (by decide) o_atA dX6_rename_32 dX6_rename_35 dX6_rename_36 dX6_rename_38 dX6_rename_41 (Nat.le_of_ble_eq_true rfl)
    · replace h := o_in hc9 h
      refine z_aload_n dX6_rename_22 0 rfl ?_
      refine zg_X6_unpacked fl_X6_16 dX6_rename_23 ?_
      obtain ⟨x12, s10, e11, h⟩ := o_bdi h
      refine z_callSi (As := [.ref _]) (e_X6_isWord e11) (by decide) mi_X6_isWord ml_X6_182 rfl rfl (Nat.le_of_ble_eq_true rfl) dX6_rename_26 ?_
      refine z_if_ne (tgt := 42) dX6_rename_29 (by decide) (fun hc13 => ?_) (fun hc13 => ?_)
      · replace h := o_in hc13 h
        refine z_aload_n dX6_rename_42 0 rfl ?_
        refine zg_X6_tree fl_X6_29 dX6_rename_43 ?_
        refine z_iload_n dX6_rename_46 1 rfl ?_
        refine z_aload_n dX6_rename_47 0 rfl ?_
        refine zg_X6_unpacked fl_X6_16 dX6_rename_48 ?_
        obtain ⟨s14, e15, h⟩ := o_bdv h
        refine z_callVv (As := [.int _, .ref _]) (e_X5_respell e15) (by decide) mi_X5_respell ml_X6_188 rfl rfl (Nat.le_of_ble_eq_true rfl) rv_2 dX6_rename_51 ?_
        refine z_aload_n dX6_rename_54 0 rfl ?_
        refine zg_X6_unpacked fl_X6_16 dX6_rename_55 ?_
        refine z_callVi (As := []) (e_row_size (r := 1) (kd := 0) (by decide)) (by decide) rm_size ml_X6_67 rfl rfl (Nat.le_of_ble_eq_true rfl) (rv_row (r := 1) (by decide)) dX6_rename_58 ?_
        cases h
        exact zx_iret rfl rfl rfl dX6_rename_61
      · replace h := o_ip hc13 h
        cases h
        exact zx_throw (n := 1) rfl rfl (by decide) kl_X6_79 in_IllegalArgumentException (by decide) (text := "only a word can be renamed, and only to a word") (by decide) o_atA dX6_rename_32 dX6_rename_35 dX6_rename_36 dX6_rename_38 dX6_rename_41 (Nat.le_of_ble_eq_true rfl)
theorem e_X6_rename {G : o_G} {N : Nat} {o : Nat ⊕ Int32} {σ' : o_S} {p1 : Int32} {p2 : Int64} {s : o_S} (h : f_X6_rename N p1 p2 s = some (o, σ')) : o_EvX G yX6_rename cX6_rename 4 (Option.some Jvm.ClassFile.FieldType.int) 7 [.ref (g_ad G 0), .int p1, .long p2] s (Sum.map id (fun r => some (.int r)) o) σ' := o_EvX.mk rfl (Nat.le_of_ble_eq_true rfl) (s_X6_rename h)
-- X6_write
set_option maxRecDepth 10000 in
theorem s_X6_write {G : o_G} {N : Nat} {r : Int32} {σ' : o_S} {p1 : Int32} {s : o_S} (h : f_X6_write N p1 s = some (r, σ')) : o_Z G RX6 cX6_write (Option.some Jvm.ClassFile.FieldType.int) 2 411 (o_E G (some (.int r)) σ') (o_k σ') s 0 [(0, .ref (g_ad G 0)), (1, .int p1)] [] := by
  unfold f_X6_write at h
  refine z_aload_n dX6_write_0 0 rfl ?_
  refine zg_X6_printer fl_X6_56 dX6_write_1 ?_
  obtain ⟨s1, e2, h⟩ := o_bdv h
  refine z_callVv (As := []) (e_X2_startAgain e2) (by decide) mi_X2_startAgain ml_X6_192 rfl rfl (Nat.le_of_ble_eq_true rfl) rv_5 dX6_write_4 ?_
  refine z_iload_n dX6_write_7 1 rfl ?_
  refine z_if_eq (tgt := 23) dX6_write_8 (by decide) (fun hc3 => ?_) (fun hc3 => ?_)
  · replace h := o_ip hc3 h
    refine z_aload_n dX6_write_23 0 rfl ?_
    refine zg_X6_printer fl_X6_56 dX6_write_24 ?_
    obtain ⟨s4, e5, h⟩ := o_bdv h
    refine z_callVv (As := []) (e_X2_printItems e5) (by decide) mi_X2_printItems ml_X6_197 rfl rfl (Nat.le_of_ble_eq_true rfl) rv_5 dX6_write_27 ?_
    refine z_aload_n dX6_write_30 0 rfl ?_
    refine zg_X6_printer fl_X6_56 dX6_write_31 ?_
    obtain ⟨x8, s6, e7, h⟩ := o_bdi h
    refine z_callVi (As := []) (e_X2_size e7) (by decide) mi_X2_size ml_X6_200 rfl rfl (Nat.le_of_ble_eq_true rfl) rv_5 dX6_write_34 ?_
    cases h
    exact z_iret rfl rfl rfl dX6_write_37
  · replace h := o_in hc3 h
    refine z_aload_n dX6_write_11 0 rfl ?_
    refine zg_X6_printer fl_X6_56 dX6_write_12 ?_
    refine z_iconst (v := 0) dX6_write_15 (by decide) ?_
    refine z_iconst (v := 0) dX6_write_16 (by decide) ?_
    obtain ⟨s9, e10, h⟩ := o_bdv h
    refine z_callVNv (As := [.int _, .int _]) (e_X2_printLines e10) (by decide) mi_X2_printLines (host := "OffsideParser") (by decide) rfl rfl (Nat.le_of_ble_eq_true rfl) rv_5 dX6_write_17 ?_
    refine z_goto (tgt := 30) dX6_write_20 (by decide) ?_
    refine z_aload_n dX6_write_30 0 rfl ?_
    refine zg_X6_printer fl_X6_56 dX6_write_31 ?_
    obtain ⟨x13, s11, e12, h⟩ := o_bdi h
    refine z_callVi (As := []) (e_X2_size e12) (by decide) mi_X2_size ml_X6_200 rfl rfl (Nat.le_of_ble_eq_true rfl) rv_5 dX6_write_34 ?_
    cases h
    exact z_iret rfl rfl rfl dX6_write_37
theorem e_X6_write {G : o_G} {N : Nat} {r : Int32} {σ' : o_S} {p1 : Int32} {s : o_S} (h : f_X6_write N p1 s = some (r, σ')) : o_Ev G yX6_write cX6_write 2 (Option.some Jvm.ClassFile.FieldType.int) 411 [.ref (g_ad G 0), .int p1] s (some (.int r)) σ' := o_Ev.mk rfl (Nat.le_of_ble_eq_true rfl) (s_X6_write h)
-- X6_written
set_option maxRecDepth 10000 in
theorem s_X6_written {G : o_G} {N : Nat} {o : Nat ⊕ Int32} {σ' : o_S} {p1 : Int32} {s : o_S} (h : f_X6_written N p1 s = some (o, σ')) : o_Z G RX6 cX6_written (Option.some Jvm.ClassFile.FieldType.int) 2 6 (o_EX G (Sum.map id (fun r => some (.int r)) o) σ') (o_k σ') s 0 [(0, .ref (g_ad G 0)), (1, .int p1)] [] := by
  unfold f_X6_written at h
  refine z_iload_n dX6_written_0 1 rfl ?_
  refine z_if_lt (tgt := 15) dX6_written_1 (by decide) (fun hc1 => ?_) (fun hc1 => ?_)
  · replace h := o_ip hc1 h
    cases h
    exact zx_throw (n := 3) rfl rfl (by decide) kl_X6_115 in_IndexOutOfBoundsException (by decide) (text := "nothing is written there") (by decide) o_atI dX6_written_15 dX6_written_18 dX6_written_19 dX6_written_21 dX6_written_24 (Nat.le_of_ble_eq_true rfl)
  · replace h := o_in hc1 h
    refine z_iload_n dX6_written_4 1 rfl ?_
    refine z_aload_n dX6_written_5 0 rfl ?_
    refine zg_X6_printer fl_X6_56 dX6_written_6 ?_
    obtain ⟨x4, s2, e3, h⟩ := o_bdi h
    refine z_callVi (As := []) (e_X2_size e3) (by decide) mi_X2_size ml_X6_200 rfl rfl (Nat.le_of_ble_eq_true rfl) rv_5 dX6_written_9 ?_
    refine z_icmp_lt (tgt := 25) dX6_written_12 (by decide) (fun hc5 => ?_) (fun hc5 => ?_)
    · replace h := o_ip hc5 h
      refine z_aload_n dX6_written_25 0 rfl ?_
      refine zg_X6_printer fl_X6_56 dX6_written_26 ?_
      refine z_iload_n dX6_written_29 1 rfl ?_
      obtain ⟨x8, s6, e7, h⟩ := o_bdi h
      refine z_callVi (As := [.int _]) (e_X2_get e7) (by decide) mi_X2_get ml_X6_203 rfl rfl (Nat.le_of_ble_eq_true rfl) rv_5 dX6_written_30 ?_
      cases h
      exact zx_iret rfl rfl rfl dX6_written_33
    · replace h := o_in hc5 h
      cases h
      exact zx_throw (n := 3) rfl rfl (by decide) kl_X6_115 in_IndexOutOfBoundsException (by decide) (text := "nothing is written there") (by decide) o_atI dX6_written_15 dX6_written_18 dX6_written_19 dX6_written_21 dX6_written_24 (Nat.le_of_ble_eq_true rfl)
theorem e_X6_written {G : o_G} {N : Nat} {o : Nat ⊕ Int32} {σ' : o_S} {p1 : Int32} {s : o_S} (h : f_X6_written N p1 s = some (o, σ')) : o_EvX G yX6_written cX6_written 2 (Option.some Jvm.ClassFile.FieldType.int) 6 [.ref (g_ad G 0), .int p1] s (Sum.map id (fun r => some (.int r)) o) σ' := o_EvX.mk rfl (Nat.le_of_ble_eq_true rfl) (s_X6_written h)
-- X6_mix
set_option maxRecDepth 10000 in
theorem s_X6_mix {G : o_G} {N : Nat} {r : Int64} {σ' : o_S} {p1 : Int64} {p2 : Int64} {s : o_S} (h : f_X6_mix N p1 p2 s = some (r, σ')) : o_Z G RX6 cX6_mix (Option.some Jvm.ClassFile.FieldType.long) 4 0 (o_E G (some (.long r)) σ') (o_k σ') s 0 [(0, .long p1), (2, .long p2)] [] := by
  unfold f_X6_mix at h
  refine z_lload_n dX6_mix_0 0 rfl ?_
  refine z_ldc2 cl_X6_211 dX6_mix_1 ?_
  refine z_lmul dX6_mix_4 ?_
  refine z_lload_n dX6_mix_5 1 rfl ?_
  refine z_ladd dX6_mix_6 ?_
  cases h
  exact z_lret rfl rfl rfl dX6_mix_7
theorem e_X6_mix {G : o_G} {N : Nat} {r : Int64} {σ' : o_S} {p1 : Int64} {p2 : Int64} {s : o_S} (h : f_X6_mix N p1 p2 s = some (r, σ')) : o_Ev G yX6_mix cX6_mix 4 (Option.some Jvm.ClassFile.FieldType.long) 0 [.long p1, .long p2] s (some (.long r)) σ' := o_Ev.mk rfl (Nat.le_of_ble_eq_true rfl) (s_X6_mix h)
-- X6_digest
set_option maxRecDepth 10000 in
theorem s_X6_digest_L117 {G : o_G} {N : Nat} {k32 : Int64 → Int32 → o_S → Option (Int64 × o_S)} {r : Int64} {σ' : o_S} (hk32 : ∀ (z1 : Int64) (z3 : Int32) (s : o_S), k32 z1 z3 s = some (r, σ') → o_Z G RX6 cX6_digest (Option.some Jvm.ClassFile.FieldType.long) 6 5 (o_E G (some (.long r)) σ') (o_k σ') s 32 [(0, .ref (g_ad G 0)), (1, .long z1), (3, .int z3)] []) : ∀ (n : Nat) (l1 : Int64) (l3 : Int32) (l4 : Int32) (l5 : Int32) (s : o_S), f_X6_digest_L117 N k32 n l1 l3 l4 l5 s = some (r, σ') → o_Z G RX6 cX6_digest (Option.some Jvm.ClassFile.FieldType.long) 6 5 (o_E G (some (.long r)) σ') (o_k σ') s 117 [(0, .ref (g_ad G 0)), (1, .long l1), (3, .int l3), (4, .int l4), (5, .int l5)] [] := by
  intro n
  induction n with
  | zero => intro l1 l3 l4 l5 s h; cases h
  | succ n ih =>
    intro l1 l3 l4 l5 s h
    rw [f_X6_digest_L117] at h
    refine z_iload dX6_digest_117 4 rfl ?_
    refine z_iload dX6_digest_119 3 rfl ?_
    refine z_icmp_ge (tgt := 146) dX6_digest_121 (by decide) (fun hc48 => ?_) (fun hc48 => ?_)
    · replace h := o_ip hc48 h
      refine z_iinc (v := _ + 1) (L' := [(3, .int _), (0, .ref _), (1, .long _), (4, .int _), (5, .int _)]) dX6_digest_146 2 rfl rfl (by decide) rfl ?_
      refine z_goto (tgt := 32) dX6_digest_149 (by decide) ?_
      exact o_Z.sub [1, 2, 0] rfl (hk32 _ _ _ h)
    · replace h := o_in hc48 h
      refine z_lload_n dX6_digest_124 1 rfl ?_
      refine z_aload_n dX6_digest_125 0 rfl ?_
      refine zg_X6_tree fl_X6_29 dX6_digest_126 ?_
      refine z_iload_n dX6_digest_129 2 rfl ?_
      refine z_iload dX6_digest_130 4 rfl ?_
      obtain ⟨x51, s49, e50, h⟩ := o_bdi h
      refine z_callVi (As := [.int _, .int _]) (e_X5_letterOf e50) (by decide) mi_X5_letterOf ml_X6_143 rfl rfl (Nat.le_of_ble_eq_true rfl) rv_2 dX6_digest_132 ?_
      refine z_i2l dX6_digest_135 ?_
      obtain ⟨x54, s52, e53, h⟩ := o_bdi h
      refine z_callSl (As := [.long _, .long _]) (e_X6_mix e53) (by decide) mi_X6_mix ml_X6_207 rfl rfl (Nat.le_of_ble_eq_true rfl) dX6_digest_136 ?_
      refine z_lstore_n (L' := [(1, .long _), (0, .ref _), (3, .int _), (4, .int _), (5, .int _)]) dX6_digest_139 (by decide) rfl ?_
      refine z_iinc (v := _ + 1) (L' := [(5, .int _), (1, .long _), (0, .ref _), (3, .int _), (4, .int _)]) dX6_digest_140 4 rfl rfl (by decide) rfl ?_
      refine z_goto (tgt := 117) dX6_digest_143 (by decide) ?_
      exact o_Z.sub [2, 1, 3, 4, 0] rfl (ih _ _ _ _ _ h)
set_option maxRecDepth 10000 in
theorem s_X6_digest_L32 {G : o_G} {N : Nat} {r : Int64} {σ' : o_S} : ∀ (n : Nat) (l1 : Int64) (l3 : Int32) (s : o_S), f_X6_digest_L32 N n l1 l3 s = some (r, σ') → o_Z G RX6 cX6_digest (Option.some Jvm.ClassFile.FieldType.long) 6 5 (o_E G (some (.long r)) σ') (o_k σ') s 32 [(0, .ref (g_ad G 0)), (1, .long l1), (3, .int l3)] [] := by
  intro n
  induction n with
  | zero => intro l1 l3 s h; cases h
  | succ n ih =>
    intro l1 l3 s h
    rw [f_X6_digest_L32] at h
    refine z_iload_n dX6_digest_32 2 rfl ?_
    refine z_aload_n dX6_digest_33 0 rfl ?_
    refine zg_X6_tree fl_X6_29 dX6_digest_34 ?_
    obtain ⟨x12, s10, e11, h⟩ := o_bdi h
    refine z_callVi (As := []) (e_X5_size e11) (by decide) mi_X5_size ml_X6_113 rfl rfl (Nat.le_of_ble_eq_true rfl) rv_2 dX6_digest_37 ?_
    refine z_icmp_ge (tgt := 152) dX6_digest_40 (by decide) (fun hc13 => ?_) (fun hc13 => ?_)
    · replace h := o_ip hc13 h
      refine z_lload_n dX6_digest_152 1 rfl ?_
      refine z_aload_n dX6_digest_153 0 rfl ?_
      refine zg_X6_repairs fl_X6_22 dX6_digest_154 ?_
      obtain ⟨x16, s14, e15, h⟩ := o_bdi h
      refine z_callVi (As := []) (e_X3_size e15) (by decide) mi_X3_size ml_X6_114 rfl rfl (Nat.le_of_ble_eq_true rfl) rv_1 dX6_digest_157 ?_
      refine z_i2l dX6_digest_160 ?_
      obtain ⟨x19, s17, e18, h⟩ := o_bdi h
      refine z_callSl (As := [.long _, .long _]) (e_X6_mix e18) (by decide) mi_X6_mix ml_X6_207 rfl rfl (Nat.le_of_ble_eq_true rfl) dX6_digest_161 ?_
      refine z_lstore_n (L' := [(1, .long _), (0, .ref _), (3, .int _)]) dX6_digest_164 (by decide) rfl ?_
      refine z_lload_n dX6_digest_165 0 rfl ?_
      refine z_aload_n dX6_digest_166 1 rfl ?_
      refine zg_X6_tree fl_X6_29 dX6_digest_167 ?_
      obtain ⟨x22, s20, e21, h⟩ := o_bdi h
      refine z_callVi (As := []) (e_X5_countDifferentWords e21) (by decide) mi_X5_countDifferentWords ml_X6_150 rfl rfl (Nat.le_of_ble_eq_true rfl) rv_2 dX6_digest_170 ?_
      refine z_i2l dX6_digest_173 ?_
      obtain ⟨x25, s23, e24, h⟩ := o_bdi h
      refine z_callSl (As := [.long _, .long _]) (e_X6_mix e24) (by decide) mi_X6_mix ml_X6_207 rfl rfl (Nat.le_of_ble_eq_true rfl) dX6_digest_174 ?_
      cases h
      exact z_lret rfl rfl rfl dX6_digest_177
    · replace h := o_in hc13 h
      refine z_lload_n dX6_digest_43 1 rfl ?_
      refine z_aload_n dX6_digest_44 0 rfl ?_
      refine zg_X6_tree fl_X6_29 dX6_digest_45 ?_
      refine z_iload_n dX6_digest_48 2 rfl ?_
      refine z_iconst (v := 0) dX6_digest_49 (by decide) ?_
      obtain ⟨x28, s26, e27, h⟩ := o_bdi h
      refine z_callVi (As := [.int _, .int _]) (e_X5_get e27) (by decide) mi_X5_get ml_X6_127 rfl rfl (Nat.le_of_ble_eq_true rfl) rv_2 dX6_digest_50 ?_
      refine z_i2l dX6_digest_53 ?_
      obtain ⟨x31, s29, e30, h⟩ := o_bdi h
      refine z_callSl (As := [.long _, .long _]) (e_X6_mix e30) (by decide) mi_X6_mix ml_X6_207 rfl rfl (Nat.le_of_ble_eq_true rfl) dX6_digest_54 ?_
      refine z_lstore_n (L' := [(1, .long _), (0, .ref _), (3, .int _)]) dX6_digest_57 (by decide) rfl ?_
      refine z_lload_n dX6_digest_58 0 rfl ?_
      refine z_aload_n dX6_digest_59 1 rfl ?_
      refine zg_X6_tree fl_X6_29 dX6_digest_60 ?_
      refine z_iload_n dX6_digest_63 2 rfl ?_
      obtain ⟨x34, s32, e33, h⟩ := o_bdi h
      refine z_callVi (As := [.int _]) (e_X5_countChildren e33) (by decide) mi_X5_countChildren ml_X6_131 rfl rfl (Nat.le_of_ble_eq_true rfl) rv_2 dX6_digest_64 ?_
      refine z_i2l dX6_digest_67 ?_
      obtain ⟨x37, s35, e36, h⟩ := o_bdi h
      refine z_callSl (As := [.long _, .long _]) (e_X6_mix e36) (by decide) mi_X6_mix ml_X6_207 rfl rfl (Nat.le_of_ble_eq_true rfl) dX6_digest_68 ?_
      refine z_lstore_n (L' := [(1, .long _), (0, .ref _), (3, .int _)]) dX6_digest_71 (by decide) rfl ?_
      refine z_lload_n dX6_digest_72 0 rfl ?_
      refine z_aload_n dX6_digest_73 1 rfl ?_
      refine zg_X6_tree fl_X6_29 dX6_digest_74 ?_
      refine z_iload_n dX6_digest_77 2 rfl ?_
      refine z_iconst (v := 5) dX6_digest_78 (by decide) ?_
      obtain ⟨x40, s38, e39, h⟩ := o_bdi h
      refine z_callVi (As := [.int _, .int _]) (e_X5_get e39) (by decide) mi_X5_get ml_X6_127 rfl rfl (Nat.le_of_ble_eq_true rfl) rv_2 dX6_digest_79 ?_
      refine z_i2l dX6_digest_82 ?_
      obtain ⟨x43, s41, e42, h⟩ := o_bdi h
      refine z_callSl (As := [.long _, .long _]) (e_X6_mix e42) (by decide) mi_X6_mix ml_X6_207 rfl rfl (Nat.le_of_ble_eq_true rfl) dX6_digest_83 ?_
      refine z_lstore_n (L' := [(1, .long _), (0, .ref _), (3, .int _)]) dX6_digest_86 (by decide) rfl ?_
      refine z_aload_n dX6_digest_87 1 rfl ?_
      refine zg_X6_tree fl_X6_29 dX6_digest_88 ?_
      refine z_iload_n dX6_digest_91 2 rfl ?_
      refine z_iconst (v := 2) dX6_digest_92 (by decide) ?_
      obtain ⟨x46, s44, e45, h⟩ := o_bdi h
      refine z_callVi (As := [.int _, .int _]) (e_X5_is e45) (by decide) mi_X5_is ml_X6_139 rfl rfl (Nat.le_of_ble_eq_true rfl) rv_2 dX6_digest_93 ?_
      refine z_if_eq (tgt := 111) dX6_digest_96 (by decide) (fun hc47 => ?_) (fun hc47 => ?_)
      · replace h := o_ip hc47 h
        refine z_iconst (v := 0) dX6_digest_111 (by decide) ?_
        refine z_istore (L' := [(4, .int _), (1, .long _), (0, .ref _), (3, .int _)]) dX6_digest_112 (by decide) rfl ?_
        refine z_iconst (v := 0) dX6_digest_114 (by decide) ?_
        refine z_istore (L' := [(5, .int _), (4, .int _), (1, .long _), (0, .ref _), (3, .int _)]) dX6_digest_115 (by decide) rfl ?_
        exact o_Z.sub [3, 2, 4, 1, 0] rfl (s_X6_digest_L117 ih _ _ _ _ _ _ h)
      · replace h := o_in hc47 h
        refine z_aload_n dX6_digest_99 1 rfl ?_
        refine zg_X6_tree fl_X6_29 dX6_digest_100 ?_
        refine z_iload_n dX6_digest_103 2 rfl ?_
        refine z_iconst (v := 5) dX6_digest_104 (by decide) ?_
        obtain ⟨x57, s55, e56, h⟩ := o_bdi h
        refine z_callVi (As := [.int _, .int _]) (e_X5_get e56) (by decide) mi_X5_get ml_X6_127 rfl rfl (Nat.le_of_ble_eq_true rfl) rv_2 dX6_digest_105 ?_
        refine z_goto (tgt := 112) dX6_digest_108 (by decide) ?_
        refine z_istore (L' := [(4, .int _), (1, .long _), (0, .ref _), (3, .int _)]) dX6_digest_112 (by decide) rfl ?_
        refine z_iconst (v := 0) dX6_digest_114 (by decide) ?_
        refine z_istore (L' := [(5, .int _), (4, .int _), (1, .long _), (0, .ref _), (3, .int _)]) dX6_digest_115 (by decide) rfl ?_
        exact o_Z.sub [3, 2, 4, 1, 0] rfl (s_X6_digest_L117 ih _ _ _ _ _ _ h)
set_option maxRecDepth 10000 in
theorem s_X6_digest {G : o_G} {N : Nat} {r : Int64} {σ' : o_S} {s : o_S} (h : f_X6_digest N  s = some (r, σ')) : o_Z G RX6 cX6_digest (Option.some Jvm.ClassFile.FieldType.long) 6 5 (o_E G (some (.long r)) σ') (o_k σ') s 0 [(0, .ref (g_ad G 0))] [] := by
  unfold f_X6_digest at h
  refine z_ldc2 cl_X6_205 dX6_digest_0 ?_
  refine z_lstore_n (L' := [(1, .long _), (0, .ref _)]) dX6_digest_3 (by decide) rfl ?_
  refine z_lload_n dX6_digest_4 0 rfl ?_
  refine z_aload_n dX6_digest_5 1 rfl ?_
  refine zg_X6_text fl_X6_10 dX6_digest_6 ?_
  refine z_callVi (As := []) (e_row_size (r := 0) (kd := 0) (by decide)) (by decide) rm_size ml_X6_67 rfl rfl (Nat.le_of_ble_eq_true rfl) (rv_row (r := 0) (by decide)) dX6_digest_9 ?_
  refine z_i2l dX6_digest_12 ?_
  obtain ⟨x3, s1, e2, h⟩ := o_bdi h
  refine z_callSl (As := [.long _, .long _]) (e_X6_mix e2) (by decide) mi_X6_mix ml_X6_207 rfl rfl (Nat.le_of_ble_eq_true rfl) dX6_digest_13 ?_
  refine z_lstore_n (L' := [(1, .long _), (0, .ref _)]) dX6_digest_16 (by decide) rfl ?_
  refine z_lload_n dX6_digest_17 0 rfl ?_
  refine z_aload_n dX6_digest_18 1 rfl ?_
  refine zg_X6_tree fl_X6_29 dX6_digest_19 ?_
  obtain ⟨x6, s4, e5, h⟩ := o_bdi h
  refine z_callVi (As := []) (e_X5_size e5) (by decide) mi_X5_size ml_X6_113 rfl rfl (Nat.le_of_ble_eq_true rfl) rv_2 dX6_digest_22 ?_
  refine z_i2l dX6_digest_25 ?_
  obtain ⟨x9, s7, e8, h⟩ := o_bdi h
  refine z_callSl (As := [.long _, .long _]) (e_X6_mix e8) (by decide) mi_X6_mix ml_X6_207 rfl rfl (Nat.le_of_ble_eq_true rfl) dX6_digest_26 ?_
  refine z_lstore_n (L' := [(1, .long _), (0, .ref _)]) dX6_digest_29 (by decide) rfl ?_
  refine z_iconst (v := 0) dX6_digest_30 (by decide) ?_
  refine z_istore_n (L' := [(3, .int _), (1, .long _), (0, .ref _)]) dX6_digest_31 (by decide) rfl ?_
  exact o_Z.sub [2, 1, 0] rfl (s_X6_digest_L32 _ _ _ _ h)
theorem e_X6_digest {G : o_G} {N : Nat} {r : Int64} {σ' : o_S} {s : o_S} (h : f_X6_digest N  s = some (r, σ')) : o_Ev G yX6_digest cX6_digest 6 (Option.some Jvm.ClassFile.FieldType.long) 5 [.ref (g_ad G 0)] s (some (.long r)) σ' := o_Ev.mk rfl (Nat.le_of_ble_eq_true rfl) (s_X6_digest h)
