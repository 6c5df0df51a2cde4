-- X7_thrown
set_option maxRecDepth 10000 in
theorem s_X7_thrown {G : o_G} {N : Nat} {r : Int32} {σ' : o_S} {s : o_S} (h : f_X7_thrown N  s = some (r, σ')) : o_Z (o_up G) RX7 cX7_thrown (Option.some Jvm.ClassFile.FieldType.int) 1 0 (o_E (o_up G) (some (.int r)) σ') (o_k σ') s 0 [(0, .ref (g_ad G 6))] [] := by
  unfold f_X7_thrown at h
  refine z_aload_n dX7_thrown_0 0 rfl ?_
  refine zg_X7_thrown fl_X7_71 dX7_thrown_1 ?_
  cases h
  exact z_iret rfl rfl rfl dX7_thrown_4
theorem e_X7_thrown {G : o_G} {N : Nat} {r : Int32} {σ' : o_S} {s : o_S} (h : f_X7_thrown N  s = some (r, σ')) : o_Ev (o_up G) yX7_thrown cX7_thrown 1 (Option.some Jvm.ClassFile.FieldType.int) 0 [.ref (g_ad G 6)] s (some (.int r)) σ' := o_Ev.mk rfl (Nat.le_of_ble_eq_true rfl) (s_X7_thrown h)
-- X7_fail
set_option maxRecDepth 10000 in
theorem s_X7_fail {G : o_G} {N : Nat} {r : Int32} {σ' : o_S} {p1 : Int32} {s : o_S} (h : f_X7_fail N p1 s = some (r, σ')) : o_Z (o_up G) RX7 cX7_fail (Option.some Jvm.ClassFile.FieldType.int) 2 0 (o_E (o_up G) (some (.int r)) σ') (o_k σ') s 0 [(0, .ref (g_ad G 6)), (1, .int p1)] [] := by
  unfold f_X7_fail at h
  refine z_aload_n dX7_fail_0 0 rfl ?_
  refine z_iload_n dX7_fail_1 1 rfl ?_
  replace h := o_dd h
  refine zp_X7_thrown fl_X7_71 dX7_fail_2 ?_
  refine z_iconst (v := 0) dX7_fail_5 (by decide) ?_
  cases h
  exact z_iret rfl rfl rfl dX7_fail_6
theorem e_X7_fail {G : o_G} {N : Nat} {r : Int32} {σ' : o_S} {p1 : Int32} {s : o_S} (h : f_X7_fail N p1 s = some (r, σ')) : o_Ev (o_up G) yX7_fail cX7_fail 2 (Option.some Jvm.ClassFile.FieldType.int) 0 [.ref (g_ad G 6), .int p1] s (some (.int r)) σ' := o_Ev.mk rfl (Nat.le_of_ble_eq_true rfl) (s_X7_fail h)
-- X7_byteOf
set_option maxRecDepth 10000 in
theorem s_X7_byteOf {G : o_G} {N : Nat} {r : Int32} {σ' : o_S} {p1 : Int64} {p2 : Int32} {s : o_S} (h : f_X7_byteOf N p1 p2 s = some (r, σ')) : o_Z (o_up G) RX7 cX7_byteOf (Option.some Jvm.ClassFile.FieldType.int) 3 0 (o_E (o_up G) (some (.int r)) σ') (o_k σ') s 0 [(0, .long p1), (2, .int p2)] [] := by
  unfold f_X7_byteOf at h
  refine z_lload_n dX7_byteOf_0 0 rfl ?_
  refine z_bipush (v := 56) dX7_byteOf_1 (by decide) ?_
  refine z_bipush (v := 8) dX7_byteOf_3 (by decide) ?_
  refine z_iload_n dX7_byteOf_5 1 rfl ?_
  refine z_imul dX7_byteOf_6 ?_
  refine z_isub dX7_byteOf_7 ?_
  refine z_lshr dX7_byteOf_8 ?_
  refine z_ldc2 cl_X7_75 dX7_byteOf_9 ?_
  refine z_land dX7_byteOf_12 ?_
  refine z_l2i dX7_byteOf_13 ?_
  cases h
  exact z_iret rfl rfl rfl dX7_byteOf_14
theorem e_X7_byteOf {G : o_G} {N : Nat} {r : Int32} {σ' : o_S} {p1 : Int64} {p2 : Int32} {s : o_S} (h : f_X7_byteOf N p1 p2 s = some (r, σ')) : o_Ev (o_up G) yX7_byteOf cX7_byteOf 3 (Option.some Jvm.ClassFile.FieldType.int) 0 [.long p1, .int p2] s (some (.int r)) σ' := o_Ev.mk rfl (Nat.le_of_ble_eq_true rfl) (s_X7_byteOf h)
-- X7_take
set_option maxRecDepth 10000 in
theorem s_X7_take_L5 {G : o_G} {N : Nat} {r : Int32} {σ' : o_S} : ∀ (n : Nat) (l1 : Int64) (l3 : Int32) (l4 : Int32) (s : o_S), f_X7_take_L5 N n l1 l3 l4 s = some (r, σ') → o_Z (o_up G) RX7 cX7_take (Option.some Jvm.ClassFile.FieldType.int) 5 1 (o_E (o_up G) (some (.int r)) σ') (o_k σ') s 5 [(0, .ref (g_ad G 6)), (1, .long l1), (3, .int l3), (4, .int l4)] [] := by
  intro n
  induction n with
  | zero => intro l1 l3 l4 s h; cases h
  | succ n ih =>
    intro l1 l3 l4 s h
    rw [f_X7_take_L5] at h
    refine z_iload dX7_take_5 3 rfl ?_
    refine z_bipush (v := 8) dX7_take_7 (by decide) ?_
    refine z_icmp_ge (tgt := 45) dX7_take_9 (by decide) (fun hc1 => ?_) (fun hc1 => ?_)
    · replace h := o_ip hc1 h
      refine z_iload_n dX7_take_45 2 rfl ?_
      cases h
      exact z_iret rfl rfl rfl dX7_take_46
    · replace h := o_in hc1 h
      refine z_lload_n dX7_take_12 1 rfl ?_
      refine z_iload dX7_take_13 3 rfl ?_
      obtain ⟨x4, s2, e3, h⟩ := o_bdi h
      refine z_callSi (As := [.long _, .int _]) (e_X7_byteOf e3) (by decide) mi_X7_byteOf ml_X7_77 rfl rfl (Nat.le_of_ble_eq_true rfl) dX7_take_15 ?_
      refine z_if_ne (tgt := 24) dX7_take_18 (by decide) (fun hc5 => ?_) (fun hc5 => ?_)
      · replace h := o_in hc5 h
        refine z_aload_n dX7_take_24 0 rfl ?_
        refine zg_X7_fed fl_X7_53 dX7_take_25 ?_
        refine z_iload_n dX7_take_28 2 rfl ?_
        refine z_lload_n dX7_take_29 1 rfl ?_
        refine z_iload dX7_take_30 3 rfl ?_
        obtain ⟨x8, s6, e7, h⟩ := o_bdi h
        refine z_callSi (As := [.long _, .int _]) (e_X7_byteOf e7) (by decide) mi_X7_byteOf ml_X7_77 rfl rfl (Nat.le_of_ble_eq_true rfl) dX7_take_32 ?_
        obtain ⟨g9, h⟩ := o_gd h
        replace h := o_dd h
        refine zs_fed g9 dX7_take_35 ?_
        refine z_iinc (v := _ + 1) (L' := [(3, .int _), (0, .ref _), (1, .long _), (4, .int _)]) dX7_take_36 2 rfl rfl (by decide) rfl ?_
        refine z_iinc (v := _ + 1) (L' := [(4, .int _), (3, .int _), (0, .ref _), (1, .long _)]) dX7_take_39 3 rfl rfl (by decide) rfl ?_
        refine z_goto (tgt := 5) dX7_take_42 (by decide) ?_
        exact o_Z.sub [2, 3, 1, 0] rfl (ih _ _ _ _ h)
      · replace h := o_ip hc5 h
        refine z_goto (tgt := 39) dX7_take_21 (by decide) ?_
        refine z_iinc (v := _ + 1) (L' := [(4, .int _), (0, .ref _), (1, .long _), (3, .int _)]) dX7_take_39 3 rfl rfl (by decide) rfl ?_
        refine z_goto (tgt := 5) dX7_take_42 (by decide) ?_
        exact o_Z.sub [1, 2, 3, 0] rfl (ih _ _ _ _ h)
set_option maxRecDepth 10000 in
theorem s_X7_take {G : o_G} {N : Nat} {r : Int32} {σ' : o_S} {p1 : Int64} {s : o_S} (h : f_X7_take N p1 s = some (r, σ')) : o_Z (o_up G) RX7 cX7_take (Option.some Jvm.ClassFile.FieldType.int) 5 1 (o_E (o_up G) (some (.int r)) σ') (o_k σ') s 0 [(0, .ref (g_ad G 6)), (1, .long p1)] [] := by
  unfold f_X7_take at h
  refine z_iconst (v := 0) dX7_take_0 (by decide) ?_
  refine z_istore_n (L' := [(3, .int _), (0, .ref _), (1, .long _)]) dX7_take_1 (by decide) rfl ?_
  refine z_iconst (v := 0) dX7_take_2 (by decide) ?_
  refine z_istore (L' := [(4, .int _), (3, .int _), (0, .ref _), (1, .long _)]) dX7_take_3 (by decide) rfl ?_
  exact o_Z.sub [2, 3, 1, 0] rfl (s_X7_take_L5 _ _ _ _ _ h)
theorem e_X7_take {G : o_G} {N : Nat} {r : Int32} {σ' : o_S} {p1 : Int64} {s : o_S} (h : f_X7_take N p1 s = some (r, σ')) : o_Ev (o_up G) yX7_take cX7_take 5 (Option.some Jvm.ClassFile.FieldType.int) 1 [.ref (g_ad G 6), .long p1] s (some (.int r)) σ' := o_Ev.mk rfl (Nat.le_of_ble_eq_true rfl) (s_X7_take h)
-- X7_feed
set_option maxRecDepth 10000 in
theorem s_X7_feed_L89 {G : o_G} {N : Nat} {r : Int32} {σ' : o_S} : ∀ (n : Nat) (l3 : Int32) (l4 : Int32) (s : o_S), f_X7_feed_L89 N n l3 l4 s = some (r, σ') → o_Z (o_up G) RX7 cX7_feed (Option.some Jvm.ClassFile.FieldType.int) 5 2 (o_E (o_up G) (some (.int r)) σ') (o_k σ') s 89 [(0, .ref (g_ad G 6)), (3, .int l3), (4, .int l4)] [] := by
  intro n
  induction n with
  | zero => intro l3 l4 s h; cases h
  | succ n ih =>
    intro l3 l4 s h
    rw [f_X7_feed_L89] at h
    refine z_iload dX7_feed_89 2 rfl ?_
    refine z_iload_n dX7_feed_91 1 rfl ?_
    refine z_icmp_ge (tgt := 127) dX7_feed_92 (by decide) (fun hc7 => ?_) (fun hc7 => ?_)
    · replace h := o_ip hc7 h
      refine z_aload_n dX7_feed_127 0 rfl ?_
      refine zg_X7_size fl_X7_89 dX7_feed_128 ?_
      cases h
      exact z_iret rfl rfl rfl dX7_feed_131
    · replace h := o_in hc7 h
      refine z_aload_n dX7_feed_95 0 rfl ?_
      refine zg_X7_text fl_X7_9 dX7_feed_96 ?_
      refine z_aload_n dX7_feed_99 0 rfl ?_
      refine zg_X7_size fl_X7_89 dX7_feed_100 ?_
      refine z_aload_n dX7_feed_103 0 rfl ?_
      refine zg_X7_fed fl_X7_53 dX7_feed_104 ?_
      refine z_iload dX7_feed_107 2 rfl ?_
      obtain ⟨g8, h⟩ := o_gd h
      replace h := o_dd h
      refine za_fed g8 dX7_feed_109 ?_
      obtain ⟨g10, h⟩ := o_gd h
      replace h := o_dd h
      refine zs_text g10 dX7_feed_110 ?_
      refine z_aload_n dX7_feed_111 0 rfl ?_
      refine z_dup dX7_feed_112 rfl ?_
      refine zg_X7_size fl_X7_89 dX7_feed_113 ?_
      refine z_iconst (v := 1) dX7_feed_116 (by decide) ?_
      refine z_iadd dX7_feed_117 ?_
      replace h := o_dd h
      refine zp_X7_size fl_X7_89 dX7_feed_118 ?_
      refine z_iinc (v := _ + 1) (L' := [(4, .int _), (0, .ref _), (3, .int _)]) dX7_feed_121 2 rfl rfl (by decide) rfl ?_
      refine z_goto (tgt := 89) dX7_feed_124 (by decide) ?_
      exact o_Z.sub [1, 2, 0] rfl (ih _ _ _ h)
set_option maxRecDepth 10000 in
theorem s_X7_feed_L14 {G : o_G} {N : Nat} {r : Int32} {σ' : o_S} : ∀ (n : Nat) (l3 : Int32) (l4 : Int32) (s : o_S), f_X7_feed_L14 N n l3 l4 s = some (r, σ') → o_Z (o_up G) RX7 cX7_feed (Option.some Jvm.ClassFile.FieldType.int) 5 2 (o_E (o_up G) (some (.int r)) σ') (o_k σ') s 14 [(0, .ref (g_ad G 6)), (3, .int l3), (4, .int l4)] [] := by
  intro n
  induction n with
  | zero => intro l3 l4 s h; cases h
  | succ n ih =>
    intro l3 l4 s h
    rw [f_X7_feed_L14] at h
    refine z_iload dX7_feed_14 2 rfl ?_
    refine z_iload_n dX7_feed_16 1 rfl ?_
    refine z_icmp_ge (tgt := 68) dX7_feed_17 (by decide) (fun hc5 => ?_) (fun hc5 => ?_)
    · replace h := o_ip hc5 h
      refine z_aload_n dX7_feed_68 0 rfl ?_
      refine zg_X7_size fl_X7_89 dX7_feed_69 ?_
      refine z_iload_n dX7_feed_72 1 rfl ?_
      refine z_iadd dX7_feed_73 ?_
      refine z_sipush (v := 600) dX7_feed_74 (by decide) ?_
      refine z_icmp_le (tgt := 86) dX7_feed_77 (by decide) (fun hc6 => ?_) (fun hc6 => ?_)
      · replace h := o_ip hc6 h
        refine z_iconst (v := 0) dX7_feed_86 (by decide) ?_
        refine z_istore (L' := [(4, .int _), (0, .ref _), (3, .int _)]) dX7_feed_87 (by decide) rfl ?_
        exact o_Z.sub [1, 2, 0] rfl (s_X7_feed_L89 _ _ _ _ h)
      · replace h := o_in hc6 h
        refine z_aload_n dX7_feed_80 0 rfl ?_
        refine z_iconst (v := 2) dX7_feed_81 (by decide) ?_
        obtain ⟨x15, s13, e14, h⟩ := o_bdi h
        refine z_callVi (As := [.int _]) (e_X7_fail e14) (by decide) mi_X7_fail ml_X7_85 rfl rfl (Nat.le_of_ble_eq_true rfl) rv_6 dX7_feed_82 ?_
        cases h
        exact z_iret rfl rfl rfl dX7_feed_85
    · replace h := o_in hc5 h
      refine z_aload_n dX7_feed_20 0 rfl ?_
      refine zg_X7_fed fl_X7_53 dX7_feed_21 ?_
      refine z_iload dX7_feed_24 2 rfl ?_
      obtain ⟨g16, h⟩ := o_gd h
      replace h := o_dd h
      refine za_fed g16 dX7_feed_26 ?_
      refine z_bipush (v := 10) dX7_feed_27 (by decide) ?_
      refine z_icmp_eq (tgt := 62) dX7_feed_29 (by decide) (fun hc18 => ?_) (fun hc18 => ?_)
      · replace h := o_ip hc18 h
        refine z_iinc (v := _ + 1) (L' := [(4, .int _), (0, .ref _), (3, .int _)]) dX7_feed_62 2 rfl rfl (by decide) rfl ?_
        refine z_goto (tgt := 14) dX7_feed_65 (by decide) ?_
        exact o_Z.sub [1, 2, 0] rfl (ih _ _ _ h)
      · replace h := o_in hc18 h
        refine z_aload_n dX7_feed_32 0 rfl ?_
        refine zg_X7_fed fl_X7_53 dX7_feed_33 ?_
        refine z_iload dX7_feed_36 2 rfl ?_
        obtain ⟨g19, h⟩ := o_gd h
        replace h := o_dd h
        refine za_fed g19 dX7_feed_38 ?_
        refine z_bipush (v := 32) dX7_feed_39 (by decide) ?_
        refine z_icmp_lt (tgt := 56) dX7_feed_41 (by decide) (fun hc21 => ?_) (fun hc21 => ?_)
        · replace h := o_ip hc21 h
          refine z_aload_n dX7_feed_56 0 rfl ?_
          refine z_iconst (v := 1) dX7_feed_57 (by decide) ?_
          obtain ⟨x24, s22, e23, h⟩ := o_bdi h
          refine z_callVi (As := [.int _]) (e_X7_fail e23) (by decide) mi_X7_fail ml_X7_85 rfl rfl (Nat.le_of_ble_eq_true rfl) rv_6 dX7_feed_58 ?_
          cases h
          exact z_iret rfl rfl rfl dX7_feed_61
        · replace h := o_in hc21 h
          refine z_aload_n dX7_feed_44 0 rfl ?_
          refine zg_X7_fed fl_X7_53 dX7_feed_45 ?_
          refine z_iload dX7_feed_48 2 rfl ?_
          obtain ⟨g25, h⟩ := o_gd h
          replace h := o_dd h
          refine za_fed g25 dX7_feed_50 ?_
          refine z_bipush (v := 126) dX7_feed_51 (by decide) ?_
          refine z_icmp_le (tgt := 62) dX7_feed_53 (by decide) (fun hc27 => ?_) (fun hc27 => ?_)
          · replace h := o_ip hc27 h
            refine z_iinc (v := _ + 1) (L' := [(4, .int _), (0, .ref _), (3, .int _)]) dX7_feed_62 2 rfl rfl (by decide) rfl ?_
            refine z_goto (tgt := 14) dX7_feed_65 (by decide) ?_
            exact o_Z.sub [1, 2, 0] rfl (ih _ _ _ h)
          · replace h := o_in hc27 h
            refine z_aload_n dX7_feed_56 0 rfl ?_
            refine z_iconst (v := 1) dX7_feed_57 (by decide) ?_
            obtain ⟨x30, s28, e29, h⟩ := o_bdi h
            refine z_callVi (As := [.int _]) (e_X7_fail e29) (by decide) mi_X7_fail ml_X7_85 rfl rfl (Nat.le_of_ble_eq_true rfl) rv_6 dX7_feed_58 ?_
            cases h
            exact z_iret rfl rfl rfl dX7_feed_61
set_option maxRecDepth 10000 in
theorem s_X7_feed {G : o_G} {N : Nat} {r : Int32} {σ' : o_S} {p1 : Int64} {s : o_S} (h : f_X7_feed N p1 s = some (r, σ')) : o_Z (o_up G) RX7 cX7_feed (Option.some Jvm.ClassFile.FieldType.int) 5 2 (o_E (o_up G) (some (.int r)) σ') (o_k σ') s 0 [(0, .ref (g_ad G 6)), (1, .long p1)] [] := by
  unfold f_X7_feed at h
  refine z_aload_n dX7_feed_0 0 rfl ?_
  refine z_iconst (v := 0) dX7_feed_1 (by decide) ?_
  replace h := o_dd h
  refine zp_X7_thrown fl_X7_71 dX7_feed_2 ?_
  refine z_aload_n dX7_feed_5 0 rfl ?_
  refine z_lload_n dX7_feed_6 1 rfl ?_
  obtain ⟨x4, s2, e3, h⟩ := o_bdi h
  refine z_callVi (As := [.long _]) (e_X7_take e3) (by decide) mi_X7_take ml_X7_81 rfl rfl (Nat.le_of_ble_eq_true rfl) rv_6 dX7_feed_7 ?_
  refine z_istore_n (L' := [(3, .int _), (0, .ref _), (1, .long _)]) dX7_feed_10 (by decide) rfl ?_
  refine z_iconst (v := 0) dX7_feed_11 (by decide) ?_
  refine z_istore (L' := [(4, .int _), (3, .int _), (0, .ref _), (1, .long _)]) dX7_feed_12 (by decide) rfl ?_
  exact o_Z.sub [2, 1, 0] rfl (s_X7_feed_L14 _ _ _ _ h)
theorem e_X7_feed {G : o_G} {N : Nat} {r : Int32} {σ' : o_S} {p1 : Int64} {s : o_S} (h : f_X7_feed N p1 s = some (r, σ')) : o_Ev (o_up G) yX7_feed cX7_feed 5 (Option.some Jvm.ClassFile.FieldType.int) 2 [.ref (g_ad G 6), .long p1] s (some (.int r)) σ' := o_Ev.mk rfl (Nat.le_of_ble_eq_true rfl) (s_X7_feed h)
-- X7_trim
set_option maxRecDepth 10000 in
theorem s_X7_trim {G : o_G} {N : Nat} {r : Int32} {σ' : o_S} {p1 : Int32} {s : o_S} (h : f_X7_trim N p1 s = some (r, σ')) : o_Z (o_up G) RX7 cX7_trim (Option.some Jvm.ClassFile.FieldType.int) 3 1 (o_E (o_up G) (some (.int r)) σ') (o_k σ') s 0 [(0, .ref (g_ad G 6)), (1, .int p1)] [] := by
  unfold f_X7_trim at h
  refine z_aload_n dX7_trim_0 0 rfl ?_
  refine z_iconst (v := 0) dX7_trim_1 (by decide) ?_
  replace h := o_dd h
  refine zp_X7_thrown fl_X7_71 dX7_trim_2 ?_
  refine z_iload_n dX7_trim_5 1 rfl ?_
  refine z_if_lt (tgt := 17) dX7_trim_6 (by decide) (fun hc2 => ?_) (fun hc2 => ?_)
  · replace h := o_ip hc2 h
    refine z_aload_n dX7_trim_17 0 rfl ?_
    refine z_iconst (v := 1) dX7_trim_18 (by decide) ?_
    obtain ⟨x5, s3, e4, h⟩ := o_bdi h
    refine z_callVi (As := [.int _]) (e_X7_fail e4) (by decide) mi_X7_fail ml_X7_85 rfl rfl (Nat.le_of_ble_eq_true rfl) rv_6 dX7_trim_19 ?_
    cases h
    exact z_iret rfl rfl rfl dX7_trim_22
  · replace h := o_in hc2 h
    refine z_iload_n dX7_trim_9 1 rfl ?_
    refine z_aload_n dX7_trim_10 0 rfl ?_
    refine zg_X7_size fl_X7_89 dX7_trim_11 ?_
    refine z_icmp_le (tgt := 23) dX7_trim_14 (by decide) (fun hc6 => ?_) (fun hc6 => ?_)
    · replace h := o_ip hc6 h
      refine z_aload_n dX7_trim_23 0 rfl ?_
      refine zg_X7_size fl_X7_89 dX7_trim_24 ?_
      refine z_istore_n (L' := [(2, .int _), (0, .ref _), (1, .int _)]) dX7_trim_27 (by decide) rfl ?_
      refine z_aload_n dX7_trim_28 1 rfl ?_
      refine z_iload_n dX7_trim_29 2 rfl ?_
      replace h := o_dd h
      refine zp_X7_size fl_X7_89 dX7_trim_30 ?_
      refine z_iload_n dX7_trim_33 0 rfl ?_
      cases h
      exact z_iret rfl rfl rfl dX7_trim_34
    · replace h := o_in hc6 h
      refine z_aload_n dX7_trim_17 0 rfl ?_
      refine z_iconst (v := 1) dX7_trim_18 (by decide) ?_
      obtain ⟨x10, s8, e9, h⟩ := o_bdi h
      refine z_callVi (As := [.int _]) (e_X7_fail e9) (by decide) mi_X7_fail ml_X7_85 rfl rfl (Nat.le_of_ble_eq_true rfl) rv_6 dX7_trim_19 ?_
      cases h
      exact z_iret rfl rfl rfl dX7_trim_22
theorem e_X7_trim {G : o_G} {N : Nat} {r : Int32} {σ' : o_S} {p1 : Int32} {s : o_S} (h : f_X7_trim N p1 s = some (r, σ')) : o_Ev (o_up G) yX7_trim cX7_trim 3 (Option.some Jvm.ClassFile.FieldType.int) 1 [.ref (g_ad G 6), .int p1] s (some (.int r)) σ' := o_Ev.mk rfl (Nat.le_of_ble_eq_true rfl) (s_X7_trim h)
-- X7_length
set_option maxRecDepth 10000 in
theorem s_X7_length {G : o_G} {N : Nat} {r : Int32} {σ' : o_S} {s : o_S} (h : f_X7_length N  s = some (r, σ')) : o_Z (o_up G) RX7 cX7_length (Option.some Jvm.ClassFile.FieldType.int) 1 0 (o_E (o_up G) (some (.int r)) σ') (o_k σ') s 0 [(0, .ref (g_ad G 6))] [] := by
  unfold f_X7_length at h
  refine z_aload_n dX7_length_0 0 rfl ?_
  refine z_iconst (v := 0) dX7_length_1 (by decide) ?_
  replace h := o_dd h
  refine zp_X7_thrown fl_X7_71 dX7_length_2 ?_
  refine z_aload_n dX7_length_5 0 rfl ?_
  refine zg_X7_size fl_X7_89 dX7_length_6 ?_
  cases h
  exact z_iret rfl rfl rfl dX7_length_9
theorem e_X7_length {G : o_G} {N : Nat} {r : Int32} {σ' : o_S} {s : o_S} (h : f_X7_length N  s = some (r, σ')) : o_Ev (o_up G) yX7_length cX7_length 1 (Option.some Jvm.ClassFile.FieldType.int) 0 [.ref (g_ad G 6)] s (some (.int r)) σ' := o_Ev.mk rfl (Nat.le_of_ble_eq_true rfl) (s_X7_length h)
-- X7_countOf
set_option maxRecDepth 10000 in
theorem s_X7_countOf_L9 {G : o_G} {N : Nat} {r : Int32} {σ' : o_S} : ∀ (n : Nat) (l2 : Int32) (l3 : Int32) (s : o_S), f_X7_countOf_L9 N n l2 l3 s = some (r, σ') → o_Z (o_up G) RX7 cX7_countOf (Option.some Jvm.ClassFile.FieldType.int) 4 0 (o_E (o_up G) (some (.int r)) σ') (o_k σ') s 9 [(0, .ref (g_ad G 6)), (2, .int l2), (3, .int l3)] [] := by
  intro n
  induction n with
  | zero => intro l2 l3 s h; cases h
  | succ n ih =>
    intro l2 l3 s h
    rw [f_X7_countOf_L9] at h
    refine z_iload_n dX7_countOf_9 2 rfl ?_
    refine z_iconst (v := (-1)) dX7_countOf_10 (by decide) ?_
    refine z_icmp_eq (tgt := 27) dX7_countOf_11 (by decide) (fun hc3 => ?_) (fun hc3 => ?_)
    · replace h := o_ip hc3 h
      refine z_iload_n dX7_countOf_27 1 rfl ?_
      cases h
      exact z_iret rfl rfl rfl dX7_countOf_28
    · replace h := o_in hc3 h
      refine z_iinc (v := _ + 1) (L' := [(2, .int _), (0, .ref _), (3, .int _)]) dX7_countOf_14 1 rfl rfl (by decide) rfl ?_
      refine z_aload_n dX7_countOf_17 1 rfl ?_
      refine zg_X7_nexts fl_X7_22 dX7_countOf_18 ?_
      refine z_iload_n dX7_countOf_21 2 rfl ?_
      obtain ⟨g4, h⟩ := o_gd h
      replace h := o_dd h
      refine za_nexts g4 dX7_countOf_22 ?_
      refine z_istore_n (L' := [(3, .int _), (2, .int _), (0, .ref _)]) dX7_countOf_23 (by decide) rfl ?_
      refine z_goto (tgt := 9) dX7_countOf_24 (by decide) ?_
      exact o_Z.sub [2, 1, 0] rfl (ih _ _ _ h)
set_option maxRecDepth 10000 in
theorem s_X7_countOf {G : o_G} {N : Nat} {r : Int32} {σ' : o_S} {p1 : Int32} {s : o_S} (h : f_X7_countOf N p1 s = some (r, σ')) : o_Z (o_up G) RX7 cX7_countOf (Option.some Jvm.ClassFile.FieldType.int) 4 0 (o_E (o_up G) (some (.int r)) σ') (o_k σ') s 0 [(0, .ref (g_ad G 6)), (1, .int p1)] [] := by
  unfold f_X7_countOf at h
  refine z_iconst (v := 0) dX7_countOf_0 (by decide) ?_
  refine z_istore_n (L' := [(2, .int _), (0, .ref _), (1, .int _)]) dX7_countOf_1 (by decide) rfl ?_
  refine z_aload_n dX7_countOf_2 1 rfl ?_
  refine zg_X7_firsts fl_X7_19 dX7_countOf_3 ?_
  refine z_iload_n dX7_countOf_6 2 rfl ?_
  obtain ⟨g1, h⟩ := o_gd h
  replace h := o_dd h
  refine za_firsts g1 dX7_countOf_7 ?_
  refine z_istore_n (L' := [(3, .int _), (2, .int _), (0, .ref _), (1, .int _)]) dX7_countOf_8 (by decide) rfl ?_
  exact o_Z.sub [2, 1, 0] rfl (s_X7_countOf_L9 _ _ _ _ h)
theorem e_X7_countOf {G : o_G} {N : Nat} {r : Int32} {σ' : o_S} {p1 : Int32} {s : o_S} (h : f_X7_countOf N p1 s = some (r, σ')) : o_Ev (o_up G) yX7_countOf cX7_countOf 4 (Option.some Jvm.ClassFile.FieldType.int) 0 [.ref (g_ad G 6), .int p1] s (some (.int r)) σ' := o_Ev.mk rfl (Nat.le_of_ble_eq_true rfl) (s_X7_countOf h)
-- X7_childOf
set_option maxRecDepth 10000 in
theorem s_X7_childOf_L10 {G : o_G} {N : Nat} {r : Int32} {σ' : o_S} : ∀ (n : Nat) (l2 : Int32) (l3 : Int32) (l4 : Int32) (s : o_S), f_X7_childOf_L10 N n l2 l3 l4 s = some (r, σ') → o_Z (o_up G) RX7 cX7_childOf (Option.some Jvm.ClassFile.FieldType.int) 5 0 (o_E (o_up G) (some (.int r)) σ') (o_k σ') s 10 [(0, .ref (g_ad G 6)), (2, .int l2), (3, .int l3), (4, .int l4)] [] := by
  intro n
  induction n with
  | zero => intro l2 l3 l4 s h; cases h
  | succ n ih =>
    intro l2 l3 l4 s h
    rw [f_X7_childOf_L10] at h
    refine z_iload dX7_childOf_10 3 rfl ?_
    refine z_iload_n dX7_childOf_12 1 rfl ?_
    refine z_icmp_ge (tgt := 34) dX7_childOf_13 (by decide) (fun hc3 => ?_) (fun hc3 => ?_)
    · replace h := o_ip hc3 h
      refine z_iload_n dX7_childOf_34 2 rfl ?_
      cases h
      exact z_iret rfl rfl rfl dX7_childOf_35
    · replace h := o_in hc3 h
      refine z_iload_n dX7_childOf_16 2 rfl ?_
      refine z_iconst (v := (-1)) dX7_childOf_17 (by decide) ?_
      refine z_icmp_eq (tgt := 34) dX7_childOf_18 (by decide) (fun hc4 => ?_) (fun hc4 => ?_)
      · replace h := o_ip hc4 h
        refine z_iload_n dX7_childOf_34 2 rfl ?_
        cases h
        exact z_iret rfl rfl rfl dX7_childOf_35
      · replace h := o_in hc4 h
        refine z_aload_n dX7_childOf_21 0 rfl ?_
        refine zg_X7_nexts fl_X7_22 dX7_childOf_22 ?_
        refine z_iload_n dX7_childOf_25 2 rfl ?_
        obtain ⟨g5, h⟩ := o_gd h
        replace h := o_dd h
        refine za_nexts g5 dX7_childOf_26 ?_
        refine z_istore_n (L' := [(3, .int _), (0, .ref _), (2, .int _), (4, .int _)]) dX7_childOf_27 (by decide) rfl ?_
        refine z_iinc (v := _ + 1) (L' := [(4, .int _), (3, .int _), (0, .ref _), (2, .int _)]) dX7_childOf_28 3 rfl rfl (by decide) rfl ?_
        refine z_goto (tgt := 10) dX7_childOf_31 (by decide) ?_
        exact o_Z.sub [2, 3, 1, 0] rfl (ih _ _ _ _ h)
set_option maxRecDepth 10000 in
theorem s_X7_childOf {G : o_G} {N : Nat} {r : Int32} {σ' : o_S} {p1 : Int32} {p2 : Int32} {s : o_S} (h : f_X7_childOf N p1 p2 s = some (r, σ')) : o_Z (o_up G) RX7 cX7_childOf (Option.some Jvm.ClassFile.FieldType.int) 5 0 (o_E (o_up G) (some (.int r)) σ') (o_k σ') s 0 [(0, .ref (g_ad G 6)), (1, .int p1), (2, .int p2)] [] := by
  unfold f_X7_childOf at h
  refine z_aload_n dX7_childOf_0 0 rfl ?_
  refine zg_X7_firsts fl_X7_19 dX7_childOf_1 ?_
  refine z_iload_n dX7_childOf_4 1 rfl ?_
  obtain ⟨g1, h⟩ := o_gd h
  replace h := o_dd h
  refine za_firsts g1 dX7_childOf_5 ?_
  refine z_istore_n (L' := [(3, .int _), (0, .ref _), (1, .int _), (2, .int _)]) dX7_childOf_6 (by decide) rfl ?_
  refine z_iconst (v := 0) dX7_childOf_7 (by decide) ?_
  refine z_istore (L' := [(4, .int _), (3, .int _), (0, .ref _), (1, .int _), (2, .int _)]) dX7_childOf_8 (by decide) rfl ?_
  exact o_Z.sub [2, 4, 1, 0] rfl (s_X7_childOf_L10 _ _ _ _ _ h)
theorem e_X7_childOf {G : o_G} {N : Nat} {r : Int32} {σ' : o_S} {p1 : Int32} {p2 : Int32} {s : o_S} (h : f_X7_childOf N p1 p2 s = some (r, σ')) : o_Ev (o_up G) yX7_childOf cX7_childOf 5 (Option.some Jvm.ClassFile.FieldType.int) 0 [.ref (g_ad G 6), .int p1, .int p2] s (some (.int r)) σ' := o_Ev.mk rfl (Nat.le_of_ble_eq_true rfl) (s_X7_childOf h)
-- X7_insert
set_option maxRecDepth 10000 in
theorem s_X7_insert {G : o_G} {N : Nat} {σ' : o_S} {p1 : Int32} {p2 : Int32} {p3 : Int32} {s : o_S} (h : f_X7_insert N p1 p2 p3 s = some σ') : o_Z (o_up G) RX7 cX7_insert (Option.none : Option Jvm.ClassFile.FieldType) 5 1 (o_E (o_up G) (none) σ') (o_k σ') s 0 [(0, .ref (g_ad G 6)), (1, .int p1), (2, .int p2), (3, .int p3)] [] := by
  unfold f_X7_insert at h
  refine z_aload_n dX7_insert_0 0 rfl ?_
  refine zg_X7_parents fl_X7_16 dX7_insert_1 ?_
  refine z_iload_n dX7_insert_4 1 rfl ?_
  refine z_iload_n dX7_insert_5 2 rfl ?_
  obtain ⟨g1, h⟩ := o_gd h
  replace h := o_dd h
  refine zs_parents g1 dX7_insert_6 ?_
  refine z_iload_n dX7_insert_7 3 rfl ?_
  refine z_if_ne (tgt := 31) dX7_insert_8 (by decide) (fun hc3 => ?_) (fun hc3 => ?_)
  · replace h := o_in hc3 h
    refine z_aload_n dX7_insert_31 0 rfl ?_
    refine z_iload_n dX7_insert_32 2 rfl ?_
    refine z_iload_n dX7_insert_33 3 rfl ?_
    refine z_iconst (v := 1) dX7_insert_34 (by decide) ?_
    refine z_isub dX7_insert_35 ?_
    obtain ⟨x6, s4, e5, h⟩ := o_bdi h
    refine z_callVi (As := [.int _, .int _]) (e_X7_childOf e5) (by decide) mi_X7_childOf ml_X7_109 rfl rfl (Nat.le_of_ble_eq_true rfl) rv_6 dX7_insert_36 ?_
    refine z_istore (L' := [(4, .int _), (0, .ref _), (1, .int _), (2, .int _), (3, .int _)]) dX7_insert_39 (by decide) rfl ?_
    refine z_aload_n dX7_insert_41 1 rfl ?_
    refine zg_X7_nexts fl_X7_22 dX7_insert_42 ?_
    refine z_iload_n dX7_insert_45 2 rfl ?_
    refine z_aload_n dX7_insert_46 1 rfl ?_
    refine zg_X7_nexts fl_X7_22 dX7_insert_47 ?_
    refine z_iload dX7_insert_50 0 rfl ?_
    obtain ⟨g7, h⟩ := o_gd h
    replace h := o_dd h
    refine za_nexts g7 dX7_insert_52 ?_
    obtain ⟨g9, h⟩ := o_gd h
    replace h := o_dd h
    refine zs_nexts g9 dX7_insert_53 ?_
    refine z_aload_n dX7_insert_54 1 rfl ?_
    refine zg_X7_nexts fl_X7_22 dX7_insert_55 ?_
    refine z_iload dX7_insert_58 0 rfl ?_
    refine z_iload_n dX7_insert_60 2 rfl ?_
    obtain ⟨g11, h⟩ := o_gd h
    replace h := o_dd h
    refine zs_nexts g11 dX7_insert_61 ?_
    cases h
    exact z_vret rfl rfl rfl dX7_insert_62
  · replace h := o_ip hc3 h
    refine z_aload_n dX7_insert_11 0 rfl ?_
    refine zg_X7_nexts fl_X7_22 dX7_insert_12 ?_
    refine z_iload_n dX7_insert_15 1 rfl ?_
    refine z_aload_n dX7_insert_16 0 rfl ?_
    refine zg_X7_firsts fl_X7_19 dX7_insert_17 ?_
    refine z_iload_n dX7_insert_20 2 rfl ?_
    obtain ⟨g13, h⟩ := o_gd h
    replace h := o_dd h
    refine za_firsts g13 dX7_insert_21 ?_
    obtain ⟨g15, h⟩ := o_gd h
    replace h := o_dd h
    refine zs_nexts g15 dX7_insert_22 ?_
    refine z_aload_n dX7_insert_23 0 rfl ?_
    refine zg_X7_firsts fl_X7_19 dX7_insert_24 ?_
    refine z_iload_n dX7_insert_27 2 rfl ?_
    refine z_iload_n dX7_insert_28 1 rfl ?_
    obtain ⟨g17, h⟩ := o_gd h
    replace h := o_dd h
    refine zs_firsts g17 dX7_insert_29 ?_
    cases h
    exact z_vret rfl rfl rfl dX7_insert_30
theorem e_X7_insert {G : o_G} {N : Nat} {σ' : o_S} {p1 : Int32} {p2 : Int32} {p3 : Int32} {s : o_S} (h : f_X7_insert N p1 p2 p3 s = some σ') : o_Ev (o_up G) yX7_insert cX7_insert 5 (Option.none : Option Jvm.ClassFile.FieldType) 1 [.ref (g_ad G 6), .int p1, .int p2, .int p3] s (none) σ' := o_Ev.mk rfl (Nat.le_of_ble_eq_true rfl) (s_X7_insert h)
-- X7_add
set_option maxRecDepth 10000 in
theorem s_X7_add {G : o_G} {N : Nat} {r : Int32} {σ' : o_S} {p1 : Int32} {p2 : Int32} {p3 : Int32} {p4 : Int32} {p5 : Int32} {s : o_S} (h : f_X7_add N p1 p2 p3 p4 p5 s = some (r, σ')) : o_Z (o_up G) RX7 cX7_add (Option.some Jvm.ClassFile.FieldType.int) 7 2 (o_E (o_up G) (some (.int r)) σ') (o_k σ') s 0 [(0, .ref (g_ad G 6)), (1, .int p1), (2, .int p2), (3, .int p3), (4, .int p4), (5, .int p5)] [] := by
  unfold f_X7_add at h
  refine z_aload_n dX7_add_0 0 rfl ?_
  refine zg_X7_made fl_X7_92 dX7_add_1 ?_
  refine z_istore (L' := [(6, .int _), (0, .ref _), (1, .int _), (2, .int _), (3, .int _), (4, .int _), (5, .int _)]) dX7_add_4 (by decide) rfl ?_
  refine z_aload_n dX7_add_6 1 rfl ?_
  refine z_dup dX7_add_7 rfl ?_
  refine zg_X7_made fl_X7_92 dX7_add_8 ?_
  refine z_iconst (v := 1) dX7_add_11 (by decide) ?_
  refine z_iadd dX7_add_12 ?_
  replace h := o_dd h
  refine zp_X7_made fl_X7_92 dX7_add_13 ?_
  refine z_aload_n dX7_add_16 1 rfl ?_
  refine zg_X7_kinds fl_X7_13 dX7_add_17 ?_
  refine z_iload dX7_add_20 0 rfl ?_
  refine z_iload_n dX7_add_22 2 rfl ?_
  obtain ⟨g2, h⟩ := o_gd h
  replace h := o_dd h
  refine zs_kinds g2 dX7_add_23 ?_
  refine z_aload_n dX7_add_24 1 rfl ?_
  refine zg_X7_lines fl_X7_25 dX7_add_25 ?_
  refine z_iload dX7_add_28 0 rfl ?_
  refine z_iload_n dX7_add_30 4 rfl ?_
  obtain ⟨g4, h⟩ := o_gd h
  replace h := o_dd h
  refine zs_lines g4 dX7_add_31 ?_
  refine z_aload_n dX7_add_32 1 rfl ?_
  refine zg_X7_columns fl_X7_28 dX7_add_33 ?_
  refine z_iload dX7_add_36 0 rfl ?_
  refine z_iload dX7_add_38 5 rfl ?_
  obtain ⟨g6, h⟩ := o_gd h
  replace h := o_dd h
  refine zs_columns g6 dX7_add_40 ?_
  refine z_aload_n dX7_add_41 1 rfl ?_
  refine zg_X7_values fl_X7_31 dX7_add_42 ?_
  refine z_iload dX7_add_45 0 rfl ?_
  refine z_iload dX7_add_47 6 rfl ?_
  obtain ⟨g8, h⟩ := o_gd h
  replace h := o_dd h
  refine zs_values g8 dX7_add_49 ?_
  refine z_aload_n dX7_add_50 1 rfl ?_
  refine zg_X7_firsts fl_X7_19 dX7_add_51 ?_
  refine z_iload dX7_add_54 0 rfl ?_
  refine z_iconst (v := (-1)) dX7_add_56 (by decide) ?_
  obtain ⟨g10, h⟩ := o_gd h
  replace h := o_dd h
  refine zs_firsts g10 dX7_add_57 ?_
  refine z_aload_n dX7_add_58 1 rfl ?_
  refine zg_X7_parents fl_X7_16 dX7_add_59 ?_
  refine z_iload dX7_add_62 0 rfl ?_
  refine z_iconst (v := (-1)) dX7_add_64 (by decide) ?_
  obtain ⟨g12, h⟩ := o_gd h
  replace h := o_dd h
  refine zs_parents g12 dX7_add_65 ?_
  refine z_aload_n dX7_add_66 1 rfl ?_
  refine zg_X7_nexts fl_X7_22 dX7_add_67 ?_
  refine z_iload dX7_add_70 0 rfl ?_
  refine z_iconst (v := (-1)) dX7_add_72 (by decide) ?_
  obtain ⟨g14, h⟩ := o_gd h
  replace h := o_dd h
  refine zs_nexts g14 dX7_add_73 ?_
  refine z_iload_n dX7_add_74 3 rfl ?_
  refine z_iconst (v := (-1)) dX7_add_75 (by decide) ?_
  refine z_icmp_eq (tgt := 91) dX7_add_76 (by decide) (fun hc16 => ?_) (fun hc16 => ?_)
  · replace h := o_ip hc16 h
    refine z_iload dX7_add_91 0 rfl ?_
    cases h
    exact z_iret rfl rfl rfl dX7_add_93
  · replace h := o_in hc16 h
    refine z_aload_n dX7_add_79 1 rfl ?_
    refine z_iload dX7_add_80 0 rfl ?_
    refine z_iload_n dX7_add_82 3 rfl ?_
    refine z_aload_n dX7_add_83 1 rfl ?_
    refine z_iload_n dX7_add_84 3 rfl ?_
    obtain ⟨x19, s17, e18, h⟩ := o_bdi h
    refine z_callVi (As := [.int _]) (e_X7_countOf e18) (by decide) mi_X7_countOf ml_X7_102 rfl rfl (Nat.le_of_ble_eq_true rfl) rv_6 dX7_add_85 ?_
    obtain ⟨s20, e21, h⟩ := o_bdv h
    refine z_callVv (As := [.int _, .int _, .int _]) (e_X7_insert e21) (by decide) mi_X7_insert ml_X7_105 rfl rfl (Nat.le_of_ble_eq_true rfl) rv_6 dX7_add_88 ?_
    refine z_iload dX7_add_91 0 rfl ?_
    cases h
    exact z_iret rfl rfl rfl dX7_add_93
theorem e_X7_add {G : o_G} {N : Nat} {r : Int32} {σ' : o_S} {p1 : Int32} {p2 : Int32} {p3 : Int32} {p4 : Int32} {p5 : Int32} {s : o_S} (h : f_X7_add N p1 p2 p3 p4 p5 s = some (r, σ')) : o_Ev (o_up G) yX7_add cX7_add 7 (Option.some Jvm.ClassFile.FieldType.int) 2 [.ref (g_ad G 6), .int p1, .int p2, .int p3, .int p4, .int p5] s (some (.int r)) σ' := o_Ev.mk rfl (Nat.le_of_ble_eq_true rfl) (s_X7_add h)
-- X7_begin
set_option maxRecDepth 10000 in
theorem s_X7_begin {G : o_G} {N : Nat} {σ' : o_S} {s : o_S} (h : f_X7_begin N  s = some σ') : o_Z (o_up G) RX7 cX7_begin (Option.none : Option Jvm.ClassFile.FieldType) 1 3 (o_E (o_up G) (none) σ') (o_k σ') s 0 [(0, .ref (g_ad G 6))] [] := by
  unfold f_X7_begin at h
  refine z_aload_n dX7_begin_0 0 rfl ?_
  refine z_iconst (v := 0) dX7_begin_1 (by decide) ?_
  replace h := o_dd h
  refine zp_X7_made fl_X7_92 dX7_begin_2 ?_
  refine z_aload_n dX7_begin_5 0 rfl ?_
  refine z_iconst (v := 0) dX7_begin_6 (by decide) ?_
  replace h := o_dd h
  refine zp_X7_repairs fl_X7_95 dX7_begin_7 ?_
  refine z_aload_n dX7_begin_10 0 rfl ?_
  refine z_iconst (v := 0) dX7_begin_11 (by decide) ?_
  refine z_iconst (v := (-1)) dX7_begin_12 (by decide) ?_
  refine z_iconst (v := 0) dX7_begin_13 (by decide) ?_
  refine z_iconst (v := 0) dX7_begin_14 (by decide) ?_
  refine z_iconst (v := 0) dX7_begin_15 (by decide) ?_
  obtain ⟨x5, s3, e4, h⟩ := o_bdi h
  refine z_callVi (As := [.int _, .int _, .int _, .int _, .int _]) (e_X7_add e4) (by decide) mi_X7_add ml_X7_98 rfl rfl (Nat.le_of_ble_eq_true rfl) rv_6 dX7_begin_16 ?_
  refine z_pop dX7_begin_19 rfl ?_
  cases h
  exact z_vret rfl rfl rfl dX7_begin_20
theorem e_X7_begin {G : o_G} {N : Nat} {σ' : o_S} {s : o_S} (h : f_X7_begin N  s = some σ') : o_Ev (o_up G) yX7_begin cX7_begin 1 (Option.none : Option Jvm.ClassFile.FieldType) 3 [.ref (g_ad G 6)] s (none) σ' := o_Ev.mk rfl (Nat.le_of_ble_eq_true rfl) (s_X7_begin h)
-- X7_takeOut
set_option maxRecDepth 10000 in
theorem s_X7_takeOut_L39 {G : o_G} {N : Nat} {σ' : o_S} : ∀ (n : Nat) (l1 : Int32) (l3 : Int32) (s : o_S), f_X7_takeOut_L39 N n l1 l3 s = some σ' → o_Z (o_up G) RX7 cX7_takeOut (Option.none : Option Jvm.ClassFile.FieldType) 4 0 (o_E (o_up G) (none) σ') (o_k σ') s 39 [(0, .ref (g_ad G 6)), (1, .int l1), (3, .int l3)] [] := by
  intro n
  induction n with
  | zero => intro l1 l3 s h; cases h
  | succ n ih =>
    intro l1 l3 s h
    rw [f_X7_takeOut_L39] at h
    refine z_aload_n dX7_takeOut_39 0 rfl ?_
    refine zg_X7_nexts fl_X7_22 dX7_takeOut_40 ?_
    refine z_iload_n dX7_takeOut_43 2 rfl ?_
    obtain ⟨g8, h⟩ := o_gd h
    replace h := o_dd h
    refine za_nexts g8 dX7_takeOut_44 ?_
    refine z_iload_n dX7_takeOut_45 1 rfl ?_
    refine z_icmp_eq (tgt := 59) dX7_takeOut_46 (by decide) (fun hc10 => ?_) (fun hc10 => ?_)
    · replace h := o_ip hc10 h
      refine z_aload_n dX7_takeOut_59 0 rfl ?_
      refine zg_X7_nexts fl_X7_22 dX7_takeOut_60 ?_
      refine z_iload_n dX7_takeOut_63 2 rfl ?_
      refine z_aload_n dX7_takeOut_64 0 rfl ?_
      refine zg_X7_nexts fl_X7_22 dX7_takeOut_65 ?_
      refine z_iload_n dX7_takeOut_68 1 rfl ?_
      obtain ⟨g11, h⟩ := o_gd h
      replace h := o_dd h
      refine za_nexts g11 dX7_takeOut_69 ?_
      obtain ⟨g13, h⟩ := o_gd h
      replace h := o_dd h
      refine zs_nexts g13 dX7_takeOut_70 ?_
      cases h
      exact z_vret rfl rfl rfl dX7_takeOut_71
    · replace h := o_in hc10 h
      refine z_aload_n dX7_takeOut_49 0 rfl ?_
      refine zg_X7_nexts fl_X7_22 dX7_takeOut_50 ?_
      refine z_iload_n dX7_takeOut_53 2 rfl ?_
      obtain ⟨g15, h⟩ := o_gd h
      replace h := o_dd h
      refine za_nexts g15 dX7_takeOut_54 ?_
      refine z_istore_n (L' := [(3, .int _), (0, .ref _), (1, .int _)]) dX7_takeOut_55 (by decide) rfl ?_
      refine z_goto (tgt := 39) dX7_takeOut_56 (by decide) ?_
      exact o_Z.sub [1, 2, 0] rfl (ih _ _ _ h)
set_option maxRecDepth 10000 in
theorem s_X7_takeOut {G : o_G} {N : Nat} {σ' : o_S} {p1 : Int32} {s : o_S} (h : f_X7_takeOut N p1 s = some σ') : o_Z (o_up G) RX7 cX7_takeOut (Option.none : Option Jvm.ClassFile.FieldType) 4 0 (o_E (o_up G) (none) σ') (o_k σ') s 0 [(0, .ref (g_ad G 6)), (1, .int p1)] [] := by
  unfold f_X7_takeOut at h
  refine z_aload_n dX7_takeOut_0 0 rfl ?_
  refine zg_X7_parents fl_X7_16 dX7_takeOut_1 ?_
  refine z_iload_n dX7_takeOut_4 1 rfl ?_
  obtain ⟨g1, h⟩ := o_gd h
  replace h := o_dd h
  refine za_parents g1 dX7_takeOut_5 ?_
  refine z_istore_n (L' := [(2, .int _), (0, .ref _), (1, .int _)]) dX7_takeOut_6 (by decide) rfl ?_
  refine z_aload_n dX7_takeOut_7 1 rfl ?_
  refine zg_X7_firsts fl_X7_19 dX7_takeOut_8 ?_
  refine z_iload_n dX7_takeOut_11 0 rfl ?_
  obtain ⟨g3, h⟩ := o_gd h
  replace h := o_dd h
  refine za_firsts g3 dX7_takeOut_12 ?_
  refine z_iload_n dX7_takeOut_13 2 rfl ?_
  refine z_icmp_ne (tgt := 32) dX7_takeOut_14 (by decide) (fun hc5 => ?_) (fun hc5 => ?_)
  · replace h := o_in hc5 h
    refine z_aload_n dX7_takeOut_32 1 rfl ?_
    refine zg_X7_firsts fl_X7_19 dX7_takeOut_33 ?_
    refine z_iload_n dX7_takeOut_36 0 rfl ?_
    obtain ⟨g6, h⟩ := o_gd h
    replace h := o_dd h
    refine za_firsts g6 dX7_takeOut_37 ?_
    refine z_istore_n (L' := [(3, .int _), (2, .int _), (0, .ref _), (1, .int _)]) dX7_takeOut_38 (by decide) rfl ?_
    exact o_Z.sub [2, 3, 0] rfl (s_X7_takeOut_L39 _ _ _ _ h)
  · replace h := o_ip hc5 h
    refine z_aload_n dX7_takeOut_17 1 rfl ?_
    refine zg_X7_firsts fl_X7_19 dX7_takeOut_18 ?_
    refine z_iload_n dX7_takeOut_21 0 rfl ?_
    refine z_aload_n dX7_takeOut_22 1 rfl ?_
    refine zg_X7_nexts fl_X7_22 dX7_takeOut_23 ?_
    refine z_iload_n dX7_takeOut_26 2 rfl ?_
    obtain ⟨g17, h⟩ := o_gd h
    replace h := o_dd h
    refine za_nexts g17 dX7_takeOut_27 ?_
    obtain ⟨g19, h⟩ := o_gd h
    replace h := o_dd h
    refine zs_firsts g19 dX7_takeOut_28 ?_
    refine z_goto (tgt := 71) dX7_takeOut_29 (by decide) ?_
    cases h
    exact z_vret rfl rfl rfl dX7_takeOut_71
theorem e_X7_takeOut {G : o_G} {N : Nat} {σ' : o_S} {p1 : Int32} {s : o_S} (h : f_X7_takeOut N p1 s = some σ') : o_Ev (o_up G) yX7_takeOut cX7_takeOut 4 (Option.none : Option Jvm.ClassFile.FieldType) 0 [.ref (g_ad G 6), .int p1] s (none) σ' := o_Ev.mk rfl (Nat.le_of_ble_eq_true rfl) (s_X7_takeOut h)
-- X7_following
set_option maxRecDepth 10000 in
theorem s_X7_following_b44 {G : o_G} {N : Nat} {r : Int32} {σ' : o_S} {l2 : Int32} {l3 : Int32} {s : o_S} (h : f_X7_following_b44 N l2 l3 s = some (r, σ')) : o_Z (o_up G) RX7 cX7_following (Option.some Jvm.ClassFile.FieldType.int) 4 0 (o_E (o_up G) (some (.int r)) σ') (o_k σ') s 44 [(0, .ref (g_ad G 6)), (2, .int l2), (3, .int l3)] [] := by
  unfold f_X7_following_b44 at h
  refine z_iload_n dX7_following_44 2 rfl ?_
  refine z_iload_n dX7_following_45 1 rfl ?_
  refine z_icmp_ne (tgt := 53) dX7_following_46 (by decide) (fun hc5 => ?_) (fun hc5 => ?_)
  · replace h := o_in hc5 h
    refine z_aload_n dX7_following_53 0 rfl ?_
    refine zg_X7_nexts fl_X7_22 dX7_following_54 ?_
    refine z_iload_n dX7_following_57 2 rfl ?_
    obtain ⟨g6, h⟩ := o_gd h
    replace h := o_dd h
    refine za_nexts g6 dX7_following_58 ?_
    cases h
    exact z_iret rfl rfl rfl dX7_following_59
  · replace h := o_ip hc5 h
    refine z_iconst (v := (-1)) dX7_following_49 (by decide) ?_
    refine z_goto (tgt := 59) dX7_following_50 (by decide) ?_
    cases h
    exact z_iret rfl rfl rfl dX7_following_59
set_option maxRecDepth 10000 in
theorem s_X7_following_L19 {G : o_G} {N : Nat} {r : Int32} {σ' : o_S} : ∀ (n : Nat) (l2 : Int32) (l3 : Int32) (s : o_S), f_X7_following_L19 N n l2 l3 s = some (r, σ') → o_Z (o_up G) RX7 cX7_following (Option.some Jvm.ClassFile.FieldType.int) 4 0 (o_E (o_up G) (some (.int r)) σ') (o_k σ') s 19 [(0, .ref (g_ad G 6)), (2, .int l2), (3, .int l3)] [] := by
  intro n
  induction n with
  | zero => intro l2 l3 s h; cases h
  | succ n ih =>
    intro l2 l3 s h
    rw [f_X7_following_L19] at h
    refine z_iload_n dX7_following_19 2 rfl ?_
    refine z_iload_n dX7_following_20 1 rfl ?_
    refine z_icmp_eq (tgt := 44) dX7_following_21 (by decide) (fun hc4 => ?_) (fun hc4 => ?_)
    · replace h := o_ip hc4 h
      exact o_Z.sub [0, 1, 2] rfl (s_X7_following_b44 h)
    · replace h := o_in hc4 h
      refine z_aload_n dX7_following_24 0 rfl ?_
      refine zg_X7_nexts fl_X7_22 dX7_following_25 ?_
      refine z_iload_n dX7_following_28 2 rfl ?_
      obtain ⟨g8, h⟩ := o_gd h
      replace h := o_dd h
      refine za_nexts g8 dX7_following_29 ?_
      refine z_iconst (v := (-1)) dX7_following_30 (by decide) ?_
      refine z_icmp_ne (tgt := 44) dX7_following_31 (by decide) (fun hc10 => ?_) (fun hc10 => ?_)
      · replace h := o_in hc10 h
        exact o_Z.sub [0, 1, 2] rfl (s_X7_following_b44 h)
      · replace h := o_ip hc10 h
        refine z_aload_n dX7_following_34 0 rfl ?_
        refine zg_X7_parents fl_X7_16 dX7_following_35 ?_
        refine z_iload_n dX7_following_38 2 rfl ?_
        obtain ⟨g11, h⟩ := o_gd h
        replace h := o_dd h
        refine za_parents g11 dX7_following_39 ?_
        refine z_istore_n (L' := [(3, .int _), (0, .ref _), (2, .int _)]) dX7_following_40 (by decide) rfl ?_
        refine z_goto (tgt := 19) dX7_following_41 (by decide) ?_
        exact o_Z.sub [1, 2, 0] rfl (ih _ _ _ h)
set_option maxRecDepth 10000 in
theorem s_X7_following {G : o_G} {N : Nat} {r : Int32} {σ' : o_S} {p1 : Int32} {p2 : Int32} {s : o_S} (h : f_X7_following N p1 p2 s = some (r, σ')) : o_Z (o_up G) RX7 cX7_following (Option.some Jvm.ClassFile.FieldType.int) 4 0 (o_E (o_up G) (some (.int r)) σ') (o_k σ') s 0 [(0, .ref (g_ad G 6)), (1, .int p1), (2, .int p2)] [] := by
  unfold f_X7_following at h
  refine z_aload_n dX7_following_0 0 rfl ?_
  refine zg_X7_firsts fl_X7_19 dX7_following_1 ?_
  refine z_iload_n dX7_following_4 1 rfl ?_
  obtain ⟨g1, h⟩ := o_gd h
  replace h := o_dd h
  refine za_firsts g1 dX7_following_5 ?_
  refine z_iconst (v := (-1)) dX7_following_6 (by decide) ?_
  refine z_icmp_eq (tgt := 17) dX7_following_7 (by decide) (fun hc3 => ?_) (fun hc3 => ?_)
  · replace h := o_ip hc3 h
    refine z_iload_n dX7_following_17 1 rfl ?_
    refine z_istore_n (L' := [(3, .int _), (0, .ref _), (1, .int _), (2, .int _)]) dX7_following_18 (by decide) rfl ?_
    exact o_Z.sub [1, 3, 0] rfl (s_X7_following_L19 _ _ _ _ h)
  · replace h := o_in hc3 h
    refine z_aload_n dX7_following_10 0 rfl ?_
    refine zg_X7_firsts fl_X7_19 dX7_following_11 ?_
    refine z_iload_n dX7_following_14 1 rfl ?_
    obtain ⟨g13, h⟩ := o_gd h
    replace h := o_dd h
    refine za_firsts g13 dX7_following_15 ?_
    cases h
    exact z_iret rfl rfl rfl dX7_following_16
theorem e_X7_following {G : o_G} {N : Nat} {r : Int32} {σ' : o_S} {p1 : Int32} {p2 : Int32} {s : o_S} (h : f_X7_following N p1 p2 s = some (r, σ')) : o_Ev (o_up G) yX7_following cX7_following 4 (Option.some Jvm.ClassFile.FieldType.int) 0 [.ref (g_ad G 6), .int p1, .int p2] s (some (.int r)) σ' := o_Ev.mk rfl (Nat.le_of_ble_eq_true rfl) (s_X7_following h)
-- X7_number
set_option maxRecDepth 10000 in
theorem s_X7_number_L7 {G : o_G} {N : Nat} {σ' : o_S} : ∀ (n : Nat) (l1 : Int32) (s : o_S), f_X7_number_L7 N n l1 s = some σ' → o_Z (o_up G) RX7 cX7_number (Option.none : Option Jvm.ClassFile.FieldType) 2 1 (o_E (o_up G) (none) σ') (o_k σ') s 7 [(0, .ref (g_ad G 6)), (1, .int l1)] [] := by
  intro n
  induction n with
  | zero => intro l1 s h; cases h
  | succ n ih =>
    intro l1 s h
    rw [f_X7_number_L7] at h
    refine z_iload_n dX7_number_7 1 rfl ?_
    refine z_iconst (v := (-1)) dX7_number_8 (by decide) ?_
    refine z_icmp_eq (tgt := 52) dX7_number_9 (by decide) (fun hc2 => ?_) (fun hc2 => ?_)
    · replace h := o_ip hc2 h
      cases h
      exact z_vret rfl rfl rfl dX7_number_52
    · replace h := o_in hc2 h
      refine z_aload_n dX7_number_12 0 rfl ?_
      refine zg_X7_idOf fl_X7_40 dX7_number_13 ?_
      refine z_aload_n dX7_number_16 0 rfl ?_
      refine zg_X7_nodes fl_X7_113 dX7_number_17 ?_
      refine z_iload_n dX7_number_20 1 rfl ?_
      obtain ⟨g3, h⟩ := o_gd h
      replace h := o_dd h
      refine zs_idOf g3 dX7_number_21 ?_
      refine z_aload_n dX7_number_22 0 rfl ?_
      refine zg_X7_numberOf fl_X7_43 dX7_number_23 ?_
      refine z_iload_n dX7_number_26 1 rfl ?_
      refine z_aload_n dX7_number_27 0 rfl ?_
      refine zg_X7_nodes fl_X7_113 dX7_number_28 ?_
      obtain ⟨g5, h⟩ := o_gd h
      replace h := o_dd h
      refine zs_numberOf g5 dX7_number_31 ?_
      refine z_aload_n dX7_number_32 0 rfl ?_
      refine z_dup dX7_number_33 rfl ?_
      refine zg_X7_nodes fl_X7_113 dX7_number_34 ?_
      refine z_iconst (v := 1) dX7_number_37 (by decide) ?_
      refine z_iadd dX7_number_38 ?_
      replace h := o_dd h
      refine zp_X7_nodes fl_X7_113 dX7_number_39 ?_
      refine z_aload_n dX7_number_42 0 rfl ?_
      refine z_iload_n dX7_number_43 1 rfl ?_
      refine z_iconst (v := 0) dX7_number_44 (by decide) ?_
      obtain ⟨x10, s8, e9, h⟩ := o_bdi h
      refine z_callVi (As := [.int _, .int _]) (e_X7_following e9) (by decide) mi_X7_following ml_X7_116 rfl rfl (Nat.le_of_ble_eq_true rfl) rv_6 dX7_number_45 ?_
      refine z_istore_n (L' := [(1, .int _), (0, .ref _)]) dX7_number_48 (by decide) rfl ?_
      refine z_goto (tgt := 7) dX7_number_49 (by decide) ?_
      exact o_Z.sub [1, 0] rfl (ih _ _ h)
set_option maxRecDepth 10000 in
theorem s_X7_number {G : o_G} {N : Nat} {σ' : o_S} {s : o_S} (h : f_X7_number N  s = some σ') : o_Z (o_up G) RX7 cX7_number (Option.none : Option Jvm.ClassFile.FieldType) 2 1 (o_E (o_up G) (none) σ') (o_k σ') s 0 [(0, .ref (g_ad G 6))] [] := by
  unfold f_X7_number at h
  refine z_aload_n dX7_number_0 0 rfl ?_
  refine z_iconst (v := 0) dX7_number_1 (by decide) ?_
  replace h := o_dd h
  refine zp_X7_nodes fl_X7_113 dX7_number_2 ?_
  refine z_iconst (v := 0) dX7_number_5 (by decide) ?_
  refine z_istore_n (L' := [(1, .int _), (0, .ref _)]) dX7_number_6 (by decide) rfl ?_
  exact o_Z.sub [1, 0] rfl (s_X7_number_L7 _ _ _ h)
theorem e_X7_number {G : o_G} {N : Nat} {σ' : o_S} {s : o_S} (h : f_X7_number N  s = some σ') : o_Ev (o_up G) yX7_number cX7_number 2 (Option.none : Option Jvm.ClassFile.FieldType) 1 [.ref (g_ad G 6)] s (none) σ' := o_Ev.mk rfl (Nat.le_of_ble_eq_true rfl) (s_X7_number h)
-- X7_repair
set_option maxRecDepth 10000 in
theorem s_X7_repair {G : o_G} {N : Nat} {σ' : o_S} {p1 : Int32} {s : o_S} (h : f_X7_repair N p1 s = some σ') : o_Z (o_up G) RX7 cX7_repair (Option.none : Option Jvm.ClassFile.FieldType) 2 0 (o_E (o_up G) (none) σ') (o_k σ') s 0 [(0, .ref (g_ad G 6)), (1, .int p1)] [] := by
  unfold f_X7_repair at h
  refine z_aload_n dX7_repair_0 0 rfl ?_
  refine zg_X7_repairParts fl_X7_46 dX7_repair_1 ?_
  refine z_iconst (v := 3) dX7_repair_4 (by decide) ?_
  refine z_aload_n dX7_repair_5 0 rfl ?_
  refine zg_X7_repairs fl_X7_95 dX7_repair_6 ?_
  refine z_imul dX7_repair_9 ?_
  refine z_iload_n dX7_repair_10 1 rfl ?_
  obtain ⟨g1, h⟩ := o_gd h
  replace h := o_dd h
  refine zs_repairParts g1 dX7_repair_11 ?_
  refine z_aload_n dX7_repair_12 0 rfl ?_
  refine zg_X7_repairParts fl_X7_46 dX7_repair_13 ?_
  refine z_iconst (v := 3) dX7_repair_16 (by decide) ?_
  refine z_aload_n dX7_repair_17 0 rfl ?_
  refine zg_X7_repairs fl_X7_95 dX7_repair_18 ?_
  refine z_imul dX7_repair_21 ?_
  refine z_iconst (v := 1) dX7_repair_22 (by decide) ?_
  refine z_iadd dX7_repair_23 ?_
  refine z_aload_n dX7_repair_24 0 rfl ?_
  refine zg_X7_line fl_X7_119 dX7_repair_25 ?_
  obtain ⟨g3, h⟩ := o_gd h
  replace h := o_dd h
  refine zs_repairParts g3 dX7_repair_28 ?_
  refine z_aload_n dX7_repair_29 0 rfl ?_
  refine zg_X7_repairParts fl_X7_46 dX7_repair_30 ?_
  refine z_iconst (v := 3) dX7_repair_33 (by decide) ?_
  refine z_aload_n dX7_repair_34 0 rfl ?_
  refine zg_X7_repairs fl_X7_95 dX7_repair_35 ?_
  refine z_imul dX7_repair_38 ?_
  refine z_iconst (v := 2) dX7_repair_39 (by decide) ?_
  refine z_iadd dX7_repair_40 ?_
  refine z_aload_n dX7_repair_41 0 rfl ?_
  refine zg_X7_column fl_X7_122 dX7_repair_42 ?_
  obtain ⟨g5, h⟩ := o_gd h
  replace h := o_dd h
  refine zs_repairParts g5 dX7_repair_45 ?_
  refine z_aload_n dX7_repair_46 0 rfl ?_
  refine z_dup dX7_repair_47 rfl ?_
  refine zg_X7_repairs fl_X7_95 dX7_repair_48 ?_
  refine z_iconst (v := 1) dX7_repair_51 (by decide) ?_
  refine z_iadd dX7_repair_52 ?_
  replace h := o_dd h
  refine zp_X7_repairs fl_X7_95 dX7_repair_53 ?_
  cases h
  exact z_vret rfl rfl rfl dX7_repair_56
theorem e_X7_repair {G : o_G} {N : Nat} {σ' : o_S} {p1 : Int32} {s : o_S} (h : f_X7_repair N p1 s = some σ') : o_Ev (o_up G) yX7_repair cX7_repair 2 (Option.none : Option Jvm.ClassFile.FieldType) 0 [.ref (g_ad G 6), .int p1] s (none) σ' := o_Ev.mk rfl (Nat.le_of_ble_eq_true rfl) (s_X7_repair h)
-- X7_push
set_option maxRecDepth 10000 in
theorem s_X7_push {G : o_G} {N : Nat} {σ' : o_S} {p1 : Int32} {p2 : Int32} {s : o_S} (h : f_X7_push N p1 p2 s = some σ') : o_Z (o_up G) RX7 cX7_push (Option.none : Option Jvm.ClassFile.FieldType) 3 0 (o_E (o_up G) (none) σ') (o_k σ') s 0 [(0, .ref (g_ad G 6)), (1, .int p1), (2, .int p2)] [] := by
  unfold f_X7_push at h
  refine z_aload_n dX7_push_0 0 rfl ?_
  refine zg_X7_openIds fl_X7_56 dX7_push_1 ?_
  refine z_aload_n dX7_push_4 0 rfl ?_
  refine zg_X7_open fl_X7_125 dX7_push_5 ?_
  refine z_iload_n dX7_push_8 1 rfl ?_
  obtain ⟨g1, h⟩ := o_gd h
  replace h := o_dd h
  refine zs_openIds g1 dX7_push_9 ?_
  refine z_aload_n dX7_push_10 0 rfl ?_
  refine zg_X7_openColumns fl_X7_59 dX7_push_11 ?_
  refine z_aload_n dX7_push_14 0 rfl ?_
  refine zg_X7_open fl_X7_125 dX7_push_15 ?_
  refine z_iload_n dX7_push_18 2 rfl ?_
  obtain ⟨g3, h⟩ := o_gd h
  replace h := o_dd h
  refine zs_openColumns g3 dX7_push_19 ?_
  refine z_aload_n dX7_push_20 0 rfl ?_
  refine zg_X7_items fl_X7_62 dX7_push_21 ?_
  refine z_aload_n dX7_push_24 0 rfl ?_
  refine zg_X7_open fl_X7_125 dX7_push_25 ?_
  refine z_iconst (v := (-1)) dX7_push_28 (by decide) ?_
  obtain ⟨g5, h⟩ := o_gd h
  replace h := o_dd h
  refine zs_items g5 dX7_push_29 ?_
  refine z_aload_n dX7_push_30 0 rfl ?_
  refine z_dup dX7_push_31 rfl ?_
  refine zg_X7_open fl_X7_125 dX7_push_32 ?_
  refine z_iconst (v := 1) dX7_push_35 (by decide) ?_
  refine z_iadd dX7_push_36 ?_
  replace h := o_dd h
  refine zp_X7_open fl_X7_125 dX7_push_37 ?_
  cases h
  exact z_vret rfl rfl rfl dX7_push_40
theorem e_X7_push {G : o_G} {N : Nat} {σ' : o_S} {p1 : Int32} {p2 : Int32} {s : o_S} (h : f_X7_push N p1 p2 s = some σ') : o_Ev (o_up G) yX7_push cX7_push 3 (Option.none : Option Jvm.ClassFile.FieldType) 0 [.ref (g_ad G 6), .int p1, .int p2] s (none) σ' := o_Ev.mk rfl (Nat.le_of_ble_eq_true rfl) (s_X7_push h)
-- X7_top
set_option maxRecDepth 10000 in
theorem s_X7_top {G : o_G} {N : Nat} {r : Int32} {σ' : o_S} {s : o_S} (h : f_X7_top N  s = some (r, σ')) : o_Z (o_up G) RX7 cX7_top (Option.some Jvm.ClassFile.FieldType.int) 1 0 (o_E (o_up G) (some (.int r)) σ') (o_k σ') s 0 [(0, .ref (g_ad G 6))] [] := by
  unfold f_X7_top at h
  refine z_aload_n dX7_top_0 0 rfl ?_
  refine zg_X7_open fl_X7_125 dX7_top_1 ?_
  refine z_iconst (v := 1) dX7_top_4 (by decide) ?_
  refine z_isub dX7_top_5 ?_
  cases h
  exact z_iret rfl rfl rfl dX7_top_6
theorem e_X7_top {G : o_G} {N : Nat} {r : Int32} {σ' : o_S} {s : o_S} (h : f_X7_top N  s = some (r, σ')) : o_Ev (o_up G) yX7_top cX7_top 1 (Option.some Jvm.ClassFile.FieldType.int) 0 [.ref (g_ad G 6)] s (some (.int r)) σ' := o_Ev.mk rfl (Nat.le_of_ble_eq_true rfl) (s_X7_top h)
-- X7_isGroupOpen
set_option maxRecDepth 10000 in
theorem s_X7_isGroupOpen {G : o_G} {N : Nat} {r : Int32} {σ' : o_S} {s : o_S} (h : f_X7_isGroupOpen N  s = some (r, σ')) : o_Z (o_up G) RX7 cX7_isGroupOpen (Option.some Jvm.ClassFile.FieldType.boolean) 1 1 (o_E (o_up G) (some (.int r)) σ') (o_k σ') s 0 [(0, .ref (g_ad G 6))] [] := by
  unfold f_X7_isGroupOpen at h
  refine z_aload_n dX7_isGroupOpen_0 0 rfl ?_
  refine zg_X7_kinds fl_X7_13 dX7_isGroupOpen_1 ?_
  refine z_aload_n dX7_isGroupOpen_4 0 rfl ?_
  refine zg_X7_openIds fl_X7_56 dX7_isGroupOpen_5 ?_
  refine z_aload_n dX7_isGroupOpen_8 0 rfl ?_
  obtain ⟨x3, s1, e2, h⟩ := o_bdi h
  refine z_callVi (As := []) (e_X7_top e2) (by decide) mi_X7_top ml_X7_128 rfl rfl (Nat.le_of_ble_eq_true rfl) rv_6 dX7_isGroupOpen_9 ?_
  obtain ⟨g4, h⟩ := o_gd h
  replace h := o_dd h
  refine za_openIds g4 dX7_isGroupOpen_12 ?_
  obtain ⟨g6, h⟩ := o_gd h
  replace h := o_dd h
  refine za_kinds g6 dX7_isGroupOpen_13 ?_
  refine z_iconst (v := 4) dX7_isGroupOpen_14 (by decide) ?_
  refine z_icmp_ne (tgt := 22) dX7_isGroupOpen_15 (by decide) (fun hc8 => ?_) (fun hc8 => ?_)
  · replace h := o_in hc8 h
    refine z_iconst (v := 0) dX7_isGroupOpen_22 (by decide) ?_
    cases h
    exact z_zret (by decide) rfl rfl rfl dX7_isGroupOpen_23
  · replace h := o_ip hc8 h
    refine z_iconst (v := 1) dX7_isGroupOpen_18 (by decide) ?_
    refine z_goto (tgt := 23) dX7_isGroupOpen_19 (by decide) ?_
    cases h
    exact z_zret (by decide) rfl rfl rfl dX7_isGroupOpen_23
theorem e_X7_isGroupOpen {G : o_G} {N : Nat} {r : Int32} {σ' : o_S} {s : o_S} (h : f_X7_isGroupOpen N  s = some (r, σ')) : o_Ev (o_up G) yX7_isGroupOpen cX7_isGroupOpen 1 (Option.some Jvm.ClassFile.FieldType.boolean) 1 [.ref (g_ad G 6)] s (some (.int r)) σ' := o_Ev.mk rfl (Nat.le_of_ble_eq_true rfl) (s_X7_isGroupOpen h)
-- X7_isDigit
set_option maxRecDepth 10000 in
theorem s_X7_isDigit {G : o_G} {N : Nat} {r : Int32} {σ' : o_S} {p1 : Int32} {s : o_S} (h : f_X7_isDigit N p1 s = some (r, σ')) : o_Z (o_up G) RX7 cX7_isDigit (Option.some Jvm.ClassFile.FieldType.boolean) 1 0 (o_E (o_up G) (some (.int r)) σ') (o_k σ') s 0 [(0, .int p1)] [] := by
  unfold f_X7_isDigit at h
  refine z_iload_n dX7_isDigit_0 0 rfl ?_
  refine z_bipush (v := 48) dX7_isDigit_1 (by decide) ?_
  refine z_icmp_lt (tgt := 16) dX7_isDigit_3 (by decide) (fun hc1 => ?_) (fun hc1 => ?_)
  · replace h := o_ip hc1 h
    refine z_iconst (v := 0) dX7_isDigit_16 (by decide) ?_
    cases h
    exact z_zret (by decide) rfl rfl rfl dX7_isDigit_17
  · replace h := o_in hc1 h
    refine z_iload_n dX7_isDigit_6 0 rfl ?_
    refine z_bipush (v := 57) dX7_isDigit_7 (by decide) ?_
    refine z_icmp_gt (tgt := 16) dX7_isDigit_9 (by decide) (fun hc2 => ?_) (fun hc2 => ?_)
    · replace h := o_ip hc2 h
      refine z_iconst (v := 0) dX7_isDigit_16 (by decide) ?_
      cases h
      exact z_zret (by decide) rfl rfl rfl dX7_isDigit_17
    · replace h := o_in hc2 h
      refine z_iconst (v := 1) dX7_isDigit_12 (by decide) ?_
      refine z_goto (tgt := 17) dX7_isDigit_13 (by decide) ?_
      cases h
      exact z_zret (by decide) rfl rfl rfl dX7_isDigit_17
theorem e_X7_isDigit {G : o_G} {N : Nat} {r : Int32} {σ' : o_S} {p1 : Int32} {s : o_S} (h : f_X7_isDigit N p1 s = some (r, σ')) : o_Ev (o_up G) yX7_isDigit cX7_isDigit 1 (Option.some Jvm.ClassFile.FieldType.boolean) 0 [.int p1] s (some (.int r)) σ' := o_Ev.mk rfl (Nat.le_of_ble_eq_true rfl) (s_X7_isDigit h)
-- X7_isLetter
set_option maxRecDepth 10000 in
theorem s_X7_isLetter_b12 {G : o_G} {N : Nat} {r : Int32} {σ' : o_S} {l0 : Int32} {s : o_S} (h : f_X7_isLetter_b12 N l0 s = some (r, σ')) : o_Z (o_up G) RX7 cX7_isLetter (Option.some Jvm.ClassFile.FieldType.boolean) 1 0 (o_E (o_up G) (some (.int r)) σ') (o_k σ') s 12 [(0, .int l0)] [] := by
  unfold f_X7_isLetter_b12 at h
  refine z_iload_n dX7_isLetter_12 0 rfl ?_
  refine z_bipush (v := 65) dX7_isLetter_13 (by decide) ?_
  refine z_icmp_lt (tgt := 28) dX7_isLetter_15 (by decide) (fun hc2 => ?_) (fun hc2 => ?_)
  · replace h := o_ip hc2 h
    refine z_iconst (v := 0) dX7_isLetter_28 (by decide) ?_
    cases h
    exact z_zret (by decide) rfl rfl rfl dX7_isLetter_29
  · replace h := o_in hc2 h
    refine z_iload_n dX7_isLetter_18 0 rfl ?_
    refine z_bipush (v := 90) dX7_isLetter_19 (by decide) ?_
    refine z_icmp_gt (tgt := 28) dX7_isLetter_21 (by decide) (fun hc3 => ?_) (fun hc3 => ?_)
    · replace h := o_ip hc3 h
      refine z_iconst (v := 0) dX7_isLetter_28 (by decide) ?_
      cases h
      exact z_zret (by decide) rfl rfl rfl dX7_isLetter_29
    · replace h := o_in hc3 h
      refine z_iconst (v := 1) dX7_isLetter_24 (by decide) ?_
      refine z_goto (tgt := 29) dX7_isLetter_25 (by decide) ?_
      cases h
      exact z_zret (by decide) rfl rfl rfl dX7_isLetter_29
set_option maxRecDepth 10000 in
theorem s_X7_isLetter {G : o_G} {N : Nat} {r : Int32} {σ' : o_S} {p1 : Int32} {s : o_S} (h : f_X7_isLetter N p1 s = some (r, σ')) : o_Z (o_up G) RX7 cX7_isLetter (Option.some Jvm.ClassFile.FieldType.boolean) 1 0 (o_E (o_up G) (some (.int r)) σ') (o_k σ') s 0 [(0, .int p1)] [] := by
  unfold f_X7_isLetter at h
  refine z_iload_n dX7_isLetter_0 0 rfl ?_
  refine z_bipush (v := 97) dX7_isLetter_1 (by decide) ?_
  refine z_icmp_lt (tgt := 12) dX7_isLetter_3 (by decide) (fun hc1 => ?_) (fun hc1 => ?_)
  · replace h := o_ip hc1 h
    exact o_Z.sub [0] rfl (s_X7_isLetter_b12 h)
  · replace h := o_in hc1 h
    refine z_iload_n dX7_isLetter_6 0 rfl ?_
    refine z_bipush (v := 122) dX7_isLetter_7 (by decide) ?_
    refine z_icmp_le (tgt := 24) dX7_isLetter_9 (by decide) (fun hc4 => ?_) (fun hc4 => ?_)
    · replace h := o_ip hc4 h
      refine z_iconst (v := 1) dX7_isLetter_24 (by decide) ?_
      refine z_goto (tgt := 29) dX7_isLetter_25 (by decide) ?_
      cases h
      exact z_zret (by decide) rfl rfl rfl dX7_isLetter_29
    · replace h := o_in hc4 h
      exact o_Z.sub [0] rfl (s_X7_isLetter_b12 h)
theorem e_X7_isLetter {G : o_G} {N : Nat} {r : Int32} {σ' : o_S} {p1 : Int32} {s : o_S} (h : f_X7_isLetter N p1 s = some (r, σ')) : o_Ev (o_up G) yX7_isLetter cX7_isLetter 1 (Option.some Jvm.ClassFile.FieldType.boolean) 0 [.int p1] s (some (.int r)) σ' := o_Ev.mk rfl (Nat.le_of_ble_eq_true rfl) (s_X7_isLetter h)
-- X7_isSign
set_option maxRecDepth 10000 in
theorem s_X7_isSign {G : o_G} {N : Nat} {r : Int32} {σ' : o_S} {p1 : Int32} {s : o_S} (h : f_X7_isSign N p1 s = some (r, σ')) : o_Z (o_up G) RX7 cX7_isSign (Option.some Jvm.ClassFile.FieldType.boolean) 1 0 (o_E (o_up G) (some (.int r)) σ') (o_k σ') s 0 [(0, .int p1)] [] := by
  unfold f_X7_isSign at h
  refine z_iload_n dX7_isSign_0 0 rfl ?_
  refine z_bipush (v := 123) dX7_isSign_1 (by decide) ?_
  refine z_icmp_eq (tgt := 36) dX7_isSign_3 (by decide) (fun hc1 => ?_) (fun hc1 => ?_)
  · replace h := o_ip hc1 h
    refine z_iconst (v := 1) dX7_isSign_36 (by decide) ?_
    refine z_goto (tgt := 41) dX7_isSign_37 (by decide) ?_
    cases h
    exact z_zret (by decide) rfl rfl rfl dX7_isSign_41
  · replace h := o_in hc1 h
    refine z_iload_n dX7_isSign_6 0 rfl ?_
    refine z_bipush (v := 125) dX7_isSign_7 (by decide) ?_
    refine z_icmp_eq (tgt := 36) dX7_isSign_9 (by decide) (fun hc2 => ?_) (fun hc2 => ?_)
    · replace h := o_ip hc2 h
      refine z_iconst (v := 1) dX7_isSign_36 (by decide) ?_
      refine z_goto (tgt := 41) dX7_isSign_37 (by decide) ?_
      cases h
      exact z_zret (by decide) rfl rfl rfl dX7_isSign_41
    · replace h := o_in hc2 h
      refine z_iload_n dX7_isSign_12 0 rfl ?_
      refine z_bipush (v := 40) dX7_isSign_13 (by decide) ?_
      refine z_icmp_eq (tgt := 36) dX7_isSign_15 (by decide) (fun hc3 => ?_) (fun hc3 => ?_)
      · replace h := o_ip hc3 h
        refine z_iconst (v := 1) dX7_isSign_36 (by decide) ?_
        refine z_goto (tgt := 41) dX7_isSign_37 (by decide) ?_
        cases h
        exact z_zret (by decide) rfl rfl rfl dX7_isSign_41
      · replace h := o_in hc3 h
        refine z_iload_n dX7_isSign_18 0 rfl ?_
        refine z_bipush (v := 41) dX7_isSign_19 (by decide) ?_
        refine z_icmp_eq (tgt := 36) dX7_isSign_21 (by decide) (fun hc4 => ?_) (fun hc4 => ?_)
        · replace h := o_ip hc4 h
          refine z_iconst (v := 1) dX7_isSign_36 (by decide) ?_
          refine z_goto (tgt := 41) dX7_isSign_37 (by decide) ?_
          cases h
          exact z_zret (by decide) rfl rfl rfl dX7_isSign_41
        · replace h := o_in hc4 h
          refine z_iload_n dX7_isSign_24 0 rfl ?_
          refine z_bipush (v := 58) dX7_isSign_25 (by decide) ?_
          refine z_icmp_eq (tgt := 36) dX7_isSign_27 (by decide) (fun hc5 => ?_) (fun hc5 => ?_)
          · replace h := o_ip hc5 h
            refine z_iconst (v := 1) dX7_isSign_36 (by decide) ?_
            refine z_goto (tgt := 41) dX7_isSign_37 (by decide) ?_
            cases h
            exact z_zret (by decide) rfl rfl rfl dX7_isSign_41
          · replace h := o_in hc5 h
            refine z_iload_n dX7_isSign_30 0 rfl ?_
            refine z_bipush (v := 59) dX7_isSign_31 (by decide) ?_
            refine z_icmp_ne (tgt := 40) dX7_isSign_33 (by decide) (fun hc6 => ?_) (fun hc6 => ?_)
            · replace h := o_in hc6 h
              refine z_iconst (v := 0) dX7_isSign_40 (by decide) ?_
              cases h
              exact z_zret (by decide) rfl rfl rfl dX7_isSign_41
            · replace h := o_ip hc6 h
              refine z_iconst (v := 1) dX7_isSign_36 (by decide) ?_
              refine z_goto (tgt := 41) dX7_isSign_37 (by decide) ?_
              cases h
              exact z_zret (by decide) rfl rfl rfl dX7_isSign_41
theorem e_X7_isSign {G : o_G} {N : Nat} {r : Int32} {σ' : o_S} {p1 : Int32} {s : o_S} (h : f_X7_isSign N p1 s = some (r, σ')) : o_Ev (o_up G) yX7_isSign cX7_isSign 1 (Option.some Jvm.ClassFile.FieldType.boolean) 0 [.int p1] s (some (.int r)) σ' := o_Ev.mk rfl (Nat.le_of_ble_eq_true rfl) (s_X7_isSign h)
-- X7_isPart
set_option maxRecDepth 10000 in
theorem s_X7_isPart {G : o_G} {N : Nat} {r : Int32} {σ' : o_S} {s : o_S} (h : f_X7_isPart N  s = some (r, σ')) : o_Z (o_up G) RX7 cX7_isPart (Option.some Jvm.ClassFile.FieldType.boolean) 1 0 (o_E (o_up G) (some (.int r)) σ') (o_k σ') s 0 [(0, .ref (g_ad G 6))] [] := by
  unfold f_X7_isPart at h
  refine z_aload_n dX7_isPart_0 0 rfl ?_
  refine zg_X7_token fl_X7_150 dX7_isPart_1 ?_
  refine z_iconst (v := 2) dX7_isPart_4 (by decide) ?_
  refine z_icmp_eq (tgt := 25) dX7_isPart_5 (by decide) (fun hc1 => ?_) (fun hc1 => ?_)
  · replace h := o_ip hc1 h
    refine z_iconst (v := 1) dX7_isPart_25 (by decide) ?_
    refine z_goto (tgt := 30) dX7_isPart_26 (by decide) ?_
    cases h
    exact z_zret (by decide) rfl rfl rfl dX7_isPart_30
  · replace h := o_in hc1 h
    refine z_aload_n dX7_isPart_8 0 rfl ?_
    refine zg_X7_token fl_X7_150 dX7_isPart_9 ?_
    refine z_iconst (v := 3) dX7_isPart_12 (by decide) ?_
    refine z_icmp_eq (tgt := 25) dX7_isPart_13 (by decide) (fun hc2 => ?_) (fun hc2 => ?_)
    · replace h := o_ip hc2 h
      refine z_iconst (v := 1) dX7_isPart_25 (by decide) ?_
      refine z_goto (tgt := 30) dX7_isPart_26 (by decide) ?_
      cases h
      exact z_zret (by decide) rfl rfl rfl dX7_isPart_30
    · replace h := o_in hc2 h
      refine z_aload_n dX7_isPart_16 0 rfl ?_
      refine zg_X7_token fl_X7_150 dX7_isPart_17 ?_
      refine z_bipush (v := 40) dX7_isPart_20 (by decide) ?_
      refine z_icmp_ne (tgt := 29) dX7_isPart_22 (by decide) (fun hc3 => ?_) (fun hc3 => ?_)
      · replace h := o_in hc3 h
        refine z_iconst (v := 0) dX7_isPart_29 (by decide) ?_
        cases h
        exact z_zret (by decide) rfl rfl rfl dX7_isPart_30
      · replace h := o_ip hc3 h
        refine z_iconst (v := 1) dX7_isPart_25 (by decide) ?_
        refine z_goto (tgt := 30) dX7_isPart_26 (by decide) ?_
        cases h
        exact z_zret (by decide) rfl rfl rfl dX7_isPart_30
theorem e_X7_isPart {G : o_G} {N : Nat} {r : Int32} {σ' : o_S} {s : o_S} (h : f_X7_isPart N  s = some (r, σ')) : o_Ev (o_up G) yX7_isPart cX7_isPart 1 (Option.some Jvm.ClassFile.FieldType.boolean) 0 [.ref (g_ad G 6)] s (some (.int r)) σ' := o_Ev.mk rfl (Nat.le_of_ble_eq_true rfl) (s_X7_isPart h)
-- X7_addPart
set_option maxRecDepth 10000 in
theorem s_X7_addPart_L98 {G : o_G} {N : Nat} {σ' : o_S} : ∀ (n : Nat) (l1 : Int32) (l2 : Int64) (l4 : Int32) (s : o_S), f_X7_addPart_L98 N n l1 l2 l4 s = some σ' → o_Z (o_up G) RX7 cX7_addPart (Option.none : Option Jvm.ClassFile.FieldType) 5 3 (o_E (o_up G) (none) σ') (o_k σ') s 98 [(0, .ref (g_ad G 6)), (1, .int l1), (2, .long l2), (4, .int l4)] [] := by
  intro n
  induction n with
  | zero => intro l1 l2 l4 s h; cases h
  | succ n ih =>
    intro l1 l2 l4 s h
    rw [f_X7_addPart_L98] at h
    refine z_iload dX7_addPart_98 3 rfl ?_
    refine z_aload_n dX7_addPart_100 0 rfl ?_
    refine zg_X7_end fl_X7_156 dX7_addPart_101 ?_
    refine z_icmp_ge (tgt := 136) dX7_addPart_104 (by decide) (fun hc3 => ?_) (fun hc3 => ?_)
    · replace h := o_ip hc3 h
      refine z_aload_n dX7_addPart_136 0 rfl ?_
      refine z_iconst (v := 3) dX7_addPart_137 (by decide) ?_
      refine z_iload_n dX7_addPart_138 1 rfl ?_
      refine z_aload_n dX7_addPart_139 0 rfl ?_
      refine zg_X7_line fl_X7_119 dX7_addPart_140 ?_
      refine z_aload_n dX7_addPart_143 0 rfl ?_
      refine zg_X7_column fl_X7_122 dX7_addPart_144 ?_
      refine z_lload_n dX7_addPart_147 2 rfl ?_
      refine z_l2i dX7_addPart_148 ?_
      obtain ⟨x6, s4, e5, h⟩ := o_bdi h
      refine z_callVi (As := [.int _, .int _, .int _, .int _, .int _]) (e_X7_add e5) (by decide) mi_X7_add ml_X7_98 rfl rfl (Nat.le_of_ble_eq_true rfl) rv_6 dX7_addPart_149 ?_
      refine z_pop dX7_addPart_152 rfl ?_
      cases h
      exact z_vret rfl rfl rfl dX7_addPart_153
    · replace h := o_in hc3 h
      refine z_ldc2 cl_X7_191 dX7_addPart_107 ?_
      refine z_lload_n dX7_addPart_110 2 rfl ?_
      refine z_lmul dX7_addPart_111 ?_
      refine z_aload_n dX7_addPart_112 0 rfl ?_
      refine zg_X7_text fl_X7_9 dX7_addPart_113 ?_
      refine z_iload dX7_addPart_116 3 rfl ?_
      obtain ⟨g7, h⟩ := o_gd h
      replace h := o_dd h
      refine za_text g7 dX7_addPart_118 ?_
      refine z_i2l dX7_addPart_119 ?_
      refine z_ladd dX7_addPart_120 ?_
      refine z_ldc2 cl_X7_193 dX7_addPart_121 ?_
      refine z_lsub dX7_addPart_124 ?_
      refine z_ldc2 cl_X7_195 dX7_addPart_125 ?_
      refine z_lrem (by decide) dX7_addPart_128 ?_
      refine z_lstore_n (L' := [(2, .long _), (0, .ref _), (1, .int _), (4, .int _)]) dX7_addPart_129 (by decide) rfl ?_
      refine z_iinc (v := _ + 1) (L' := [(4, .int _), (2, .long _), (0, .ref _), (1, .int _)]) dX7_addPart_130 3 rfl rfl (by decide) rfl ?_
      refine z_goto (tgt := 98) dX7_addPart_133 (by decide) ?_
      exact o_Z.sub [2, 3, 1, 0] rfl (ih _ _ _ _ h)
set_option maxRecDepth 10000 in
theorem s_X7_addPart {G : o_G} {N : Nat} {σ' : o_S} {p1 : Int32} {s : o_S} (h : f_X7_addPart N p1 s = some σ') : o_Z (o_up G) RX7 cX7_addPart (Option.none : Option Jvm.ClassFile.FieldType) 5 3 (o_E (o_up G) (none) σ') (o_k σ') s 0 [(0, .ref (g_ad G 6)), (1, .int p1)] [] := by
  unfold f_X7_addPart at h
  refine z_aload_n dX7_addPart_0 0 rfl ?_
  refine zg_X7_token fl_X7_150 dX7_addPart_1 ?_
  refine z_bipush (v := 40) dX7_addPart_4 (by decide) ?_
  refine z_icmp_ne (tgt := 47) dX7_addPart_6 (by decide) (fun hc1 => ?_) (fun hc1 => ?_)
  · replace h := o_in hc1 h
    refine z_aload_n dX7_addPart_47 0 rfl ?_
    refine zg_X7_token fl_X7_150 dX7_addPart_48 ?_
    refine z_iconst (v := 2) dX7_addPart_51 (by decide) ?_
    refine z_icmp_ne (tgt := 90) dX7_addPart_52 (by decide) (fun hc2 => ?_) (fun hc2 => ?_)
    · replace h := o_in hc2 h
      refine z_lconst (v := 0) dX7_addPart_90 (by decide) ?_
      refine z_lstore_n (L' := [(2, .long _), (0, .ref _), (1, .int _)]) dX7_addPart_91 (by decide) rfl ?_
      refine z_aload_n dX7_addPart_92 1 rfl ?_
      refine zg_X7_start fl_X7_153 dX7_addPart_93 ?_
      refine z_istore (L' := [(4, .int _), (2, .long _), (0, .ref _), (1, .int _)]) dX7_addPart_96 (by decide) rfl ?_
      exact o_Z.sub [2, 3, 1, 0] rfl (s_X7_addPart_L98 _ _ _ _ _ h)
    · replace h := o_ip hc2 h
      refine z_aload_n dX7_addPart_55 0 rfl ?_
      refine z_iconst (v := 2) dX7_addPart_56 (by decide) ?_
      refine z_iload_n dX7_addPart_57 1 rfl ?_
      refine z_aload_n dX7_addPart_58 0 rfl ?_
      refine zg_X7_line fl_X7_119 dX7_addPart_59 ?_
      refine z_aload_n dX7_addPart_62 0 rfl ?_
      refine zg_X7_column fl_X7_122 dX7_addPart_63 ?_
      refine z_aload_n dX7_addPart_66 0 rfl ?_
      refine zg_X7_end fl_X7_156 dX7_addPart_67 ?_
      refine z_aload_n dX7_addPart_70 0 rfl ?_
      refine zg_X7_start fl_X7_153 dX7_addPart_71 ?_
      refine z_isub dX7_addPart_74 ?_
      obtain ⟨x11, s9, e10, h⟩ := o_bdi h
      refine z_callVi (As := [.int _, .int _, .int _, .int _, .int _]) (e_X7_add e10) (by decide) mi_X7_add ml_X7_98 rfl rfl (Nat.le_of_ble_eq_true rfl) rv_6 dX7_addPart_75 ?_
      refine z_istore_n (L' := [(2, .int _), (0, .ref _), (1, .int _)]) dX7_addPart_78 (by decide) rfl ?_
      refine z_aload_n dX7_addPart_79 1 rfl ?_
      refine zg_X7_starts fl_X7_34 dX7_addPart_80 ?_
      refine z_iload_n dX7_addPart_83 0 rfl ?_
      refine z_aload_n dX7_addPart_84 1 rfl ?_
      refine zg_X7_start fl_X7_153 dX7_addPart_85 ?_
      obtain ⟨g12, h⟩ := o_gd h
      replace h := o_dd h
      refine zs_starts g12 dX7_addPart_88 ?_
      cases h
      exact z_vret rfl rfl rfl dX7_addPart_89
  · replace h := o_ip hc1 h
    refine z_aload_n dX7_addPart_9 0 rfl ?_
    refine zg_X7_open fl_X7_125 dX7_addPart_10 ?_
    refine z_bipush (v := 30) dX7_addPart_13 (by decide) ?_
    refine z_icmp_le (tgt := 26) dX7_addPart_15 (by decide) (fun hc14 => ?_) (fun hc14 => ?_)
    · replace h := o_ip hc14 h
      refine z_aload_n dX7_addPart_26 0 rfl ?_
      refine z_aload_n dX7_addPart_27 0 rfl ?_
      refine z_iconst (v := 4) dX7_addPart_28 (by decide) ?_
      refine z_iload_n dX7_addPart_29 1 rfl ?_
      refine z_aload_n dX7_addPart_30 0 rfl ?_
      refine zg_X7_line fl_X7_119 dX7_addPart_31 ?_
      refine z_aload_n dX7_addPart_34 0 rfl ?_
      refine zg_X7_column fl_X7_122 dX7_addPart_35 ?_
      refine z_iconst (v := 0) dX7_addPart_38 (by decide) ?_
      obtain ⟨x17, s15, e16, h⟩ := o_bdi h
      refine z_callVi (As := [.int _, .int _, .int _, .int _, .int _]) (e_X7_add e16) (by decide) mi_X7_add ml_X7_98 rfl rfl (Nat.le_of_ble_eq_true rfl) rv_6 dX7_addPart_39 ?_
      refine z_iconst (v := (-1)) dX7_addPart_42 (by decide) ?_
      obtain ⟨s18, e19, h⟩ := o_bdv h
      refine z_callVv (As := [.int _, .int _]) (e_X7_push e19) (by decide) mi_X7_push ml_X7_132 rfl rfl (Nat.le_of_ble_eq_true rfl) rv_6 dX7_addPart_43 ?_
      cases h
      exact z_vret rfl rfl rfl dX7_addPart_46
    · replace h := o_in hc14 h
      refine z_aload_n dX7_addPart_18 0 rfl ?_
      refine z_iconst (v := 5) dX7_addPart_19 (by decide) ?_
      obtain ⟨s20, e21, h⟩ := o_bdv h
      refine z_callVv (As := [.int _]) (e_X7_repair e21) (by decide) mi_X7_repair ml_X7_165 rfl rfl (Nat.le_of_ble_eq_true rfl) rv_6 dX7_addPart_20 ?_
      refine z_goto (tgt := 46) dX7_addPart_23 (by decide) ?_
      cases h
      exact z_vret rfl rfl rfl dX7_addPart_46
theorem e_X7_addPart {G : o_G} {N : Nat} {σ' : o_S} {p1 : Int32} {s : o_S} (h : f_X7_addPart N p1 s = some σ') : o_Ev (o_up G) yX7_addPart cX7_addPart 5 (Option.none : Option Jvm.ClassFile.FieldType) 3 [.ref (g_ad G 6), .int p1] s (none) σ' := o_Ev.mk rfl (Nat.le_of_ble_eq_true rfl) (s_X7_addPart h)
-- X7_align
set_option maxRecDepth 10000 in
theorem s_X7_align_b68 {G : o_G} {N : Nat} {σ' : o_S} {l2 : Int32} {s : o_S} (h : f_X7_align_b68 N l2 s = some σ') : o_Z (o_up G) RX7 cX7_align (Option.none : Option Jvm.ClassFile.FieldType) 3 1 (o_E (o_up G) (none) σ') (o_k σ') s 68 [(0, .ref (g_ad G 6)), (2, .int l2)] [] := by
  unfold f_X7_align_b68 at h
  refine z_iload_n dX7_align_68 1 rfl ?_
  refine z_aload_n dX7_align_69 0 rfl ?_
  refine zg_X7_column fl_X7_122 dX7_align_70 ?_
  refine z_icmp_eq (tgt := 81) dX7_align_73 (by decide) (fun hc12 => ?_) (fun hc12 => ?_)
  · replace h := o_ip hc12 h
    refine z_aload_n dX7_align_81 0 rfl ?_
    refine zg_X7_items fl_X7_62 dX7_align_82 ?_
    refine z_aload_n dX7_align_85 0 rfl ?_
    obtain ⟨x15, s13, e14, h⟩ := o_bdi h
    refine z_callVi (As := []) (e_X7_top e14) (by decide) mi_X7_top ml_X7_128 rfl rfl (Nat.le_of_ble_eq_true rfl) rv_6 dX7_align_86 ?_
    refine z_iconst (v := (-1)) dX7_align_89 (by decide) ?_
    obtain ⟨g16, h⟩ := o_gd h
    replace h := o_dd h
    refine zs_items g16 dX7_align_90 ?_
    cases h
    exact z_vret rfl rfl rfl dX7_align_91
  · replace h := o_in hc12 h
    refine z_aload_n dX7_align_76 0 rfl ?_
    refine z_iconst (v := 2) dX7_align_77 (by decide) ?_
    obtain ⟨s18, e19, h⟩ := o_bdv h
    refine z_callVv (As := [.int _]) (e_X7_repair e19) (by decide) mi_X7_repair ml_X7_165 rfl rfl (Nat.le_of_ble_eq_true rfl) rv_6 dX7_align_78 ?_
    refine z_aload_n dX7_align_81 0 rfl ?_
    refine zg_X7_items fl_X7_62 dX7_align_82 ?_
    refine z_aload_n dX7_align_85 0 rfl ?_
    obtain ⟨x22, s20, e21, h⟩ := o_bdi h
    refine z_callVi (As := []) (e_X7_top e21) (by decide) mi_X7_top ml_X7_128 rfl rfl (Nat.le_of_ble_eq_true rfl) rv_6 dX7_align_86 ?_
    refine z_iconst (v := (-1)) dX7_align_89 (by decide) ?_
    obtain ⟨g23, h⟩ := o_gd h
    replace h := o_dd h
    refine zs_items g23 dX7_align_90 ?_
    cases h
    exact z_vret rfl rfl rfl dX7_align_91
set_option maxRecDepth 10000 in
theorem s_X7_align_b40 {G : o_G} {N : Nat} {σ' : o_S} {l1 : Int32} {s : o_S} (h : f_X7_align_b40 N l1 s = some σ') : o_Z (o_up G) RX7 cX7_align (Option.none : Option Jvm.ClassFile.FieldType) 3 1 (o_E (o_up G) (none) σ') (o_k σ') s 40 [(0, .ref (g_ad G 6)), (1, .int l1)] [] := by
  unfold f_X7_align_b40 at h
  refine z_aload_n dX7_align_40 0 rfl ?_
  refine zg_X7_openColumns fl_X7_59 dX7_align_41 ?_
  refine z_aload_n dX7_align_44 0 rfl ?_
  obtain ⟨x7, s5, e6, h⟩ := o_bdi h
  refine z_callVi (As := []) (e_X7_top e6) (by decide) mi_X7_top ml_X7_128 rfl rfl (Nat.le_of_ble_eq_true rfl) rv_6 dX7_align_45 ?_
  obtain ⟨g8, h⟩ := o_gd h
  replace h := o_dd h
  refine za_openColumns g8 dX7_align_48 ?_
  refine z_istore_n (L' := [(2, .int _), (0, .ref _), (1, .int _)]) dX7_align_49 (by decide) rfl ?_
  refine z_iload_n dX7_align_50 0 rfl ?_
  refine z_iconst (v := (-1)) dX7_align_51 (by decide) ?_
  refine z_icmp_eq (tgt := 67) dX7_align_52 (by decide) (fun hc10 => ?_) (fun hc10 => ?_)
  · replace h := o_ip hc10 h
    cases h
    exact z_vret rfl rfl rfl dX7_align_67
  · replace h := o_in hc10 h
    refine z_iload_n dX7_align_55 0 rfl ?_
    refine z_aload_n dX7_align_56 1 rfl ?_
    refine zg_X7_column fl_X7_122 dX7_align_57 ?_
    refine z_icmp_ge (tgt := 68) dX7_align_60 (by decide) (fun hc11 => ?_) (fun hc11 => ?_)
    · replace h := o_ip hc11 h
      exact o_Z.sub [1, 0] rfl (s_X7_align_b68 h)
    · replace h := o_in hc11 h
      refine z_iload_n dX7_align_63 2 rfl ?_
      refine z_if_ne (tgt := 68) dX7_align_64 (by decide) (fun hc25 => ?_) (fun hc25 => ?_)
      · replace h := o_in hc25 h
        exact o_Z.sub [1, 0] rfl (s_X7_align_b68 h)
      · replace h := o_ip hc25 h
        cases h
        exact z_vret rfl rfl rfl dX7_align_67
set_option maxRecDepth 10000 in
theorem s_X7_align_L2 {G : o_G} {N : Nat} {σ' : o_S} : ∀ (n : Nat) (l1 : Int32) (s : o_S), f_X7_align_L2 N n l1 s = some σ' → o_Z (o_up G) RX7 cX7_align (Option.none : Option Jvm.ClassFile.FieldType) 3 1 (o_E (o_up G) (none) σ') (o_k σ') s 2 [(0, .ref (g_ad G 6)), (1, .int l1)] [] := by
  intro n
  induction n with
  | zero => intro l1 s h; cases h
  | succ n ih =>
    intro l1 s h
    rw [f_X7_align_L2] at h
    refine z_aload_n dX7_align_2 0 rfl ?_
    obtain ⟨x3, s1, e2, h⟩ := o_bdi h
    refine z_callVi (As := []) (e_X7_top e2) (by decide) mi_X7_top ml_X7_128 rfl rfl (Nat.le_of_ble_eq_true rfl) rv_6 dX7_align_3 ?_
    refine z_if_le (tgt := 40) dX7_align_6 (by decide) (fun hc4 => ?_) (fun hc4 => ?_)
    · replace h := o_ip hc4 h
      exact o_Z.sub [0, 1] rfl (s_X7_align_b40 h)
    · replace h := o_in hc4 h
      refine z_aload_n dX7_align_9 0 rfl ?_
      refine zg_X7_openColumns fl_X7_59 dX7_align_10 ?_
      refine z_aload_n dX7_align_13 0 rfl ?_
      obtain ⟨x28, s26, e27, h⟩ := o_bdi h
      refine z_callVi (As := []) (e_X7_top e27) (by decide) mi_X7_top ml_X7_128 rfl rfl (Nat.le_of_ble_eq_true rfl) rv_6 dX7_align_14 ?_
      obtain ⟨g29, h⟩ := o_gd h
      replace h := o_dd h
      refine za_openColumns g29 dX7_align_17 ?_
      refine z_aload_n dX7_align_18 0 rfl ?_
      refine zg_X7_column fl_X7_122 dX7_align_19 ?_
      refine z_icmp_le (tgt := 40) dX7_align_22 (by decide) (fun hc31 => ?_) (fun hc31 => ?_)
      · replace h := o_ip hc31 h
        exact o_Z.sub [0, 1] rfl (s_X7_align_b40 h)
      · replace h := o_in hc31 h
        refine z_aload_n dX7_align_25 0 rfl ?_
        refine z_dup dX7_align_26 rfl ?_
        refine zg_X7_open fl_X7_125 dX7_align_27 ?_
        refine z_iconst (v := 1) dX7_align_30 (by decide) ?_
        refine z_isub dX7_align_31 ?_
        replace h := o_dd h
        refine zp_X7_open fl_X7_125 dX7_align_32 ?_
        refine z_iconst (v := 1) dX7_align_35 (by decide) ?_
        refine z_istore_n (L' := [(1, .int _), (0, .ref _)]) dX7_align_36 (by decide) rfl ?_
        refine z_goto (tgt := 2) dX7_align_37 (by decide) ?_
        exact o_Z.sub [1, 0] rfl (ih _ _ h)
set_option maxRecDepth 10000 in
theorem s_X7_align {G : o_G} {N : Nat} {σ' : o_S} {s : o_S} (h : f_X7_align N  s = some σ') : o_Z (o_up G) RX7 cX7_align (Option.none : Option Jvm.ClassFile.FieldType) 3 1 (o_E (o_up G) (none) σ') (o_k σ') s 0 [(0, .ref (g_ad G 6))] [] := by
  unfold f_X7_align at h
  refine z_iconst (v := 0) dX7_align_0 (by decide) ?_
  refine z_istore_n (L' := [(1, .int _), (0, .ref _)]) dX7_align_1 (by decide) rfl ?_
  exact o_Z.sub [1, 0] rfl (s_X7_align_L2 _ _ _ h)
theorem e_X7_align {G : o_G} {N : Nat} {σ' : o_S} {s : o_S} (h : f_X7_align N  s = some σ') : o_Ev (o_up G) yX7_align cX7_align 3 (Option.none : Option Jvm.ClassFile.FieldType) 1 [.ref (g_ad G 6)] s (none) σ' := o_Ev.mk rfl (Nat.le_of_ble_eq_true rfl) (s_X7_align h)
-- X7_addToItem
set_option maxRecDepth 10000 in
theorem s_X7_addToItem_b24 {G : o_G} {N : Nat} {σ' : o_S} {s : o_S} (h : f_X7_addToItem_b24 N  s = some σ') : o_Z (o_up G) RX7 cX7_addToItem (Option.none : Option Jvm.ClassFile.FieldType) 1 4 (o_E (o_up G) (none) σ') (o_k σ') s 24 [(0, .ref (g_ad G 6))] [] := by
  unfold f_X7_addToItem_b24 at h
  refine z_aload_n dX7_addToItem_24 0 rfl ?_
  refine zg_X7_items fl_X7_62 dX7_addToItem_25 ?_
  refine z_aload_n dX7_addToItem_28 0 rfl ?_
  obtain ⟨x4, s2, e3, h⟩ := o_bdi h
  refine z_callVi (As := []) (e_X7_top e3) (by decide) mi_X7_top ml_X7_128 rfl rfl (Nat.le_of_ble_eq_true rfl) rv_6 dX7_addToItem_29 ?_
  obtain ⟨g5, h⟩ := o_gd h
  replace h := o_dd h
  refine za_items g5 dX7_addToItem_32 ?_
  refine z_iconst (v := (-1)) dX7_addToItem_33 (by decide) ?_
  refine z_icmp_ne (tgt := 69) dX7_addToItem_34 (by decide) (fun hc7 => ?_) (fun hc7 => ?_)
  · replace h := o_in hc7 h
    refine z_aload_n dX7_addToItem_69 0 rfl ?_
    refine z_aload_n dX7_addToItem_70 0 rfl ?_
    refine zg_X7_items fl_X7_62 dX7_addToItem_71 ?_
    refine z_aload_n dX7_addToItem_74 0 rfl ?_
    obtain ⟨x10, s8, e9, h⟩ := o_bdi h
    refine z_callVi (As := []) (e_X7_top e9) (by decide) mi_X7_top ml_X7_128 rfl rfl (Nat.le_of_ble_eq_true rfl) rv_6 dX7_addToItem_75 ?_
    obtain ⟨g11, h⟩ := o_gd h
    replace h := o_dd h
    refine za_items g11 dX7_addToItem_78 ?_
    obtain ⟨s13, e14, h⟩ := o_bdv h
    refine z_callVv (As := [.int _]) (e_X7_addPart e14) (by decide) mi_X7_addPart ml_X7_176 rfl rfl (Nat.le_of_ble_eq_true rfl) rv_6 dX7_addToItem_79 ?_
    cases h
    exact z_vret rfl rfl rfl dX7_addToItem_82
  · replace h := o_ip hc7 h
    refine z_aload_n dX7_addToItem_37 0 rfl ?_
    refine zg_X7_items fl_X7_62 dX7_addToItem_38 ?_
    refine z_aload_n dX7_addToItem_41 0 rfl ?_
    obtain ⟨x17, s15, e16, h⟩ := o_bdi h
    refine z_callVi (As := []) (e_X7_top e16) (by decide) mi_X7_top ml_X7_128 rfl rfl (Nat.le_of_ble_eq_true rfl) rv_6 dX7_addToItem_42 ?_
    refine z_aload_n dX7_addToItem_45 0 rfl ?_
    refine z_iconst (v := 1) dX7_addToItem_46 (by decide) ?_
    refine z_aload_n dX7_addToItem_47 0 rfl ?_
    refine zg_X7_openIds fl_X7_56 dX7_addToItem_48 ?_
    refine z_aload_n dX7_addToItem_51 0 rfl ?_
    obtain ⟨x20, s18, e19, h⟩ := o_bdi h
    refine z_callVi (As := []) (e_X7_top e19) (by decide) mi_X7_top ml_X7_128 rfl rfl (Nat.le_of_ble_eq_true rfl) rv_6 dX7_addToItem_52 ?_
    obtain ⟨g21, h⟩ := o_gd h
    replace h := o_dd h
    refine za_openIds g21 dX7_addToItem_55 ?_
    refine z_aload_n dX7_addToItem_56 0 rfl ?_
    refine zg_X7_line fl_X7_119 dX7_addToItem_57 ?_
    refine z_aload_n dX7_addToItem_60 0 rfl ?_
    refine zg_X7_column fl_X7_122 dX7_addToItem_61 ?_
    refine z_iconst (v := 0) dX7_addToItem_64 (by decide) ?_
    obtain ⟨x25, s23, e24, h⟩ := o_bdi h
    refine z_callVi (As := [.int _, .int _, .int _, .int _, .int _]) (e_X7_add e24) (by decide) mi_X7_add ml_X7_98 rfl rfl (Nat.le_of_ble_eq_true rfl) rv_6 dX7_addToItem_65 ?_
    obtain ⟨g26, h⟩ := o_gd h
    replace h := o_dd h
    refine zs_items g26 dX7_addToItem_68 ?_
    refine z_aload_n dX7_addToItem_69 0 rfl ?_
    refine z_aload_n dX7_addToItem_70 0 rfl ?_
    refine zg_X7_items fl_X7_62 dX7_addToItem_71 ?_
    refine z_aload_n dX7_addToItem_74 0 rfl ?_
    obtain ⟨x30, s28, e29, h⟩ := o_bdi h
    refine z_callVi (As := []) (e_X7_top e29) (by decide) mi_X7_top ml_X7_128 rfl rfl (Nat.le_of_ble_eq_true rfl) rv_6 dX7_addToItem_75 ?_
    obtain ⟨g31, h⟩ := o_gd h
    replace h := o_dd h
    refine za_items g31 dX7_addToItem_78 ?_
    obtain ⟨s33, e34, h⟩ := o_bdv h
    refine z_callVv (As := [.int _]) (e_X7_addPart e34) (by decide) mi_X7_addPart ml_X7_176 rfl rfl (Nat.le_of_ble_eq_true rfl) rv_6 dX7_addToItem_79 ?_
    cases h
    exact z_vret rfl rfl rfl dX7_addToItem_82
set_option maxRecDepth 10000 in
theorem s_X7_addToItem {G : o_G} {N : Nat} {σ' : o_S} {s : o_S} (h : f_X7_addToItem N  s = some σ') : o_Z (o_up G) RX7 cX7_addToItem (Option.none : Option Jvm.ClassFile.FieldType) 1 4 (o_E (o_up G) (none) σ') (o_k σ') s 0 [(0, .ref (g_ad G 6))] [] := by
  unfold f_X7_addToItem at h
  refine z_aload_n dX7_addToItem_0 0 rfl ?_
  refine zg_X7_token fl_X7_150 dX7_addToItem_1 ?_
  refine z_bipush (v := 40) dX7_addToItem_4 (by decide) ?_
  refine z_icmp_ne (tgt := 24) dX7_addToItem_6 (by decide) (fun hc1 => ?_) (fun hc1 => ?_)
  · replace h := o_in hc1 h
    exact o_Z.sub [0] rfl (s_X7_addToItem_b24 h)
  · replace h := o_ip hc1 h
    refine z_aload_n dX7_addToItem_9 0 rfl ?_
    refine zg_X7_open fl_X7_125 dX7_addToItem_10 ?_
    refine z_bipush (v := 30) dX7_addToItem_13 (by decide) ?_
    refine z_icmp_le (tgt := 24) dX7_addToItem_15 (by decide) (fun hc35 => ?_) (fun hc35 => ?_)
    · replace h := o_ip hc35 h
      exact o_Z.sub [0] rfl (s_X7_addToItem_b24 h)
    · replace h := o_in hc35 h
      refine z_aload_n dX7_addToItem_18 0 rfl ?_
      refine z_iconst (v := 5) dX7_addToItem_19 (by decide) ?_
      obtain ⟨s36, e37, h⟩ := o_bdv h
      refine z_callVv (As := [.int _]) (e_X7_repair e37) (by decide) mi_X7_repair ml_X7_165 rfl rfl (Nat.le_of_ble_eq_true rfl) rv_6 dX7_addToItem_20 ?_
      cases h
      exact z_vret rfl rfl rfl dX7_addToItem_23
theorem e_X7_addToItem {G : o_G} {N : Nat} {σ' : o_S} {s : o_S} (h : f_X7_addToItem N  s = some σ') : o_Ev (o_up G) yX7_addToItem cX7_addToItem 1 (Option.none : Option Jvm.ClassFile.FieldType) 4 [.ref (g_ad G 6)] s (none) σ' := o_Ev.mk rfl (Nat.le_of_ble_eq_true rfl) (s_X7_addToItem h)
-- X7_close
set_option maxRecDepth 10000 in
theorem s_X7_close_b25 {G : o_G} {N : Nat} {σ' : o_S} {l1 : Int32} {s : o_S} (h : f_X7_close_b25 N l1 s = some σ') : o_Z (o_up G) RX7 cX7_close (Option.none : Option Jvm.ClassFile.FieldType) 2 1 (o_E (o_up G) (none) σ') (o_k σ') s 25 [(0, .ref (g_ad G 6)), (1, .int l1)] [] := by
  unfold f_X7_close_b25 at h
  refine z_iload_n dX7_close_25 1 rfl ?_
  refine z_if_ne (tgt := 37) dX7_close_26 (by decide) (fun hc5 => ?_) (fun hc5 => ?_)
  · replace h := o_in hc5 h
    refine z_aload_n dX7_close_37 0 rfl ?_
    refine z_iload_n dX7_close_38 1 rfl ?_
    replace h := o_dd h
    refine zp_X7_open fl_X7_125 dX7_close_39 ?_
    cases h
    exact z_vret rfl rfl rfl dX7_close_42
  · replace h := o_ip hc5 h
    refine z_aload_n dX7_close_29 0 rfl ?_
    refine z_iconst (v := 4) dX7_close_30 (by decide) ?_
    obtain ⟨s7, e8, h⟩ := o_bdv h
    refine z_callVv (As := [.int _]) (e_X7_repair e8) (by decide) mi_X7_repair ml_X7_165 rfl rfl (Nat.le_of_ble_eq_true rfl) rv_6 dX7_close_31 ?_
    refine z_goto (tgt := 42) dX7_close_34 (by decide) ?_
    cases h
    exact z_vret rfl rfl rfl dX7_close_42
set_option maxRecDepth 10000 in
theorem s_X7_close_L5 {G : o_G} {N : Nat} {σ' : o_S} : ∀ (n : Nat) (l1 : Int32) (s : o_S), f_X7_close_L5 N n l1 s = some σ' → o_Z (o_up G) RX7 cX7_close (Option.none : Option Jvm.ClassFile.FieldType) 2 1 (o_E (o_up G) (none) σ') (o_k σ') s 5 [(0, .ref (g_ad G 6)), (1, .int l1)] [] := by
  intro n
  induction n with
  | zero => intro l1 s h; cases h
  | succ n ih =>
    intro l1 s h
    rw [f_X7_close_L5] at h
    refine z_iload_n dX7_close_5 1 rfl ?_
    refine z_if_le (tgt := 25) dX7_close_6 (by decide) (fun hc4 => ?_) (fun hc4 => ?_)
    · replace h := o_ip hc4 h
      exact o_Z.sub [0, 1] rfl (s_X7_close_b25 h)
    · replace h := o_in hc4 h
      refine z_aload_n dX7_close_9 0 rfl ?_
      refine zg_X7_openColumns fl_X7_59 dX7_close_10 ?_
      refine z_iload_n dX7_close_13 1 rfl ?_
      obtain ⟨g9, h⟩ := o_gd h
      replace h := o_dd h
      refine za_openColumns g9 dX7_close_14 ?_
      refine z_iconst (v := (-1)) dX7_close_15 (by decide) ?_
      refine z_icmp_eq (tgt := 25) dX7_close_16 (by decide) (fun hc11 => ?_) (fun hc11 => ?_)
      · replace h := o_ip hc11 h
        exact o_Z.sub [0, 1] rfl (s_X7_close_b25 h)
      · replace h := o_in hc11 h
        refine z_iinc (v := _ + (-1)) (L' := [(1, .int _), (0, .ref _)]) dX7_close_19 1 rfl rfl (by decide) rfl ?_
        refine z_goto (tgt := 5) dX7_close_22 (by decide) ?_
        exact o_Z.sub [1, 0] rfl (ih _ _ h)
set_option maxRecDepth 10000 in
theorem s_X7_close {G : o_G} {N : Nat} {σ' : o_S} {s : o_S} (h : f_X7_close N  s = some σ') : o_Z (o_up G) RX7 cX7_close (Option.none : Option Jvm.ClassFile.FieldType) 2 1 (o_E (o_up G) (none) σ') (o_k σ') s 0 [(0, .ref (g_ad G 6))] [] := by
  unfold f_X7_close at h
  refine z_aload_n dX7_close_0 0 rfl ?_
  obtain ⟨x3, s1, e2, h⟩ := o_bdi h
  refine z_callVi (As := []) (e_X7_top e2) (by decide) mi_X7_top ml_X7_128 rfl rfl (Nat.le_of_ble_eq_true rfl) rv_6 dX7_close_1 ?_
  refine z_istore_n (L' := [(1, .int _), (0, .ref _)]) dX7_close_4 (by decide) rfl ?_
  exact o_Z.sub [1, 0] rfl (s_X7_close_L5 _ _ _ h)
theorem e_X7_close {G : o_G} {N : Nat} {σ' : o_S} {s : o_S} (h : f_X7_close N  s = some σ') : o_Ev (o_up G) yX7_close cX7_close 2 (Option.none : Option Jvm.ClassFile.FieldType) 1 [.ref (g_ad G 6)] s (none) σ' := o_Ev.mk rfl (Nat.le_of_ble_eq_true rfl) (s_X7_close h)
-- X7_act
set_option maxRecDepth 10000 in
theorem s_X7_act {G : o_G} {N : Nat} {σ' : o_S} {s : o_S} (h : f_X7_act N  s = some σ') : o_Z (o_up G) RX7 cX7_act (Option.none : Option Jvm.ClassFile.FieldType) 1 5 (o_E (o_up G) (none) σ') (o_k σ') s 0 [(0, .ref (g_ad G 6))] [] := by
  unfold f_X7_act at h
  refine z_aload_n dX7_act_0 0 rfl ?_
  obtain ⟨x3, s1, e2, h⟩ := o_bdi h
  refine z_callVi (As := []) (e_X7_isPart e2) (by decide) mi_X7_isPart ml_X7_173 rfl rfl (Nat.le_of_ble_eq_true rfl) rv_6 dX7_act_1 ?_
  refine z_if_eq (tgt := 14) dX7_act_4 (by decide) (fun hc4 => ?_) (fun hc4 => ?_)
  · replace h := o_ip hc4 h
    refine z_aload_n dX7_act_14 0 rfl ?_
    refine zg_X7_token fl_X7_150 dX7_act_15 ?_
    refine z_bipush (v := 59) dX7_act_18 (by decide) ?_
    refine z_icmp_ne (tgt := 36) dX7_act_20 (by decide) (fun hc5 => ?_) (fun hc5 => ?_)
    · replace h := o_in hc5 h
      refine z_aload_n dX7_act_36 0 rfl ?_
      refine zg_X7_token fl_X7_150 dX7_act_37 ?_
      refine z_bipush (v := 58) dX7_act_40 (by decide) ?_
      refine z_icmp_ne (tgt := 91) dX7_act_42 (by decide) (fun hc6 => ?_) (fun hc6 => ?_)
      · replace h := o_in hc6 h
        refine z_aload_n dX7_act_91 0 rfl ?_
        refine zg_X7_token fl_X7_150 dX7_act_92 ?_
        refine z_bipush (v := 123) dX7_act_95 (by decide) ?_
        refine z_icmp_ne (tgt := 108) dX7_act_97 (by decide) (fun hc7 => ?_) (fun hc7 => ?_)
        · replace h := o_in hc7 h
          refine z_aload_n dX7_act_108 0 rfl ?_
          refine zg_X7_token fl_X7_150 dX7_act_109 ?_
          refine z_bipush (v := 41) dX7_act_112 (by decide) ?_
          refine z_icmp_ne (tgt := 125) dX7_act_114 (by decide) (fun hc8 => ?_) (fun hc8 => ?_)
          · replace h := o_in hc8 h
            refine z_aload_n dX7_act_125 0 rfl ?_
            obtain ⟨s9, e10, h⟩ := o_bdv h
            refine z_callVv (As := []) (e_X7_close e10) (by decide) mi_X7_close ml_X7_188 rfl rfl (Nat.le_of_ble_eq_true rfl) rv_6 dX7_act_126 ?_
            cases h
            exact z_vret rfl rfl rfl dX7_act_129
          · replace h := o_ip hc8 h
            refine z_aload_n dX7_act_117 0 rfl ?_
            refine z_iconst (v := 4) dX7_act_118 (by decide) ?_
            obtain ⟨s11, e12, h⟩ := o_bdv h
            refine z_callVv (As := [.int _]) (e_X7_repair e12) (by decide) mi_X7_repair ml_X7_165 rfl rfl (Nat.le_of_ble_eq_true rfl) rv_6 dX7_act_119 ?_
            refine z_goto (tgt := 129) dX7_act_122 (by decide) ?_
            cases h
            exact z_vret rfl rfl rfl dX7_act_129
        · replace h := o_ip hc7 h
          refine z_aload_n dX7_act_100 0 rfl ?_
          refine z_iconst (v := 3) dX7_act_101 (by decide) ?_
          obtain ⟨s13, e14, h⟩ := o_bdv h
          refine z_callVv (As := [.int _]) (e_X7_repair e14) (by decide) mi_X7_repair ml_X7_165 rfl rfl (Nat.le_of_ble_eq_true rfl) rv_6 dX7_act_102 ?_
          refine z_goto (tgt := 129) dX7_act_105 (by decide) ?_
          cases h
          exact z_vret rfl rfl rfl dX7_act_129
      · replace h := o_ip hc6 h
        refine z_aload_n dX7_act_45 0 rfl ?_
        refine zg_X7_items fl_X7_62 dX7_act_46 ?_
        refine z_aload_n dX7_act_49 0 rfl ?_
        obtain ⟨x17, s15, e16, h⟩ := o_bdi h
        refine z_callVi (As := []) (e_X7_top e16) (by decide) mi_X7_top ml_X7_128 rfl rfl (Nat.le_of_ble_eq_true rfl) rv_6 dX7_act_50 ?_
        obtain ⟨g18, h⟩ := o_gd h
        replace h := o_dd h
        refine za_items g18 dX7_act_53 ?_
        refine z_iconst (v := (-1)) dX7_act_54 (by decide) ?_
        refine z_icmp_ne (tgt := 66) dX7_act_55 (by decide) (fun hc20 => ?_) (fun hc20 => ?_)
        · replace h := o_in hc20 h
          refine z_aload_n dX7_act_66 0 rfl ?_
          refine zg_X7_open fl_X7_125 dX7_act_67 ?_
          refine z_bipush (v := 30) dX7_act_70 (by decide) ?_
          refine z_icmp_le (tgt := 83) dX7_act_72 (by decide) (fun hc21 => ?_) (fun hc21 => ?_)
          · replace h := o_ip hc21 h
            refine z_aload_n dX7_act_83 0 rfl ?_
            refine z_iconst (v := 1) dX7_act_84 (by decide) ?_
            replace h := o_dd h
            refine zp_X7_hasColon (by decide) fl_X7_136 dX7_act_85 ?_
            refine z_goto (tgt := 129) dX7_act_88 (by decide) ?_
            cases h
            exact z_vret rfl rfl rfl dX7_act_129
          · replace h := o_in hc21 h
            refine z_aload_n dX7_act_75 0 rfl ?_
            refine z_iconst (v := 5) dX7_act_76 (by decide) ?_
            obtain ⟨s23, e24, h⟩ := o_bdv h
            refine z_callVv (As := [.int _]) (e_X7_repair e24) (by decide) mi_X7_repair ml_X7_165 rfl rfl (Nat.le_of_ble_eq_true rfl) rv_6 dX7_act_77 ?_
            refine z_goto (tgt := 129) dX7_act_80 (by decide) ?_
            cases h
            exact z_vret rfl rfl rfl dX7_act_129
        · replace h := o_ip hc20 h
          refine z_aload_n dX7_act_58 0 rfl ?_
          refine z_iconst (v := 3) dX7_act_59 (by decide) ?_
          obtain ⟨s25, e26, h⟩ := o_bdv h
          refine z_callVv (As := [.int _]) (e_X7_repair e26) (by decide) mi_X7_repair ml_X7_165 rfl rfl (Nat.le_of_ble_eq_true rfl) rv_6 dX7_act_60 ?_
          refine z_goto (tgt := 129) dX7_act_63 (by decide) ?_
          cases h
          exact z_vret rfl rfl rfl dX7_act_129
    · replace h := o_ip hc5 h
      refine z_aload_n dX7_act_23 0 rfl ?_
      refine zg_X7_items fl_X7_62 dX7_act_24 ?_
      refine z_aload_n dX7_act_27 0 rfl ?_
      obtain ⟨x29, s27, e28, h⟩ := o_bdi h
      refine z_callVi (As := []) (e_X7_top e28) (by decide) mi_X7_top ml_X7_128 rfl rfl (Nat.le_of_ble_eq_true rfl) rv_6 dX7_act_28 ?_
      refine z_iconst (v := (-1)) dX7_act_31 (by decide) ?_
      obtain ⟨g30, h⟩ := o_gd h
      replace h := o_dd h
      refine zs_items g30 dX7_act_32 ?_
      refine z_goto (tgt := 129) dX7_act_33 (by decide) ?_
      cases h
      exact z_vret rfl rfl rfl dX7_act_129
  · replace h := o_in hc4 h
    refine z_aload_n dX7_act_7 0 rfl ?_
    obtain ⟨s32, e33, h⟩ := o_bdv h
    refine z_callVv (As := []) (e_X7_addToItem e33) (by decide) mi_X7_addToItem ml_X7_185 rfl rfl (Nat.le_of_ble_eq_true rfl) rv_6 dX7_act_8 ?_
    refine z_goto (tgt := 129) dX7_act_11 (by decide) ?_
    cases h
    exact z_vret rfl rfl rfl dX7_act_129
theorem e_X7_act {G : o_G} {N : Nat} {σ' : o_S} {s : o_S} (h : f_X7_act N  s = some σ') : o_Ev (o_up G) yX7_act cX7_act 1 (Option.none : Option Jvm.ClassFile.FieldType) 5 [.ref (g_ad G 6)] s (none) σ' := o_Ev.mk rfl (Nat.le_of_ble_eq_true rfl) (s_X7_act h)
-- X7_accept
set_option maxRecDepth 10000 in
theorem s_X7_accept_b209 {G : o_G} {N : Nat} {σ' : o_S} {l2 : Int32} {s : o_S} (h : f_X7_accept_b209 N l2 s = some σ') : o_Z (o_up G) RX7 cX7_accept (Option.none : Option Jvm.ClassFile.FieldType) 3 6 (o_E (o_up G) (none) σ') (o_k σ') s 209 [(0, .ref (g_ad G 6)), (2, .int l2)] [] := by
  unfold f_X7_accept_b209 at h
  refine z_iload_n dX7_accept_209 1 rfl ?_
  refine z_if_ne (tgt := 237) dX7_accept_210 (by decide) (fun hc10 => ?_) (fun hc10 => ?_)
  · replace h := o_in hc10 h
    refine z_aload_n dX7_accept_237 0 rfl ?_
    obtain ⟨s11, e12, h⟩ := o_bdv h
    refine z_callVv (As := []) (e_X7_act e12) (by decide) mi_X7_act ml_X7_182 rfl rfl (Nat.le_of_ble_eq_true rfl) rv_6 dX7_accept_238 ?_
    cases h
    exact z_vret rfl rfl rfl dX7_accept_241
  · replace h := o_ip hc10 h
    refine z_aload_n dX7_accept_213 0 rfl ?_
    refine zg_X7_isFirst fl_X7_159 dX7_accept_214 ?_
    refine z_if_eq (tgt := 237) dX7_accept_217 (by decide) (fun hc13 => ?_) (fun hc13 => ?_)
    · replace h := o_ip hc13 h
      refine z_aload_n dX7_accept_237 0 rfl ?_
      obtain ⟨s14, e15, h⟩ := o_bdv h
      refine z_callVv (As := []) (e_X7_act e15) (by decide) mi_X7_act ml_X7_182 rfl rfl (Nat.le_of_ble_eq_true rfl) rv_6 dX7_accept_238 ?_
      cases h
      exact z_vret rfl rfl rfl dX7_accept_241
    · replace h := o_in hc13 h
      refine z_aload_n dX7_accept_220 0 rfl ?_
      refine zg_X7_openColumns fl_X7_59 dX7_accept_221 ?_
      refine z_aload_n dX7_accept_224 0 rfl ?_
      obtain ⟨x18, s16, e17, h⟩ := o_bdi h
      refine z_callVi (As := []) (e_X7_top e17) (by decide) mi_X7_top ml_X7_128 rfl rfl (Nat.le_of_ble_eq_true rfl) rv_6 dX7_accept_225 ?_
      obtain ⟨g19, h⟩ := o_gd h
      replace h := o_dd h
      refine za_openColumns g19 dX7_accept_228 ?_
      refine z_iconst (v := (-1)) dX7_accept_229 (by decide) ?_
      refine z_icmp_eq (tgt := 237) dX7_accept_230 (by decide) (fun hc21 => ?_) (fun hc21 => ?_)
      · replace h := o_ip hc21 h
        refine z_aload_n dX7_accept_237 0 rfl ?_
        obtain ⟨s22, e23, h⟩ := o_bdv h
        refine z_callVv (As := []) (e_X7_act e23) (by decide) mi_X7_act ml_X7_182 rfl rfl (Nat.le_of_ble_eq_true rfl) rv_6 dX7_accept_238 ?_
        cases h
        exact z_vret rfl rfl rfl dX7_accept_241
      · replace h := o_in hc21 h
        refine z_aload_n dX7_accept_233 0 rfl ?_
        obtain ⟨s24, e25, h⟩ := o_bdv h
        refine z_callVv (As := []) (e_X7_align e25) (by decide) mi_X7_align ml_X7_179 rfl rfl (Nat.le_of_ble_eq_true rfl) rv_6 dX7_accept_234 ?_
        refine z_aload_n dX7_accept_237 0 rfl ?_
        obtain ⟨s26, e27, h⟩ := o_bdv h
        refine z_callVv (As := []) (e_X7_act e27) (by decide) mi_X7_act ml_X7_182 rfl rfl (Nat.le_of_ble_eq_true rfl) rv_6 dX7_accept_238 ?_
        cases h
        exact z_vret rfl rfl rfl dX7_accept_241
set_option maxRecDepth 10000 in
theorem s_X7_accept_b142 {G : o_G} {N : Nat} {σ' : o_S} {l1 : Int32} {y0 : Int32} {s : o_S} (h : f_X7_accept_b142 N l1 y0 s = some σ') : o_Z (o_up G) RX7 cX7_accept (Option.none : Option Jvm.ClassFile.FieldType) 3 6 (o_E (o_up G) (none) σ') (o_k σ') s 142 [(0, .ref (g_ad G 6)), (1, .int l1)] [.int y0] := by
  unfold f_X7_accept_b142 at h
  refine z_istore_n (L' := [(2, .int _), (0, .ref _), (1, .int _)]) dX7_accept_142 (by decide) rfl ?_
  refine z_iload_n dX7_accept_143 0 rfl ?_
  refine z_if_eq (tgt := 181) dX7_accept_144 (by decide) (fun hc8 => ?_) (fun hc8 => ?_)
  · replace h := o_ip hc8 h
    refine z_iload_n dX7_accept_181 2 rfl ?_
    refine z_if_eq (tgt := 209) dX7_accept_182 (by decide) (fun hc9 => ?_) (fun hc9 => ?_)
    · replace h := o_ip hc9 h
      exact o_Z.sub [1, 0] rfl (s_X7_accept_b209 h)
    · replace h := o_in hc9 h
      refine z_aload_n dX7_accept_185 1 rfl ?_
      refine z_iconst (v := 0) dX7_accept_186 (by decide) ?_
      refine z_aload_n dX7_accept_187 1 rfl ?_
      refine zg_X7_items fl_X7_62 dX7_accept_188 ?_
      refine z_aload_n dX7_accept_191 1 rfl ?_
      obtain ⟨x30, s28, e29, h⟩ := o_bdi h
      refine z_callVi (As := []) (e_X7_top e29) (by decide) mi_X7_top ml_X7_128 rfl rfl (Nat.le_of_ble_eq_true rfl) rv_6 dX7_accept_192 ?_
      obtain ⟨g31, h⟩ := o_gd h
      replace h := o_dd h
      refine za_items g31 dX7_accept_195 ?_
      refine z_aload_n dX7_accept_196 1 rfl ?_
      refine zg_X7_line fl_X7_119 dX7_accept_197 ?_
      refine z_aload_n dX7_accept_200 1 rfl ?_
      refine zg_X7_column fl_X7_122 dX7_accept_201 ?_
      refine z_iconst (v := 0) dX7_accept_204 (by decide) ?_
      obtain ⟨x35, s33, e34, h⟩ := o_bdi h
      refine z_callVi (As := [.int _, .int _, .int _, .int _, .int _]) (e_X7_add e34) (by decide) mi_X7_add ml_X7_98 rfl rfl (Nat.le_of_ble_eq_true rfl) rv_6 dX7_accept_205 ?_
      refine z_pop dX7_accept_208 rfl ?_
      exact o_Z.sub [1, 0] rfl (s_X7_accept_b209 h)
  · replace h := o_in hc8 h
    refine z_aload_n dX7_accept_147 1 rfl ?_
    refine z_aload_n dX7_accept_148 1 rfl ?_
    refine z_iconst (v := 0) dX7_accept_149 (by decide) ?_
    refine z_aload_n dX7_accept_150 1 rfl ?_
    refine zg_X7_items fl_X7_62 dX7_accept_151 ?_
    refine z_aload_n dX7_accept_154 1 rfl ?_
    obtain ⟨x38, s36, e37, h⟩ := o_bdi h
    refine z_callVi (As := []) (e_X7_top e37) (by decide) mi_X7_top ml_X7_128 rfl rfl (Nat.le_of_ble_eq_true rfl) rv_6 dX7_accept_155 ?_
    obtain ⟨g39, h⟩ := o_gd h
    replace h := o_dd h
    refine za_items g39 dX7_accept_158 ?_
    refine z_aload_n dX7_accept_159 1 rfl ?_
    refine zg_X7_line fl_X7_119 dX7_accept_160 ?_
    refine z_aload_n dX7_accept_163 1 rfl ?_
    refine zg_X7_column fl_X7_122 dX7_accept_164 ?_
    refine z_iconst (v := 0) dX7_accept_167 (by decide) ?_
    obtain ⟨x43, s41, e42, h⟩ := o_bdi h
    refine z_callVi (As := [.int _, .int _, .int _, .int _, .int _]) (e_X7_add e42) (by decide) mi_X7_add ml_X7_98 rfl rfl (Nat.le_of_ble_eq_true rfl) rv_6 dX7_accept_168 ?_
    refine z_aload_n dX7_accept_171 1 rfl ?_
    refine zg_X7_column fl_X7_122 dX7_accept_172 ?_
    obtain ⟨s44, e45, h⟩ := o_bdv h
    refine z_callVv (As := [.int _, .int _]) (e_X7_push e45) (by decide) mi_X7_push ml_X7_132 rfl rfl (Nat.le_of_ble_eq_true rfl) rv_6 dX7_accept_175 ?_
    refine z_goto (tgt := 209) dX7_accept_178 (by decide) ?_
    exact o_Z.sub [1, 0] rfl (s_X7_accept_b209 h)
set_option maxRecDepth 10000 in
theorem s_X7_accept_b110 {G : o_G} {N : Nat} {σ' : o_S} {l1 : Int32} {s : o_S} (h : f_X7_accept_b110 N l1 s = some σ') : o_Z (o_up G) RX7 cX7_accept (Option.none : Option Jvm.ClassFile.FieldType) 3 6 (o_E (o_up G) (none) σ') (o_k σ') s 110 [(0, .ref (g_ad G 6)), (1, .int l1)] [] := by
  unfold f_X7_accept_b110 at h
  refine z_iload_n dX7_accept_110 1 rfl ?_
  refine z_if_eq (tgt := 141) dX7_accept_111 (by decide) (fun hc7 => ?_) (fun hc7 => ?_)
  · replace h := o_ip hc7 h
    refine z_iconst (v := 0) dX7_accept_141 (by decide) ?_
    exact o_Z.sub [0, 1] rfl (s_X7_accept_b142 h)
  · replace h := o_in hc7 h
    refine z_aload_n dX7_accept_114 0 rfl ?_
    obtain ⟨x48, s46, e47, h⟩ := o_bdi h
    refine z_callVi (As := []) (e_X7_isPart e47) (by decide) mi_X7_isPart ml_X7_173 rfl rfl (Nat.le_of_ble_eq_true rfl) rv_6 dX7_accept_115 ?_
    refine z_if_eq (tgt := 141) dX7_accept_118 (by decide) (fun hc49 => ?_) (fun hc49 => ?_)
    · replace h := o_ip hc49 h
      refine z_iconst (v := 0) dX7_accept_141 (by decide) ?_
      exact o_Z.sub [0, 1] rfl (s_X7_accept_b142 h)
    · replace h := o_in hc49 h
      refine z_aload_n dX7_accept_121 0 rfl ?_
      refine zg_X7_openColumns fl_X7_59 dX7_accept_122 ?_
      refine z_aload_n dX7_accept_125 0 rfl ?_
      obtain ⟨x52, s50, e51, h⟩ := o_bdi h
      refine z_callVi (As := []) (e_X7_top e51) (by decide) mi_X7_top ml_X7_128 rfl rfl (Nat.le_of_ble_eq_true rfl) rv_6 dX7_accept_126 ?_
      obtain ⟨g53, h⟩ := o_gd h
      replace h := o_dd h
      refine za_openColumns g53 dX7_accept_129 ?_
      refine z_aload_n dX7_accept_130 0 rfl ?_
      refine zg_X7_column fl_X7_122 dX7_accept_131 ?_
      refine z_icmp_ge (tgt := 141) dX7_accept_134 (by decide) (fun hc55 => ?_) (fun hc55 => ?_)
      · replace h := o_ip hc55 h
        refine z_iconst (v := 0) dX7_accept_141 (by decide) ?_
        exact o_Z.sub [0, 1] rfl (s_X7_accept_b142 h)
      · replace h := o_in hc55 h
        refine z_iconst (v := 1) dX7_accept_137 (by decide) ?_
        refine z_goto (tgt := 142) dX7_accept_138 (by decide) ?_
        exact o_Z.sub [0, 1] rfl (s_X7_accept_b142 h)
set_option maxRecDepth 10000 in
theorem s_X7_accept {G : o_G} {N : Nat} {σ' : o_S} {s : o_S} (h : f_X7_accept N  s = some σ') : o_Z (o_up G) RX7 cX7_accept (Option.none : Option Jvm.ClassFile.FieldType) 3 6 (o_E (o_up G) (none) σ') (o_k σ') s 0 [(0, .ref (g_ad G 6))] [] := by
  unfold f_X7_accept at h
  refine z_aload_n dX7_accept_0 0 rfl ?_
  refine zg_X7_hasColon fl_X7_136 dX7_accept_1 ?_
  refine z_istore_n (L' := [(1, .int _), (0, .ref _)]) dX7_accept_4 (by decide) rfl ?_
  refine z_aload_n dX7_accept_5 1 rfl ?_
  refine z_iconst (v := 0) dX7_accept_6 (by decide) ?_
  replace h := o_dd h
  refine zp_X7_hasColon (by decide) fl_X7_136 dX7_accept_7 ?_
  refine z_aload_n dX7_accept_10 1 rfl ?_
  obtain ⟨x4, s2, e3, h⟩ := o_bdi h
  refine z_callVi (As := []) (e_X7_isGroupOpen e3) (by decide) mi_X7_isGroupOpen ml_X7_169 rfl rfl (Nat.le_of_ble_eq_true rfl) rv_6 dX7_accept_11 ?_
  refine z_if_eq (tgt := 68) dX7_accept_14 (by decide) (fun hc5 => ?_) (fun hc5 => ?_)
  · replace h := o_ip hc5 h
    refine z_iload_n dX7_accept_68 0 rfl ?_
    refine z_if_eq (tgt := 110) dX7_accept_69 (by decide) (fun hc6 => ?_) (fun hc6 => ?_)
    · replace h := o_ip hc6 h
      exact o_Z.sub [1, 0] rfl (s_X7_accept_b110 h)
    · replace h := o_in hc6 h
      refine z_aload_n dX7_accept_72 1 rfl ?_
      refine zg_X7_token fl_X7_150 dX7_accept_73 ?_
      refine z_bipush (v := 123) dX7_accept_76 (by decide) ?_
      refine z_icmp_ne (tgt := 110) dX7_accept_78 (by decide) (fun hc56 => ?_) (fun hc56 => ?_)
      · replace h := o_in hc56 h
        exact o_Z.sub [1, 0] rfl (s_X7_accept_b110 h)
      · replace h := o_ip hc56 h
        refine z_aload_n dX7_accept_81 1 rfl ?_
        refine z_aload_n dX7_accept_82 1 rfl ?_
        refine z_iconst (v := 0) dX7_accept_83 (by decide) ?_
        refine z_aload_n dX7_accept_84 1 rfl ?_
        refine zg_X7_items fl_X7_62 dX7_accept_85 ?_
        refine z_aload_n dX7_accept_88 1 rfl ?_
        obtain ⟨x59, s57, e58, h⟩ := o_bdi h
        refine z_callVi (As := []) (e_X7_top e58) (by decide) mi_X7_top ml_X7_128 rfl rfl (Nat.le_of_ble_eq_true rfl) rv_6 dX7_accept_89 ?_
        obtain ⟨g60, h⟩ := o_gd h
        replace h := o_dd h
        refine za_items g60 dX7_accept_92 ?_
        refine z_aload_n dX7_accept_93 1 rfl ?_
        refine zg_X7_line fl_X7_119 dX7_accept_94 ?_
        refine z_aload_n dX7_accept_97 1 rfl ?_
        refine zg_X7_column fl_X7_122 dX7_accept_98 ?_
        refine z_iconst (v := 1) dX7_accept_101 (by decide) ?_
        obtain ⟨x64, s62, e63, h⟩ := o_bdi h
        refine z_callVi (As := [.int _, .int _, .int _, .int _, .int _]) (e_X7_add e63) (by decide) mi_X7_add ml_X7_98 rfl rfl (Nat.le_of_ble_eq_true rfl) rv_6 dX7_accept_102 ?_
        refine z_iconst (v := (-1)) dX7_accept_105 (by decide) ?_
        obtain ⟨s65, e66, h⟩ := o_bdv h
        refine z_callVv (As := [.int _, .int _]) (e_X7_push e66) (by decide) mi_X7_push ml_X7_132 rfl rfl (Nat.le_of_ble_eq_true rfl) rv_6 dX7_accept_106 ?_
        cases h
        exact z_vret rfl rfl rfl dX7_accept_109
  · replace h := o_in hc5 h
    refine z_aload_n dX7_accept_17 1 rfl ?_
    refine zg_X7_token fl_X7_150 dX7_accept_18 ?_
    refine z_bipush (v := 41) dX7_accept_21 (by decide) ?_
    refine z_icmp_ne (tgt := 39) dX7_accept_23 (by decide) (fun hc67 => ?_) (fun hc67 => ?_)
    · replace h := o_in hc67 h
      refine z_aload_n dX7_accept_39 1 rfl ?_
      obtain ⟨x70, s68, e69, h⟩ := o_bdi h
      refine z_callVi (As := []) (e_X7_isPart e69) (by decide) mi_X7_isPart ml_X7_173 rfl rfl (Nat.le_of_ble_eq_true rfl) rv_6 dX7_accept_40 ?_
      refine z_if_eq (tgt := 62) dX7_accept_43 (by decide) (fun hc71 => ?_) (fun hc71 => ?_)
      · replace h := o_ip hc71 h
        refine z_aload_n dX7_accept_62 1 rfl ?_
        refine z_iconst (v := 1) dX7_accept_63 (by decide) ?_
        obtain ⟨s72, e73, h⟩ := o_bdv h
        refine z_callVv (As := [.int _]) (e_X7_repair e73) (by decide) mi_X7_repair ml_X7_165 rfl rfl (Nat.le_of_ble_eq_true rfl) rv_6 dX7_accept_64 ?_
        cases h
        exact z_vret rfl rfl rfl dX7_accept_67
      · replace h := o_in hc71 h
        refine z_aload_n dX7_accept_46 1 rfl ?_
        refine z_aload_n dX7_accept_47 1 rfl ?_
        refine zg_X7_openIds fl_X7_56 dX7_accept_48 ?_
        refine z_aload_n dX7_accept_51 1 rfl ?_
        obtain ⟨x76, s74, e75, h⟩ := o_bdi h
        refine z_callVi (As := []) (e_X7_top e75) (by decide) mi_X7_top ml_X7_128 rfl rfl (Nat.le_of_ble_eq_true rfl) rv_6 dX7_accept_52 ?_
        obtain ⟨g77, h⟩ := o_gd h
        replace h := o_dd h
        refine za_openIds g77 dX7_accept_55 ?_
        obtain ⟨s79, e80, h⟩ := o_bdv h
        refine z_callVv (As := [.int _]) (e_X7_addPart e80) (by decide) mi_X7_addPart ml_X7_176 rfl rfl (Nat.le_of_ble_eq_true rfl) rv_6 dX7_accept_56 ?_
        refine z_goto (tgt := 67) dX7_accept_59 (by decide) ?_
        cases h
        exact z_vret rfl rfl rfl dX7_accept_67
    · replace h := o_ip hc67 h
      refine z_aload_n dX7_accept_26 1 rfl ?_
      refine z_dup dX7_accept_27 rfl ?_
      refine zg_X7_open fl_X7_125 dX7_accept_28 ?_
      refine z_iconst (v := 1) dX7_accept_31 (by decide) ?_
      refine z_isub dX7_accept_32 ?_
      replace h := o_dd h
      refine zp_X7_open fl_X7_125 dX7_accept_33 ?_
      refine z_goto (tgt := 67) dX7_accept_36 (by decide) ?_
      cases h
      exact z_vret rfl rfl rfl dX7_accept_67
theorem e_X7_accept {G : o_G} {N : Nat} {σ' : o_S} {s : o_S} (h : f_X7_accept N  s = some σ') : o_Ev (o_up G) yX7_accept cX7_accept 3 (Option.none : Option Jvm.ClassFile.FieldType) 6 [.ref (g_ad G 6)] s (none) σ' := o_Ev.mk rfl (Nat.le_of_ble_eq_true rfl) (s_X7_accept h)
-- X7_parse
set_option maxRecDepth 10000 in
theorem s_X7_parse_L456 {G : o_G} {N : Nat} {r : Int32} {σ' : o_S} : ∀ (n : Nat) (l5 : Int32) (s : o_S), f_X7_parse_L456 N n l5 s = some (r, σ') → o_Z (o_up G) RX7 cX7_parse (Option.some Jvm.ClassFile.FieldType.int) 8 7 (o_E (o_up G) (some (.int r)) σ') (o_k σ') s 456 [(0, .ref (g_ad G 6)), (5, .int l5)] [] := by
  intro n
  induction n with
  | zero => intro l5 s h; cases h
  | succ n ih =>
    intro l5 s h
    rw [f_X7_parse_L456] at h
    refine z_iload dX7_parse_456 1 rfl ?_
    refine z_if_lt (tgt := 489) dX7_parse_458 (by decide) (fun hc17 => ?_) (fun hc17 => ?_)
    · replace h := o_ip hc17 h
      refine z_aload_n dX7_parse_489 0 rfl ?_
      obtain ⟨s18, e19, h⟩ := o_bdv h
      refine z_callVv (As := []) (e_X7_number e19) (by decide) mi_X7_number ml_X7_68 rfl rfl (Nat.le_of_ble_eq_true rfl) rv_6 dX7_parse_490 ?_
      refine z_aload_n dX7_parse_493 0 rfl ?_
      refine zg_X7_nodes fl_X7_113 dX7_parse_494 ?_
      cases h
      exact z_iret rfl rfl rfl dX7_parse_497
    · replace h := o_in hc17 h
      refine z_iload dX7_parse_461 1 rfl ?_
      refine z_if_le (tgt := 483) dX7_parse_463 (by decide) (fun hc20 => ?_) (fun hc20 => ?_)
      · replace h := o_ip hc20 h
        refine z_iinc (v := _ + (-1)) (L' := [(5, .int _), (0, .ref _)]) dX7_parse_483 1 rfl rfl (by decide) rfl ?_
        refine z_goto (tgt := 456) dX7_parse_486 (by decide) ?_
        exact o_Z.sub [1, 0] rfl (ih _ _ h)
      · replace h := o_in hc20 h
        refine z_aload_n dX7_parse_466 0 rfl ?_
        refine zg_X7_openColumns fl_X7_59 dX7_parse_467 ?_
        refine z_iload dX7_parse_470 1 rfl ?_
        obtain ⟨g21, h⟩ := o_gd h
        replace h := o_dd h
        refine za_openColumns g21 dX7_parse_472 ?_
        refine z_iconst (v := (-1)) dX7_parse_473 (by decide) ?_
        refine z_icmp_ne (tgt := 483) dX7_parse_474 (by decide) (fun hc23 => ?_) (fun hc23 => ?_)
        · replace h := o_in hc23 h
          refine z_iinc (v := _ + (-1)) (L' := [(5, .int _), (0, .ref _)]) dX7_parse_483 1 rfl rfl (by decide) rfl ?_
          refine z_goto (tgt := 456) dX7_parse_486 (by decide) ?_
          exact o_Z.sub [1, 0] rfl (ih _ _ h)
        · replace h := o_ip hc23 h
          refine z_aload_n dX7_parse_477 0 rfl ?_
          refine z_bipush (v := 6) dX7_parse_478 (by decide) ?_
          obtain ⟨s24, e25, h⟩ := o_bdv h
          refine z_callVv (As := [.int _]) (e_X7_repair e25) (by decide) mi_X7_repair ml_X7_165 rfl rfl (Nat.le_of_ble_eq_true rfl) rv_6 dX7_parse_480 ?_
          refine z_iinc (v := _ + (-1)) (L' := [(5, .int _), (0, .ref _)]) dX7_parse_483 1 rfl rfl (by decide) rfl ?_
          refine z_goto (tgt := 456) dX7_parse_486 (by decide) ?_
          exact o_Z.sub [1, 0] rfl (ih _ _ h)
set_option maxRecDepth 10000 in
theorem s_X7_parse_b409 {G : o_G} {N : Nat} {r : Int32} {σ' : o_S} {l2 : Int32} {s : o_S} (h : f_X7_parse_b409 N l2 s = some (r, σ')) : o_Z (o_up G) RX7 cX7_parse (Option.some Jvm.ClassFile.FieldType.int) 8 7 (o_E (o_up G) (some (.int r)) σ') (o_k σ') s 409 [(0, .ref (g_ad G 6)), (2, .int l2)] [] := by
  unfold f_X7_parse_b409 at h
  refine z_aload_n dX7_parse_409 0 rfl ?_
  refine z_aload_n dX7_parse_410 0 rfl ?_
  refine zg_X7_size fl_X7_89 dX7_parse_411 ?_
  refine z_iload_n dX7_parse_414 1 rfl ?_
  refine z_isub dX7_parse_415 ?_
  replace h := o_dd h
  refine zp_X7_column fl_X7_122 dX7_parse_416 ?_
  refine z_aload_n dX7_parse_419 0 rfl ?_
  refine zg_X7_hasColon fl_X7_136 dX7_parse_420 ?_
  refine z_if_eq (tgt := 450) dX7_parse_423 (by decide) (fun hc13 => ?_) (fun hc13 => ?_)
  · replace h := o_ip hc13 h
    refine z_aload_n dX7_parse_450 0 rfl ?_
    obtain ⟨x16, s14, e15, h⟩ := o_bdi h
    refine z_callVi (As := []) (e_X7_top e15) (by decide) mi_X7_top ml_X7_128 rfl rfl (Nat.le_of_ble_eq_true rfl) rv_6 dX7_parse_451 ?_
    refine z_istore (L' := [(5, .int _), (0, .ref _), (2, .int _)]) dX7_parse_454 (by decide) rfl ?_
    exact o_Z.sub [1, 0] rfl (s_X7_parse_L456 _ _ _ h)
  · replace h := o_in hc13 h
    refine z_aload_n dX7_parse_426 0 rfl ?_
    refine z_iconst (v := 0) dX7_parse_427 (by decide) ?_
    refine z_aload_n dX7_parse_428 0 rfl ?_
    refine zg_X7_items fl_X7_62 dX7_parse_429 ?_
    refine z_aload_n dX7_parse_432 0 rfl ?_
    obtain ⟨x28, s26, e27, h⟩ := o_bdi h
    refine z_callVi (As := []) (e_X7_top e27) (by decide) mi_X7_top ml_X7_128 rfl rfl (Nat.le_of_ble_eq_true rfl) rv_6 dX7_parse_433 ?_
    obtain ⟨g29, h⟩ := o_gd h
    replace h := o_dd h
    refine za_items g29 dX7_parse_436 ?_
    refine z_aload_n dX7_parse_437 0 rfl ?_
    refine zg_X7_line fl_X7_119 dX7_parse_438 ?_
    refine z_aload_n dX7_parse_441 0 rfl ?_
    refine zg_X7_column fl_X7_122 dX7_parse_442 ?_
    refine z_iconst (v := 0) dX7_parse_445 (by decide) ?_
    obtain ⟨x33, s31, e32, h⟩ := o_bdi h
    refine z_callVi (As := [.int _, .int _, .int _, .int _, .int _]) (e_X7_add e32) (by decide) mi_X7_add ml_X7_98 rfl rfl (Nat.le_of_ble_eq_true rfl) rv_6 dX7_parse_446 ?_
    refine z_pop dX7_parse_449 rfl ?_
    refine z_aload_n dX7_parse_450 0 rfl ?_
    obtain ⟨x36, s34, e35, h⟩ := o_bdi h
    refine z_callVi (As := []) (e_X7_top e35) (by decide) mi_X7_top ml_X7_128 rfl rfl (Nat.le_of_ble_eq_true rfl) rv_6 dX7_parse_451 ?_
    refine z_istore (L' := [(5, .int _), (0, .ref _), (2, .int _)]) dX7_parse_454 (by decide) rfl ?_
    exact o_Z.sub [1, 0] rfl (s_X7_parse_L456 _ _ _ h)
set_option maxRecDepth 10000 in
theorem s_X7_parse_b162 {G : o_G} {N : Nat} {k67 : Int32 → Int32 → Int32 → Int32 → o_S → Option (Int32 × o_S)} {r : Int32} {σ' : o_S} {l1 : Int32} {l7 : Int32} {y0 : Int32} (hk67 : ∀ (z1 : Int32) (z2 : Int32) (z3 : Int32) (z4 : Int32) (s : o_S), k67 z1 z2 z3 z4 s = some (r, σ') → o_Z (o_up G) RX7 cX7_parse (Option.some Jvm.ClassFile.FieldType.int) 8 7 (o_E (o_up G) (some (.int r)) σ') (o_k σ') s 67 [(0, .ref (g_ad G 6)), (1, .int z1), (2, .int z2), (3, .int z3), (4, .int z4)] []) {s : o_S} (h : f_X7_parse_b162 N k67 l1 l7 y0 s = some (r, σ')) : o_Z (o_up G) RX7 cX7_parse (Option.some Jvm.ClassFile.FieldType.int) 8 7 (o_E (o_up G) (some (.int r)) σ') (o_k σ') s 162 [(0, .ref (g_ad G 6)), (1, .int l1), (7, .int l7)] [.int y0] := by
  unfold f_X7_parse_b162 at h
  refine z_istore (L' := [(6, .int _), (0, .ref _), (1, .int _), (7, .int _)]) dX7_parse_162 (by decide) rfl ?_
  refine z_aload_n dX7_parse_164 1 rfl ?_
  refine z_dup dX7_parse_165 rfl ?_
  refine zg_X7_line fl_X7_119 dX7_parse_166 ?_
  refine z_iconst (v := 1) dX7_parse_169 (by decide) ?_
  refine z_iadd dX7_parse_170 ?_
  replace h := o_dd h
  refine zp_X7_line fl_X7_119 dX7_parse_171 ?_
  refine z_iload dX7_parse_174 0 rfl ?_
  refine z_istore_n (L' := [(2, .int _), (6, .int _), (0, .ref _), (1, .int _), (7, .int _)]) dX7_parse_176 (by decide) rfl ?_
  refine z_iload dX7_parse_177 4 rfl ?_
  refine z_if_ne (tgt := 186) dX7_parse_179 (by decide) (fun hc46 => ?_) (fun hc46 => ?_)
  · replace h := o_in hc46 h
    refine z_iconst (v := 0) dX7_parse_186 (by decide) ?_
    refine z_istore_n (L' := [(3, .int _), (2, .int _), (6, .int _), (0, .ref _), (1, .int _), (7, .int _)]) dX7_parse_187 (by decide) rfl ?_
    refine z_goto (tgt := 391) dX7_parse_188 (by decide) ?_
    refine z_iload dX7_parse_391 2 rfl ?_
    refine z_istore (L' := [(4, .int _), (3, .int _), (2, .int _), (6, .int _), (0, .ref _), (1, .int _), (7, .int _)]) dX7_parse_393 (by decide) rfl ?_
    refine z_goto (tgt := 67) dX7_parse_395 (by decide) ?_
    exact o_Z.sub [4, 5, 2, 1, 0] rfl (hk67 _ _ _ _ _ h)
  · replace h := o_ip hc46 h
    refine z_iconst (v := 1) dX7_parse_182 (by decide) ?_
    refine z_goto (tgt := 187) dX7_parse_183 (by decide) ?_
    refine z_istore_n (L' := [(3, .int _), (2, .int _), (6, .int _), (0, .ref _), (1, .int _), (7, .int _)]) dX7_parse_187 (by decide) rfl ?_
    refine z_goto (tgt := 391) dX7_parse_188 (by decide) ?_
    refine z_iload dX7_parse_391 2 rfl ?_
    refine z_istore (L' := [(4, .int _), (3, .int _), (2, .int _), (6, .int _), (0, .ref _), (1, .int _), (7, .int _)]) dX7_parse_393 (by decide) rfl ?_
    refine z_goto (tgt := 67) dX7_parse_395 (by decide) ?_
    exact o_Z.sub [4, 5, 2, 1, 0] rfl (hk67 _ _ _ _ _ h)
set_option maxRecDepth 10000 in
theorem s_X7_parse_b146 {G : o_G} {N : Nat} {k67 : Int32 → Int32 → Int32 → Int32 → o_S → Option (Int32 × o_S)} {r : Int32} {σ' : o_S} {l1 : Int32} {l4 : Int32} {l7 : Int32} (hk67 : ∀ (z1 : Int32) (z2 : Int32) (z3 : Int32) (z4 : Int32) (s : o_S), k67 z1 z2 z3 z4 s = some (r, σ') → o_Z (o_up G) RX7 cX7_parse (Option.some Jvm.ClassFile.FieldType.int) 8 7 (o_E (o_up G) (some (.int r)) σ') (o_k σ') s 67 [(0, .ref (g_ad G 6)), (1, .int z1), (2, .int z2), (3, .int z3), (4, .int z4)] []) {s : o_S} (h : f_X7_parse_b146 N k67 l1 l4 l7 s = some (r, σ')) : o_Z (o_up G) RX7 cX7_parse (Option.some Jvm.ClassFile.FieldType.int) 8 7 (o_E (o_up G) (some (.int r)) σ') (o_k σ') s 146 [(0, .ref (g_ad G 6)), (1, .int l1), (4, .int l4), (7, .int l7)] [] := by
  unfold f_X7_parse_b146 at h
  refine z_iload dX7_parse_146 3 rfl ?_
  refine z_if_eq (tgt := 158) dX7_parse_148 (by decide) (fun hc44 => ?_) (fun hc44 => ?_)
  · replace h := o_ip hc44 h
    refine z_iload dX7_parse_158 2 rfl ?_
    refine z_iconst (v := 1) dX7_parse_160 (by decide) ?_
    refine z_iadd dX7_parse_161 ?_
    exact o_Z.sub [0, 1, 3] rfl (s_X7_parse_b162 hk67 h)
  · replace h := o_in hc44 h
    refine z_iload dX7_parse_151 2 rfl ?_
    refine z_iconst (v := 2) dX7_parse_153 (by decide) ?_
    refine z_iadd dX7_parse_154 ?_
    refine z_goto (tgt := 162) dX7_parse_155 (by decide) ?_
    exact o_Z.sub [0, 1, 3] rfl (s_X7_parse_b162 hk67 h)
set_option maxRecDepth 10000 in
theorem s_X7_parse_b336 {G : o_G} {N : Nat} {k67 : Int32 → Int32 → Int32 → Int32 → o_S → Option (Int32 × o_S)} {r : Int32} {σ' : o_S} {l1 : Int32} {l2 : Int32} {l3 : Int32} {l4 : Int32} {l6 : Int32} (hk67 : ∀ (z1 : Int32) (z2 : Int32) (z3 : Int32) (z4 : Int32) (s : o_S), k67 z1 z2 z3 z4 s = some (r, σ') → o_Z (o_up G) RX7 cX7_parse (Option.some Jvm.ClassFile.FieldType.int) 8 7 (o_E (o_up G) (some (.int r)) σ') (o_k σ') s 67 [(0, .ref (g_ad G 6)), (1, .int z1), (2, .int z2), (3, .int z3), (4, .int z4)] []) {s : o_S} (h : f_X7_parse_b336 N k67 l1 l2 l3 l4 l6 s = some (r, σ')) : o_Z (o_up G) RX7 cX7_parse (Option.some Jvm.ClassFile.FieldType.int) 8 7 (o_E (o_up G) (some (.int r)) σ') (o_k σ') s 336 [(0, .ref (g_ad G 6)), (1, .int l1), (2, .int l2), (3, .int l3), (4, .int l4), (6, .int l6)] [] := by
  unfold f_X7_parse_b336 at h
  refine z_aload_n dX7_parse_336 0 rfl ?_
  refine z_iload dX7_parse_337 4 rfl ?_
  replace h := o_dd h
  refine zp_X7_start fl_X7_153 dX7_parse_339 ?_
  refine z_aload_n dX7_parse_342 0 rfl ?_
  refine z_iload dX7_parse_343 5 rfl ?_
  replace h := o_dd h
  refine zp_X7_end fl_X7_156 dX7_parse_345 ?_
  refine z_aload_n dX7_parse_348 0 rfl ?_
  refine z_iload_n dX7_parse_349 3 rfl ?_
  obtain ⟨g65, h⟩ := o_gd h
  replace h := o_dd h
  refine zp_X7_isFirst (Decidable.not_not.mp g65) fl_X7_159 dX7_parse_350 ?_
  refine z_iconst (v := 0) dX7_parse_353 (by decide) ?_
  refine z_istore_n (L' := [(3, .int _), (0, .ref _), (1, .int _), (2, .int _), (4, .int _), (6, .int _)]) dX7_parse_354 (by decide) rfl ?_
  refine z_iload_n dX7_parse_355 2 rfl ?_
  refine z_if_ne (tgt := 369) dX7_parse_356 (by decide) (fun hc67 => ?_) (fun hc67 => ?_)
  · replace h := o_in hc67 h
    refine z_iinc (v := _ + 1) (L' := [(1, .int _), (3, .int _), (0, .ref _), (2, .int _), (4, .int _), (6, .int _)]) dX7_parse_369 2 rfl rfl (by decide) rfl ?_
    refine z_aload_n dX7_parse_372 2 rfl ?_
    obtain ⟨s68, e69, h⟩ := o_bdv h
    refine z_callVv (As := []) (e_X7_accept e69) (by decide) mi_X7_accept ml_X7_162 rfl rfl (Nat.le_of_ble_eq_true rfl) rv_6 dX7_parse_373 ?_
    refine z_goto (tgt := 391) dX7_parse_376 (by decide) ?_
    refine z_iload dX7_parse_391 5 rfl ?_
    refine z_istore (L' := [(4, .int _), (1, .int _), (3, .int _), (0, .ref _), (2, .int _), (6, .int _)]) dX7_parse_393 (by decide) rfl ?_
    refine z_goto (tgt := 67) dX7_parse_395 (by decide) ?_
    exact o_Z.sub [3, 1, 4, 2, 0] rfl (hk67 _ _ _ _ _ h)
  · replace h := o_ip hc67 h
    refine z_aload_n dX7_parse_359 1 rfl ?_
    refine zg_X7_openColumns fl_X7_59 dX7_parse_360 ?_
    refine z_iconst (v := 0) dX7_parse_363 (by decide) ?_
    refine z_aload_n dX7_parse_364 1 rfl ?_
    refine zg_X7_column fl_X7_122 dX7_parse_365 ?_
    obtain ⟨g70, h⟩ := o_gd h
    replace h := o_dd h
    refine zs_openColumns g70 dX7_parse_368 ?_
    refine z_iinc (v := _ + 1) (L' := [(1, .int _), (3, .int _), (0, .ref _), (2, .int _), (4, .int _), (6, .int _)]) dX7_parse_369 2 rfl rfl (by decide) rfl ?_
    refine z_aload_n dX7_parse_372 2 rfl ?_
    obtain ⟨s72, e73, h⟩ := o_bdv h
    refine z_callVv (As := []) (e_X7_accept e73) (by decide) mi_X7_accept ml_X7_162 rfl rfl (Nat.le_of_ble_eq_true rfl) rv_6 dX7_parse_373 ?_
    refine z_goto (tgt := 391) dX7_parse_376 (by decide) ?_
    refine z_iload dX7_parse_391 5 rfl ?_
    refine z_istore (L' := [(4, .int _), (1, .int _), (3, .int _), (0, .ref _), (2, .int _), (6, .int _)]) dX7_parse_393 (by decide) rfl ?_
    refine z_goto (tgt := 67) dX7_parse_395 (by decide) ?_
    exact o_Z.sub [3, 1, 4, 2, 0] rfl (hk67 _ _ _ _ _ h)
set_option maxRecDepth 10000 in
theorem s_X7_parse_b309 {G : o_G} {N : Nat} {k67 : Int32 → Int32 → Int32 → Int32 → o_S → Option (Int32 × o_S)} {k279 : Int32 → Int32 → Int32 → Int32 → Int32 → o_S → Option (Int32 × o_S)} {r : Int32} {σ' : o_S} {l1 : Int32} {l2 : Int32} {l3 : Int32} {l4 : Int32} {l6 : Int32} (hk67 : ∀ (z1 : Int32) (z2 : Int32) (z3 : Int32) (z4 : Int32) (s : o_S), k67 z1 z2 z3 z4 s = some (r, σ') → o_Z (o_up G) RX7 cX7_parse (Option.some Jvm.ClassFile.FieldType.int) 8 7 (o_E (o_up G) (some (.int r)) σ') (o_k σ') s 67 [(0, .ref (g_ad G 6)), (1, .int z1), (2, .int z2), (3, .int z3), (4, .int z4)] []) (hk279 : ∀ (z1 : Int32) (z2 : Int32) (z3 : Int32) (z4 : Int32) (z6 : Int32) (s : o_S), k279 z1 z2 z3 z4 z6 s = some (r, σ') → o_Z (o_up G) RX7 cX7_parse (Option.some Jvm.ClassFile.FieldType.int) 8 7 (o_E (o_up G) (some (.int r)) σ') (o_k σ') s 279 [(0, .ref (g_ad G 6)), (1, .int z1), (2, .int z2), (3, .int z3), (4, .int z4), (6, .int z6)] []) {s : o_S} (h : f_X7_parse_b309 N k67 k279 l1 l2 l3 l4 l6 s = some (r, σ')) : o_Z (o_up G) RX7 cX7_parse (Option.some Jvm.ClassFile.FieldType.int) 8 7 (o_E (o_up G) (some (.int r)) σ') (o_k σ') s 309 [(0, .ref (g_ad G 6)), (1, .int l1), (2, .int l2), (3, .int l3), (4, .int l4), (6, .int l6)] [] := by
  unfold f_X7_parse_b309 at h
  refine z_aload_n dX7_parse_309 0 rfl ?_
  refine zg_X7_token fl_X7_150 dX7_parse_310 ?_
  refine z_iconst (v := 3) dX7_parse_313 (by decide) ?_
  refine z_icmp_gt (tgt := 336) dX7_parse_314 (by decide) (fun hc75 => ?_) (fun hc75 => ?_)
  · replace h := o_ip hc75 h
    exact o_Z.sub [0, 1, 2, 3, 4, 5] rfl (s_X7_parse_b336 hk67 h)
  · replace h := o_in hc75 h
    refine z_aload_n dX7_parse_317 0 rfl ?_
    refine zg_X7_text fl_X7_9 dX7_parse_318 ?_
    refine z_iload dX7_parse_321 5 rfl ?_
    obtain ⟨g76, h⟩ := o_gd h
    replace h := o_dd h
    refine za_text g76 dX7_parse_323 ?_
    obtain ⟨x80, s78, e79, h⟩ := o_bdi h
    refine z_callSi (As := [.int _]) (e_X7_isDigit e79) (by decide) mi_X7_isDigit ml_X7_144 rfl rfl (Nat.le_of_ble_eq_true rfl) dX7_parse_324 ?_
    refine z_if_eq (tgt := 336) dX7_parse_327 (by decide) (fun hc81 => ?_) (fun hc81 => ?_)
    · replace h := o_ip hc81 h
      exact o_Z.sub [0, 1, 2, 3, 4, 5] rfl (s_X7_parse_b336 hk67 h)
    · replace h := o_in hc81 h
      refine z_iinc (v := _ + 1) (L' := [(6, .int _), (0, .ref _), (1, .int _), (2, .int _), (3, .int _), (4, .int _)]) dX7_parse_330 5 rfl rfl (by decide) rfl ?_
      refine z_goto (tgt := 279) dX7_parse_333 (by decide) ?_
      exact o_Z.sub [1, 2, 3, 4, 5, 0] rfl (hk279 _ _ _ _ _ _ h)
set_option maxRecDepth 10000 in
theorem s_X7_parse_L279 {G : o_G} {N : Nat} {k67 : Int32 → Int32 → Int32 → Int32 → o_S → Option (Int32 × o_S)} {r : Int32} {σ' : o_S} (hk67 : ∀ (z1 : Int32) (z2 : Int32) (z3 : Int32) (z4 : Int32) (s : o_S), k67 z1 z2 z3 z4 s = some (r, σ') → o_Z (o_up G) RX7 cX7_parse (Option.some Jvm.ClassFile.FieldType.int) 8 7 (o_E (o_up G) (some (.int r)) σ') (o_k σ') s 67 [(0, .ref (g_ad G 6)), (1, .int z1), (2, .int z2), (3, .int z3), (4, .int z4)] []) : ∀ (n : Nat) (l1 : Int32) (l2 : Int32) (l3 : Int32) (l4 : Int32) (l6 : Int32) (s : o_S), f_X7_parse_L279 N k67 n l1 l2 l3 l4 l6 s = some (r, σ') → o_Z (o_up G) RX7 cX7_parse (Option.some Jvm.ClassFile.FieldType.int) 8 7 (o_E (o_up G) (some (.int r)) σ') (o_k σ') s 279 [(0, .ref (g_ad G 6)), (1, .int l1), (2, .int l2), (3, .int l3), (4, .int l4), (6, .int l6)] [] := by
  intro n
  induction n with
  | zero => intro l1 l2 l3 l4 l6 s h; cases h
  | succ n ih =>
    intro l1 l2 l3 l4 l6 s h
    rw [f_X7_parse_L279] at h
    refine z_iload dX7_parse_279 5 rfl ?_
    refine z_aload_n dX7_parse_281 0 rfl ?_
    refine zg_X7_size fl_X7_89 dX7_parse_282 ?_
    refine z_icmp_ge (tgt := 336) dX7_parse_285 (by decide) (fun hc62 => ?_) (fun hc62 => ?_)
    · replace h := o_ip hc62 h
      exact o_Z.sub [0, 1, 2, 3, 4, 5] rfl (s_X7_parse_b336 hk67 h)
    · replace h := o_in hc62 h
      refine z_aload_n dX7_parse_288 0 rfl ?_
      refine zg_X7_token fl_X7_150 dX7_parse_289 ?_
      refine z_iconst (v := 2) dX7_parse_292 (by decide) ?_
      refine z_icmp_ne (tgt := 309) dX7_parse_293 (by decide) (fun hc74 => ?_) (fun hc74 => ?_)
      · replace h := o_in hc74 h
        exact o_Z.sub [0, 1, 2, 3, 4, 5] rfl (s_X7_parse_b309 hk67 ih h)
      · replace h := o_ip hc74 h
        refine z_aload_n dX7_parse_296 0 rfl ?_
        refine zg_X7_text fl_X7_9 dX7_parse_297 ?_
        refine z_iload dX7_parse_300 5 rfl ?_
        obtain ⟨g82, h⟩ := o_gd h
        replace h := o_dd h
        refine za_text g82 dX7_parse_302 ?_
        obtain ⟨x86, s84, e85, h⟩ := o_bdi h
        refine z_callSi (As := [.int _]) (e_X7_isLetter e85) (by decide) mi_X7_isLetter ml_X7_140 rfl rfl (Nat.le_of_ble_eq_true rfl) dX7_parse_303 ?_
        refine z_if_ne (tgt := 330) dX7_parse_306 (by decide) (fun hc87 => ?_) (fun hc87 => ?_)
        · replace h := o_in hc87 h
          refine z_iinc (v := _ + 1) (L' := [(6, .int _), (0, .ref _), (1, .int _), (2, .int _), (3, .int _), (4, .int _)]) dX7_parse_330 5 rfl rfl (by decide) rfl ?_
          refine z_goto (tgt := 279) dX7_parse_333 (by decide) ?_
          exact o_Z.sub [1, 2, 3, 4, 5, 0] rfl (ih _ _ _ _ _ _ h)
        · replace h := o_ip hc87 h
          exact o_Z.sub [0, 1, 2, 3, 4, 5] rfl (s_X7_parse_b309 hk67 ih h)
set_option maxRecDepth 10000 in
theorem s_X7_parse_b249 {G : o_G} {N : Nat} {k67 : Int32 → Int32 → Int32 → Int32 → o_S → Option (Int32 × o_S)} {r : Int32} {σ' : o_S} {l1 : Int32} {l2 : Int32} {l3 : Int32} {l4 : Int32} {l5 : Int32} {l6 : Int32} (hk67 : ∀ (z1 : Int32) (z2 : Int32) (z3 : Int32) (z4 : Int32) (s : o_S), k67 z1 z2 z3 z4 s = some (r, σ') → o_Z (o_up G) RX7 cX7_parse (Option.some Jvm.ClassFile.FieldType.int) 8 7 (o_E (o_up G) (some (.int r)) σ') (o_k σ') s 67 [(0, .ref (g_ad G 6)), (1, .int z1), (2, .int z2), (3, .int z3), (4, .int z4)] []) {s : o_S} (h : f_X7_parse_b249 N k67 l1 l2 l3 l4 l5 l6 s = some (r, σ')) : o_Z (o_up G) RX7 cX7_parse (Option.some Jvm.ClassFile.FieldType.int) 8 7 (o_E (o_up G) (some (.int r)) σ') (o_k σ') s 249 [(0, .ref (g_ad G 6)), (1, .int l1), (2, .int l2), (3, .int l3), (4, .int l4), (5, .int l5), (6, .int l6)] [] := by
  unfold f_X7_parse_b249 at h
  refine z_aload_n dX7_parse_249 0 rfl ?_
  refine z_iload dX7_parse_250 5 rfl ?_
  obtain ⟨x55, s53, e54, h⟩ := o_bdi h
  refine z_callSi (As := [.int _]) (e_X7_isLetter e54) (by decide) mi_X7_isLetter ml_X7_140 rfl rfl (Nat.le_of_ble_eq_true rfl) dX7_parse_252 ?_
  refine z_if_eq (tgt := 262) dX7_parse_255 (by decide) (fun hc56 => ?_) (fun hc56 => ?_)
  · replace h := o_ip hc56 h
    refine z_iload dX7_parse_262 5 rfl ?_
    obtain ⟨x59, s57, e58, h⟩ := o_bdi h
    refine z_callSi (As := [.int _]) (e_X7_isDigit e58) (by decide) mi_X7_isDigit ml_X7_144 rfl rfl (Nat.le_of_ble_eq_true rfl) dX7_parse_264 ?_
    refine z_if_eq (tgt := 274) dX7_parse_267 (by decide) (fun hc60 => ?_) (fun hc60 => ?_)
    · replace h := o_ip hc60 h
      refine z_iload dX7_parse_274 5 rfl ?_
      replace h := o_dd h
      refine zp_X7_token fl_X7_150 dX7_parse_276 ?_
      exact o_Z.sub [0, 1, 2, 3, 4, 6] rfl (s_X7_parse_L279 hk67 _ _ _ _ _ _ _ h)
    · replace h := o_in hc60 h
      refine z_iconst (v := 3) dX7_parse_270 (by decide) ?_
      refine z_goto (tgt := 276) dX7_parse_271 (by decide) ?_
      replace h := o_dd h
      refine zp_X7_token fl_X7_150 dX7_parse_276 ?_
      exact o_Z.sub [0, 1, 2, 3, 4, 6] rfl (s_X7_parse_L279 hk67 _ _ _ _ _ _ _ h)
  · replace h := o_in hc56 h
    refine z_iconst (v := 2) dX7_parse_258 (by decide) ?_
    refine z_goto (tgt := 276) dX7_parse_259 (by decide) ?_
    replace h := o_dd h
    refine zp_X7_token fl_X7_150 dX7_parse_276 ?_
    exact o_Z.sub [0, 1, 2, 3, 4, 6] rfl (s_X7_parse_L279 hk67 _ _ _ _ _ _ _ h)
set_option maxRecDepth 10000 in
theorem s_X7_parse_L198 {G : o_G} {N : Nat} {k67 : Int32 → Int32 → Int32 → Int32 → o_S → Option (Int32 × o_S)} {r : Int32} {σ' : o_S} (hk67 : ∀ (z1 : Int32) (z2 : Int32) (z3 : Int32) (z4 : Int32) (s : o_S), k67 z1 z2 z3 z4 s = some (r, σ') → o_Z (o_up G) RX7 cX7_parse (Option.some Jvm.ClassFile.FieldType.int) 8 7 (o_E (o_up G) (some (.int r)) σ') (o_k σ') s 67 [(0, .ref (g_ad G 6)), (1, .int z1), (2, .int z2), (3, .int z3), (4, .int z4)] []) : ∀ (n : Nat) (l1 : Int32) (l2 : Int32) (l3 : Int32) (l6 : Int32) (s : o_S), f_X7_parse_L198 N k67 n l1 l2 l3 l6 s = some (r, σ') → o_Z (o_up G) RX7 cX7_parse (Option.some Jvm.ClassFile.FieldType.int) 8 7 (o_E (o_up G) (some (.int r)) σ') (o_k σ') s 198 [(0, .ref (g_ad G 6)), (1, .int l1), (2, .int l2), (3, .int l3), (6, .int l6)] [] := by
  intro n
  induction n with
  | zero => intro l1 l2 l3 l6 s h; cases h
  | succ n ih =>
    intro l1 l2 l3 l6 s h
    rw [f_X7_parse_L198] at h
    refine z_iload dX7_parse_198 4 rfl ?_
    refine z_aload_n dX7_parse_200 0 rfl ?_
    refine zg_X7_size fl_X7_89 dX7_parse_201 ?_
    refine z_icmp_ge (tgt := 391) dX7_parse_204 (by decide) (fun hc101 => ?_) (fun hc101 => ?_)
    · replace h := o_ip hc101 h
      refine z_iload dX7_parse_391 4 rfl ?_
      refine z_istore (L' := [(4, .int _), (0, .ref _), (1, .int _), (2, .int _), (3, .int _), (6, .int _)]) dX7_parse_393 (by decide) rfl ?_
      refine z_goto (tgt := 67) dX7_parse_395 (by decide) ?_
      exact o_Z.sub [1, 2, 3, 4, 0] rfl (hk67 _ _ _ _ _ h)
    · replace h := o_in hc101 h
      refine z_aload_n dX7_parse_207 0 rfl ?_
      refine zg_X7_text fl_X7_9 dX7_parse_208 ?_
      refine z_iload dX7_parse_211 4 rfl ?_
      obtain ⟨g102, h⟩ := o_gd h
      replace h := o_dd h
      refine za_text g102 dX7_parse_213 ?_
      refine z_bipush (v := 10) dX7_parse_214 (by decide) ?_
      refine z_icmp_eq (tgt := 391) dX7_parse_216 (by decide) (fun hc104 => ?_) (fun hc104 => ?_)
      · replace h := o_ip hc104 h
        refine z_iload dX7_parse_391 4 rfl ?_
        refine z_istore (L' := [(4, .int _), (0, .ref _), (1, .int _), (2, .int _), (3, .int _), (6, .int _)]) dX7_parse_393 (by decide) rfl ?_
        refine z_goto (tgt := 67) dX7_parse_395 (by decide) ?_
        exact o_Z.sub [1, 2, 3, 4, 0] rfl (hk67 _ _ _ _ _ h)
      · replace h := o_in hc104 h
        refine z_iinc (v := _ + 1) (L' := [(6, .int _), (0, .ref _), (1, .int _), (2, .int _), (3, .int _)]) dX7_parse_219 4 rfl rfl (by decide) rfl ?_
        refine z_goto (tgt := 198) dX7_parse_222 (by decide) ?_
        exact o_Z.sub [1, 2, 3, 4, 0] rfl (ih _ _ _ _ _ h)
set_option maxRecDepth 10000 in
theorem s_X7_parse_b132 {G : o_G} {N : Nat} {k67 : Int32 → Int32 → Int32 → Int32 → o_S → Option (Int32 × o_S)} {r : Int32} {σ' : o_S} {l1 : Int32} {l2 : Int32} {l3 : Int32} {l4 : Int32} {l5 : Int32} {l6 : Int32} {y0 : Int32} (hk67 : ∀ (z1 : Int32) (z2 : Int32) (z3 : Int32) (z4 : Int32) (s : o_S), k67 z1 z2 z3 z4 s = some (r, σ') → o_Z (o_up G) RX7 cX7_parse (Option.some Jvm.ClassFile.FieldType.int) 8 7 (o_E (o_up G) (some (.int r)) σ') (o_k σ') s 67 [(0, .ref (g_ad G 6)), (1, .int z1), (2, .int z2), (3, .int z3), (4, .int z4)] []) {s : o_S} (h : f_X7_parse_b132 N k67 l1 l2 l3 l4 l5 l6 y0 s = some (r, σ')) : o_Z (o_up G) RX7 cX7_parse (Option.some Jvm.ClassFile.FieldType.int) 8 7 (o_E (o_up G) (some (.int r)) σ') (o_k σ') s 132 [(0, .ref (g_ad G 6)), (1, .int l1), (2, .int l2), (3, .int l3), (4, .int l4), (5, .int l5), (6, .int l6)] [.int y0] := by
  unfold f_X7_parse_b132 at h
  refine z_istore (L' := [(7, .int _), (0, .ref _), (1, .int _), (2, .int _), (3, .int _), (4, .int _), (5, .int _), (6, .int _)]) dX7_parse_132 (by decide) rfl ?_
  refine z_iload dX7_parse_134 0 rfl ?_
  refine z_if_ne (tgt := 146) dX7_parse_136 (by decide) (fun hc43 => ?_) (fun hc43 => ?_)
  · replace h := o_in hc43 h
    exact o_Z.sub [1, 2, 5, 0] rfl (s_X7_parse_b146 hk67 h)
  · replace h := o_ip hc43 h
    refine z_iload dX7_parse_139 6 rfl ?_
    refine z_bipush (v := 10) dX7_parse_141 (by decide) ?_
    refine z_icmp_ne (tgt := 191) dX7_parse_143 (by decide) (fun hc47 => ?_) (fun hc47 => ?_)
    · replace h := o_in hc47 h
      refine z_iload dX7_parse_191 6 rfl ?_
      refine z_bipush (v := 35) dX7_parse_193 (by decide) ?_
      refine z_icmp_ne (tgt := 225) dX7_parse_195 (by decide) (fun hc48 => ?_) (fun hc48 => ?_)
      · replace h := o_in hc48 h
        refine z_iload dX7_parse_225 6 rfl ?_
        obtain ⟨x51, s49, e50, h⟩ := o_bdi h
        refine z_callSi (As := [.int _]) (e_X7_isLetter e50) (by decide) mi_X7_isLetter ml_X7_140 rfl rfl (Nat.le_of_ble_eq_true rfl) dX7_parse_227 ?_
        refine z_if_ne (tgt := 249) dX7_parse_230 (by decide) (fun hc52 => ?_) (fun hc52 => ?_)
        · replace h := o_in hc52 h
          exact o_Z.sub [1, 2, 3, 4, 5, 6, 7] rfl (s_X7_parse_b249 hk67 h)
        · replace h := o_ip hc52 h
          refine z_iload dX7_parse_233 6 rfl ?_
          obtain ⟨x92, s90, e91, h⟩ := o_bdi h
          refine z_callSi (As := [.int _]) (e_X7_isDigit e91) (by decide) mi_X7_isDigit ml_X7_144 rfl rfl (Nat.le_of_ble_eq_true rfl) dX7_parse_235 ?_
          refine z_if_ne (tgt := 249) dX7_parse_238 (by decide) (fun hc93 => ?_) (fun hc93 => ?_)
          · replace h := o_in hc93 h
            exact o_Z.sub [1, 2, 3, 4, 5, 6, 7] rfl (s_X7_parse_b249 hk67 h)
          · replace h := o_ip hc93 h
            refine z_iload dX7_parse_241 6 rfl ?_
            obtain ⟨x96, s94, e95, h⟩ := o_bdi h
            refine z_callSi (As := [.int _]) (e_X7_isSign e95) (by decide) mi_X7_isSign ml_X7_147 rfl rfl (Nat.le_of_ble_eq_true rfl) dX7_parse_243 ?_
            refine z_if_eq (tgt := 379) dX7_parse_246 (by decide) (fun hc97 => ?_) (fun hc97 => ?_)
            · replace h := o_ip hc97 h
              refine z_iload dX7_parse_379 6 rfl ?_
              refine z_bipush (v := 32) dX7_parse_381 (by decide) ?_
              refine z_icmp_eq (tgt := 391) dX7_parse_383 (by decide) (fun hc98 => ?_) (fun hc98 => ?_)
              · replace h := o_ip hc98 h
                refine z_iload dX7_parse_391 7 rfl ?_
                refine z_istore (L' := [(4, .int _), (7, .int _), (0, .ref _), (1, .int _), (2, .int _), (3, .int _), (5, .int _), (6, .int _)]) dX7_parse_393 (by decide) rfl ?_
                refine z_goto (tgt := 67) dX7_parse_395 (by decide) ?_
                exact o_Z.sub [2, 3, 4, 5, 0] rfl (hk67 _ _ _ _ _ h)
              · replace h := o_in hc98 h
                refine z_aload_n dX7_parse_386 1 rfl ?_
                refine z_iconst (v := 1) dX7_parse_387 (by decide) ?_
                obtain ⟨s99, e100, h⟩ := o_bdv h
                refine z_callVv (As := [.int _]) (e_X7_repair e100) (by decide) mi_X7_repair ml_X7_165 rfl rfl (Nat.le_of_ble_eq_true rfl) rv_6 dX7_parse_388 ?_
                refine z_iload dX7_parse_391 7 rfl ?_
                refine z_istore (L' := [(4, .int _), (7, .int _), (0, .ref _), (1, .int _), (2, .int _), (3, .int _), (5, .int _), (6, .int _)]) dX7_parse_393 (by decide) rfl ?_
                refine z_goto (tgt := 67) dX7_parse_395 (by decide) ?_
                exact o_Z.sub [2, 3, 4, 5, 0] rfl (hk67 _ _ _ _ _ h)
            · replace h := o_in hc97 h
              exact o_Z.sub [1, 2, 3, 4, 5, 6, 7] rfl (s_X7_parse_b249 hk67 h)
      · replace h := o_ip hc48 h
        exact o_Z.sub [1, 2, 3, 4, 7] rfl (s_X7_parse_L198 hk67 _ _ _ _ _ _ h)
    · replace h := o_ip hc47 h
      exact o_Z.sub [1, 2, 5, 0] rfl (s_X7_parse_b146 hk67 h)
set_option maxRecDepth 10000 in
theorem s_X7_parse_L67 {G : o_G} {N : Nat} {r : Int32} {σ' : o_S} : ∀ (n : Nat) (l1 : Int32) (l2 : Int32) (l3 : Int32) (l4 : Int32) (s : o_S), f_X7_parse_L67 N n l1 l2 l3 l4 s = some (r, σ') → o_Z (o_up G) RX7 cX7_parse (Option.some Jvm.ClassFile.FieldType.int) 8 7 (o_E (o_up G) (some (.int r)) σ') (o_k σ') s 67 [(0, .ref (g_ad G 6)), (1, .int l1), (2, .int l2), (3, .int l3), (4, .int l4)] [] := by
  intro n
  induction n with
  | zero => intro l1 l2 l3 l4 s h; cases h
  | succ n ih =>
    intro l1 l2 l3 l4 s h
    rw [f_X7_parse_L67] at h
    refine z_iload dX7_parse_67 4 rfl ?_
    refine z_aload_n dX7_parse_69 0 rfl ?_
    refine zg_X7_size fl_X7_89 dX7_parse_70 ?_
    refine z_icmp_ge (tgt := 398) dX7_parse_73 (by decide) (fun hc10 => ?_) (fun hc10 => ?_)
    · replace h := o_ip hc10 h
      refine z_iload_n dX7_parse_398 1 rfl ?_
      refine z_if_ne (tgt := 409) dX7_parse_399 (by decide) (fun hc11 => ?_) (fun hc11 => ?_)
      · replace h := o_in hc11 h
        exact o_Z.sub [0, 2] rfl (s_X7_parse_b409 h)
      · replace h := o_ip hc11 h
        refine z_aload_n dX7_parse_402 0 rfl ?_
        refine zg_X7_openColumns fl_X7_59 dX7_parse_403 ?_
        refine z_iconst (v := 0) dX7_parse_406 (by decide) ?_
        refine z_iconst (v := 0) dX7_parse_407 (by decide) ?_
        obtain ⟨g37, h⟩ := o_gd h
        replace h := o_dd h
        refine zs_openColumns g37 dX7_parse_408 ?_
        exact o_Z.sub [0, 2] rfl (s_X7_parse_b409 h)
    · replace h := o_in hc10 h
      refine z_aload_n dX7_parse_76 0 rfl ?_
      refine zg_X7_text fl_X7_9 dX7_parse_77 ?_
      refine z_iload dX7_parse_80 4 rfl ?_
      obtain ⟨g39, h⟩ := o_gd h
      replace h := o_dd h
      refine za_text g39 dX7_parse_82 ?_
      refine z_istore (L' := [(5, .int _), (0, .ref _), (1, .int _), (2, .int _), (3, .int _), (4, .int _)]) dX7_parse_83 (by decide) rfl ?_
      refine z_aload_n dX7_parse_85 1 rfl ?_
      refine z_iload dX7_parse_86 5 rfl ?_
      refine z_iload_n dX7_parse_88 3 rfl ?_
      refine z_isub dX7_parse_89 ?_
      replace h := o_dd h
      refine zp_X7_column fl_X7_122 dX7_parse_90 ?_
      refine z_iload dX7_parse_93 5 rfl ?_
      refine z_iconst (v := 1) dX7_parse_95 (by decide) ?_
      refine z_iadd dX7_parse_96 ?_
      refine z_istore (L' := [(6, .int _), (5, .int _), (0, .ref _), (1, .int _), (2, .int _), (3, .int _), (4, .int _)]) dX7_parse_97 (by decide) rfl ?_
      refine z_iload dX7_parse_99 1 rfl ?_
      refine z_bipush (v := 92) dX7_parse_101 (by decide) ?_
      refine z_icmp_ne (tgt := 131) dX7_parse_103 (by decide) (fun hc42 => ?_) (fun hc42 => ?_)
      · replace h := o_in hc42 h
        refine z_iconst (v := 0) dX7_parse_131 (by decide) ?_
        exact o_Z.sub [2, 3, 4, 5, 6, 1, 0] rfl (s_X7_parse_b132 ih h)
      · replace h := o_ip hc42 h
        refine z_iload dX7_parse_106 0 rfl ?_
        refine z_aload_n dX7_parse_108 2 rfl ?_
        refine zg_X7_size fl_X7_89 dX7_parse_109 ?_
        refine z_icmp_ge (tgt := 131) dX7_parse_112 (by decide) (fun hc105 => ?_) (fun hc105 => ?_)
        · replace h := o_ip hc105 h
          refine z_iconst (v := 0) dX7_parse_131 (by decide) ?_
          exact o_Z.sub [2, 3, 4, 5, 6, 1, 0] rfl (s_X7_parse_b132 ih h)
        · replace h := o_in hc105 h
          refine z_aload_n dX7_parse_115 2 rfl ?_
          refine zg_X7_text fl_X7_9 dX7_parse_116 ?_
          refine z_iload dX7_parse_119 0 rfl ?_
          obtain ⟨g106, h⟩ := o_gd h
          replace h := o_dd h
          refine za_text g106 dX7_parse_121 ?_
          refine z_bipush (v := 10) dX7_parse_122 (by decide) ?_
          refine z_icmp_ne (tgt := 131) dX7_parse_124 (by decide) (fun hc108 => ?_) (fun hc108 => ?_)
          · replace h := o_in hc108 h
            refine z_iconst (v := 0) dX7_parse_131 (by decide) ?_
            exact o_Z.sub [2, 3, 4, 5, 6, 1, 0] rfl (s_X7_parse_b132 ih h)
          · replace h := o_ip hc108 h
            refine z_iconst (v := 1) dX7_parse_127 (by decide) ?_
            refine z_goto (tgt := 132) dX7_parse_128 (by decide) ?_
            exact o_Z.sub [2, 3, 4, 5, 6, 1, 0] rfl (s_X7_parse_b132 ih h)
set_option maxRecDepth 10000 in
theorem s_X7_parse_L11 {G : o_G} {N : Nat} {r : Int32} {σ' : o_S} : ∀ (n : Nat) (l1 : Int32) (s : o_S), f_X7_parse_L11 N n l1 s = some (r, σ') → o_Z (o_up G) RX7 cX7_parse (Option.some Jvm.ClassFile.FieldType.int) 8 7 (o_E (o_up G) (some (.int r)) σ') (o_k σ') s 11 [(0, .ref (g_ad G 6)), (1, .int l1)] [] := by
  intro n
  induction n with
  | zero => intro l1 s h; cases h
  | succ n ih =>
    intro l1 s h
    rw [f_X7_parse_L11] at h
    refine z_iload_n dX7_parse_11 1 rfl ?_
    refine z_aload_n dX7_parse_12 0 rfl ?_
    refine zg_X7_size fl_X7_89 dX7_parse_13 ?_
    refine z_icmp_ge (tgt := 37) dX7_parse_16 (by decide) (fun hc4 => ?_) (fun hc4 => ?_)
    · replace h := o_ip hc4 h
      refine z_aload_n dX7_parse_37 0 rfl ?_
      refine z_iconst (v := 0) dX7_parse_38 (by decide) ?_
      replace h := o_dd h
      refine zp_X7_open fl_X7_125 dX7_parse_39 ?_
      refine z_aload_n dX7_parse_42 0 rfl ?_
      refine z_iconst (v := 0) dX7_parse_43 (by decide) ?_
      refine z_iconst (v := (-1)) dX7_parse_44 (by decide) ?_
      obtain ⟨s6, e7, h⟩ := o_bdv h
      refine z_callVv (As := [.int _, .int _]) (e_X7_push e7) (by decide) mi_X7_push ml_X7_132 rfl rfl (Nat.le_of_ble_eq_true rfl) rv_6 dX7_parse_45 ?_
      refine z_aload_n dX7_parse_48 0 rfl ?_
      refine z_iconst (v := 0) dX7_parse_49 (by decide) ?_
      replace h := o_dd h
      refine zp_X7_hasColon (by decide) fl_X7_136 dX7_parse_50 ?_
      refine z_iconst (v := 0) dX7_parse_53 (by decide) ?_
      refine z_istore_n (L' := [(1, .int _), (0, .ref _)]) dX7_parse_54 (by decide) rfl ?_
      refine z_aload_n dX7_parse_55 1 rfl ?_
      refine z_iconst (v := 0) dX7_parse_56 (by decide) ?_
      replace h := o_dd h
      refine zp_X7_line fl_X7_119 dX7_parse_57 ?_
      refine z_iconst (v := 0) dX7_parse_60 (by decide) ?_
      refine z_istore_n (L' := [(2, .int _), (1, .int _), (0, .ref _)]) dX7_parse_61 (by decide) rfl ?_
      refine z_iconst (v := 1) dX7_parse_62 (by decide) ?_
      refine z_istore_n (L' := [(3, .int _), (2, .int _), (1, .int _), (0, .ref _)]) dX7_parse_63 (by decide) rfl ?_
      refine z_iconst (v := 0) dX7_parse_64 (by decide) ?_
      refine z_istore (L' := [(4, .int _), (3, .int _), (2, .int _), (1, .int _), (0, .ref _)]) dX7_parse_65 (by decide) rfl ?_
      exact o_Z.sub [4, 3, 2, 1, 0] rfl (s_X7_parse_L67 _ _ _ _ _ _ h)
    · replace h := o_in hc4 h
      refine z_aload_n dX7_parse_19 0 rfl ?_
      refine zg_X7_letters fl_X7_37 dX7_parse_20 ?_
      refine z_iload_n dX7_parse_23 1 rfl ?_
      refine z_aload_n dX7_parse_24 0 rfl ?_
      refine zg_X7_text fl_X7_9 dX7_parse_25 ?_
      refine z_iload_n dX7_parse_28 1 rfl ?_
      obtain ⟨g109, h⟩ := o_gd h
      replace h := o_dd h
      refine za_text g109 dX7_parse_29 ?_
      obtain ⟨g111, h⟩ := o_gd h
      replace h := o_dd h
      refine zs_letters g111 dX7_parse_30 ?_
      refine z_iinc (v := _ + 1) (L' := [(1, .int _), (0, .ref _)]) dX7_parse_31 1 rfl rfl (by decide) rfl ?_
      refine z_goto (tgt := 11) dX7_parse_34 (by decide) ?_
      exact o_Z.sub [1, 0] rfl (ih _ _ h)
set_option maxRecDepth 10000 in
theorem s_X7_parse {G : o_G} {N : Nat} {r : Int32} {σ' : o_S} {s : o_S} (h : f_X7_parse N  s = some (r, σ')) : o_Z (o_up G) RX7 cX7_parse (Option.some Jvm.ClassFile.FieldType.int) 8 7 (o_E (o_up G) (some (.int r)) σ') (o_k σ') s 0 [(0, .ref (g_ad G 6))] [] := by
  unfold f_X7_parse at h
  refine z_aload_n dX7_parse_0 0 rfl ?_
  refine z_iconst (v := 0) dX7_parse_1 (by decide) ?_
  replace h := o_dd h
  refine zp_X7_thrown fl_X7_71 dX7_parse_2 ?_
  refine z_aload_n dX7_parse_5 0 rfl ?_
  obtain ⟨s2, e3, h⟩ := o_bdv h
  refine z_callVv (As := []) (e_X7_begin e3) (by decide) mi_X7_begin ml_X7_65 rfl rfl (Nat.le_of_ble_eq_true rfl) rv_6 dX7_parse_6 ?_
  refine z_iconst (v := 0) dX7_parse_9 (by decide) ?_
  refine z_istore_n (L' := [(1, .int _), (0, .ref _)]) dX7_parse_10 (by decide) rfl ?_
  exact o_Z.sub [1, 0] rfl (s_X7_parse_L11 _ _ _ h)
theorem e_X7_parse {G : o_G} {N : Nat} {r : Int32} {σ' : o_S} {s : o_S} (h : f_X7_parse N  s = some (r, σ')) : o_Ev (o_up G) yX7_parse cX7_parse 8 (Option.some Jvm.ClassFile.FieldType.int) 7 [.ref (g_ad G 6)] s (some (.int r)) σ' := o_Ev.mk rfl (Nat.le_of_ble_eq_true rfl) (s_X7_parse h)
-- X7_repairCount
set_option maxRecDepth 10000 in
theorem s_X7_repairCount {G : o_G} {N : Nat} {r : Int32} {σ' : o_S} {s : o_S} (h : f_X7_repairCount N  s = some (r, σ')) : o_Z (o_up G) RX7 cX7_repairCount (Option.some Jvm.ClassFile.FieldType.int) 1 0 (o_E (o_up G) (some (.int r)) σ') (o_k σ') s 0 [(0, .ref (g_ad G 6))] [] := by
  unfold f_X7_repairCount at h
  refine z_aload_n dX7_repairCount_0 0 rfl ?_
  refine z_iconst (v := 0) dX7_repairCount_1 (by decide) ?_
  replace h := o_dd h
  refine zp_X7_thrown fl_X7_71 dX7_repairCount_2 ?_
  refine z_aload_n dX7_repairCount_5 0 rfl ?_
  refine zg_X7_repairs fl_X7_95 dX7_repairCount_6 ?_
  cases h
  exact z_iret rfl rfl rfl dX7_repairCount_9
theorem e_X7_repairCount {G : o_G} {N : Nat} {r : Int32} {σ' : o_S} {s : o_S} (h : f_X7_repairCount N  s = some (r, σ')) : o_Ev (o_up G) yX7_repairCount cX7_repairCount 1 (Option.some Jvm.ClassFile.FieldType.int) 0 [.ref (g_ad G 6)] s (some (.int r)) σ' := o_Ev.mk rfl (Nat.le_of_ble_eq_true rfl) (s_X7_repairCount h)
-- X7_repair_
set_option maxRecDepth 10000 in
theorem s_X7_repair_ {G : o_G} {N : Nat} {r : Int32} {σ' : o_S} {p1 : Int32} {p2 : Int32} {s : o_S} (h : f_X7_repair_ N p1 p2 s = some (r, σ')) : o_Z (o_up G) RX7 cX7_repair_ (Option.some Jvm.ClassFile.FieldType.int) 3 1 (o_E (o_up G) (some (.int r)) σ') (o_k σ') s 0 [(0, .ref (g_ad G 6)), (1, .int p1), (2, .int p2)] [] := by
  unfold f_X7_repair_ at h
  refine z_aload_n dX7_repair__0 0 rfl ?_
  refine z_iconst (v := 0) dX7_repair__1 (by decide) ?_
  replace h := o_dd h
  refine zp_X7_thrown fl_X7_71 dX7_repair__2 ?_
  refine z_iload_n dX7_repair__5 1 rfl ?_
  refine z_if_lt (tgt := 39) dX7_repair__6 (by decide) (fun hc2 => ?_) (fun hc2 => ?_)
  · replace h := o_ip hc2 h
    refine z_aload_n dX7_repair__39 0 rfl ?_
    refine z_iconst (v := 1) dX7_repair__40 (by decide) ?_
    obtain ⟨x5, s3, e4, h⟩ := o_bdi h
    refine z_callVi (As := [.int _]) (e_X7_fail e4) (by decide) mi_X7_fail ml_X7_85 rfl rfl (Nat.le_of_ble_eq_true rfl) rv_6 dX7_repair__41 ?_
    cases h
    exact z_iret rfl rfl rfl dX7_repair__44
  · replace h := o_in hc2 h
    refine z_iload_n dX7_repair__9 1 rfl ?_
    refine z_aload_n dX7_repair__10 0 rfl ?_
    refine zg_X7_repairs fl_X7_95 dX7_repair__11 ?_
    refine z_icmp_ge (tgt := 39) dX7_repair__14 (by decide) (fun hc6 => ?_) (fun hc6 => ?_)
    · replace h := o_ip hc6 h
      refine z_aload_n dX7_repair__39 0 rfl ?_
      refine z_iconst (v := 1) dX7_repair__40 (by decide) ?_
      obtain ⟨x9, s7, e8, h⟩ := o_bdi h
      refine z_callVi (As := [.int _]) (e_X7_fail e8) (by decide) mi_X7_fail ml_X7_85 rfl rfl (Nat.le_of_ble_eq_true rfl) rv_6 dX7_repair__41 ?_
      cases h
      exact z_iret rfl rfl rfl dX7_repair__44
    · replace h := o_in hc6 h
      refine z_iload_n dX7_repair__17 2 rfl ?_
      refine z_if_lt (tgt := 39) dX7_repair__18 (by decide) (fun hc10 => ?_) (fun hc10 => ?_)
      · replace h := o_ip hc10 h
        refine z_aload_n dX7_repair__39 0 rfl ?_
        refine z_iconst (v := 1) dX7_repair__40 (by decide) ?_
        obtain ⟨x13, s11, e12, h⟩ := o_bdi h
        refine z_callVi (As := [.int _]) (e_X7_fail e12) (by decide) mi_X7_fail ml_X7_85 rfl rfl (Nat.le_of_ble_eq_true rfl) rv_6 dX7_repair__41 ?_
        cases h
        exact z_iret rfl rfl rfl dX7_repair__44
      · replace h := o_in hc10 h
        refine z_iload_n dX7_repair__21 2 rfl ?_
        refine z_iconst (v := 2) dX7_repair__22 (by decide) ?_
        refine z_icmp_gt (tgt := 39) dX7_repair__23 (by decide) (fun hc14 => ?_) (fun hc14 => ?_)
        · replace h := o_ip hc14 h
          refine z_aload_n dX7_repair__39 0 rfl ?_
          refine z_iconst (v := 1) dX7_repair__40 (by decide) ?_
          obtain ⟨x17, s15, e16, h⟩ := o_bdi h
          refine z_callVi (As := [.int _]) (e_X7_fail e16) (by decide) mi_X7_fail ml_X7_85 rfl rfl (Nat.le_of_ble_eq_true rfl) rv_6 dX7_repair__41 ?_
          cases h
          exact z_iret rfl rfl rfl dX7_repair__44
        · replace h := o_in hc14 h
          refine z_aload_n dX7_repair__26 0 rfl ?_
          refine zg_X7_repairParts fl_X7_46 dX7_repair__27 ?_
          refine z_iconst (v := 3) dX7_repair__30 (by decide) ?_
          refine z_iload_n dX7_repair__31 1 rfl ?_
          refine z_imul dX7_repair__32 ?_
          refine z_iload_n dX7_repair__33 2 rfl ?_
          refine z_iadd dX7_repair__34 ?_
          obtain ⟨g18, h⟩ := o_gd h
          replace h := o_dd h
          refine za_repairParts g18 dX7_repair__35 ?_
          refine z_goto (tgt := 44) dX7_repair__36 (by decide) ?_
          cases h
          exact z_iret rfl rfl rfl dX7_repair__44
theorem e_X7_repair_ {G : o_G} {N : Nat} {r : Int32} {σ' : o_S} {p1 : Int32} {p2 : Int32} {s : o_S} (h : f_X7_repair_ N p1 p2 s = some (r, σ')) : o_Ev (o_up G) yX7_repair_ cX7_repair_ 3 (Option.some Jvm.ClassFile.FieldType.int) 1 [.ref (g_ad G 6), .int p1, .int p2] s (some (.int r)) σ' := o_Ev.mk rfl (Nat.le_of_ble_eq_true rfl) (s_X7_repair_ h)
-- X7_isNode
set_option maxRecDepth 10000 in
theorem s_X7_isNode {G : o_G} {N : Nat} {r : Int32} {σ' : o_S} {p1 : Int32} {s : o_S} (h : f_X7_isNode N p1 s = some (r, σ')) : o_Z (o_up G) RX7 cX7_isNode (Option.some Jvm.ClassFile.FieldType.boolean) 2 0 (o_E (o_up G) (some (.int r)) σ') (o_k σ') s 0 [(0, .ref (g_ad G 6)), (1, .int p1)] [] := by
  unfold f_X7_isNode at h
  refine z_iload_n dX7_isNode_0 1 rfl ?_
  refine z_if_lt (tgt := 16) dX7_isNode_1 (by decide) (fun hc1 => ?_) (fun hc1 => ?_)
  · replace h := o_ip hc1 h
    refine z_iconst (v := 0) dX7_isNode_16 (by decide) ?_
    cases h
    exact z_zret (by decide) rfl rfl rfl dX7_isNode_17
  · replace h := o_in hc1 h
    refine z_iload_n dX7_isNode_4 1 rfl ?_
    refine z_aload_n dX7_isNode_5 0 rfl ?_
    refine zg_X7_nodes fl_X7_113 dX7_isNode_6 ?_
    refine z_icmp_ge (tgt := 16) dX7_isNode_9 (by decide) (fun hc2 => ?_) (fun hc2 => ?_)
    · replace h := o_ip hc2 h
      refine z_iconst (v := 0) dX7_isNode_16 (by decide) ?_
      cases h
      exact z_zret (by decide) rfl rfl rfl dX7_isNode_17
    · replace h := o_in hc2 h
      refine z_iconst (v := 1) dX7_isNode_12 (by decide) ?_
      refine z_goto (tgt := 17) dX7_isNode_13 (by decide) ?_
      cases h
      exact z_zret (by decide) rfl rfl rfl dX7_isNode_17
theorem e_X7_isNode {G : o_G} {N : Nat} {r : Int32} {σ' : o_S} {p1 : Int32} {s : o_S} (h : f_X7_isNode N p1 s = some (r, σ')) : o_Ev (o_up G) yX7_isNode cX7_isNode 2 (Option.some Jvm.ClassFile.FieldType.boolean) 0 [.ref (g_ad G 6), .int p1] s (some (.int r)) σ' := o_Ev.mk rfl (Nat.le_of_ble_eq_true rfl) (s_X7_isNode h)
-- X7_nodeCount
set_option maxRecDepth 10000 in
theorem s_X7_nodeCount {G : o_G} {N : Nat} {r : Int32} {σ' : o_S} {s : o_S} (h : f_X7_nodeCount N  s = some (r, σ')) : o_Z (o_up G) RX7 cX7_nodeCount (Option.some Jvm.ClassFile.FieldType.int) 1 0 (o_E (o_up G) (some (.int r)) σ') (o_k σ') s 0 [(0, .ref (g_ad G 6))] [] := by
  unfold f_X7_nodeCount at h
  refine z_aload_n dX7_nodeCount_0 0 rfl ?_
  refine z_iconst (v := 0) dX7_nodeCount_1 (by decide) ?_
  replace h := o_dd h
  refine zp_X7_thrown fl_X7_71 dX7_nodeCount_2 ?_
  refine z_aload_n dX7_nodeCount_5 0 rfl ?_
  refine zg_X7_nodes fl_X7_113 dX7_nodeCount_6 ?_
  cases h
  exact z_iret rfl rfl rfl dX7_nodeCount_9
theorem e_X7_nodeCount {G : o_G} {N : Nat} {r : Int32} {σ' : o_S} {s : o_S} (h : f_X7_nodeCount N  s = some (r, σ')) : o_Ev (o_up G) yX7_nodeCount cX7_nodeCount 1 (Option.some Jvm.ClassFile.FieldType.int) 0 [.ref (g_ad G 6)] s (some (.int r)) σ' := o_Ev.mk rfl (Nat.le_of_ble_eq_true rfl) (s_X7_nodeCount h)
-- X7_kind
set_option maxRecDepth 10000 in
theorem s_X7_kind {G : o_G} {N : Nat} {r : Int32} {σ' : o_S} {p1 : Int32} {s : o_S} (h : f_X7_kind N p1 s = some (r, σ')) : o_Z (o_up G) RX7 cX7_kind (Option.some Jvm.ClassFile.FieldType.int) 2 1 (o_E (o_up G) (some (.int r)) σ') (o_k σ') s 0 [(0, .ref (g_ad G 6)), (1, .int p1)] [] := by
  unfold f_X7_kind at h
  refine z_aload_n dX7_kind_0 0 rfl ?_
  refine z_iconst (v := 0) dX7_kind_1 (by decide) ?_
  replace h := o_dd h
  refine zp_X7_thrown fl_X7_71 dX7_kind_2 ?_
  refine z_aload_n dX7_kind_5 0 rfl ?_
  refine z_iload_n dX7_kind_6 1 rfl ?_
  obtain ⟨x4, s2, e3, h⟩ := o_bdi h
  refine z_callVi (As := [.int _]) (e_X7_isNode e3) (by decide) mi_X7_isNode ml_X7_197 rfl rfl (Nat.le_of_ble_eq_true rfl) rv_6 dX7_kind_7 ?_
  refine z_if_eq (tgt := 27) dX7_kind_10 (by decide) (fun hc5 => ?_) (fun hc5 => ?_)
  · replace h := o_ip hc5 h
    refine z_aload_n dX7_kind_27 0 rfl ?_
    refine z_iconst (v := 1) dX7_kind_28 (by decide) ?_
    obtain ⟨x8, s6, e7, h⟩ := o_bdi h
    refine z_callVi (As := [.int _]) (e_X7_fail e7) (by decide) mi_X7_fail ml_X7_85 rfl rfl (Nat.le_of_ble_eq_true rfl) rv_6 dX7_kind_29 ?_
    cases h
    exact z_iret rfl rfl rfl dX7_kind_32
  · replace h := o_in hc5 h
    refine z_aload_n dX7_kind_13 0 rfl ?_
    refine zg_X7_kinds fl_X7_13 dX7_kind_14 ?_
    refine z_aload_n dX7_kind_17 0 rfl ?_
    refine zg_X7_idOf fl_X7_40 dX7_kind_18 ?_
    refine z_iload_n dX7_kind_21 1 rfl ?_
    obtain ⟨g9, h⟩ := o_gd h
    replace h := o_dd h
    refine za_idOf g9 dX7_kind_22 ?_
    obtain ⟨g11, h⟩ := o_gd h
    replace h := o_dd h
    refine za_kinds g11 dX7_kind_23 ?_
    refine z_goto (tgt := 32) dX7_kind_24 (by decide) ?_
    cases h
    exact z_iret rfl rfl rfl dX7_kind_32
theorem e_X7_kind {G : o_G} {N : Nat} {r : Int32} {σ' : o_S} {p1 : Int32} {s : o_S} (h : f_X7_kind N p1 s = some (r, σ')) : o_Ev (o_up G) yX7_kind cX7_kind 2 (Option.some Jvm.ClassFile.FieldType.int) 1 [.ref (g_ad G 6), .int p1] s (some (.int r)) σ' := o_Ev.mk rfl (Nat.le_of_ble_eq_true rfl) (s_X7_kind h)
-- X7_parent
set_option maxRecDepth 10000 in
theorem s_X7_parent {G : o_G} {N : Nat} {r : Int32} {σ' : o_S} {p1 : Int32} {s : o_S} (h : f_X7_parent N p1 s = some (r, σ')) : o_Z (o_up G) RX7 cX7_parent (Option.some Jvm.ClassFile.FieldType.int) 2 1 (o_E (o_up G) (some (.int r)) σ') (o_k σ') s 0 [(0, .ref (g_ad G 6)), (1, .int p1)] [] := by
  unfold f_X7_parent at h
  refine z_aload_n dX7_parent_0 0 rfl ?_
  refine z_iconst (v := 0) dX7_parent_1 (by decide) ?_
  replace h := o_dd h
  refine zp_X7_thrown fl_X7_71 dX7_parent_2 ?_
  refine z_aload_n dX7_parent_5 0 rfl ?_
  refine z_iload_n dX7_parent_6 1 rfl ?_
  obtain ⟨x4, s2, e3, h⟩ := o_bdi h
  refine z_callVi (As := [.int _]) (e_X7_isNode e3) (by decide) mi_X7_isNode ml_X7_197 rfl rfl (Nat.le_of_ble_eq_true rfl) rv_6 dX7_parent_7 ?_
  refine z_if_ne (tgt := 19) dX7_parent_10 (by decide) (fun hc5 => ?_) (fun hc5 => ?_)
  · replace h := o_in hc5 h
    refine z_iload_n dX7_parent_19 1 rfl ?_
    refine z_if_ne (tgt := 27) dX7_parent_20 (by decide) (fun hc6 => ?_) (fun hc6 => ?_)
    · replace h := o_in hc6 h
      refine z_aload_n dX7_parent_27 0 rfl ?_
      refine zg_X7_numberOf fl_X7_43 dX7_parent_28 ?_
      refine z_aload_n dX7_parent_31 0 rfl ?_
      refine zg_X7_parents fl_X7_16 dX7_parent_32 ?_
      refine z_aload_n dX7_parent_35 0 rfl ?_
      refine zg_X7_idOf fl_X7_40 dX7_parent_36 ?_
      refine z_iload_n dX7_parent_39 1 rfl ?_
      obtain ⟨g7, h⟩ := o_gd h
      replace h := o_dd h
      refine za_idOf g7 dX7_parent_40 ?_
      obtain ⟨g9, h⟩ := o_gd h
      replace h := o_dd h
      refine za_parents g9 dX7_parent_41 ?_
      obtain ⟨g11, h⟩ := o_gd h
      replace h := o_dd h
      refine za_numberOf g11 dX7_parent_42 ?_
      cases h
      exact z_iret rfl rfl rfl dX7_parent_43
    · replace h := o_ip hc6 h
      refine z_iconst (v := (-1)) dX7_parent_23 (by decide) ?_
      refine z_goto (tgt := 43) dX7_parent_24 (by decide) ?_
      cases h
      exact z_iret rfl rfl rfl dX7_parent_43
  · replace h := o_ip hc5 h
    refine z_aload_n dX7_parent_13 0 rfl ?_
    refine z_iconst (v := 1) dX7_parent_14 (by decide) ?_
    obtain ⟨x15, s13, e14, h⟩ := o_bdi h
    refine z_callVi (As := [.int _]) (e_X7_fail e14) (by decide) mi_X7_fail ml_X7_85 rfl rfl (Nat.le_of_ble_eq_true rfl) rv_6 dX7_parent_15 ?_
    cases h
    exact z_iret rfl rfl rfl dX7_parent_18
theorem e_X7_parent {G : o_G} {N : Nat} {r : Int32} {σ' : o_S} {p1 : Int32} {s : o_S} (h : f_X7_parent N p1 s = some (r, σ')) : o_Ev (o_up G) yX7_parent cX7_parent 2 (Option.some Jvm.ClassFile.FieldType.int) 1 [.ref (g_ad G 6), .int p1] s (some (.int r)) σ' := o_Ev.mk rfl (Nat.le_of_ble_eq_true rfl) (s_X7_parent h)
-- X7_childCount
set_option maxRecDepth 10000 in
theorem s_X7_childCount {G : o_G} {N : Nat} {r : Int32} {σ' : o_S} {p1 : Int32} {s : o_S} (h : f_X7_childCount N p1 s = some (r, σ')) : o_Z (o_up G) RX7 cX7_childCount (Option.some Jvm.ClassFile.FieldType.int) 2 1 (o_E (o_up G) (some (.int r)) σ') (o_k σ') s 0 [(0, .ref (g_ad G 6)), (1, .int p1)] [] := by
  unfold f_X7_childCount at h
  refine z_aload_n dX7_childCount_0 0 rfl ?_
  refine z_iconst (v := 0) dX7_childCount_1 (by decide) ?_
  replace h := o_dd h
  refine zp_X7_thrown fl_X7_71 dX7_childCount_2 ?_
  refine z_aload_n dX7_childCount_5 0 rfl ?_
  refine z_iload_n dX7_childCount_6 1 rfl ?_
  obtain ⟨x4, s2, e3, h⟩ := o_bdi h
  refine z_callVi (As := [.int _]) (e_X7_isNode e3) (by decide) mi_X7_isNode ml_X7_197 rfl rfl (Nat.le_of_ble_eq_true rfl) rv_6 dX7_childCount_7 ?_
  refine z_if_eq (tgt := 26) dX7_childCount_10 (by decide) (fun hc5 => ?_) (fun hc5 => ?_)
  · replace h := o_ip hc5 h
    refine z_aload_n dX7_childCount_26 0 rfl ?_
    refine z_iconst (v := 1) dX7_childCount_27 (by decide) ?_
    obtain ⟨x8, s6, e7, h⟩ := o_bdi h
    refine z_callVi (As := [.int _]) (e_X7_fail e7) (by decide) mi_X7_fail ml_X7_85 rfl rfl (Nat.le_of_ble_eq_true rfl) rv_6 dX7_childCount_28 ?_
    cases h
    exact z_iret rfl rfl rfl dX7_childCount_31
  · replace h := o_in hc5 h
    refine z_aload_n dX7_childCount_13 0 rfl ?_
    refine z_aload_n dX7_childCount_14 0 rfl ?_
    refine zg_X7_idOf fl_X7_40 dX7_childCount_15 ?_
    refine z_iload_n dX7_childCount_18 1 rfl ?_
    obtain ⟨g9, h⟩ := o_gd h
    replace h := o_dd h
    refine za_idOf g9 dX7_childCount_19 ?_
    obtain ⟨x13, s11, e12, h⟩ := o_bdi h
    refine z_callVi (As := [.int _]) (e_X7_countOf e12) (by decide) mi_X7_countOf ml_X7_102 rfl rfl (Nat.le_of_ble_eq_true rfl) rv_6 dX7_childCount_20 ?_
    refine z_goto (tgt := 31) dX7_childCount_23 (by decide) ?_
    cases h
    exact z_iret rfl rfl rfl dX7_childCount_31
theorem e_X7_childCount {G : o_G} {N : Nat} {r : Int32} {σ' : o_S} {p1 : Int32} {s : o_S} (h : f_X7_childCount N p1 s = some (r, σ')) : o_Ev (o_up G) yX7_childCount cX7_childCount 2 (Option.some Jvm.ClassFile.FieldType.int) 1 [.ref (g_ad G 6), .int p1] s (some (.int r)) σ' := o_Ev.mk rfl (Nat.le_of_ble_eq_true rfl) (s_X7_childCount h)
-- X7_child
set_option maxRecDepth 10000 in
theorem s_X7_child {G : o_G} {N : Nat} {r : Int32} {σ' : o_S} {p1 : Int32} {p2 : Int32} {s : o_S} (h : f_X7_child N p1 p2 s = some (r, σ')) : o_Z (o_up G) RX7 cX7_child (Option.some Jvm.ClassFile.FieldType.int) 3 1 (o_E (o_up G) (some (.int r)) σ') (o_k σ') s 0 [(0, .ref (g_ad G 6)), (1, .int p1), (2, .int p2)] [] := by
  unfold f_X7_child at h
  refine z_aload_n dX7_child_0 0 rfl ?_
  refine z_iconst (v := 0) dX7_child_1 (by decide) ?_
  replace h := o_dd h
  refine zp_X7_thrown fl_X7_71 dX7_child_2 ?_
  refine z_aload_n dX7_child_5 0 rfl ?_
  refine z_iload_n dX7_child_6 1 rfl ?_
  obtain ⟨x4, s2, e3, h⟩ := o_bdi h
  refine z_callVi (As := [.int _]) (e_X7_isNode e3) (by decide) mi_X7_isNode ml_X7_197 rfl rfl (Nat.le_of_ble_eq_true rfl) rv_6 dX7_child_7 ?_
  refine z_if_eq (tgt := 50) dX7_child_10 (by decide) (fun hc5 => ?_) (fun hc5 => ?_)
  · replace h := o_ip hc5 h
    refine z_aload_n dX7_child_50 0 rfl ?_
    refine z_iconst (v := 1) dX7_child_51 (by decide) ?_
    obtain ⟨x8, s6, e7, h⟩ := o_bdi h
    refine z_callVi (As := [.int _]) (e_X7_fail e7) (by decide) mi_X7_fail ml_X7_85 rfl rfl (Nat.le_of_ble_eq_true rfl) rv_6 dX7_child_52 ?_
    cases h
    exact z_iret rfl rfl rfl dX7_child_55
  · replace h := o_in hc5 h
    refine z_iload_n dX7_child_13 2 rfl ?_
    refine z_if_lt (tgt := 50) dX7_child_14 (by decide) (fun hc9 => ?_) (fun hc9 => ?_)
    · replace h := o_ip hc9 h
      refine z_aload_n dX7_child_50 0 rfl ?_
      refine z_iconst (v := 1) dX7_child_51 (by decide) ?_
      obtain ⟨x12, s10, e11, h⟩ := o_bdi h
      refine z_callVi (As := [.int _]) (e_X7_fail e11) (by decide) mi_X7_fail ml_X7_85 rfl rfl (Nat.le_of_ble_eq_true rfl) rv_6 dX7_child_52 ?_
      cases h
      exact z_iret rfl rfl rfl dX7_child_55
    · replace h := o_in hc9 h
      refine z_iload_n dX7_child_17 2 rfl ?_
      refine z_aload_n dX7_child_18 0 rfl ?_
      refine z_aload_n dX7_child_19 0 rfl ?_
      refine zg_X7_idOf fl_X7_40 dX7_child_20 ?_
      refine z_iload_n dX7_child_23 1 rfl ?_
      obtain ⟨g13, h⟩ := o_gd h
      replace h := o_dd h
      refine za_idOf g13 dX7_child_24 ?_
      obtain ⟨x17, s15, e16, h⟩ := o_bdi h
      refine z_callVi (As := [.int _]) (e_X7_countOf e16) (by decide) mi_X7_countOf ml_X7_102 rfl rfl (Nat.le_of_ble_eq_true rfl) rv_6 dX7_child_25 ?_
      refine z_icmp_ge (tgt := 50) dX7_child_28 (by decide) (fun hc18 => ?_) (fun hc18 => ?_)
      · replace h := o_ip hc18 h
        refine z_aload_n dX7_child_50 0 rfl ?_
        refine z_iconst (v := 1) dX7_child_51 (by decide) ?_
        obtain ⟨x21, s19, e20, h⟩ := o_bdi h
        refine z_callVi (As := [.int _]) (e_X7_fail e20) (by decide) mi_X7_fail ml_X7_85 rfl rfl (Nat.le_of_ble_eq_true rfl) rv_6 dX7_child_52 ?_
        cases h
        exact z_iret rfl rfl rfl dX7_child_55
      · replace h := o_in hc18 h
        refine z_aload_n dX7_child_31 0 rfl ?_
        refine zg_X7_numberOf fl_X7_43 dX7_child_32 ?_
        refine z_aload_n dX7_child_35 0 rfl ?_
        refine z_aload_n dX7_child_36 0 rfl ?_
        refine zg_X7_idOf fl_X7_40 dX7_child_37 ?_
        refine z_iload_n dX7_child_40 1 rfl ?_
        obtain ⟨g22, h⟩ := o_gd h
        replace h := o_dd h
        refine za_idOf g22 dX7_child_41 ?_
        refine z_iload_n dX7_child_42 2 rfl ?_
        obtain ⟨x26, s24, e25, h⟩ := o_bdi h
        refine z_callVi (As := [.int _, .int _]) (e_X7_childOf e25) (by decide) mi_X7_childOf ml_X7_109 rfl rfl (Nat.le_of_ble_eq_true rfl) rv_6 dX7_child_43 ?_
        obtain ⟨g27, h⟩ := o_gd h
        replace h := o_dd h
        refine za_numberOf g27 dX7_child_46 ?_
        refine z_goto (tgt := 55) dX7_child_47 (by decide) ?_
        cases h
        exact z_iret rfl rfl rfl dX7_child_55
theorem e_X7_child {G : o_G} {N : Nat} {r : Int32} {σ' : o_S} {p1 : Int32} {p2 : Int32} {s : o_S} (h : f_X7_child N p1 p2 s = some (r, σ')) : o_Ev (o_up G) yX7_child cX7_child 3 (Option.some Jvm.ClassFile.FieldType.int) 1 [.ref (g_ad G 6), .int p1, .int p2] s (some (.int r)) σ' := o_Ev.mk rfl (Nat.le_of_ble_eq_true rfl) (s_X7_child h)
-- X7_line
set_option maxRecDepth 10000 in
theorem s_X7_line {G : o_G} {N : Nat} {r : Int32} {σ' : o_S} {p1 : Int32} {s : o_S} (h : f_X7_line N p1 s = some (r, σ')) : o_Z (o_up G) RX7 cX7_line (Option.some Jvm.ClassFile.FieldType.int) 2 1 (o_E (o_up G) (some (.int r)) σ') (o_k σ') s 0 [(0, .ref (g_ad G 6)), (1, .int p1)] [] := by
  unfold f_X7_line at h
  refine z_aload_n dX7_line_0 0 rfl ?_
  refine z_iconst (v := 0) dX7_line_1 (by decide) ?_
  replace h := o_dd h
  refine zp_X7_thrown fl_X7_71 dX7_line_2 ?_
  refine z_aload_n dX7_line_5 0 rfl ?_
  refine z_iload_n dX7_line_6 1 rfl ?_
  obtain ⟨x4, s2, e3, h⟩ := o_bdi h
  refine z_callVi (As := [.int _]) (e_X7_isNode e3) (by decide) mi_X7_isNode ml_X7_197 rfl rfl (Nat.le_of_ble_eq_true rfl) rv_6 dX7_line_7 ?_
  refine z_if_eq (tgt := 27) dX7_line_10 (by decide) (fun hc5 => ?_) (fun hc5 => ?_)
  · replace h := o_ip hc5 h
    refine z_aload_n dX7_line_27 0 rfl ?_
    refine z_iconst (v := 1) dX7_line_28 (by decide) ?_
    obtain ⟨x8, s6, e7, h⟩ := o_bdi h
    refine z_callVi (As := [.int _]) (e_X7_fail e7) (by decide) mi_X7_fail ml_X7_85 rfl rfl (Nat.le_of_ble_eq_true rfl) rv_6 dX7_line_29 ?_
    cases h
    exact z_iret rfl rfl rfl dX7_line_32
  · replace h := o_in hc5 h
    refine z_aload_n dX7_line_13 0 rfl ?_
    refine zg_X7_lines fl_X7_25 dX7_line_14 ?_
    refine z_aload_n dX7_line_17 0 rfl ?_
    refine zg_X7_idOf fl_X7_40 dX7_line_18 ?_
    refine z_iload_n dX7_line_21 1 rfl ?_
    obtain ⟨g9, h⟩ := o_gd h
    replace h := o_dd h
    refine za_idOf g9 dX7_line_22 ?_
    obtain ⟨g11, h⟩ := o_gd h
    replace h := o_dd h
    refine za_lines g11 dX7_line_23 ?_
    refine z_goto (tgt := 32) dX7_line_24 (by decide) ?_
    cases h
    exact z_iret rfl rfl rfl dX7_line_32
theorem e_X7_line {G : o_G} {N : Nat} {r : Int32} {σ' : o_S} {p1 : Int32} {s : o_S} (h : f_X7_line N p1 s = some (r, σ')) : o_Ev (o_up G) yX7_line cX7_line 2 (Option.some Jvm.ClassFile.FieldType.int) 1 [.ref (g_ad G 6), .int p1] s (some (.int r)) σ' := o_Ev.mk rfl (Nat.le_of_ble_eq_true rfl) (s_X7_line h)
-- X7_column
set_option maxRecDepth 10000 in
theorem s_X7_column {G : o_G} {N : Nat} {r : Int32} {σ' : o_S} {p1 : Int32} {s : o_S} (h : f_X7_column N p1 s = some (r, σ')) : o_Z (o_up G) RX7 cX7_column (Option.some Jvm.ClassFile.FieldType.int) 2 1 (o_E (o_up G) (some (.int r)) σ') (o_k σ') s 0 [(0, .ref (g_ad G 6)), (1, .int p1)] [] := by
  unfold f_X7_column at h
  refine z_aload_n dX7_column_0 0 rfl ?_
  refine z_iconst (v := 0) dX7_column_1 (by decide) ?_
  replace h := o_dd h
  refine zp_X7_thrown fl_X7_71 dX7_column_2 ?_
  refine z_aload_n dX7_column_5 0 rfl ?_
  refine z_iload_n dX7_column_6 1 rfl ?_
  obtain ⟨x4, s2, e3, h⟩ := o_bdi h
  refine z_callVi (As := [.int _]) (e_X7_isNode e3) (by decide) mi_X7_isNode ml_X7_197 rfl rfl (Nat.le_of_ble_eq_true rfl) rv_6 dX7_column_7 ?_
  refine z_if_eq (tgt := 27) dX7_column_10 (by decide) (fun hc5 => ?_) (fun hc5 => ?_)
  · replace h := o_ip hc5 h
    refine z_aload_n dX7_column_27 0 rfl ?_
    refine z_iconst (v := 1) dX7_column_28 (by decide) ?_
    obtain ⟨x8, s6, e7, h⟩ := o_bdi h
    refine z_callVi (As := [.int _]) (e_X7_fail e7) (by decide) mi_X7_fail ml_X7_85 rfl rfl (Nat.le_of_ble_eq_true rfl) rv_6 dX7_column_29 ?_
    cases h
    exact z_iret rfl rfl rfl dX7_column_32
  · replace h := o_in hc5 h
    refine z_aload_n dX7_column_13 0 rfl ?_
    refine zg_X7_columns fl_X7_28 dX7_column_14 ?_
    refine z_aload_n dX7_column_17 0 rfl ?_
    refine zg_X7_idOf fl_X7_40 dX7_column_18 ?_
    refine z_iload_n dX7_column_21 1 rfl ?_
    obtain ⟨g9, h⟩ := o_gd h
    replace h := o_dd h
    refine za_idOf g9 dX7_column_22 ?_
    obtain ⟨g11, h⟩ := o_gd h
    replace h := o_dd h
    refine za_columns g11 dX7_column_23 ?_
    refine z_goto (tgt := 32) dX7_column_24 (by decide) ?_
    cases h
    exact z_iret rfl rfl rfl dX7_column_32
theorem e_X7_column {G : o_G} {N : Nat} {r : Int32} {σ' : o_S} {p1 : Int32} {s : o_S} (h : f_X7_column N p1 s = some (r, σ')) : o_Ev (o_up G) yX7_column cX7_column 2 (Option.some Jvm.ClassFile.FieldType.int) 1 [.ref (g_ad G 6), .int p1] s (some (.int r)) σ' := o_Ev.mk rfl (Nat.le_of_ble_eq_true rfl) (s_X7_column h)
-- X7_value
set_option maxRecDepth 10000 in
theorem s_X7_value {G : o_G} {N : Nat} {r : Int32} {σ' : o_S} {p1 : Int32} {s : o_S} (h : f_X7_value N p1 s = some (r, σ')) : o_Z (o_up G) RX7 cX7_value (Option.some Jvm.ClassFile.FieldType.int) 2 1 (o_E (o_up G) (some (.int r)) σ') (o_k σ') s 0 [(0, .ref (g_ad G 6)), (1, .int p1)] [] := by
  unfold f_X7_value at h
  refine z_aload_n dX7_value_0 0 rfl ?_
  refine z_iconst (v := 0) dX7_value_1 (by decide) ?_
  replace h := o_dd h
  refine zp_X7_thrown fl_X7_71 dX7_value_2 ?_
  refine z_aload_n dX7_value_5 0 rfl ?_
  refine z_iload_n dX7_value_6 1 rfl ?_
  obtain ⟨x4, s2, e3, h⟩ := o_bdi h
  refine z_callVi (As := [.int _]) (e_X7_isNode e3) (by decide) mi_X7_isNode ml_X7_197 rfl rfl (Nat.le_of_ble_eq_true rfl) rv_6 dX7_value_7 ?_
  refine z_if_eq (tgt := 27) dX7_value_10 (by decide) (fun hc5 => ?_) (fun hc5 => ?_)
  · replace h := o_ip hc5 h
    refine z_aload_n dX7_value_27 0 rfl ?_
    refine z_iconst (v := 1) dX7_value_28 (by decide) ?_
    obtain ⟨x8, s6, e7, h⟩ := o_bdi h
    refine z_callVi (As := [.int _]) (e_X7_fail e7) (by decide) mi_X7_fail ml_X7_85 rfl rfl (Nat.le_of_ble_eq_true rfl) rv_6 dX7_value_29 ?_
    cases h
    exact z_iret rfl rfl rfl dX7_value_32
  · replace h := o_in hc5 h
    refine z_aload_n dX7_value_13 0 rfl ?_
    refine zg_X7_values fl_X7_31 dX7_value_14 ?_
    refine z_aload_n dX7_value_17 0 rfl ?_
    refine zg_X7_idOf fl_X7_40 dX7_value_18 ?_
    refine z_iload_n dX7_value_21 1 rfl ?_
    obtain ⟨g9, h⟩ := o_gd h
    replace h := o_dd h
    refine za_idOf g9 dX7_value_22 ?_
    obtain ⟨g11, h⟩ := o_gd h
    replace h := o_dd h
    refine za_values g11 dX7_value_23 ?_
    refine z_goto (tgt := 32) dX7_value_24 (by decide) ?_
    cases h
    exact z_iret rfl rfl rfl dX7_value_32
theorem e_X7_value {G : o_G} {N : Nat} {r : Int32} {σ' : o_S} {p1 : Int32} {s : o_S} (h : f_X7_value N p1 s = some (r, σ')) : o_Ev (o_up G) yX7_value cX7_value 2 (Option.some Jvm.ClassFile.FieldType.int) 1 [.ref (g_ad G 6), .int p1] s (some (.int r)) σ' := o_Ev.mk rfl (Nat.le_of_ble_eq_true rfl) (s_X7_value h)
-- X7_letter
set_option maxRecDepth 10000 in
theorem s_X7_letter {G : o_G} {N : Nat} {r : Int32} {σ' : o_S} {p1 : Int32} {p2 : Int32} {s : o_S} (h : f_X7_letter N p1 p2 s = some (r, σ')) : o_Z (o_up G) RX7 cX7_letter (Option.some Jvm.ClassFile.FieldType.int) 4 1 (o_E (o_up G) (some (.int r)) σ') (o_k σ') s 0 [(0, .ref (g_ad G 6)), (1, .int p1), (2, .int p2)] [] := by
  unfold f_X7_letter at h
  refine z_aload_n dX7_letter_0 0 rfl ?_
  refine z_iconst (v := 0) dX7_letter_1 (by decide) ?_
  replace h := o_dd h
  refine zp_X7_thrown fl_X7_71 dX7_letter_2 ?_
  refine z_aload_n dX7_letter_5 0 rfl ?_
  refine z_iload_n dX7_letter_6 1 rfl ?_
  obtain ⟨x4, s2, e3, h⟩ := o_bdi h
  refine z_callVi (As := [.int _]) (e_X7_isNode e3) (by decide) mi_X7_isNode ml_X7_197 rfl rfl (Nat.le_of_ble_eq_true rfl) rv_6 dX7_letter_7 ?_
  refine z_if_ne (tgt := 19) dX7_letter_10 (by decide) (fun hc5 => ?_) (fun hc5 => ?_)
  · replace h := o_in hc5 h
    refine z_aload_n dX7_letter_19 0 rfl ?_
    refine zg_X7_idOf fl_X7_40 dX7_letter_20 ?_
    refine z_iload_n dX7_letter_23 1 rfl ?_
    obtain ⟨g6, h⟩ := o_gd h
    replace h := o_dd h
    refine za_idOf g6 dX7_letter_24 ?_
    refine z_istore_n (L' := [(3, .int _), (0, .ref _), (1, .int _), (2, .int _)]) dX7_letter_25 (by decide) rfl ?_
    refine z_aload_n dX7_letter_26 1 rfl ?_
    refine zg_X7_kinds fl_X7_13 dX7_letter_27 ?_
    refine z_iload_n dX7_letter_30 0 rfl ?_
    obtain ⟨g8, h⟩ := o_gd h
    replace h := o_dd h
    refine za_kinds g8 dX7_letter_31 ?_
    refine z_iconst (v := 2) dX7_letter_32 (by decide) ?_
    refine z_icmp_ne (tgt := 66) dX7_letter_33 (by decide) (fun hc10 => ?_) (fun hc10 => ?_)
    · replace h := o_in hc10 h
      refine z_iconst (v := (-1)) dX7_letter_66 (by decide) ?_
      cases h
      exact z_iret rfl rfl rfl dX7_letter_67
    · replace h := o_ip hc10 h
      refine z_iload_n dX7_letter_36 3 rfl ?_
      refine z_if_lt (tgt := 66) dX7_letter_37 (by decide) (fun hc11 => ?_) (fun hc11 => ?_)
      · replace h := o_ip hc11 h
        refine z_iconst (v := (-1)) dX7_letter_66 (by decide) ?_
        cases h
        exact z_iret rfl rfl rfl dX7_letter_67
      · replace h := o_in hc11 h
        refine z_iload_n dX7_letter_40 3 rfl ?_
        refine z_aload_n dX7_letter_41 1 rfl ?_
        refine zg_X7_values fl_X7_31 dX7_letter_42 ?_
        refine z_iload_n dX7_letter_45 0 rfl ?_
        obtain ⟨g12, h⟩ := o_gd h
        replace h := o_dd h
        refine za_values g12 dX7_letter_46 ?_
        refine z_icmp_ge (tgt := 66) dX7_letter_47 (by decide) (fun hc14 => ?_) (fun hc14 => ?_)
        · replace h := o_ip hc14 h
          refine z_iconst (v := (-1)) dX7_letter_66 (by decide) ?_
          cases h
          exact z_iret rfl rfl rfl dX7_letter_67
        · replace h := o_in hc14 h
          refine z_aload_n dX7_letter_50 1 rfl ?_
          refine zg_X7_letters fl_X7_37 dX7_letter_51 ?_
          refine z_aload_n dX7_letter_54 1 rfl ?_
          refine zg_X7_starts fl_X7_34 dX7_letter_55 ?_
          refine z_iload_n dX7_letter_58 0 rfl ?_
          obtain ⟨g15, h⟩ := o_gd h
          replace h := o_dd h
          refine za_starts g15 dX7_letter_59 ?_
          refine z_iload_n dX7_letter_60 3 rfl ?_
          refine z_iadd dX7_letter_61 ?_
          obtain ⟨g17, h⟩ := o_gd h
          replace h := o_dd h
          refine za_letters g17 dX7_letter_62 ?_
          refine z_goto (tgt := 67) dX7_letter_63 (by decide) ?_
          cases h
          exact z_iret rfl rfl rfl dX7_letter_67
  · replace h := o_ip hc5 h
    refine z_aload_n dX7_letter_13 0 rfl ?_
    refine z_iconst (v := 1) dX7_letter_14 (by decide) ?_
    obtain ⟨x21, s19, e20, h⟩ := o_bdi h
    refine z_callVi (As := [.int _]) (e_X7_fail e20) (by decide) mi_X7_fail ml_X7_85 rfl rfl (Nat.le_of_ble_eq_true rfl) rv_6 dX7_letter_15 ?_
    cases h
    exact z_iret rfl rfl rfl dX7_letter_18
theorem e_X7_letter {G : o_G} {N : Nat} {r : Int32} {σ' : o_S} {p1 : Int32} {p2 : Int32} {s : o_S} (h : f_X7_letter N p1 p2 s = some (r, σ')) : o_Ev (o_up G) yX7_letter cX7_letter 4 (Option.some Jvm.ClassFile.FieldType.int) 1 [.ref (g_ad G 6), .int p1, .int p2] s (some (.int r)) σ' := o_Ev.mk rfl (Nat.le_of_ble_eq_true rfl) (s_X7_letter h)
-- X7_depthOf
set_option maxRecDepth 10000 in
theorem s_X7_depthOf_b42 {G : o_G} {N : Nat} {k10 : Int32 → Int32 → Int32 → o_S → Option (Int32 × o_S)} {r : Int32} {σ' : o_S} {l2 : Int32} {l4 : Int32} {y0 : Int32} (hk10 : ∀ (z2 : Int32) (z3 : Int32) (z4 : Int32) (s : o_S), k10 z2 z3 z4 s = some (r, σ') → o_Z (o_up G) RX7 cX7_depthOf (Option.some Jvm.ClassFile.FieldType.int) 5 0 (o_E (o_up G) (some (.int r)) σ') (o_k σ') s 10 [(0, .ref (g_ad G 6)), (2, .int z2), (3, .int z3), (4, .int z4)] []) {s : o_S} (h : f_X7_depthOf_b42 N k10 l2 l4 y0 s = some (r, σ')) : o_Z (o_up G) RX7 cX7_depthOf (Option.some Jvm.ClassFile.FieldType.int) 5 0 (o_E (o_up G) (some (.int r)) σ') (o_k σ') s 42 [(0, .ref (g_ad G 6)), (2, .int l2), (4, .int l4)] [.int y0] := by
  unfold f_X7_depthOf_b42 at h
  refine z_iconst (v := 1) dX7_depthOf_42 (by decide) ?_
  refine z_goto (tgt := 47) dX7_depthOf_43 (by decide) ?_
  refine z_iadd dX7_depthOf_47 ?_
  refine z_istore_n (L' := [(3, .int _), (0, .ref _), (2, .int _), (4, .int _)]) dX7_depthOf_48 (by decide) rfl ?_
  refine z_aload_n dX7_depthOf_49 1 rfl ?_
  refine zg_X7_parents fl_X7_16 dX7_depthOf_50 ?_
  refine z_iload dX7_depthOf_53 3 rfl ?_
  obtain ⟨g7, h⟩ := o_gd h
  replace h := o_dd h
  refine za_parents g7 dX7_depthOf_55 ?_
  refine z_istore (L' := [(4, .int _), (3, .int _), (0, .ref _), (2, .int _)]) dX7_depthOf_56 (by decide) rfl ?_
  refine z_goto (tgt := 10) dX7_depthOf_58 (by decide) ?_
  exact o_Z.sub [2, 3, 1, 0] rfl (hk10 _ _ _ _ h)
set_option maxRecDepth 10000 in
theorem s_X7_depthOf_b46 {G : o_G} {N : Nat} {k10 : Int32 → Int32 → Int32 → o_S → Option (Int32 × o_S)} {r : Int32} {σ' : o_S} {l2 : Int32} {l4 : Int32} {y0 : Int32} (hk10 : ∀ (z2 : Int32) (z3 : Int32) (z4 : Int32) (s : o_S), k10 z2 z3 z4 s = some (r, σ') → o_Z (o_up G) RX7 cX7_depthOf (Option.some Jvm.ClassFile.FieldType.int) 5 0 (o_E (o_up G) (some (.int r)) σ') (o_k σ') s 10 [(0, .ref (g_ad G 6)), (2, .int z2), (3, .int z3), (4, .int z4)] []) {s : o_S} (h : f_X7_depthOf_b46 N k10 l2 l4 y0 s = some (r, σ')) : o_Z (o_up G) RX7 cX7_depthOf (Option.some Jvm.ClassFile.FieldType.int) 5 0 (o_E (o_up G) (some (.int r)) σ') (o_k σ') s 46 [(0, .ref (g_ad G 6)), (2, .int l2), (4, .int l4)] [.int y0] := by
  unfold f_X7_depthOf_b46 at h
  refine z_iconst (v := 0) dX7_depthOf_46 (by decide) ?_
  refine z_iadd dX7_depthOf_47 ?_
  refine z_istore_n (L' := [(3, .int _), (0, .ref _), (2, .int _), (4, .int _)]) dX7_depthOf_48 (by decide) rfl ?_
  refine z_aload_n dX7_depthOf_49 1 rfl ?_
  refine zg_X7_parents fl_X7_16 dX7_depthOf_50 ?_
  refine z_iload dX7_depthOf_53 3 rfl ?_
  obtain ⟨g10, h⟩ := o_gd h
  replace h := o_dd h
  refine za_parents g10 dX7_depthOf_55 ?_
  refine z_istore (L' := [(4, .int _), (3, .int _), (0, .ref _), (2, .int _)]) dX7_depthOf_56 (by decide) rfl ?_
  refine z_goto (tgt := 10) dX7_depthOf_58 (by decide) ?_
  exact o_Z.sub [2, 3, 1, 0] rfl (hk10 _ _ _ _ h)
set_option maxRecDepth 10000 in
theorem s_X7_depthOf_L10 {G : o_G} {N : Nat} {r : Int32} {σ' : o_S} : ∀ (n : Nat) (l2 : Int32) (l3 : Int32) (l4 : Int32) (s : o_S), f_X7_depthOf_L10 N n l2 l3 l4 s = some (r, σ') → o_Z (o_up G) RX7 cX7_depthOf (Option.some Jvm.ClassFile.FieldType.int) 5 0 (o_E (o_up G) (some (.int r)) σ') (o_k σ') s 10 [(0, .ref (g_ad G 6)), (2, .int l2), (3, .int l3), (4, .int l4)] [] := by
  intro n
  induction n with
  | zero => intro l2 l3 l4 s h; cases h
  | succ n ih =>
    intro l2 l3 l4 s h
    rw [f_X7_depthOf_L10] at h
    refine z_iload dX7_depthOf_10 3 rfl ?_
    refine z_iconst (v := (-1)) dX7_depthOf_12 (by decide) ?_
    refine z_icmp_eq (tgt := 61) dX7_depthOf_13 (by decide) (fun hc3 => ?_) (fun hc3 => ?_)
    · replace h := o_ip hc3 h
      refine z_iload_n dX7_depthOf_61 2 rfl ?_
      cases h
      exact z_iret rfl rfl rfl dX7_depthOf_62
    · replace h := o_in hc3 h
      refine z_iload_n dX7_depthOf_16 2 rfl ?_
      refine z_aload_n dX7_depthOf_17 0 rfl ?_
      refine zg_X7_kinds fl_X7_13 dX7_depthOf_18 ?_
      refine z_iload dX7_depthOf_21 3 rfl ?_
      obtain ⟨g4, h⟩ := o_gd h
      replace h := o_dd h
      refine za_kinds g4 dX7_depthOf_23 ?_
      refine z_if_eq (tgt := 42) dX7_depthOf_24 (by decide) (fun hc6 => ?_) (fun hc6 => ?_)
      · replace h := o_ip hc6 h
        exact o_Z.sub [0, 1, 3] rfl (s_X7_depthOf_b42 ih h)
      · replace h := o_in hc6 h
        refine z_iload_n dX7_depthOf_27 1 rfl ?_
        refine z_if_eq (tgt := 46) dX7_depthOf_28 (by decide) (fun hc9 => ?_) (fun hc9 => ?_)
        · replace h := o_ip hc9 h
          exact o_Z.sub [0, 1, 3] rfl (s_X7_depthOf_b46 ih h)
        · replace h := o_in hc9 h
          refine z_aload_n dX7_depthOf_31 0 rfl ?_
          refine zg_X7_kinds fl_X7_13 dX7_depthOf_32 ?_
          refine z_iload dX7_depthOf_35 3 rfl ?_
          obtain ⟨g12, h⟩ := o_gd h
          replace h := o_dd h
          refine za_kinds g12 dX7_depthOf_37 ?_
          refine z_iconst (v := 4) dX7_depthOf_38 (by decide) ?_
          refine z_icmp_ne (tgt := 46) dX7_depthOf_39 (by decide) (fun hc14 => ?_) (fun hc14 => ?_)
          · replace h := o_in hc14 h
            exact o_Z.sub [0, 1, 3] rfl (s_X7_depthOf_b46 ih h)
          · replace h := o_ip hc14 h
            exact o_Z.sub [0, 1, 3] rfl (s_X7_depthOf_b42 ih h)
set_option maxRecDepth 10000 in
theorem s_X7_depthOf {G : o_G} {N : Nat} {r : Int32} {σ' : o_S} {p1 : Int32} {p2 : Int32} {s : o_S} (h : f_X7_depthOf N p1 p2 s = some (r, σ')) : o_Z (o_up G) RX7 cX7_depthOf (Option.some Jvm.ClassFile.FieldType.int) 5 0 (o_E (o_up G) (some (.int r)) σ') (o_k σ') s 0 [(0, .ref (g_ad G 6)), (1, .int p1), (2, .int p2)] [] := by
  unfold f_X7_depthOf at h
  refine z_iconst (v := 0) dX7_depthOf_0 (by decide) ?_
  refine z_istore_n (L' := [(3, .int _), (0, .ref _), (1, .int _), (2, .int _)]) dX7_depthOf_1 (by decide) rfl ?_
  refine z_aload_n dX7_depthOf_2 1 rfl ?_
  refine zg_X7_parents fl_X7_16 dX7_depthOf_3 ?_
  refine z_iload_n dX7_depthOf_6 2 rfl ?_
  obtain ⟨g1, h⟩ := o_gd h
  replace h := o_dd h
  refine za_parents g1 dX7_depthOf_7 ?_
  refine z_istore (L' := [(4, .int _), (3, .int _), (0, .ref _), (1, .int _), (2, .int _)]) dX7_depthOf_8 (by decide) rfl ?_
  exact o_Z.sub [2, 4, 1, 0] rfl (s_X7_depthOf_L10 _ _ _ _ _ h)
theorem e_X7_depthOf {G : o_G} {N : Nat} {r : Int32} {σ' : o_S} {p1 : Int32} {p2 : Int32} {s : o_S} (h : f_X7_depthOf N p1 p2 s = some (r, σ')) : o_Ev (o_up G) yX7_depthOf cX7_depthOf 5 (Option.some Jvm.ClassFile.FieldType.int) 0 [.ref (g_ad G 6), .int p1, .int p2] s (some (.int r)) σ' := o_Ev.mk rfl (Nat.le_of_ble_eq_true rfl) (s_X7_depthOf h)
-- X7_depth
set_option maxRecDepth 10000 in
theorem s_X7_depth {G : o_G} {N : Nat} {r : Int32} {σ' : o_S} {p1 : Int32} {s : o_S} (h : f_X7_depth N p1 s = some (r, σ')) : o_Z (o_up G) RX7 cX7_depth (Option.some Jvm.ClassFile.FieldType.int) 2 1 (o_E (o_up G) (some (.int r)) σ') (o_k σ') s 0 [(0, .ref (g_ad G 6)), (1, .int p1)] [] := by
  unfold f_X7_depth at h
  refine z_aload_n dX7_depth_0 0 rfl ?_
  refine z_iconst (v := 0) dX7_depth_1 (by decide) ?_
  replace h := o_dd h
  refine zp_X7_thrown fl_X7_71 dX7_depth_2 ?_
  refine z_aload_n dX7_depth_5 0 rfl ?_
  refine z_iload_n dX7_depth_6 1 rfl ?_
  obtain ⟨x4, s2, e3, h⟩ := o_bdi h
  refine z_callVi (As := [.int _]) (e_X7_isNode e3) (by decide) mi_X7_isNode ml_X7_197 rfl rfl (Nat.le_of_ble_eq_true rfl) rv_6 dX7_depth_7 ?_
  refine z_if_eq (tgt := 27) dX7_depth_10 (by decide) (fun hc5 => ?_) (fun hc5 => ?_)
  · replace h := o_ip hc5 h
    refine z_aload_n dX7_depth_27 0 rfl ?_
    refine z_iconst (v := 1) dX7_depth_28 (by decide) ?_
    obtain ⟨x8, s6, e7, h⟩ := o_bdi h
    refine z_callVi (As := [.int _]) (e_X7_fail e7) (by decide) mi_X7_fail ml_X7_85 rfl rfl (Nat.le_of_ble_eq_true rfl) rv_6 dX7_depth_29 ?_
    cases h
    exact z_iret rfl rfl rfl dX7_depth_32
  · replace h := o_in hc5 h
    refine z_aload_n dX7_depth_13 0 rfl ?_
    refine z_aload_n dX7_depth_14 0 rfl ?_
    refine zg_X7_idOf fl_X7_40 dX7_depth_15 ?_
    refine z_iload_n dX7_depth_18 1 rfl ?_
    obtain ⟨g9, h⟩ := o_gd h
    replace h := o_dd h
    refine za_idOf g9 dX7_depth_19 ?_
    refine z_iconst (v := 0) dX7_depth_20 (by decide) ?_
    obtain ⟨x13, s11, e12, h⟩ := o_bdi h
    refine z_callVi (As := [.int _, .int _]) (e_X7_depthOf e12) (by decide) mi_X7_depthOf ml_X7_200 rfl rfl (Nat.le_of_ble_eq_true rfl) rv_6 dX7_depth_21 ?_
    refine z_goto (tgt := 32) dX7_depth_24 (by decide) ?_
    cases h
    exact z_iret rfl rfl rfl dX7_depth_32
theorem e_X7_depth {G : o_G} {N : Nat} {r : Int32} {σ' : o_S} {p1 : Int32} {s : o_S} (h : f_X7_depth N p1 s = some (r, σ')) : o_Ev (o_up G) yX7_depth cX7_depth 2 (Option.some Jvm.ClassFile.FieldType.int) 1 [.ref (g_ad G 6), .int p1] s (some (.int r)) σ' := o_Ev.mk rfl (Nat.le_of_ble_eq_true rfl) (s_X7_depth h)
-- X7_isFed
set_option maxRecDepth 10000 in
theorem s_X7_isFed_L24 {G : o_G} {N : Nat} {r : Int32} {σ' : o_S} : ∀ (n : Nat) (l1 : Int32) (l2 : Int32) (l3 : Int32) (s : o_S), f_X7_isFed_L24 N n l1 l2 l3 s = some (r, σ') → o_Z (o_up G) RX7 cX7_isFed (Option.some Jvm.ClassFile.FieldType.boolean) 4 0 (o_E (o_up G) (some (.int r)) σ') (o_k σ') s 24 [(0, .ref (g_ad G 6)), (1, .int l1), (2, .int l2), (3, .int l3)] [] := by
  intro n
  induction n with
  | zero => intro l1 l2 l3 s h; cases h
  | succ n ih =>
    intro l1 l2 l3 s h
    rw [f_X7_isFed_L24] at h
    refine z_iload_n dX7_isFed_24 3 rfl ?_
    refine z_iload_n dX7_isFed_25 2 rfl ?_
    refine z_icmp_ge (tgt := 59) dX7_isFed_26 (by decide) (fun hc7 => ?_) (fun hc7 => ?_)
    · replace h := o_ip hc7 h
      refine z_iconst (v := 1) dX7_isFed_59 (by decide) ?_
      cases h
      exact z_zret (by decide) rfl rfl rfl dX7_isFed_60
    · replace h := o_in hc7 h
      refine z_aload_n dX7_isFed_29 0 rfl ?_
      refine zg_X7_letters fl_X7_37 dX7_isFed_30 ?_
      refine z_aload_n dX7_isFed_33 0 rfl ?_
      refine zg_X7_starts fl_X7_34 dX7_isFed_34 ?_
      refine z_iload_n dX7_isFed_37 1 rfl ?_
      obtain ⟨g8, h⟩ := o_gd h
      replace h := o_dd h
      refine za_starts g8 dX7_isFed_38 ?_
      refine z_iload_n dX7_isFed_39 3 rfl ?_
      refine z_iadd dX7_isFed_40 ?_
      obtain ⟨g10, h⟩ := o_gd h
      replace h := o_dd h
      refine za_letters g10 dX7_isFed_41 ?_
      refine z_aload_n dX7_isFed_42 0 rfl ?_
      refine zg_X7_fed fl_X7_53 dX7_isFed_43 ?_
      refine z_iload_n dX7_isFed_46 3 rfl ?_
      obtain ⟨g12, h⟩ := o_gd h
      replace h := o_dd h
      refine za_fed g12 dX7_isFed_47 ?_
      refine z_icmp_eq (tgt := 53) dX7_isFed_48 (by decide) (fun hc14 => ?_) (fun hc14 => ?_)
      · replace h := o_ip hc14 h
        refine z_iinc (v := _ + 1) (L' := [(3, .int _), (0, .ref _), (1, .int _), (2, .int _)]) dX7_isFed_53 3 rfl rfl (by decide) rfl ?_
        refine z_goto (tgt := 24) dX7_isFed_56 (by decide) ?_
        exact o_Z.sub [1, 2, 3, 0] rfl (ih _ _ _ _ h)
      · replace h := o_in hc14 h
        refine z_iconst (v := 0) dX7_isFed_51 (by decide) ?_
        cases h
        exact z_zret (by decide) rfl rfl rfl dX7_isFed_52
set_option maxRecDepth 10000 in
theorem s_X7_isFed {G : o_G} {N : Nat} {r : Int32} {σ' : o_S} {p1 : Int32} {p2 : Int32} {s : o_S} (h : f_X7_isFed N p1 p2 s = some (r, σ')) : o_Z (o_up G) RX7 cX7_isFed (Option.some Jvm.ClassFile.FieldType.boolean) 4 0 (o_E (o_up G) (some (.int r)) σ') (o_k σ') s 0 [(0, .ref (g_ad G 6)), (1, .int p1), (2, .int p2)] [] := by
  unfold f_X7_isFed at h
  refine z_aload_n dX7_isFed_0 0 rfl ?_
  refine zg_X7_kinds fl_X7_13 dX7_isFed_1 ?_
  refine z_iload_n dX7_isFed_4 1 rfl ?_
  obtain ⟨g1, h⟩ := o_gd h
  replace h := o_dd h
  refine za_kinds g1 dX7_isFed_5 ?_
  refine z_iconst (v := 2) dX7_isFed_6 (by decide) ?_
  refine z_icmp_ne (tgt := 20) dX7_isFed_7 (by decide) (fun hc3 => ?_) (fun hc3 => ?_)
  · replace h := o_in hc3 h
    refine z_iconst (v := 0) dX7_isFed_20 (by decide) ?_
    cases h
    exact z_zret (by decide) rfl rfl rfl dX7_isFed_21
  · replace h := o_ip hc3 h
    refine z_aload_n dX7_isFed_10 0 rfl ?_
    refine zg_X7_values fl_X7_31 dX7_isFed_11 ?_
    refine z_iload_n dX7_isFed_14 1 rfl ?_
    obtain ⟨g4, h⟩ := o_gd h
    replace h := o_dd h
    refine za_values g4 dX7_isFed_15 ?_
    refine z_iload_n dX7_isFed_16 2 rfl ?_
    refine z_icmp_eq (tgt := 22) dX7_isFed_17 (by decide) (fun hc6 => ?_) (fun hc6 => ?_)
    · replace h := o_ip hc6 h
      refine z_iconst (v := 0) dX7_isFed_22 (by decide) ?_
      refine z_istore_n (L' := [(3, .int _), (0, .ref _), (1, .int _), (2, .int _)]) dX7_isFed_23 (by decide) rfl ?_
      exact o_Z.sub [1, 2, 3, 0] rfl (s_X7_isFed_L24 _ _ _ _ _ h)
    · replace h := o_in hc6 h
      refine z_iconst (v := 0) dX7_isFed_20 (by decide) ?_
      cases h
      exact z_zret (by decide) rfl rfl rfl dX7_isFed_21
theorem e_X7_isFed {G : o_G} {N : Nat} {r : Int32} {σ' : o_S} {p1 : Int32} {p2 : Int32} {s : o_S} (h : f_X7_isFed N p1 p2 s = some (r, σ')) : o_Ev (o_up G) yX7_isFed cX7_isFed 4 (Option.some Jvm.ClassFile.FieldType.boolean) 0 [.ref (g_ad G 6), .int p1, .int p2] s (some (.int r)) σ' := o_Ev.mk rfl (Nat.le_of_ble_eq_true rfl) (s_X7_isFed h)
-- X7_find
set_option maxRecDepth 10000 in
theorem s_X7_find_L18 {G : o_G} {N : Nat} {r : Int32} {σ' : o_S} : ∀ (n : Nat) (l4 : Int32) (l5 : Int32) (l6 : Int32) (s : o_S), f_X7_find_L18 N n l4 l5 l6 s = some (r, σ') → o_Z (o_up G) RX7 cX7_find (Option.some Jvm.ClassFile.FieldType.int) 7 2 (o_E (o_up G) (some (.int r)) σ') (o_k σ') s 18 [(0, .ref (g_ad G 6)), (4, .int l4), (5, .int l5), (6, .int l6)] [] := by
  intro n
  induction n with
  | zero => intro l4 l5 l6 s h; cases h
  | succ n ih =>
    intro l4 l5 l6 s h
    rw [f_X7_find_L18] at h
    refine z_iload dX7_find_18 3 rfl ?_
    refine z_aload_n dX7_find_20 0 rfl ?_
    refine zg_X7_nodes fl_X7_113 dX7_find_21 ?_
    refine z_icmp_ge (tgt := 68) dX7_find_24 (by decide) (fun hc5 => ?_) (fun hc5 => ?_)
    · replace h := o_ip hc5 h
      refine z_iconst (v := (-1)) dX7_find_68 (by decide) ?_
      cases h
      exact z_iret rfl rfl rfl dX7_find_69
    · replace h := o_in hc5 h
      refine z_iload dX7_find_27 2 rfl ?_
      refine z_if_lt (tgt := 68) dX7_find_29 (by decide) (fun hc6 => ?_) (fun hc6 => ?_)
      · replace h := o_ip hc6 h
        refine z_iconst (v := (-1)) dX7_find_68 (by decide) ?_
        cases h
        exact z_iret rfl rfl rfl dX7_find_69
      · replace h := o_in hc6 h
        refine z_aload_n dX7_find_32 0 rfl ?_
        refine z_aload_n dX7_find_33 0 rfl ?_
        refine zg_X7_idOf fl_X7_40 dX7_find_34 ?_
        refine z_iload dX7_find_37 3 rfl ?_
        obtain ⟨g7, h⟩ := o_gd h
        replace h := o_dd h
        refine za_idOf g7 dX7_find_39 ?_
        refine z_iload dX7_find_40 1 rfl ?_
        obtain ⟨x11, s9, e10, h⟩ := o_bdi h
        refine z_callVi (As := [.int _, .int _]) (e_X7_isFed e10) (by decide) mi_X7_isFed ml_X7_204 rfl rfl (Nat.le_of_ble_eq_true rfl) rv_6 dX7_find_42 ?_
        refine z_if_ne (tgt := 51) dX7_find_45 (by decide) (fun hc12 => ?_) (fun hc12 => ?_)
        · replace h := o_in hc12 h
          refine z_iload dX7_find_51 2 rfl ?_
          refine z_if_ne (tgt := 59) dX7_find_53 (by decide) (fun hc13 => ?_) (fun hc13 => ?_)
          · replace h := o_in hc13 h
            refine z_iinc (v := _ + (-1)) (L' := [(5, .int _), (0, .ref _), (4, .int _), (6, .int _)]) dX7_find_59 2 rfl rfl (by decide) rfl ?_
            refine z_iinc (v := _ + 1) (L' := [(6, .int _), (5, .int _), (0, .ref _), (4, .int _)]) dX7_find_62 3 rfl rfl (by decide) rfl ?_
            refine z_goto (tgt := 18) dX7_find_65 (by decide) ?_
            exact o_Z.sub [2, 3, 1, 0] rfl (ih _ _ _ _ h)
          · replace h := o_ip hc13 h
            refine z_iload dX7_find_56 3 rfl ?_
            cases h
            exact z_iret rfl rfl rfl dX7_find_58
        · replace h := o_ip hc12 h
          refine z_goto (tgt := 62) dX7_find_48 (by decide) ?_
          refine z_iinc (v := _ + 1) (L' := [(6, .int _), (0, .ref _), (4, .int _), (5, .int _)]) dX7_find_62 3 rfl rfl (by decide) rfl ?_
          refine z_goto (tgt := 18) dX7_find_65 (by decide) ?_
          exact o_Z.sub [1, 2, 3, 0] rfl (ih _ _ _ _ h)
set_option maxRecDepth 10000 in
theorem s_X7_find {G : o_G} {N : Nat} {r : Int32} {σ' : o_S} {p1 : Int64} {p2 : Int32} {s : o_S} (h : f_X7_find N p1 p2 s = some (r, σ')) : o_Z (o_up G) RX7 cX7_find (Option.some Jvm.ClassFile.FieldType.int) 7 2 (o_E (o_up G) (some (.int r)) σ') (o_k σ') s 0 [(0, .ref (g_ad G 6)), (1, .long p1), (3, .int p2)] [] := by
  unfold f_X7_find at h
  refine z_aload_n dX7_find_0 0 rfl ?_
  refine z_iconst (v := 0) dX7_find_1 (by decide) ?_
  replace h := o_dd h
  refine zp_X7_thrown fl_X7_71 dX7_find_2 ?_
  refine z_aload_n dX7_find_5 0 rfl ?_
  refine z_lload_n dX7_find_6 1 rfl ?_
  obtain ⟨x4, s2, e3, h⟩ := o_bdi h
  refine z_callVi (As := [.long _]) (e_X7_take e3) (by decide) mi_X7_take ml_X7_81 rfl rfl (Nat.le_of_ble_eq_true rfl) rv_6 dX7_find_7 ?_
  refine z_istore (L' := [(4, .int _), (0, .ref _), (1, .long _), (3, .int _)]) dX7_find_10 (by decide) rfl ?_
  refine z_iload_n dX7_find_12 3 rfl ?_
  refine z_istore (L' := [(5, .int _), (4, .int _), (0, .ref _), (1, .long _), (3, .int _)]) dX7_find_13 (by decide) rfl ?_
  refine z_iconst (v := 0) dX7_find_15 (by decide) ?_
  refine z_istore (L' := [(6, .int _), (5, .int _), (4, .int _), (0, .ref _), (1, .long _), (3, .int _)]) dX7_find_16 (by decide) rfl ?_
  exact o_Z.sub [3, 2, 1, 0] rfl (s_X7_find_L18 _ _ _ _ _ h)
theorem e_X7_find {G : o_G} {N : Nat} {r : Int32} {σ' : o_S} {p1 : Int64} {p2 : Int32} {s : o_S} (h : f_X7_find N p1 p2 s = some (r, σ')) : o_Ev (o_up G) yX7_find cX7_find 7 (Option.some Jvm.ClassFile.FieldType.int) 2 [.ref (g_ad G 6), .long p1, .int p2] s (some (.int r)) σ' := o_Ev.mk rfl (Nat.le_of_ble_eq_true rfl) (s_X7_find h)
-- X7_areSame
set_option maxRecDepth 10000 in
theorem s_X7_areSame_L34 {G : o_G} {N : Nat} {r : Int32} {σ' : o_S} : ∀ (n : Nat) (l1 : Int32) (l2 : Int32) (l3 : Int32) (s : o_S), f_X7_areSame_L34 N n l1 l2 l3 s = some (r, σ') → o_Z (o_up G) RX7 cX7_areSame (Option.some Jvm.ClassFile.FieldType.boolean) 4 0 (o_E (o_up G) (some (.int r)) σ') (o_k σ') s 34 [(0, .ref (g_ad G 6)), (1, .int l1), (2, .int l2), (3, .int l3)] [] := by
  intro n
  induction n with
  | zero => intro l1 l2 l3 s h; cases h
  | succ n ih =>
    intro l1 l2 l3 s h
    rw [f_X7_areSame_L34] at h
    refine z_iload_n dX7_areSame_34 3 rfl ?_
    refine z_aload_n dX7_areSame_35 0 rfl ?_
    refine zg_X7_values fl_X7_31 dX7_areSame_36 ?_
    refine z_iload_n dX7_areSame_39 1 rfl ?_
    obtain ⟨g11, h⟩ := o_gd h
    replace h := o_dd h
    refine za_values g11 dX7_areSame_40 ?_
    refine z_icmp_ge (tgt := 81) dX7_areSame_41 (by decide) (fun hc13 => ?_) (fun hc13 => ?_)
    · replace h := o_ip hc13 h
      refine z_iconst (v := 1) dX7_areSame_81 (by decide) ?_
      cases h
      exact z_zret (by decide) rfl rfl rfl dX7_areSame_82
    · replace h := o_in hc13 h
      refine z_aload_n dX7_areSame_44 0 rfl ?_
      refine zg_X7_letters fl_X7_37 dX7_areSame_45 ?_
      refine z_aload_n dX7_areSame_48 0 rfl ?_
      refine zg_X7_starts fl_X7_34 dX7_areSame_49 ?_
      refine z_iload_n dX7_areSame_52 1 rfl ?_
      obtain ⟨g14, h⟩ := o_gd h
      replace h := o_dd h
      refine za_starts g14 dX7_areSame_53 ?_
      refine z_iload_n dX7_areSame_54 3 rfl ?_
      refine z_iadd dX7_areSame_55 ?_
      obtain ⟨g16, h⟩ := o_gd h
      replace h := o_dd h
      refine za_letters g16 dX7_areSame_56 ?_
      refine z_aload_n dX7_areSame_57 0 rfl ?_
      refine zg_X7_letters fl_X7_37 dX7_areSame_58 ?_
      refine z_aload_n dX7_areSame_61 0 rfl ?_
      refine zg_X7_starts fl_X7_34 dX7_areSame_62 ?_
      refine z_iload_n dX7_areSame_65 2 rfl ?_
      obtain ⟨g18, h⟩ := o_gd h
      replace h := o_dd h
      refine za_starts g18 dX7_areSame_66 ?_
      refine z_iload_n dX7_areSame_67 3 rfl ?_
      refine z_iadd dX7_areSame_68 ?_
      obtain ⟨g20, h⟩ := o_gd h
      replace h := o_dd h
      refine za_letters g20 dX7_areSame_69 ?_
      refine z_icmp_eq (tgt := 75) dX7_areSame_70 (by decide) (fun hc22 => ?_) (fun hc22 => ?_)
      · replace h := o_ip hc22 h
        refine z_iinc (v := _ + 1) (L' := [(3, .int _), (0, .ref _), (1, .int _), (2, .int _)]) dX7_areSame_75 3 rfl rfl (by decide) rfl ?_
        refine z_goto (tgt := 34) dX7_areSame_78 (by decide) ?_
        exact o_Z.sub [1, 2, 3, 0] rfl (ih _ _ _ _ h)
      · replace h := o_in hc22 h
        refine z_iconst (v := 0) dX7_areSame_73 (by decide) ?_
        cases h
        exact z_zret (by decide) rfl rfl rfl dX7_areSame_74
set_option maxRecDepth 10000 in
theorem s_X7_areSame {G : o_G} {N : Nat} {r : Int32} {σ' : o_S} {p1 : Int32} {p2 : Int32} {s : o_S} (h : f_X7_areSame N p1 p2 s = some (r, σ')) : o_Z (o_up G) RX7 cX7_areSame (Option.some Jvm.ClassFile.FieldType.boolean) 4 0 (o_E (o_up G) (some (.int r)) σ') (o_k σ') s 0 [(0, .ref (g_ad G 6)), (1, .int p1), (2, .int p2)] [] := by
  unfold f_X7_areSame at h
  refine z_aload_n dX7_areSame_0 0 rfl ?_
  refine zg_X7_kinds fl_X7_13 dX7_areSame_1 ?_
  refine z_iload_n dX7_areSame_4 1 rfl ?_
  obtain ⟨g1, h⟩ := o_gd h
  replace h := o_dd h
  refine za_kinds g1 dX7_areSame_5 ?_
  refine z_aload_n dX7_areSame_6 0 rfl ?_
  refine zg_X7_kinds fl_X7_13 dX7_areSame_7 ?_
  refine z_iload_n dX7_areSame_10 2 rfl ?_
  obtain ⟨g3, h⟩ := o_gd h
  replace h := o_dd h
  refine za_kinds g3 dX7_areSame_11 ?_
  refine z_icmp_ne (tgt := 30) dX7_areSame_12 (by decide) (fun hc5 => ?_) (fun hc5 => ?_)
  · replace h := o_in hc5 h
    refine z_iconst (v := 0) dX7_areSame_30 (by decide) ?_
    cases h
    exact z_zret (by decide) rfl rfl rfl dX7_areSame_31
  · replace h := o_ip hc5 h
    refine z_aload_n dX7_areSame_15 0 rfl ?_
    refine zg_X7_values fl_X7_31 dX7_areSame_16 ?_
    refine z_iload_n dX7_areSame_19 1 rfl ?_
    obtain ⟨g6, h⟩ := o_gd h
    replace h := o_dd h
    refine za_values g6 dX7_areSame_20 ?_
    refine z_aload_n dX7_areSame_21 0 rfl ?_
    refine zg_X7_values fl_X7_31 dX7_areSame_22 ?_
    refine z_iload_n dX7_areSame_25 2 rfl ?_
    obtain ⟨g8, h⟩ := o_gd h
    replace h := o_dd h
    refine za_values g8 dX7_areSame_26 ?_
    refine z_icmp_eq (tgt := 32) dX7_areSame_27 (by decide) (fun hc10 => ?_) (fun hc10 => ?_)
    · replace h := o_ip hc10 h
      refine z_iconst (v := 0) dX7_areSame_32 (by decide) ?_
      refine z_istore_n (L' := [(3, .int _), (0, .ref _), (1, .int _), (2, .int _)]) dX7_areSame_33 (by decide) rfl ?_
      exact o_Z.sub [1, 2, 3, 0] rfl (s_X7_areSame_L34 _ _ _ _ _ h)
    · replace h := o_in hc10 h
      refine z_iconst (v := 0) dX7_areSame_30 (by decide) ?_
      cases h
      exact z_zret (by decide) rfl rfl rfl dX7_areSame_31
theorem e_X7_areSame {G : o_G} {N : Nat} {r : Int32} {σ' : o_S} {p1 : Int32} {p2 : Int32} {s : o_S} (h : f_X7_areSame N p1 p2 s = some (r, σ')) : o_Ev (o_up G) yX7_areSame cX7_areSame 4 (Option.some Jvm.ClassFile.FieldType.boolean) 0 [.ref (g_ad G 6), .int p1, .int p2] s (some (.int r)) σ' := o_Ev.mk rfl (Nat.le_of_ble_eq_true rfl) (s_X7_areSame h)
-- X7_words
set_option maxRecDepth 10000 in
theorem s_X7_words_b78 {G : o_G} {N : Nat} {k4 : Int32 → Int32 → o_S → Option (Int32 × o_S)} {r : Int32} {σ' : o_S} {l1 : Int32} {l2 : Int32} {l3 : Int32} (hk4 : ∀ (z1 : Int32) (z2 : Int32) (s : o_S), k4 z1 z2 s = some (r, σ') → o_Z (o_up G) RX7 cX7_words (Option.some Jvm.ClassFile.FieldType.int) 5 1 (o_E (o_up G) (some (.int r)) σ') (o_k σ') s 4 [(0, .ref (g_ad G 6)), (1, .int z1), (2, .int z2)] []) {s : o_S} (h : f_X7_words_b78 N k4 l1 l2 l3 s = some (r, σ')) : o_Z (o_up G) RX7 cX7_words (Option.some Jvm.ClassFile.FieldType.int) 5 1 (o_E (o_up G) (some (.int r)) σ') (o_k σ') s 78 [(0, .ref (g_ad G 6)), (1, .int l1), (2, .int l2), (3, .int l3)] [] := by
  unfold f_X7_words_b78 at h
  refine z_iload_n dX7_words_78 1 rfl ?_
  refine z_iload_n dX7_words_79 3 rfl ?_
  refine z_if_eq (tgt := 87) dX7_words_80 (by decide) (fun hc8 => ?_) (fun hc8 => ?_)
  · replace h := o_ip hc8 h
    refine z_iconst (v := 0) dX7_words_87 (by decide) ?_
    refine z_iadd dX7_words_88 ?_
    refine z_istore_n (L' := [(1, .int _), (0, .ref _), (2, .int _), (3, .int _)]) dX7_words_89 (by decide) rfl ?_
    refine z_iinc (v := _ + 1) (L' := [(2, .int _), (1, .int _), (0, .ref _), (3, .int _)]) dX7_words_90 2 rfl rfl (by decide) rfl ?_
    refine z_goto (tgt := 4) dX7_words_93 (by decide) ?_
    exact o_Z.sub [2, 1, 0] rfl (hk4 _ _ _ h)
  · replace h := o_in hc8 h
    refine z_iconst (v := 1) dX7_words_83 (by decide) ?_
    refine z_goto (tgt := 88) dX7_words_84 (by decide) ?_
    refine z_iadd dX7_words_88 ?_
    refine z_istore_n (L' := [(1, .int _), (0, .ref _), (2, .int _), (3, .int _)]) dX7_words_89 (by decide) rfl ?_
    refine z_iinc (v := _ + 1) (L' := [(2, .int _), (1, .int _), (0, .ref _), (3, .int _)]) dX7_words_90 2 rfl rfl (by decide) rfl ?_
    refine z_goto (tgt := 4) dX7_words_93 (by decide) ?_
    exact o_Z.sub [2, 1, 0] rfl (hk4 _ _ _ h)
set_option maxRecDepth 10000 in
theorem s_X7_words_L36 {G : o_G} {N : Nat} {k4 : Int32 → Int32 → o_S → Option (Int32 × o_S)} {r : Int32} {σ' : o_S} (hk4 : ∀ (z1 : Int32) (z2 : Int32) (s : o_S), k4 z1 z2 s = some (r, σ') → o_Z (o_up G) RX7 cX7_words (Option.some Jvm.ClassFile.FieldType.int) 5 1 (o_E (o_up G) (some (.int r)) σ') (o_k σ') s 4 [(0, .ref (g_ad G 6)), (1, .int z1), (2, .int z2)] []) : ∀ (n : Nat) (l1 : Int32) (l2 : Int32) (l3 : Int32) (l4 : Int32) (s : o_S), f_X7_words_L36 N k4 n l1 l2 l3 l4 s = some (r, σ') → o_Z (o_up G) RX7 cX7_words (Option.some Jvm.ClassFile.FieldType.int) 5 1 (o_E (o_up G) (some (.int r)) σ') (o_k σ') s 36 [(0, .ref (g_ad G 6)), (1, .int l1), (2, .int l2), (3, .int l3), (4, .int l4)] [] := by
  intro n
  induction n with
  | zero => intro l1 l2 l3 l4 s h; cases h
  | succ n ih =>
    intro l1 l2 l3 l4 s h
    rw [f_X7_words_L36] at h
    refine z_iload dX7_words_36 4 rfl ?_
    refine z_iload_n dX7_words_38 2 rfl ?_
    refine z_icmp_ge (tgt := 78) dX7_words_39 (by decide) (fun hc7 => ?_) (fun hc7 => ?_)
    · replace h := o_ip hc7 h
      exact o_Z.sub [0, 1, 2, 3] rfl (s_X7_words_b78 hk4 h)
    · replace h := o_in hc7 h
      refine z_iload_n dX7_words_42 3 rfl ?_
      refine z_if_eq (tgt := 78) dX7_words_43 (by decide) (fun hc9 => ?_) (fun hc9 => ?_)
      · replace h := o_ip hc9 h
        exact o_Z.sub [0, 1, 2, 3] rfl (s_X7_words_b78 hk4 h)
      · replace h := o_in hc9 h
        refine z_aload_n dX7_words_46 0 rfl ?_
        refine z_aload_n dX7_words_47 0 rfl ?_
        refine zg_X7_idOf fl_X7_40 dX7_words_48 ?_
        refine z_iload dX7_words_51 4 rfl ?_
        obtain ⟨g10, h⟩ := o_gd h
        replace h := o_dd h
        refine za_idOf g10 dX7_words_53 ?_
        refine z_aload_n dX7_words_54 0 rfl ?_
        refine zg_X7_idOf fl_X7_40 dX7_words_55 ?_
        refine z_iload_n dX7_words_58 2 rfl ?_
        obtain ⟨g12, h⟩ := o_gd h
        replace h := o_dd h
        refine za_idOf g12 dX7_words_59 ?_
        obtain ⟨x16, s14, e15, h⟩ := o_bdi h
        refine z_callVi (As := [.int _, .int _]) (e_X7_areSame e15) (by decide) mi_X7_areSame ml_X7_208 rfl rfl (Nat.le_of_ble_eq_true rfl) rv_6 dX7_words_60 ?_
        refine z_if_ne (tgt := 70) dX7_words_63 (by decide) (fun hc17 => ?_) (fun hc17 => ?_)
        · replace h := o_in hc17 h
          refine z_iconst (v := 0) dX7_words_70 (by decide) ?_
          refine z_istore_n (L' := [(3, .int _), (0, .ref _), (1, .int _), (2, .int _), (4, .int _)]) dX7_words_71 (by decide) rfl ?_
          refine z_iinc (v := _ + 1) (L' := [(4, .int _), (3, .int _), (0, .ref _), (1, .int _), (2, .int _)]) dX7_words_72 4 rfl rfl (by decide) rfl ?_
          refine z_goto (tgt := 36) dX7_words_75 (by decide) ?_
          exact o_Z.sub [2, 3, 4, 1, 0] rfl (ih _ _ _ _ _ h)
        · replace h := o_ip hc17 h
          refine z_iconst (v := 1) dX7_words_66 (by decide) ?_
          refine z_goto (tgt := 71) dX7_words_67 (by decide) ?_
          refine z_istore_n (L' := [(3, .int _), (0, .ref _), (1, .int _), (2, .int _), (4, .int _)]) dX7_words_71 (by decide) rfl ?_
          refine z_iinc (v := _ + 1) (L' := [(4, .int _), (3, .int _), (0, .ref _), (1, .int _), (2, .int _)]) dX7_words_72 4 rfl rfl (by decide) rfl ?_
          refine z_goto (tgt := 36) dX7_words_75 (by decide) ?_
          exact o_Z.sub [2, 3, 4, 1, 0] rfl (ih _ _ _ _ _ h)
set_option maxRecDepth 10000 in
theorem s_X7_words_L4 {G : o_G} {N : Nat} {r : Int32} {σ' : o_S} : ∀ (n : Nat) (l1 : Int32) (l2 : Int32) (s : o_S), f_X7_words_L4 N n l1 l2 s = some (r, σ') → o_Z (o_up G) RX7 cX7_words (Option.some Jvm.ClassFile.FieldType.int) 5 1 (o_E (o_up G) (some (.int r)) σ') (o_k σ') s 4 [(0, .ref (g_ad G 6)), (1, .int l1), (2, .int l2)] [] := by
  intro n
  induction n with
  | zero => intro l1 l2 s h; cases h
  | succ n ih =>
    intro l1 l2 s h
    rw [f_X7_words_L4] at h
    refine z_iload_n dX7_words_4 2 rfl ?_
    refine z_aload_n dX7_words_5 0 rfl ?_
    refine zg_X7_nodes fl_X7_113 dX7_words_6 ?_
    refine z_icmp_ge (tgt := 96) dX7_words_9 (by decide) (fun hc1 => ?_) (fun hc1 => ?_)
    · replace h := o_ip hc1 h
      refine z_iload_n dX7_words_96 1 rfl ?_
      cases h
      exact z_iret rfl rfl rfl dX7_words_97
    · replace h := o_in hc1 h
      refine z_aload_n dX7_words_12 0 rfl ?_
      refine zg_X7_kinds fl_X7_13 dX7_words_13 ?_
      refine z_aload_n dX7_words_16 0 rfl ?_
      refine zg_X7_idOf fl_X7_40 dX7_words_17 ?_
      refine z_iload_n dX7_words_20 2 rfl ?_
      obtain ⟨g2, h⟩ := o_gd h
      replace h := o_dd h
      refine za_idOf g2 dX7_words_21 ?_
      obtain ⟨g4, h⟩ := o_gd h
      replace h := o_dd h
      refine za_kinds g4 dX7_words_22 ?_
      refine z_iconst (v := 2) dX7_words_23 (by decide) ?_
      refine z_icmp_ne (tgt := 31) dX7_words_24 (by decide) (fun hc6 => ?_) (fun hc6 => ?_)
      · replace h := o_in hc6 h
        refine z_iconst (v := 0) dX7_words_31 (by decide) ?_
        refine z_istore_n (L' := [(3, .int _), (0, .ref _), (1, .int _), (2, .int _)]) dX7_words_32 (by decide) rfl ?_
        refine z_iconst (v := 0) dX7_words_33 (by decide) ?_
        refine z_istore (L' := [(4, .int _), (3, .int _), (0, .ref _), (1, .int _), (2, .int _)]) dX7_words_34 (by decide) rfl ?_
        exact o_Z.sub [2, 3, 4, 1, 0] rfl (s_X7_words_L36 ih _ _ _ _ _ _ h)
      · replace h := o_ip hc6 h
        refine z_iconst (v := 1) dX7_words_27 (by decide) ?_
        refine z_goto (tgt := 32) dX7_words_28 (by decide) ?_
        refine z_istore_n (L' := [(3, .int _), (0, .ref _), (1, .int _), (2, .int _)]) dX7_words_32 (by decide) rfl ?_
        refine z_iconst (v := 0) dX7_words_33 (by decide) ?_
        refine z_istore (L' := [(4, .int _), (3, .int _), (0, .ref _), (1, .int _), (2, .int _)]) dX7_words_34 (by decide) rfl ?_
        exact o_Z.sub [2, 3, 4, 1, 0] rfl (s_X7_words_L36 ih _ _ _ _ _ _ h)
set_option maxRecDepth 10000 in
theorem s_X7_words {G : o_G} {N : Nat} {r : Int32} {σ' : o_S} {s : o_S} (h : f_X7_words N  s = some (r, σ')) : o_Z (o_up G) RX7 cX7_words (Option.some Jvm.ClassFile.FieldType.int) 5 1 (o_E (o_up G) (some (.int r)) σ') (o_k σ') s 0 [(0, .ref (g_ad G 6))] [] := by
  unfold f_X7_words at h
  refine z_iconst (v := 0) dX7_words_0 (by decide) ?_
  refine z_istore_n (L' := [(1, .int _), (0, .ref _)]) dX7_words_1 (by decide) rfl ?_
  refine z_iconst (v := 0) dX7_words_2 (by decide) ?_
  refine z_istore_n (L' := [(2, .int _), (1, .int _), (0, .ref _)]) dX7_words_3 (by decide) rfl ?_
  exact o_Z.sub [2, 1, 0] rfl (s_X7_words_L4 _ _ _ _ h)
theorem e_X7_words {G : o_G} {N : Nat} {r : Int32} {σ' : o_S} {s : o_S} (h : f_X7_words N  s = some (r, σ')) : o_Ev (o_up G) yX7_words cX7_words 5 (Option.some Jvm.ClassFile.FieldType.int) 1 [.ref (g_ad G 6)] s (some (.int r)) σ' := o_Ev.mk rfl (Nat.le_of_ble_eq_true rfl) (s_X7_words h)
-- X7_wordCount
set_option maxRecDepth 10000 in
theorem s_X7_wordCount {G : o_G} {N : Nat} {r : Int32} {σ' : o_S} {s : o_S} (h : f_X7_wordCount N  s = some (r, σ')) : o_Z (o_up G) RX7 cX7_wordCount (Option.some Jvm.ClassFile.FieldType.int) 1 2 (o_E (o_up G) (some (.int r)) σ') (o_k σ') s 0 [(0, .ref (g_ad G 6))] [] := by
  unfold f_X7_wordCount at h
  refine z_aload_n dX7_wordCount_0 0 rfl ?_
  refine z_iconst (v := 0) dX7_wordCount_1 (by decide) ?_
  replace h := o_dd h
  refine zp_X7_thrown fl_X7_71 dX7_wordCount_2 ?_
  refine z_aload_n dX7_wordCount_5 0 rfl ?_
  obtain ⟨x4, s2, e3, h⟩ := o_bdi h
  refine z_callVi (As := []) (e_X7_words e3) (by decide) mi_X7_words ml_X7_211 rfl rfl (Nat.le_of_ble_eq_true rfl) rv_6 dX7_wordCount_6 ?_
  cases h
  exact z_iret rfl rfl rfl dX7_wordCount_9
theorem e_X7_wordCount {G : o_G} {N : Nat} {r : Int32} {σ' : o_S} {s : o_S} (h : f_X7_wordCount N  s = some (r, σ')) : o_Ev (o_up G) yX7_wordCount cX7_wordCount 1 (Option.some Jvm.ClassFile.FieldType.int) 2 [.ref (g_ad G 6)] s (some (.int r)) σ' := o_Ev.mk rfl (Nat.le_of_ble_eq_true rfl) (s_X7_wordCount h)
-- X7_isItem
set_option maxRecDepth 10000 in
theorem s_X7_isItem {G : o_G} {N : Nat} {r : Int32} {σ' : o_S} {p1 : Int32} {s : o_S} (h : f_X7_isItem N p1 s = some (r, σ')) : o_Z (o_up G) RX7 cX7_isItem (Option.some Jvm.ClassFile.FieldType.boolean) 2 0 (o_E (o_up G) (some (.int r)) σ') (o_k σ') s 0 [(0, .ref (g_ad G 6)), (1, .int p1)] [] := by
  unfold f_X7_isItem at h
  refine z_aload_n dX7_isItem_0 0 rfl ?_
  refine zg_X7_kinds fl_X7_13 dX7_isItem_1 ?_
  refine z_aload_n dX7_isItem_4 0 rfl ?_
  refine zg_X7_idOf fl_X7_40 dX7_isItem_5 ?_
  refine z_iload_n dX7_isItem_8 1 rfl ?_
  obtain ⟨g1, h⟩ := o_gd h
  replace h := o_dd h
  refine za_idOf g1 dX7_isItem_9 ?_
  obtain ⟨g3, h⟩ := o_gd h
  replace h := o_dd h
  refine za_kinds g3 dX7_isItem_10 ?_
  refine z_iconst (v := 1) dX7_isItem_11 (by decide) ?_
  refine z_icmp_ne (tgt := 19) dX7_isItem_12 (by decide) (fun hc5 => ?_) (fun hc5 => ?_)
  · replace h := o_in hc5 h
    refine z_iconst (v := 0) dX7_isItem_19 (by decide) ?_
    cases h
    exact z_zret (by decide) rfl rfl rfl dX7_isItem_20
  · replace h := o_ip hc5 h
    refine z_iconst (v := 1) dX7_isItem_15 (by decide) ?_
    refine z_goto (tgt := 20) dX7_isItem_16 (by decide) ?_
    cases h
    exact z_zret (by decide) rfl rfl rfl dX7_isItem_20
theorem e_X7_isItem {G : o_G} {N : Nat} {r : Int32} {σ' : o_S} {p1 : Int32} {s : o_S} (h : f_X7_isItem N p1 s = some (r, σ')) : o_Ev (o_up G) yX7_isItem cX7_isItem 2 (Option.some Jvm.ClassFile.FieldType.boolean) 0 [.ref (g_ad G 6), .int p1] s (some (.int r)) σ' := o_Ev.mk rfl (Nat.le_of_ble_eq_true rfl) (s_X7_isItem h)
-- X7_remove
set_option maxRecDepth 10000 in
theorem s_X7_remove {G : o_G} {N : Nat} {r : Int32} {σ' : o_S} {p1 : Int32} {s : o_S} (h : f_X7_remove N p1 s = some (r, σ')) : o_Z (o_up G) RX7 cX7_remove (Option.some Jvm.ClassFile.FieldType.int) 2 2 (o_E (o_up G) (some (.int r)) σ') (o_k σ') s 0 [(0, .ref (g_ad G 6)), (1, .int p1)] [] := by
  unfold f_X7_remove at h
  refine z_aload_n dX7_remove_0 0 rfl ?_
  refine z_iconst (v := 0) dX7_remove_1 (by decide) ?_
  replace h := o_dd h
  refine zp_X7_thrown fl_X7_71 dX7_remove_2 ?_
  refine z_aload_n dX7_remove_5 0 rfl ?_
  refine z_iload_n dX7_remove_6 1 rfl ?_
  obtain ⟨x4, s2, e3, h⟩ := o_bdi h
  refine z_callVi (As := [.int _]) (e_X7_isNode e3) (by decide) mi_X7_isNode ml_X7_197 rfl rfl (Nat.le_of_ble_eq_true rfl) rv_6 dX7_remove_7 ?_
  refine z_if_ne (tgt := 19) dX7_remove_10 (by decide) (fun hc5 => ?_) (fun hc5 => ?_)
  · replace h := o_in hc5 h
    refine z_aload_n dX7_remove_19 0 rfl ?_
    refine z_iload_n dX7_remove_20 1 rfl ?_
    obtain ⟨x8, s6, e7, h⟩ := o_bdi h
    refine z_callVi (As := [.int _]) (e_X7_isItem e7) (by decide) mi_X7_isItem ml_X7_214 rfl rfl (Nat.le_of_ble_eq_true rfl) rv_6 dX7_remove_21 ?_
    refine z_if_ne (tgt := 33) dX7_remove_24 (by decide) (fun hc9 => ?_) (fun hc9 => ?_)
    · replace h := o_in hc9 h
      refine z_aload_n dX7_remove_33 0 rfl ?_
      refine z_aload_n dX7_remove_34 0 rfl ?_
      refine zg_X7_idOf fl_X7_40 dX7_remove_35 ?_
      refine z_iload_n dX7_remove_38 1 rfl ?_
      obtain ⟨g10, h⟩ := o_gd h
      replace h := o_dd h
      refine za_idOf g10 dX7_remove_39 ?_
      obtain ⟨s12, e13, h⟩ := o_bdv h
      refine z_callVv (As := [.int _]) (e_X7_takeOut e13) (by decide) mi_X7_takeOut ml_X7_217 rfl rfl (Nat.le_of_ble_eq_true rfl) rv_6 dX7_remove_40 ?_
      refine z_aload_n dX7_remove_43 0 rfl ?_
      obtain ⟨s14, e15, h⟩ := o_bdv h
      refine z_callVv (As := []) (e_X7_number e15) (by decide) mi_X7_number ml_X7_68 rfl rfl (Nat.le_of_ble_eq_true rfl) rv_6 dX7_remove_44 ?_
      refine z_aload_n dX7_remove_47 0 rfl ?_
      refine zg_X7_nodes fl_X7_113 dX7_remove_48 ?_
      cases h
      exact z_iret rfl rfl rfl dX7_remove_51
    · replace h := o_ip hc9 h
      refine z_aload_n dX7_remove_27 0 rfl ?_
      refine z_iconst (v := 2) dX7_remove_28 (by decide) ?_
      obtain ⟨x18, s16, e17, h⟩ := o_bdi h
      refine z_callVi (As := [.int _]) (e_X7_fail e17) (by decide) mi_X7_fail ml_X7_85 rfl rfl (Nat.le_of_ble_eq_true rfl) rv_6 dX7_remove_29 ?_
      cases h
      exact z_iret rfl rfl rfl dX7_remove_32
  · replace h := o_ip hc5 h
    refine z_aload_n dX7_remove_13 0 rfl ?_
    refine z_iconst (v := 1) dX7_remove_14 (by decide) ?_
    obtain ⟨x21, s19, e20, h⟩ := o_bdi h
    refine z_callVi (As := [.int _]) (e_X7_fail e20) (by decide) mi_X7_fail ml_X7_85 rfl rfl (Nat.le_of_ble_eq_true rfl) rv_6 dX7_remove_15 ?_
    cases h
    exact z_iret rfl rfl rfl dX7_remove_18
theorem e_X7_remove {G : o_G} {N : Nat} {r : Int32} {σ' : o_S} {p1 : Int32} {s : o_S} (h : f_X7_remove N p1 s = some (r, σ')) : o_Ev (o_up G) yX7_remove cX7_remove 2 (Option.some Jvm.ClassFile.FieldType.int) 2 [.ref (g_ad G 6), .int p1] s (some (.int r)) σ' := o_Ev.mk rfl (Nat.le_of_ble_eq_true rfl) (s_X7_remove h)
-- X7_isWithin
set_option maxRecDepth 10000 in
theorem s_X7_isWithin_L2 {G : o_G} {N : Nat} {r : Int32} {σ' : o_S} : ∀ (n : Nat) (l2 : Int32) (l3 : Int32) (s : o_S), f_X7_isWithin_L2 N n l2 l3 s = some (r, σ') → o_Z (o_up G) RX7 cX7_isWithin (Option.some Jvm.ClassFile.FieldType.boolean) 4 0 (o_E (o_up G) (some (.int r)) σ') (o_k σ') s 2 [(0, .ref (g_ad G 6)), (2, .int l2), (3, .int l3)] [] := by
  intro n
  induction n with
  | zero => intro l2 l3 s h; cases h
  | succ n ih =>
    intro l2 l3 s h
    rw [f_X7_isWithin_L2] at h
    refine z_iload_n dX7_isWithin_2 2 rfl ?_
    refine z_iconst (v := (-1)) dX7_isWithin_3 (by decide) ?_
    refine z_icmp_eq (tgt := 22) dX7_isWithin_4 (by decide) (fun hc1 => ?_) (fun hc1 => ?_)
    · replace h := o_ip hc1 h
      refine z_iload_n dX7_isWithin_22 2 rfl ?_
      refine z_iload_n dX7_isWithin_23 1 rfl ?_
      refine z_icmp_ne (tgt := 31) dX7_isWithin_24 (by decide) (fun hc2 => ?_) (fun hc2 => ?_)
      · replace h := o_in hc2 h
        refine z_iconst (v := 0) dX7_isWithin_31 (by decide) ?_
        cases h
        exact z_zret (by decide) rfl rfl rfl dX7_isWithin_32
      · replace h := o_ip hc2 h
        refine z_iconst (v := 1) dX7_isWithin_27 (by decide) ?_
        refine z_goto (tgt := 32) dX7_isWithin_28 (by decide) ?_
        cases h
        exact z_zret (by decide) rfl rfl rfl dX7_isWithin_32
    · replace h := o_in hc1 h
      refine z_iload_n dX7_isWithin_7 2 rfl ?_
      refine z_iload_n dX7_isWithin_8 1 rfl ?_
      refine z_icmp_eq (tgt := 22) dX7_isWithin_9 (by decide) (fun hc3 => ?_) (fun hc3 => ?_)
      · replace h := o_ip hc3 h
        refine z_iload_n dX7_isWithin_22 2 rfl ?_
        refine z_iload_n dX7_isWithin_23 1 rfl ?_
        refine z_icmp_ne (tgt := 31) dX7_isWithin_24 (by decide) (fun hc4 => ?_) (fun hc4 => ?_)
        · replace h := o_in hc4 h
          refine z_iconst (v := 0) dX7_isWithin_31 (by decide) ?_
          cases h
          exact z_zret (by decide) rfl rfl rfl dX7_isWithin_32
        · replace h := o_ip hc4 h
          refine z_iconst (v := 1) dX7_isWithin_27 (by decide) ?_
          refine z_goto (tgt := 32) dX7_isWithin_28 (by decide) ?_
          cases h
          exact z_zret (by decide) rfl rfl rfl dX7_isWithin_32
      · replace h := o_in hc3 h
        refine z_aload_n dX7_isWithin_12 0 rfl ?_
        refine zg_X7_parents fl_X7_16 dX7_isWithin_13 ?_
        refine z_iload_n dX7_isWithin_16 2 rfl ?_
        obtain ⟨g5, h⟩ := o_gd h
        replace h := o_dd h
        refine za_parents g5 dX7_isWithin_17 ?_
        refine z_istore_n (L' := [(3, .int _), (0, .ref _), (2, .int _)]) dX7_isWithin_18 (by decide) rfl ?_
        refine z_goto (tgt := 2) dX7_isWithin_19 (by decide) ?_
        exact o_Z.sub [1, 2, 0] rfl (ih _ _ _ h)
set_option maxRecDepth 10000 in
theorem s_X7_isWithin {G : o_G} {N : Nat} {r : Int32} {σ' : o_S} {p1 : Int32} {p2 : Int32} {s : o_S} (h : f_X7_isWithin N p1 p2 s = some (r, σ')) : o_Z (o_up G) RX7 cX7_isWithin (Option.some Jvm.ClassFile.FieldType.boolean) 4 0 (o_E (o_up G) (some (.int r)) σ') (o_k σ') s 0 [(0, .ref (g_ad G 6)), (1, .int p1), (2, .int p2)] [] := by
  unfold f_X7_isWithin at h
  refine z_iload_n dX7_isWithin_0 1 rfl ?_
  refine z_istore_n (L' := [(3, .int _), (0, .ref _), (1, .int _), (2, .int _)]) dX7_isWithin_1 (by decide) rfl ?_
  exact o_Z.sub [1, 3, 0] rfl (s_X7_isWithin_L2 _ _ _ _ h)
theorem e_X7_isWithin {G : o_G} {N : Nat} {r : Int32} {σ' : o_S} {p1 : Int32} {p2 : Int32} {s : o_S} (h : f_X7_isWithin N p1 p2 s = some (r, σ')) : o_Ev (o_up G) yX7_isWithin cX7_isWithin 4 (Option.some Jvm.ClassFile.FieldType.boolean) 0 [.ref (g_ad G 6), .int p1, .int p2] s (some (.int r)) σ' := o_Ev.mk rfl (Nat.le_of_ble_eq_true rfl) (s_X7_isWithin h)
-- X7_heightOf
set_option maxRecDepth 10000 in
theorem s_X7_heightOf_b28 {G : o_G} {N : Nat} {k4 : Int32 → Int32 → Int32 → o_S → Option (Int32 × o_S)} {r : Int32} {σ' : o_S} {l1 : Int32} {l2 : Int32} {l3 : Int32} (hk4 : ∀ (z1 : Int32) (z2 : Int32) (z3 : Int32) (s : o_S), k4 z1 z2 z3 s = some (r, σ') → o_Z (o_up G) RX7 cX7_heightOf (Option.some Jvm.ClassFile.FieldType.int) 4 1 (o_E (o_up G) (some (.int r)) σ') (o_k σ') s 4 [(0, .ref (g_ad G 6)), (1, .int z1), (2, .int z2), (3, .int z3)] []) {s : o_S} (h : f_X7_heightOf_b28 N k4 l1 l2 l3 s = some (r, σ')) : o_Z (o_up G) RX7 cX7_heightOf (Option.some Jvm.ClassFile.FieldType.int) 4 1 (o_E (o_up G) (some (.int r)) σ') (o_k σ') s 28 [(0, .ref (g_ad G 6)), (1, .int l1), (2, .int l2), (3, .int l3)] [] := by
  unfold f_X7_heightOf_b28 at h
  refine z_iload_n dX7_heightOf_28 2 rfl ?_
  refine z_aload_n dX7_heightOf_29 0 rfl ?_
  refine z_iload_n dX7_heightOf_30 3 rfl ?_
  refine z_iconst (v := 1) dX7_heightOf_31 (by decide) ?_
  obtain ⟨x7, s5, e6, h⟩ := o_bdi h
  refine z_callVi (As := [.int _, .int _]) (e_X7_depthOf e6) (by decide) mi_X7_depthOf ml_X7_200 rfl rfl (Nat.le_of_ble_eq_true rfl) rv_6 dX7_heightOf_32 ?_
  refine z_aload_n dX7_heightOf_35 0 rfl ?_
  refine z_iload_n dX7_heightOf_36 1 rfl ?_
  refine z_iconst (v := 1) dX7_heightOf_37 (by decide) ?_
  obtain ⟨x10, s8, e9, h⟩ := o_bdi h
  refine z_callVi (As := [.int _, .int _]) (e_X7_depthOf e9) (by decide) mi_X7_depthOf ml_X7_200 rfl rfl (Nat.le_of_ble_eq_true rfl) rv_6 dX7_heightOf_38 ?_
  refine z_isub dX7_heightOf_41 ?_
  refine z_iconst (v := 1) dX7_heightOf_42 (by decide) ?_
  refine z_iadd dX7_heightOf_43 ?_
  refine z_mmax (by decide) ml_X7_220 (Nat.le_of_ble_eq_true rfl) dX7_heightOf_44 ?_
  refine z_istore_n (L' := [(2, .int _), (0, .ref _), (1, .int _), (3, .int _)]) dX7_heightOf_47 (by decide) rfl ?_
  refine z_aload_n dX7_heightOf_48 1 rfl ?_
  refine z_iload_n dX7_heightOf_49 3 rfl ?_
  refine z_iload_n dX7_heightOf_50 2 rfl ?_
  obtain ⟨x13, s11, e12, h⟩ := o_bdi h
  refine z_callVi (As := [.int _, .int _]) (e_X7_following e12) (by decide) mi_X7_following ml_X7_116 rfl rfl (Nat.le_of_ble_eq_true rfl) rv_6 dX7_heightOf_51 ?_
  refine z_istore_n (L' := [(3, .int _), (2, .int _), (0, .ref _), (1, .int _)]) dX7_heightOf_54 (by decide) rfl ?_
  refine z_goto (tgt := 4) dX7_heightOf_55 (by decide) ?_
  exact o_Z.sub [2, 3, 1, 0] rfl (hk4 _ _ _ _ h)
set_option maxRecDepth 10000 in
theorem s_X7_heightOf_L4 {G : o_G} {N : Nat} {r : Int32} {σ' : o_S} : ∀ (n : Nat) (l1 : Int32) (l2 : Int32) (l3 : Int32) (s : o_S), f_X7_heightOf_L4 N n l1 l2 l3 s = some (r, σ') → o_Z (o_up G) RX7 cX7_heightOf (Option.some Jvm.ClassFile.FieldType.int) 4 1 (o_E (o_up G) (some (.int r)) σ') (o_k σ') s 4 [(0, .ref (g_ad G 6)), (1, .int l1), (2, .int l2), (3, .int l3)] [] := by
  intro n
  induction n with
  | zero => intro l1 l2 l3 s h; cases h
  | succ n ih =>
    intro l1 l2 l3 s h
    rw [f_X7_heightOf_L4] at h
    refine z_iload_n dX7_heightOf_4 3 rfl ?_
    refine z_iconst (v := (-1)) dX7_heightOf_5 (by decide) ?_
    refine z_icmp_eq (tgt := 58) dX7_heightOf_6 (by decide) (fun hc1 => ?_) (fun hc1 => ?_)
    · replace h := o_ip hc1 h
      refine z_iload_n dX7_heightOf_58 2 rfl ?_
      cases h
      exact z_iret rfl rfl rfl dX7_heightOf_59
    · replace h := o_in hc1 h
      refine z_aload_n dX7_heightOf_9 0 rfl ?_
      refine zg_X7_kinds fl_X7_13 dX7_heightOf_10 ?_
      refine z_iload_n dX7_heightOf_13 3 rfl ?_
      obtain ⟨g2, h⟩ := o_gd h
      replace h := o_dd h
      refine za_kinds g2 dX7_heightOf_14 ?_
      refine z_if_eq (tgt := 28) dX7_heightOf_15 (by decide) (fun hc4 => ?_) (fun hc4 => ?_)
      · replace h := o_ip hc4 h
        exact o_Z.sub [0, 1, 2, 3] rfl (s_X7_heightOf_b28 ih h)
      · replace h := o_in hc4 h
        refine z_aload_n dX7_heightOf_18 0 rfl ?_
        refine zg_X7_kinds fl_X7_13 dX7_heightOf_19 ?_
        refine z_iload_n dX7_heightOf_22 3 rfl ?_
        obtain ⟨g14, h⟩ := o_gd h
        replace h := o_dd h
        refine za_kinds g14 dX7_heightOf_23 ?_
        refine z_iconst (v := 4) dX7_heightOf_24 (by decide) ?_
        refine z_icmp_ne (tgt := 48) dX7_heightOf_25 (by decide) (fun hc16 => ?_) (fun hc16 => ?_)
        · replace h := o_in hc16 h
          refine z_aload_n dX7_heightOf_48 0 rfl ?_
          refine z_iload_n dX7_heightOf_49 3 rfl ?_
          refine z_iload_n dX7_heightOf_50 1 rfl ?_
          obtain ⟨x19, s17, e18, h⟩ := o_bdi h
          refine z_callVi (As := [.int _, .int _]) (e_X7_following e18) (by decide) mi_X7_following ml_X7_116 rfl rfl (Nat.le_of_ble_eq_true rfl) rv_6 dX7_heightOf_51 ?_
          refine z_istore_n (L' := [(3, .int _), (0, .ref _), (1, .int _), (2, .int _)]) dX7_heightOf_54 (by decide) rfl ?_
          refine z_goto (tgt := 4) dX7_heightOf_55 (by decide) ?_
          exact o_Z.sub [1, 2, 3, 0] rfl (ih _ _ _ _ h)
        · replace h := o_ip hc16 h
          exact o_Z.sub [0, 1, 2, 3] rfl (s_X7_heightOf_b28 ih h)
set_option maxRecDepth 10000 in
theorem s_X7_heightOf {G : o_G} {N : Nat} {r : Int32} {σ' : o_S} {p1 : Int32} {s : o_S} (h : f_X7_heightOf N p1 s = some (r, σ')) : o_Z (o_up G) RX7 cX7_heightOf (Option.some Jvm.ClassFile.FieldType.int) 4 1 (o_E (o_up G) (some (.int r)) σ') (o_k σ') s 0 [(0, .ref (g_ad G 6)), (1, .int p1)] [] := by
  unfold f_X7_heightOf at h
  refine z_iconst (v := 0) dX7_heightOf_0 (by decide) ?_
  refine z_istore_n (L' := [(2, .int _), (0, .ref _), (1, .int _)]) dX7_heightOf_1 (by decide) rfl ?_
  refine z_iload_n dX7_heightOf_2 2 rfl ?_
  refine z_istore_n (L' := [(3, .int _), (2, .int _), (0, .ref _), (1, .int _)]) dX7_heightOf_3 (by decide) rfl ?_
  exact o_Z.sub [2, 3, 1, 0] rfl (s_X7_heightOf_L4 _ _ _ _ _ h)
theorem e_X7_heightOf {G : o_G} {N : Nat} {r : Int32} {σ' : o_S} {p1 : Int32} {s : o_S} (h : f_X7_heightOf N p1 s = some (r, σ')) : o_Ev (o_up G) yX7_heightOf cX7_heightOf 4 (Option.some Jvm.ClassFile.FieldType.int) 1 [.ref (g_ad G 6), .int p1] s (some (.int r)) σ' := o_Ev.mk rfl (Nat.le_of_ble_eq_true rfl) (s_X7_heightOf h)
-- X7_move
set_option maxRecDepth 10000 in
theorem s_X7_move_b123 {G : o_G} {N : Nat} {r : Int32} {σ' : o_S} {l3 : Int32} {l4 : Int32} {l5 : Int32} {y0 : Int32} {y1 : Int32} {s : o_S} (h : f_X7_move_b123 N l3 l4 l5 y0 y1 s = some (r, σ')) : o_Z (o_up G) RX7 cX7_move (Option.some Jvm.ClassFile.FieldType.int) 7 2 (o_E (o_up G) (some (.int r)) σ') (o_k σ') s 123 [(0, .ref (g_ad G 6)), (3, .int l3), (4, .int l4), (5, .int l5)] [.int y0, .int y1] := by
  unfold f_X7_move_b123 at h
  refine z_isub dX7_move_123 ?_
  refine z_istore (L' := [(6, .int _), (0, .ref _), (3, .int _), (4, .int _), (5, .int _)]) dX7_move_124 (by decide) rfl ?_
  refine z_iload_n dX7_move_126 2 rfl ?_
  refine z_if_lt (tgt := 136) dX7_move_127 (by decide) (fun hc49 => ?_) (fun hc49 => ?_)
  · replace h := o_ip hc49 h
    refine z_aload_n dX7_move_136 1 rfl ?_
    refine z_iconst (v := 2) dX7_move_137 (by decide) ?_
    obtain ⟨x52, s50, e51, h⟩ := o_bdi h
    refine z_callVi (As := [.int _]) (e_X7_fail e51) (by decide) mi_X7_fail ml_X7_85 rfl rfl (Nat.le_of_ble_eq_true rfl) rv_6 dX7_move_138 ?_
    cases h
    exact z_iret rfl rfl rfl dX7_move_141
  · replace h := o_in hc49 h
    refine z_iload_n dX7_move_130 2 rfl ?_
    refine z_iload dX7_move_131 0 rfl ?_
    refine z_icmp_le (tgt := 142) dX7_move_133 (by decide) (fun hc53 => ?_) (fun hc53 => ?_)
    · replace h := o_ip hc53 h
      refine z_aload_n dX7_move_142 1 rfl ?_
      refine z_iload dX7_move_143 3 rfl ?_
      obtain ⟨s54, e55, h⟩ := o_bdv h
      refine z_callVv (As := [.int _]) (e_X7_takeOut e55) (by decide) mi_X7_takeOut ml_X7_217 rfl rfl (Nat.le_of_ble_eq_true rfl) rv_6 dX7_move_145 ?_
      refine z_aload_n dX7_move_148 1 rfl ?_
      refine z_iload dX7_move_149 3 rfl ?_
      refine z_iload dX7_move_151 4 rfl ?_
      refine z_iload_n dX7_move_153 2 rfl ?_
      obtain ⟨s56, e57, h⟩ := o_bdv h
      refine z_callVv (As := [.int _, .int _, .int _]) (e_X7_insert e57) (by decide) mi_X7_insert ml_X7_105 rfl rfl (Nat.le_of_ble_eq_true rfl) rv_6 dX7_move_154 ?_
      refine z_aload_n dX7_move_157 1 rfl ?_
      obtain ⟨s58, e59, h⟩ := o_bdv h
      refine z_callVv (As := []) (e_X7_number e59) (by decide) mi_X7_number ml_X7_68 rfl rfl (Nat.le_of_ble_eq_true rfl) rv_6 dX7_move_158 ?_
      refine z_aload_n dX7_move_161 1 rfl ?_
      refine zg_X7_numberOf fl_X7_43 dX7_move_162 ?_
      refine z_iload dX7_move_165 3 rfl ?_
      obtain ⟨g60, h⟩ := o_gd h
      replace h := o_dd h
      refine za_numberOf g60 dX7_move_167 ?_
      cases h
      exact z_iret rfl rfl rfl dX7_move_168
    · replace h := o_in hc53 h
      refine z_aload_n dX7_move_136 1 rfl ?_
      refine z_iconst (v := 2) dX7_move_137 (by decide) ?_
      obtain ⟨x64, s62, e63, h⟩ := o_bdi h
      refine z_callVi (As := [.int _]) (e_X7_fail e63) (by decide) mi_X7_fail ml_X7_85 rfl rfl (Nat.le_of_ble_eq_true rfl) rv_6 dX7_move_138 ?_
      cases h
      exact z_iret rfl rfl rfl dX7_move_141
set_option maxRecDepth 10000 in
theorem s_X7_move {G : o_G} {N : Nat} {r : Int32} {σ' : o_S} {p1 : Int32} {p2 : Int32} {p3 : Int32} {s : o_S} (h : f_X7_move N p1 p2 p3 s = some (r, σ')) : o_Z (o_up G) RX7 cX7_move (Option.some Jvm.ClassFile.FieldType.int) 7 2 (o_E (o_up G) (some (.int r)) σ') (o_k σ') s 0 [(0, .ref (g_ad G 6)), (1, .int p1), (2, .int p2), (3, .int p3)] [] := by
  unfold f_X7_move at h
  refine z_aload_n dX7_move_0 0 rfl ?_
  refine z_iconst (v := 0) dX7_move_1 (by decide) ?_
  replace h := o_dd h
  refine zp_X7_thrown fl_X7_71 dX7_move_2 ?_
  refine z_aload_n dX7_move_5 0 rfl ?_
  refine z_iload_n dX7_move_6 1 rfl ?_
  obtain ⟨x4, s2, e3, h⟩ := o_bdi h
  refine z_callVi (As := [.int _]) (e_X7_isNode e3) (by decide) mi_X7_isNode ml_X7_197 rfl rfl (Nat.le_of_ble_eq_true rfl) rv_6 dX7_move_7 ?_
  refine z_if_eq (tgt := 21) dX7_move_10 (by decide) (fun hc5 => ?_) (fun hc5 => ?_)
  · replace h := o_ip hc5 h
    refine z_aload_n dX7_move_21 0 rfl ?_
    refine z_iconst (v := 1) dX7_move_22 (by decide) ?_
    obtain ⟨x8, s6, e7, h⟩ := o_bdi h
    refine z_callVi (As := [.int _]) (e_X7_fail e7) (by decide) mi_X7_fail ml_X7_85 rfl rfl (Nat.le_of_ble_eq_true rfl) rv_6 dX7_move_23 ?_
    cases h
    exact z_iret rfl rfl rfl dX7_move_26
  · replace h := o_in hc5 h
    refine z_aload_n dX7_move_13 0 rfl ?_
    refine z_iload_n dX7_move_14 2 rfl ?_
    obtain ⟨x11, s9, e10, h⟩ := o_bdi h
    refine z_callVi (As := [.int _]) (e_X7_isNode e10) (by decide) mi_X7_isNode ml_X7_197 rfl rfl (Nat.le_of_ble_eq_true rfl) rv_6 dX7_move_15 ?_
    refine z_if_ne (tgt := 27) dX7_move_18 (by decide) (fun hc12 => ?_) (fun hc12 => ?_)
    · replace h := o_in hc12 h
      refine z_aload_n dX7_move_27 0 rfl ?_
      refine zg_X7_idOf fl_X7_40 dX7_move_28 ?_
      refine z_iload_n dX7_move_31 1 rfl ?_
      obtain ⟨g13, h⟩ := o_gd h
      replace h := o_dd h
      refine za_idOf g13 dX7_move_32 ?_
      refine z_istore (L' := [(4, .int _), (0, .ref _), (1, .int _), (2, .int _), (3, .int _)]) dX7_move_33 (by decide) rfl ?_
      refine z_aload_n dX7_move_35 1 rfl ?_
      refine zg_X7_idOf fl_X7_40 dX7_move_36 ?_
      refine z_iload_n dX7_move_39 3 rfl ?_
      obtain ⟨g15, h⟩ := o_gd h
      replace h := o_dd h
      refine za_idOf g15 dX7_move_40 ?_
      refine z_istore (L' := [(5, .int _), (4, .int _), (0, .ref _), (1, .int _), (2, .int _), (3, .int _)]) dX7_move_41 (by decide) rfl ?_
      refine z_aload_n dX7_move_43 2 rfl ?_
      refine zg_X7_kinds fl_X7_13 dX7_move_44 ?_
      refine z_iload dX7_move_47 1 rfl ?_
      obtain ⟨g17, h⟩ := o_gd h
      replace h := o_dd h
      refine za_kinds g17 dX7_move_49 ?_
      refine z_iconst (v := 1) dX7_move_50 (by decide) ?_
      refine z_icmp_ne (tgt := 94) dX7_move_51 (by decide) (fun hc19 => ?_) (fun hc19 => ?_)
      · replace h := o_in hc19 h
        refine z_aload_n dX7_move_94 2 rfl ?_
        refine z_iconst (v := 2) dX7_move_95 (by decide) ?_
        obtain ⟨x22, s20, e21, h⟩ := o_bdi h
        refine z_callVi (As := [.int _]) (e_X7_fail e21) (by decide) mi_X7_fail ml_X7_85 rfl rfl (Nat.le_of_ble_eq_true rfl) rv_6 dX7_move_96 ?_
        cases h
        exact z_iret rfl rfl rfl dX7_move_99
      · replace h := o_ip hc19 h
        refine z_aload_n dX7_move_54 2 rfl ?_
        refine zg_X7_kinds fl_X7_13 dX7_move_55 ?_
        refine z_iload dX7_move_58 0 rfl ?_
        obtain ⟨g23, h⟩ := o_gd h
        replace h := o_dd h
        refine za_kinds g23 dX7_move_60 ?_
        refine z_if_ne (tgt := 94) dX7_move_61 (by decide) (fun hc25 => ?_) (fun hc25 => ?_)
        · replace h := o_in hc25 h
          refine z_aload_n dX7_move_94 2 rfl ?_
          refine z_iconst (v := 2) dX7_move_95 (by decide) ?_
          obtain ⟨x28, s26, e27, h⟩ := o_bdi h
          refine z_callVi (As := [.int _]) (e_X7_fail e27) (by decide) mi_X7_fail ml_X7_85 rfl rfl (Nat.le_of_ble_eq_true rfl) rv_6 dX7_move_96 ?_
          cases h
          exact z_iret rfl rfl rfl dX7_move_99
        · replace h := o_ip hc25 h
          refine z_aload_n dX7_move_64 2 rfl ?_
          refine z_iload dX7_move_65 0 rfl ?_
          refine z_iload dX7_move_67 1 rfl ?_
          obtain ⟨x31, s29, e30, h⟩ := o_bdi h
          refine z_callVi (As := [.int _, .int _]) (e_X7_isWithin e30) (by decide) mi_X7_isWithin ml_X7_225 rfl rfl (Nat.le_of_ble_eq_true rfl) rv_6 dX7_move_69 ?_
          refine z_if_ne (tgt := 94) dX7_move_72 (by decide) (fun hc32 => ?_) (fun hc32 => ?_)
          · replace h := o_in hc32 h
            refine z_aload_n dX7_move_94 2 rfl ?_
            refine z_iconst (v := 2) dX7_move_95 (by decide) ?_
            obtain ⟨x35, s33, e34, h⟩ := o_bdi h
            refine z_callVi (As := [.int _]) (e_X7_fail e34) (by decide) mi_X7_fail ml_X7_85 rfl rfl (Nat.le_of_ble_eq_true rfl) rv_6 dX7_move_96 ?_
            cases h
            exact z_iret rfl rfl rfl dX7_move_99
          · replace h := o_ip hc32 h
            refine z_aload_n dX7_move_75 2 rfl ?_
            refine z_iload dX7_move_76 0 rfl ?_
            refine z_iconst (v := 1) dX7_move_78 (by decide) ?_
            obtain ⟨x38, s36, e37, h⟩ := o_bdi h
            refine z_callVi (As := [.int _, .int _]) (e_X7_depthOf e37) (by decide) mi_X7_depthOf ml_X7_200 rfl rfl (Nat.le_of_ble_eq_true rfl) rv_6 dX7_move_79 ?_
            refine z_aload_n dX7_move_82 2 rfl ?_
            refine z_iload dX7_move_83 1 rfl ?_
            obtain ⟨x41, s39, e40, h⟩ := o_bdi h
            refine z_callVi (As := [.int _]) (e_X7_heightOf e40) (by decide) mi_X7_heightOf ml_X7_228 rfl rfl (Nat.le_of_ble_eq_true rfl) rv_6 dX7_move_85 ?_
            refine z_iadd dX7_move_88 ?_
            refine z_bipush (v := 30) dX7_move_89 (by decide) ?_
            refine z_icmp_le (tgt := 100) dX7_move_91 (by decide) (fun hc42 => ?_) (fun hc42 => ?_)
            · replace h := o_ip hc42 h
              refine z_aload_n dX7_move_100 2 rfl ?_
              refine z_iload dX7_move_101 0 rfl ?_
              obtain ⟨x45, s43, e44, h⟩ := o_bdi h
              refine z_callVi (As := [.int _]) (e_X7_countOf e44) (by decide) mi_X7_countOf ml_X7_102 rfl rfl (Nat.le_of_ble_eq_true rfl) rv_6 dX7_move_103 ?_
              refine z_aload_n dX7_move_106 2 rfl ?_
              refine zg_X7_parents fl_X7_16 dX7_move_107 ?_
              refine z_iload dX7_move_110 1 rfl ?_
              obtain ⟨g46, h⟩ := o_gd h
              replace h := o_dd h
              refine za_parents g46 dX7_move_112 ?_
              refine z_iload dX7_move_113 0 rfl ?_
              refine z_icmp_ne (tgt := 122) dX7_move_115 (by decide) (fun hc48 => ?_) (fun hc48 => ?_)
              · replace h := o_in hc48 h
                refine z_iconst (v := 0) dX7_move_122 (by decide) ?_
                exact o_Z.sub [2, 5, 1, 0] rfl (s_X7_move_b123 h)
              · replace h := o_ip hc48 h
                refine z_iconst (v := 1) dX7_move_118 (by decide) ?_
                refine z_goto (tgt := 123) dX7_move_119 (by decide) ?_
                exact o_Z.sub [2, 5, 1, 0] rfl (s_X7_move_b123 h)
            · replace h := o_in hc42 h
              refine z_aload_n dX7_move_94 2 rfl ?_
              refine z_iconst (v := 2) dX7_move_95 (by decide) ?_
              obtain ⟨x67, s65, e66, h⟩ := o_bdi h
              refine z_callVi (As := [.int _]) (e_X7_fail e66) (by decide) mi_X7_fail ml_X7_85 rfl rfl (Nat.le_of_ble_eq_true rfl) rv_6 dX7_move_96 ?_
              cases h
              exact z_iret rfl rfl rfl dX7_move_99
    · replace h := o_ip hc12 h
      refine z_aload_n dX7_move_21 0 rfl ?_
      refine z_iconst (v := 1) dX7_move_22 (by decide) ?_
      obtain ⟨x70, s68, e69, h⟩ := o_bdi h
      refine z_callVi (As := [.int _]) (e_X7_fail e69) (by decide) mi_X7_fail ml_X7_85 rfl rfl (Nat.le_of_ble_eq_true rfl) rv_6 dX7_move_23 ?_
      cases h
      exact z_iret rfl rfl rfl dX7_move_26
theorem e_X7_move {G : o_G} {N : Nat} {r : Int32} {σ' : o_S} {p1 : Int32} {p2 : Int32} {p3 : Int32} {s : o_S} (h : f_X7_move N p1 p2 p3 s = some (r, σ')) : o_Ev (o_up G) yX7_move cX7_move 7 (Option.some Jvm.ClassFile.FieldType.int) 2 [.ref (g_ad G 6), .int p1, .int p2, .int p3] s (some (.int r)) σ' := o_Ev.mk rfl (Nat.le_of_ble_eq_true rfl) (s_X7_move h)
-- X7_rename
set_option maxRecDepth 10000 in
theorem s_X7_rename_L162 {G : o_G} {N : Nat} {r : Int32} {σ' : o_S} : ∀ (n : Nat) (l4 : Int32) (l6 : Int32) (l7 : Int32) (s : o_S), f_X7_rename_L162 N n l4 l6 l7 s = some (r, σ') → o_Z (o_up G) RX7 cX7_rename (Option.some Jvm.ClassFile.FieldType.int) 8 2 (o_E (o_up G) (some (.int r)) σ') (o_k σ') s 162 [(0, .ref (g_ad G 6)), (4, .int l4), (6, .int l6), (7, .int l7)] [] := by
  intro n
  induction n with
  | zero => intro l4 l6 l7 s h; cases h
  | succ n ih =>
    intro l4 l6 l7 s h
    rw [f_X7_rename_L162] at h
    refine z_iload dX7_rename_162 3 rfl ?_
    refine z_iload dX7_rename_164 1 rfl ?_
    refine z_icmp_ge (tgt := 197) dX7_rename_166 (by decide) (fun hc24 => ?_) (fun hc24 => ?_)
    · replace h := o_ip hc24 h
      refine z_iload dX7_rename_197 1 rfl ?_
      cases h
      exact z_iret rfl rfl rfl dX7_rename_199
    · replace h := o_in hc24 h
      refine z_aload_n dX7_rename_169 0 rfl ?_
      refine zg_X7_letters fl_X7_37 dX7_rename_170 ?_
      refine z_aload_n dX7_rename_173 0 rfl ?_
      refine zg_X7_starts fl_X7_34 dX7_rename_174 ?_
      refine z_iload dX7_rename_177 2 rfl ?_
      obtain ⟨g25, h⟩ := o_gd h
      replace h := o_dd h
      refine za_starts g25 dX7_rename_179 ?_
      refine z_iload dX7_rename_180 3 rfl ?_
      refine z_iadd dX7_rename_182 ?_
      refine z_aload_n dX7_rename_183 0 rfl ?_
      refine zg_X7_fed fl_X7_53 dX7_rename_184 ?_
      refine z_iload dX7_rename_187 3 rfl ?_
      obtain ⟨g27, h⟩ := o_gd h
      replace h := o_dd h
      refine za_fed g27 dX7_rename_189 ?_
      obtain ⟨g29, h⟩ := o_gd h
      replace h := o_dd h
      refine zs_letters g29 dX7_rename_190 ?_
      refine z_iinc (v := _ + 1) (L' := [(7, .int _), (0, .ref _), (4, .int _), (6, .int _)]) dX7_rename_191 3 rfl rfl (by decide) rfl ?_
      refine z_goto (tgt := 162) dX7_rename_194 (by decide) ?_
      exact o_Z.sub [1, 2, 3, 0] rfl (ih _ _ _ _ h)
set_option maxRecDepth 10000 in
theorem s_X7_rename_L53 {G : o_G} {N : Nat} {r : Int32} {σ' : o_S} : ∀ (n : Nat) (l1 : Int32) (l4 : Int32) (l5 : Int32) (l6 : Int32) (s : o_S), f_X7_rename_L53 N n l1 l4 l5 l6 s = some (r, σ') → o_Z (o_up G) RX7 cX7_rename (Option.some Jvm.ClassFile.FieldType.int) 8 2 (o_E (o_up G) (some (.int r)) σ') (o_k σ') s 53 [(0, .ref (g_ad G 6)), (1, .int l1), (4, .int l4), (5, .int l5), (6, .int l6)] [] := by
  intro n
  induction n with
  | zero => intro l1 l4 l5 l6 s h; cases h
  | succ n ih =>
    intro l1 l4 l5 l6 s h
    rw [f_X7_rename_L53] at h
    refine z_iload dX7_rename_53 4 rfl ?_
    refine z_iload dX7_rename_55 2 rfl ?_
    refine z_icmp_ge (tgt := 104) dX7_rename_57 (by decide) (fun hc10 => ?_) (fun hc10 => ?_)
    · replace h := o_ip hc10 h
      refine z_aload_n dX7_rename_104 0 rfl ?_
      refine zg_X7_idOf fl_X7_40 dX7_rename_105 ?_
      refine z_iload_n dX7_rename_108 1 rfl ?_
      obtain ⟨g11, h⟩ := o_gd h
      replace h := o_dd h
      refine za_idOf g11 dX7_rename_109 ?_
      refine z_istore (L' := [(6, .int _), (0, .ref _), (1, .int _), (4, .int _), (5, .int _)]) dX7_rename_110 (by decide) rfl ?_
      refine z_aload_n dX7_rename_112 1 rfl ?_
      refine zg_X7_kinds fl_X7_13 dX7_rename_113 ?_
      refine z_iload dX7_rename_116 0 rfl ?_
      obtain ⟨g13, h⟩ := o_gd h
      replace h := o_dd h
      refine za_kinds g13 dX7_rename_118 ?_
      refine z_iconst (v := 2) dX7_rename_119 (by decide) ?_
      refine z_icmp_ne (tgt := 128) dX7_rename_120 (by decide) (fun hc15 => ?_) (fun hc15 => ?_)
      · replace h := o_in hc15 h
        refine z_aload_n dX7_rename_128 1 rfl ?_
        refine z_iconst (v := 2) dX7_rename_129 (by decide) ?_
        obtain ⟨x18, s16, e17, h⟩ := o_bdi h
        refine z_callVi (As := [.int _]) (e_X7_fail e17) (by decide) mi_X7_fail ml_X7_85 rfl rfl (Nat.le_of_ble_eq_true rfl) rv_6 dX7_rename_130 ?_
        cases h
        exact z_iret rfl rfl rfl dX7_rename_133
      · replace h := o_ip hc15 h
        refine z_iload dX7_rename_123 4 rfl ?_
        refine z_if_ne (tgt := 134) dX7_rename_125 (by decide) (fun hc19 => ?_) (fun hc19 => ?_)
        · replace h := o_in hc19 h
          refine z_aload_n dX7_rename_134 1 rfl ?_
          refine zg_X7_starts fl_X7_34 dX7_rename_135 ?_
          refine z_iload dX7_rename_138 0 rfl ?_
          refine z_sipush (v := 600) dX7_rename_140 (by decide) ?_
          refine z_bipush (v := 8) dX7_rename_143 (by decide) ?_
          refine z_iload dX7_rename_145 0 rfl ?_
          refine z_imul dX7_rename_147 ?_
          refine z_iadd dX7_rename_148 ?_
          obtain ⟨g20, h⟩ := o_gd h
          replace h := o_dd h
          refine zs_starts g20 dX7_rename_149 ?_
          refine z_aload_n dX7_rename_150 1 rfl ?_
          refine zg_X7_values fl_X7_31 dX7_rename_151 ?_
          refine z_iload dX7_rename_154 0 rfl ?_
          refine z_iload dX7_rename_156 3 rfl ?_
          obtain ⟨g22, h⟩ := o_gd h
          replace h := o_dd h
          refine zs_values g22 dX7_rename_158 ?_
          refine z_iconst (v := 0) dX7_rename_159 (by decide) ?_
          refine z_istore (L' := [(7, .int _), (6, .int _), (0, .ref _), (1, .int _), (4, .int _), (5, .int _)]) dX7_rename_160 (by decide) rfl ?_
          exact o_Z.sub [2, 4, 1, 0] rfl (s_X7_rename_L162 _ _ _ _ _ h)
        · replace h := o_ip hc19 h
          refine z_aload_n dX7_rename_128 1 rfl ?_
          refine z_iconst (v := 2) dX7_rename_129 (by decide) ?_
          obtain ⟨x33, s31, e32, h⟩ := o_bdi h
          refine z_callVi (As := [.int _]) (e_X7_fail e32) (by decide) mi_X7_fail ml_X7_85 rfl rfl (Nat.le_of_ble_eq_true rfl) rv_6 dX7_rename_130 ?_
          cases h
          exact z_iret rfl rfl rfl dX7_rename_133
    · replace h := o_in hc10 h
      refine z_iload dX7_rename_60 3 rfl ?_
      refine z_if_eq (tgt := 95) dX7_rename_62 (by decide) (fun hc34 => ?_) (fun hc34 => ?_)
      · replace h := o_ip hc34 h
        refine z_iconst (v := 0) dX7_rename_95 (by decide) ?_
        refine z_istore (L' := [(5, .int _), (0, .ref _), (1, .int _), (4, .int _), (6, .int _)]) dX7_rename_96 (by decide) rfl ?_
        refine z_iinc (v := _ + 1) (L' := [(6, .int _), (5, .int _), (0, .ref _), (1, .int _), (4, .int _)]) dX7_rename_98 4 rfl rfl (by decide) rfl ?_
        refine z_goto (tgt := 53) dX7_rename_101 (by decide) ?_
        exact o_Z.sub [2, 3, 4, 1, 0] rfl (ih _ _ _ _ _ h)
      · replace h := o_in hc34 h
        refine z_aload_n dX7_rename_65 0 rfl ?_
        refine zg_X7_fed fl_X7_53 dX7_rename_66 ?_
        refine z_iload dX7_rename_69 4 rfl ?_
        obtain ⟨g35, h⟩ := o_gd h
        replace h := o_dd h
        refine za_fed g35 dX7_rename_71 ?_
        obtain ⟨x39, s37, e38, h⟩ := o_bdi h
        refine z_callSi (As := [.int _]) (e_X7_isLetter e38) (by decide) mi_X7_isLetter ml_X7_140 rfl rfl (Nat.le_of_ble_eq_true rfl) dX7_rename_72 ?_
        refine z_if_ne (tgt := 91) dX7_rename_75 (by decide) (fun hc40 => ?_) (fun hc40 => ?_)
        · replace h := o_in hc40 h
          refine z_iconst (v := 1) dX7_rename_91 (by decide) ?_
          refine z_goto (tgt := 96) dX7_rename_92 (by decide) ?_
          refine z_istore (L' := [(5, .int _), (0, .ref _), (1, .int _), (4, .int _), (6, .int _)]) dX7_rename_96 (by decide) rfl ?_
          refine z_iinc (v := _ + 1) (L' := [(6, .int _), (5, .int _), (0, .ref _), (1, .int _), (4, .int _)]) dX7_rename_98 4 rfl rfl (by decide) rfl ?_
          refine z_goto (tgt := 53) dX7_rename_101 (by decide) ?_
          exact o_Z.sub [2, 3, 4, 1, 0] rfl (ih _ _ _ _ _ h)
        · replace h := o_ip hc40 h
          refine z_aload_n dX7_rename_78 0 rfl ?_
          refine zg_X7_fed fl_X7_53 dX7_rename_79 ?_
          refine z_iload dX7_rename_82 4 rfl ?_
          obtain ⟨g41, h⟩ := o_gd h
          replace h := o_dd h
          refine za_fed g41 dX7_rename_84 ?_
          obtain ⟨x45, s43, e44, h⟩ := o_bdi h
          refine z_callSi (As := [.int _]) (e_X7_isDigit e44) (by decide) mi_X7_isDigit ml_X7_144 rfl rfl (Nat.le_of_ble_eq_true rfl) dX7_rename_85 ?_
          refine z_if_eq (tgt := 95) dX7_rename_88 (by decide) (fun hc46 => ?_) (fun hc46 => ?_)
          · replace h := o_ip hc46 h
            refine z_iconst (v := 0) dX7_rename_95 (by decide) ?_
            refine z_istore (L' := [(5, .int _), (0, .ref _), (1, .int _), (4, .int _), (6, .int _)]) dX7_rename_96 (by decide) rfl ?_
            refine z_iinc (v := _ + 1) (L' := [(6, .int _), (5, .int _), (0, .ref _), (1, .int _), (4, .int _)]) dX7_rename_98 4 rfl rfl (by decide) rfl ?_
            refine z_goto (tgt := 53) dX7_rename_101 (by decide) ?_
            exact o_Z.sub [2, 3, 4, 1, 0] rfl (ih _ _ _ _ _ h)
          · replace h := o_in hc46 h
            refine z_iconst (v := 1) dX7_rename_91 (by decide) ?_
            refine z_goto (tgt := 96) dX7_rename_92 (by decide) ?_
            refine z_istore (L' := [(5, .int _), (0, .ref _), (1, .int _), (4, .int _), (6, .int _)]) dX7_rename_96 (by decide) rfl ?_
            refine z_iinc (v := _ + 1) (L' := [(6, .int _), (5, .int _), (0, .ref _), (1, .int _), (4, .int _)]) dX7_rename_98 4 rfl rfl (by decide) rfl ?_
            refine z_goto (tgt := 53) dX7_rename_101 (by decide) ?_
            exact o_Z.sub [2, 3, 4, 1, 0] rfl (ih _ _ _ _ _ h)
set_option maxRecDepth 10000 in
theorem s_X7_rename {G : o_G} {N : Nat} {r : Int32} {σ' : o_S} {p1 : Int32} {p2 : Int64} {s : o_S} (h : f_X7_rename N p1 p2 s = some (r, σ')) : o_Z (o_up G) RX7 cX7_rename (Option.some Jvm.ClassFile.FieldType.int) 8 2 (o_E (o_up G) (some (.int r)) σ') (o_k σ') s 0 [(0, .ref (g_ad G 6)), (1, .int p1), (2, .long p2)] [] := by
  unfold f_X7_rename at h
  refine z_aload_n dX7_rename_0 0 rfl ?_
  refine z_iconst (v := 0) dX7_rename_1 (by decide) ?_
  replace h := o_dd h
  refine zp_X7_thrown fl_X7_71 dX7_rename_2 ?_
  refine z_aload_n dX7_rename_5 0 rfl ?_
  refine z_iload_n dX7_rename_6 1 rfl ?_
  obtain ⟨x4, s2, e3, h⟩ := o_bdi h
  refine z_callVi (As := [.int _]) (e_X7_isNode e3) (by decide) mi_X7_isNode ml_X7_197 rfl rfl (Nat.le_of_ble_eq_true rfl) rv_6 dX7_rename_7 ?_
  refine z_if_ne (tgt := 19) dX7_rename_10 (by decide) (fun hc5 => ?_) (fun hc5 => ?_)
  · replace h := o_in hc5 h
    refine z_aload_n dX7_rename_19 0 rfl ?_
    refine z_lload_n dX7_rename_20 2 rfl ?_
    obtain ⟨x8, s6, e7, h⟩ := o_bdi h
    refine z_callVi (As := [.long _]) (e_X7_take e7) (by decide) mi_X7_take ml_X7_81 rfl rfl (Nat.le_of_ble_eq_true rfl) rv_6 dX7_rename_21 ?_
    refine z_istore (L' := [(4, .int _), (0, .ref _), (1, .int _), (2, .long _)]) dX7_rename_24 (by decide) rfl ?_
    refine z_iload dX7_rename_26 0 rfl ?_
    refine z_if_le (tgt := 47) dX7_rename_28 (by decide) (fun hc9 => ?_) (fun hc9 => ?_)
    · replace h := o_ip hc9 h
      refine z_iconst (v := 0) dX7_rename_47 (by decide) ?_
      refine z_istore (L' := [(5, .int _), (4, .int _), (0, .ref _), (1, .int _), (2, .long _)]) dX7_rename_48 (by decide) rfl ?_
      refine z_iconst (v := 0) dX7_rename_50 (by decide) ?_
      refine z_istore (L' := [(6, .int _), (5, .int _), (4, .int _), (0, .ref _), (1, .int _), (2, .long _)]) dX7_rename_51 (by decide) rfl ?_
      exact o_Z.sub [3, 4, 2, 1, 0] rfl (s_X7_rename_L53 _ _ _ _ _ _ h)
    · replace h := o_in hc9 h
      refine z_aload_n dX7_rename_31 1 rfl ?_
      refine zg_X7_fed fl_X7_53 dX7_rename_32 ?_
      refine z_iconst (v := 0) dX7_rename_35 (by decide) ?_
      obtain ⟨g47, h⟩ := o_gd h
      replace h := o_dd h
      refine za_fed g47 dX7_rename_36 ?_
      obtain ⟨x51, s49, e50, h⟩ := o_bdi h
      refine z_callSi (As := [.int _]) (e_X7_isLetter e50) (by decide) mi_X7_isLetter ml_X7_140 rfl rfl (Nat.le_of_ble_eq_true rfl) dX7_rename_37 ?_
      refine z_if_eq (tgt := 47) dX7_rename_40 (by decide) (fun hc52 => ?_) (fun hc52 => ?_)
      · replace h := o_ip hc52 h
        refine z_iconst (v := 0) dX7_rename_47 (by decide) ?_
        refine z_istore (L' := [(5, .int _), (4, .int _), (0, .ref _), (1, .int _), (2, .long _)]) dX7_rename_48 (by decide) rfl ?_
        refine z_iconst (v := 0) dX7_rename_50 (by decide) ?_
        refine z_istore (L' := [(6, .int _), (5, .int _), (4, .int _), (0, .ref _), (1, .int _), (2, .long _)]) dX7_rename_51 (by decide) rfl ?_
        exact o_Z.sub [3, 4, 2, 1, 0] rfl (s_X7_rename_L53 _ _ _ _ _ _ h)
      · replace h := o_in hc52 h
        refine z_iconst (v := 1) dX7_rename_43 (by decide) ?_
        refine z_goto (tgt := 48) dX7_rename_44 (by decide) ?_
        refine z_istore (L' := [(5, .int _), (4, .int _), (0, .ref _), (1, .int _), (2, .long _)]) dX7_rename_48 (by decide) rfl ?_
        refine z_iconst (v := 0) dX7_rename_50 (by decide) ?_
        refine z_istore (L' := [(6, .int _), (5, .int _), (4, .int _), (0, .ref _), (1, .int _), (2, .long _)]) dX7_rename_51 (by decide) rfl ?_
        exact o_Z.sub [3, 4, 2, 1, 0] rfl (s_X7_rename_L53 _ _ _ _ _ _ h)
  · replace h := o_ip hc5 h
    refine z_aload_n dX7_rename_13 0 rfl ?_
    refine z_iconst (v := 1) dX7_rename_14 (by decide) ?_
    obtain ⟨x55, s53, e54, h⟩ := o_bdi h
    refine z_callVi (As := [.int _]) (e_X7_fail e54) (by decide) mi_X7_fail ml_X7_85 rfl rfl (Nat.le_of_ble_eq_true rfl) rv_6 dX7_rename_15 ?_
    cases h
    exact z_iret rfl rfl rfl dX7_rename_18
theorem e_X7_rename {G : o_G} {N : Nat} {r : Int32} {σ' : o_S} {p1 : Int32} {p2 : Int64} {s : o_S} (h : f_X7_rename N p1 p2 s = some (r, σ')) : o_Ev (o_up G) yX7_rename cX7_rename 8 (Option.some Jvm.ClassFile.FieldType.int) 2 [.ref (g_ad G 6), .int p1, .long p2] s (some (.int r)) σ' := o_Ev.mk rfl (Nat.le_of_ble_eq_true rfl) (s_X7_rename h)
-- X7_put
set_option maxRecDepth 10000 in
theorem s_X7_put {G : o_G} {N : Nat} {σ' : o_S} {p1 : Int32} {s : o_S} (h : f_X7_put N p1 s = some σ') : o_Z (o_up G) RX7 cX7_put (Option.none : Option Jvm.ClassFile.FieldType) 2 0 (o_E (o_up G) (none) σ') (o_k σ') s 0 [(0, .ref (g_ad G 6)), (1, .int p1)] [] := by
  unfold f_X7_put at h
  refine z_aload_n dX7_put_0 0 rfl ?_
  refine zg_X7_output fl_X7_50 dX7_put_1 ?_
  refine z_aload_n dX7_put_4 0 rfl ?_
  refine zg_X7_written fl_X7_231 dX7_put_5 ?_
  refine z_iload_n dX7_put_8 1 rfl ?_
  obtain ⟨g1, h⟩ := o_gd h
  replace h := o_dd h
  refine zs_output g1 dX7_put_9 ?_
  refine z_aload_n dX7_put_10 0 rfl ?_
  refine z_dup dX7_put_11 rfl ?_
  refine zg_X7_written fl_X7_231 dX7_put_12 ?_
  refine z_iconst (v := 1) dX7_put_15 (by decide) ?_
  refine z_iadd dX7_put_16 ?_
  replace h := o_dd h
  refine zp_X7_written fl_X7_231 dX7_put_17 ?_
  cases h
  exact z_vret rfl rfl rfl dX7_put_20
theorem e_X7_put {G : o_G} {N : Nat} {σ' : o_S} {p1 : Int32} {s : o_S} (h : f_X7_put N p1 s = some σ') : o_Ev (o_up G) yX7_put cX7_put 2 (Option.none : Option Jvm.ClassFile.FieldType) 0 [.ref (g_ad G 6), .int p1] s (none) σ' := o_Ev.mk rfl (Nat.le_of_ble_eq_true rfl) (s_X7_put h)
-- gN
set_option maxRecDepth 10000 in
theorem s_X7_putNumber {G : o_G} {N : Nat} {d : Nat} {rec : Nat → Int32 → Int32 → Int32 → o_S → Option o_S} {σ' : o_S} {p1 : Int32} (hrec : (∀ (a : Int32) (s s1 : o_S), rec 0 a 0 0 s = some s1 → o_Ev (o_up G) yX7_putNumber cX7_putNumber 2 (none) (1 + d) [.ref (g_ad G 6), .int a] s none s1)) {s : o_S} (h : f_X7_putNumber N rec p1 s = some σ') : o_Z (o_up G) RX7 cX7_putNumber (Option.none : Option Jvm.ClassFile.FieldType) 2 (2 + d) (o_E (o_up G) (none) σ') (o_k σ') s 0 [(0, .ref (g_ad G 6)), (1, .int p1)] [] := by
  unfold f_X7_putNumber at h
  refine z_iload_n dX7_putNumber_0 1 rfl ?_
  refine z_bipush (v := 9) dX7_putNumber_1 (by decide) ?_
  refine z_icmp_le (tgt := 14) dX7_putNumber_3 (by decide) (fun hc1 => ?_) (fun hc1 => ?_)
  · replace h := o_ip hc1 h
    refine z_aload_n dX7_putNumber_14 0 rfl ?_
    refine z_iload_n dX7_putNumber_15 1 rfl ?_
    refine z_bipush (v := 10) dX7_putNumber_16 (by decide) ?_
    refine z_irem (by decide) dX7_putNumber_18 ?_
    refine z_bipush (v := 48) dX7_putNumber_19 (by decide) ?_
    refine z_iadd dX7_putNumber_21 ?_
    obtain ⟨s2, e3, h⟩ := o_bdv h
    refine z_callVv (As := [.int _]) (e_X7_put e3) (by omega) mi_X7_put ml_X7_237 rfl rfl (Nat.le_of_ble_eq_true rfl) rv_6 dX7_putNumber_22 ?_
    cases h
    exact z_vret rfl rfl rfl dX7_putNumber_25
  · replace h := o_in hc1 h
    refine z_aload_n dX7_putNumber_6 0 rfl ?_
    refine z_iload_n dX7_putNumber_7 1 rfl ?_
    refine z_bipush (v := 10) dX7_putNumber_8 (by decide) ?_
    refine z_idiv (by decide) dX7_putNumber_10 ?_
    obtain ⟨s4, e5, h⟩ := o_bdv h
    refine z_callVv (As := [.int _]) (hrec _ _ _ e5) (by omega) mi_X7_putNumber ml_X7_234 rfl rfl (Nat.le_of_ble_eq_true rfl) rv_6 dX7_putNumber_11 ?_
    refine z_aload_n dX7_putNumber_14 0 rfl ?_
    refine z_iload_n dX7_putNumber_15 1 rfl ?_
    refine z_bipush (v := 10) dX7_putNumber_16 (by decide) ?_
    refine z_irem (by decide) dX7_putNumber_18 ?_
    refine z_bipush (v := 48) dX7_putNumber_19 (by decide) ?_
    refine z_iadd dX7_putNumber_21 ?_
    obtain ⟨s6, e7, h⟩ := o_bdv h
    refine z_callVv (As := [.int _]) (e_X7_put e7) (by omega) mi_X7_put ml_X7_237 rfl rfl (Nat.le_of_ble_eq_true rfl) rv_6 dX7_putNumber_22 ?_
    cases h
    exact z_vret rfl rfl rfl dX7_putNumber_25
theorem r_gN {G : o_G} {N : Nat} : ∀ d : Nat, (∀ (a : Int32) (s s1 : o_S), f_gN N d 0 a 0 0 s = some s1 → o_Ev (o_up G) yX7_putNumber cX7_putNumber 2 (Option.none : Option Jvm.ClassFile.FieldType) (1 + d) [.ref (g_ad G 6), .int a] s none s1) := by
  intro d
  induction d with
  | zero => exact (fun a s s1 h => (by cases h))
  | succ d ih =>
    have e : 1 + (d + 1) = 2 + d := by omega
    rw [e]
    exact (fun a s s1 h => o_Ev.mk rfl (Nat.le_of_ble_eq_true rfl) (s_X7_putNumber ih (by rw [f_gN] at h; exact h)))
theorem e_X7_putNumber {G : o_G} {N : Nat} {a : Int32} {s s1 : o_S} (h : f_gN N 200 0 a 0 0 s = some s1) : o_Ev (o_up G) yX7_putNumber cX7_putNumber 2 (Option.none : Option Jvm.ClassFile.FieldType) 201 [.ref (g_ad G 6), .int a] s none s1 := (r_gN 200) _ _ _ h
-- gA
set_option maxRecDepth 10000 in
theorem s_X7_putAll_b62 {G : o_G} {N : Nat} {d : Nat} {rec : Nat → Int32 → Int32 → Int32 → o_S → Option o_S} {k8 : Int32 → Int32 → Int32 → Int32 → o_S → Option o_S} {σ' : o_S} {l1 : Int32} {l2 : Int32} {l3 : Int32} {l4 : Int32} (hrec : (∀ (a b c : Int32) (s s1 : o_S), rec 0 a b c s = some s1 → o_Ev (o_up G) yX7_putAll cX7_putAll 5 (none) (203 + d) [.ref (g_ad G 6), .int a, .int b, .int c] s none s1) ∧ (∀ (a : Int32) (s s1 : o_S), rec 1 a 0 0 s = some s1 → o_Ev (o_up G) yX7_putNode cX7_putNode 3 (none) (203 + d) [.ref (g_ad G 6), .int a] s none s1)) (hk8 : ∀ (z1 : Int32) (z2 : Int32) (z3 : Int32) (z4 : Int32) (s : o_S), k8 z1 z2 z3 z4 s = some σ' → o_Z (o_up G) RX7 cX7_putAll (Option.none : Option Jvm.ClassFile.FieldType) 5 (204 + d) (o_E (o_up G) (none) σ') (o_k σ') s 8 [(0, .ref (g_ad G 6)), (1, .int z1), (2, .int z2), (3, .int z3), (4, .int z4)] []) {s : o_S} (h : f_X7_putAll_b62 N rec k8 l1 l2 l3 l4 s = some σ') : o_Z (o_up G) RX7 cX7_putAll (Option.none : Option Jvm.ClassFile.FieldType) 5 (204 + d) (o_E (o_up G) (none) σ') (o_k σ') s 62 [(0, .ref (g_ad G 6)), (1, .int l1), (2, .int l2), (3, .int l3), (4, .int l4)] [] := by
  unfold f_X7_putAll_b62 at h
  refine z_aload_n dX7_putAll_62 0 rfl ?_
  refine z_iload dX7_putAll_63 4 rfl ?_
  obtain ⟨s10, e11, h⟩ := o_bdv h
  refine z_callVv (As := [.int _]) (hrec.2 _ _ _ e11) (by omega) mi_X7_putNode ml_X7_240 rfl rfl (Nat.le_of_ble_eq_true rfl) rv_6 dX7_putAll_65 ?_
  refine z_aload_n dX7_putAll_68 0 rfl ?_
  refine zg_X7_nexts fl_X7_22 dX7_putAll_69 ?_
  refine z_iload dX7_putAll_72 4 rfl ?_
  obtain ⟨g12, h⟩ := o_gd h
  replace h := o_dd h
  refine za_nexts g12 dX7_putAll_74 ?_
  refine z_istore (L' := [(4, .int _), (0, .ref _), (1, .int _), (2, .int _), (3, .int _)]) dX7_putAll_75 (by decide) rfl ?_
  refine z_goto (tgt := 8) dX7_putAll_77 (by decide) ?_
  exact o_Z.sub [1, 2, 3, 4, 0] rfl (hk8 _ _ _ _ _ h)
set_option maxRecDepth 10000 in
theorem s_X7_putAll_b35 {G : o_G} {N : Nat} {d : Nat} {rec : Nat → Int32 → Int32 → Int32 → o_S → Option o_S} {k8 : Int32 → Int32 → Int32 → Int32 → o_S → Option o_S} {σ' : o_S} {l1 : Int32} {l2 : Int32} {l3 : Int32} {l4 : Int32} (hrec : (∀ (a b c : Int32) (s s1 : o_S), rec 0 a b c s = some s1 → o_Ev (o_up G) yX7_putAll cX7_putAll 5 (none) (203 + d) [.ref (g_ad G 6), .int a, .int b, .int c] s none s1) ∧ (∀ (a : Int32) (s s1 : o_S), rec 1 a 0 0 s = some s1 → o_Ev (o_up G) yX7_putNode cX7_putNode 3 (none) (203 + d) [.ref (g_ad G 6), .int a] s none s1)) (hk8 : ∀ (z1 : Int32) (z2 : Int32) (z3 : Int32) (z4 : Int32) (s : o_S), k8 z1 z2 z3 z4 s = some σ' → o_Z (o_up G) RX7 cX7_putAll (Option.none : Option Jvm.ClassFile.FieldType) 5 (204 + d) (o_E (o_up G) (none) σ') (o_k σ') s 8 [(0, .ref (g_ad G 6)), (1, .int z1), (2, .int z2), (3, .int z3), (4, .int z4)] []) {s : o_S} (h : f_X7_putAll_b35 N rec k8 l1 l2 l3 l4 s = some σ') : o_Z (o_up G) RX7 cX7_putAll (Option.none : Option Jvm.ClassFile.FieldType) 5 (204 + d) (o_E (o_up G) (none) σ') (o_k σ') s 35 [(0, .ref (g_ad G 6)), (1, .int l1), (2, .int l2), (3, .int l3), (4, .int l4)] [] := by
  unfold f_X7_putAll_b35 at h
  refine z_iload dX7_putAll_35 4 rfl ?_
  refine z_aload_n dX7_putAll_37 0 rfl ?_
  refine zg_X7_firsts fl_X7_19 dX7_putAll_38 ?_
  refine z_iload_n dX7_putAll_41 1 rfl ?_
  obtain ⟨g7, h⟩ := o_gd h
  replace h := o_dd h
  refine za_firsts g7 dX7_putAll_42 ?_
  refine z_icmp_eq (tgt := 62) dX7_putAll_43 (by decide) (fun hc9 => ?_) (fun hc9 => ?_)
  · replace h := o_ip hc9 h
    exact o_Z.sub [0, 1, 2, 3, 4] rfl (s_X7_putAll_b62 hrec hk8 h)
  · replace h := o_in hc9 h
    refine z_aload_n dX7_putAll_46 0 rfl ?_
    refine zg_X7_kinds fl_X7_13 dX7_putAll_47 ?_
    refine z_iload dX7_putAll_50 4 rfl ?_
    obtain ⟨g14, h⟩ := o_gd h
    replace h := o_dd h
    refine za_kinds g14 dX7_putAll_52 ?_
    refine z_if_eq (tgt := 62) dX7_putAll_53 (by decide) (fun hc16 => ?_) (fun hc16 => ?_)
    · replace h := o_ip hc16 h
      exact o_Z.sub [0, 1, 2, 3, 4] rfl (s_X7_putAll_b62 hrec hk8 h)
    · replace h := o_in hc16 h
      refine z_aload_n dX7_putAll_56 0 rfl ?_
      refine z_bipush (v := 32) dX7_putAll_57 (by decide) ?_
      obtain ⟨s17, e18, h⟩ := o_bdv h
      refine z_callVv (As := [.int _]) (e_X7_put e18) (by omega) mi_X7_put ml_X7_237 rfl rfl (Nat.le_of_ble_eq_true rfl) rv_6 dX7_putAll_59 ?_
      exact o_Z.sub [0, 1, 2, 3, 4] rfl (s_X7_putAll_b62 hrec hk8 h)
set_option maxRecDepth 10000 in
theorem s_X7_putAll_L8 {G : o_G} {N : Nat} {d : Nat} {rec : Nat → Int32 → Int32 → Int32 → o_S → Option o_S} {σ' : o_S} (hrec : (∀ (a b c : Int32) (s s1 : o_S), rec 0 a b c s = some s1 → o_Ev (o_up G) yX7_putAll cX7_putAll 5 (none) (203 + d) [.ref (g_ad G 6), .int a, .int b, .int c] s none s1) ∧ (∀ (a : Int32) (s s1 : o_S), rec 1 a 0 0 s = some s1 → o_Ev (o_up G) yX7_putNode cX7_putNode 3 (none) (203 + d) [.ref (g_ad G 6), .int a] s none s1)) : ∀ (n : Nat) (l1 : Int32) (l2 : Int32) (l3 : Int32) (l4 : Int32) (s : o_S), f_X7_putAll_L8 N rec n l1 l2 l3 l4 s = some σ' → o_Z (o_up G) RX7 cX7_putAll (Option.none : Option Jvm.ClassFile.FieldType) 5 (204 + d) (o_E (o_up G) (none) σ') (o_k σ') s 8 [(0, .ref (g_ad G 6)), (1, .int l1), (2, .int l2), (3, .int l3), (4, .int l4)] [] := by
  intro n
  induction n with
  | zero => intro l1 l2 l3 l4 s h; cases h
  | succ n ih =>
    intro l1 l2 l3 l4 s h
    rw [f_X7_putAll_L8] at h
    refine z_iload dX7_putAll_8 4 rfl ?_
    refine z_iload_n dX7_putAll_10 3 rfl ?_
    refine z_icmp_eq (tgt := 80) dX7_putAll_11 (by decide) (fun hc3 => ?_) (fun hc3 => ?_)
    · replace h := o_ip hc3 h
      cases h
      exact z_vret rfl rfl rfl dX7_putAll_80
    · replace h := o_in hc3 h
      refine z_iload dX7_putAll_14 4 rfl ?_
      refine z_aload_n dX7_putAll_16 0 rfl ?_
      refine zg_X7_firsts fl_X7_19 dX7_putAll_17 ?_
      refine z_iload_n dX7_putAll_20 1 rfl ?_
      obtain ⟨g4, h⟩ := o_gd h
      replace h := o_dd h
      refine za_firsts g4 dX7_putAll_21 ?_
      refine z_icmp_eq (tgt := 35) dX7_putAll_22 (by decide) (fun hc6 => ?_) (fun hc6 => ?_)
      · replace h := o_ip hc6 h
        exact o_Z.sub [0, 1, 2, 3, 4] rfl (s_X7_putAll_b35 hrec ih h)
      · replace h := o_in hc6 h
        refine z_iload_n dX7_putAll_25 2 rfl ?_
        refine z_if_eq (tgt := 35) dX7_putAll_26 (by decide) (fun hc19 => ?_) (fun hc19 => ?_)
        · replace h := o_ip hc19 h
          exact o_Z.sub [0, 1, 2, 3, 4] rfl (s_X7_putAll_b35 hrec ih h)
        · replace h := o_in hc19 h
          refine z_aload_n dX7_putAll_29 0 rfl ?_
          refine z_bipush (v := 59) dX7_putAll_30 (by decide) ?_
          obtain ⟨s20, e21, h⟩ := o_bdv h
          refine z_callVv (As := [.int _]) (e_X7_put e21) (by omega) mi_X7_put ml_X7_237 rfl rfl (Nat.le_of_ble_eq_true rfl) rv_6 dX7_putAll_32 ?_
          exact o_Z.sub [0, 1, 2, 3, 4] rfl (s_X7_putAll_b35 hrec ih h)
set_option maxRecDepth 10000 in
theorem s_X7_putAll {G : o_G} {N : Nat} {d : Nat} {rec : Nat → Int32 → Int32 → Int32 → o_S → Option o_S} {σ' : o_S} {p1 : Int32} {p2 : Int32} {p3 : Int32} (hrec : (∀ (a b c : Int32) (s s1 : o_S), rec 0 a b c s = some s1 → o_Ev (o_up G) yX7_putAll cX7_putAll 5 (none) (203 + d) [.ref (g_ad G 6), .int a, .int b, .int c] s none s1) ∧ (∀ (a : Int32) (s s1 : o_S), rec 1 a 0 0 s = some s1 → o_Ev (o_up G) yX7_putNode cX7_putNode 3 (none) (203 + d) [.ref (g_ad G 6), .int a] s none s1)) {s : o_S} (h : f_X7_putAll N rec p1 p2 p3 s = some σ') : o_Z (o_up G) RX7 cX7_putAll (Option.none : Option Jvm.ClassFile.FieldType) 5 (204 + d) (o_E (o_up G) (none) σ') (o_k σ') s 0 [(0, .ref (g_ad G 6)), (1, .int p1), (2, .int p2), (3, .int p3)] [] := by
  unfold f_X7_putAll at h
  refine z_aload_n dX7_putAll_0 0 rfl ?_
  refine zg_X7_firsts fl_X7_19 dX7_putAll_1 ?_
  refine z_iload_n dX7_putAll_4 1 rfl ?_
  obtain ⟨g1, h⟩ := o_gd h
  replace h := o_dd h
  refine za_firsts g1 dX7_putAll_5 ?_
  refine z_istore (L' := [(4, .int _), (0, .ref _), (1, .int _), (2, .int _), (3, .int _)]) dX7_putAll_6 (by decide) rfl ?_
  exact o_Z.sub [1, 2, 3, 4, 0] rfl (s_X7_putAll_L8 hrec _ _ _ _ _ _ h)
set_option maxRecDepth 10000 in
theorem s_X7_putNode_b155 {G : o_G} {N : Nat} {d : Nat} {rec : Nat → Int32 → Int32 → Int32 → o_S → Option o_S} {σ' : o_S} {l1 : Int32} (hrec : (∀ (a b c : Int32) (s s1 : o_S), rec 0 a b c s = some s1 → o_Ev (o_up G) yX7_putAll cX7_putAll 5 (none) (203 + d) [.ref (g_ad G 6), .int a, .int b, .int c] s none s1) ∧ (∀ (a : Int32) (s s1 : o_S), rec 1 a 0 0 s = some s1 → o_Ev (o_up G) yX7_putNode cX7_putNode 3 (none) (203 + d) [.ref (g_ad G 6), .int a] s none s1)) {s : o_S} (h : f_X7_putNode_b155 N rec l1 s = some σ') : o_Z (o_up G) RX7 cX7_putNode (Option.none : Option Jvm.ClassFile.FieldType) 3 (204 + d) (o_E (o_up G) (none) σ') (o_k σ') s 155 [(0, .ref (g_ad G 6)), (1, .int l1)] [] := by
  unfold f_X7_putNode_b155 at h
  refine z_aload_n dX7_putNode_155 0 rfl ?_
  refine z_iload_n dX7_putNode_156 1 rfl ?_
  refine z_iconst (v := 1) dX7_putNode_157 (by decide) ?_
  refine z_iconst (v := (-1)) dX7_putNode_158 (by decide) ?_
  obtain ⟨s25, e26, h⟩ := o_bdv h
  refine z_callVv (As := [.int _, .int _, .int _]) (hrec.1 _ _ _ _ _ e26) (by omega) mi_X7_putAll ml_X7_243 rfl rfl (Nat.le_of_ble_eq_true rfl) rv_6 dX7_putNode_159 ?_
  refine z_aload_n dX7_putNode_162 0 rfl ?_
  refine z_bipush (v := 32) dX7_putNode_163 (by decide) ?_
  obtain ⟨s27, e28, h⟩ := o_bdv h
  refine z_callVv (As := [.int _]) (e_X7_put e28) (by omega) mi_X7_put ml_X7_237 rfl rfl (Nat.le_of_ble_eq_true rfl) rv_6 dX7_putNode_165 ?_
  refine z_aload_n dX7_putNode_168 0 rfl ?_
  refine z_bipush (v := 125) dX7_putNode_169 (by decide) ?_
  obtain ⟨s29, e30, h⟩ := o_bdv h
  refine z_callVv (As := [.int _]) (e_X7_put e30) (by omega) mi_X7_put ml_X7_237 rfl rfl (Nat.le_of_ble_eq_true rfl) rv_6 dX7_putNode_171 ?_
  cases h
  exact z_vret rfl rfl rfl dX7_putNode_174
set_option maxRecDepth 10000 in
theorem s_X7_putNode_b111 {G : o_G} {N : Nat} {d : Nat} {rec : Nat → Int32 → Int32 → Int32 → o_S → Option o_S} {σ' : o_S} {l1 : Int32} (hrec : (∀ (a b c : Int32) (s s1 : o_S), rec 0 a b c s = some s1 → o_Ev (o_up G) yX7_putAll cX7_putAll 5 (none) (203 + d) [.ref (g_ad G 6), .int a, .int b, .int c] s none s1) ∧ (∀ (a : Int32) (s s1 : o_S), rec 1 a 0 0 s = some s1 → o_Ev (o_up G) yX7_putNode cX7_putNode 3 (none) (203 + d) [.ref (g_ad G 6), .int a] s none s1)) {s : o_S} (h : f_X7_putNode_b111 N rec l1 s = some σ') : o_Z (o_up G) RX7 cX7_putNode (Option.none : Option Jvm.ClassFile.FieldType) 3 (204 + d) (o_E (o_up G) (none) σ') (o_k σ') s 111 [(0, .ref (g_ad G 6)), (1, .int l1)] [] := by
  unfold f_X7_putNode_b111 at h
  refine z_aload_n dX7_putNode_111 0 rfl ?_
  refine zg_X7_kinds fl_X7_13 dX7_putNode_112 ?_
  refine z_iload_n dX7_putNode_115 1 rfl ?_
  obtain ⟨g13, h⟩ := o_gd h
  replace h := o_dd h
  refine za_kinds g13 dX7_putNode_116 ?_
  refine z_if_eq (tgt := 121) dX7_putNode_117 (by decide) (fun hc15 => ?_) (fun hc15 => ?_)
  · replace h := o_ip hc15 h
    refine z_aload_n dX7_putNode_121 0 rfl ?_
    refine z_bipush (v := 58) dX7_putNode_122 (by decide) ?_
    obtain ⟨s16, e17, h⟩ := o_bdv h
    refine z_callVv (As := [.int _]) (e_X7_put e17) (by omega) mi_X7_put ml_X7_237 rfl rfl (Nat.le_of_ble_eq_true rfl) rv_6 dX7_putNode_124 ?_
    refine z_aload_n dX7_putNode_127 0 rfl ?_
    refine z_bipush (v := 32) dX7_putNode_128 (by decide) ?_
    obtain ⟨s18, e19, h⟩ := o_bdv h
    refine z_callVv (As := [.int _]) (e_X7_put e19) (by omega) mi_X7_put ml_X7_237 rfl rfl (Nat.le_of_ble_eq_true rfl) rv_6 dX7_putNode_130 ?_
    refine z_aload_n dX7_putNode_133 0 rfl ?_
    refine z_bipush (v := 123) dX7_putNode_134 (by decide) ?_
    obtain ⟨s20, e21, h⟩ := o_bdv h
    refine z_callVv (As := [.int _]) (e_X7_put e21) (by omega) mi_X7_put ml_X7_237 rfl rfl (Nat.le_of_ble_eq_true rfl) rv_6 dX7_putNode_136 ?_
    refine z_aload_n dX7_putNode_139 0 rfl ?_
    refine zg_X7_firsts fl_X7_19 dX7_putNode_140 ?_
    refine z_iload_n dX7_putNode_143 1 rfl ?_
    obtain ⟨g22, h⟩ := o_gd h
    replace h := o_dd h
    refine za_firsts g22 dX7_putNode_144 ?_
    refine z_iconst (v := (-1)) dX7_putNode_145 (by decide) ?_
    refine z_icmp_eq (tgt := 155) dX7_putNode_146 (by decide) (fun hc24 => ?_) (fun hc24 => ?_)
    · replace h := o_ip hc24 h
      exact o_Z.sub [0, 1] rfl (s_X7_putNode_b155 hrec h)
    · replace h := o_in hc24 h
      refine z_aload_n dX7_putNode_149 0 rfl ?_
      refine z_bipush (v := 32) dX7_putNode_150 (by decide) ?_
      obtain ⟨s31, e32, h⟩ := o_bdv h
      refine z_callVv (As := [.int _]) (e_X7_put e32) (by omega) mi_X7_put ml_X7_237 rfl rfl (Nat.le_of_ble_eq_true rfl) rv_6 dX7_putNode_152 ?_
      exact o_Z.sub [0, 1] rfl (s_X7_putNode_b155 hrec h)
  · replace h := o_in hc15 h
    cases h
    exact z_vret rfl rfl rfl dX7_putNode_120
set_option maxRecDepth 10000 in
theorem s_X7_putNode_b82 {G : o_G} {N : Nat} {d : Nat} {rec : Nat → Int32 → Int32 → Int32 → o_S → Option o_S} {σ' : o_S} {l1 : Int32} (hrec : (∀ (a b c : Int32) (s s1 : o_S), rec 0 a b c s = some s1 → o_Ev (o_up G) yX7_putAll cX7_putAll 5 (none) (203 + d) [.ref (g_ad G 6), .int a, .int b, .int c] s none s1) ∧ (∀ (a : Int32) (s s1 : o_S), rec 1 a 0 0 s = some s1 → o_Ev (o_up G) yX7_putNode cX7_putNode 3 (none) (203 + d) [.ref (g_ad G 6), .int a] s none s1)) {s : o_S} (h : f_X7_putNode_b82 N rec l1 s = some σ') : o_Z (o_up G) RX7 cX7_putNode (Option.none : Option Jvm.ClassFile.FieldType) 3 (204 + d) (o_E (o_up G) (none) σ') (o_k σ') s 82 [(0, .ref (g_ad G 6)), (1, .int l1)] [] := by
  unfold f_X7_putNode_b82 at h
  refine z_aload_n dX7_putNode_82 0 rfl ?_
  refine zg_X7_kinds fl_X7_13 dX7_putNode_83 ?_
  refine z_iload_n dX7_putNode_86 1 rfl ?_
  obtain ⟨g10, h⟩ := o_gd h
  replace h := o_dd h
  refine za_kinds g10 dX7_putNode_87 ?_
  refine z_iconst (v := 4) dX7_putNode_88 (by decide) ?_
  refine z_icmp_ne (tgt := 111) dX7_putNode_89 (by decide) (fun hc12 => ?_) (fun hc12 => ?_)
  · replace h := o_in hc12 h
    exact o_Z.sub [0, 1] rfl (s_X7_putNode_b111 hrec h)
  · replace h := o_ip hc12 h
    refine z_aload_n dX7_putNode_92 0 rfl ?_
    refine z_bipush (v := 40) dX7_putNode_93 (by decide) ?_
    obtain ⟨s33, e34, h⟩ := o_bdv h
    refine z_callVv (As := [.int _]) (e_X7_put e34) (by omega) mi_X7_put ml_X7_237 rfl rfl (Nat.le_of_ble_eq_true rfl) rv_6 dX7_putNode_95 ?_
    refine z_aload_n dX7_putNode_98 0 rfl ?_
    refine z_iload_n dX7_putNode_99 1 rfl ?_
    refine z_iconst (v := 0) dX7_putNode_100 (by decide) ?_
    refine z_iconst (v := (-1)) dX7_putNode_101 (by decide) ?_
    obtain ⟨s35, e36, h⟩ := o_bdv h
    refine z_callVv (As := [.int _, .int _, .int _]) (hrec.1 _ _ _ _ _ e36) (by omega) mi_X7_putAll ml_X7_243 rfl rfl (Nat.le_of_ble_eq_true rfl) rv_6 dX7_putNode_102 ?_
    refine z_aload_n dX7_putNode_105 0 rfl ?_
    refine z_bipush (v := 41) dX7_putNode_106 (by decide) ?_
    obtain ⟨s37, e38, h⟩ := o_bdv h
    refine z_callVv (As := [.int _]) (e_X7_put e38) (by omega) mi_X7_put ml_X7_237 rfl rfl (Nat.le_of_ble_eq_true rfl) rv_6 dX7_putNode_108 ?_
    exact o_Z.sub [0, 1] rfl (s_X7_putNode_b111 hrec h)
set_option maxRecDepth 10000 in
theorem s_X7_putNode_b65 {G : o_G} {N : Nat} {d : Nat} {rec : Nat → Int32 → Int32 → Int32 → o_S → Option o_S} {σ' : o_S} {l1 : Int32} (hrec : (∀ (a b c : Int32) (s s1 : o_S), rec 0 a b c s = some s1 → o_Ev (o_up G) yX7_putAll cX7_putAll 5 (none) (203 + d) [.ref (g_ad G 6), .int a, .int b, .int c] s none s1) ∧ (∀ (a : Int32) (s s1 : o_S), rec 1 a 0 0 s = some s1 → o_Ev (o_up G) yX7_putNode cX7_putNode 3 (none) (203 + d) [.ref (g_ad G 6), .int a] s none s1)) {s : o_S} (h : f_X7_putNode_b65 N rec l1 s = some σ') : o_Z (o_up G) RX7 cX7_putNode (Option.none : Option Jvm.ClassFile.FieldType) 3 (204 + d) (o_E (o_up G) (none) σ') (o_k σ') s 65 [(0, .ref (g_ad G 6)), (1, .int l1)] [] := by
  unfold f_X7_putNode_b65 at h
  refine z_aload_n dX7_putNode_65 0 rfl ?_
  refine zg_X7_kinds fl_X7_13 dX7_putNode_66 ?_
  refine z_iload_n dX7_putNode_69 1 rfl ?_
  obtain ⟨g7, h⟩ := o_gd h
  replace h := o_dd h
  refine za_kinds g7 dX7_putNode_70 ?_
  refine z_iconst (v := 1) dX7_putNode_71 (by decide) ?_
  refine z_icmp_ne (tgt := 82) dX7_putNode_72 (by decide) (fun hc9 => ?_) (fun hc9 => ?_)
  · replace h := o_in hc9 h
    exact o_Z.sub [0, 1] rfl (s_X7_putNode_b82 hrec h)
  · replace h := o_ip hc9 h
    refine z_aload_n dX7_putNode_75 0 rfl ?_
    refine z_iload_n dX7_putNode_76 1 rfl ?_
    refine z_iconst (v := 0) dX7_putNode_77 (by decide) ?_
    refine z_iconst (v := (-1)) dX7_putNode_78 (by decide) ?_
    obtain ⟨s39, e40, h⟩ := o_bdv h
    refine z_callVv (As := [.int _, .int _, .int _]) (hrec.1 _ _ _ _ _ e40) (by omega) mi_X7_putAll ml_X7_243 rfl rfl (Nat.le_of_ble_eq_true rfl) rv_6 dX7_putNode_79 ?_
    exact o_Z.sub [0, 1] rfl (s_X7_putNode_b82 hrec h)
set_option maxRecDepth 10000 in
theorem s_X7_putNode_b45 {G : o_G} {N : Nat} {d : Nat} {rec : Nat → Int32 → Int32 → Int32 → o_S → Option o_S} {σ' : o_S} {l1 : Int32} (hrec : (∀ (a b c : Int32) (s s1 : o_S), rec 0 a b c s = some s1 → o_Ev (o_up G) yX7_putAll cX7_putAll 5 (none) (203 + d) [.ref (g_ad G 6), .int a, .int b, .int c] s none s1) ∧ (∀ (a : Int32) (s s1 : o_S), rec 1 a 0 0 s = some s1 → o_Ev (o_up G) yX7_putNode cX7_putNode 3 (none) (203 + d) [.ref (g_ad G 6), .int a] s none s1)) {s : o_S} (h : f_X7_putNode_b45 N rec l1 s = some σ') : o_Z (o_up G) RX7 cX7_putNode (Option.none : Option Jvm.ClassFile.FieldType) 3 (204 + d) (o_E (o_up G) (none) σ') (o_k σ') s 45 [(0, .ref (g_ad G 6)), (1, .int l1)] [] := by
  unfold f_X7_putNode_b45 at h
  refine z_aload_n dX7_putNode_45 0 rfl ?_
  refine zg_X7_kinds fl_X7_13 dX7_putNode_46 ?_
  refine z_iload_n dX7_putNode_49 1 rfl ?_
  obtain ⟨g4, h⟩ := o_gd h
  replace h := o_dd h
  refine za_kinds g4 dX7_putNode_50 ?_
  refine z_iconst (v := 3) dX7_putNode_51 (by decide) ?_
  refine z_icmp_ne (tgt := 65) dX7_putNode_52 (by decide) (fun hc6 => ?_) (fun hc6 => ?_)
  · replace h := o_in hc6 h
    exact o_Z.sub [0, 1] rfl (s_X7_putNode_b65 hrec h)
  · replace h := o_ip hc6 h
    refine z_aload_n dX7_putNode_55 0 rfl ?_
    refine z_aload_n dX7_putNode_56 0 rfl ?_
    refine zg_X7_values fl_X7_31 dX7_putNode_57 ?_
    refine z_iload_n dX7_putNode_60 1 rfl ?_
    obtain ⟨g41, h⟩ := o_gd h
    replace h := o_dd h
    refine za_values g41 dX7_putNode_61 ?_
    obtain ⟨s43, e44, h⟩ := o_bdv h
    refine z_callVv (As := [.int _]) (e_X7_putNumber e44) (by omega) mi_X7_putNumber ml_X7_234 rfl rfl (Nat.le_of_ble_eq_true rfl) rv_6 dX7_putNode_62 ?_
    exact o_Z.sub [0, 1] rfl (s_X7_putNode_b65 hrec h)
set_option maxRecDepth 10000 in
theorem s_X7_putNode_L12 {G : o_G} {N : Nat} {d : Nat} {rec : Nat → Int32 → Int32 → Int32 → o_S → Option o_S} {σ' : o_S} (hrec : (∀ (a b c : Int32) (s s1 : o_S), rec 0 a b c s = some s1 → o_Ev (o_up G) yX7_putAll cX7_putAll 5 (none) (203 + d) [.ref (g_ad G 6), .int a, .int b, .int c] s none s1) ∧ (∀ (a : Int32) (s s1 : o_S), rec 1 a 0 0 s = some s1 → o_Ev (o_up G) yX7_putNode cX7_putNode 3 (none) (203 + d) [.ref (g_ad G 6), .int a] s none s1)) : ∀ (n : Nat) (l1 : Int32) (l2 : Int32) (s : o_S), f_X7_putNode_L12 N rec n l1 l2 s = some σ' → o_Z (o_up G) RX7 cX7_putNode (Option.none : Option Jvm.ClassFile.FieldType) 3 (204 + d) (o_E (o_up G) (none) σ') (o_k σ') s 12 [(0, .ref (g_ad G 6)), (1, .int l1), (2, .int l2)] [] := by
  intro n
  induction n with
  | zero => intro l1 l2 s h; cases h
  | succ n ih =>
    intro l1 l2 s h
    rw [f_X7_putNode_L12] at h
    refine z_iload_n dX7_putNode_12 2 rfl ?_
    refine z_aload_n dX7_putNode_13 0 rfl ?_
    refine zg_X7_values fl_X7_31 dX7_putNode_14 ?_
    refine z_iload_n dX7_putNode_17 1 rfl ?_
    obtain ⟨g45, h⟩ := o_gd h
    replace h := o_dd h
    refine za_values g45 dX7_putNode_18 ?_
    refine z_icmp_ge (tgt := 45) dX7_putNode_19 (by decide) (fun hc47 => ?_) (fun hc47 => ?_)
    · replace h := o_ip hc47 h
      exact o_Z.sub [0, 1] rfl (s_X7_putNode_b45 hrec h)
    · replace h := o_in hc47 h
      refine z_aload_n dX7_putNode_22 0 rfl ?_
      refine z_aload_n dX7_putNode_23 0 rfl ?_
      refine zg_X7_letters fl_X7_37 dX7_putNode_24 ?_
      refine z_aload_n dX7_putNode_27 0 rfl ?_
      refine zg_X7_starts fl_X7_34 dX7_putNode_28 ?_
      refine z_iload_n dX7_putNode_31 1 rfl ?_
      obtain ⟨g48, h⟩ := o_gd h
      replace h := o_dd h
      refine za_starts g48 dX7_putNode_32 ?_
      refine z_iload_n dX7_putNode_33 2 rfl ?_
      refine z_iadd dX7_putNode_34 ?_
      obtain ⟨g50, h⟩ := o_gd h
      replace h := o_dd h
      refine za_letters g50 dX7_putNode_35 ?_
      obtain ⟨s52, e53, h⟩ := o_bdv h
      refine z_callVv (As := [.int _]) (e_X7_put e53) (by omega) mi_X7_put ml_X7_237 rfl rfl (Nat.le_of_ble_eq_true rfl) rv_6 dX7_putNode_36 ?_
      refine z_iinc (v := _ + 1) (L' := [(2, .int _), (0, .ref _), (1, .int _)]) dX7_putNode_39 2 rfl rfl (by decide) rfl ?_
      refine z_goto (tgt := 12) dX7_putNode_42 (by decide) ?_
      exact o_Z.sub [1, 2, 0] rfl (ih _ _ _ h)
set_option maxRecDepth 10000 in
theorem s_X7_putNode {G : o_G} {N : Nat} {d : Nat} {rec : Nat → Int32 → Int32 → Int32 → o_S → Option o_S} {σ' : o_S} {p1 : Int32} (hrec : (∀ (a b c : Int32) (s s1 : o_S), rec 0 a b c s = some s1 → o_Ev (o_up G) yX7_putAll cX7_putAll 5 (none) (203 + d) [.ref (g_ad G 6), .int a, .int b, .int c] s none s1) ∧ (∀ (a : Int32) (s s1 : o_S), rec 1 a 0 0 s = some s1 → o_Ev (o_up G) yX7_putNode cX7_putNode 3 (none) (203 + d) [.ref (g_ad G 6), .int a] s none s1)) {s : o_S} (h : f_X7_putNode N rec p1 s = some σ') : o_Z (o_up G) RX7 cX7_putNode (Option.none : Option Jvm.ClassFile.FieldType) 3 (204 + d) (o_E (o_up G) (none) σ') (o_k σ') s 0 [(0, .ref (g_ad G 6)), (1, .int p1)] [] := by
  unfold f_X7_putNode at h
  refine z_aload_n dX7_putNode_0 0 rfl ?_
  refine zg_X7_kinds fl_X7_13 dX7_putNode_1 ?_
  refine z_iload_n dX7_putNode_4 1 rfl ?_
  obtain ⟨g1, h⟩ := o_gd h
  replace h := o_dd h
  refine za_kinds g1 dX7_putNode_5 ?_
  refine z_iconst (v := 2) dX7_putNode_6 (by decide) ?_
  refine z_icmp_ne (tgt := 45) dX7_putNode_7 (by decide) (fun hc3 => ?_) (fun hc3 => ?_)
  · replace h := o_in hc3 h
    exact o_Z.sub [0, 1] rfl (s_X7_putNode_b45 hrec h)
  · replace h := o_ip hc3 h
    refine z_iconst (v := 0) dX7_putNode_10 (by decide) ?_
    refine z_istore_n (L' := [(2, .int _), (0, .ref _), (1, .int _)]) dX7_putNode_11 (by decide) rfl ?_
    exact o_Z.sub [1, 2, 0] rfl (s_X7_putNode_L12 hrec _ _ _ _ h)
theorem r_gA {G : o_G} {N : Nat} : ∀ d : Nat, (∀ (a b c : Int32) (s s1 : o_S), f_gA N d 0 a b c s = some s1 → o_Ev (o_up G) yX7_putAll cX7_putAll 5 (Option.none : Option Jvm.ClassFile.FieldType) (203 + d) [.ref (g_ad G 6), .int a, .int b, .int c] s none s1) ∧ (∀ (a : Int32) (s s1 : o_S), f_gA N d 1 a 0 0 s = some s1 → o_Ev (o_up G) yX7_putNode cX7_putNode 3 (Option.none : Option Jvm.ClassFile.FieldType) (203 + d) [.ref (g_ad G 6), .int a] s none s1) := by
  intro d
  induction d with
  | zero => exact ⟨fun a b c s s1 h => (by cases h), fun a s s1 h => (by cases h)⟩
  | succ d ih =>
    have e : 203 + (d + 1) = 204 + d := by omega
    rw [e]
    exact ⟨fun a b c s s1 h => o_Ev.mk rfl (Nat.le_of_ble_eq_true rfl) (s_X7_putAll ih (by rw [f_gA] at h; exact h)), fun a s s1 h => o_Ev.mk rfl (Nat.le_of_ble_eq_true rfl) (s_X7_putNode ih (by rw [f_gA] at h; exact h))⟩
theorem e_X7_putAll {G : o_G} {N : Nat} {a : Int32} {b : Int32} {c : Int32} {s s1 : o_S} (h : f_gA N 200 0 a b c s = some s1) : o_Ev (o_up G) yX7_putAll cX7_putAll 5 (Option.none : Option Jvm.ClassFile.FieldType) 403 [.ref (g_ad G 6), .int a, .int b, .int c] s none s1 := (r_gA 200).1 _ _ _ _ _ h
theorem e_X7_putNode {G : o_G} {N : Nat} {a : Int32} {s s1 : o_S} (h : f_gA N 200 1 a 0 0 s = some s1) : o_Ev (o_up G) yX7_putNode cX7_putNode 3 (Option.none : Option Jvm.ClassFile.FieldType) 403 [.ref (g_ad G 6), .int a] s none s1 := (r_gA 200).2 _ _ _ h
-- X7_lastOf
set_option maxRecDepth 10000 in
theorem s_X7_lastOf {G : o_G} {N : Nat} {r : Int32} {σ' : o_S} {p1 : Int32} {s : o_S} (h : f_X7_lastOf N p1 s = some (r, σ')) : o_Z (o_up G) RX7 cX7_lastOf (Option.some Jvm.ClassFile.FieldType.int) 2 1 (o_E (o_up G) (some (.int r)) σ') (o_k σ') s 0 [(0, .ref (g_ad G 6)), (1, .int p1)] [] := by
  unfold f_X7_lastOf at h
  refine z_aload_n dX7_lastOf_0 0 rfl ?_
  refine z_iload_n dX7_lastOf_1 1 rfl ?_
  refine z_aload_n dX7_lastOf_2 0 rfl ?_
  refine z_iload_n dX7_lastOf_3 1 rfl ?_
  obtain ⟨x3, s1, e2, h⟩ := o_bdi h
  refine z_callVi (As := [.int _]) (e_X7_countOf e2) (by decide) mi_X7_countOf ml_X7_102 rfl rfl (Nat.le_of_ble_eq_true rfl) rv_6 dX7_lastOf_4 ?_
  refine z_iconst (v := 1) dX7_lastOf_7 (by decide) ?_
  refine z_isub dX7_lastOf_8 ?_
  obtain ⟨x6, s4, e5, h⟩ := o_bdi h
  refine z_callVi (As := [.int _, .int _]) (e_X7_childOf e5) (by decide) mi_X7_childOf ml_X7_109 rfl rfl (Nat.le_of_ble_eq_true rfl) rv_6 dX7_lastOf_9 ?_
  cases h
  exact z_iret rfl rfl rfl dX7_lastOf_12
theorem e_X7_lastOf {G : o_G} {N : Nat} {r : Int32} {σ' : o_S} {p1 : Int32} {s : o_S} (h : f_X7_lastOf N p1 s = some (r, σ')) : o_Ev (o_up G) yX7_lastOf cX7_lastOf 2 (Option.some Jvm.ClassFile.FieldType.int) 1 [.ref (g_ad G 6), .int p1] s (some (.int r)) σ' := o_Ev.mk rfl (Nat.le_of_ble_eq_true rfl) (s_X7_lastOf h)
-- gL
set_option maxRecDepth 10000 in
theorem s_X7_putLine_L97 {G : o_G} {N : Nat} {d : Nat} {rec : Nat → Int32 → Int32 → Int32 → o_S → Option o_S} {σ' : o_S} (hrec : (∀ (a b c : Int32) (s s1 : o_S), rec 0 a b c s = some s1 → o_Ev (o_up G) yX7_putLine cX7_putLine 7 (none) (405 + d) [.ref (g_ad G 6), .int a, .int b, .int c] s none s1)) : ∀ (n : Nat) (l2 : Int32) (l6 : Int32) (s : o_S), f_X7_putLine_L97 N rec n l2 l6 s = some σ' → o_Z (o_up G) RX7 cX7_putLine (Option.none : Option Jvm.ClassFile.FieldType) 7 (406 + d) (o_E (o_up G) (none) σ') (o_k σ') s 97 [(0, .ref (g_ad G 6)), (2, .int l2), (6, .int l6)] [] := by
  intro n
  induction n with
  | zero => intro l2 l6 s h; cases h
  | succ n ih =>
    intro l2 l6 s h
    rw [f_X7_putLine_L97] at h
    refine z_iload dX7_putLine_97 2 rfl ?_
    refine z_iconst (v := (-1)) dX7_putLine_99 (by decide) ?_
    refine z_icmp_eq (tgt := 125) dX7_putLine_100 (by decide) (fun hc15 => ?_) (fun hc15 => ?_)
    · replace h := o_ip hc15 h
      cases h
      exact z_vret rfl rfl rfl dX7_putLine_125
    · replace h := o_in hc15 h
      refine z_aload_n dX7_putLine_103 0 rfl ?_
      refine z_iload dX7_putLine_104 2 rfl ?_
      refine z_iload_n dX7_putLine_106 1 rfl ?_
      refine z_iconst (v := 2) dX7_putLine_107 (by decide) ?_
      refine z_iadd dX7_putLine_108 ?_
      refine z_iconst (v := 1) dX7_putLine_109 (by decide) ?_
      obtain ⟨s16, e17, h⟩ := o_bdv h
      refine z_callVv (As := [.int _, .int _, .int _]) (hrec _ _ _ _ _ e17) (by omega) mi_X7_putLine ml_X7_250 rfl rfl (Nat.le_of_ble_eq_true rfl) rv_6 dX7_putLine_110 ?_
      refine z_aload_n dX7_putLine_113 0 rfl ?_
      refine zg_X7_nexts fl_X7_22 dX7_putLine_114 ?_
      refine z_iload dX7_putLine_117 2 rfl ?_
      obtain ⟨g18, h⟩ := o_gd h
      replace h := o_dd h
      refine za_nexts g18 dX7_putLine_119 ?_
      refine z_istore (L' := [(6, .int _), (0, .ref _), (2, .int _)]) dX7_putLine_120 (by decide) rfl ?_
      refine z_goto (tgt := 97) dX7_putLine_122 (by decide) ?_
      exact o_Z.sub [1, 2, 0] rfl (ih _ _ _ h)
set_option maxRecDepth 10000 in
theorem s_X7_putLine_b77 {G : o_G} {N : Nat} {d : Nat} {rec : Nat → Int32 → Int32 → Int32 → o_S → Option o_S} {σ' : o_S} {l2 : Int32} {l4 : Int32} {l5 : Int32} (hrec : (∀ (a b c : Int32) (s s1 : o_S), rec 0 a b c s = some s1 → o_Ev (o_up G) yX7_putLine cX7_putLine 7 (none) (405 + d) [.ref (g_ad G 6), .int a, .int b, .int c] s none s1)) {s : o_S} (h : f_X7_putLine_b77 N rec l2 l4 l5 s = some σ') : o_Z (o_up G) RX7 cX7_putLine (Option.none : Option Jvm.ClassFile.FieldType) 7 (406 + d) (o_E (o_up G) (none) σ') (o_k σ') s 77 [(0, .ref (g_ad G 6)), (2, .int l2), (4, .int l4), (5, .int l5)] [] := by
  unfold f_X7_putLine_b77 at h
  refine z_aload_n dX7_putLine_77 0 rfl ?_
  refine z_bipush (v := 10) dX7_putLine_78 (by decide) ?_
  obtain ⟨s10, e11, h⟩ := o_bdv h
  refine z_callVv (As := [.int _]) (e_X7_put e11) (by omega) mi_X7_put ml_X7_237 rfl rfl (Nat.le_of_ble_eq_true rfl) rv_6 dX7_putLine_80 ?_
  refine z_iload dX7_putLine_83 3 rfl ?_
  refine z_if_eq (tgt := 125) dX7_putLine_85 (by decide) (fun hc12 => ?_) (fun hc12 => ?_)
  · replace h := o_ip hc12 h
    cases h
    exact z_vret rfl rfl rfl dX7_putLine_125
  · replace h := o_in hc12 h
    refine z_aload_n dX7_putLine_88 0 rfl ?_
    refine zg_X7_firsts fl_X7_19 dX7_putLine_89 ?_
    refine z_iload dX7_putLine_92 2 rfl ?_
    obtain ⟨g13, h⟩ := o_gd h
    replace h := o_dd h
    refine za_firsts g13 dX7_putLine_94 ?_
    refine z_istore (L' := [(6, .int _), (0, .ref _), (2, .int _), (4, .int _), (5, .int _)]) dX7_putLine_95 (by decide) rfl ?_
    exact o_Z.sub [1, 2, 0] rfl (s_X7_putLine_L97 hrec _ _ _ _ h)
set_option maxRecDepth 10000 in
theorem s_X7_putLine_b47 {G : o_G} {N : Nat} {d : Nat} {rec : Nat → Int32 → Int32 → Int32 → o_S → Option o_S} {σ' : o_S} {l1 : Int32} {l2 : Int32} {l4 : Int32} {y0 : Int32} (hrec : (∀ (a b c : Int32) (s s1 : o_S), rec 0 a b c s = some s1 → o_Ev (o_up G) yX7_putLine cX7_putLine 7 (none) (405 + d) [.ref (g_ad G 6), .int a, .int b, .int c] s none s1)) {s : o_S} (h : f_X7_putLine_b47 N rec l1 l2 l4 y0 s = some σ') : o_Z (o_up G) RX7 cX7_putLine (Option.none : Option Jvm.ClassFile.FieldType) 7 (406 + d) (o_E (o_up G) (none) σ') (o_k σ') s 47 [(0, .ref (g_ad G 6)), (1, .int l1), (2, .int l2), (4, .int l4)] [.int y0] := by
  unfold f_X7_putLine_b47 at h
  refine z_istore (L' := [(5, .int _), (0, .ref _), (1, .int _), (2, .int _), (4, .int _)]) dX7_putLine_47 (by decide) rfl ?_
  refine z_aload_n dX7_putLine_49 1 rfl ?_
  refine z_iload_n dX7_putLine_50 2 rfl ?_
  refine z_iconst (v := 0) dX7_putLine_51 (by decide) ?_
  refine z_iload dX7_putLine_52 0 rfl ?_
  refine z_if_eq (tgt := 62) dX7_putLine_54 (by decide) (fun hc6 => ?_) (fun hc6 => ?_)
  · replace h := o_ip hc6 h
    refine z_iconst (v := (-1)) dX7_putLine_62 (by decide) ?_
    obtain ⟨s7, e8, h⟩ := o_bdv h
    refine z_callVv (As := [.int _, .int _, .int _]) (e_X7_putAll e8) (by omega) mi_X7_putAll ml_X7_243 rfl rfl (Nat.le_of_ble_eq_true rfl) rv_6 dX7_putLine_63 ?_
    refine z_iload dX7_putLine_66 0 rfl ?_
    refine z_if_eq (tgt := 77) dX7_putLine_68 (by decide) (fun hc9 => ?_) (fun hc9 => ?_)
    · replace h := o_ip hc9 h
      exact o_Z.sub [1, 3, 4, 0] rfl (s_X7_putLine_b77 hrec h)
    · replace h := o_in hc9 h
      refine z_aload_n dX7_putLine_71 1 rfl ?_
      refine z_bipush (v := 58) dX7_putLine_72 (by decide) ?_
      obtain ⟨s20, e21, h⟩ := o_bdv h
      refine z_callVv (As := [.int _]) (e_X7_put e21) (by omega) mi_X7_put ml_X7_237 rfl rfl (Nat.le_of_ble_eq_true rfl) rv_6 dX7_putLine_74 ?_
      exact o_Z.sub [1, 3, 4, 0] rfl (s_X7_putLine_b77 hrec h)
  · replace h := o_in hc6 h
    refine z_iload dX7_putLine_57 4 rfl ?_
    refine z_goto (tgt := 63) dX7_putLine_59 (by decide) ?_
    obtain ⟨s22, e23, h⟩ := o_bdv h
    refine z_callVv (As := [.int _, .int _, .int _]) (e_X7_putAll e23) (by omega) mi_X7_putAll ml_X7_243 rfl rfl (Nat.le_of_ble_eq_true rfl) rv_6 dX7_putLine_63 ?_
    refine z_iload dX7_putLine_66 0 rfl ?_
    refine z_if_eq (tgt := 77) dX7_putLine_68 (by decide) (fun hc24 => ?_) (fun hc24 => ?_)
    · replace h := o_ip hc24 h
      exact o_Z.sub [1, 3, 4, 0] rfl (s_X7_putLine_b77 hrec h)
    · replace h := o_in hc24 h
      refine z_aload_n dX7_putLine_71 1 rfl ?_
      refine z_bipush (v := 58) dX7_putLine_72 (by decide) ?_
      obtain ⟨s25, e26, h⟩ := o_bdv h
      refine z_callVv (As := [.int _]) (e_X7_put e26) (by omega) mi_X7_put ml_X7_237 rfl rfl (Nat.le_of_ble_eq_true rfl) rv_6 dX7_putLine_74 ?_
      exact o_Z.sub [1, 3, 4, 0] rfl (s_X7_putLine_b77 hrec h)
set_option maxRecDepth 10000 in
theorem s_X7_putLine_L3 {G : o_G} {N : Nat} {d : Nat} {rec : Nat → Int32 → Int32 → Int32 → o_S → Option o_S} {σ' : o_S} (hrec : (∀ (a b c : Int32) (s s1 : o_S), rec 0 a b c s = some s1 → o_Ev (o_up G) yX7_putLine cX7_putLine 7 (none) (405 + d) [.ref (g_ad G 6), .int a, .int b, .int c] s none s1)) : ∀ (n : Nat) (l1 : Int32) (l2 : Int32) (l3 : Int32) (l4 : Int32) (s : o_S), f_X7_putLine_L3 N rec n l1 l2 l3 l4 s = some σ' → o_Z (o_up G) RX7 cX7_putLine (Option.none : Option Jvm.ClassFile.FieldType) 7 (406 + d) (o_E (o_up G) (none) σ') (o_k σ') s 3 [(0, .ref (g_ad G 6)), (1, .int l1), (2, .int l2), (3, .int l3), (4, .int l4)] [] := by
  intro n
  induction n with
  | zero => intro l1 l2 l3 l4 s h; cases h
  | succ n ih =>
    intro l1 l2 l3 l4 s h
    rw [f_X7_putLine_L3] at h
    refine z_iload dX7_putLine_3 4 rfl ?_
    refine z_iload_n dX7_putLine_5 2 rfl ?_
    refine z_icmp_ge (tgt := 21) dX7_putLine_6 (by decide) (fun hc1 => ?_) (fun hc1 => ?_)
    · replace h := o_ip hc1 h
      refine z_aload_n dX7_putLine_21 0 rfl ?_
      refine z_iload_n dX7_putLine_22 1 rfl ?_
      obtain ⟨x4, s2, e3, h⟩ := o_bdi h
      refine z_callVi (As := [.int _]) (e_X7_lastOf e3) (by omega) mi_X7_lastOf ml_X7_247 rfl rfl (Nat.le_of_ble_eq_true rfl) rv_6 dX7_putLine_23 ?_
      refine z_istore (L' := [(4, .int _), (0, .ref _), (1, .int _), (2, .int _), (3, .int _)]) dX7_putLine_26 (by decide) rfl ?_
      refine z_iload_n dX7_putLine_28 4 rfl ?_
      refine z_if_eq (tgt := 46) dX7_putLine_29 (by decide) (fun hc5 => ?_) (fun hc5 => ?_)
      · replace h := o_ip hc5 h
        refine z_iconst (v := 0) dX7_putLine_46 (by decide) ?_
        exact o_Z.sub [1, 2, 3, 0] rfl (s_X7_putLine_b47 hrec h)
      · replace h := o_in hc5 h
        refine z_aload_n dX7_putLine_32 1 rfl ?_
        refine zg_X7_kinds fl_X7_13 dX7_putLine_33 ?_
        refine z_iload dX7_putLine_36 0 rfl ?_
        obtain ⟨g27, h⟩ := o_gd h
        replace h := o_dd h
        refine za_kinds g27 dX7_putLine_38 ?_
        refine z_if_ne (tgt := 46) dX7_putLine_39 (by decide) (fun hc29 => ?_) (fun hc29 => ?_)
        · replace h := o_in hc29 h
          refine z_iconst (v := 0) dX7_putLine_46 (by decide) ?_
          exact o_Z.sub [1, 2, 3, 0] rfl (s_X7_putLine_b47 hrec h)
        · replace h := o_ip hc29 h
          refine z_iconst (v := 1) dX7_putLine_42 (by decide) ?_
          refine z_goto (tgt := 47) dX7_putLine_43 (by decide) ?_
          exact o_Z.sub [1, 2, 3, 0] rfl (s_X7_putLine_b47 hrec h)
    · replace h := o_in hc1 h
      refine z_aload_n dX7_putLine_9 0 rfl ?_
      refine z_bipush (v := 32) dX7_putLine_10 (by decide) ?_
      obtain ⟨s30, e31, h⟩ := o_bdv h
      refine z_callVv (As := [.int _]) (e_X7_put e31) (by omega) mi_X7_put ml_X7_237 rfl rfl (Nat.le_of_ble_eq_true rfl) rv_6 dX7_putLine_12 ?_
      refine z_iinc (v := _ + 1) (L' := [(4, .int _), (0, .ref _), (1, .int _), (2, .int _), (3, .int _)]) dX7_putLine_15 4 rfl rfl (by decide) rfl ?_
      refine z_goto (tgt := 3) dX7_putLine_18 (by decide) ?_
      exact o_Z.sub [1, 2, 3, 4, 0] rfl (ih _ _ _ _ _ h)
set_option maxRecDepth 10000 in
theorem s_X7_putLine {G : o_G} {N : Nat} {d : Nat} {rec : Nat → Int32 → Int32 → Int32 → o_S → Option o_S} {σ' : o_S} {p1 : Int32} {p2 : Int32} {p3 : Int32} (hrec : (∀ (a b c : Int32) (s s1 : o_S), rec 0 a b c s = some s1 → o_Ev (o_up G) yX7_putLine cX7_putLine 7 (none) (405 + d) [.ref (g_ad G 6), .int a, .int b, .int c] s none s1)) {s : o_S} (h : f_X7_putLine N rec p1 p2 p3 s = some σ') : o_Z (o_up G) RX7 cX7_putLine (Option.none : Option Jvm.ClassFile.FieldType) 7 (406 + d) (o_E (o_up G) (none) σ') (o_k σ') s 0 [(0, .ref (g_ad G 6)), (1, .int p1), (2, .int p2), (3, .int p3)] [] := by
  unfold f_X7_putLine at h
  refine z_iconst (v := 0) dX7_putLine_0 (by decide) ?_
  refine z_istore (L' := [(4, .int _), (0, .ref _), (1, .int _), (2, .int _), (3, .int _)]) dX7_putLine_1 (by decide) rfl ?_
  exact o_Z.sub [1, 2, 3, 4, 0] rfl (s_X7_putLine_L3 hrec _ _ _ _ _ _ h)
theorem r_gL {G : o_G} {N : Nat} : ∀ d : Nat, (∀ (a b c : Int32) (s s1 : o_S), f_gL N d 0 a b c s = some s1 → o_Ev (o_up G) yX7_putLine cX7_putLine 7 (Option.none : Option Jvm.ClassFile.FieldType) (405 + d) [.ref (g_ad G 6), .int a, .int b, .int c] s none s1) := by
  intro d
  induction d with
  | zero => exact (fun a b c s s1 h => (by cases h))
  | succ d ih =>
    have e : 405 + (d + 1) = 406 + d := by omega
    rw [e]
    exact (fun a b c s s1 h => o_Ev.mk rfl (Nat.le_of_ble_eq_true rfl) (s_X7_putLine ih (by rw [f_gL] at h; exact h)))
theorem e_X7_putLine {G : o_G} {N : Nat} {a : Int32} {b : Int32} {c : Int32} {s s1 : o_S} (h : f_gL N 200 0 a b c s = some s1) : o_Ev (o_up G) yX7_putLine cX7_putLine 7 (Option.none : Option Jvm.ClassFile.FieldType) 605 [.ref (g_ad G 6), .int a, .int b, .int c] s none s1 := (r_gL 200) _ _ _ _ _ h
-- X7_write
set_option maxRecDepth 10000 in
theorem s_X7_write_L17 {G : o_G} {N : Nat} {r : Int32} {σ' : o_S} : ∀ (n : Nat) (l1 : Int32) (l2 : Int32) (s : o_S), f_X7_write_L17 N n l1 l2 s = some (r, σ') → o_Z (o_up G) RX7 cX7_write (Option.some Jvm.ClassFile.FieldType.int) 3 607 (o_E (o_up G) (some (.int r)) σ') (o_k σ') s 17 [(0, .ref (g_ad G 6)), (1, .int l1), (2, .int l2)] [] := by
  intro n
  induction n with
  | zero => intro l1 l2 s h; cases h
  | succ n ih =>
    intro l1 l2 s h
    rw [f_X7_write_L17] at h
    refine z_iload_n dX7_write_17 2 rfl ?_
    refine z_iconst (v := (-1)) dX7_write_18 (by decide) ?_
    refine z_icmp_eq (tgt := 39) dX7_write_19 (by decide) (fun hc5 => ?_) (fun hc5 => ?_)
    · replace h := o_ip hc5 h
      refine z_aload_n dX7_write_39 0 rfl ?_
      refine zg_X7_written fl_X7_231 dX7_write_40 ?_
      cases h
      exact z_iret rfl rfl rfl dX7_write_43
    · replace h := o_in hc5 h
      refine z_aload_n dX7_write_22 0 rfl ?_
      refine z_iload_n dX7_write_23 2 rfl ?_
      refine z_iconst (v := 0) dX7_write_24 (by decide) ?_
      refine z_iload_n dX7_write_25 1 rfl ?_
      obtain ⟨s6, e7, h⟩ := o_bdv h
      refine z_callVv (As := [.int _, .int _, .int _]) (e_X7_putLine e7) (by decide) mi_X7_putLine ml_X7_250 rfl rfl (Nat.le_of_ble_eq_true rfl) rv_6 dX7_write_26 ?_
      refine z_aload_n dX7_write_29 0 rfl ?_
      refine zg_X7_nexts fl_X7_22 dX7_write_30 ?_
      refine z_iload_n dX7_write_33 2 rfl ?_
      obtain ⟨g8, h⟩ := o_gd h
      replace h := o_dd h
      refine za_nexts g8 dX7_write_34 ?_
      refine z_istore_n (L' := [(2, .int _), (0, .ref _), (1, .int _)]) dX7_write_35 (by decide) rfl ?_
      refine z_goto (tgt := 17) dX7_write_36 (by decide) ?_
      exact o_Z.sub [1, 2, 0] rfl (ih _ _ _ h)
set_option maxRecDepth 10000 in
theorem s_X7_write {G : o_G} {N : Nat} {r : Int32} {σ' : o_S} {p1 : Int32} {s : o_S} (h : f_X7_write N p1 s = some (r, σ')) : o_Z (o_up G) RX7 cX7_write (Option.some Jvm.ClassFile.FieldType.int) 3 607 (o_E (o_up G) (some (.int r)) σ') (o_k σ') s 0 [(0, .ref (g_ad G 6)), (1, .int p1)] [] := by
  unfold f_X7_write at h
  refine z_aload_n dX7_write_0 0 rfl ?_
  refine z_iconst (v := 0) dX7_write_1 (by decide) ?_
  replace h := o_dd h
  refine zp_X7_thrown fl_X7_71 dX7_write_2 ?_
  refine z_aload_n dX7_write_5 0 rfl ?_
  refine z_iconst (v := 0) dX7_write_6 (by decide) ?_
  replace h := o_dd h
  refine zp_X7_written fl_X7_231 dX7_write_7 ?_
  refine z_aload_n dX7_write_10 0 rfl ?_
  refine zg_X7_firsts fl_X7_19 dX7_write_11 ?_
  refine z_iconst (v := 0) dX7_write_14 (by decide) ?_
  obtain ⟨g3, h⟩ := o_gd h
  replace h := o_dd h
  refine za_firsts g3 dX7_write_15 ?_
  refine z_istore_n (L' := [(2, .int _), (0, .ref _), (1, .int _)]) dX7_write_16 (by decide) rfl ?_
  exact o_Z.sub [1, 2, 0] rfl (s_X7_write_L17 _ _ _ _ h)
theorem e_X7_write {G : o_G} {N : Nat} {r : Int32} {σ' : o_S} {p1 : Int32} {s : o_S} (h : f_X7_write N p1 s = some (r, σ')) : o_Ev (o_up G) yX7_write cX7_write 3 (Option.some Jvm.ClassFile.FieldType.int) 607 [.ref (g_ad G 6), .int p1] s (some (.int r)) σ' := o_Ev.mk rfl (Nat.le_of_ble_eq_true rfl) (s_X7_write h)
-- X7_written
set_option maxRecDepth 10000 in
theorem s_X7_written {G : o_G} {N : Nat} {r : Int32} {σ' : o_S} {p1 : Int32} {s : o_S} (h : f_X7_written N p1 s = some (r, σ')) : o_Z (o_up G) RX7 cX7_written (Option.some Jvm.ClassFile.FieldType.int) 2 1 (o_E (o_up G) (some (.int r)) σ') (o_k σ') s 0 [(0, .ref (g_ad G 6)), (1, .int p1)] [] := by
  unfold f_X7_written at h
  refine z_aload_n dX7_written_0 0 rfl ?_
  refine z_iconst (v := 0) dX7_written_1 (by decide) ?_
  replace h := o_dd h
  refine zp_X7_thrown fl_X7_71 dX7_written_2 ?_
  refine z_iload_n dX7_written_5 1 rfl ?_
  refine z_if_lt (tgt := 26) dX7_written_6 (by decide) (fun hc2 => ?_) (fun hc2 => ?_)
  · replace h := o_ip hc2 h
    refine z_aload_n dX7_written_26 0 rfl ?_
    refine z_iconst (v := 1) dX7_written_27 (by decide) ?_
    obtain ⟨x5, s3, e4, h⟩ := o_bdi h
    refine z_callVi (As := [.int _]) (e_X7_fail e4) (by decide) mi_X7_fail ml_X7_85 rfl rfl (Nat.le_of_ble_eq_true rfl) rv_6 dX7_written_28 ?_
    cases h
    exact z_iret rfl rfl rfl dX7_written_31
  · replace h := o_in hc2 h
    refine z_iload_n dX7_written_9 1 rfl ?_
    refine z_aload_n dX7_written_10 0 rfl ?_
    refine zg_X7_written fl_X7_231 dX7_written_11 ?_
    refine z_icmp_ge (tgt := 26) dX7_written_14 (by decide) (fun hc6 => ?_) (fun hc6 => ?_)
    · replace h := o_ip hc6 h
      refine z_aload_n dX7_written_26 0 rfl ?_
      refine z_iconst (v := 1) dX7_written_27 (by decide) ?_
      obtain ⟨x9, s7, e8, h⟩ := o_bdi h
      refine z_callVi (As := [.int _]) (e_X7_fail e8) (by decide) mi_X7_fail ml_X7_85 rfl rfl (Nat.le_of_ble_eq_true rfl) rv_6 dX7_written_28 ?_
      cases h
      exact z_iret rfl rfl rfl dX7_written_31
    · replace h := o_in hc6 h
      refine z_aload_n dX7_written_17 0 rfl ?_
      refine zg_X7_output fl_X7_50 dX7_written_18 ?_
      refine z_iload_n dX7_written_21 1 rfl ?_
      obtain ⟨g10, h⟩ := o_gd h
      replace h := o_dd h
      refine za_output g10 dX7_written_22 ?_
      refine z_goto (tgt := 31) dX7_written_23 (by decide) ?_
      cases h
      exact z_iret rfl rfl rfl dX7_written_31
theorem e_X7_written {G : o_G} {N : Nat} {r : Int32} {σ' : o_S} {p1 : Int32} {s : o_S} (h : f_X7_written N p1 s = some (r, σ')) : o_Ev (o_up G) yX7_written cX7_written 2 (Option.some Jvm.ClassFile.FieldType.int) 1 [.ref (g_ad G 6), .int p1] s (some (.int r)) σ' := o_Ev.mk rfl (Nat.le_of_ble_eq_true rfl) (s_X7_written h)
-- X7_digest
set_option maxRecDepth 10000 in
theorem s_X7_digest_L86 {G : o_G} {N : Nat} {k27 : Int64 → Int32 → o_S → Option (Int64 × o_S)} {r : Int64} {σ' : o_S} (hk27 : ∀ (z1 : Int64) (z3 : Int32) (s : o_S), k27 z1 z3 s = some (r, σ') → o_Z (o_up G) RX7 cX7_digest (Option.some Jvm.ClassFile.FieldType.long) 6 2 (o_E (o_up G) (some (.long r)) σ') (o_k σ') s 27 [(0, .ref (g_ad G 6)), (1, .long z1), (3, .int z3)] []) : ∀ (n : Nat) (l1 : Int64) (l3 : Int32) (l4 : Int32) (l5 : Int32) (s : o_S), f_X7_digest_L86 N k27 n l1 l3 l4 l5 s = some (r, σ') → o_Z (o_up G) RX7 cX7_digest (Option.some Jvm.ClassFile.FieldType.long) 6 2 (o_E (o_up G) (some (.long r)) σ') (o_k σ') s 86 [(0, .ref (g_ad G 6)), (1, .long l1), (3, .int l3), (4, .int l4), (5, .int l5)] [] := by
  intro n
  induction n with
  | zero => intro l1 l3 l4 l5 s h; cases h
  | succ n ih =>
    intro l1 l3 l4 l5 s h
    rw [f_X7_digest_L86] at h
    refine z_iload dX7_digest_86 4 rfl ?_
    refine z_aload_n dX7_digest_88 0 rfl ?_
    refine zg_X7_values fl_X7_31 dX7_digest_89 ?_
    refine z_iload dX7_digest_92 3 rfl ?_
    obtain ⟨g15, h⟩ := o_gd h
    replace h := o_dd h
    refine za_values g15 dX7_digest_94 ?_
    refine z_icmp_ge (tgt := 138) dX7_digest_95 (by decide) (fun hc17 => ?_) (fun hc17 => ?_)
    · replace h := o_ip hc17 h
      refine z_iinc (v := _ + 1) (L' := [(3, .int _), (0, .ref _), (1, .long _), (4, .int _), (5, .int _)]) dX7_digest_138 2 rfl rfl (by decide) rfl ?_
      refine z_goto (tgt := 27) dX7_digest_141 (by decide) ?_
      exact o_Z.sub [1, 2, 0] rfl (hk27 _ _ _ h)
    · replace h := o_in hc17 h
      refine z_aload_n dX7_digest_98 0 rfl ?_
      refine zg_X7_kinds fl_X7_13 dX7_digest_99 ?_
      refine z_iload dX7_digest_102 3 rfl ?_
      obtain ⟨g18, h⟩ := o_gd h
      replace h := o_dd h
      refine za_kinds g18 dX7_digest_104 ?_
      refine z_iconst (v := 2) dX7_digest_105 (by decide) ?_
      refine z_icmp_ne (tgt := 138) dX7_digest_106 (by decide) (fun hc20 => ?_) (fun hc20 => ?_)
      · replace h := o_in hc20 h
        refine z_iinc (v := _ + 1) (L' := [(3, .int _), (0, .ref _), (1, .long _), (4, .int _), (5, .int _)]) dX7_digest_138 2 rfl rfl (by decide) rfl ?_
        refine z_goto (tgt := 27) dX7_digest_141 (by decide) ?_
        exact o_Z.sub [1, 2, 0] rfl (hk27 _ _ _ h)
      · replace h := o_ip hc20 h
        refine z_lload_n dX7_digest_109 1 rfl ?_
        refine z_ldc2 cl_X7_256 dX7_digest_110 ?_
        refine z_lmul dX7_digest_113 ?_
        refine z_aload_n dX7_digest_114 0 rfl ?_
        refine zg_X7_letters fl_X7_37 dX7_digest_115 ?_
        refine z_aload_n dX7_digest_118 0 rfl ?_
        refine zg_X7_starts fl_X7_34 dX7_digest_119 ?_
        refine z_iload dX7_digest_122 3 rfl ?_
        obtain ⟨g21, h⟩ := o_gd h
        replace h := o_dd h
        refine za_starts g21 dX7_digest_124 ?_
        refine z_iload dX7_digest_125 4 rfl ?_
        refine z_iadd dX7_digest_127 ?_
        obtain ⟨g23, h⟩ := o_gd h
        replace h := o_dd h
        refine za_letters g23 dX7_digest_128 ?_
        refine z_i2l dX7_digest_129 ?_
        refine z_ladd dX7_digest_130 ?_
        refine z_lstore_n (L' := [(1, .long _), (0, .ref _), (3, .int _), (4, .int _), (5, .int _)]) dX7_digest_131 (by decide) rfl ?_
        refine z_iinc (v := _ + 1) (L' := [(5, .int _), (1, .long _), (0, .ref _), (3, .int _), (4, .int _)]) dX7_digest_132 4 rfl rfl (by decide) rfl ?_
        refine z_goto (tgt := 86) dX7_digest_135 (by decide) ?_
        exact o_Z.sub [2, 1, 3, 4, 0] rfl (ih _ _ _ _ _ h)
set_option maxRecDepth 10000 in
theorem s_X7_digest_L27 {G : o_G} {N : Nat} {r : Int64} {σ' : o_S} : ∀ (n : Nat) (l1 : Int64) (l3 : Int32) (s : o_S), f_X7_digest_L27 N n l1 l3 s = some (r, σ') → o_Z (o_up G) RX7 cX7_digest (Option.some Jvm.ClassFile.FieldType.long) 6 2 (o_E (o_up G) (some (.long r)) σ') (o_k σ') s 27 [(0, .ref (g_ad G 6)), (1, .long l1), (3, .int l3)] [] := by
  intro n
  induction n with
  | zero => intro l1 l3 s h; cases h
  | succ n ih =>
    intro l1 l3 s h
    rw [f_X7_digest_L27] at h
    refine z_iload_n dX7_digest_27 2 rfl ?_
    refine z_aload_n dX7_digest_28 0 rfl ?_
    refine zg_X7_nodes fl_X7_113 dX7_digest_29 ?_
    refine z_icmp_ge (tgt := 144) dX7_digest_32 (by decide) (fun hc2 => ?_) (fun hc2 => ?_)
    · replace h := o_ip hc2 h
      refine z_lload_n dX7_digest_144 1 rfl ?_
      refine z_ldc2 cl_X7_256 dX7_digest_145 ?_
      refine z_lmul dX7_digest_148 ?_
      refine z_aload_n dX7_digest_149 0 rfl ?_
      refine zg_X7_repairs fl_X7_95 dX7_digest_150 ?_
      refine z_i2l dX7_digest_153 ?_
      refine z_ladd dX7_digest_154 ?_
      refine z_ldc2 cl_X7_256 dX7_digest_155 ?_
      refine z_lmul dX7_digest_158 ?_
      refine z_aload_n dX7_digest_159 0 rfl ?_
      obtain ⟨x5, s3, e4, h⟩ := o_bdi h
      refine z_callVi (As := []) (e_X7_words e4) (by decide) mi_X7_words ml_X7_211 rfl rfl (Nat.le_of_ble_eq_true rfl) rv_6 dX7_digest_160 ?_
      refine z_i2l dX7_digest_163 ?_
      refine z_ladd dX7_digest_164 ?_
      cases h
      exact z_lret rfl rfl rfl dX7_digest_165
    · replace h := o_in hc2 h
      refine z_aload_n dX7_digest_35 0 rfl ?_
      refine zg_X7_idOf fl_X7_40 dX7_digest_36 ?_
      refine z_iload_n dX7_digest_39 2 rfl ?_
      obtain ⟨g6, h⟩ := o_gd h
      replace h := o_dd h
      refine za_idOf g6 dX7_digest_40 ?_
      refine z_istore (L' := [(4, .int _), (0, .ref _), (1, .long _), (3, .int _)]) dX7_digest_41 (by decide) rfl ?_
      refine z_lload_n dX7_digest_43 2 rfl ?_
      refine z_ldc2 cl_X7_256 dX7_digest_44 ?_
      refine z_lmul dX7_digest_47 ?_
      refine z_aload_n dX7_digest_48 1 rfl ?_
      refine zg_X7_kinds fl_X7_13 dX7_digest_49 ?_
      refine z_iload dX7_digest_52 0 rfl ?_
      obtain ⟨g8, h⟩ := o_gd h
      replace h := o_dd h
      refine za_kinds g8 dX7_digest_54 ?_
      refine z_i2l dX7_digest_55 ?_
      refine z_ladd dX7_digest_56 ?_
      refine z_ldc2 cl_X7_256 dX7_digest_57 ?_
      refine z_lmul dX7_digest_60 ?_
      refine z_aload_n dX7_digest_61 1 rfl ?_
      refine z_iload dX7_digest_62 0 rfl ?_
      obtain ⟨x12, s10, e11, h⟩ := o_bdi h
      refine z_callVi (As := [.int _]) (e_X7_countOf e11) (by decide) mi_X7_countOf ml_X7_102 rfl rfl (Nat.le_of_ble_eq_true rfl) rv_6 dX7_digest_64 ?_
      refine z_i2l dX7_digest_67 ?_
      refine z_ladd dX7_digest_68 ?_
      refine z_ldc2 cl_X7_256 dX7_digest_69 ?_
      refine z_lmul dX7_digest_72 ?_
      refine z_aload_n dX7_digest_73 1 rfl ?_
      refine zg_X7_values fl_X7_31 dX7_digest_74 ?_
      refine z_iload dX7_digest_77 0 rfl ?_
      obtain ⟨g13, h⟩ := o_gd h
      replace h := o_dd h
      refine za_values g13 dX7_digest_79 ?_
      refine z_i2l dX7_digest_80 ?_
      refine z_ladd dX7_digest_81 ?_
      refine z_lstore_n (L' := [(1, .long _), (4, .int _), (0, .ref _), (3, .int _)]) dX7_digest_82 (by decide) rfl ?_
      refine z_iconst (v := 0) dX7_digest_83 (by decide) ?_
      refine z_istore (L' := [(5, .int _), (1, .long _), (4, .int _), (0, .ref _), (3, .int _)]) dX7_digest_84 (by decide) rfl ?_
      exact o_Z.sub [3, 1, 4, 2, 0] rfl (s_X7_digest_L86 ih _ _ _ _ _ _ h)
set_option maxRecDepth 10000 in
theorem s_X7_digest {G : o_G} {N : Nat} {r : Int64} {σ' : o_S} {s : o_S} (h : f_X7_digest N  s = some (r, σ')) : o_Z (o_up G) RX7 cX7_digest (Option.some Jvm.ClassFile.FieldType.long) 6 2 (o_E (o_up G) (some (.long r)) σ') (o_k σ') s 0 [(0, .ref (g_ad G 6))] [] := by
  unfold f_X7_digest at h
  refine z_aload_n dX7_digest_0 0 rfl ?_
  refine z_iconst (v := 0) dX7_digest_1 (by decide) ?_
  replace h := o_dd h
  refine zp_X7_thrown fl_X7_71 dX7_digest_2 ?_
  refine z_ldc2 cl_X7_254 dX7_digest_5 ?_
  refine z_aload_n dX7_digest_8 0 rfl ?_
  refine zg_X7_size fl_X7_89 dX7_digest_9 ?_
  refine z_i2l dX7_digest_12 ?_
  refine z_ladd dX7_digest_13 ?_
  refine z_ldc2 cl_X7_256 dX7_digest_14 ?_
  refine z_lmul dX7_digest_17 ?_
  refine z_aload_n dX7_digest_18 0 rfl ?_
  refine zg_X7_nodes fl_X7_113 dX7_digest_19 ?_
  refine z_i2l dX7_digest_22 ?_
  refine z_ladd dX7_digest_23 ?_
  refine z_lstore_n (L' := [(1, .long _), (0, .ref _)]) dX7_digest_24 (by decide) rfl ?_
  refine z_iconst (v := 0) dX7_digest_25 (by decide) ?_
  refine z_istore_n (L' := [(3, .int _), (1, .long _), (0, .ref _)]) dX7_digest_26 (by decide) rfl ?_
  exact o_Z.sub [2, 1, 0] rfl (s_X7_digest_L27 _ _ _ _ h)
theorem e_X7_digest {G : o_G} {N : Nat} {r : Int64} {σ' : o_S} {s : o_S} (h : f_X7_digest N  s = some (r, σ')) : o_Ev (o_up G) yX7_digest cX7_digest 6 (Option.some Jvm.ClassFile.FieldType.long) 2 [.ref (g_ad G 6)] s (some (.long r)) σ' := o_Ev.mk rfl (Nat.le_of_ble_eq_true rfl) (s_X7_digest h)
