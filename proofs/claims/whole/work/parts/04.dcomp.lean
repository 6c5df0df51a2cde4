theorem dX0_init_0 : decode cX0_init 0 = .ok (.aload_n 0, 1) := by decide +kernel
theorem dX0_init_1 : decode cX0_init 1 = .ok (.invokespecial 3, 3) := by decide +kernel
theorem dX0_init_4 : decode cX0_init 4 = .ok (.aload_n 0, 1) := by decide +kernel
theorem dX0_init_5 : decode cX0_init 5 = .ok (.new 9, 3) := by decide +kernel
theorem dX0_init_8 : decode cX0_init 8 = .ok (.dup, 1) := by decide +kernel
theorem dX0_init_9 : decode cX0_init 9 = .ok (.invokespecial 11, 3) := by decide +kernel
theorem dX0_init_12 : decode cX0_init 12 = .ok (.putfield 12, 3) := by decide +kernel
theorem dX0_init_15 : decode cX0_init 15 = .ok (.aload_n 0, 1) := by decide +kernel
theorem dX0_init_16 : decode cX0_init 16 = .ok (.new 9, 3) := by decide +kernel
theorem dX0_init_19 : decode cX0_init 19 = .ok (.dup, 1) := by decide +kernel
theorem dX0_init_20 : decode cX0_init 20 = .ok (.invokespecial 11, 3) := by decide +kernel
theorem dX0_init_23 : decode cX0_init 23 = .ok (.putfield 18, 3) := by decide +kernel
theorem dX0_init_26 : decode cX0_init 26 = .ok (.aload_n 0, 1) := by decide +kernel
theorem dX0_init_27 : decode cX0_init 27 = .ok (.new 9, 3) := by decide +kernel
theorem dX0_init_30 : decode cX0_init 30 = .ok (.dup, 1) := by decide +kernel
theorem dX0_init_31 : decode cX0_init 31 = .ok (.invokespecial 11, 3) := by decide +kernel
theorem dX0_init_34 : decode cX0_init 34 = .ok (.putfield 21, 3) := by decide +kernel
theorem dX0_init_37 : decode cX0_init 37 = .ok (.aload_n 0, 1) := by decide +kernel
theorem dX0_init_38 : decode cX0_init 38 = .ok (.iconst 0, 1) := by decide +kernel
theorem dX0_init_39 : decode cX0_init 39 = .ok (.putfield 24, 3) := by decide +kernel
theorem dX0_init_42 : decode cX0_init 42 = .ok (.aload_n 0, 1) := by decide +kernel
theorem dX0_init_43 : decode cX0_init 43 = .ok (.iconst 0, 1) := by decide +kernel
theorem dX0_init_44 : decode cX0_init 44 = .ok (.putfield 28, 3) := by decide +kernel
theorem dX0_init_47 : decode cX0_init 47 = .ok (.aload_n 0, 1) := by decide +kernel
theorem dX0_init_48 : decode cX0_init 48 = .ok (.aload_n 1, 1) := by decide +kernel
theorem dX0_init_49 : decode cX0_init 49 = .ok (.putfield 31, 3) := by decide +kernel
theorem dX0_init_52 : decode cX0_init 52 = .ok (.aload_n 0, 1) := by decide +kernel
theorem dX0_init_53 : decode cX0_init 53 = .ok (.aload_n 2, 1) := by decide +kernel
theorem dX0_init_54 : decode cX0_init 54 = .ok (.putfield 34, 3) := by decide +kernel
theorem dX0_init_57 : decode cX0_init 57 = .ok (.aload_n 0, 1) := by decide +kernel
theorem dX0_init_58 : decode cX0_init 58 = .ok (.aload_n 3, 1) := by decide +kernel
theorem dX0_init_59 : decode cX0_init 59 = .ok (.putfield 38, 3) := by decide +kernel
theorem dX0_init_62 : decode cX0_init 62 = .ok (.aload_n 0, 1) := by decide +kernel
theorem dX0_init_63 : decode cX0_init 63 = .ok (.aload 4, 2) := by decide +kernel
theorem dX0_init_65 : decode cX0_init 65 = .ok (.putfield 42, 3) := by decide +kernel
theorem dX0_init_68 : decode cX0_init 68 = .ok (.return_, 1) := by decide +kernel
theorem dX0_startAgain_0 : decode cX0_startAgain 0 = .ok (.aload_n 0, 1) := by decide +kernel
theorem dX0_startAgain_1 : decode cX0_startAgain 1 = .ok (.getfield 12, 3) := by decide +kernel
theorem dX0_startAgain_4 : decode cX0_startAgain 4 = .ok (.iconst 0, 1) := by decide +kernel
theorem dX0_startAgain_5 : decode cX0_startAgain 5 = .ok (.invokevirtual 46, 3) := by decide +kernel
theorem dX0_startAgain_8 : decode cX0_startAgain 8 = .ok (.aload_n 0, 1) := by decide +kernel
theorem dX0_startAgain_9 : decode cX0_startAgain 9 = .ok (.getfield 18, 3) := by decide +kernel
theorem dX0_startAgain_12 : decode cX0_startAgain 12 = .ok (.iconst 0, 1) := by decide +kernel
theorem dX0_startAgain_13 : decode cX0_startAgain 13 = .ok (.invokevirtual 46, 3) := by decide +kernel
theorem dX0_startAgain_16 : decode cX0_startAgain 16 = .ok (.aload_n 0, 1) := by decide +kernel
theorem dX0_startAgain_17 : decode cX0_startAgain 17 = .ok (.getfield 21, 3) := by decide +kernel
theorem dX0_startAgain_20 : decode cX0_startAgain 20 = .ok (.iconst 0, 1) := by decide +kernel
theorem dX0_startAgain_21 : decode cX0_startAgain 21 = .ok (.invokevirtual 46, 3) := by decide +kernel
theorem dX0_startAgain_24 : decode cX0_startAgain 24 = .ok (.aload_n 0, 1) := by decide +kernel
theorem dX0_startAgain_25 : decode cX0_startAgain 25 = .ok (.iconst 0, 1) := by decide +kernel
theorem dX0_startAgain_26 : decode cX0_startAgain 26 = .ok (.putfield 24, 3) := by decide +kernel
theorem dX0_startAgain_29 : decode cX0_startAgain 29 = .ok (.aload_n 0, 1) := by decide +kernel
theorem dX0_startAgain_30 : decode cX0_startAgain 30 = .ok (.iconst 0, 1) := by decide +kernel
theorem dX0_startAgain_31 : decode cX0_startAgain 31 = .ok (.putfield 28, 3) := by decide +kernel
theorem dX0_startAgain_34 : decode cX0_startAgain 34 = .ok (.aload_n 0, 1) := by decide +kernel
theorem dX0_startAgain_35 : decode cX0_startAgain 35 = .ok (.iconst 0, 1) := by decide +kernel
theorem dX0_startAgain_36 : decode cX0_startAgain 36 = .ok (.iconst 0, 1) := by decide +kernel
theorem dX0_startAgain_37 : decode cX0_startAgain 37 = .ok (.invokevirtual 50, 3) := by decide +kernel
theorem dX0_startAgain_40 : decode cX0_startAgain 40 = .ok (.return_, 1) := by decide +kernel
theorem dX0_take_0 : decode cX0_take 0 = .ok (.aload_n 0, 1) := by decide +kernel
theorem dX0_take_1 : decode cX0_take 1 = .ok (.getfield 28, 3) := by decide +kernel
theorem dX0_take_4 : decode cX0_take 4 = .ok (.istore_n 1, 1) := by decide +kernel
theorem dX0_take_5 : decode cX0_take 5 = .ok (.aload_n 0, 1) := by decide +kernel
theorem dX0_take_6 : decode cX0_take 6 = .ok (.iconst 0, 1) := by decide +kernel
theorem dX0_take_7 : decode cX0_take 7 = .ok (.putfield 28, 3) := by decide +kernel
theorem dX0_take_10 : decode cX0_take 10 = .ok (.aload_n 0, 1) := by decide +kernel
theorem dX0_take_11 : decode cX0_take 11 = .ok (.getfield 24, 3) := by decide +kernel
theorem dX0_take_14 : decode cX0_take 14 = .ok (.ifCond .ne 23, 3) := by decide +kernel
theorem dX0_take_17 : decode cX0_take 17 = .ok (.aload_n 0, 1) := by decide +kernel
theorem dX0_take_18 : decode cX0_take 18 = .ok (.iconst 1, 1) := by decide +kernel
theorem dX0_take_19 : decode cX0_take 19 = .ok (.putfield 24, 3) := by decide +kernel
theorem dX0_take_22 : decode cX0_take 22 = .ok (.aload_n 0, 1) := by decide +kernel
theorem dX0_take_23 : decode cX0_take 23 = .ok (.getfield 18, 3) := by decide +kernel
theorem dX0_take_26 : decode cX0_take 26 = .ok (.iconst 0, 1) := by decide +kernel
theorem dX0_take_27 : decode cX0_take 27 = .ok (.aload_n 0, 1) := by decide +kernel
theorem dX0_take_28 : decode cX0_take 28 = .ok (.getfield 34, 3) := by decide +kernel
theorem dX0_take_31 : decode cX0_take 31 = .ok (.getfield 54, 3) := by decide +kernel
theorem dX0_take_34 : decode cX0_take 34 = .ok (.invokevirtual 60, 3) := by decide +kernel
theorem dX0_take_37 : decode cX0_take 37 = .ok (.aload_n 0, 1) := by decide +kernel
theorem dX0_take_38 : decode cX0_take 38 = .ok (.getfield 38, 3) := by decide +kernel
theorem dX0_take_41 : decode cX0_take 41 = .ok (.aload_n 0, 1) := by decide +kernel
theorem dX0_take_42 : decode cX0_take 42 = .ok (.getfield 12, 3) := by decide +kernel
theorem dX0_take_45 : decode cX0_take 45 = .ok (.aload_n 0, 1) := by decide +kernel
theorem dX0_take_46 : decode cX0_take 46 = .ok (.invokevirtual 63, 3) := by decide +kernel
theorem dX0_take_49 : decode cX0_take 49 = .ok (.invokevirtual 67, 3) := by decide +kernel
theorem dX0_take_52 : decode cX0_take 52 = .ok (.iconst 4, 1) := by decide +kernel
theorem dX0_take_53 : decode cX0_take 53 = .ok (.invokevirtual 71, 3) := by decide +kernel
theorem dX0_take_56 : decode cX0_take 56 = .ok (.ifCond .eq 10, 3) := by decide +kernel
theorem dX0_take_59 : decode cX0_take 59 = .ok (.aload_n 0, 1) := by decide +kernel
theorem dX0_take_60 : decode cX0_take 60 = .ok (.invokevirtual 77, 3) := by decide +kernel
theorem dX0_take_63 : decode cX0_take 63 = .ok (.goto 83, 3) := by decide +kernel
theorem dX0_take_66 : decode cX0_take 66 = .ok (.iload_n 1, 1) := by decide +kernel
theorem dX0_take_67 : decode cX0_take 67 = .ok (.ifCond .eq 29, 3) := by decide +kernel
theorem dX0_take_70 : decode cX0_take 70 = .ok (.aload_n 0, 1) := by decide +kernel
theorem dX0_take_71 : decode cX0_take 71 = .ok (.getfield 34, 3) := by decide +kernel
theorem dX0_take_74 : decode cX0_take 74 = .ok (.getfield 80, 3) := by decide +kernel
theorem dX0_take_77 : decode cX0_take 77 = .ok (.bipush 123, 2) := by decide +kernel
theorem dX0_take_79 : decode cX0_take 79 = .ok (.if_icmp .ne 17, 3) := by decide +kernel
theorem dX0_take_82 : decode cX0_take 82 = .ok (.aload_n 0, 1) := by decide +kernel
theorem dX0_take_83 : decode cX0_take 83 = .ok (.aload_n 0, 1) := by decide +kernel
theorem dX0_take_84 : decode cX0_take 84 = .ok (.iconst 0, 1) := by decide +kernel
theorem dX0_take_85 : decode cX0_take 85 = .ok (.iconst 1, 1) := by decide +kernel
theorem dX0_take_86 : decode cX0_take 86 = .ok (.invokevirtual 83, 3) := by decide +kernel
theorem dX0_take_89 : decode cX0_take 89 = .ok (.iconst (-1), 1) := by decide +kernel
theorem dX0_take_90 : decode cX0_take 90 = .ok (.invokevirtual 50, 3) := by decide +kernel
theorem dX0_take_93 : decode cX0_take 93 = .ok (.goto 53, 3) := by decide +kernel
theorem dX0_take_96 : decode cX0_take 96 = .ok (.iload_n 1, 1) := by decide +kernel
theorem dX0_take_97 : decode cX0_take 97 = .ok (.ifCond .eq 30, 3) := by decide +kernel
theorem dX0_take_100 : decode cX0_take 100 = .ok (.aload_n 0, 1) := by decide +kernel
theorem dX0_take_101 : decode cX0_take 101 = .ok (.invokevirtual 87, 3) := by decide +kernel
theorem dX0_take_104 : decode cX0_take 104 = .ok (.ifCond .eq 23, 3) := by decide +kernel
theorem dX0_take_107 : decode cX0_take 107 = .ok (.aload_n 0, 1) := by decide +kernel
theorem dX0_take_108 : decode cX0_take 108 = .ok (.aload_n 0, 1) := by decide +kernel
theorem dX0_take_109 : decode cX0_take 109 = .ok (.iconst 0, 1) := by decide +kernel
theorem dX0_take_110 : decode cX0_take 110 = .ok (.iconst 0, 1) := by decide +kernel
theorem dX0_take_111 : decode cX0_take 111 = .ok (.invokevirtual 83, 3) := by decide +kernel
theorem dX0_take_114 : decode cX0_take 114 = .ok (.aload_n 0, 1) := by decide +kernel
theorem dX0_take_115 : decode cX0_take 115 = .ok (.getfield 34, 3) := by decide +kernel
theorem dX0_take_118 : decode cX0_take 118 = .ok (.getfield 54, 3) := by decide +kernel
theorem dX0_take_121 : decode cX0_take 121 = .ok (.invokevirtual 50, 3) := by decide +kernel
theorem dX0_take_124 : decode cX0_take 124 = .ok (.goto 18, 3) := by decide +kernel
theorem dX0_take_127 : decode cX0_take 127 = .ok (.iload_n 1, 1) := by decide +kernel
theorem dX0_take_128 : decode cX0_take 128 = .ok (.ifCond .eq 10, 3) := by decide +kernel
theorem dX0_take_131 : decode cX0_take 131 = .ok (.aload_n 0, 1) := by decide +kernel
theorem dX0_take_132 : decode cX0_take 132 = .ok (.iconst 0, 1) := by decide +kernel
theorem dX0_take_133 : decode cX0_take 133 = .ok (.iconst 0, 1) := by decide +kernel
theorem dX0_take_134 : decode cX0_take 134 = .ok (.invokevirtual 83, 3) := by decide +kernel
theorem dX0_take_137 : decode cX0_take 137 = .ok (.pop, 1) := by decide +kernel
theorem dX0_take_138 : decode cX0_take 138 = .ok (.aload_n 0, 1) := by decide +kernel
theorem dX0_take_139 : decode cX0_take 139 = .ok (.invokevirtual 91, 3) := by decide +kernel
theorem dX0_take_142 : decode cX0_take 142 = .ok (.aload_n 0, 1) := by decide +kernel
theorem dX0_take_143 : decode cX0_take 143 = .ok (.invokevirtual 94, 3) := by decide +kernel
theorem dX0_take_146 : decode cX0_take 146 = .ok (.return_, 1) := by decide +kernel
theorem dX0_finish_0 : decode cX0_finish 0 = .ok (.aload_n 0, 1) := by decide +kernel
theorem dX0_finish_1 : decode cX0_finish 1 = .ok (.getfield 28, 3) := by decide +kernel
theorem dX0_finish_4 : decode cX0_finish 4 = .ok (.ifCond .eq 10, 3) := by decide +kernel
theorem dX0_finish_7 : decode cX0_finish 7 = .ok (.aload_n 0, 1) := by decide +kernel
theorem dX0_finish_8 : decode cX0_finish 8 = .ok (.iconst 0, 1) := by decide +kernel
theorem dX0_finish_9 : decode cX0_finish 9 = .ok (.iconst 0, 1) := by decide +kernel
theorem dX0_finish_10 : decode cX0_finish 10 = .ok (.invokevirtual 83, 3) := by decide +kernel
theorem dX0_finish_13 : decode cX0_finish 13 = .ok (.pop, 1) := by decide +kernel
theorem dX0_finish_14 : decode cX0_finish 14 = .ok (.aload_n 0, 1) := by decide +kernel
theorem dX0_finish_15 : decode cX0_finish 15 = .ok (.invokevirtual 63, 3) := by decide +kernel
theorem dX0_finish_18 : decode cX0_finish 18 = .ok (.istore_n 1, 1) := by decide +kernel
theorem dX0_finish_19 : decode cX0_finish 19 = .ok (.iload_n 1, 1) := by decide +kernel
theorem dX0_finish_20 : decode cX0_finish 20 = .ok (.ifCond .le 27, 3) := by decide +kernel
theorem dX0_finish_23 : decode cX0_finish 23 = .ok (.aload_n 0, 1) := by decide +kernel
theorem dX0_finish_24 : decode cX0_finish 24 = .ok (.getfield 18, 3) := by decide +kernel
theorem dX0_finish_27 : decode cX0_finish 27 = .ok (.iload_n 1, 1) := by decide +kernel
theorem dX0_finish_28 : decode cX0_finish 28 = .ok (.invokevirtual 67, 3) := by decide +kernel
theorem dX0_finish_31 : decode cX0_finish 31 = .ok (.iconst (-1), 1) := by decide +kernel
theorem dX0_finish_32 : decode cX0_finish 32 = .ok (.if_icmp .ne 9, 3) := by decide +kernel
theorem dX0_finish_35 : decode cX0_finish 35 = .ok (.aload_n 0, 1) := by decide +kernel
theorem dX0_finish_36 : decode cX0_finish 36 = .ok (.bipush 6, 2) := by decide +kernel
theorem dX0_finish_38 : decode cX0_finish 38 = .ok (.invokevirtual 97, 3) := by decide +kernel
theorem dX0_finish_41 : decode cX0_finish 41 = .ok (.iinc 1 (-1), 3) := by decide +kernel
theorem dX0_finish_44 : decode cX0_finish 44 = .ok (.goto (-25), 3) := by decide +kernel
theorem dX0_finish_47 : decode cX0_finish 47 = .ok (.return_, 1) := by decide +kernel
theorem dX0_innermost_0 : decode cX0_innermost 0 = .ok (.aload_n 0, 1) := by decide +kernel
theorem dX0_innermost_1 : decode cX0_innermost 1 = .ok (.getfield 12, 3) := by decide +kernel
theorem dX0_innermost_4 : decode cX0_innermost 4 = .ok (.invokevirtual 100, 3) := by decide +kernel
theorem dX0_innermost_7 : decode cX0_innermost 7 = .ok (.iconst 1, 1) := by decide +kernel
theorem dX0_innermost_8 : decode cX0_innermost 8 = .ok (.isub, 1) := by decide +kernel
theorem dX0_innermost_9 : decode cX0_innermost 9 = .ok (.ireturn, 1) := by decide +kernel
theorem dX0_enter_0 : decode cX0_enter 0 = .ok (.aload_n 0, 1) := by decide +kernel
theorem dX0_enter_1 : decode cX0_enter 1 = .ok (.getfield 12, 3) := by decide +kernel
theorem dX0_enter_4 : decode cX0_enter 4 = .ok (.iload_n 1, 1) := by decide +kernel
theorem dX0_enter_5 : decode cX0_enter 5 = .ok (.invokevirtual 103, 3) := by decide +kernel
theorem dX0_enter_8 : decode cX0_enter 8 = .ok (.aload_n 0, 1) := by decide +kernel
theorem dX0_enter_9 : decode cX0_enter 9 = .ok (.getfield 18, 3) := by decide +kernel
theorem dX0_enter_12 : decode cX0_enter 12 = .ok (.iload_n 2, 1) := by decide +kernel
theorem dX0_enter_13 : decode cX0_enter 13 = .ok (.invokevirtual 103, 3) := by decide +kernel
theorem dX0_enter_16 : decode cX0_enter 16 = .ok (.aload_n 0, 1) := by decide +kernel
theorem dX0_enter_17 : decode cX0_enter 17 = .ok (.getfield 21, 3) := by decide +kernel
theorem dX0_enter_20 : decode cX0_enter 20 = .ok (.iconst (-1), 1) := by decide +kernel
theorem dX0_enter_21 : decode cX0_enter 21 = .ok (.invokevirtual 103, 3) := by decide +kernel
theorem dX0_enter_24 : decode cX0_enter 24 = .ok (.return_, 1) := by decide +kernel
theorem dX0_close_0 : decode cX0_close 0 = .ok (.aload_n 0, 1) := by decide +kernel
theorem dX0_close_1 : decode cX0_close 1 = .ok (.getfield 12, 3) := by decide +kernel
theorem dX0_close_4 : decode cX0_close 4 = .ok (.iload_n 1, 1) := by decide +kernel
theorem dX0_close_5 : decode cX0_close 5 = .ok (.invokevirtual 46, 3) := by decide +kernel
theorem dX0_close_8 : decode cX0_close 8 = .ok (.aload_n 0, 1) := by decide +kernel
theorem dX0_close_9 : decode cX0_close 9 = .ok (.getfield 18, 3) := by decide +kernel
theorem dX0_close_12 : decode cX0_close 12 = .ok (.iload_n 1, 1) := by decide +kernel
theorem dX0_close_13 : decode cX0_close 13 = .ok (.invokevirtual 46, 3) := by decide +kernel
theorem dX0_close_16 : decode cX0_close 16 = .ok (.aload_n 0, 1) := by decide +kernel
theorem dX0_close_17 : decode cX0_close 17 = .ok (.getfield 21, 3) := by decide +kernel
theorem dX0_close_20 : decode cX0_close 20 = .ok (.iload_n 1, 1) := by decide +kernel
theorem dX0_close_21 : decode cX0_close 21 = .ok (.invokevirtual 46, 3) := by decide +kernel
theorem dX0_close_24 : decode cX0_close 24 = .ok (.return_, 1) := by decide +kernel
theorem dX0_endItem_0 : decode cX0_endItem 0 = .ok (.aload_n 0, 1) := by decide +kernel
theorem dX0_endItem_1 : decode cX0_endItem 1 = .ok (.getfield 21, 3) := by decide +kernel
theorem dX0_endItem_4 : decode cX0_endItem 4 = .ok (.aload_n 0, 1) := by decide +kernel
theorem dX0_endItem_5 : decode cX0_endItem 5 = .ok (.invokevirtual 63, 3) := by decide +kernel
theorem dX0_endItem_8 : decode cX0_endItem 8 = .ok (.iconst (-1), 1) := by decide +kernel
theorem dX0_endItem_9 : decode cX0_endItem 9 = .ok (.invokevirtual 60, 3) := by decide +kernel
theorem dX0_endItem_12 : decode cX0_endItem 12 = .ok (.return_, 1) := by decide +kernel
theorem dX0_report_0 : decode cX0_report 0 = .ok (.aload_n 0, 1) := by decide +kernel
theorem dX0_report_1 : decode cX0_report 1 = .ok (.getfield 42, 3) := by decide +kernel
theorem dX0_report_4 : decode cX0_report 4 = .ok (.iload_n 1, 1) := by decide +kernel
theorem dX0_report_5 : decode cX0_report 5 = .ok (.aload_n 0, 1) := by decide +kernel
theorem dX0_report_6 : decode cX0_report 6 = .ok (.getfield 34, 3) := by decide +kernel
theorem dX0_report_9 : decode cX0_report 9 = .ok (.getfield 106, 3) := by decide +kernel
theorem dX0_report_12 : decode cX0_report 12 = .ok (.aload_n 0, 1) := by decide +kernel
theorem dX0_report_13 : decode cX0_report 13 = .ok (.getfield 34, 3) := by decide +kernel
theorem dX0_report_16 : decode cX0_report 16 = .ok (.getfield 54, 3) := by decide +kernel
theorem dX0_report_19 : decode cX0_report 19 = .ok (.invokevirtual 109, 3) := by decide +kernel
theorem dX0_report_22 : decode cX0_report 22 = .ok (.return_, 1) := by decide +kernel
theorem dX0_isDeep_0 : decode cX0_isDeep 0 = .ok (.aload_n 0, 1) := by decide +kernel
theorem dX0_isDeep_1 : decode cX0_isDeep 1 = .ok (.invokevirtual 63, 3) := by decide +kernel
theorem dX0_isDeep_4 : decode cX0_isDeep 4 = .ok (.bipush 30, 2) := by decide +kernel
theorem dX0_isDeep_6 : decode cX0_isDeep 6 = .ok (.if_icmp .lt 7, 3) := by decide +kernel
theorem dX0_isDeep_9 : decode cX0_isDeep 9 = .ok (.iconst 1, 1) := by decide +kernel
theorem dX0_isDeep_10 : decode cX0_isDeep 10 = .ok (.goto 4, 3) := by decide +kernel
theorem dX0_isDeep_13 : decode cX0_isDeep 13 = .ok (.iconst 0, 1) := by decide +kernel
theorem dX0_isDeep_14 : decode cX0_isDeep 14 = .ok (.ireturn, 1) := by decide +kernel
theorem dX0_beginsBlock_0 : decode cX0_beginsBlock 0 = .ok (.aload_n 0, 1) := by decide +kernel
theorem dX0_beginsBlock_1 : decode cX0_beginsBlock 1 = .ok (.getfield 34, 3) := by decide +kernel
theorem dX0_beginsBlock_4 : decode cX0_beginsBlock 4 = .ok (.getfield 80, 3) := by decide +kernel
theorem dX0_beginsBlock_7 : decode cX0_beginsBlock 7 = .ok (.iconst 2, 1) := by decide +kernel
theorem dX0_beginsBlock_8 : decode cX0_beginsBlock 8 = .ok (.if_icmp .eq 26, 3) := by decide +kernel
theorem dX0_beginsBlock_11 : decode cX0_beginsBlock 11 = .ok (.aload_n 0, 1) := by decide +kernel
theorem dX0_beginsBlock_12 : decode cX0_beginsBlock 12 = .ok (.getfield 34, 3) := by decide +kernel
theorem dX0_beginsBlock_15 : decode cX0_beginsBlock 15 = .ok (.getfield 80, 3) := by decide +kernel
theorem dX0_beginsBlock_18 : decode cX0_beginsBlock 18 = .ok (.iconst 3, 1) := by decide +kernel
theorem dX0_beginsBlock_19 : decode cX0_beginsBlock 19 = .ok (.if_icmp .eq 15, 3) := by decide +kernel
theorem dX0_beginsBlock_22 : decode cX0_beginsBlock 22 = .ok (.aload_n 0, 1) := by decide +kernel
theorem dX0_beginsBlock_23 : decode cX0_beginsBlock 23 = .ok (.getfield 34, 3) := by decide +kernel
theorem dX0_beginsBlock_26 : decode cX0_beginsBlock 26 = .ok (.getfield 80, 3) := by decide +kernel
theorem dX0_beginsBlock_29 : decode cX0_beginsBlock 29 = .ok (.bipush 40, 2) := by decide +kernel
theorem dX0_beginsBlock_31 : decode cX0_beginsBlock 31 = .ok (.if_icmp .ne 7, 3) := by decide +kernel
theorem dX0_beginsBlock_34 : decode cX0_beginsBlock 34 = .ok (.iconst 1, 1) := by decide +kernel
theorem dX0_beginsBlock_35 : decode cX0_beginsBlock 35 = .ok (.goto 4, 3) := by decide +kernel
theorem dX0_beginsBlock_38 : decode cX0_beginsBlock 38 = .ok (.iconst 0, 1) := by decide +kernel
theorem dX0_beginsBlock_39 : decode cX0_beginsBlock 39 = .ok (.istore_n 1, 1) := by decide +kernel
theorem dX0_beginsBlock_40 : decode cX0_beginsBlock 40 = .ok (.iload_n 1, 1) := by decide +kernel
theorem dX0_beginsBlock_41 : decode cX0_beginsBlock 41 = .ok (.ifCond .eq 28, 3) := by decide +kernel
theorem dX0_beginsBlock_44 : decode cX0_beginsBlock 44 = .ok (.aload_n 0, 1) := by decide +kernel
theorem dX0_beginsBlock_45 : decode cX0_beginsBlock 45 = .ok (.getfield 18, 3) := by decide +kernel
theorem dX0_beginsBlock_48 : decode cX0_beginsBlock 48 = .ok (.aload_n 0, 1) := by decide +kernel
theorem dX0_beginsBlock_49 : decode cX0_beginsBlock 49 = .ok (.invokevirtual 63, 3) := by decide +kernel
theorem dX0_beginsBlock_52 : decode cX0_beginsBlock 52 = .ok (.invokevirtual 67, 3) := by decide +kernel
theorem dX0_beginsBlock_55 : decode cX0_beginsBlock 55 = .ok (.aload_n 0, 1) := by decide +kernel
theorem dX0_beginsBlock_56 : decode cX0_beginsBlock 56 = .ok (.getfield 34, 3) := by decide +kernel
theorem dX0_beginsBlock_59 : decode cX0_beginsBlock 59 = .ok (.getfield 54, 3) := by decide +kernel
theorem dX0_beginsBlock_62 : decode cX0_beginsBlock 62 = .ok (.if_icmp .ge 7, 3) := by decide +kernel
theorem dX0_beginsBlock_65 : decode cX0_beginsBlock 65 = .ok (.iconst 1, 1) := by decide +kernel
theorem dX0_beginsBlock_66 : decode cX0_beginsBlock 66 = .ok (.goto 4, 3) := by decide +kernel
theorem dX0_beginsBlock_69 : decode cX0_beginsBlock 69 = .ok (.iconst 0, 1) := by decide +kernel
theorem dX0_beginsBlock_70 : decode cX0_beginsBlock 70 = .ok (.ireturn, 1) := by decide +kernel
theorem dX0_alignToColumn_0 : decode cX0_alignToColumn 0 = .ok (.aload_n 0, 1) := by decide +kernel
theorem dX0_alignToColumn_1 : decode cX0_alignToColumn 1 = .ok (.getfield 34, 3) := by decide +kernel
theorem dX0_alignToColumn_4 : decode cX0_alignToColumn 4 = .ok (.getfield 115, 3) := by decide +kernel
theorem dX0_alignToColumn_7 : decode cX0_alignToColumn 7 = .ok (.ifCond .ne 4, 3) := by decide +kernel
theorem dX0_alignToColumn_10 : decode cX0_alignToColumn 10 = .ok (.return_, 1) := by decide +kernel
theorem dX0_alignToColumn_11 : decode cX0_alignToColumn 11 = .ok (.aload_n 0, 1) := by decide +kernel
theorem dX0_alignToColumn_12 : decode cX0_alignToColumn 12 = .ok (.invokevirtual 63, 3) := by decide +kernel
theorem dX0_alignToColumn_15 : decode cX0_alignToColumn 15 = .ok (.istore_n 1, 1) := by decide +kernel
theorem dX0_alignToColumn_16 : decode cX0_alignToColumn 16 = .ok (.iload_n 1, 1) := by decide +kernel
theorem dX0_alignToColumn_17 : decode cX0_alignToColumn 17 = .ok (.istore_n 2, 1) := by decide +kernel
theorem dX0_alignToColumn_18 : decode cX0_alignToColumn 18 = .ok (.iload_n 2, 1) := by decide +kernel
theorem dX0_alignToColumn_19 : decode cX0_alignToColumn 19 = .ok (.ifCond .le 27, 3) := by decide +kernel
theorem dX0_alignToColumn_22 : decode cX0_alignToColumn 22 = .ok (.aload_n 0, 1) := by decide +kernel
theorem dX0_alignToColumn_23 : decode cX0_alignToColumn 23 = .ok (.getfield 18, 3) := by decide +kernel
theorem dX0_alignToColumn_26 : decode cX0_alignToColumn 26 = .ok (.iload_n 2, 1) := by decide +kernel
theorem dX0_alignToColumn_27 : decode cX0_alignToColumn 27 = .ok (.invokevirtual 67, 3) := by decide +kernel
theorem dX0_alignToColumn_30 : decode cX0_alignToColumn 30 = .ok (.aload_n 0, 1) := by decide +kernel
theorem dX0_alignToColumn_31 : decode cX0_alignToColumn 31 = .ok (.getfield 34, 3) := by decide +kernel
theorem dX0_alignToColumn_34 : decode cX0_alignToColumn 34 = .ok (.getfield 54, 3) := by decide +kernel
theorem dX0_alignToColumn_37 : decode cX0_alignToColumn 37 = .ok (.if_icmp .le 9, 3) := by decide +kernel
theorem dX0_alignToColumn_40 : decode cX0_alignToColumn 40 = .ok (.iinc 2 (-1), 3) := by decide +kernel
theorem dX0_alignToColumn_43 : decode cX0_alignToColumn 43 = .ok (.goto (-25), 3) := by decide +kernel
theorem dX0_alignToColumn_46 : decode cX0_alignToColumn 46 = .ok (.aload_n 0, 1) := by decide +kernel
theorem dX0_alignToColumn_47 : decode cX0_alignToColumn 47 = .ok (.iload_n 2, 1) := by decide +kernel
theorem dX0_alignToColumn_48 : decode cX0_alignToColumn 48 = .ok (.iconst 1, 1) := by decide +kernel
theorem dX0_alignToColumn_49 : decode cX0_alignToColumn 49 = .ok (.iadd, 1) := by decide +kernel
theorem dX0_alignToColumn_50 : decode cX0_alignToColumn 50 = .ok (.invokevirtual 118, 3) := by decide +kernel
theorem dX0_alignToColumn_53 : decode cX0_alignToColumn 53 = .ok (.aload_n 0, 1) := by decide +kernel
theorem dX0_alignToColumn_54 : decode cX0_alignToColumn 54 = .ok (.getfield 18, 3) := by decide +kernel
theorem dX0_alignToColumn_57 : decode cX0_alignToColumn 57 = .ok (.iload_n 2, 1) := by decide +kernel
theorem dX0_alignToColumn_58 : decode cX0_alignToColumn 58 = .ok (.invokevirtual 67, 3) := by decide +kernel
theorem dX0_alignToColumn_61 : decode cX0_alignToColumn 61 = .ok (.istore_n 3, 1) := by decide +kernel
theorem dX0_alignToColumn_62 : decode cX0_alignToColumn 62 = .ok (.iload_n 3, 1) := by decide +kernel
theorem dX0_alignToColumn_63 : decode cX0_alignToColumn 63 = .ok (.aload_n 0, 1) := by decide +kernel
theorem dX0_alignToColumn_64 : decode cX0_alignToColumn 64 = .ok (.getfield 34, 3) := by decide +kernel
theorem dX0_alignToColumn_67 : decode cX0_alignToColumn 67 = .ok (.getfield 54, 3) := by decide +kernel
theorem dX0_alignToColumn_70 : decode cX0_alignToColumn 70 = .ok (.if_icmp .ne 10, 3) := by decide +kernel
theorem dX0_alignToColumn_73 : decode cX0_alignToColumn 73 = .ok (.aload_n 0, 1) := by decide +kernel
theorem dX0_alignToColumn_74 : decode cX0_alignToColumn 74 = .ok (.invokevirtual 121, 3) := by decide +kernel
theorem dX0_alignToColumn_77 : decode cX0_alignToColumn 77 = .ok (.goto 33, 3) := by decide +kernel
theorem dX0_alignToColumn_80 : decode cX0_alignToColumn 80 = .ok (.iload_n 3, 1) := by decide +kernel
theorem dX0_alignToColumn_81 : decode cX0_alignToColumn 81 = .ok (.aload_n 0, 1) := by decide +kernel
theorem dX0_alignToColumn_82 : decode cX0_alignToColumn 82 = .ok (.getfield 34, 3) := by decide +kernel
theorem dX0_alignToColumn_85 : decode cX0_alignToColumn 85 = .ok (.getfield 54, 3) := by decide +kernel
theorem dX0_alignToColumn_88 : decode cX0_alignToColumn 88 = .ok (.if_icmp .gt 13, 3) := by decide +kernel
theorem dX0_alignToColumn_91 : decode cX0_alignToColumn 91 = .ok (.iload_n 3, 1) := by decide +kernel
theorem dX0_alignToColumn_92 : decode cX0_alignToColumn 92 = .ok (.iconst (-1), 1) := by decide +kernel
theorem dX0_alignToColumn_93 : decode cX0_alignToColumn 93 = .ok (.if_icmp .eq 17, 3) := by decide +kernel
theorem dX0_alignToColumn_96 : decode cX0_alignToColumn 96 = .ok (.iload_n 2, 1) := by decide +kernel
theorem dX0_alignToColumn_97 : decode cX0_alignToColumn 97 = .ok (.iload_n 1, 1) := by decide +kernel
theorem dX0_alignToColumn_98 : decode cX0_alignToColumn 98 = .ok (.if_icmp .ge 12, 3) := by decide +kernel
theorem dX0_alignToColumn_101 : decode cX0_alignToColumn 101 = .ok (.aload_n 0, 1) := by decide +kernel
theorem dX0_alignToColumn_102 : decode cX0_alignToColumn 102 = .ok (.iconst 2, 1) := by decide +kernel
theorem dX0_alignToColumn_103 : decode cX0_alignToColumn 103 = .ok (.invokevirtual 97, 3) := by decide +kernel
theorem dX0_alignToColumn_106 : decode cX0_alignToColumn 106 = .ok (.aload_n 0, 1) := by decide +kernel
theorem dX0_alignToColumn_107 : decode cX0_alignToColumn 107 = .ok (.invokevirtual 121, 3) := by decide +kernel
theorem dX0_alignToColumn_110 : decode cX0_alignToColumn 110 = .ok (.return_, 1) := by decide +kernel
theorem dX0_placeInGroup_0 : decode cX0_placeInGroup 0 = .ok (.aload_n 0, 1) := by decide +kernel
theorem dX0_placeInGroup_1 : decode cX0_placeInGroup 1 = .ok (.getfield 34, 3) := by decide +kernel
theorem dX0_placeInGroup_4 : decode cX0_placeInGroup 4 = .ok (.getfield 80, 3) := by decide +kernel
theorem dX0_placeInGroup_7 : decode cX0_placeInGroup 7 = .ok (.lookupswitch 82 #[(2, 41), (3, 48), (40, 64), (41, 71)], 41) := by decide +kernel
theorem dX0_placeInGroup_48 : decode cX0_placeInGroup 48 = .ok (.aload_n 0, 1) := by decide +kernel
theorem dX0_placeInGroup_49 : decode cX0_placeInGroup 49 = .ok (.invokevirtual 124, 3) := by decide +kernel
theorem dX0_placeInGroup_52 : decode cX0_placeInGroup 52 = .ok (.goto 42, 3) := by decide +kernel
theorem dX0_placeInGroup_55 : decode cX0_placeInGroup 55 = .ok (.aload_n 0, 1) := by decide +kernel
theorem dX0_placeInGroup_56 : decode cX0_placeInGroup 56 = .ok (.iconst 3, 1) := by decide +kernel
theorem dX0_placeInGroup_57 : decode cX0_placeInGroup 57 = .ok (.aload_n 0, 1) := by decide +kernel
theorem dX0_placeInGroup_58 : decode cX0_placeInGroup 58 = .ok (.getfield 34, 3) := by decide +kernel
theorem dX0_placeInGroup_61 : decode cX0_placeInGroup 61 = .ok (.invokevirtual 127, 3) := by decide +kernel
theorem dX0_placeInGroup_64 : decode cX0_placeInGroup 64 = .ok (.invokevirtual 83, 3) := by decide +kernel
theorem dX0_placeInGroup_67 : decode cX0_placeInGroup 67 = .ok (.pop, 1) := by decide +kernel
theorem dX0_placeInGroup_68 : decode cX0_placeInGroup 68 = .ok (.goto 26, 3) := by decide +kernel
theorem dX0_placeInGroup_71 : decode cX0_placeInGroup 71 = .ok (.aload_n 0, 1) := by decide +kernel
theorem dX0_placeInGroup_72 : decode cX0_placeInGroup 72 = .ok (.invokevirtual 130, 3) := by decide +kernel
theorem dX0_placeInGroup_75 : decode cX0_placeInGroup 75 = .ok (.goto 19, 3) := by decide +kernel
theorem dX0_placeInGroup_78 : decode cX0_placeInGroup 78 = .ok (.aload_n 0, 1) := by decide +kernel
theorem dX0_placeInGroup_79 : decode cX0_placeInGroup 79 = .ok (.aload_n 0, 1) := by decide +kernel
theorem dX0_placeInGroup_80 : decode cX0_placeInGroup 80 = .ok (.invokevirtual 63, 3) := by decide +kernel
theorem dX0_placeInGroup_83 : decode cX0_placeInGroup 83 = .ok (.invokevirtual 118, 3) := by decide +kernel
theorem dX0_placeInGroup_86 : decode cX0_placeInGroup 86 = .ok (.goto 8, 3) := by decide +kernel
theorem dX0_placeInGroup_89 : decode cX0_placeInGroup 89 = .ok (.aload_n 0, 1) := by decide +kernel
theorem dX0_placeInGroup_90 : decode cX0_placeInGroup 90 = .ok (.iconst 1, 1) := by decide +kernel
theorem dX0_placeInGroup_91 : decode cX0_placeInGroup 91 = .ok (.invokevirtual 97, 3) := by decide +kernel
theorem dX0_placeInGroup_94 : decode cX0_placeInGroup 94 = .ok (.return_, 1) := by decide +kernel
theorem dX0_placeInBlock_0 : decode cX0_placeInBlock 0 = .ok (.aload_n 0, 1) := by decide +kernel
theorem dX0_placeInBlock_1 : decode cX0_placeInBlock 1 = .ok (.getfield 34, 3) := by decide +kernel
theorem dX0_placeInBlock_4 : decode cX0_placeInBlock 4 = .ok (.getfield 80, 3) := by decide +kernel
theorem dX0_placeInBlock_7 : decode cX0_placeInBlock 7 = .ok (.lookupswitch 124 #[(2, 65), (3, 72), (40, 88), (58, 102), (59, 95), (123, 116), (125, 109)], 65) := by decide +kernel
theorem dX0_placeInBlock_72 : decode cX0_placeInBlock 72 = .ok (.aload_n 0, 1) := by decide +kernel
theorem dX0_placeInBlock_73 : decode cX0_placeInBlock 73 = .ok (.invokevirtual 124, 3) := by decide +kernel
theorem dX0_placeInBlock_76 : decode cX0_placeInBlock 76 = .ok (.goto 60, 3) := by decide +kernel
theorem dX0_placeInBlock_79 : decode cX0_placeInBlock 79 = .ok (.aload_n 0, 1) := by decide +kernel
theorem dX0_placeInBlock_80 : decode cX0_placeInBlock 80 = .ok (.iconst 3, 1) := by decide +kernel
theorem dX0_placeInBlock_81 : decode cX0_placeInBlock 81 = .ok (.aload_n 0, 1) := by decide +kernel
theorem dX0_placeInBlock_82 : decode cX0_placeInBlock 82 = .ok (.getfield 34, 3) := by decide +kernel
theorem dX0_placeInBlock_85 : decode cX0_placeInBlock 85 = .ok (.invokevirtual 127, 3) := by decide +kernel
theorem dX0_placeInBlock_88 : decode cX0_placeInBlock 88 = .ok (.invokevirtual 83, 3) := by decide +kernel
theorem dX0_placeInBlock_91 : decode cX0_placeInBlock 91 = .ok (.pop, 1) := by decide +kernel
theorem dX0_placeInBlock_92 : decode cX0_placeInBlock 92 = .ok (.goto 44, 3) := by decide +kernel
theorem dX0_placeInBlock_95 : decode cX0_placeInBlock 95 = .ok (.aload_n 0, 1) := by decide +kernel
theorem dX0_placeInBlock_96 : decode cX0_placeInBlock 96 = .ok (.invokevirtual 130, 3) := by decide +kernel
theorem dX0_placeInBlock_99 : decode cX0_placeInBlock 99 = .ok (.goto 37, 3) := by decide +kernel
theorem dX0_placeInBlock_102 : decode cX0_placeInBlock 102 = .ok (.aload_n 0, 1) := by decide +kernel
theorem dX0_placeInBlock_103 : decode cX0_placeInBlock 103 = .ok (.invokevirtual 121, 3) := by decide +kernel
theorem dX0_placeInBlock_106 : decode cX0_placeInBlock 106 = .ok (.goto 30, 3) := by decide +kernel
theorem dX0_placeInBlock_109 : decode cX0_placeInBlock 109 = .ok (.aload_n 0, 1) := by decide +kernel
theorem dX0_placeInBlock_110 : decode cX0_placeInBlock 110 = .ok (.invokevirtual 133, 3) := by decide +kernel
theorem dX0_placeInBlock_113 : decode cX0_placeInBlock 113 = .ok (.goto 23, 3) := by decide +kernel
theorem dX0_placeInBlock_116 : decode cX0_placeInBlock 116 = .ok (.aload_n 0, 1) := by decide +kernel
theorem dX0_placeInBlock_117 : decode cX0_placeInBlock 117 = .ok (.invokevirtual 136, 3) := by decide +kernel
theorem dX0_placeInBlock_120 : decode cX0_placeInBlock 120 = .ok (.goto 16, 3) := by decide +kernel
theorem dX0_placeInBlock_123 : decode cX0_placeInBlock 123 = .ok (.aload_n 0, 1) := by decide +kernel
theorem dX0_placeInBlock_124 : decode cX0_placeInBlock 124 = .ok (.iconst 3, 1) := by decide +kernel
theorem dX0_placeInBlock_125 : decode cX0_placeInBlock 125 = .ok (.invokevirtual 97, 3) := by decide +kernel
theorem dX0_placeInBlock_128 : decode cX0_placeInBlock 128 = .ok (.goto 8, 3) := by decide +kernel
theorem dX0_placeInBlock_131 : decode cX0_placeInBlock 131 = .ok (.aload_n 0, 1) := by decide +kernel
theorem dX0_placeInBlock_132 : decode cX0_placeInBlock 132 = .ok (.iconst 4, 1) := by decide +kernel
theorem dX0_placeInBlock_133 : decode cX0_placeInBlock 133 = .ok (.invokevirtual 97, 3) := by decide +kernel
theorem dX0_placeInBlock_136 : decode cX0_placeInBlock 136 = .ok (.return_, 1) := by decide +kernel
theorem dX0_addWord_0 : decode cX0_addWord 0 = .ok (.aload_n 0, 1) := by decide +kernel
theorem dX0_addWord_1 : decode cX0_addWord 1 = .ok (.getfield 38, 3) := by decide +kernel
theorem dX0_addWord_4 : decode cX0_addWord 4 = .ok (.aload_n 0, 1) := by decide +kernel
theorem dX0_addWord_5 : decode cX0_addWord 5 = .ok (.iconst 2, 1) := by decide +kernel
theorem dX0_addWord_6 : decode cX0_addWord 6 = .ok (.iconst 0, 1) := by decide +kernel
theorem dX0_addWord_7 : decode cX0_addWord 7 = .ok (.invokevirtual 83, 3) := by decide +kernel
theorem dX0_addWord_10 : decode cX0_addWord 10 = .ok (.aload_n 0, 1) := by decide +kernel
theorem dX0_addWord_11 : decode cX0_addWord 11 = .ok (.getfield 31, 3) := by decide +kernel
theorem dX0_addWord_14 : decode cX0_addWord 14 = .ok (.aload_n 0, 1) := by decide +kernel
theorem dX0_addWord_15 : decode cX0_addWord 15 = .ok (.getfield 34, 3) := by decide +kernel
theorem dX0_addWord_18 : decode cX0_addWord 18 = .ok (.getfield 139, 3) := by decide +kernel
theorem dX0_addWord_21 : decode cX0_addWord 21 = .ok (.aload_n 0, 1) := by decide +kernel
theorem dX0_addWord_22 : decode cX0_addWord 22 = .ok (.getfield 34, 3) := by decide +kernel
theorem dX0_addWord_25 : decode cX0_addWord 25 = .ok (.getfield 142, 3) := by decide +kernel
theorem dX0_addWord_28 : decode cX0_addWord 28 = .ok (.invokevirtual 145, 3) := by decide +kernel
theorem dX0_addWord_31 : decode cX0_addWord 31 = .ok (.return_, 1) := by decide +kernel
theorem dX0_openGroup_0 : decode cX0_openGroup 0 = .ok (.aload_n 0, 1) := by decide +kernel
theorem dX0_openGroup_1 : decode cX0_openGroup 1 = .ok (.invokevirtual 149, 3) := by decide +kernel
theorem dX0_openGroup_4 : decode cX0_openGroup 4 = .ok (.ifCond .eq 11, 3) := by decide +kernel
theorem dX0_openGroup_7 : decode cX0_openGroup 7 = .ok (.aload_n 0, 1) := by decide +kernel
theorem dX0_openGroup_8 : decode cX0_openGroup 8 = .ok (.iconst 5, 1) := by decide +kernel
theorem dX0_openGroup_9 : decode cX0_openGroup 9 = .ok (.invokevirtual 97, 3) := by decide +kernel
theorem dX0_openGroup_12 : decode cX0_openGroup 12 = .ok (.goto 14, 3) := by decide +kernel
theorem dX0_openGroup_15 : decode cX0_openGroup 15 = .ok (.aload_n 0, 1) := by decide +kernel
theorem dX0_openGroup_16 : decode cX0_openGroup 16 = .ok (.aload_n 0, 1) := by decide +kernel
theorem dX0_openGroup_17 : decode cX0_openGroup 17 = .ok (.iconst 4, 1) := by decide +kernel
theorem dX0_openGroup_18 : decode cX0_openGroup 18 = .ok (.iconst 0, 1) := by decide +kernel
theorem dX0_openGroup_19 : decode cX0_openGroup 19 = .ok (.invokevirtual 83, 3) := by decide +kernel
theorem dX0_openGroup_22 : decode cX0_openGroup 22 = .ok (.iconst (-1), 1) := by decide +kernel
theorem dX0_openGroup_23 : decode cX0_openGroup 23 = .ok (.invokevirtual 50, 3) := by decide +kernel
theorem dX0_openGroup_26 : decode cX0_openGroup 26 = .ok (.return_, 1) := by decide +kernel
theorem dX0_takeColon_0 : decode cX0_takeColon 0 = .ok (.aload_n 0, 1) := by decide +kernel
theorem dX0_takeColon_1 : decode cX0_takeColon 1 = .ok (.getfield 21, 3) := by decide +kernel
theorem dX0_takeColon_4 : decode cX0_takeColon 4 = .ok (.aload_n 0, 1) := by decide +kernel
theorem dX0_takeColon_5 : decode cX0_takeColon 5 = .ok (.invokevirtual 63, 3) := by decide +kernel
theorem dX0_takeColon_8 : decode cX0_takeColon 8 = .ok (.invokevirtual 67, 3) := by decide +kernel
theorem dX0_takeColon_11 : decode cX0_takeColon 11 = .ok (.iconst (-1), 1) := by decide +kernel
theorem dX0_takeColon_12 : decode cX0_takeColon 12 = .ok (.if_icmp .ne 11, 3) := by decide +kernel
theorem dX0_takeColon_15 : decode cX0_takeColon 15 = .ok (.aload_n 0, 1) := by decide +kernel
theorem dX0_takeColon_16 : decode cX0_takeColon 16 = .ok (.iconst 3, 1) := by decide +kernel
theorem dX0_takeColon_17 : decode cX0_takeColon 17 = .ok (.invokevirtual 97, 3) := by decide +kernel
theorem dX0_takeColon_20 : decode cX0_takeColon 20 = .ok (.goto 23, 3) := by decide +kernel
theorem dX0_takeColon_23 : decode cX0_takeColon 23 = .ok (.aload_n 0, 1) := by decide +kernel
theorem dX0_takeColon_24 : decode cX0_takeColon 24 = .ok (.invokevirtual 149, 3) := by decide +kernel
theorem dX0_takeColon_27 : decode cX0_takeColon 27 = .ok (.ifCond .eq 11, 3) := by decide +kernel
theorem dX0_takeColon_30 : decode cX0_takeColon 30 = .ok (.aload_n 0, 1) := by decide +kernel
theorem dX0_takeColon_31 : decode cX0_takeColon 31 = .ok (.iconst 5, 1) := by decide +kernel
theorem dX0_takeColon_32 : decode cX0_takeColon 32 = .ok (.invokevirtual 97, 3) := by decide +kernel
theorem dX0_takeColon_35 : decode cX0_takeColon 35 = .ok (.goto 8, 3) := by decide +kernel
theorem dX0_takeColon_38 : decode cX0_takeColon 38 = .ok (.aload_n 0, 1) := by decide +kernel
theorem dX0_takeColon_39 : decode cX0_takeColon 39 = .ok (.iconst 1, 1) := by decide +kernel
theorem dX0_takeColon_40 : decode cX0_takeColon 40 = .ok (.putfield 28, 3) := by decide +kernel
theorem dX0_takeColon_43 : decode cX0_takeColon 43 = .ok (.return_, 1) := by decide +kernel
theorem dX0_closeBraces_0 : decode cX0_closeBraces 0 = .ok (.aload_n 0, 1) := by decide +kernel
theorem dX0_closeBraces_1 : decode cX0_closeBraces 1 = .ok (.invokevirtual 63, 3) := by decide +kernel
theorem dX0_closeBraces_4 : decode cX0_closeBraces 4 = .ok (.istore_n 1, 1) := by decide +kernel
theorem dX0_closeBraces_5 : decode cX0_closeBraces 5 = .ok (.iload_n 1, 1) := by decide +kernel
theorem dX0_closeBraces_6 : decode cX0_closeBraces 6 = .ok (.ifCond .le 21, 3) := by decide +kernel
theorem dX0_closeBraces_9 : decode cX0_closeBraces 9 = .ok (.aload_n 0, 1) := by decide +kernel
theorem dX0_closeBraces_10 : decode cX0_closeBraces 10 = .ok (.getfield 18, 3) := by decide +kernel
theorem dX0_closeBraces_13 : decode cX0_closeBraces 13 = .ok (.iload_n 1, 1) := by decide +kernel
theorem dX0_closeBraces_14 : decode cX0_closeBraces 14 = .ok (.invokevirtual 67, 3) := by decide +kernel
theorem dX0_closeBraces_17 : decode cX0_closeBraces 17 = .ok (.iconst (-1), 1) := by decide +kernel
theorem dX0_closeBraces_18 : decode cX0_closeBraces 18 = .ok (.if_icmp .eq 9, 3) := by decide +kernel
theorem dX0_closeBraces_21 : decode cX0_closeBraces 21 = .ok (.iinc 1 (-1), 3) := by decide +kernel
theorem dX0_closeBraces_24 : decode cX0_closeBraces 24 = .ok (.goto (-19), 3) := by decide +kernel
theorem dX0_closeBraces_27 : decode cX0_closeBraces 27 = .ok (.iload_n 1, 1) := by decide +kernel
theorem dX0_closeBraces_28 : decode cX0_closeBraces 28 = .ok (.ifCond .le 11, 3) := by decide +kernel
theorem dX0_closeBraces_31 : decode cX0_closeBraces 31 = .ok (.aload_n 0, 1) := by decide +kernel
theorem dX0_closeBraces_32 : decode cX0_closeBraces 32 = .ok (.iload_n 1, 1) := by decide +kernel
theorem dX0_closeBraces_33 : decode cX0_closeBraces 33 = .ok (.invokevirtual 118, 3) := by decide +kernel
theorem dX0_closeBraces_36 : decode cX0_closeBraces 36 = .ok (.goto 8, 3) := by decide +kernel
theorem dX0_closeBraces_39 : decode cX0_closeBraces 39 = .ok (.aload_n 0, 1) := by decide +kernel
theorem dX0_closeBraces_40 : decode cX0_closeBraces 40 = .ok (.iconst 4, 1) := by decide +kernel
theorem dX0_closeBraces_41 : decode cX0_closeBraces 41 = .ok (.invokevirtual 97, 3) := by decide +kernel
theorem dX0_closeBraces_44 : decode cX0_closeBraces 44 = .ok (.return_, 1) := by decide +kernel
theorem dX0_addPart_0 : decode cX0_addPart 0 = .ok (.aload_n 0, 1) := by decide +kernel
theorem dX0_addPart_1 : decode cX0_addPart 1 = .ok (.invokevirtual 63, 3) := by decide +kernel
theorem dX0_addPart_4 : decode cX0_addPart 4 = .ok (.istore_n 3, 1) := by decide +kernel
theorem dX0_addPart_5 : decode cX0_addPart 5 = .ok (.aload_n 0, 1) := by decide +kernel
theorem dX0_addPart_6 : decode cX0_addPart 6 = .ok (.getfield 12, 3) := by decide +kernel
theorem dX0_addPart_9 : decode cX0_addPart 9 = .ok (.iload_n 3, 1) := by decide +kernel
theorem dX0_addPart_10 : decode cX0_addPart 10 = .ok (.invokevirtual 67, 3) := by decide +kernel
theorem dX0_addPart_13 : decode cX0_addPart 13 = .ok (.istore 4, 2) := by decide +kernel
theorem dX0_addPart_15 : decode cX0_addPart 15 = .ok (.aload_n 0, 1) := by decide +kernel
theorem dX0_addPart_16 : decode cX0_addPart 16 = .ok (.getfield 38, 3) := by decide +kernel
theorem dX0_addPart_19 : decode cX0_addPart 19 = .ok (.iload 4, 2) := by decide +kernel
theorem dX0_addPart_21 : decode cX0_addPart 21 = .ok (.iconst 0, 1) := by decide +kernel
theorem dX0_addPart_22 : decode cX0_addPart 22 = .ok (.invokevirtual 71, 3) := by decide +kernel
theorem dX0_addPart_25 : decode cX0_addPart 25 = .ok (.ifCond .eq 58, 3) := by decide +kernel
theorem dX0_addPart_28 : decode cX0_addPart 28 = .ok (.aload_n 0, 1) := by decide +kernel
theorem dX0_addPart_29 : decode cX0_addPart 29 = .ok (.getfield 21, 3) := by decide +kernel
theorem dX0_addPart_32 : decode cX0_addPart 32 = .ok (.iload_n 3, 1) := by decide +kernel
theorem dX0_addPart_33 : decode cX0_addPart 33 = .ok (.invokevirtual 67, 3) := by decide +kernel
theorem dX0_addPart_36 : decode cX0_addPart 36 = .ok (.iconst (-1), 1) := by decide +kernel
theorem dX0_addPart_37 : decode cX0_addPart 37 = .ok (.if_icmp .ne 36, 3) := by decide +kernel
theorem dX0_addPart_40 : decode cX0_addPart 40 = .ok (.aload_n 0, 1) := by decide +kernel
theorem dX0_addPart_41 : decode cX0_addPart 41 = .ok (.getfield 21, 3) := by decide +kernel
theorem dX0_addPart_44 : decode cX0_addPart 44 = .ok (.iload_n 3, 1) := by decide +kernel
theorem dX0_addPart_45 : decode cX0_addPart 45 = .ok (.aload_n 0, 1) := by decide +kernel
theorem dX0_addPart_46 : decode cX0_addPart 46 = .ok (.getfield 38, 3) := by decide +kernel
theorem dX0_addPart_49 : decode cX0_addPart 49 = .ok (.iload 4, 2) := by decide +kernel
theorem dX0_addPart_51 : decode cX0_addPart 51 = .ok (.iconst 1, 1) := by decide +kernel
theorem dX0_addPart_52 : decode cX0_addPart 52 = .ok (.aload_n 0, 1) := by decide +kernel
theorem dX0_addPart_53 : decode cX0_addPart 53 = .ok (.getfield 34, 3) := by decide +kernel
theorem dX0_addPart_56 : decode cX0_addPart 56 = .ok (.getfield 106, 3) := by decide +kernel
theorem dX0_addPart_59 : decode cX0_addPart 59 = .ok (.aload_n 0, 1) := by decide +kernel
theorem dX0_addPart_60 : decode cX0_addPart 60 = .ok (.getfield 34, 3) := by decide +kernel
theorem dX0_addPart_63 : decode cX0_addPart 63 = .ok (.getfield 54, 3) := by decide +kernel
theorem dX0_addPart_66 : decode cX0_addPart 66 = .ok (.iconst 0, 1) := by decide +kernel
theorem dX0_addPart_67 : decode cX0_addPart 67 = .ok (.invokevirtual 152, 3) := by decide +kernel
theorem dX0_addPart_70 : decode cX0_addPart 70 = .ok (.invokevirtual 60, 3) := by decide +kernel
theorem dX0_addPart_73 : decode cX0_addPart 73 = .ok (.aload_n 0, 1) := by decide +kernel
theorem dX0_addPart_74 : decode cX0_addPart 74 = .ok (.getfield 21, 3) := by decide +kernel
theorem dX0_addPart_77 : decode cX0_addPart 77 = .ok (.iload_n 3, 1) := by decide +kernel
theorem dX0_addPart_78 : decode cX0_addPart 78 = .ok (.invokevirtual 67, 3) := by decide +kernel
theorem dX0_addPart_81 : decode cX0_addPart 81 = .ok (.istore 4, 2) := by decide +kernel
theorem dX0_addPart_83 : decode cX0_addPart 83 = .ok (.aload_n 0, 1) := by decide +kernel
theorem dX0_addPart_84 : decode cX0_addPart 84 = .ok (.getfield 38, 3) := by decide +kernel
theorem dX0_addPart_87 : decode cX0_addPart 87 = .ok (.iload 4, 2) := by decide +kernel
theorem dX0_addPart_89 : decode cX0_addPart 89 = .ok (.iload_n 1, 1) := by decide +kernel
theorem dX0_addPart_90 : decode cX0_addPart 90 = .ok (.aload_n 0, 1) := by decide +kernel
theorem dX0_addPart_91 : decode cX0_addPart 91 = .ok (.getfield 34, 3) := by decide +kernel
theorem dX0_addPart_94 : decode cX0_addPart 94 = .ok (.getfield 106, 3) := by decide +kernel
theorem dX0_addPart_97 : decode cX0_addPart 97 = .ok (.aload_n 0, 1) := by decide +kernel
theorem dX0_addPart_98 : decode cX0_addPart 98 = .ok (.getfield 34, 3) := by decide +kernel
theorem dX0_addPart_101 : decode cX0_addPart 101 = .ok (.getfield 54, 3) := by decide +kernel
theorem dX0_addPart_104 : decode cX0_addPart 104 = .ok (.iload_n 2, 1) := by decide +kernel
theorem dX0_addPart_105 : decode cX0_addPart 105 = .ok (.invokevirtual 152, 3) := by decide +kernel
theorem dX0_addPart_108 : decode cX0_addPart 108 = .ok (.ireturn, 1) := by decide +kernel
theorem dX1_init_0 : decode cX1_init 0 = .ok (.aload_n 0, 1) := by decide +kernel
theorem dX1_init_1 : decode cX1_init 1 = .ok (.invokespecial 3, 3) := by decide +kernel
theorem dX1_init_4 : decode cX1_init 4 = .ok (.aload_n 0, 1) := by decide +kernel
theorem dX1_init_5 : decode cX1_init 5 = .ok (.iconst 0, 1) := by decide +kernel
theorem dX1_init_6 : decode cX1_init 6 = .ok (.putfield 9, 3) := by decide +kernel
theorem dX1_init_9 : decode cX1_init 9 = .ok (.aload_n 0, 1) := by decide +kernel
theorem dX1_init_10 : decode cX1_init 10 = .ok (.iconst 0, 1) := by decide +kernel
theorem dX1_init_11 : decode cX1_init 11 = .ok (.putfield 15, 3) := by decide +kernel
theorem dX1_init_14 : decode cX1_init 14 = .ok (.aload_n 0, 1) := by decide +kernel
theorem dX1_init_15 : decode cX1_init 15 = .ok (.iconst 0, 1) := by decide +kernel
theorem dX1_init_16 : decode cX1_init 16 = .ok (.putfield 18, 3) := by decide +kernel
theorem dX1_init_19 : decode cX1_init 19 = .ok (.aload_n 0, 1) := by decide +kernel
theorem dX1_init_20 : decode cX1_init 20 = .ok (.iconst 0, 1) := by decide +kernel
theorem dX1_init_21 : decode cX1_init 21 = .ok (.putfield 21, 3) := by decide +kernel
theorem dX1_init_24 : decode cX1_init 24 = .ok (.aload_n 0, 1) := by decide +kernel
theorem dX1_init_25 : decode cX1_init 25 = .ok (.iconst 0, 1) := by decide +kernel
theorem dX1_init_26 : decode cX1_init 26 = .ok (.putfield 25, 3) := by decide +kernel
theorem dX1_init_29 : decode cX1_init 29 = .ok (.aload_n 0, 1) := by decide +kernel
theorem dX1_init_30 : decode cX1_init 30 = .ok (.iconst 0, 1) := by decide +kernel
theorem dX1_init_31 : decode cX1_init 31 = .ok (.putfield 28, 3) := by decide +kernel
theorem dX1_init_34 : decode cX1_init 34 = .ok (.aload_n 0, 1) := by decide +kernel
theorem dX1_init_35 : decode cX1_init 35 = .ok (.iconst (-1), 1) := by decide +kernel
theorem dX1_init_36 : decode cX1_init 36 = .ok (.putfield 31, 3) := by decide +kernel
theorem dX1_init_39 : decode cX1_init 39 = .ok (.aload_n 0, 1) := by decide +kernel
theorem dX1_init_40 : decode cX1_init 40 = .ok (.iconst 0, 1) := by decide +kernel
theorem dX1_init_41 : decode cX1_init 41 = .ok (.putfield 34, 3) := by decide +kernel
theorem dX1_init_44 : decode cX1_init 44 = .ok (.aload_n 0, 1) := by decide +kernel
theorem dX1_init_45 : decode cX1_init 45 = .ok (.iconst 0, 1) := by decide +kernel
theorem dX1_init_46 : decode cX1_init 46 = .ok (.putfield 37, 3) := by decide +kernel
theorem dX1_init_49 : decode cX1_init 49 = .ok (.aload_n 0, 1) := by decide +kernel
theorem dX1_init_50 : decode cX1_init 50 = .ok (.iconst 0, 1) := by decide +kernel
theorem dX1_init_51 : decode cX1_init 51 = .ok (.putfield 40, 3) := by decide +kernel
theorem dX1_init_54 : decode cX1_init 54 = .ok (.aload_n 0, 1) := by decide +kernel
theorem dX1_init_55 : decode cX1_init 55 = .ok (.iconst 0, 1) := by decide +kernel
theorem dX1_init_56 : decode cX1_init 56 = .ok (.putfield 43, 3) := by decide +kernel
theorem dX1_init_59 : decode cX1_init 59 = .ok (.aload_n 0, 1) := by decide +kernel
theorem dX1_init_60 : decode cX1_init 60 = .ok (.aload_n 1, 1) := by decide +kernel
theorem dX1_init_61 : decode cX1_init 61 = .ok (.putfield 46, 3) := by decide +kernel
theorem dX1_init_64 : decode cX1_init 64 = .ok (.aload_n 0, 1) := by decide +kernel
theorem dX1_init_65 : decode cX1_init 65 = .ok (.aload_n 2, 1) := by decide +kernel
theorem dX1_init_66 : decode cX1_init 66 = .ok (.putfield 50, 3) := by decide +kernel
theorem dX1_init_69 : decode cX1_init 69 = .ok (.return_, 1) := by decide +kernel
theorem dX1_startAgain_0 : decode cX1_startAgain 0 = .ok (.aload_n 0, 1) := by decide +kernel
theorem dX1_startAgain_1 : decode cX1_startAgain 1 = .ok (.iconst 0, 1) := by decide +kernel
theorem dX1_startAgain_2 : decode cX1_startAgain 2 = .ok (.putfield 9, 3) := by decide +kernel
theorem dX1_startAgain_5 : decode cX1_startAgain 5 = .ok (.aload_n 0, 1) := by decide +kernel
theorem dX1_startAgain_6 : decode cX1_startAgain 6 = .ok (.iconst 0, 1) := by decide +kernel
theorem dX1_startAgain_7 : decode cX1_startAgain 7 = .ok (.putfield 15, 3) := by decide +kernel
theorem dX1_startAgain_10 : decode cX1_startAgain 10 = .ok (.aload_n 0, 1) := by decide +kernel
theorem dX1_startAgain_11 : decode cX1_startAgain 11 = .ok (.iconst 0, 1) := by decide +kernel
theorem dX1_startAgain_12 : decode cX1_startAgain 12 = .ok (.putfield 18, 3) := by decide +kernel
theorem dX1_startAgain_15 : decode cX1_startAgain 15 = .ok (.aload_n 0, 1) := by decide +kernel
theorem dX1_startAgain_16 : decode cX1_startAgain 16 = .ok (.iconst 0, 1) := by decide +kernel
theorem dX1_startAgain_17 : decode cX1_startAgain 17 = .ok (.putfield 21, 3) := by decide +kernel
theorem dX1_startAgain_20 : decode cX1_startAgain 20 = .ok (.aload_n 0, 1) := by decide +kernel
theorem dX1_startAgain_21 : decode cX1_startAgain 21 = .ok (.iconst 0, 1) := by decide +kernel
theorem dX1_startAgain_22 : decode cX1_startAgain 22 = .ok (.putfield 25, 3) := by decide +kernel
theorem dX1_startAgain_25 : decode cX1_startAgain 25 = .ok (.aload_n 0, 1) := by decide +kernel
theorem dX1_startAgain_26 : decode cX1_startAgain 26 = .ok (.iconst 0, 1) := by decide +kernel
theorem dX1_startAgain_27 : decode cX1_startAgain 27 = .ok (.putfield 28, 3) := by decide +kernel
theorem dX1_startAgain_30 : decode cX1_startAgain 30 = .ok (.return_, 1) := by decide +kernel
theorem dX1_readToken_0 : decode cX1_readToken 0 = .ok (.aload_n 0, 1) := by decide +kernel
theorem dX1_readToken_1 : decode cX1_readToken 1 = .ok (.getfield 9, 3) := by decide +kernel
theorem dX1_readToken_4 : decode cX1_readToken 4 = .ok (.istore_n 1, 1) := by decide +kernel
theorem dX1_readToken_5 : decode cX1_readToken 5 = .ok (.iload_n 1, 1) := by decide +kernel
theorem dX1_readToken_6 : decode cX1_readToken 6 = .ok (.aload_n 0, 1) := by decide +kernel
theorem dX1_readToken_7 : decode cX1_readToken 7 = .ok (.getfield 46, 3) := by decide +kernel
theorem dX1_readToken_10 : decode cX1_readToken 10 = .ok (.invokevirtual 54, 3) := by decide +kernel
theorem dX1_readToken_13 : decode cX1_readToken 13 = .ok (.if_icmp .ge 89, 3) := by decide +kernel
theorem dX1_readToken_16 : decode cX1_readToken 16 = .ok (.aload_n 0, 1) := by decide +kernel
theorem dX1_readToken_17 : decode cX1_readToken 17 = .ok (.getfield 46, 3) := by decide +kernel
theorem dX1_readToken_20 : decode cX1_readToken 20 = .ok (.iload_n 1, 1) := by decide +kernel
theorem dX1_readToken_21 : decode cX1_readToken 21 = .ok (.invokevirtual 60, 3) := by decide +kernel
theorem dX1_readToken_24 : decode cX1_readToken 24 = .ok (.istore_n 2, 1) := by decide +kernel
theorem dX1_readToken_25 : decode cX1_readToken 25 = .ok (.iload_n 2, 1) := by decide +kernel
theorem dX1_readToken_26 : decode cX1_readToken 26 = .ok (.bipush 10, 2) := by decide +kernel
theorem dX1_readToken_28 : decode cX1_readToken 28 = .ok (.if_icmp .ne 13, 3) := by decide +kernel
theorem dX1_readToken_31 : decode cX1_readToken 31 = .ok (.aload_n 0, 1) := by decide +kernel
theorem dX1_readToken_32 : decode cX1_readToken 32 = .ok (.iload_n 1, 1) := by decide +kernel
theorem dX1_readToken_33 : decode cX1_readToken 33 = .ok (.iconst 1, 1) := by decide +kernel
theorem dX1_readToken_34 : decode cX1_readToken 34 = .ok (.iadd, 1) := by decide +kernel
theorem dX1_readToken_35 : decode cX1_readToken 35 = .ok (.invokevirtual 64, 3) := by decide +kernel
theorem dX1_readToken_38 : decode cX1_readToken 38 = .ok (.goto 58, 3) := by decide +kernel
theorem dX1_readToken_41 : decode cX1_readToken 41 = .ok (.iload_n 2, 1) := by decide +kernel
theorem dX1_readToken_42 : decode cX1_readToken 42 = .ok (.bipush 35, 2) := by decide +kernel
theorem dX1_readToken_44 : decode cX1_readToken 44 = .ok (.if_icmp .ne 11, 3) := by decide +kernel
theorem dX1_readToken_47 : decode cX1_readToken 47 = .ok (.aload_n 0, 1) := by decide +kernel
theorem dX1_readToken_48 : decode cX1_readToken 48 = .ok (.iconst 1, 1) := by decide +kernel
theorem dX1_readToken_49 : decode cX1_readToken 49 = .ok (.putfield 21, 3) := by decide +kernel
theorem dX1_readToken_52 : decode cX1_readToken 52 = .ok (.goto 44, 3) := by decide +kernel
theorem dX1_readToken_55 : decode cX1_readToken 55 = .ok (.aload_n 0, 1) := by decide +kernel
theorem dX1_readToken_56 : decode cX1_readToken 56 = .ok (.getfield 21, 3) := by decide +kernel
theorem dX1_readToken_59 : decode cX1_readToken 59 = .ok (.ifCond .ne 18, 3) := by decide +kernel
theorem dX1_readToken_62 : decode cX1_readToken 62 = .ok (.iload_n 2, 1) := by decide +kernel
theorem dX1_readToken_63 : decode cX1_readToken 63 = .ok (.invokestatic 68, 3) := by decide +kernel
theorem dX1_readToken_66 : decode cX1_readToken 66 = .ok (.ifCond .eq 11, 3) := by decide +kernel
theorem dX1_readToken_69 : decode cX1_readToken 69 = .ok (.aload_n 0, 1) := by decide +kernel
theorem dX1_readToken_70 : decode cX1_readToken 70 = .ok (.iload_n 1, 1) := by decide +kernel
theorem dX1_readToken_71 : decode cX1_readToken 71 = .ok (.iload_n 2, 1) := by decide +kernel
theorem dX1_readToken_72 : decode cX1_readToken 72 = .ok (.invokevirtual 72, 3) := by decide +kernel
theorem dX1_readToken_75 : decode cX1_readToken 75 = .ok (.iconst 1, 1) := by decide +kernel
theorem dX1_readToken_76 : decode cX1_readToken 76 = .ok (.ireturn, 1) := by decide +kernel
theorem dX1_readToken_77 : decode cX1_readToken 77 = .ok (.aload_n 0, 1) := by decide +kernel
theorem dX1_readToken_78 : decode cX1_readToken 78 = .ok (.getfield 21, 3) := by decide +kernel
theorem dX1_readToken_81 : decode cX1_readToken 81 = .ok (.ifCond .ne 15, 3) := by decide +kernel
theorem dX1_readToken_84 : decode cX1_readToken 84 = .ok (.iload_n 2, 1) := by decide +kernel
theorem dX1_readToken_85 : decode cX1_readToken 85 = .ok (.bipush 32, 2) := by decide +kernel
theorem dX1_readToken_87 : decode cX1_readToken 87 = .ok (.if_icmp .eq 9, 3) := by decide +kernel
theorem dX1_readToken_90 : decode cX1_readToken 90 = .ok (.aload_n 0, 1) := by decide +kernel
theorem dX1_readToken_91 : decode cX1_readToken 91 = .ok (.iload_n 1, 1) := by decide +kernel
theorem dX1_readToken_92 : decode cX1_readToken 92 = .ok (.iload_n 2, 1) := by decide +kernel
theorem dX1_readToken_93 : decode cX1_readToken 93 = .ok (.invokevirtual 76, 3) := by decide +kernel
theorem dX1_readToken_96 : decode cX1_readToken 96 = .ok (.iinc 1 1, 3) := by decide +kernel
theorem dX1_readToken_99 : decode cX1_readToken 99 = .ok (.goto (-94), 3) := by decide +kernel
theorem dX1_readToken_102 : decode cX1_readToken 102 = .ok (.aload_n 0, 1) := by decide +kernel
theorem dX1_readToken_103 : decode cX1_readToken 103 = .ok (.aload_n 0, 1) := by decide +kernel
theorem dX1_readToken_104 : decode cX1_readToken 104 = .ok (.getfield 46, 3) := by decide +kernel
theorem dX1_readToken_107 : decode cX1_readToken 107 = .ok (.invokevirtual 54, 3) := by decide +kernel
theorem dX1_readToken_110 : decode cX1_readToken 110 = .ok (.putfield 9, 3) := by decide +kernel
theorem dX1_readToken_113 : decode cX1_readToken 113 = .ok (.aload_n 0, 1) := by decide +kernel
theorem dX1_readToken_114 : decode cX1_readToken 114 = .ok (.iconst (-1), 1) := by decide +kernel
theorem dX1_readToken_115 : decode cX1_readToken 115 = .ok (.putfield 31, 3) := by decide +kernel
theorem dX1_readToken_118 : decode cX1_readToken 118 = .ok (.aload_n 0, 1) := by decide +kernel
theorem dX1_readToken_119 : decode cX1_readToken 119 = .ok (.aload_n 0, 1) := by decide +kernel
theorem dX1_readToken_120 : decode cX1_readToken 120 = .ok (.getfield 15, 3) := by decide +kernel
theorem dX1_readToken_123 : decode cX1_readToken 123 = .ok (.putfield 37, 3) := by decide +kernel
theorem dX1_readToken_126 : decode cX1_readToken 126 = .ok (.aload_n 0, 1) := by decide +kernel
theorem dX1_readToken_127 : decode cX1_readToken 127 = .ok (.aload_n 0, 1) := by decide +kernel
theorem dX1_readToken_128 : decode cX1_readToken 128 = .ok (.getfield 9, 3) := by decide +kernel
theorem dX1_readToken_131 : decode cX1_readToken 131 = .ok (.aload_n 0, 1) := by decide +kernel
theorem dX1_readToken_132 : decode cX1_readToken 132 = .ok (.getfield 18, 3) := by decide +kernel
theorem dX1_readToken_135 : decode cX1_readToken 135 = .ok (.isub, 1) := by decide +kernel
theorem dX1_readToken_136 : decode cX1_readToken 136 = .ok (.putfield 40, 3) := by decide +kernel
theorem dX1_readToken_139 : decode cX1_readToken 139 = .ok (.iconst 0, 1) := by decide +kernel
theorem dX1_readToken_140 : decode cX1_readToken 140 = .ok (.ireturn, 1) := by decide +kernel
theorem dX1_beginLine_0 : decode cX1_beginLine 0 = .ok (.aload_n 0, 1) := by decide +kernel
theorem dX1_beginLine_1 : decode cX1_beginLine 1 = .ok (.dup, 1) := by decide +kernel
theorem dX1_beginLine_2 : decode cX1_beginLine 2 = .ok (.getfield 15, 3) := by decide +kernel
theorem dX1_beginLine_5 : decode cX1_beginLine 5 = .ok (.iconst 1, 1) := by decide +kernel
theorem dX1_beginLine_6 : decode cX1_beginLine 6 = .ok (.iadd, 1) := by decide +kernel
theorem dX1_beginLine_7 : decode cX1_beginLine 7 = .ok (.putfield 15, 3) := by decide +kernel
theorem dX1_beginLine_10 : decode cX1_beginLine 10 = .ok (.aload_n 0, 1) := by decide +kernel
theorem dX1_beginLine_11 : decode cX1_beginLine 11 = .ok (.iload_n 1, 1) := by decide +kernel
theorem dX1_beginLine_12 : decode cX1_beginLine 12 = .ok (.putfield 18, 3) := by decide +kernel
theorem dX1_beginLine_15 : decode cX1_beginLine 15 = .ok (.aload_n 0, 1) := by decide +kernel
theorem dX1_beginLine_16 : decode cX1_beginLine 16 = .ok (.iconst 0, 1) := by decide +kernel
theorem dX1_beginLine_17 : decode cX1_beginLine 17 = .ok (.putfield 21, 3) := by decide +kernel
theorem dX1_beginLine_20 : decode cX1_beginLine 20 = .ok (.aload_n 0, 1) := by decide +kernel
theorem dX1_beginLine_21 : decode cX1_beginLine 21 = .ok (.aload_n 0, 1) := by decide +kernel
theorem dX1_beginLine_22 : decode cX1_beginLine 22 = .ok (.getfield 25, 3) := by decide +kernel
theorem dX1_beginLine_25 : decode cX1_beginLine 25 = .ok (.putfield 28, 3) := by decide +kernel
theorem dX1_beginLine_28 : decode cX1_beginLine 28 = .ok (.aload_n 0, 1) := by decide +kernel
theorem dX1_beginLine_29 : decode cX1_beginLine 29 = .ok (.iconst 0, 1) := by decide +kernel
theorem dX1_beginLine_30 : decode cX1_beginLine 30 = .ok (.putfield 25, 3) := by decide +kernel
theorem dX1_beginLine_33 : decode cX1_beginLine 33 = .ok (.return_, 1) := by decide +kernel
theorem dX1_takeOtherByte_0 : decode cX1_takeOtherByte 0 = .ok (.iload_n 2, 1) := by decide +kernel
theorem dX1_takeOtherByte_1 : decode cX1_takeOtherByte 1 = .ok (.bipush 92, 2) := by decide +kernel
theorem dX1_takeOtherByte_3 : decode cX1_takeOtherByte 3 = .ok (.if_icmp .ne 26, 3) := by decide +kernel
theorem dX1_takeOtherByte_6 : decode cX1_takeOtherByte 6 = .ok (.aload_n 0, 1) := by decide +kernel
theorem dX1_takeOtherByte_7 : decode cX1_takeOtherByte 7 = .ok (.getfield 46, 3) := by decide +kernel
theorem dX1_takeOtherByte_10 : decode cX1_takeOtherByte 10 = .ok (.iload_n 1, 1) := by decide +kernel
theorem dX1_takeOtherByte_11 : decode cX1_takeOtherByte 11 = .ok (.iconst 1, 1) := by decide +kernel
theorem dX1_takeOtherByte_12 : decode cX1_takeOtherByte 12 = .ok (.iadd, 1) := by decide +kernel
theorem dX1_takeOtherByte_13 : decode cX1_takeOtherByte 13 = .ok (.invokevirtual 60, 3) := by decide +kernel
theorem dX1_takeOtherByte_16 : decode cX1_takeOtherByte 16 = .ok (.bipush 10, 2) := by decide +kernel
theorem dX1_takeOtherByte_18 : decode cX1_takeOtherByte 18 = .ok (.if_icmp .ne 11, 3) := by decide +kernel
theorem dX1_takeOtherByte_21 : decode cX1_takeOtherByte 21 = .ok (.aload_n 0, 1) := by decide +kernel
theorem dX1_takeOtherByte_22 : decode cX1_takeOtherByte 22 = .ok (.iconst 1, 1) := by decide +kernel
theorem dX1_takeOtherByte_23 : decode cX1_takeOtherByte 23 = .ok (.putfield 25, 3) := by decide +kernel
theorem dX1_takeOtherByte_26 : decode cX1_takeOtherByte 26 = .ok (.goto 21, 3) := by decide +kernel
theorem dX1_takeOtherByte_29 : decode cX1_takeOtherByte 29 = .ok (.aload_n 0, 1) := by decide +kernel
theorem dX1_takeOtherByte_30 : decode cX1_takeOtherByte 30 = .ok (.getfield 50, 3) := by decide +kernel
theorem dX1_takeOtherByte_33 : decode cX1_takeOtherByte 33 = .ok (.iconst 1, 1) := by decide +kernel
theorem dX1_takeOtherByte_34 : decode cX1_takeOtherByte 34 = .ok (.aload_n 0, 1) := by decide +kernel
theorem dX1_takeOtherByte_35 : decode cX1_takeOtherByte 35 = .ok (.getfield 15, 3) := by decide +kernel
theorem dX1_takeOtherByte_38 : decode cX1_takeOtherByte 38 = .ok (.iload_n 1, 1) := by decide +kernel
theorem dX1_takeOtherByte_39 : decode cX1_takeOtherByte 39 = .ok (.aload_n 0, 1) := by decide +kernel
theorem dX1_takeOtherByte_40 : decode cX1_takeOtherByte 40 = .ok (.getfield 18, 3) := by decide +kernel
theorem dX1_takeOtherByte_43 : decode cX1_takeOtherByte 43 = .ok (.isub, 1) := by decide +kernel
theorem dX1_takeOtherByte_44 : decode cX1_takeOtherByte 44 = .ok (.invokevirtual 79, 3) := by decide +kernel
theorem dX1_takeOtherByte_47 : decode cX1_takeOtherByte 47 = .ok (.return_, 1) := by decide +kernel
theorem dX1_startsToken_0 : decode cX1_startsToken 0 = .ok (.iload_n 0, 1) := by decide +kernel
theorem dX1_startsToken_1 : decode cX1_startsToken 1 = .ok (.invokestatic 85, 3) := by decide +kernel
theorem dX1_startsToken_4 : decode cX1_startsToken 4 = .ok (.ifCond .ne 46, 3) := by decide +kernel
theorem dX1_startsToken_7 : decode cX1_startsToken 7 = .ok (.iload_n 0, 1) := by decide +kernel
theorem dX1_startsToken_8 : decode cX1_startsToken 8 = .ok (.invokestatic 88, 3) := by decide +kernel
theorem dX1_startsToken_11 : decode cX1_startsToken 11 = .ok (.ifCond .ne 39, 3) := by decide +kernel
theorem dX1_startsToken_14 : decode cX1_startsToken 14 = .ok (.iload_n 0, 1) := by decide +kernel
theorem dX1_startsToken_15 : decode cX1_startsToken 15 = .ok (.bipush 123, 2) := by decide +kernel
theorem dX1_startsToken_17 : decode cX1_startsToken 17 = .ok (.if_icmp .eq 33, 3) := by decide +kernel
theorem dX1_startsToken_20 : decode cX1_startsToken 20 = .ok (.iload_n 0, 1) := by decide +kernel
theorem dX1_startsToken_21 : decode cX1_startsToken 21 = .ok (.bipush 125, 2) := by decide +kernel
theorem dX1_startsToken_23 : decode cX1_startsToken 23 = .ok (.if_icmp .eq 27, 3) := by decide +kernel
theorem dX1_startsToken_26 : decode cX1_startsToken 26 = .ok (.iload_n 0, 1) := by decide +kernel
theorem dX1_startsToken_27 : decode cX1_startsToken 27 = .ok (.bipush 40, 2) := by decide +kernel
theorem dX1_startsToken_29 : decode cX1_startsToken 29 = .ok (.if_icmp .eq 21, 3) := by decide +kernel
theorem dX1_startsToken_32 : decode cX1_startsToken 32 = .ok (.iload_n 0, 1) := by decide +kernel
theorem dX1_startsToken_33 : decode cX1_startsToken 33 = .ok (.bipush 41, 2) := by decide +kernel
theorem dX1_startsToken_35 : decode cX1_startsToken 35 = .ok (.if_icmp .eq 15, 3) := by decide +kernel
theorem dX1_startsToken_38 : decode cX1_startsToken 38 = .ok (.iload_n 0, 1) := by decide +kernel
theorem dX1_startsToken_39 : decode cX1_startsToken 39 = .ok (.bipush 58, 2) := by decide +kernel
theorem dX1_startsToken_41 : decode cX1_startsToken 41 = .ok (.if_icmp .eq 9, 3) := by decide +kernel
theorem dX1_startsToken_44 : decode cX1_startsToken 44 = .ok (.iload_n 0, 1) := by decide +kernel
theorem dX1_startsToken_45 : decode cX1_startsToken 45 = .ok (.bipush 59, 2) := by decide +kernel
theorem dX1_startsToken_47 : decode cX1_startsToken 47 = .ok (.if_icmp .ne 7, 3) := by decide +kernel
theorem dX1_startsToken_50 : decode cX1_startsToken 50 = .ok (.iconst 1, 1) := by decide +kernel
theorem dX1_startsToken_51 : decode cX1_startsToken 51 = .ok (.goto 4, 3) := by decide +kernel
theorem dX1_startsToken_54 : decode cX1_startsToken 54 = .ok (.iconst 0, 1) := by decide +kernel
theorem dX1_startsToken_55 : decode cX1_startsToken 55 = .ok (.ireturn, 1) := by decide +kernel
theorem dX1_takeToken_0 : decode cX1_takeToken 0 = .ok (.aload_n 0, 1) := by decide +kernel
theorem dX1_takeToken_1 : decode cX1_takeToken 1 = .ok (.iload_n 1, 1) := by decide +kernel
theorem dX1_takeToken_2 : decode cX1_takeToken 2 = .ok (.putfield 34, 3) := by decide +kernel
theorem dX1_takeToken_5 : decode cX1_takeToken 5 = .ok (.aload_n 0, 1) := by decide +kernel
theorem dX1_takeToken_6 : decode cX1_takeToken 6 = .ok (.aload_n 0, 1) := by decide +kernel
theorem dX1_takeToken_7 : decode cX1_takeToken 7 = .ok (.getfield 15, 3) := by decide +kernel
theorem dX1_takeToken_10 : decode cX1_takeToken 10 = .ok (.putfield 37, 3) := by decide +kernel
theorem dX1_takeToken_13 : decode cX1_takeToken 13 = .ok (.aload_n 0, 1) := by decide +kernel
theorem dX1_takeToken_14 : decode cX1_takeToken 14 = .ok (.iload_n 1, 1) := by decide +kernel
theorem dX1_takeToken_15 : decode cX1_takeToken 15 = .ok (.aload_n 0, 1) := by decide +kernel
theorem dX1_takeToken_16 : decode cX1_takeToken 16 = .ok (.getfield 18, 3) := by decide +kernel
theorem dX1_takeToken_19 : decode cX1_takeToken 19 = .ok (.isub, 1) := by decide +kernel
theorem dX1_takeToken_20 : decode cX1_takeToken 20 = .ok (.putfield 40, 3) := by decide +kernel
theorem dX1_takeToken_23 : decode cX1_takeToken 23 = .ok (.aload_n 0, 1) := by decide +kernel
theorem dX1_takeToken_24 : decode cX1_takeToken 24 = .ok (.aload_n 0, 1) := by decide +kernel
theorem dX1_takeToken_25 : decode cX1_takeToken 25 = .ok (.getfield 28, 3) := by decide +kernel
theorem dX1_takeToken_28 : decode cX1_takeToken 28 = .ok (.ifCond .ne 7, 3) := by decide +kernel
theorem dX1_takeToken_31 : decode cX1_takeToken 31 = .ok (.iconst 1, 1) := by decide +kernel
theorem dX1_takeToken_32 : decode cX1_takeToken 32 = .ok (.goto 4, 3) := by decide +kernel
theorem dX1_takeToken_35 : decode cX1_takeToken 35 = .ok (.iconst 0, 1) := by decide +kernel
theorem dX1_takeToken_36 : decode cX1_takeToken 36 = .ok (.putfield 43, 3) := by decide +kernel
theorem dX1_takeToken_39 : decode cX1_takeToken 39 = .ok (.aload_n 0, 1) := by decide +kernel
theorem dX1_takeToken_40 : decode cX1_takeToken 40 = .ok (.iconst 1, 1) := by decide +kernel
theorem dX1_takeToken_41 : decode cX1_takeToken 41 = .ok (.putfield 28, 3) := by decide +kernel
theorem dX1_takeToken_44 : decode cX1_takeToken 44 = .ok (.aload_n 0, 1) := by decide +kernel
theorem dX1_takeToken_45 : decode cX1_takeToken 45 = .ok (.iload_n 2, 1) := by decide +kernel
theorem dX1_takeToken_46 : decode cX1_takeToken 46 = .ok (.invokestatic 85, 3) := by decide +kernel
theorem dX1_takeToken_49 : decode cX1_takeToken 49 = .ok (.ifCond .eq 7, 3) := by decide +kernel
theorem dX1_takeToken_52 : decode cX1_takeToken 52 = .ok (.iconst 2, 1) := by decide +kernel
theorem dX1_takeToken_53 : decode cX1_takeToken 53 = .ok (.goto 15, 3) := by decide +kernel
theorem dX1_takeToken_56 : decode cX1_takeToken 56 = .ok (.iload_n 2, 1) := by decide +kernel
theorem dX1_takeToken_57 : decode cX1_takeToken 57 = .ok (.invokestatic 88, 3) := by decide +kernel
theorem dX1_takeToken_60 : decode cX1_takeToken 60 = .ok (.ifCond .eq 7, 3) := by decide +kernel
theorem dX1_takeToken_63 : decode cX1_takeToken 63 = .ok (.iconst 3, 1) := by decide +kernel
theorem dX1_takeToken_64 : decode cX1_takeToken 64 = .ok (.goto 4, 3) := by decide +kernel
theorem dX1_takeToken_67 : decode cX1_takeToken 67 = .ok (.iload_n 2, 1) := by decide +kernel
theorem dX1_takeToken_68 : decode cX1_takeToken 68 = .ok (.putfield 31, 3) := by decide +kernel
theorem dX1_takeToken_71 : decode cX1_takeToken 71 = .ok (.aload_n 0, 1) := by decide +kernel
theorem dX1_takeToken_72 : decode cX1_takeToken 72 = .ok (.iload_n 1, 1) := by decide +kernel
theorem dX1_takeToken_73 : decode cX1_takeToken 73 = .ok (.iconst 1, 1) := by decide +kernel
theorem dX1_takeToken_74 : decode cX1_takeToken 74 = .ok (.iadd, 1) := by decide +kernel
theorem dX1_takeToken_75 : decode cX1_takeToken 75 = .ok (.putfield 9, 3) := by decide +kernel
theorem dX1_takeToken_78 : decode cX1_takeToken 78 = .ok (.aload_n 0, 1) := by decide +kernel
theorem dX1_takeToken_79 : decode cX1_takeToken 79 = .ok (.getfield 31, 3) := by decide +kernel
theorem dX1_takeToken_82 : decode cX1_takeToken 82 = .ok (.iconst 2, 1) := by decide +kernel
theorem dX1_takeToken_83 : decode cX1_takeToken 83 = .ok (.if_icmp .eq 11, 3) := by decide +kernel
theorem dX1_takeToken_86 : decode cX1_takeToken 86 = .ok (.aload_n 0, 1) := by decide +kernel
theorem dX1_takeToken_87 : decode cX1_takeToken 87 = .ok (.getfield 31, 3) := by decide +kernel
theorem dX1_takeToken_90 : decode cX1_takeToken 90 = .ok (.iconst 3, 1) := by decide +kernel
theorem dX1_takeToken_91 : decode cX1_takeToken 91 = .ok (.if_icmp .ne 25, 3) := by decide +kernel
theorem dX1_takeToken_94 : decode cX1_takeToken 94 = .ok (.aload_n 0, 1) := by decide +kernel
theorem dX1_takeToken_95 : decode cX1_takeToken 95 = .ok (.aload_n 0, 1) := by decide +kernel
theorem dX1_takeToken_96 : decode cX1_takeToken 96 = .ok (.iload_n 1, 1) := by decide +kernel
theorem dX1_takeToken_97 : decode cX1_takeToken 97 = .ok (.aload_n 0, 1) := by decide +kernel
theorem dX1_takeToken_98 : decode cX1_takeToken 98 = .ok (.getfield 31, 3) := by decide +kernel
theorem dX1_takeToken_101 : decode cX1_takeToken 101 = .ok (.iconst 2, 1) := by decide +kernel
theorem dX1_takeToken_102 : decode cX1_takeToken 102 = .ok (.if_icmp .ne 7, 3) := by decide +kernel
theorem dX1_takeToken_105 : decode cX1_takeToken 105 = .ok (.iconst 1, 1) := by decide +kernel
theorem dX1_takeToken_106 : decode cX1_takeToken 106 = .ok (.goto 4, 3) := by decide +kernel
theorem dX1_takeToken_109 : decode cX1_takeToken 109 = .ok (.iconst 0, 1) := by decide +kernel
theorem dX1_takeToken_110 : decode cX1_takeToken 110 = .ok (.invokevirtual 91, 3) := by decide +kernel
theorem dX1_takeToken_113 : decode cX1_takeToken 113 = .ok (.putfield 9, 3) := by decide +kernel
theorem dX1_takeToken_116 : decode cX1_takeToken 116 = .ok (.return_, 1) := by decide +kernel
theorem dX1_endOfRun_0 : decode cX1_endOfRun 0 = .ok (.iload_n 1, 1) := by decide +kernel
theorem dX1_endOfRun_1 : decode cX1_endOfRun 1 = .ok (.istore_n 3, 1) := by decide +kernel
theorem dX1_endOfRun_2 : decode cX1_endOfRun 2 = .ok (.iload_n 3, 1) := by decide +kernel
theorem dX1_endOfRun_3 : decode cX1_endOfRun 3 = .ok (.aload_n 0, 1) := by decide +kernel
theorem dX1_endOfRun_4 : decode cX1_endOfRun 4 = .ok (.getfield 46, 3) := by decide +kernel
theorem dX1_endOfRun_7 : decode cX1_endOfRun 7 = .ok (.invokevirtual 54, 3) := by decide +kernel
theorem dX1_endOfRun_10 : decode cX1_endOfRun 10 = .ok (.if_icmp .ge 41, 3) := by decide +kernel
theorem dX1_endOfRun_13 : decode cX1_endOfRun 13 = .ok (.aload_n 0, 1) := by decide +kernel
theorem dX1_endOfRun_14 : decode cX1_endOfRun 14 = .ok (.getfield 46, 3) := by decide +kernel
theorem dX1_endOfRun_17 : decode cX1_endOfRun 17 = .ok (.iload_n 3, 1) := by decide +kernel
theorem dX1_endOfRun_18 : decode cX1_endOfRun 18 = .ok (.invokevirtual 60, 3) := by decide +kernel
theorem dX1_endOfRun_21 : decode cX1_endOfRun 21 = .ok (.invokestatic 88, 3) := by decide +kernel
theorem dX1_endOfRun_24 : decode cX1_endOfRun 24 = .ok (.ifCond .ne 21, 3) := by decide +kernel
theorem dX1_endOfRun_27 : decode cX1_endOfRun 27 = .ok (.iload_n 2, 1) := by decide +kernel
theorem dX1_endOfRun_28 : decode cX1_endOfRun 28 = .ok (.ifCond .eq 23, 3) := by decide +kernel
theorem dX1_endOfRun_31 : decode cX1_endOfRun 31 = .ok (.aload_n 0, 1) := by decide +kernel
theorem dX1_endOfRun_32 : decode cX1_endOfRun 32 = .ok (.getfield 46, 3) := by decide +kernel
theorem dX1_endOfRun_35 : decode cX1_endOfRun 35 = .ok (.iload_n 3, 1) := by decide +kernel
theorem dX1_endOfRun_36 : decode cX1_endOfRun 36 = .ok (.invokevirtual 60, 3) := by decide +kernel
theorem dX1_endOfRun_39 : decode cX1_endOfRun 39 = .ok (.invokestatic 85, 3) := by decide +kernel
theorem dX1_endOfRun_42 : decode cX1_endOfRun 42 = .ok (.ifCond .eq 9, 3) := by decide +kernel
theorem dX1_endOfRun_45 : decode cX1_endOfRun 45 = .ok (.iinc 3 1, 3) := by decide +kernel
theorem dX1_endOfRun_48 : decode cX1_endOfRun 48 = .ok (.goto (-46), 3) := by decide +kernel
theorem dX1_endOfRun_51 : decode cX1_endOfRun 51 = .ok (.iload_n 3, 1) := by decide +kernel
theorem dX1_endOfRun_52 : decode cX1_endOfRun 52 = .ok (.ireturn, 1) := by decide +kernel
theorem dX1_numberRead_0 : decode cX1_numberRead 0 = .ok (.lconst 0, 1) := by decide +kernel
theorem dX1_numberRead_1 : decode cX1_numberRead 1 = .ok (.lstore_n 1, 1) := by decide +kernel
theorem dX1_numberRead_2 : decode cX1_numberRead 2 = .ok (.aload_n 0, 1) := by decide +kernel
theorem dX1_numberRead_3 : decode cX1_numberRead 3 = .ok (.getfield 34, 3) := by decide +kernel
theorem dX1_numberRead_6 : decode cX1_numberRead 6 = .ok (.istore_n 3, 1) := by decide +kernel
theorem dX1_numberRead_7 : decode cX1_numberRead 7 = .ok (.iload_n 3, 1) := by decide +kernel
theorem dX1_numberRead_8 : decode cX1_numberRead 8 = .ok (.aload_n 0, 1) := by decide +kernel
theorem dX1_numberRead_9 : decode cX1_numberRead 9 = .ok (.getfield 9, 3) := by decide +kernel
theorem dX1_numberRead_12 : decode cX1_numberRead 12 = .ok (.if_icmp .ge 32, 3) := by decide +kernel
theorem dX1_numberRead_15 : decode cX1_numberRead 15 = .ok (.lload_n 1, 1) := by decide +kernel
theorem dX1_numberRead_16 : decode cX1_numberRead 16 = .ok (.ldc2_w 95, 3) := by decide +kernel
theorem dX1_numberRead_19 : decode cX1_numberRead 19 = .ok (.lmul, 1) := by decide +kernel
theorem dX1_numberRead_20 : decode cX1_numberRead 20 = .ok (.aload_n 0, 1) := by decide +kernel
theorem dX1_numberRead_21 : decode cX1_numberRead 21 = .ok (.getfield 46, 3) := by decide +kernel
theorem dX1_numberRead_24 : decode cX1_numberRead 24 = .ok (.iload_n 3, 1) := by decide +kernel
theorem dX1_numberRead_25 : decode cX1_numberRead 25 = .ok (.invokevirtual 60, 3) := by decide +kernel
theorem dX1_numberRead_28 : decode cX1_numberRead 28 = .ok (.bipush 48, 2) := by decide +kernel
theorem dX1_numberRead_30 : decode cX1_numberRead 30 = .ok (.isub, 1) := by decide +kernel
theorem dX1_numberRead_31 : decode cX1_numberRead 31 = .ok (.i2l, 1) := by decide +kernel
theorem dX1_numberRead_32 : decode cX1_numberRead 32 = .ok (.ladd, 1) := by decide +kernel
theorem dX1_numberRead_33 : decode cX1_numberRead 33 = .ok (.ldc2_w 97, 3) := by decide +kernel
theorem dX1_numberRead_36 : decode cX1_numberRead 36 = .ok (.lrem, 1) := by decide +kernel
theorem dX1_numberRead_37 : decode cX1_numberRead 37 = .ok (.lstore_n 1, 1) := by decide +kernel
theorem dX1_numberRead_38 : decode cX1_numberRead 38 = .ok (.iinc 3 1, 3) := by decide +kernel
theorem dX1_numberRead_41 : decode cX1_numberRead 41 = .ok (.goto (-34), 3) := by decide +kernel
theorem dX1_numberRead_44 : decode cX1_numberRead 44 = .ok (.lload_n 1, 1) := by decide +kernel
theorem dX1_numberRead_45 : decode cX1_numberRead 45 = .ok (.l2i, 1) := by decide +kernel
theorem dX1_numberRead_46 : decode cX1_numberRead 46 = .ok (.ireturn, 1) := by decide +kernel
theorem dX2_init_0 : decode cX2_init 0 = .ok (.aload_n 0, 1) := by decide +kernel
theorem dX2_init_1 : decode cX2_init 1 = .ok (.invokespecial 3, 3) := by decide +kernel
theorem dX2_init_4 : decode cX2_init 4 = .ok (.aload_n 0, 1) := by decide +kernel
theorem dX2_init_5 : decode cX2_init 5 = .ok (.new 9, 3) := by decide +kernel
theorem dX2_init_8 : decode cX2_init 8 = .ok (.dup, 1) := by decide +kernel
theorem dX2_init_9 : decode cX2_init 9 = .ok (.invokespecial 11, 3) := by decide +kernel
theorem dX2_init_12 : decode cX2_init 12 = .ok (.putfield 12, 3) := by decide +kernel
theorem dX2_init_15 : decode cX2_init 15 = .ok (.aload_n 0, 1) := by decide +kernel
theorem dX2_init_16 : decode cX2_init 16 = .ok (.aload_n 1, 1) := by decide +kernel
theorem dX2_init_17 : decode cX2_init 17 = .ok (.putfield 18, 3) := by decide +kernel
theorem dX2_init_20 : decode cX2_init 20 = .ok (.return_, 1) := by decide +kernel
theorem dX2_size_0 : decode cX2_size 0 = .ok (.aload_n 0, 1) := by decide +kernel
theorem dX2_size_1 : decode cX2_size 1 = .ok (.getfield 12, 3) := by decide +kernel
theorem dX2_size_4 : decode cX2_size 4 = .ok (.invokevirtual 22, 3) := by decide +kernel
theorem dX2_size_7 : decode cX2_size 7 = .ok (.ireturn, 1) := by decide +kernel
theorem dX2_get_0 : decode cX2_get 0 = .ok (.aload_n 0, 1) := by decide +kernel
theorem dX2_get_1 : decode cX2_get 1 = .ok (.getfield 12, 3) := by decide +kernel
theorem dX2_get_4 : decode cX2_get 4 = .ok (.iload_n 1, 1) := by decide +kernel
theorem dX2_get_5 : decode cX2_get 5 = .ok (.invokevirtual 26, 3) := by decide +kernel
theorem dX2_get_8 : decode cX2_get 8 = .ok (.ireturn, 1) := by decide +kernel
theorem dX2_startAgain_0 : decode cX2_startAgain 0 = .ok (.aload_n 0, 1) := by decide +kernel
theorem dX2_startAgain_1 : decode cX2_startAgain 1 = .ok (.getfield 12, 3) := by decide +kernel
theorem dX2_startAgain_4 : decode cX2_startAgain 4 = .ok (.iconst 0, 1) := by decide +kernel
theorem dX2_startAgain_5 : decode cX2_startAgain 5 = .ok (.invokevirtual 30, 3) := by decide +kernel
theorem dX2_startAgain_8 : decode cX2_startAgain 8 = .ok (.return_, 1) := by decide +kernel
theorem dX2_printItems_0 : decode cX2_printItems 0 = .ok (.iconst 1, 1) := by decide +kernel
theorem dX2_printItems_1 : decode cX2_printItems 1 = .ok (.istore_n 1, 1) := by decide +kernel
theorem dX2_printItems_2 : decode cX2_printItems 2 = .ok (.iload_n 1, 1) := by decide +kernel
theorem dX2_printItems_3 : decode cX2_printItems 3 = .ok (.aload_n 0, 1) := by decide +kernel
theorem dX2_printItems_4 : decode cX2_printItems 4 = .ok (.getfield 18, 3) := by decide +kernel
theorem dX2_printItems_7 : decode cX2_printItems 7 = .ok (.invokevirtual 34, 3) := by decide +kernel
theorem dX2_printItems_10 : decode cX2_printItems 10 = .ok (.if_icmp .ge 45, 3) := by decide +kernel
theorem dX2_printItems_13 : decode cX2_printItems 13 = .ok (.aload_n 0, 1) := by decide +kernel
theorem dX2_printItems_14 : decode cX2_printItems 14 = .ok (.getfield 18, 3) := by decide +kernel
theorem dX2_printItems_17 : decode cX2_printItems 17 = .ok (.iload_n 1, 1) := by decide +kernel
theorem dX2_printItems_18 : decode cX2_printItems 18 = .ok (.iconst 1, 1) := by decide +kernel
theorem dX2_printItems_19 : decode cX2_printItems 19 = .ok (.invokevirtual 37, 3) := by decide +kernel
theorem dX2_printItems_22 : decode cX2_printItems 22 = .ok (.iconst 1, 1) := by decide +kernel
theorem dX2_printItems_23 : decode cX2_printItems 23 = .ok (.if_icmp .ne 26, 3) := by decide +kernel
theorem dX2_printItems_26 : decode cX2_printItems 26 = .ok (.aload_n 0, 1) := by decide +kernel
theorem dX2_printItems_27 : decode cX2_printItems 27 = .ok (.iload_n 1, 1) := by decide +kernel
theorem dX2_printItems_28 : decode cX2_printItems 28 = .ok (.aload_n 0, 1) := by decide +kernel
theorem dX2_printItems_29 : decode cX2_printItems 29 = .ok (.getfield 18, 3) := by decide +kernel
theorem dX2_printItems_32 : decode cX2_printItems 32 = .ok (.iload_n 1, 1) := by decide +kernel
theorem dX2_printItems_33 : decode cX2_printItems 33 = .ok (.invokevirtual 41, 3) := by decide +kernel
theorem dX2_printItems_36 : decode cX2_printItems 36 = .ok (.iconst 0, 1) := by decide +kernel
theorem dX2_printItems_37 : decode cX2_printItems 37 = .ok (.invokevirtual 44, 3) := by decide +kernel
theorem dX2_printItems_40 : decode cX2_printItems 40 = .ok (.aload_n 0, 1) := by decide +kernel
theorem dX2_printItems_41 : decode cX2_printItems 41 = .ok (.getfield 12, 3) := by decide +kernel
theorem dX2_printItems_44 : decode cX2_printItems 44 = .ok (.bipush 10, 2) := by decide +kernel
theorem dX2_printItems_46 : decode cX2_printItems 46 = .ok (.invokevirtual 48, 3) := by decide +kernel
theorem dX2_printItems_49 : decode cX2_printItems 49 = .ok (.iinc 1 1, 3) := by decide +kernel
theorem dX2_printItems_52 : decode cX2_printItems 52 = .ok (.goto (-50), 3) := by decide +kernel
theorem dX2_printItems_55 : decode cX2_printItems 55 = .ok (.return_, 1) := by decide +kernel
theorem dX2_printLines_0 : decode cX2_printLines 0 = .ok (.iload_n 2, 1) := by decide +kernel
theorem dX2_printLines_1 : decode cX2_printLines 1 = .ok (.bipush 40, 2) := by decide +kernel
theorem dX2_printLines_3 : decode cX2_printLines 3 = .ok (.if_icmp .le 4, 3) := by decide +kernel
theorem dX2_printLines_6 : decode cX2_printLines 6 = .ok (.return_, 1) := by decide +kernel
theorem dX2_printLines_7 : decode cX2_printLines 7 = .ok (.aload_n 0, 1) := by decide +kernel
theorem dX2_printLines_8 : decode cX2_printLines 8 = .ok (.getfield 18, 3) := by decide +kernel
theorem dX2_printLines_11 : decode cX2_printLines 11 = .ok (.iload_n 1, 1) := by decide +kernel
theorem dX2_printLines_12 : decode cX2_printLines 12 = .ok (.invokevirtual 41, 3) := by decide +kernel
theorem dX2_printLines_15 : decode cX2_printLines 15 = .ok (.istore_n 3, 1) := by decide +kernel
theorem dX2_printLines_16 : decode cX2_printLines 16 = .ok (.aload_n 0, 1) := by decide +kernel
theorem dX2_printLines_17 : decode cX2_printLines 17 = .ok (.getfield 18, 3) := by decide +kernel
theorem dX2_printLines_20 : decode cX2_printLines 20 = .ok (.iload_n 1, 1) := by decide +kernel
theorem dX2_printLines_21 : decode cX2_printLines 21 = .ok (.iconst 1, 1) := by decide +kernel
theorem dX2_printLines_22 : decode cX2_printLines 22 = .ok (.invokevirtual 37, 3) := by decide +kernel
theorem dX2_printLines_25 : decode cX2_printLines 25 = .ok (.iconst 1, 1) := by decide +kernel
theorem dX2_printLines_26 : decode cX2_printLines 26 = .ok (.iadd, 1) := by decide +kernel
theorem dX2_printLines_27 : decode cX2_printLines 27 = .ok (.istore 4, 2) := by decide +kernel
theorem dX2_printLines_29 : decode cX2_printLines 29 = .ok (.iload_n 1, 1) := by decide +kernel
theorem dX2_printLines_30 : decode cX2_printLines 30 = .ok (.iconst 1, 1) := by decide +kernel
theorem dX2_printLines_31 : decode cX2_printLines 31 = .ok (.iadd, 1) := by decide +kernel
theorem dX2_printLines_32 : decode cX2_printLines 32 = .ok (.istore 5, 2) := by decide +kernel
theorem dX2_printLines_34 : decode cX2_printLines 34 = .ok (.iload 5, 2) := by decide +kernel
theorem dX2_printLines_36 : decode cX2_printLines 36 = .ok (.iload_n 3, 1) := by decide +kernel
theorem dX2_printLines_37 : decode cX2_printLines 37 = .ok (.if_icmp .ge 31, 3) := by decide +kernel
theorem dX2_printLines_40 : decode cX2_printLines 40 = .ok (.aload_n 0, 1) := by decide +kernel
theorem dX2_printLines_41 : decode cX2_printLines 41 = .ok (.getfield 18, 3) := by decide +kernel
theorem dX2_printLines_44 : decode cX2_printLines 44 = .ok (.iload 5, 2) := by decide +kernel
theorem dX2_printLines_46 : decode cX2_printLines 46 = .ok (.iconst 1, 1) := by decide +kernel
theorem dX2_printLines_47 : decode cX2_printLines 47 = .ok (.invokevirtual 37, 3) := by decide +kernel
theorem dX2_printLines_50 : decode cX2_printLines 50 = .ok (.iload 4, 2) := by decide +kernel
theorem dX2_printLines_52 : decode cX2_printLines 52 = .ok (.if_icmp .ne 10, 3) := by decide +kernel
theorem dX2_printLines_55 : decode cX2_printLines 55 = .ok (.aload_n 0, 1) := by decide +kernel
theorem dX2_printLines_56 : decode cX2_printLines 56 = .ok (.iload 5, 2) := by decide +kernel
theorem dX2_printLines_58 : decode cX2_printLines 58 = .ok (.iload_n 2, 1) := by decide +kernel
theorem dX2_printLines_59 : decode cX2_printLines 59 = .ok (.invokevirtual 51, 3) := by decide +kernel
theorem dX2_printLines_62 : decode cX2_printLines 62 = .ok (.iinc 5 1, 3) := by decide +kernel
theorem dX2_printLines_65 : decode cX2_printLines 65 = .ok (.goto (-31), 3) := by decide +kernel
theorem dX2_printLines_68 : decode cX2_printLines 68 = .ok (.return_, 1) := by decide +kernel
theorem dX2_printLinesOfItem_0 : decode cX2_printLinesOfItem 0 = .ok (.iconst 0, 1) := by decide +kernel
theorem dX2_printLinesOfItem_1 : decode cX2_printLinesOfItem 1 = .ok (.istore_n 3, 1) := by decide +kernel
theorem dX2_printLinesOfItem_2 : decode cX2_printLinesOfItem 2 = .ok (.iload_n 3, 1) := by decide +kernel
theorem dX2_printLinesOfItem_3 : decode cX2_printLinesOfItem 3 = .ok (.iload_n 2, 1) := by decide +kernel
theorem dX2_printLinesOfItem_4 : decode cX2_printLinesOfItem 4 = .ok (.if_icmp .ge 27, 3) := by decide +kernel
theorem dX2_printLinesOfItem_7 : decode cX2_printLinesOfItem 7 = .ok (.aload_n 0, 1) := by decide +kernel
theorem dX2_printLinesOfItem_8 : decode cX2_printLinesOfItem 8 = .ok (.getfield 12, 3) := by decide +kernel
theorem dX2_printLinesOfItem_11 : decode cX2_printLinesOfItem 11 = .ok (.bipush 32, 2) := by decide +kernel
theorem dX2_printLinesOfItem_13 : decode cX2_printLinesOfItem 13 = .ok (.invokevirtual 48, 3) := by decide +kernel
theorem dX2_printLinesOfItem_16 : decode cX2_printLinesOfItem 16 = .ok (.aload_n 0, 1) := by decide +kernel
theorem dX2_printLinesOfItem_17 : decode cX2_printLinesOfItem 17 = .ok (.getfield 12, 3) := by decide +kernel
theorem dX2_printLinesOfItem_20 : decode cX2_printLinesOfItem 20 = .ok (.bipush 32, 2) := by decide +kernel
theorem dX2_printLinesOfItem_22 : decode cX2_printLinesOfItem 22 = .ok (.invokevirtual 48, 3) := by decide +kernel
theorem dX2_printLinesOfItem_25 : decode cX2_printLinesOfItem 25 = .ok (.iinc 3 1, 3) := by decide +kernel
theorem dX2_printLinesOfItem_28 : decode cX2_printLinesOfItem 28 = .ok (.goto (-26), 3) := by decide +kernel
theorem dX2_printLinesOfItem_31 : decode cX2_printLinesOfItem 31 = .ok (.aload_n 0, 1) := by decide +kernel
theorem dX2_printLinesOfItem_32 : decode cX2_printLinesOfItem 32 = .ok (.getfield 18, 3) := by decide +kernel
theorem dX2_printLinesOfItem_35 : decode cX2_printLinesOfItem 35 = .ok (.iload_n 1, 1) := by decide +kernel
theorem dX2_printLinesOfItem_36 : decode cX2_printLinesOfItem 36 = .ok (.invokevirtual 55, 3) := by decide +kernel
theorem dX2_printLinesOfItem_39 : decode cX2_printLinesOfItem 39 = .ok (.istore_n 3, 1) := by decide +kernel
theorem dX2_printLinesOfItem_40 : decode cX2_printLinesOfItem 40 = .ok (.aload_n 0, 1) := by decide +kernel
theorem dX2_printLinesOfItem_41 : decode cX2_printLinesOfItem 41 = .ok (.getfield 18, 3) := by decide +kernel
theorem dX2_printLinesOfItem_44 : decode cX2_printLinesOfItem 44 = .ok (.iload_n 3, 1) := by decide +kernel
theorem dX2_printLinesOfItem_45 : decode cX2_printLinesOfItem 45 = .ok (.iconst 0, 1) := by decide +kernel
theorem dX2_printLinesOfItem_46 : decode cX2_printLinesOfItem 46 = .ok (.invokevirtual 58, 3) := by decide +kernel
theorem dX2_printLinesOfItem_49 : decode cX2_printLinesOfItem 49 = .ok (.istore 4, 2) := by decide +kernel
theorem dX2_printLinesOfItem_51 : decode cX2_printLinesOfItem 51 = .ok (.aload_n 0, 1) := by decide +kernel
theorem dX2_printLinesOfItem_52 : decode cX2_printLinesOfItem 52 = .ok (.iload_n 1, 1) := by decide +kernel
theorem dX2_printLinesOfItem_53 : decode cX2_printLinesOfItem 53 = .ok (.iload 4, 2) := by decide +kernel
theorem dX2_printLinesOfItem_55 : decode cX2_printLinesOfItem 55 = .ok (.ifCond .eq 7, 3) := by decide +kernel
theorem dX2_printLinesOfItem_58 : decode cX2_printLinesOfItem 58 = .ok (.iload_n 3, 1) := by decide +kernel
theorem dX2_printLinesOfItem_59 : decode cX2_printLinesOfItem 59 = .ok (.goto 11, 3) := by decide +kernel
theorem dX2_printLinesOfItem_62 : decode cX2_printLinesOfItem 62 = .ok (.aload_n 0, 1) := by decide +kernel
theorem dX2_printLinesOfItem_63 : decode cX2_printLinesOfItem 63 = .ok (.getfield 18, 3) := by decide +kernel
theorem dX2_printLinesOfItem_66 : decode cX2_printLinesOfItem 66 = .ok (.iload_n 1, 1) := by decide +kernel
theorem dX2_printLinesOfItem_67 : decode cX2_printLinesOfItem 67 = .ok (.invokevirtual 41, 3) := by decide +kernel
theorem dX2_printLinesOfItem_70 : decode cX2_printLinesOfItem 70 = .ok (.iload_n 2, 1) := by decide +kernel
theorem dX2_printLinesOfItem_71 : decode cX2_printLinesOfItem 71 = .ok (.invokevirtual 44, 3) := by decide +kernel
theorem dX2_printLinesOfItem_74 : decode cX2_printLinesOfItem 74 = .ok (.iload 4, 2) := by decide +kernel
theorem dX2_printLinesOfItem_76 : decode cX2_printLinesOfItem 76 = .ok (.ifCond .eq 12, 3) := by decide +kernel
theorem dX2_printLinesOfItem_79 : decode cX2_printLinesOfItem 79 = .ok (.aload_n 0, 1) := by decide +kernel
theorem dX2_printLinesOfItem_80 : decode cX2_printLinesOfItem 80 = .ok (.getfield 12, 3) := by decide +kernel
theorem dX2_printLinesOfItem_83 : decode cX2_printLinesOfItem 83 = .ok (.bipush 58, 2) := by decide +kernel
theorem dX2_printLinesOfItem_85 : decode cX2_printLinesOfItem 85 = .ok (.invokevirtual 48, 3) := by decide +kernel
theorem dX2_printLinesOfItem_88 : decode cX2_printLinesOfItem 88 = .ok (.aload_n 0, 1) := by decide +kernel
theorem dX2_printLinesOfItem_89 : decode cX2_printLinesOfItem 89 = .ok (.getfield 12, 3) := by decide +kernel
theorem dX2_printLinesOfItem_92 : decode cX2_printLinesOfItem 92 = .ok (.bipush 10, 2) := by decide +kernel
theorem dX2_printLinesOfItem_94 : decode cX2_printLinesOfItem 94 = .ok (.invokevirtual 48, 3) := by decide +kernel
theorem dX2_printLinesOfItem_97 : decode cX2_printLinesOfItem 97 = .ok (.iload 4, 2) := by decide +kernel
theorem dX2_printLinesOfItem_99 : decode cX2_printLinesOfItem 99 = .ok (.ifCond .eq 11, 3) := by decide +kernel
theorem dX2_printLinesOfItem_102 : decode cX2_printLinesOfItem 102 = .ok (.aload_n 0, 1) := by decide +kernel
theorem dX2_printLinesOfItem_103 : decode cX2_printLinesOfItem 103 = .ok (.iload_n 3, 1) := by decide +kernel
theorem dX2_printLinesOfItem_104 : decode cX2_printLinesOfItem 104 = .ok (.iload_n 2, 1) := by decide +kernel
theorem dX2_printLinesOfItem_105 : decode cX2_printLinesOfItem 105 = .ok (.iconst 1, 1) := by decide +kernel
theorem dX2_printLinesOfItem_106 : decode cX2_printLinesOfItem 106 = .ok (.iadd, 1) := by decide +kernel
theorem dX2_printLinesOfItem_107 : decode cX2_printLinesOfItem 107 = .ok (.invokevirtual 62, 3) := by decide +kernel
theorem dX2_printLinesOfItem_110 : decode cX2_printLinesOfItem 110 = .ok (.return_, 1) := by decide +kernel
theorem dX2_printParts_0 : decode cX2_printParts 0 = .ok (.iload_n 3, 1) := by decide +kernel
theorem dX2_printParts_1 : decode cX2_printParts 1 = .ok (.bipush 40, 2) := by decide +kernel
theorem dX2_printParts_3 : decode cX2_printParts 3 = .ok (.if_icmp .le 4, 3) := by decide +kernel
theorem dX2_printParts_6 : decode cX2_printParts 6 = .ok (.return_, 1) := by decide +kernel
theorem dX2_printParts_7 : decode cX2_printParts 7 = .ok (.aload_n 0, 1) := by decide +kernel
theorem dX2_printParts_8 : decode cX2_printParts 8 = .ok (.getfield 18, 3) := by decide +kernel
theorem dX2_printParts_11 : decode cX2_printParts 11 = .ok (.iload_n 1, 1) := by decide +kernel
theorem dX2_printParts_12 : decode cX2_printParts 12 = .ok (.iconst 1, 1) := by decide +kernel
theorem dX2_printParts_13 : decode cX2_printParts 13 = .ok (.invokevirtual 37, 3) := by decide +kernel
theorem dX2_printParts_16 : decode cX2_printParts 16 = .ok (.iconst 1, 1) := by decide +kernel
theorem dX2_printParts_17 : decode cX2_printParts 17 = .ok (.iadd, 1) := by decide +kernel
theorem dX2_printParts_18 : decode cX2_printParts 18 = .ok (.istore 4, 2) := by decide +kernel
theorem dX2_printParts_20 : decode cX2_printParts 20 = .ok (.iload_n 1, 1) := by decide +kernel
theorem dX2_printParts_21 : decode cX2_printParts 21 = .ok (.iconst 1, 1) := by decide +kernel
theorem dX2_printParts_22 : decode cX2_printParts 22 = .ok (.iadd, 1) := by decide +kernel
theorem dX2_printParts_23 : decode cX2_printParts 23 = .ok (.istore 5, 2) := by decide +kernel
theorem dX2_printParts_25 : decode cX2_printParts 25 = .ok (.iload 5, 2) := by decide +kernel
theorem dX2_printParts_27 : decode cX2_printParts 27 = .ok (.iload_n 2, 1) := by decide +kernel
theorem dX2_printParts_28 : decode cX2_printParts 28 = .ok (.if_icmp .ge 61, 3) := by decide +kernel
theorem dX2_printParts_31 : decode cX2_printParts 31 = .ok (.aload_n 0, 1) := by decide +kernel
theorem dX2_printParts_32 : decode cX2_printParts 32 = .ok (.getfield 18, 3) := by decide +kernel
theorem dX2_printParts_35 : decode cX2_printParts 35 = .ok (.iload 5, 2) := by decide +kernel
theorem dX2_printParts_37 : decode cX2_printParts 37 = .ok (.iconst 1, 1) := by decide +kernel
theorem dX2_printParts_38 : decode cX2_printParts 38 = .ok (.invokevirtual 37, 3) := by decide +kernel
theorem dX2_printParts_41 : decode cX2_printParts 41 = .ok (.iload 4, 2) := by decide +kernel
theorem dX2_printParts_43 : decode cX2_printParts 43 = .ok (.if_icmp .ne 40, 3) := by decide +kernel
theorem dX2_printParts_46 : decode cX2_printParts 46 = .ok (.iload 5, 2) := by decide +kernel
theorem dX2_printParts_48 : decode cX2_printParts 48 = .ok (.iload_n 1, 1) := by decide +kernel
theorem dX2_printParts_49 : decode cX2_printParts 49 = .ok (.iconst 1, 1) := by decide +kernel
theorem dX2_printParts_50 : decode cX2_printParts 50 = .ok (.iadd, 1) := by decide +kernel
theorem dX2_printParts_51 : decode cX2_printParts 51 = .ok (.if_icmp .le 25, 3) := by decide +kernel
theorem dX2_printParts_54 : decode cX2_printParts 54 = .ok (.aload_n 0, 1) := by decide +kernel
theorem dX2_printParts_55 : decode cX2_printParts 55 = .ok (.getfield 18, 3) := by decide +kernel
theorem dX2_printParts_58 : decode cX2_printParts 58 = .ok (.iload 5, 2) := by decide +kernel
theorem dX2_printParts_60 : decode cX2_printParts 60 = .ok (.iconst 0, 1) := by decide +kernel
theorem dX2_printParts_61 : decode cX2_printParts 61 = .ok (.invokevirtual 58, 3) := by decide +kernel
theorem dX2_printParts_64 : decode cX2_printParts 64 = .ok (.ifCond .ne 12, 3) := by decide +kernel
theorem dX2_printParts_67 : decode cX2_printParts 67 = .ok (.aload_n 0, 1) := by decide +kernel
theorem dX2_printParts_68 : decode cX2_printParts 68 = .ok (.getfield 12, 3) := by decide +kernel
theorem dX2_printParts_71 : decode cX2_printParts 71 = .ok (.bipush 32, 2) := by decide +kernel
theorem dX2_printParts_73 : decode cX2_printParts 73 = .ok (.invokevirtual 48, 3) := by decide +kernel
theorem dX2_printParts_76 : decode cX2_printParts 76 = .ok (.aload_n 0, 1) := by decide +kernel
theorem dX2_printParts_77 : decode cX2_printParts 77 = .ok (.iload 5, 2) := by decide +kernel
theorem dX2_printParts_79 : decode cX2_printParts 79 = .ok (.iload_n 3, 1) := by decide +kernel
theorem dX2_printParts_80 : decode cX2_printParts 80 = .ok (.invokevirtual 65, 3) := by decide +kernel
theorem dX2_printParts_83 : decode cX2_printParts 83 = .ok (.iinc 5 1, 3) := by decide +kernel
theorem dX2_printParts_86 : decode cX2_printParts 86 = .ok (.goto (-61), 3) := by decide +kernel
theorem dX2_printParts_89 : decode cX2_printParts 89 = .ok (.return_, 1) := by decide +kernel
theorem dX2_printPart_0 : decode cX2_printPart 0 = .ok (.aload_n 0, 1) := by decide +kernel
theorem dX2_printPart_1 : decode cX2_printPart 1 = .ok (.getfield 18, 3) := by decide +kernel
theorem dX2_printPart_4 : decode cX2_printPart 4 = .ok (.iload_n 1, 1) := by decide +kernel
theorem dX2_printPart_5 : decode cX2_printPart 5 = .ok (.iconst 0, 1) := by decide +kernel
theorem dX2_printPart_6 : decode cX2_printPart 6 = .ok (.invokevirtual 37, 3) := by decide +kernel
theorem dX2_printPart_9 : decode cX2_printPart 9 = .ok (.tableswitch 88 2 4 #[27, 35, 51], 27) := by decide +kernel
theorem dX2_printPart_36 : decode cX2_printPart 36 = .ok (.aload_n 0, 1) := by decide +kernel
theorem dX2_printPart_37 : decode cX2_printPart 37 = .ok (.iload_n 1, 1) := by decide +kernel
theorem dX2_printPart_38 : decode cX2_printPart 38 = .ok (.invokevirtual 68, 3) := by decide +kernel
theorem dX2_printPart_41 : decode cX2_printPart 41 = .ok (.goto 64, 3) := by decide +kernel
theorem dX2_printPart_44 : decode cX2_printPart 44 = .ok (.aload_n 0, 1) := by decide +kernel
theorem dX2_printPart_45 : decode cX2_printPart 45 = .ok (.aload_n 0, 1) := by decide +kernel
theorem dX2_printPart_46 : decode cX2_printPart 46 = .ok (.getfield 18, 3) := by decide +kernel
theorem dX2_printPart_49 : decode cX2_printPart 49 = .ok (.iload_n 1, 1) := by decide +kernel
theorem dX2_printPart_50 : decode cX2_printPart 50 = .ok (.iconst 5, 1) := by decide +kernel
theorem dX2_printPart_51 : decode cX2_printPart 51 = .ok (.invokevirtual 37, 3) := by decide +kernel
theorem dX2_printPart_54 : decode cX2_printPart 54 = .ok (.invokevirtual 71, 3) := by decide +kernel
theorem dX2_printPart_57 : decode cX2_printPart 57 = .ok (.goto 48, 3) := by decide +kernel
theorem dX2_printPart_60 : decode cX2_printPart 60 = .ok (.aload_n 0, 1) := by decide +kernel
theorem dX2_printPart_61 : decode cX2_printPart 61 = .ok (.getfield 12, 3) := by decide +kernel
theorem dX2_printPart_64 : decode cX2_printPart 64 = .ok (.bipush 40, 2) := by decide +kernel
theorem dX2_printPart_66 : decode cX2_printPart 66 = .ok (.invokevirtual 48, 3) := by decide +kernel
theorem dX2_printPart_69 : decode cX2_printPart 69 = .ok (.aload_n 0, 1) := by decide +kernel
theorem dX2_printPart_70 : decode cX2_printPart 70 = .ok (.iload_n 1, 1) := by decide +kernel
theorem dX2_printPart_71 : decode cX2_printPart 71 = .ok (.aload_n 0, 1) := by decide +kernel
theorem dX2_printPart_72 : decode cX2_printPart 72 = .ok (.getfield 18, 3) := by decide +kernel
theorem dX2_printPart_75 : decode cX2_printPart 75 = .ok (.iload_n 1, 1) := by decide +kernel
theorem dX2_printPart_76 : decode cX2_printPart 76 = .ok (.invokevirtual 41, 3) := by decide +kernel
theorem dX2_printPart_79 : decode cX2_printPart 79 = .ok (.iload_n 2, 1) := by decide +kernel
theorem dX2_printPart_80 : decode cX2_printPart 80 = .ok (.iconst 1, 1) := by decide +kernel
theorem dX2_printPart_81 : decode cX2_printPart 81 = .ok (.iadd, 1) := by decide +kernel
theorem dX2_printPart_82 : decode cX2_printPart 82 = .ok (.invokevirtual 44, 3) := by decide +kernel
theorem dX2_printPart_85 : decode cX2_printPart 85 = .ok (.aload_n 0, 1) := by decide +kernel
theorem dX2_printPart_86 : decode cX2_printPart 86 = .ok (.getfield 12, 3) := by decide +kernel
theorem dX2_printPart_89 : decode cX2_printPart 89 = .ok (.bipush 41, 2) := by decide +kernel
theorem dX2_printPart_91 : decode cX2_printPart 91 = .ok (.invokevirtual 48, 3) := by decide +kernel
theorem dX2_printPart_94 : decode cX2_printPart 94 = .ok (.goto 11, 3) := by decide +kernel
theorem dX2_printPart_97 : decode cX2_printPart 97 = .ok (.aload_n 0, 1) := by decide +kernel
theorem dX2_printPart_98 : decode cX2_printPart 98 = .ok (.iload_n 1, 1) := by decide +kernel
theorem dX2_printPart_99 : decode cX2_printPart 99 = .ok (.iload_n 2, 1) := by decide +kernel
theorem dX2_printPart_100 : decode cX2_printPart 100 = .ok (.iconst 1, 1) := by decide +kernel
theorem dX2_printPart_101 : decode cX2_printPart 101 = .ok (.iadd, 1) := by decide +kernel
theorem dX2_printPart_102 : decode cX2_printPart 102 = .ok (.invokevirtual 74, 3) := by decide +kernel
theorem dX2_printPart_105 : decode cX2_printPart 105 = .ok (.return_, 1) := by decide +kernel
theorem dX2_printBraces_0 : decode cX2_printBraces 0 = .ok (.aload_n 0, 1) := by decide +kernel
theorem dX2_printBraces_1 : decode cX2_printBraces 1 = .ok (.getfield 12, 3) := by decide +kernel
theorem dX2_printBraces_4 : decode cX2_printBraces 4 = .ok (.bipush 58, 2) := by decide +kernel
theorem dX2_printBraces_6 : decode cX2_printBraces 6 = .ok (.invokevirtual 48, 3) := by decide +kernel
theorem dX2_printBraces_9 : decode cX2_printBraces 9 = .ok (.aload_n 0, 1) := by decide +kernel
theorem dX2_printBraces_10 : decode cX2_printBraces 10 = .ok (.getfield 12, 3) := by decide +kernel
theorem dX2_printBraces_13 : decode cX2_printBraces 13 = .ok (.bipush 32, 2) := by decide +kernel
theorem dX2_printBraces_15 : decode cX2_printBraces 15 = .ok (.invokevirtual 48, 3) := by decide +kernel
theorem dX2_printBraces_18 : decode cX2_printBraces 18 = .ok (.aload_n 0, 1) := by decide +kernel
theorem dX2_printBraces_19 : decode cX2_printBraces 19 = .ok (.getfield 12, 3) := by decide +kernel
theorem dX2_printBraces_22 : decode cX2_printBraces 22 = .ok (.bipush 123, 2) := by decide +kernel
theorem dX2_printBraces_24 : decode cX2_printBraces 24 = .ok (.invokevirtual 48, 3) := by decide +kernel
theorem dX2_printBraces_27 : decode cX2_printBraces 27 = .ok (.aload_n 0, 1) := by decide +kernel
theorem dX2_printBraces_28 : decode cX2_printBraces 28 = .ok (.getfield 18, 3) := by decide +kernel
theorem dX2_printBraces_31 : decode cX2_printBraces 31 = .ok (.iload_n 1, 1) := by decide +kernel
theorem dX2_printBraces_32 : decode cX2_printBraces 32 = .ok (.invokevirtual 41, 3) := by decide +kernel
theorem dX2_printBraces_35 : decode cX2_printBraces 35 = .ok (.istore_n 3, 1) := by decide +kernel
theorem dX2_printBraces_36 : decode cX2_printBraces 36 = .ok (.aload_n 0, 1) := by decide +kernel
theorem dX2_printBraces_37 : decode cX2_printBraces 37 = .ok (.getfield 18, 3) := by decide +kernel
theorem dX2_printBraces_40 : decode cX2_printBraces 40 = .ok (.iload_n 1, 1) := by decide +kernel
theorem dX2_printBraces_41 : decode cX2_printBraces 41 = .ok (.iconst 1, 1) := by decide +kernel
theorem dX2_printBraces_42 : decode cX2_printBraces 42 = .ok (.invokevirtual 37, 3) := by decide +kernel
theorem dX2_printBraces_45 : decode cX2_printBraces 45 = .ok (.iconst 1, 1) := by decide +kernel
theorem dX2_printBraces_46 : decode cX2_printBraces 46 = .ok (.iadd, 1) := by decide +kernel
theorem dX2_printBraces_47 : decode cX2_printBraces 47 = .ok (.istore 4, 2) := by decide +kernel
theorem dX2_printBraces_49 : decode cX2_printBraces 49 = .ok (.iload_n 1, 1) := by decide +kernel
theorem dX2_printBraces_50 : decode cX2_printBraces 50 = .ok (.iconst 1, 1) := by decide +kernel
theorem dX2_printBraces_51 : decode cX2_printBraces 51 = .ok (.iadd, 1) := by decide +kernel
theorem dX2_printBraces_52 : decode cX2_printBraces 52 = .ok (.istore 5, 2) := by decide +kernel
theorem dX2_printBraces_54 : decode cX2_printBraces 54 = .ok (.iload 5, 2) := by decide +kernel
theorem dX2_printBraces_56 : decode cX2_printBraces 56 = .ok (.iload_n 3, 1) := by decide +kernel
theorem dX2_printBraces_57 : decode cX2_printBraces 57 = .ok (.if_icmp .ge 66, 3) := by decide +kernel
theorem dX2_printBraces_60 : decode cX2_printBraces 60 = .ok (.aload_n 0, 1) := by decide +kernel
theorem dX2_printBraces_61 : decode cX2_printBraces 61 = .ok (.getfield 18, 3) := by decide +kernel
theorem dX2_printBraces_64 : decode cX2_printBraces 64 = .ok (.iload 5, 2) := by decide +kernel
theorem dX2_printBraces_66 : decode cX2_printBraces 66 = .ok (.iconst 1, 1) := by decide +kernel
theorem dX2_printBraces_67 : decode cX2_printBraces 67 = .ok (.invokevirtual 37, 3) := by decide +kernel
theorem dX2_printBraces_70 : decode cX2_printBraces 70 = .ok (.iload 4, 2) := by decide +kernel
theorem dX2_printBraces_72 : decode cX2_printBraces 72 = .ok (.if_icmp .ne 45, 3) := by decide +kernel
theorem dX2_printBraces_75 : decode cX2_printBraces 75 = .ok (.iload 5, 2) := by decide +kernel
theorem dX2_printBraces_77 : decode cX2_printBraces 77 = .ok (.iload_n 1, 1) := by decide +kernel
theorem dX2_printBraces_78 : decode cX2_printBraces 78 = .ok (.iconst 1, 1) := by decide +kernel
theorem dX2_printBraces_79 : decode cX2_printBraces 79 = .ok (.iadd, 1) := by decide +kernel
theorem dX2_printBraces_80 : decode cX2_printBraces 80 = .ok (.if_icmp .le 12, 3) := by decide +kernel
theorem dX2_printBraces_83 : decode cX2_printBraces 83 = .ok (.aload_n 0, 1) := by decide +kernel
theorem dX2_printBraces_84 : decode cX2_printBraces 84 = .ok (.getfield 12, 3) := by decide +kernel
theorem dX2_printBraces_87 : decode cX2_printBraces 87 = .ok (.bipush 59, 2) := by decide +kernel
theorem dX2_printBraces_89 : decode cX2_printBraces 89 = .ok (.invokevirtual 48, 3) := by decide +kernel
theorem dX2_printBraces_92 : decode cX2_printBraces 92 = .ok (.aload_n 0, 1) := by decide +kernel
theorem dX2_printBraces_93 : decode cX2_printBraces 93 = .ok (.getfield 12, 3) := by decide +kernel
theorem dX2_printBraces_96 : decode cX2_printBraces 96 = .ok (.bipush 32, 2) := by decide +kernel
theorem dX2_printBraces_98 : decode cX2_printBraces 98 = .ok (.invokevirtual 48, 3) := by decide +kernel
theorem dX2_printBraces_101 : decode cX2_printBraces 101 = .ok (.aload_n 0, 1) := by decide +kernel
theorem dX2_printBraces_102 : decode cX2_printBraces 102 = .ok (.iload 5, 2) := by decide +kernel
theorem dX2_printBraces_104 : decode cX2_printBraces 104 = .ok (.aload_n 0, 1) := by decide +kernel
theorem dX2_printBraces_105 : decode cX2_printBraces 105 = .ok (.getfield 18, 3) := by decide +kernel
theorem dX2_printBraces_108 : decode cX2_printBraces 108 = .ok (.iload 5, 2) := by decide +kernel
theorem dX2_printBraces_110 : decode cX2_printBraces 110 = .ok (.invokevirtual 41, 3) := by decide +kernel
theorem dX2_printBraces_113 : decode cX2_printBraces 113 = .ok (.iload_n 2, 1) := by decide +kernel
theorem dX2_printBraces_114 : decode cX2_printBraces 114 = .ok (.invokevirtual 44, 3) := by decide +kernel
theorem dX2_printBraces_117 : decode cX2_printBraces 117 = .ok (.iinc 5 1, 3) := by decide +kernel
theorem dX2_printBraces_120 : decode cX2_printBraces 120 = .ok (.goto (-66), 3) := by decide +kernel
theorem dX2_printBraces_123 : decode cX2_printBraces 123 = .ok (.aload_n 0, 1) := by decide +kernel
theorem dX2_printBraces_124 : decode cX2_printBraces 124 = .ok (.getfield 12, 3) := by decide +kernel
theorem dX2_printBraces_127 : decode cX2_printBraces 127 = .ok (.bipush 32, 2) := by decide +kernel
theorem dX2_printBraces_129 : decode cX2_printBraces 129 = .ok (.invokevirtual 48, 3) := by decide +kernel
theorem dX2_printBraces_132 : decode cX2_printBraces 132 = .ok (.aload_n 0, 1) := by decide +kernel
theorem dX2_printBraces_133 : decode cX2_printBraces 133 = .ok (.getfield 12, 3) := by decide +kernel
theorem dX2_printBraces_136 : decode cX2_printBraces 136 = .ok (.bipush 125, 2) := by decide +kernel
theorem dX2_printBraces_138 : decode cX2_printBraces 138 = .ok (.invokevirtual 48, 3) := by decide +kernel
theorem dX2_printBraces_141 : decode cX2_printBraces 141 = .ok (.return_, 1) := by decide +kernel
theorem dX2_printWord_0 : decode cX2_printWord 0 = .ok (.aload_n 0, 1) := by decide +kernel
theorem dX2_printWord_1 : decode cX2_printWord 1 = .ok (.getfield 18, 3) := by decide +kernel
theorem dX2_printWord_4 : decode cX2_printWord 4 = .ok (.iload_n 1, 1) := by decide +kernel
theorem dX2_printWord_5 : decode cX2_printWord 5 = .ok (.iconst 5, 1) := by decide +kernel
theorem dX2_printWord_6 : decode cX2_printWord 6 = .ok (.invokevirtual 37, 3) := by decide +kernel
theorem dX2_printWord_9 : decode cX2_printWord 9 = .ok (.istore_n 2, 1) := by decide +kernel
theorem dX2_printWord_10 : decode cX2_printWord 10 = .ok (.iconst 0, 1) := by decide +kernel
theorem dX2_printWord_11 : decode cX2_printWord 11 = .ok (.istore_n 3, 1) := by decide +kernel
theorem dX2_printWord_12 : decode cX2_printWord 12 = .ok (.iload_n 3, 1) := by decide +kernel
theorem dX2_printWord_13 : decode cX2_printWord 13 = .ok (.iload_n 2, 1) := by decide +kernel
theorem dX2_printWord_14 : decode cX2_printWord 14 = .ok (.if_icmp .ge 25, 3) := by decide +kernel
theorem dX2_printWord_17 : decode cX2_printWord 17 = .ok (.aload_n 0, 1) := by decide +kernel
theorem dX2_printWord_18 : decode cX2_printWord 18 = .ok (.getfield 12, 3) := by decide +kernel
theorem dX2_printWord_21 : decode cX2_printWord 21 = .ok (.aload_n 0, 1) := by decide +kernel
theorem dX2_printWord_22 : decode cX2_printWord 22 = .ok (.getfield 18, 3) := by decide +kernel
theorem dX2_printWord_25 : decode cX2_printWord 25 = .ok (.iload_n 1, 1) := by decide +kernel
theorem dX2_printWord_26 : decode cX2_printWord 26 = .ok (.iload_n 3, 1) := by decide +kernel
theorem dX2_printWord_27 : decode cX2_printWord 27 = .ok (.invokevirtual 77, 3) := by decide +kernel
theorem dX2_printWord_30 : decode cX2_printWord 30 = .ok (.invokevirtual 48, 3) := by decide +kernel
theorem dX2_printWord_33 : decode cX2_printWord 33 = .ok (.iinc 3 1, 3) := by decide +kernel
theorem dX2_printWord_36 : decode cX2_printWord 36 = .ok (.goto (-24), 3) := by decide +kernel
theorem dX2_printWord_39 : decode cX2_printWord 39 = .ok (.return_, 1) := by decide +kernel
theorem dX2_printNumber_0 : decode cX2_printNumber 0 = .ok (.ldc 80, 2) := by decide +kernel
theorem dX2_printNumber_2 : decode cX2_printNumber 2 = .ok (.istore_n 2, 1) := by decide +kernel
theorem dX2_printNumber_3 : decode cX2_printNumber 3 = .ok (.iload_n 2, 1) := by decide +kernel
theorem dX2_printNumber_4 : decode cX2_printNumber 4 = .ok (.ifCond .le 37, 3) := by decide +kernel
theorem dX2_printNumber_7 : decode cX2_printNumber 7 = .ok (.iload_n 1, 1) := by decide +kernel
theorem dX2_printNumber_8 : decode cX2_printNumber 8 = .ok (.iload_n 2, 1) := by decide +kernel
theorem dX2_printNumber_9 : decode cX2_printNumber 9 = .ok (.if_icmp .ge 8, 3) := by decide +kernel
theorem dX2_printNumber_12 : decode cX2_printNumber 12 = .ok (.iload_n 2, 1) := by decide +kernel
theorem dX2_printNumber_13 : decode cX2_printNumber 13 = .ok (.iconst 1, 1) := by decide +kernel
theorem dX2_printNumber_14 : decode cX2_printNumber 14 = .ok (.if_icmp .ne 19, 3) := by decide +kernel
theorem dX2_printNumber_17 : decode cX2_printNumber 17 = .ok (.aload_n 0, 1) := by decide +kernel
theorem dX2_printNumber_18 : decode cX2_printNumber 18 = .ok (.getfield 12, 3) := by decide +kernel
theorem dX2_printNumber_21 : decode cX2_printNumber 21 = .ok (.bipush 48, 2) := by decide +kernel
theorem dX2_printNumber_23 : decode cX2_printNumber 23 = .ok (.iload_n 1, 1) := by decide +kernel
theorem dX2_printNumber_24 : decode cX2_printNumber 24 = .ok (.iload_n 2, 1) := by decide +kernel
theorem dX2_printNumber_25 : decode cX2_printNumber 25 = .ok (.idiv, 1) := by decide +kernel
theorem dX2_printNumber_26 : decode cX2_printNumber 26 = .ok (.bipush 10, 2) := by decide +kernel
theorem dX2_printNumber_28 : decode cX2_printNumber 28 = .ok (.irem, 1) := by decide +kernel
theorem dX2_printNumber_29 : decode cX2_printNumber 29 = .ok (.iadd, 1) := by decide +kernel
theorem dX2_printNumber_30 : decode cX2_printNumber 30 = .ok (.invokevirtual 48, 3) := by decide +kernel
theorem dX2_printNumber_33 : decode cX2_printNumber 33 = .ok (.iload_n 2, 1) := by decide +kernel
theorem dX2_printNumber_34 : decode cX2_printNumber 34 = .ok (.bipush 10, 2) := by decide +kernel
theorem dX2_printNumber_36 : decode cX2_printNumber 36 = .ok (.idiv, 1) := by decide +kernel
theorem dX2_printNumber_37 : decode cX2_printNumber 37 = .ok (.istore_n 2, 1) := by decide +kernel
theorem dX2_printNumber_38 : decode cX2_printNumber 38 = .ok (.goto (-35), 3) := by decide +kernel
theorem dX2_printNumber_41 : decode cX2_printNumber 41 = .ok (.return_, 1) := by decide +kernel
theorem dX3_init_0 : decode cX3_init 0 = .ok (.aload_n 0, 1) := by decide +kernel
theorem dX3_init_1 : decode cX3_init 1 = .ok (.invokespecial 1, 3) := by decide +kernel
theorem dX3_init_4 : decode cX3_init 4 = .ok (.aload_n 0, 1) := by decide +kernel
theorem dX3_init_5 : decode cX3_init 5 = .ok (.new 7, 3) := by decide +kernel
theorem dX3_init_8 : decode cX3_init 8 = .ok (.dup, 1) := by decide +kernel
theorem dX3_init_9 : decode cX3_init 9 = .ok (.invokespecial 9, 3) := by decide +kernel
theorem dX3_init_12 : decode cX3_init 12 = .ok (.putfield 10, 3) := by decide +kernel
theorem dX3_init_15 : decode cX3_init 15 = .ok (.aload_n 0, 1) := by decide +kernel
theorem dX3_init_16 : decode cX3_init 16 = .ok (.iconst 0, 1) := by decide +kernel
theorem dX3_init_17 : decode cX3_init 17 = .ok (.putfield 16, 3) := by decide +kernel
theorem dX3_init_20 : decode cX3_init 20 = .ok (.return_, 1) := by decide +kernel
theorem dX3_startAgain_0 : decode cX3_startAgain 0 = .ok (.aload_n 0, 1) := by decide +kernel
theorem dX3_startAgain_1 : decode cX3_startAgain 1 = .ok (.getfield 10, 3) := by decide +kernel
theorem dX3_startAgain_4 : decode cX3_startAgain 4 = .ok (.iconst 0, 1) := by decide +kernel
theorem dX3_startAgain_5 : decode cX3_startAgain 5 = .ok (.invokevirtual 20, 3) := by decide +kernel
theorem dX3_startAgain_8 : decode cX3_startAgain 8 = .ok (.aload_n 0, 1) := by decide +kernel
theorem dX3_startAgain_9 : decode cX3_startAgain 9 = .ok (.iconst 0, 1) := by decide +kernel
theorem dX3_startAgain_10 : decode cX3_startAgain 10 = .ok (.putfield 16, 3) := by decide +kernel
theorem dX3_startAgain_13 : decode cX3_startAgain 13 = .ok (.return_, 1) := by decide +kernel
theorem dX3_size_0 : decode cX3_size 0 = .ok (.aload_n 0, 1) := by decide +kernel
theorem dX3_size_1 : decode cX3_size 1 = .ok (.getfield 16, 3) := by decide +kernel
theorem dX3_size_4 : decode cX3_size 4 = .ok (.ireturn, 1) := by decide +kernel
theorem dX3_get_0 : decode cX3_get 0 = .ok (.aload_n 0, 1) := by decide +kernel
theorem dX3_get_1 : decode cX3_get 1 = .ok (.getfield 10, 3) := by decide +kernel
theorem dX3_get_4 : decode cX3_get 4 = .ok (.iload_n 1, 1) := by decide +kernel
theorem dX3_get_5 : decode cX3_get 5 = .ok (.iconst 3, 1) := by decide +kernel
theorem dX3_get_6 : decode cX3_get 6 = .ok (.imul, 1) := by decide +kernel
theorem dX3_get_7 : decode cX3_get 7 = .ok (.iload_n 2, 1) := by decide +kernel
theorem dX3_get_8 : decode cX3_get 8 = .ok (.iadd, 1) := by decide +kernel
theorem dX3_get_9 : decode cX3_get 9 = .ok (.invokevirtual 24, 3) := by decide +kernel
theorem dX3_get_12 : decode cX3_get 12 = .ok (.ireturn, 1) := by decide +kernel
theorem dX3_add_0 : decode cX3_add 0 = .ok (.aload_n 0, 1) := by decide +kernel
theorem dX3_add_1 : decode cX3_add 1 = .ok (.getfield 10, 3) := by decide +kernel
theorem dX3_add_4 : decode cX3_add 4 = .ok (.iload_n 1, 1) := by decide +kernel
theorem dX3_add_5 : decode cX3_add 5 = .ok (.invokevirtual 28, 3) := by decide +kernel
theorem dX3_add_8 : decode cX3_add 8 = .ok (.aload_n 0, 1) := by decide +kernel
theorem dX3_add_9 : decode cX3_add 9 = .ok (.getfield 10, 3) := by decide +kernel
theorem dX3_add_12 : decode cX3_add 12 = .ok (.iload_n 2, 1) := by decide +kernel
theorem dX3_add_13 : decode cX3_add 13 = .ok (.invokevirtual 28, 3) := by decide +kernel
theorem dX3_add_16 : decode cX3_add 16 = .ok (.aload_n 0, 1) := by decide +kernel
theorem dX3_add_17 : decode cX3_add 17 = .ok (.getfield 10, 3) := by decide +kernel
theorem dX3_add_20 : decode cX3_add 20 = .ok (.iload_n 3, 1) := by decide +kernel
theorem dX3_add_21 : decode cX3_add 21 = .ok (.invokevirtual 28, 3) := by decide +kernel
theorem dX3_add_24 : decode cX3_add 24 = .ok (.aload_n 0, 1) := by decide +kernel
theorem dX3_add_25 : decode cX3_add 25 = .ok (.dup, 1) := by decide +kernel
theorem dX3_add_26 : decode cX3_add 26 = .ok (.getfield 16, 3) := by decide +kernel
theorem dX3_add_29 : decode cX3_add 29 = .ok (.iconst 1, 1) := by decide +kernel
theorem dX3_add_30 : decode cX3_add 30 = .ok (.iadd, 1) := by decide +kernel
theorem dX3_add_31 : decode cX3_add 31 = .ok (.putfield 16, 3) := by decide +kernel
theorem dX3_add_34 : decode cX3_add 34 = .ok (.return_, 1) := by decide +kernel
theorem dX4_init_0 : decode cX4_init 0 = .ok (.aload_n 0, 1) := by decide +kernel
theorem dX4_init_1 : decode cX4_init 1 = .ok (.invokespecial 3, 3) := by decide +kernel
theorem dX4_init_4 : decode cX4_init 4 = .ok (.aload_n 0, 1) := by decide +kernel
theorem dX4_init_5 : decode cX4_init 5 = .ok (.bipush 64, 2) := by decide +kernel
theorem dX4_init_7 : decode cX4_init 7 = .ok (.newarray .int, 2) := by decide +kernel
theorem dX4_init_9 : decode cX4_init 9 = .ok (.putfield 11, 3) := by decide +kernel
theorem dX4_init_12 : decode cX4_init 12 = .ok (.aload_n 0, 1) := by decide +kernel
theorem dX4_init_13 : decode cX4_init 13 = .ok (.iconst 0, 1) := by decide +kernel
theorem dX4_init_14 : decode cX4_init 14 = .ok (.putfield 15, 3) := by decide +kernel
theorem dX4_init_17 : decode cX4_init 17 = .ok (.return_, 1) := by decide +kernel
theorem dX4_size_0 : decode cX4_size 0 = .ok (.aload_n 0, 1) := by decide +kernel
theorem dX4_size_1 : decode cX4_size 1 = .ok (.getfield 15, 3) := by decide +kernel
theorem dX4_size_4 : decode cX4_size 4 = .ok (.ireturn, 1) := by decide +kernel
theorem dX4_at_0 : decode cX4_at 0 = .ok (.iload_n 1, 1) := by decide +kernel
theorem dX4_at_1 : decode cX4_at 1 = .ok (.ifCond .lt 20, 3) := by decide +kernel
theorem dX4_at_4 : decode cX4_at 4 = .ok (.iload_n 1, 1) := by decide +kernel
theorem dX4_at_5 : decode cX4_at 5 = .ok (.aload_n 0, 1) := by decide +kernel
theorem dX4_at_6 : decode cX4_at 6 = .ok (.getfield 15, 3) := by decide +kernel
theorem dX4_at_9 : decode cX4_at 9 = .ok (.if_icmp .ge 12, 3) := by decide +kernel
theorem dX4_at_12 : decode cX4_at 12 = .ok (.aload_n 0, 1) := by decide +kernel
theorem dX4_at_13 : decode cX4_at 13 = .ok (.getfield 11, 3) := by decide +kernel
theorem dX4_at_16 : decode cX4_at 16 = .ok (.iload_n 1, 1) := by decide +kernel
theorem dX4_at_17 : decode cX4_at 17 = .ok (.iaload, 1) := by decide +kernel
theorem dX4_at_18 : decode cX4_at 18 = .ok (.goto 4, 3) := by decide +kernel
theorem dX4_at_21 : decode cX4_at 21 = .ok (.iconst (-1), 1) := by decide +kernel
theorem dX4_at_22 : decode cX4_at 22 = .ok (.ireturn, 1) := by decide +kernel
theorem dX4_put_0 : decode cX4_put 0 = .ok (.iload_n 1, 1) := by decide +kernel
theorem dX4_put_1 : decode cX4_put 1 = .ok (.ifCond .lt 18, 3) := by decide +kernel
theorem dX4_put_4 : decode cX4_put 4 = .ok (.iload_n 1, 1) := by decide +kernel
theorem dX4_put_5 : decode cX4_put 5 = .ok (.aload_n 0, 1) := by decide +kernel
theorem dX4_put_6 : decode cX4_put 6 = .ok (.getfield 15, 3) := by decide +kernel
theorem dX4_put_9 : decode cX4_put 9 = .ok (.if_icmp .ge 10, 3) := by decide +kernel
theorem dX4_put_12 : decode cX4_put 12 = .ok (.aload_n 0, 1) := by decide +kernel
theorem dX4_put_13 : decode cX4_put 13 = .ok (.getfield 11, 3) := by decide +kernel
theorem dX4_put_16 : decode cX4_put 16 = .ok (.iload_n 1, 1) := by decide +kernel
theorem dX4_put_17 : decode cX4_put 17 = .ok (.iload_n 2, 1) := by decide +kernel
theorem dX4_put_18 : decode cX4_put 18 = .ok (.iastore, 1) := by decide +kernel
theorem dX4_put_19 : decode cX4_put 19 = .ok (.return_, 1) := by decide +kernel
theorem dX4_push_0 : decode cX4_push 0 = .ok (.aload_n 0, 1) := by decide +kernel
theorem dX4_push_1 : decode cX4_push 1 = .ok (.getfield 15, 3) := by decide +kernel
theorem dX4_push_4 : decode cX4_push 4 = .ok (.ldc 19, 2) := by decide +kernel
theorem dX4_push_6 : decode cX4_push 6 = .ok (.if_icmp .lt 4, 3) := by decide +kernel
theorem dX4_push_9 : decode cX4_push 9 = .ok (.return_, 1) := by decide +kernel
theorem dX4_push_10 : decode cX4_push 10 = .ok (.aload_n 0, 1) := by decide +kernel
theorem dX4_push_11 : decode cX4_push 11 = .ok (.getfield 15, 3) := by decide +kernel
theorem dX4_push_14 : decode cX4_push 14 = .ok (.aload_n 0, 1) := by decide +kernel
theorem dX4_push_15 : decode cX4_push 15 = .ok (.getfield 11, 3) := by decide +kernel
theorem dX4_push_18 : decode cX4_push 18 = .ok (.arraylength, 1) := by decide +kernel
theorem dX4_push_19 : decode cX4_push 19 = .ok (.if_icmp .lt 20, 3) := by decide +kernel
theorem dX4_push_22 : decode cX4_push 22 = .ok (.aload_n 0, 1) := by decide +kernel
theorem dX4_push_23 : decode cX4_push 23 = .ok (.aload_n 0, 1) := by decide +kernel
theorem dX4_push_24 : decode cX4_push 24 = .ok (.getfield 11, 3) := by decide +kernel
theorem dX4_push_27 : decode cX4_push 27 = .ok (.iconst 2, 1) := by decide +kernel
theorem dX4_push_28 : decode cX4_push 28 = .ok (.aload_n 0, 1) := by decide +kernel
theorem dX4_push_29 : decode cX4_push 29 = .ok (.getfield 15, 3) := by decide +kernel
theorem dX4_push_32 : decode cX4_push 32 = .ok (.imul, 1) := by decide +kernel
theorem dX4_push_33 : decode cX4_push 33 = .ok (.invokestatic 20, 3) := by decide +kernel
theorem dX4_push_36 : decode cX4_push 36 = .ok (.putfield 11, 3) := by decide +kernel
theorem dX4_push_39 : decode cX4_push 39 = .ok (.aload_n 0, 1) := by decide +kernel
theorem dX4_push_40 : decode cX4_push 40 = .ok (.getfield 11, 3) := by decide +kernel
theorem dX4_push_43 : decode cX4_push 43 = .ok (.aload_n 0, 1) := by decide +kernel
theorem dX4_push_44 : decode cX4_push 44 = .ok (.getfield 15, 3) := by decide +kernel
theorem dX4_push_47 : decode cX4_push 47 = .ok (.iload_n 1, 1) := by decide +kernel
theorem dX4_push_48 : decode cX4_push 48 = .ok (.iastore, 1) := by decide +kernel
theorem dX4_push_49 : decode cX4_push 49 = .ok (.aload_n 0, 1) := by decide +kernel
theorem dX4_push_50 : decode cX4_push 50 = .ok (.dup, 1) := by decide +kernel
theorem dX4_push_51 : decode cX4_push 51 = .ok (.getfield 15, 3) := by decide +kernel
theorem dX4_push_54 : decode cX4_push 54 = .ok (.iconst 1, 1) := by decide +kernel
theorem dX4_push_55 : decode cX4_push 55 = .ok (.iadd, 1) := by decide +kernel
theorem dX4_push_56 : decode cX4_push 56 = .ok (.putfield 15, 3) := by decide +kernel
theorem dX4_push_59 : decode cX4_push 59 = .ok (.return_, 1) := by decide +kernel
theorem dX4_cut_0 : decode cX4_cut 0 = .ok (.iload_n 1, 1) := by decide +kernel
theorem dX4_cut_1 : decode cX4_cut 1 = .ok (.ifCond .lt 16, 3) := by decide +kernel
theorem dX4_cut_4 : decode cX4_cut 4 = .ok (.iload_n 1, 1) := by decide +kernel
theorem dX4_cut_5 : decode cX4_cut 5 = .ok (.aload_n 0, 1) := by decide +kernel
theorem dX4_cut_6 : decode cX4_cut 6 = .ok (.getfield 15, 3) := by decide +kernel
theorem dX4_cut_9 : decode cX4_cut 9 = .ok (.if_icmp .ge 8, 3) := by decide +kernel
theorem dX4_cut_12 : decode cX4_cut 12 = .ok (.aload_n 0, 1) := by decide +kernel
theorem dX4_cut_13 : decode cX4_cut 13 = .ok (.iload_n 1, 1) := by decide +kernel
theorem dX4_cut_14 : decode cX4_cut 14 = .ok (.putfield 15, 3) := by decide +kernel
theorem dX4_cut_17 : decode cX4_cut 17 = .ok (.return_, 1) := by decide +kernel
theorem dX4_turn_0 : decode cX4_turn 0 = .ok (.aload_n 0, 1) := by decide +kernel
theorem dX4_turn_1 : decode cX4_turn 1 = .ok (.iload_n 1, 1) := by decide +kernel
theorem dX4_turn_2 : decode cX4_turn 2 = .ok (.iload_n 2, 1) := by decide +kernel
theorem dX4_turn_3 : decode cX4_turn 3 = .ok (.invokevirtual 26, 3) := by decide +kernel
theorem dX4_turn_6 : decode cX4_turn 6 = .ok (.aload_n 0, 1) := by decide +kernel
theorem dX4_turn_7 : decode cX4_turn 7 = .ok (.iload_n 2, 1) := by decide +kernel
theorem dX4_turn_8 : decode cX4_turn 8 = .ok (.iload_n 3, 1) := by decide +kernel
theorem dX4_turn_9 : decode cX4_turn 9 = .ok (.invokevirtual 26, 3) := by decide +kernel
theorem dX4_turn_12 : decode cX4_turn 12 = .ok (.aload_n 0, 1) := by decide +kernel
theorem dX4_turn_13 : decode cX4_turn 13 = .ok (.iload_n 1, 1) := by decide +kernel
theorem dX4_turn_14 : decode cX4_turn 14 = .ok (.iload_n 3, 1) := by decide +kernel
theorem dX4_turn_15 : decode cX4_turn 15 = .ok (.invokevirtual 26, 3) := by decide +kernel
theorem dX4_turn_18 : decode cX4_turn 18 = .ok (.return_, 1) := by decide +kernel
theorem dX4_reverse_0 : decode cX4_reverse 0 = .ok (.iload_n 2, 1) := by decide +kernel
theorem dX4_reverse_1 : decode cX4_reverse 1 = .ok (.iconst 1, 1) := by decide +kernel
theorem dX4_reverse_2 : decode cX4_reverse 2 = .ok (.isub, 1) := by decide +kernel
theorem dX4_reverse_3 : decode cX4_reverse 3 = .ok (.istore_n 3, 1) := by decide +kernel
theorem dX4_reverse_4 : decode cX4_reverse 4 = .ok (.iload_n 1, 1) := by decide +kernel
theorem dX4_reverse_5 : decode cX4_reverse 5 = .ok (.istore 4, 2) := by decide +kernel
theorem dX4_reverse_7 : decode cX4_reverse 7 = .ok (.iload 4, 2) := by decide +kernel
theorem dX4_reverse_9 : decode cX4_reverse 9 = .ok (.iload_n 3, 1) := by decide +kernel
theorem dX4_reverse_10 : decode cX4_reverse 10 = .ok (.if_icmp .ge 38, 3) := by decide +kernel
theorem dX4_reverse_13 : decode cX4_reverse 13 = .ok (.aload_n 0, 1) := by decide +kernel
theorem dX4_reverse_14 : decode cX4_reverse 14 = .ok (.iload 4, 2) := by decide +kernel
theorem dX4_reverse_16 : decode cX4_reverse 16 = .ok (.invokevirtual 30, 3) := by decide +kernel
theorem dX4_reverse_19 : decode cX4_reverse 19 = .ok (.istore 5, 2) := by decide +kernel
theorem dX4_reverse_21 : decode cX4_reverse 21 = .ok (.aload_n 0, 1) := by decide +kernel
theorem dX4_reverse_22 : decode cX4_reverse 22 = .ok (.iload 4, 2) := by decide +kernel
theorem dX4_reverse_24 : decode cX4_reverse 24 = .ok (.aload_n 0, 1) := by decide +kernel
theorem dX4_reverse_25 : decode cX4_reverse 25 = .ok (.iload_n 3, 1) := by decide +kernel
theorem dX4_reverse_26 : decode cX4_reverse 26 = .ok (.invokevirtual 30, 3) := by decide +kernel
theorem dX4_reverse_29 : decode cX4_reverse 29 = .ok (.invokevirtual 34, 3) := by decide +kernel
theorem dX4_reverse_32 : decode cX4_reverse 32 = .ok (.aload_n 0, 1) := by decide +kernel
theorem dX4_reverse_33 : decode cX4_reverse 33 = .ok (.iload_n 3, 1) := by decide +kernel
theorem dX4_reverse_34 : decode cX4_reverse 34 = .ok (.iload 5, 2) := by decide +kernel
theorem dX4_reverse_36 : decode cX4_reverse 36 = .ok (.invokevirtual 34, 3) := by decide +kernel
theorem dX4_reverse_39 : decode cX4_reverse 39 = .ok (.iinc 3 (-1), 3) := by decide +kernel
theorem dX4_reverse_42 : decode cX4_reverse 42 = .ok (.iinc 4 1, 3) := by decide +kernel
theorem dX4_reverse_45 : decode cX4_reverse 45 = .ok (.goto (-38), 3) := by decide +kernel
theorem dX4_reverse_48 : decode cX4_reverse 48 = .ok (.return_, 1) := by decide +kernel
theorem dX5_init_0 : decode cX5_init 0 = .ok (.aload_n 0, 1) := by decide +kernel
theorem dX5_init_1 : decode cX5_init 1 = .ok (.invokespecial 3, 3) := by decide +kernel
theorem dX5_init_4 : decode cX5_init 4 = .ok (.aload_n 0, 1) := by decide +kernel
theorem dX5_init_5 : decode cX5_init 5 = .ok (.new 9, 3) := by decide +kernel
theorem dX5_init_8 : decode cX5_init 8 = .ok (.dup, 1) := by decide +kernel
theorem dX5_init_9 : decode cX5_init 9 = .ok (.invokespecial 11, 3) := by decide +kernel
theorem dX5_init_12 : decode cX5_init 12 = .ok (.putfield 12, 3) := by decide +kernel
theorem dX5_init_15 : decode cX5_init 15 = .ok (.aload_n 0, 1) := by decide +kernel
theorem dX5_init_16 : decode cX5_init 16 = .ok (.new 9, 3) := by decide +kernel
theorem dX5_init_19 : decode cX5_init 19 = .ok (.dup, 1) := by decide +kernel
theorem dX5_init_20 : decode cX5_init 20 = .ok (.invokespecial 11, 3) := by decide +kernel
theorem dX5_init_23 : decode cX5_init 23 = .ok (.putfield 18, 3) := by decide +kernel
theorem dX5_init_26 : decode cX5_init 26 = .ok (.aload_n 0, 1) := by decide +kernel
theorem dX5_init_27 : decode cX5_init 27 = .ok (.iconst 0, 1) := by decide +kernel
theorem dX5_init_28 : decode cX5_init 28 = .ok (.putfield 21, 3) := by decide +kernel
theorem dX5_init_31 : decode cX5_init 31 = .ok (.return_, 1) := by decide +kernel
theorem dX5_startAgain_0 : decode cX5_startAgain 0 = .ok (.aload_n 0, 1) := by decide +kernel
theorem dX5_startAgain_1 : decode cX5_startAgain 1 = .ok (.getfield 12, 3) := by decide +kernel
theorem dX5_startAgain_4 : decode cX5_startAgain 4 = .ok (.iconst 0, 1) := by decide +kernel
theorem dX5_startAgain_5 : decode cX5_startAgain 5 = .ok (.invokevirtual 25, 3) := by decide +kernel
theorem dX5_startAgain_8 : decode cX5_startAgain 8 = .ok (.aload_n 0, 1) := by decide +kernel
theorem dX5_startAgain_9 : decode cX5_startAgain 9 = .ok (.getfield 18, 3) := by decide +kernel
theorem dX5_startAgain_12 : decode cX5_startAgain 12 = .ok (.iconst 0, 1) := by decide +kernel
theorem dX5_startAgain_13 : decode cX5_startAgain 13 = .ok (.invokevirtual 25, 3) := by decide +kernel
theorem dX5_startAgain_16 : decode cX5_startAgain 16 = .ok (.aload_n 0, 1) := by decide +kernel
theorem dX5_startAgain_17 : decode cX5_startAgain 17 = .ok (.iconst 0, 1) := by decide +kernel
theorem dX5_startAgain_18 : decode cX5_startAgain 18 = .ok (.putfield 21, 3) := by decide +kernel
theorem dX5_startAgain_21 : decode cX5_startAgain 21 = .ok (.aload_n 0, 1) := by decide +kernel
theorem dX5_startAgain_22 : decode cX5_startAgain 22 = .ok (.iconst (-1), 1) := by decide +kernel
theorem dX5_startAgain_23 : decode cX5_startAgain 23 = .ok (.iconst 0, 1) := by decide +kernel
theorem dX5_startAgain_24 : decode cX5_startAgain 24 = .ok (.iconst 0, 1) := by decide +kernel
theorem dX5_startAgain_25 : decode cX5_startAgain 25 = .ok (.iconst 0, 1) := by decide +kernel
theorem dX5_startAgain_26 : decode cX5_startAgain 26 = .ok (.iconst 0, 1) := by decide +kernel
theorem dX5_startAgain_27 : decode cX5_startAgain 27 = .ok (.invokevirtual 29, 3) := by decide +kernel
theorem dX5_startAgain_30 : decode cX5_startAgain 30 = .ok (.pop, 1) := by decide +kernel
theorem dX5_startAgain_31 : decode cX5_startAgain 31 = .ok (.return_, 1) := by decide +kernel
theorem dX5_size_0 : decode cX5_size 0 = .ok (.aload_n 0, 1) := by decide +kernel
theorem dX5_size_1 : decode cX5_size 1 = .ok (.getfield 21, 3) := by decide +kernel
theorem dX5_size_4 : decode cX5_size 4 = .ok (.ireturn, 1) := by decide +kernel
theorem dX5_get_0 : decode cX5_get 0 = .ok (.aload_n 0, 1) := by decide +kernel
theorem dX5_get_1 : decode cX5_get 1 = .ok (.getfield 12, 3) := by decide +kernel
theorem dX5_get_4 : decode cX5_get 4 = .ok (.iload_n 1, 1) := by decide +kernel
theorem dX5_get_5 : decode cX5_get 5 = .ok (.bipush 7, 2) := by decide +kernel
theorem dX5_get_7 : decode cX5_get 7 = .ok (.imul, 1) := by decide +kernel
theorem dX5_get_8 : decode cX5_get 8 = .ok (.iload_n 2, 1) := by decide +kernel
theorem dX5_get_9 : decode cX5_get 9 = .ok (.iadd, 1) := by decide +kernel
theorem dX5_get_10 : decode cX5_get 10 = .ok (.invokevirtual 33, 3) := by decide +kernel
theorem dX5_get_13 : decode cX5_get 13 = .ok (.ireturn, 1) := by decide +kernel
theorem dX5_set_0 : decode cX5_set 0 = .ok (.aload_n 0, 1) := by decide +kernel
theorem dX5_set_1 : decode cX5_set 1 = .ok (.getfield 12, 3) := by decide +kernel
theorem dX5_set_4 : decode cX5_set 4 = .ok (.iload_n 1, 1) := by decide +kernel
theorem dX5_set_5 : decode cX5_set 5 = .ok (.bipush 7, 2) := by decide +kernel
theorem dX5_set_7 : decode cX5_set 7 = .ok (.imul, 1) := by decide +kernel
theorem dX5_set_8 : decode cX5_set 8 = .ok (.iload_n 2, 1) := by decide +kernel
theorem dX5_set_9 : decode cX5_set 9 = .ok (.iadd, 1) := by decide +kernel
theorem dX5_set_10 : decode cX5_set 10 = .ok (.iload_n 3, 1) := by decide +kernel
theorem dX5_set_11 : decode cX5_set 11 = .ok (.invokevirtual 37, 3) := by decide +kernel
theorem dX5_set_14 : decode cX5_set 14 = .ok (.return_, 1) := by decide +kernel
theorem dX5_is_0 : decode cX5_is 0 = .ok (.aload_n 0, 1) := by decide +kernel
theorem dX5_is_1 : decode cX5_is 1 = .ok (.getfield 12, 3) := by decide +kernel
theorem dX5_is_4 : decode cX5_is 4 = .ok (.iload_n 1, 1) := by decide +kernel
theorem dX5_is_5 : decode cX5_is 5 = .ok (.bipush 7, 2) := by decide +kernel
theorem dX5_is_7 : decode cX5_is 7 = .ok (.imul, 1) := by decide +kernel
theorem dX5_is_8 : decode cX5_is 8 = .ok (.iconst 0, 1) := by decide +kernel
theorem dX5_is_9 : decode cX5_is 9 = .ok (.iadd, 1) := by decide +kernel
theorem dX5_is_10 : decode cX5_is 10 = .ok (.invokevirtual 33, 3) := by decide +kernel
theorem dX5_is_13 : decode cX5_is 13 = .ok (.iload_n 2, 1) := by decide +kernel
theorem dX5_is_14 : decode cX5_is 14 = .ok (.if_icmp .ne 7, 3) := by decide +kernel
theorem dX5_is_17 : decode cX5_is 17 = .ok (.iconst 1, 1) := by decide +kernel
theorem dX5_is_18 : decode cX5_is 18 = .ok (.goto 4, 3) := by decide +kernel
theorem dX5_is_21 : decode cX5_is 21 = .ok (.iconst 0, 1) := by decide +kernel
theorem dX5_is_22 : decode cX5_is 22 = .ok (.ireturn, 1) := by decide +kernel
theorem dX5_add_0 : decode cX5_add 0 = .ok (.iload_n 1, 1) := by decide +kernel
theorem dX5_add_1 : decode cX5_add 1 = .ok (.iconst (-1), 1) := by decide +kernel
theorem dX5_add_2 : decode cX5_add 2 = .ok (.if_icmp .ne 7, 3) := by decide +kernel
theorem dX5_add_5 : decode cX5_add 5 = .ok (.iconst 1, 1) := by decide +kernel
theorem dX5_add_6 : decode cX5_add 6 = .ok (.goto 4, 3) := by decide +kernel
theorem dX5_add_9 : decode cX5_add 9 = .ok (.iconst 0, 1) := by decide +kernel
theorem dX5_add_10 : decode cX5_add 10 = .ok (.istore 6, 2) := by decide +kernel
theorem dX5_add_12 : decode cX5_add 12 = .ok (.aload_n 0, 1) := by decide +kernel
theorem dX5_add_13 : decode cX5_add 13 = .ok (.getfield 12, 3) := by decide +kernel
theorem dX5_add_16 : decode cX5_add 16 = .ok (.iload_n 2, 1) := by decide +kernel
theorem dX5_add_17 : decode cX5_add 17 = .ok (.invokevirtual 41, 3) := by decide +kernel
theorem dX5_add_20 : decode cX5_add 20 = .ok (.aload_n 0, 1) := by decide +kernel
theorem dX5_add_21 : decode cX5_add 21 = .ok (.getfield 12, 3) := by decide +kernel
theorem dX5_add_24 : decode cX5_add 24 = .ok (.iload 6, 2) := by decide +kernel
theorem dX5_add_26 : decode cX5_add 26 = .ok (.ifCond .eq 7, 3) := by decide +kernel
theorem dX5_add_29 : decode cX5_add 29 = .ok (.iconst 0, 1) := by decide +kernel
theorem dX5_add_30 : decode cX5_add 30 = .ok (.goto 11, 3) := by decide +kernel
theorem dX5_add_33 : decode cX5_add 33 = .ok (.aload_n 0, 1) := by decide +kernel
theorem dX5_add_34 : decode cX5_add 34 = .ok (.iload_n 1, 1) := by decide +kernel
theorem dX5_add_35 : decode cX5_add 35 = .ok (.iconst 1, 1) := by decide +kernel
theorem dX5_add_36 : decode cX5_add 36 = .ok (.invokevirtual 44, 3) := by decide +kernel
theorem dX5_add_39 : decode cX5_add 39 = .ok (.iconst 1, 1) := by decide +kernel
theorem dX5_add_40 : decode cX5_add 40 = .ok (.iadd, 1) := by decide +kernel
theorem dX5_add_41 : decode cX5_add 41 = .ok (.invokevirtual 41, 3) := by decide +kernel
theorem dX5_add_44 : decode cX5_add 44 = .ok (.aload_n 0, 1) := by decide +kernel
theorem dX5_add_45 : decode cX5_add 45 = .ok (.getfield 12, 3) := by decide +kernel
theorem dX5_add_48 : decode cX5_add 48 = .ok (.iload 6, 2) := by decide +kernel
theorem dX5_add_50 : decode cX5_add 50 = .ok (.ifCond .eq 7, 3) := by decide +kernel
theorem dX5_add_53 : decode cX5_add 53 = .ok (.iconst 0, 1) := by decide +kernel
theorem dX5_add_54 : decode cX5_add 54 = .ok (.goto 24, 3) := by decide +kernel
theorem dX5_add_57 : decode cX5_add 57 = .ok (.aload_n 0, 1) := by decide +kernel
theorem dX5_add_58 : decode cX5_add 58 = .ok (.iload_n 1, 1) := by decide +kernel
theorem dX5_add_59 : decode cX5_add 59 = .ok (.iconst 2, 1) := by decide +kernel
theorem dX5_add_60 : decode cX5_add 60 = .ok (.invokevirtual 44, 3) := by decide +kernel
theorem dX5_add_63 : decode cX5_add 63 = .ok (.aload_n 0, 1) := by decide +kernel
theorem dX5_add_64 : decode cX5_add 64 = .ok (.iload_n 1, 1) := by decide +kernel
theorem dX5_add_65 : decode cX5_add 65 = .ok (.iconst 0, 1) := by decide +kernel
theorem dX5_add_66 : decode cX5_add 66 = .ok (.invokevirtual 48, 3) := by decide +kernel
theorem dX5_add_69 : decode cX5_add 69 = .ok (.ifCond .eq 7, 3) := by decide +kernel
theorem dX5_add_72 : decode cX5_add 72 = .ok (.iconst 1, 1) := by decide +kernel
theorem dX5_add_73 : decode cX5_add 73 = .ok (.goto 4, 3) := by decide +kernel
theorem dX5_add_76 : decode cX5_add 76 = .ok (.iconst 0, 1) := by decide +kernel
theorem dX5_add_77 : decode cX5_add 77 = .ok (.iadd, 1) := by decide +kernel
theorem dX5_add_78 : decode cX5_add 78 = .ok (.invokevirtual 41, 3) := by decide +kernel
theorem dX5_add_81 : decode cX5_add 81 = .ok (.aload_n 0, 1) := by decide +kernel
theorem dX5_add_82 : decode cX5_add 82 = .ok (.getfield 12, 3) := by decide +kernel
theorem dX5_add_85 : decode cX5_add 85 = .ok (.iload_n 3, 1) := by decide +kernel
theorem dX5_add_86 : decode cX5_add 86 = .ok (.invokevirtual 41, 3) := by decide +kernel
theorem dX5_add_89 : decode cX5_add 89 = .ok (.aload_n 0, 1) := by decide +kernel
theorem dX5_add_90 : decode cX5_add 90 = .ok (.getfield 12, 3) := by decide +kernel
theorem dX5_add_93 : decode cX5_add 93 = .ok (.iload 4, 2) := by decide +kernel
theorem dX5_add_95 : decode cX5_add 95 = .ok (.invokevirtual 41, 3) := by decide +kernel
theorem dX5_add_98 : decode cX5_add 98 = .ok (.aload_n 0, 1) := by decide +kernel
theorem dX5_add_99 : decode cX5_add 99 = .ok (.getfield 12, 3) := by decide +kernel
theorem dX5_add_102 : decode cX5_add 102 = .ok (.iload 5, 2) := by decide +kernel
theorem dX5_add_104 : decode cX5_add 104 = .ok (.invokevirtual 41, 3) := by decide +kernel
theorem dX5_add_107 : decode cX5_add 107 = .ok (.aload_n 0, 1) := by decide +kernel
theorem dX5_add_108 : decode cX5_add 108 = .ok (.getfield 12, 3) := by decide +kernel
theorem dX5_add_111 : decode cX5_add 111 = .ok (.aload_n 0, 1) := by decide +kernel
theorem dX5_add_112 : decode cX5_add 112 = .ok (.getfield 18, 3) := by decide +kernel
theorem dX5_add_115 : decode cX5_add 115 = .ok (.invokevirtual 52, 3) := by decide +kernel
theorem dX5_add_118 : decode cX5_add 118 = .ok (.invokevirtual 41, 3) := by decide +kernel
theorem dX5_add_121 : decode cX5_add 121 = .ok (.aload_n 0, 1) := by decide +kernel
theorem dX5_add_122 : decode cX5_add 122 = .ok (.dup, 1) := by decide +kernel
theorem dX5_add_123 : decode cX5_add 123 = .ok (.getfield 21, 3) := by decide +kernel
theorem dX5_add_126 : decode cX5_add 126 = .ok (.iconst 1, 1) := by decide +kernel
theorem dX5_add_127 : decode cX5_add 127 = .ok (.iadd, 1) := by decide +kernel
theorem dX5_add_128 : decode cX5_add 128 = .ok (.putfield 21, 3) := by decide +kernel
theorem dX5_add_131 : decode cX5_add 131 = .ok (.aload_n 0, 1) := by decide +kernel
theorem dX5_add_132 : decode cX5_add 132 = .ok (.getfield 21, 3) := by decide +kernel
theorem dX5_add_135 : decode cX5_add 135 = .ok (.iconst 1, 1) := by decide +kernel
theorem dX5_add_136 : decode cX5_add 136 = .ok (.isub, 1) := by decide +kernel
theorem dX5_add_137 : decode cX5_add 137 = .ok (.ireturn, 1) := by decide +kernel
theorem dX5_spell_0 : decode cX5_spell 0 = .ok (.aload_n 0, 1) := by decide +kernel
theorem dX5_spell_1 : decode cX5_spell 1 = .ok (.iload_n 1, 1) := by decide +kernel
theorem dX5_spell_2 : decode cX5_spell 2 = .ok (.bipush 6, 2) := by decide +kernel
theorem dX5_spell_4 : decode cX5_spell 4 = .ok (.aload_n 0, 1) := by decide +kernel
theorem dX5_spell_5 : decode cX5_spell 5 = .ok (.getfield 18, 3) := by decide +kernel
theorem dX5_spell_8 : decode cX5_spell 8 = .ok (.invokevirtual 52, 3) := by decide +kernel
theorem dX5_spell_11 : decode cX5_spell 11 = .ok (.invokevirtual 56, 3) := by decide +kernel
theorem dX5_spell_14 : decode cX5_spell 14 = .ok (.iload_n 3, 1) := by decide +kernel
theorem dX5_spell_15 : decode cX5_spell 15 = .ok (.istore 5, 2) := by decide +kernel
theorem dX5_spell_17 : decode cX5_spell 17 = .ok (.iload 5, 2) := by decide +kernel
theorem dX5_spell_19 : decode cX5_spell 19 = .ok (.iload 4, 2) := by decide +kernel
theorem dX5_spell_21 : decode cX5_spell 21 = .ok (.if_icmp .ge 22, 3) := by decide +kernel
theorem dX5_spell_24 : decode cX5_spell 24 = .ok (.aload_n 0, 1) := by decide +kernel
theorem dX5_spell_25 : decode cX5_spell 25 = .ok (.getfield 18, 3) := by decide +kernel
theorem dX5_spell_28 : decode cX5_spell 28 = .ok (.aload_n 2, 1) := by decide +kernel
theorem dX5_spell_29 : decode cX5_spell 29 = .ok (.iload 5, 2) := by decide +kernel
theorem dX5_spell_31 : decode cX5_spell 31 = .ok (.invokevirtual 33, 3) := by decide +kernel
theorem dX5_spell_34 : decode cX5_spell 34 = .ok (.invokevirtual 41, 3) := by decide +kernel
theorem dX5_spell_37 : decode cX5_spell 37 = .ok (.iinc 5 1, 3) := by decide +kernel
theorem dX5_spell_40 : decode cX5_spell 40 = .ok (.goto (-23), 3) := by decide +kernel
theorem dX5_spell_43 : decode cX5_spell 43 = .ok (.iload 4, 2) := by decide +kernel
theorem dX5_spell_45 : decode cX5_spell 45 = .ok (.iload_n 3, 1) := by decide +kernel
theorem dX5_spell_46 : decode cX5_spell 46 = .ok (.isub, 1) := by decide +kernel
theorem dX5_spell_47 : decode cX5_spell 47 = .ok (.istore 5, 2) := by decide +kernel
theorem dX5_spell_49 : decode cX5_spell 49 = .ok (.iload 5, 2) := by decide +kernel
theorem dX5_spell_51 : decode cX5_spell 51 = .ok (.bipush 8, 2) := by decide +kernel
theorem dX5_spell_53 : decode cX5_spell 53 = .ok (.if_icmp .ge 17, 3) := by decide +kernel
theorem dX5_spell_56 : decode cX5_spell 56 = .ok (.aload_n 0, 1) := by decide +kernel
theorem dX5_spell_57 : decode cX5_spell 57 = .ok (.getfield 18, 3) := by decide +kernel
theorem dX5_spell_60 : decode cX5_spell 60 = .ok (.iconst 0, 1) := by decide +kernel
theorem dX5_spell_61 : decode cX5_spell 61 = .ok (.invokevirtual 41, 3) := by decide +kernel
theorem dX5_spell_64 : decode cX5_spell 64 = .ok (.iinc 5 1, 3) := by decide +kernel
theorem dX5_spell_67 : decode cX5_spell 67 = .ok (.goto (-18), 3) := by decide +kernel
theorem dX5_spell_70 : decode cX5_spell 70 = .ok (.aload_n 0, 1) := by decide +kernel
theorem dX5_spell_71 : decode cX5_spell 71 = .ok (.iload_n 1, 1) := by decide +kernel
theorem dX5_spell_72 : decode cX5_spell 72 = .ok (.iconst 5, 1) := by decide +kernel
theorem dX5_spell_73 : decode cX5_spell 73 = .ok (.iload 4, 2) := by decide +kernel
theorem dX5_spell_75 : decode cX5_spell 75 = .ok (.iload_n 3, 1) := by decide +kernel
theorem dX5_spell_76 : decode cX5_spell 76 = .ok (.isub, 1) := by decide +kernel
theorem dX5_spell_77 : decode cX5_spell 77 = .ok (.invokevirtual 56, 3) := by decide +kernel
theorem dX5_spell_80 : decode cX5_spell 80 = .ok (.return_, 1) := by decide +kernel
theorem dX5_respell_0 : decode cX5_respell 0 = .ok (.aload_n 0, 1) := by decide +kernel
theorem dX5_respell_1 : decode cX5_respell 1 = .ok (.iload_n 1, 1) := by decide +kernel
theorem dX5_respell_2 : decode cX5_respell 2 = .ok (.bipush 6, 2) := by decide +kernel
theorem dX5_respell_4 : decode cX5_respell 4 = .ok (.invokevirtual 44, 3) := by decide +kernel
theorem dX5_respell_7 : decode cX5_respell 7 = .ok (.istore_n 3, 1) := by decide +kernel
theorem dX5_respell_8 : decode cX5_respell 8 = .ok (.iconst 0, 1) := by decide +kernel
theorem dX5_respell_9 : decode cX5_respell 9 = .ok (.istore 4, 2) := by decide +kernel
theorem dX5_respell_11 : decode cX5_respell 11 = .ok (.iload 4, 2) := by decide +kernel
theorem dX5_respell_13 : decode cX5_respell 13 = .ok (.aload_n 2, 1) := by decide +kernel
theorem dX5_respell_14 : decode cX5_respell 14 = .ok (.invokevirtual 52, 3) := by decide +kernel
theorem dX5_respell_17 : decode cX5_respell 17 = .ok (.if_icmp .ge 26, 3) := by decide +kernel
theorem dX5_respell_20 : decode cX5_respell 20 = .ok (.aload_n 0, 1) := by decide +kernel
theorem dX5_respell_21 : decode cX5_respell 21 = .ok (.getfield 18, 3) := by decide +kernel
theorem dX5_respell_24 : decode cX5_respell 24 = .ok (.iload_n 3, 1) := by decide +kernel
theorem dX5_respell_25 : decode cX5_respell 25 = .ok (.iload 4, 2) := by decide +kernel
theorem dX5_respell_27 : decode cX5_respell 27 = .ok (.iadd, 1) := by decide +kernel
theorem dX5_respell_28 : decode cX5_respell 28 = .ok (.aload_n 2, 1) := by decide +kernel
theorem dX5_respell_29 : decode cX5_respell 29 = .ok (.iload 4, 2) := by decide +kernel
theorem dX5_respell_31 : decode cX5_respell 31 = .ok (.invokevirtual 33, 3) := by decide +kernel
theorem dX5_respell_34 : decode cX5_respell 34 = .ok (.invokevirtual 37, 3) := by decide +kernel
theorem dX5_respell_37 : decode cX5_respell 37 = .ok (.iinc 4 1, 3) := by decide +kernel
theorem dX5_respell_40 : decode cX5_respell 40 = .ok (.goto (-29), 3) := by decide +kernel
theorem dX5_respell_43 : decode cX5_respell 43 = .ok (.aload_n 0, 1) := by decide +kernel
theorem dX5_respell_44 : decode cX5_respell 44 = .ok (.iload_n 1, 1) := by decide +kernel
theorem dX5_respell_45 : decode cX5_respell 45 = .ok (.iconst 5, 1) := by decide +kernel
theorem dX5_respell_46 : decode cX5_respell 46 = .ok (.aload_n 2, 1) := by decide +kernel
theorem dX5_respell_47 : decode cX5_respell 47 = .ok (.invokevirtual 52, 3) := by decide +kernel
theorem dX5_respell_50 : decode cX5_respell 50 = .ok (.invokevirtual 56, 3) := by decide +kernel
theorem dX5_respell_53 : decode cX5_respell 53 = .ok (.return_, 1) := by decide +kernel
theorem dX5_letterOf_0 : decode cX5_letterOf 0 = .ok (.iload_n 2, 1) := by decide +kernel
theorem dX5_letterOf_1 : decode cX5_letterOf 1 = .ok (.ifCond .lt 24, 3) := by decide +kernel
theorem dX5_letterOf_4 : decode cX5_letterOf 4 = .ok (.iload_n 2, 1) := by decide +kernel
theorem dX5_letterOf_5 : decode cX5_letterOf 5 = .ok (.aload_n 0, 1) := by decide +kernel
theorem dX5_letterOf_6 : decode cX5_letterOf 6 = .ok (.getfield 12, 3) := by decide +kernel
theorem dX5_letterOf_9 : decode cX5_letterOf 9 = .ok (.iload_n 1, 1) := by decide +kernel
theorem dX5_letterOf_10 : decode cX5_letterOf 10 = .ok (.bipush 7, 2) := by decide +kernel
theorem dX5_letterOf_12 : decode cX5_letterOf 12 = .ok (.imul, 1) := by decide +kernel
theorem dX5_letterOf_13 : decode cX5_letterOf 13 = .ok (.iconst 5, 1) := by decide +kernel
theorem dX5_letterOf_14 : decode cX5_letterOf 14 = .ok (.iadd, 1) := by decide +kernel
theorem dX5_letterOf_15 : decode cX5_letterOf 15 = .ok (.invokevirtual 33, 3) := by decide +kernel
theorem dX5_letterOf_18 : decode cX5_letterOf 18 = .ok (.if_icmp .ge 7, 3) := by decide +kernel
theorem dX5_letterOf_21 : decode cX5_letterOf 21 = .ok (.iconst 1, 1) := by decide +kernel
theorem dX5_letterOf_22 : decode cX5_letterOf 22 = .ok (.goto 4, 3) := by decide +kernel
theorem dX5_letterOf_25 : decode cX5_letterOf 25 = .ok (.iconst 0, 1) := by decide +kernel
theorem dX5_letterOf_26 : decode cX5_letterOf 26 = .ok (.istore_n 3, 1) := by decide +kernel
theorem dX5_letterOf_27 : decode cX5_letterOf 27 = .ok (.iload_n 3, 1) := by decide +kernel
theorem dX5_letterOf_28 : decode cX5_letterOf 28 = .ok (.ifCond .eq 29, 3) := by decide +kernel
theorem dX5_letterOf_31 : decode cX5_letterOf 31 = .ok (.aload_n 0, 1) := by decide +kernel
theorem dX5_letterOf_32 : decode cX5_letterOf 32 = .ok (.getfield 18, 3) := by decide +kernel
theorem dX5_letterOf_35 : decode cX5_letterOf 35 = .ok (.aload_n 0, 1) := by decide +kernel
theorem dX5_letterOf_36 : decode cX5_letterOf 36 = .ok (.getfield 12, 3) := by decide +kernel
theorem dX5_letterOf_39 : decode cX5_letterOf 39 = .ok (.iload_n 1, 1) := by decide +kernel
theorem dX5_letterOf_40 : decode cX5_letterOf 40 = .ok (.bipush 7, 2) := by decide +kernel
theorem dX5_letterOf_42 : decode cX5_letterOf 42 = .ok (.imul, 1) := by decide +kernel
theorem dX5_letterOf_43 : decode cX5_letterOf 43 = .ok (.bipush 6, 2) := by decide +kernel
theorem dX5_letterOf_45 : decode cX5_letterOf 45 = .ok (.iadd, 1) := by decide +kernel
theorem dX5_letterOf_46 : decode cX5_letterOf 46 = .ok (.invokevirtual 33, 3) := by decide +kernel
theorem dX5_letterOf_49 : decode cX5_letterOf 49 = .ok (.iload_n 2, 1) := by decide +kernel
theorem dX5_letterOf_50 : decode cX5_letterOf 50 = .ok (.iadd, 1) := by decide +kernel
theorem dX5_letterOf_51 : decode cX5_letterOf 51 = .ok (.invokevirtual 33, 3) := by decide +kernel
theorem dX5_letterOf_54 : decode cX5_letterOf 54 = .ok (.goto 4, 3) := by decide +kernel
theorem dX5_letterOf_57 : decode cX5_letterOf 57 = .ok (.iconst (-1), 1) := by decide +kernel
theorem dX5_letterOf_58 : decode cX5_letterOf 58 = .ok (.ireturn, 1) := by decide +kernel
theorem dX5_holder_0 : decode cX5_holder 0 = .ok (.aload_n 0, 1) := by decide +kernel
theorem dX5_holder_1 : decode cX5_holder 1 = .ok (.iload_n 1, 1) := by decide +kernel
theorem dX5_holder_2 : decode cX5_holder 2 = .ok (.iconst 1, 1) := by decide +kernel
theorem dX5_holder_3 : decode cX5_holder 3 = .ok (.invokevirtual 44, 3) := by decide +kernel
theorem dX5_holder_6 : decode cX5_holder 6 = .ok (.istore_n 2, 1) := by decide +kernel
theorem dX5_holder_7 : decode cX5_holder 7 = .ok (.iload_n 1, 1) := by decide +kernel
theorem dX5_holder_8 : decode cX5_holder 8 = .ok (.iconst 1, 1) := by decide +kernel
theorem dX5_holder_9 : decode cX5_holder 9 = .ok (.isub, 1) := by decide +kernel
theorem dX5_holder_10 : decode cX5_holder 10 = .ok (.istore_n 3, 1) := by decide +kernel
theorem dX5_holder_11 : decode cX5_holder 11 = .ok (.iload_n 3, 1) := by decide +kernel
theorem dX5_holder_12 : decode cX5_holder 12 = .ok (.ifCond .lt 21, 3) := by decide +kernel
theorem dX5_holder_15 : decode cX5_holder 15 = .ok (.aload_n 0, 1) := by decide +kernel
theorem dX5_holder_16 : decode cX5_holder 16 = .ok (.iload_n 3, 1) := by decide +kernel
theorem dX5_holder_17 : decode cX5_holder 17 = .ok (.iconst 1, 1) := by decide +kernel
theorem dX5_holder_18 : decode cX5_holder 18 = .ok (.invokevirtual 44, 3) := by decide +kernel
theorem dX5_holder_21 : decode cX5_holder 21 = .ok (.iload_n 2, 1) := by decide +kernel
theorem dX5_holder_22 : decode cX5_holder 22 = .ok (.if_icmp .ge 5, 3) := by decide +kernel
theorem dX5_holder_25 : decode cX5_holder 25 = .ok (.iload_n 3, 1) := by decide +kernel
theorem dX5_holder_26 : decode cX5_holder 26 = .ok (.ireturn, 1) := by decide +kernel
theorem dX5_holder_27 : decode cX5_holder 27 = .ok (.iinc 3 (-1), 3) := by decide +kernel
theorem dX5_holder_30 : decode cX5_holder 30 = .ok (.goto (-19), 3) := by decide +kernel
theorem dX5_holder_33 : decode cX5_holder 33 = .ok (.iconst (-1), 1) := by decide +kernel
theorem dX5_holder_34 : decode cX5_holder 34 = .ok (.ireturn, 1) := by decide +kernel
theorem dX5_after_0 : decode cX5_after 0 = .ok (.aload_n 0, 1) := by decide +kernel
theorem dX5_after_1 : decode cX5_after 1 = .ok (.getfield 12, 3) := by decide +kernel
theorem dX5_after_4 : decode cX5_after 4 = .ok (.iload_n 1, 1) := by decide +kernel
theorem dX5_after_5 : decode cX5_after 5 = .ok (.bipush 7, 2) := by decide +kernel
theorem dX5_after_7 : decode cX5_after 7 = .ok (.imul, 1) := by decide +kernel
theorem dX5_after_8 : decode cX5_after 8 = .ok (.iconst 1, 1) := by decide +kernel
theorem dX5_after_9 : decode cX5_after 9 = .ok (.iadd, 1) := by decide +kernel
theorem dX5_after_10 : decode cX5_after 10 = .ok (.invokevirtual 33, 3) := by decide +kernel
theorem dX5_after_13 : decode cX5_after 13 = .ok (.istore_n 2, 1) := by decide +kernel
theorem dX5_after_14 : decode cX5_after 14 = .ok (.iload_n 1, 1) := by decide +kernel
theorem dX5_after_15 : decode cX5_after 15 = .ok (.iconst 1, 1) := by decide +kernel
theorem dX5_after_16 : decode cX5_after 16 = .ok (.iadd, 1) := by decide +kernel
theorem dX5_after_17 : decode cX5_after 17 = .ok (.istore_n 3, 1) := by decide +kernel
theorem dX5_after_18 : decode cX5_after 18 = .ok (.iload_n 3, 1) := by decide +kernel
theorem dX5_after_19 : decode cX5_after 19 = .ok (.aload_n 0, 1) := by decide +kernel
theorem dX5_after_20 : decode cX5_after 20 = .ok (.getfield 21, 3) := by decide +kernel
theorem dX5_after_23 : decode cX5_after 23 = .ok (.if_icmp .ge 26, 3) := by decide +kernel
theorem dX5_after_26 : decode cX5_after 26 = .ok (.aload_n 0, 1) := by decide +kernel
theorem dX5_after_27 : decode cX5_after 27 = .ok (.getfield 12, 3) := by decide +kernel
theorem dX5_after_30 : decode cX5_after 30 = .ok (.iload_n 3, 1) := by decide +kernel
theorem dX5_after_31 : decode cX5_after 31 = .ok (.bipush 7, 2) := by decide +kernel
theorem dX5_after_33 : decode cX5_after 33 = .ok (.imul, 1) := by decide +kernel
theorem dX5_after_34 : decode cX5_after 34 = .ok (.iconst 1, 1) := by decide +kernel
theorem dX5_after_35 : decode cX5_after 35 = .ok (.iadd, 1) := by decide +kernel
theorem dX5_after_36 : decode cX5_after 36 = .ok (.invokevirtual 33, 3) := by decide +kernel
theorem dX5_after_39 : decode cX5_after 39 = .ok (.iload_n 2, 1) := by decide +kernel
theorem dX5_after_40 : decode cX5_after 40 = .ok (.if_icmp .le 9, 3) := by decide +kernel
theorem dX5_after_43 : decode cX5_after 43 = .ok (.iinc 3 1, 3) := by decide +kernel
theorem dX5_after_46 : decode cX5_after 46 = .ok (.goto (-28), 3) := by decide +kernel
theorem dX5_after_49 : decode cX5_after 49 = .ok (.iload_n 3, 1) := by decide +kernel
theorem dX5_after_50 : decode cX5_after 50 = .ok (.ireturn, 1) := by decide +kernel
theorem dX5_countChildren_0 : decode cX5_countChildren 0 = .ok (.aload_n 0, 1) := by decide +kernel
theorem dX5_countChildren_1 : decode cX5_countChildren 1 = .ok (.iload_n 1, 1) := by decide +kernel
theorem dX5_countChildren_2 : decode cX5_countChildren 2 = .ok (.invokevirtual 60, 3) := by decide +kernel
theorem dX5_countChildren_5 : decode cX5_countChildren 5 = .ok (.istore_n 2, 1) := by decide +kernel
theorem dX5_countChildren_6 : decode cX5_countChildren 6 = .ok (.aload_n 0, 1) := by decide +kernel
theorem dX5_countChildren_7 : decode cX5_countChildren 7 = .ok (.iload_n 1, 1) := by decide +kernel
theorem dX5_countChildren_8 : decode cX5_countChildren 8 = .ok (.iconst 1, 1) := by decide +kernel
theorem dX5_countChildren_9 : decode cX5_countChildren 9 = .ok (.invokevirtual 44, 3) := by decide +kernel
theorem dX5_countChildren_12 : decode cX5_countChildren 12 = .ok (.iconst 1, 1) := by decide +kernel
theorem dX5_countChildren_13 : decode cX5_countChildren 13 = .ok (.iadd, 1) := by decide +kernel
theorem dX5_countChildren_14 : decode cX5_countChildren 14 = .ok (.istore_n 3, 1) := by decide +kernel
theorem dX5_countChildren_15 : decode cX5_countChildren 15 = .ok (.iconst 0, 1) := by decide +kernel
theorem dX5_countChildren_16 : decode cX5_countChildren 16 = .ok (.istore 4, 2) := by decide +kernel
theorem dX5_countChildren_18 : decode cX5_countChildren 18 = .ok (.iload_n 1, 1) := by decide +kernel
theorem dX5_countChildren_19 : decode cX5_countChildren 19 = .ok (.iconst 1, 1) := by decide +kernel
theorem dX5_countChildren_20 : decode cX5_countChildren 20 = .ok (.iadd, 1) := by decide +kernel
theorem dX5_countChildren_21 : decode cX5_countChildren 21 = .ok (.istore 5, 2) := by decide +kernel
theorem dX5_countChildren_23 : decode cX5_countChildren 23 = .ok (.iload 5, 2) := by decide +kernel
theorem dX5_countChildren_25 : decode cX5_countChildren 25 = .ok (.iload_n 2, 1) := by decide +kernel
theorem dX5_countChildren_26 : decode cX5_countChildren 26 = .ok (.if_icmp .ge 23, 3) := by decide +kernel
theorem dX5_countChildren_29 : decode cX5_countChildren 29 = .ok (.aload_n 0, 1) := by decide +kernel
theorem dX5_countChildren_30 : decode cX5_countChildren 30 = .ok (.iload 5, 2) := by decide +kernel
theorem dX5_countChildren_32 : decode cX5_countChildren 32 = .ok (.iconst 1, 1) := by decide +kernel
theorem dX5_countChildren_33 : decode cX5_countChildren 33 = .ok (.invokevirtual 44, 3) := by decide +kernel
theorem dX5_countChildren_36 : decode cX5_countChildren 36 = .ok (.iload_n 3, 1) := by decide +kernel
theorem dX5_countChildren_37 : decode cX5_countChildren 37 = .ok (.if_icmp .ne 6, 3) := by decide +kernel
theorem dX5_countChildren_40 : decode cX5_countChildren 40 = .ok (.iinc 4 1, 3) := by decide +kernel
theorem dX5_countChildren_43 : decode cX5_countChildren 43 = .ok (.iinc 5 1, 3) := by decide +kernel
theorem dX5_countChildren_46 : decode cX5_countChildren 46 = .ok (.goto (-23), 3) := by decide +kernel
theorem dX5_countChildren_49 : decode cX5_countChildren 49 = .ok (.iload 4, 2) := by decide +kernel
theorem dX5_countChildren_51 : decode cX5_countChildren 51 = .ok (.ireturn, 1) := by decide +kernel
theorem dX5_nthChild_0 : decode cX5_nthChild 0 = .ok (.aload_n 0, 1) := by decide +kernel
theorem dX5_nthChild_1 : decode cX5_nthChild 1 = .ok (.iload_n 1, 1) := by decide +kernel
theorem dX5_nthChild_2 : decode cX5_nthChild 2 = .ok (.invokevirtual 60, 3) := by decide +kernel
theorem dX5_nthChild_5 : decode cX5_nthChild 5 = .ok (.istore_n 3, 1) := by decide +kernel
theorem dX5_nthChild_6 : decode cX5_nthChild 6 = .ok (.aload_n 0, 1) := by decide +kernel
theorem dX5_nthChild_7 : decode cX5_nthChild 7 = .ok (.iload_n 1, 1) := by decide +kernel
theorem dX5_nthChild_8 : decode cX5_nthChild 8 = .ok (.iconst 1, 1) := by decide +kernel
theorem dX5_nthChild_9 : decode cX5_nthChild 9 = .ok (.invokevirtual 44, 3) := by decide +kernel
theorem dX5_nthChild_12 : decode cX5_nthChild 12 = .ok (.iconst 1, 1) := by decide +kernel
theorem dX5_nthChild_13 : decode cX5_nthChild 13 = .ok (.iadd, 1) := by decide +kernel
theorem dX5_nthChild_14 : decode cX5_nthChild 14 = .ok (.istore 4, 2) := by decide +kernel
theorem dX5_nthChild_16 : decode cX5_nthChild 16 = .ok (.iconst 0, 1) := by decide +kernel
theorem dX5_nthChild_17 : decode cX5_nthChild 17 = .ok (.istore 5, 2) := by decide +kernel
theorem dX5_nthChild_19 : decode cX5_nthChild 19 = .ok (.iload_n 1, 1) := by decide +kernel
theorem dX5_nthChild_20 : decode cX5_nthChild 20 = .ok (.iconst 1, 1) := by decide +kernel
theorem dX5_nthChild_21 : decode cX5_nthChild 21 = .ok (.iadd, 1) := by decide +kernel
theorem dX5_nthChild_22 : decode cX5_nthChild 22 = .ok (.istore 6, 2) := by decide +kernel
theorem dX5_nthChild_24 : decode cX5_nthChild 24 = .ok (.iload 6, 2) := by decide +kernel
theorem dX5_nthChild_26 : decode cX5_nthChild 26 = .ok (.iload_n 3, 1) := by decide +kernel
theorem dX5_nthChild_27 : decode cX5_nthChild 27 = .ok (.if_icmp .ge 33, 3) := by decide +kernel
theorem dX5_nthChild_30 : decode cX5_nthChild 30 = .ok (.aload_n 0, 1) := by decide +kernel
theorem dX5_nthChild_31 : decode cX5_nthChild 31 = .ok (.iload 6, 2) := by decide +kernel
theorem dX5_nthChild_33 : decode cX5_nthChild 33 = .ok (.iconst 1, 1) := by decide +kernel
theorem dX5_nthChild_34 : decode cX5_nthChild 34 = .ok (.invokevirtual 44, 3) := by decide +kernel
theorem dX5_nthChild_37 : decode cX5_nthChild 37 = .ok (.iload 4, 2) := by decide +kernel
theorem dX5_nthChild_39 : decode cX5_nthChild 39 = .ok (.if_icmp .ne 15, 3) := by decide +kernel
theorem dX5_nthChild_42 : decode cX5_nthChild 42 = .ok (.iload 5, 2) := by decide +kernel
theorem dX5_nthChild_44 : decode cX5_nthChild 44 = .ok (.iload_n 2, 1) := by decide +kernel
theorem dX5_nthChild_45 : decode cX5_nthChild 45 = .ok (.if_icmp .ne 6, 3) := by decide +kernel
theorem dX5_nthChild_48 : decode cX5_nthChild 48 = .ok (.iload 6, 2) := by decide +kernel
theorem dX5_nthChild_50 : decode cX5_nthChild 50 = .ok (.ireturn, 1) := by decide +kernel
theorem dX5_nthChild_51 : decode cX5_nthChild 51 = .ok (.iinc 5 1, 3) := by decide +kernel
theorem dX5_nthChild_54 : decode cX5_nthChild 54 = .ok (.iinc 6 1, 3) := by decide +kernel
theorem dX5_nthChild_57 : decode cX5_nthChild 57 = .ok (.goto (-33), 3) := by decide +kernel
theorem dX5_nthChild_60 : decode cX5_nthChild 60 = .ok (.iconst (-1), 1) := by decide +kernel
theorem dX5_nthChild_61 : decode cX5_nthChild 61 = .ok (.ireturn, 1) := by decide +kernel
theorem dX5_lastChild_0 : decode cX5_lastChild 0 = .ok (.aload_n 0, 1) := by decide +kernel
theorem dX5_lastChild_1 : decode cX5_lastChild 1 = .ok (.iload_n 1, 1) := by decide +kernel
theorem dX5_lastChild_2 : decode cX5_lastChild 2 = .ok (.invokevirtual 60, 3) := by decide +kernel
theorem dX5_lastChild_5 : decode cX5_lastChild 5 = .ok (.istore_n 2, 1) := by decide +kernel
theorem dX5_lastChild_6 : decode cX5_lastChild 6 = .ok (.aload_n 0, 1) := by decide +kernel
theorem dX5_lastChild_7 : decode cX5_lastChild 7 = .ok (.iload_n 1, 1) := by decide +kernel
theorem dX5_lastChild_8 : decode cX5_lastChild 8 = .ok (.iconst 1, 1) := by decide +kernel
theorem dX5_lastChild_9 : decode cX5_lastChild 9 = .ok (.invokevirtual 44, 3) := by decide +kernel
theorem dX5_lastChild_12 : decode cX5_lastChild 12 = .ok (.iconst 1, 1) := by decide +kernel
theorem dX5_lastChild_13 : decode cX5_lastChild 13 = .ok (.iadd, 1) := by decide +kernel
theorem dX5_lastChild_14 : decode cX5_lastChild 14 = .ok (.istore_n 3, 1) := by decide +kernel
theorem dX5_lastChild_15 : decode cX5_lastChild 15 = .ok (.iload_n 2, 1) := by decide +kernel
theorem dX5_lastChild_16 : decode cX5_lastChild 16 = .ok (.iconst 1, 1) := by decide +kernel
theorem dX5_lastChild_17 : decode cX5_lastChild 17 = .ok (.isub, 1) := by decide +kernel
theorem dX5_lastChild_18 : decode cX5_lastChild 18 = .ok (.istore 4, 2) := by decide +kernel
theorem dX5_lastChild_20 : decode cX5_lastChild 20 = .ok (.iload 4, 2) := by decide +kernel
theorem dX5_lastChild_22 : decode cX5_lastChild 22 = .ok (.iload_n 1, 1) := by decide +kernel
theorem dX5_lastChild_23 : decode cX5_lastChild 23 = .ok (.if_icmp .le 23, 3) := by decide +kernel
theorem dX5_lastChild_26 : decode cX5_lastChild 26 = .ok (.aload_n 0, 1) := by decide +kernel
theorem dX5_lastChild_27 : decode cX5_lastChild 27 = .ok (.iload 4, 2) := by decide +kernel
theorem dX5_lastChild_29 : decode cX5_lastChild 29 = .ok (.iconst 1, 1) := by decide +kernel
theorem dX5_lastChild_30 : decode cX5_lastChild 30 = .ok (.invokevirtual 44, 3) := by decide +kernel
theorem dX5_lastChild_33 : decode cX5_lastChild 33 = .ok (.iload_n 3, 1) := by decide +kernel
theorem dX5_lastChild_34 : decode cX5_lastChild 34 = .ok (.if_icmp .ne 6, 3) := by decide +kernel
theorem dX5_lastChild_37 : decode cX5_lastChild 37 = .ok (.iload 4, 2) := by decide +kernel
theorem dX5_lastChild_39 : decode cX5_lastChild 39 = .ok (.ireturn, 1) := by decide +kernel
theorem dX5_lastChild_40 : decode cX5_lastChild 40 = .ok (.iinc 4 (-1), 3) := by decide +kernel
theorem dX5_lastChild_43 : decode cX5_lastChild 43 = .ok (.goto (-23), 3) := by decide +kernel
theorem dX5_lastChild_46 : decode cX5_lastChild 46 = .ok (.iconst (-1), 1) := by decide +kernel
theorem dX5_lastChild_47 : decode cX5_lastChild 47 = .ok (.ireturn, 1) := by decide +kernel
theorem dX5_nthWord_0 : decode cX5_nthWord 0 = .ok (.iconst 0, 1) := by decide +kernel
theorem dX5_nthWord_1 : decode cX5_nthWord 1 = .ok (.istore_n 3, 1) := by decide +kernel
theorem dX5_nthWord_2 : decode cX5_nthWord 2 = .ok (.iconst 0, 1) := by decide +kernel
theorem dX5_nthWord_3 : decode cX5_nthWord 3 = .ok (.istore 4, 2) := by decide +kernel
theorem dX5_nthWord_5 : decode cX5_nthWord 5 = .ok (.iload 4, 2) := by decide +kernel
theorem dX5_nthWord_7 : decode cX5_nthWord 7 = .ok (.aload_n 0, 1) := by decide +kernel
theorem dX5_nthWord_8 : decode cX5_nthWord 8 = .ok (.getfield 21, 3) := by decide +kernel
theorem dX5_nthWord_11 : decode cX5_nthWord 11 = .ok (.if_icmp .ge 40, 3) := by decide +kernel
theorem dX5_nthWord_14 : decode cX5_nthWord 14 = .ok (.aload_n 0, 1) := by decide +kernel
theorem dX5_nthWord_15 : decode cX5_nthWord 15 = .ok (.iload 4, 2) := by decide +kernel
theorem dX5_nthWord_17 : decode cX5_nthWord 17 = .ok (.iconst 2, 1) := by decide +kernel
theorem dX5_nthWord_18 : decode cX5_nthWord 18 = .ok (.invokevirtual 48, 3) := by decide +kernel
theorem dX5_nthWord_21 : decode cX5_nthWord 21 = .ok (.ifCond .eq 24, 3) := by decide +kernel
theorem dX5_nthWord_24 : decode cX5_nthWord 24 = .ok (.aload_n 0, 1) := by decide +kernel
theorem dX5_nthWord_25 : decode cX5_nthWord 25 = .ok (.iload 4, 2) := by decide +kernel
theorem dX5_nthWord_27 : decode cX5_nthWord 27 = .ok (.aload_n 1, 1) := by decide +kernel
theorem dX5_nthWord_28 : decode cX5_nthWord 28 = .ok (.invokevirtual 63, 3) := by decide +kernel
theorem dX5_nthWord_31 : decode cX5_nthWord 31 = .ok (.ifCond .eq 14, 3) := by decide +kernel
theorem dX5_nthWord_34 : decode cX5_nthWord 34 = .ok (.iload_n 3, 1) := by decide +kernel
theorem dX5_nthWord_35 : decode cX5_nthWord 35 = .ok (.iload_n 2, 1) := by decide +kernel
theorem dX5_nthWord_36 : decode cX5_nthWord 36 = .ok (.if_icmp .ne 6, 3) := by decide +kernel
theorem dX5_nthWord_39 : decode cX5_nthWord 39 = .ok (.iload 4, 2) := by decide +kernel
theorem dX5_nthWord_41 : decode cX5_nthWord 41 = .ok (.ireturn, 1) := by decide +kernel
theorem dX5_nthWord_42 : decode cX5_nthWord 42 = .ok (.iinc 3 1, 3) := by decide +kernel
theorem dX5_nthWord_45 : decode cX5_nthWord 45 = .ok (.iinc 4 1, 3) := by decide +kernel
theorem dX5_nthWord_48 : decode cX5_nthWord 48 = .ok (.goto (-43), 3) := by decide +kernel
theorem dX5_nthWord_51 : decode cX5_nthWord 51 = .ok (.iconst (-1), 1) := by decide +kernel
theorem dX5_nthWord_52 : decode cX5_nthWord 52 = .ok (.ireturn, 1) := by decide +kernel
theorem dX5_isSpelled_0 : decode cX5_isSpelled 0 = .ok (.aload_n 0, 1) := by decide +kernel
theorem dX5_isSpelled_1 : decode cX5_isSpelled 1 = .ok (.iload_n 1, 1) := by decide +kernel
theorem dX5_isSpelled_2 : decode cX5_isSpelled 2 = .ok (.iconst 5, 1) := by decide +kernel
theorem dX5_isSpelled_3 : decode cX5_isSpelled 3 = .ok (.invokevirtual 44, 3) := by decide +kernel
theorem dX5_isSpelled_6 : decode cX5_isSpelled 6 = .ok (.aload_n 2, 1) := by decide +kernel
theorem dX5_isSpelled_7 : decode cX5_isSpelled 7 = .ok (.invokevirtual 52, 3) := by decide +kernel
theorem dX5_isSpelled_10 : decode cX5_isSpelled 10 = .ok (.if_icmp .eq 5, 3) := by decide +kernel
theorem dX5_isSpelled_13 : decode cX5_isSpelled 13 = .ok (.iconst 0, 1) := by decide +kernel
theorem dX5_isSpelled_14 : decode cX5_isSpelled 14 = .ok (.ireturn, 1) := by decide +kernel
theorem dX5_isSpelled_15 : decode cX5_isSpelled 15 = .ok (.iconst 0, 1) := by decide +kernel
theorem dX5_isSpelled_16 : decode cX5_isSpelled 16 = .ok (.istore_n 3, 1) := by decide +kernel
theorem dX5_isSpelled_17 : decode cX5_isSpelled 17 = .ok (.iload_n 3, 1) := by decide +kernel
theorem dX5_isSpelled_18 : decode cX5_isSpelled 18 = .ok (.aload_n 2, 1) := by decide +kernel
theorem dX5_isSpelled_19 : decode cX5_isSpelled 19 = .ok (.invokevirtual 52, 3) := by decide +kernel
theorem dX5_isSpelled_22 : decode cX5_isSpelled 22 = .ok (.if_icmp .ge 25, 3) := by decide +kernel
theorem dX5_isSpelled_25 : decode cX5_isSpelled 25 = .ok (.aload_n 0, 1) := by decide +kernel
theorem dX5_isSpelled_26 : decode cX5_isSpelled 26 = .ok (.iload_n 1, 1) := by decide +kernel
theorem dX5_isSpelled_27 : decode cX5_isSpelled 27 = .ok (.iload_n 3, 1) := by decide +kernel
theorem dX5_isSpelled_28 : decode cX5_isSpelled 28 = .ok (.invokevirtual 67, 3) := by decide +kernel
theorem dX5_isSpelled_31 : decode cX5_isSpelled 31 = .ok (.aload_n 2, 1) := by decide +kernel
theorem dX5_isSpelled_32 : decode cX5_isSpelled 32 = .ok (.iload_n 3, 1) := by decide +kernel
theorem dX5_isSpelled_33 : decode cX5_isSpelled 33 = .ok (.invokevirtual 33, 3) := by decide +kernel
theorem dX5_isSpelled_36 : decode cX5_isSpelled 36 = .ok (.if_icmp .eq 5, 3) := by decide +kernel
theorem dX5_isSpelled_39 : decode cX5_isSpelled 39 = .ok (.iconst 0, 1) := by decide +kernel
theorem dX5_isSpelled_40 : decode cX5_isSpelled 40 = .ok (.ireturn, 1) := by decide +kernel
theorem dX5_isSpelled_41 : decode cX5_isSpelled 41 = .ok (.iinc 3 1, 3) := by decide +kernel
theorem dX5_isSpelled_44 : decode cX5_isSpelled 44 = .ok (.goto (-27), 3) := by decide +kernel
theorem dX5_isSpelled_47 : decode cX5_isSpelled 47 = .ok (.iconst 1, 1) := by decide +kernel
theorem dX5_isSpelled_48 : decode cX5_isSpelled 48 = .ok (.ireturn, 1) := by decide +kernel
theorem dX5_countDifferentWords_0 : decode cX5_countDifferentWords 0 = .ok (.iconst 0, 1) := by decide +kernel
theorem dX5_countDifferentWords_1 : decode cX5_countDifferentWords 1 = .ok (.istore_n 1, 1) := by decide +kernel
theorem dX5_countDifferentWords_2 : decode cX5_countDifferentWords 2 = .ok (.iconst 0, 1) := by decide +kernel
theorem dX5_countDifferentWords_3 : decode cX5_countDifferentWords 3 = .ok (.istore_n 2, 1) := by decide +kernel
theorem dX5_countDifferentWords_4 : decode cX5_countDifferentWords 4 = .ok (.iload_n 2, 1) := by decide +kernel
theorem dX5_countDifferentWords_5 : decode cX5_countDifferentWords 5 = .ok (.aload_n 0, 1) := by decide +kernel
theorem dX5_countDifferentWords_6 : decode cX5_countDifferentWords 6 = .ok (.getfield 21, 3) := by decide +kernel
theorem dX5_countDifferentWords_9 : decode cX5_countDifferentWords 9 = .ok (.if_icmp .ge 29, 3) := by decide +kernel
theorem dX5_countDifferentWords_12 : decode cX5_countDifferentWords 12 = .ok (.aload_n 0, 1) := by decide +kernel
theorem dX5_countDifferentWords_13 : decode cX5_countDifferentWords 13 = .ok (.iload_n 2, 1) := by decide +kernel
theorem dX5_countDifferentWords_14 : decode cX5_countDifferentWords 14 = .ok (.iconst 2, 1) := by decide +kernel
theorem dX5_countDifferentWords_15 : decode cX5_countDifferentWords 15 = .ok (.invokevirtual 48, 3) := by decide +kernel
theorem dX5_countDifferentWords_18 : decode cX5_countDifferentWords 18 = .ok (.ifCond .eq 14, 3) := by decide +kernel
theorem dX5_countDifferentWords_21 : decode cX5_countDifferentWords 21 = .ok (.aload_n 0, 1) := by decide +kernel
theorem dX5_countDifferentWords_22 : decode cX5_countDifferentWords 22 = .ok (.iload_n 2, 1) := by decide +kernel
theorem dX5_countDifferentWords_23 : decode cX5_countDifferentWords 23 = .ok (.invokevirtual 70, 3) := by decide +kernel
theorem dX5_countDifferentWords_26 : decode cX5_countDifferentWords 26 = .ok (.ifCond .eq 6, 3) := by decide +kernel
theorem dX5_countDifferentWords_29 : decode cX5_countDifferentWords 29 = .ok (.iinc 1 1, 3) := by decide +kernel
theorem dX5_countDifferentWords_32 : decode cX5_countDifferentWords 32 = .ok (.iinc 2 1, 3) := by decide +kernel
theorem dX5_countDifferentWords_35 : decode cX5_countDifferentWords 35 = .ok (.goto (-31), 3) := by decide +kernel
theorem dX5_countDifferentWords_38 : decode cX5_countDifferentWords 38 = .ok (.iload_n 1, 1) := by decide +kernel
theorem dX5_countDifferentWords_39 : decode cX5_countDifferentWords 39 = .ok (.ireturn, 1) := by decide +kernel
theorem dX5_isNewWord_0 : decode cX5_isNewWord 0 = .ok (.iconst 0, 1) := by decide +kernel
theorem dX5_isNewWord_1 : decode cX5_isNewWord 1 = .ok (.istore_n 2, 1) := by decide +kernel
theorem dX5_isNewWord_2 : decode cX5_isNewWord 2 = .ok (.iload_n 2, 1) := by decide +kernel
theorem dX5_isNewWord_3 : decode cX5_isNewWord 3 = .ok (.iload_n 1, 1) := by decide +kernel
theorem dX5_isNewWord_4 : decode cX5_isNewWord 4 = .ok (.if_icmp .ge 29, 3) := by decide +kernel
theorem dX5_isNewWord_7 : decode cX5_isNewWord 7 = .ok (.aload_n 0, 1) := by decide +kernel
theorem dX5_isNewWord_8 : decode cX5_isNewWord 8 = .ok (.iload_n 2, 1) := by decide +kernel
theorem dX5_isNewWord_9 : decode cX5_isNewWord 9 = .ok (.iconst 2, 1) := by decide +kernel
theorem dX5_isNewWord_10 : decode cX5_isNewWord 10 = .ok (.invokevirtual 48, 3) := by decide +kernel
theorem dX5_isNewWord_13 : decode cX5_isNewWord 13 = .ok (.ifCond .eq 14, 3) := by decide +kernel
theorem dX5_isNewWord_16 : decode cX5_isNewWord 16 = .ok (.aload_n 0, 1) := by decide +kernel
theorem dX5_isNewWord_17 : decode cX5_isNewWord 17 = .ok (.iload_n 2, 1) := by decide +kernel
theorem dX5_isNewWord_18 : decode cX5_isNewWord 18 = .ok (.iload_n 1, 1) := by decide +kernel
theorem dX5_isNewWord_19 : decode cX5_isNewWord 19 = .ok (.invokevirtual 74, 3) := by decide +kernel
theorem dX5_isNewWord_22 : decode cX5_isNewWord 22 = .ok (.ifCond .eq 5, 3) := by decide +kernel
theorem dX5_isNewWord_25 : decode cX5_isNewWord 25 = .ok (.iconst 0, 1) := by decide +kernel
theorem dX5_isNewWord_26 : decode cX5_isNewWord 26 = .ok (.ireturn, 1) := by decide +kernel
theorem dX5_isNewWord_27 : decode cX5_isNewWord 27 = .ok (.iinc 2 1, 3) := by decide +kernel
theorem dX5_isNewWord_30 : decode cX5_isNewWord 30 = .ok (.goto (-28), 3) := by decide +kernel
theorem dX5_isNewWord_33 : decode cX5_isNewWord 33 = .ok (.iconst 1, 1) := by decide +kernel
theorem dX5_isNewWord_34 : decode cX5_isNewWord 34 = .ok (.ireturn, 1) := by decide +kernel
theorem dX5_areSame_0 : decode cX5_areSame 0 = .ok (.aload_n 0, 1) := by decide +kernel
theorem dX5_areSame_1 : decode cX5_areSame 1 = .ok (.iload_n 1, 1) := by decide +kernel
theorem dX5_areSame_2 : decode cX5_areSame 2 = .ok (.iconst 5, 1) := by decide +kernel
theorem dX5_areSame_3 : decode cX5_areSame 3 = .ok (.invokevirtual 44, 3) := by decide +kernel
theorem dX5_areSame_6 : decode cX5_areSame 6 = .ok (.istore_n 3, 1) := by decide +kernel
theorem dX5_areSame_7 : decode cX5_areSame 7 = .ok (.iload_n 3, 1) := by decide +kernel
theorem dX5_areSame_8 : decode cX5_areSame 8 = .ok (.aload_n 0, 1) := by decide +kernel
theorem dX5_areSame_9 : decode cX5_areSame 9 = .ok (.iload_n 2, 1) := by decide +kernel
theorem dX5_areSame_10 : decode cX5_areSame 10 = .ok (.iconst 5, 1) := by decide +kernel
theorem dX5_areSame_11 : decode cX5_areSame 11 = .ok (.invokevirtual 44, 3) := by decide +kernel
theorem dX5_areSame_14 : decode cX5_areSame 14 = .ok (.if_icmp .eq 5, 3) := by decide +kernel
theorem dX5_areSame_17 : decode cX5_areSame 17 = .ok (.iconst 0, 1) := by decide +kernel
theorem dX5_areSame_18 : decode cX5_areSame 18 = .ok (.ireturn, 1) := by decide +kernel
theorem dX5_areSame_19 : decode cX5_areSame 19 = .ok (.iconst 0, 1) := by decide +kernel
theorem dX5_areSame_20 : decode cX5_areSame 20 = .ok (.istore 4, 2) := by decide +kernel
theorem dX5_areSame_22 : decode cX5_areSame 22 = .ok (.iload 4, 2) := by decide +kernel
theorem dX5_areSame_24 : decode cX5_areSame 24 = .ok (.iload_n 3, 1) := by decide +kernel
theorem dX5_areSame_25 : decode cX5_areSame 25 = .ok (.if_icmp .ge 28, 3) := by decide +kernel
theorem dX5_areSame_28 : decode cX5_areSame 28 = .ok (.aload_n 0, 1) := by decide +kernel
theorem dX5_areSame_29 : decode cX5_areSame 29 = .ok (.iload_n 1, 1) := by decide +kernel
theorem dX5_areSame_30 : decode cX5_areSame 30 = .ok (.iload 4, 2) := by decide +kernel
theorem dX5_areSame_32 : decode cX5_areSame 32 = .ok (.invokevirtual 67, 3) := by decide +kernel
theorem dX5_areSame_35 : decode cX5_areSame 35 = .ok (.aload_n 0, 1) := by decide +kernel
theorem dX5_areSame_36 : decode cX5_areSame 36 = .ok (.iload_n 2, 1) := by decide +kernel
theorem dX5_areSame_37 : decode cX5_areSame 37 = .ok (.iload 4, 2) := by decide +kernel
theorem dX5_areSame_39 : decode cX5_areSame 39 = .ok (.invokevirtual 67, 3) := by decide +kernel
theorem dX5_areSame_42 : decode cX5_areSame 42 = .ok (.if_icmp .eq 5, 3) := by decide +kernel
theorem dX5_areSame_45 : decode cX5_areSame 45 = .ok (.iconst 0, 1) := by decide +kernel
theorem dX5_areSame_46 : decode cX5_areSame 46 = .ok (.ireturn, 1) := by decide +kernel
theorem dX5_areSame_47 : decode cX5_areSame 47 = .ok (.iinc 4 1, 3) := by decide +kernel
theorem dX5_areSame_50 : decode cX5_areSame 50 = .ok (.goto (-28), 3) := by decide +kernel
theorem dX5_areSame_53 : decode cX5_areSame 53 = .ok (.iconst 1, 1) := by decide +kernel
theorem dX5_areSame_54 : decode cX5_areSame 54 = .ok (.ireturn, 1) := by decide +kernel
theorem dX5_nesting_0 : decode cX5_nesting 0 = .ok (.aload_n 0, 1) := by decide +kernel
theorem dX5_nesting_1 : decode cX5_nesting 1 = .ok (.iload_n 1, 1) := by decide +kernel
theorem dX5_nesting_2 : decode cX5_nesting 2 = .ok (.iconst 1, 1) := by decide +kernel
theorem dX5_nesting_3 : decode cX5_nesting 3 = .ok (.invokevirtual 44, 3) := by decide +kernel
theorem dX5_nesting_6 : decode cX5_nesting 6 = .ok (.aload_n 0, 1) := by decide +kernel
theorem dX5_nesting_7 : decode cX5_nesting 7 = .ok (.iload_n 1, 1) := by decide +kernel
theorem dX5_nesting_8 : decode cX5_nesting 8 = .ok (.iconst 2, 1) := by decide +kernel
theorem dX5_nesting_9 : decode cX5_nesting 9 = .ok (.invokevirtual 44, 3) := by decide +kernel
theorem dX5_nesting_12 : decode cX5_nesting 12 = .ok (.isub, 1) := by decide +kernel
theorem dX5_nesting_13 : decode cX5_nesting 13 = .ok (.ireturn, 1) := by decide +kernel
theorem dX5_innerNesting_0 : decode cX5_innerNesting 0 = .ok (.aload_n 0, 1) := by decide +kernel
theorem dX5_innerNesting_1 : decode cX5_innerNesting 1 = .ok (.iload_n 1, 1) := by decide +kernel
theorem dX5_innerNesting_2 : decode cX5_innerNesting 2 = .ok (.invokevirtual 60, 3) := by decide +kernel
theorem dX5_innerNesting_5 : decode cX5_innerNesting 5 = .ok (.istore_n 2, 1) := by decide +kernel
theorem dX5_innerNesting_6 : decode cX5_innerNesting 6 = .ok (.aload_n 0, 1) := by decide +kernel
theorem dX5_innerNesting_7 : decode cX5_innerNesting 7 = .ok (.iload_n 1, 1) := by decide +kernel
theorem dX5_innerNesting_8 : decode cX5_innerNesting 8 = .ok (.iconst 2, 1) := by decide +kernel
theorem dX5_innerNesting_9 : decode cX5_innerNesting 9 = .ok (.invokevirtual 44, 3) := by decide +kernel
theorem dX5_innerNesting_12 : decode cX5_innerNesting 12 = .ok (.iconst 1, 1) := by decide +kernel
theorem dX5_innerNesting_13 : decode cX5_innerNesting 13 = .ok (.isub, 1) := by decide +kernel
theorem dX5_innerNesting_14 : decode cX5_innerNesting 14 = .ok (.istore_n 3, 1) := by decide +kernel
theorem dX5_innerNesting_15 : decode cX5_innerNesting 15 = .ok (.iconst 0, 1) := by decide +kernel
theorem dX5_innerNesting_16 : decode cX5_innerNesting 16 = .ok (.istore 4, 2) := by decide +kernel
theorem dX5_innerNesting_18 : decode cX5_innerNesting 18 = .ok (.iload_n 1, 1) := by decide +kernel
theorem dX5_innerNesting_19 : decode cX5_innerNesting 19 = .ok (.iconst 1, 1) := by decide +kernel
theorem dX5_innerNesting_20 : decode cX5_innerNesting 20 = .ok (.iadd, 1) := by decide +kernel
theorem dX5_innerNesting_21 : decode cX5_innerNesting 21 = .ok (.istore 5, 2) := by decide +kernel
theorem dX5_innerNesting_23 : decode cX5_innerNesting 23 = .ok (.iload 5, 2) := by decide +kernel
theorem dX5_innerNesting_25 : decode cX5_innerNesting 25 = .ok (.iload_n 2, 1) := by decide +kernel
theorem dX5_innerNesting_26 : decode cX5_innerNesting 26 = .ok (.if_icmp .ge 44, 3) := by decide +kernel
theorem dX5_innerNesting_29 : decode cX5_innerNesting 29 = .ok (.aload_n 0, 1) := by decide +kernel
theorem dX5_innerNesting_30 : decode cX5_innerNesting 30 = .ok (.iload 5, 2) := by decide +kernel
theorem dX5_innerNesting_32 : decode cX5_innerNesting 32 = .ok (.iconst 0, 1) := by decide +kernel
theorem dX5_innerNesting_33 : decode cX5_innerNesting 33 = .ok (.invokevirtual 48, 3) := by decide +kernel
theorem dX5_innerNesting_36 : decode cX5_innerNesting 36 = .ok (.ifCond .ne 13, 3) := by decide +kernel
theorem dX5_innerNesting_39 : decode cX5_innerNesting 39 = .ok (.aload_n 0, 1) := by decide +kernel
theorem dX5_innerNesting_40 : decode cX5_innerNesting 40 = .ok (.iload 5, 2) := by decide +kernel
theorem dX5_innerNesting_42 : decode cX5_innerNesting 42 = .ok (.iconst 4, 1) := by decide +kernel
theorem dX5_innerNesting_43 : decode cX5_innerNesting 43 = .ok (.invokevirtual 48, 3) := by decide +kernel
theorem dX5_innerNesting_46 : decode cX5_innerNesting 46 = .ok (.ifCond .eq 18, 3) := by decide +kernel
theorem dX5_innerNesting_49 : decode cX5_innerNesting 49 = .ok (.iload 4, 2) := by decide +kernel
theorem dX5_innerNesting_51 : decode cX5_innerNesting 51 = .ok (.aload_n 0, 1) := by decide +kernel
theorem dX5_innerNesting_52 : decode cX5_innerNesting 52 = .ok (.iload 5, 2) := by decide +kernel
theorem dX5_innerNesting_54 : decode cX5_innerNesting 54 = .ok (.invokevirtual 77, 3) := by decide +kernel
theorem dX5_innerNesting_57 : decode cX5_innerNesting 57 = .ok (.iload_n 3, 1) := by decide +kernel
theorem dX5_innerNesting_58 : decode cX5_innerNesting 58 = .ok (.isub, 1) := by decide +kernel
theorem dX5_innerNesting_59 : decode cX5_innerNesting 59 = .ok (.invokestatic 80, 3) := by decide +kernel
theorem dX5_innerNesting_62 : decode cX5_innerNesting 62 = .ok (.istore 4, 2) := by decide +kernel
theorem dX5_innerNesting_64 : decode cX5_innerNesting 64 = .ok (.iinc 5 1, 3) := by decide +kernel
theorem dX5_innerNesting_67 : decode cX5_innerNesting 67 = .ok (.goto (-44), 3) := by decide +kernel
theorem dX5_innerNesting_70 : decode cX5_innerNesting 70 = .ok (.iload 4, 2) := by decide +kernel
theorem dX5_innerNesting_72 : decode cX5_innerNesting 72 = .ok (.ireturn, 1) := by decide +kernel
theorem dX5_erase_0 : decode cX5_erase 0 = .ok (.aload_n 0, 1) := by decide +kernel
theorem dX5_erase_1 : decode cX5_erase 1 = .ok (.iload_n 1, 1) := by decide +kernel
theorem dX5_erase_2 : decode cX5_erase 2 = .ok (.invokevirtual 60, 3) := by decide +kernel
theorem dX5_erase_5 : decode cX5_erase 5 = .ok (.istore_n 2, 1) := by decide +kernel
theorem dX5_erase_6 : decode cX5_erase 6 = .ok (.aload_n 0, 1) := by decide +kernel
theorem dX5_erase_7 : decode cX5_erase 7 = .ok (.getfield 12, 3) := by decide +kernel
theorem dX5_erase_10 : decode cX5_erase 10 = .ok (.iload_n 1, 1) := by decide +kernel
theorem dX5_erase_11 : decode cX5_erase 11 = .ok (.bipush 7, 2) := by decide +kernel
theorem dX5_erase_13 : decode cX5_erase 13 = .ok (.imul, 1) := by decide +kernel
theorem dX5_erase_14 : decode cX5_erase 14 = .ok (.iload_n 2, 1) := by decide +kernel
theorem dX5_erase_15 : decode cX5_erase 15 = .ok (.bipush 7, 2) := by decide +kernel
theorem dX5_erase_17 : decode cX5_erase 17 = .ok (.imul, 1) := by decide +kernel
theorem dX5_erase_18 : decode cX5_erase 18 = .ok (.aload_n 0, 1) := by decide +kernel
theorem dX5_erase_19 : decode cX5_erase 19 = .ok (.getfield 21, 3) := by decide +kernel
theorem dX5_erase_22 : decode cX5_erase 22 = .ok (.bipush 7, 2) := by decide +kernel
theorem dX5_erase_24 : decode cX5_erase 24 = .ok (.imul, 1) := by decide +kernel
theorem dX5_erase_25 : decode cX5_erase 25 = .ok (.invokevirtual 85, 3) := by decide +kernel
theorem dX5_erase_28 : decode cX5_erase 28 = .ok (.aload_n 0, 1) := by decide +kernel
theorem dX5_erase_29 : decode cX5_erase 29 = .ok (.dup, 1) := by decide +kernel
theorem dX5_erase_30 : decode cX5_erase 30 = .ok (.getfield 21, 3) := by decide +kernel
theorem dX5_erase_33 : decode cX5_erase 33 = .ok (.iload_n 2, 1) := by decide +kernel
theorem dX5_erase_34 : decode cX5_erase 34 = .ok (.iload_n 1, 1) := by decide +kernel
theorem dX5_erase_35 : decode cX5_erase 35 = .ok (.isub, 1) := by decide +kernel
theorem dX5_erase_36 : decode cX5_erase 36 = .ok (.isub, 1) := by decide +kernel
theorem dX5_erase_37 : decode cX5_erase 37 = .ok (.putfield 21, 3) := by decide +kernel
theorem dX5_erase_40 : decode cX5_erase 40 = .ok (.aload_n 0, 1) := by decide +kernel
theorem dX5_erase_41 : decode cX5_erase 41 = .ok (.getfield 12, 3) := by decide +kernel
theorem dX5_erase_44 : decode cX5_erase 44 = .ok (.aload_n 0, 1) := by decide +kernel
theorem dX5_erase_45 : decode cX5_erase 45 = .ok (.getfield 21, 3) := by decide +kernel
theorem dX5_erase_48 : decode cX5_erase 48 = .ok (.bipush 7, 2) := by decide +kernel
theorem dX5_erase_50 : decode cX5_erase 50 = .ok (.imul, 1) := by decide +kernel
theorem dX5_erase_51 : decode cX5_erase 51 = .ok (.invokevirtual 25, 3) := by decide +kernel
theorem dX5_erase_54 : decode cX5_erase 54 = .ok (.return_, 1) := by decide +kernel
theorem dX5_placeFor_0 : decode cX5_placeFor 0 = .ok (.aload_n 0, 1) := by decide +kernel
theorem dX5_placeFor_1 : decode cX5_placeFor 1 = .ok (.iload_n 2, 1) := by decide +kernel
theorem dX5_placeFor_2 : decode cX5_placeFor 2 = .ok (.invokevirtual 60, 3) := by decide +kernel
theorem dX5_placeFor_5 : decode cX5_placeFor 5 = .ok (.istore 4, 2) := by decide +kernel
theorem dX5_placeFor_7 : decode cX5_placeFor 7 = .ok (.aload_n 0, 1) := by decide +kernel
theorem dX5_placeFor_8 : decode cX5_placeFor 8 = .ok (.iload_n 2, 1) := by decide +kernel
theorem dX5_placeFor_9 : decode cX5_placeFor 9 = .ok (.iconst 1, 1) := by decide +kernel
theorem dX5_placeFor_10 : decode cX5_placeFor 10 = .ok (.invokevirtual 44, 3) := by decide +kernel
theorem dX5_placeFor_13 : decode cX5_placeFor 13 = .ok (.iconst 1, 1) := by decide +kernel
theorem dX5_placeFor_14 : decode cX5_placeFor 14 = .ok (.iadd, 1) := by decide +kernel
theorem dX5_placeFor_15 : decode cX5_placeFor 15 = .ok (.istore 5, 2) := by decide +kernel
theorem dX5_placeFor_17 : decode cX5_placeFor 17 = .ok (.iconst 0, 1) := by decide +kernel
theorem dX5_placeFor_18 : decode cX5_placeFor 18 = .ok (.istore 6, 2) := by decide +kernel
theorem dX5_placeFor_20 : decode cX5_placeFor 20 = .ok (.iload_n 2, 1) := by decide +kernel
theorem dX5_placeFor_21 : decode cX5_placeFor 21 = .ok (.iconst 1, 1) := by decide +kernel
theorem dX5_placeFor_22 : decode cX5_placeFor 22 = .ok (.iadd, 1) := by decide +kernel
theorem dX5_placeFor_23 : decode cX5_placeFor 23 = .ok (.istore 7, 2) := by decide +kernel
theorem dX5_placeFor_25 : decode cX5_placeFor 25 = .ok (.iload 7, 2) := by decide +kernel
theorem dX5_placeFor_27 : decode cX5_placeFor 27 = .ok (.iload 4, 2) := by decide +kernel
theorem dX5_placeFor_29 : decode cX5_placeFor 29 = .ok (.if_icmp .ge 39, 3) := by decide +kernel
theorem dX5_placeFor_32 : decode cX5_placeFor 32 = .ok (.iload 7, 2) := by decide +kernel
theorem dX5_placeFor_34 : decode cX5_placeFor 34 = .ok (.iload_n 1, 1) := by decide +kernel
theorem dX5_placeFor_35 : decode cX5_placeFor 35 = .ok (.if_icmp .eq 27, 3) := by decide +kernel
theorem dX5_placeFor_38 : decode cX5_placeFor 38 = .ok (.aload_n 0, 1) := by decide +kernel
theorem dX5_placeFor_39 : decode cX5_placeFor 39 = .ok (.iload 7, 2) := by decide +kernel
theorem dX5_placeFor_41 : decode cX5_placeFor 41 = .ok (.iconst 1, 1) := by decide +kernel
theorem dX5_placeFor_42 : decode cX5_placeFor 42 = .ok (.invokevirtual 44, 3) := by decide +kernel
theorem dX5_placeFor_45 : decode cX5_placeFor 45 = .ok (.iload 5, 2) := by decide +kernel
theorem dX5_placeFor_47 : decode cX5_placeFor 47 = .ok (.if_icmp .ne 15, 3) := by decide +kernel
theorem dX5_placeFor_50 : decode cX5_placeFor 50 = .ok (.iload 6, 2) := by decide +kernel
theorem dX5_placeFor_52 : decode cX5_placeFor 52 = .ok (.iload_n 3, 1) := by decide +kernel
theorem dX5_placeFor_53 : decode cX5_placeFor 53 = .ok (.if_icmp .ne 6, 3) := by decide +kernel
theorem dX5_placeFor_56 : decode cX5_placeFor 56 = .ok (.iload 7, 2) := by decide +kernel
theorem dX5_placeFor_58 : decode cX5_placeFor 58 = .ok (.ireturn, 1) := by decide +kernel
theorem dX5_placeFor_59 : decode cX5_placeFor 59 = .ok (.iinc 6 1, 3) := by decide +kernel
theorem dX5_placeFor_62 : decode cX5_placeFor 62 = .ok (.iinc 7 1, 3) := by decide +kernel
theorem dX5_placeFor_65 : decode cX5_placeFor 65 = .ok (.goto (-40), 3) := by decide +kernel
theorem dX5_placeFor_68 : decode cX5_placeFor 68 = .ok (.iload 6, 2) := by decide +kernel
theorem dX5_placeFor_70 : decode cX5_placeFor 70 = .ok (.iload_n 3, 1) := by decide +kernel
theorem dX5_placeFor_71 : decode cX5_placeFor 71 = .ok (.if_icmp .ne 8, 3) := by decide +kernel
theorem dX5_placeFor_74 : decode cX5_placeFor 74 = .ok (.iload 4, 2) := by decide +kernel
theorem dX5_placeFor_76 : decode cX5_placeFor 76 = .ok (.goto 4, 3) := by decide +kernel
theorem dX5_placeFor_79 : decode cX5_placeFor 79 = .ok (.iconst (-1), 1) := by decide +kernel
theorem dX5_placeFor_80 : decode cX5_placeFor 80 = .ok (.ireturn, 1) := by decide +kernel
theorem dX5_carry_0 : decode cX5_carry 0 = .ok (.aload_n 0, 1) := by decide +kernel
theorem dX5_carry_1 : decode cX5_carry 1 = .ok (.iload_n 1, 1) := by decide +kernel
theorem dX5_carry_2 : decode cX5_carry 2 = .ok (.invokevirtual 60, 3) := by decide +kernel
theorem dX5_carry_5 : decode cX5_carry 5 = .ok (.istore 4, 2) := by decide +kernel
theorem dX5_carry_7 : decode cX5_carry 7 = .ok (.aload_n 0, 1) := by decide +kernel
theorem dX5_carry_8 : decode cX5_carry 8 = .ok (.iload_n 2, 1) := by decide +kernel
theorem dX5_carry_9 : decode cX5_carry 9 = .ok (.iconst 1, 1) := by decide +kernel
theorem dX5_carry_10 : decode cX5_carry 10 = .ok (.invokevirtual 44, 3) := by decide +kernel
theorem dX5_carry_13 : decode cX5_carry 13 = .ok (.iconst 1, 1) := by decide +kernel
theorem dX5_carry_14 : decode cX5_carry 14 = .ok (.iadd, 1) := by decide +kernel
theorem dX5_carry_15 : decode cX5_carry 15 = .ok (.aload_n 0, 1) := by decide +kernel
theorem dX5_carry_16 : decode cX5_carry 16 = .ok (.iload_n 1, 1) := by decide +kernel
theorem dX5_carry_17 : decode cX5_carry 17 = .ok (.iconst 1, 1) := by decide +kernel
theorem dX5_carry_18 : decode cX5_carry 18 = .ok (.invokevirtual 44, 3) := by decide +kernel
theorem dX5_carry_21 : decode cX5_carry 21 = .ok (.isub, 1) := by decide +kernel
theorem dX5_carry_22 : decode cX5_carry 22 = .ok (.istore 5, 2) := by decide +kernel
theorem dX5_carry_24 : decode cX5_carry 24 = .ok (.aload_n 0, 1) := by decide +kernel
theorem dX5_carry_25 : decode cX5_carry 25 = .ok (.iload_n 2, 1) := by decide +kernel
theorem dX5_carry_26 : decode cX5_carry 26 = .ok (.iconst 2, 1) := by decide +kernel
theorem dX5_carry_27 : decode cX5_carry 27 = .ok (.invokevirtual 44, 3) := by decide +kernel
theorem dX5_carry_30 : decode cX5_carry 30 = .ok (.iconst 1, 1) := by decide +kernel
theorem dX5_carry_31 : decode cX5_carry 31 = .ok (.iadd, 1) := by decide +kernel
theorem dX5_carry_32 : decode cX5_carry 32 = .ok (.aload_n 0, 1) := by decide +kernel
theorem dX5_carry_33 : decode cX5_carry 33 = .ok (.iload_n 1, 1) := by decide +kernel
theorem dX5_carry_34 : decode cX5_carry 34 = .ok (.iconst 2, 1) := by decide +kernel
theorem dX5_carry_35 : decode cX5_carry 35 = .ok (.invokevirtual 44, 3) := by decide +kernel
theorem dX5_carry_38 : decode cX5_carry 38 = .ok (.isub, 1) := by decide +kernel
theorem dX5_carry_39 : decode cX5_carry 39 = .ok (.istore 6, 2) := by decide +kernel
theorem dX5_carry_41 : decode cX5_carry 41 = .ok (.iload_n 1, 1) := by decide +kernel
theorem dX5_carry_42 : decode cX5_carry 42 = .ok (.istore 7, 2) := by decide +kernel
theorem dX5_carry_44 : decode cX5_carry 44 = .ok (.iload 7, 2) := by decide +kernel
theorem dX5_carry_46 : decode cX5_carry 46 = .ok (.iload 4, 2) := by decide +kernel
theorem dX5_carry_48 : decode cX5_carry 48 = .ok (.if_icmp .ge 43, 3) := by decide +kernel
theorem dX5_carry_51 : decode cX5_carry 51 = .ok (.aload_n 0, 1) := by decide +kernel
theorem dX5_carry_52 : decode cX5_carry 52 = .ok (.iload 7, 2) := by decide +kernel
theorem dX5_carry_54 : decode cX5_carry 54 = .ok (.iconst 1, 1) := by decide +kernel
theorem dX5_carry_55 : decode cX5_carry 55 = .ok (.aload_n 0, 1) := by decide +kernel
theorem dX5_carry_56 : decode cX5_carry 56 = .ok (.iload 7, 2) := by decide +kernel
theorem dX5_carry_58 : decode cX5_carry 58 = .ok (.iconst 1, 1) := by decide +kernel
theorem dX5_carry_59 : decode cX5_carry 59 = .ok (.invokevirtual 44, 3) := by decide +kernel
theorem dX5_carry_62 : decode cX5_carry 62 = .ok (.iload 5, 2) := by decide +kernel
theorem dX5_carry_64 : decode cX5_carry 64 = .ok (.iadd, 1) := by decide +kernel
theorem dX5_carry_65 : decode cX5_carry 65 = .ok (.invokevirtual 56, 3) := by decide +kernel
theorem dX5_carry_68 : decode cX5_carry 68 = .ok (.aload_n 0, 1) := by decide +kernel
theorem dX5_carry_69 : decode cX5_carry 69 = .ok (.iload 7, 2) := by decide +kernel
theorem dX5_carry_71 : decode cX5_carry 71 = .ok (.iconst 2, 1) := by decide +kernel
theorem dX5_carry_72 : decode cX5_carry 72 = .ok (.aload_n 0, 1) := by decide +kernel
theorem dX5_carry_73 : decode cX5_carry 73 = .ok (.iload 7, 2) := by decide +kernel
theorem dX5_carry_75 : decode cX5_carry 75 = .ok (.iconst 2, 1) := by decide +kernel
theorem dX5_carry_76 : decode cX5_carry 76 = .ok (.invokevirtual 44, 3) := by decide +kernel
theorem dX5_carry_79 : decode cX5_carry 79 = .ok (.iload 6, 2) := by decide +kernel
theorem dX5_carry_81 : decode cX5_carry 81 = .ok (.iadd, 1) := by decide +kernel
theorem dX5_carry_82 : decode cX5_carry 82 = .ok (.invokevirtual 56, 3) := by decide +kernel
theorem dX5_carry_85 : decode cX5_carry 85 = .ok (.iinc 7 1, 3) := by decide +kernel
theorem dX5_carry_88 : decode cX5_carry 88 = .ok (.goto (-44), 3) := by decide +kernel
theorem dX5_carry_91 : decode cX5_carry 91 = .ok (.iload_n 3, 1) := by decide +kernel
theorem dX5_carry_92 : decode cX5_carry 92 = .ok (.iload_n 1, 1) := by decide +kernel
theorem dX5_carry_93 : decode cX5_carry 93 = .ok (.if_icmp .gt 25, 3) := by decide +kernel
theorem dX5_carry_96 : decode cX5_carry 96 = .ok (.aload_n 0, 1) := by decide +kernel
theorem dX5_carry_97 : decode cX5_carry 97 = .ok (.getfield 12, 3) := by decide +kernel
theorem dX5_carry_100 : decode cX5_carry 100 = .ok (.iload_n 3, 1) := by decide +kernel
theorem dX5_carry_101 : decode cX5_carry 101 = .ok (.bipush 7, 2) := by decide +kernel
theorem dX5_carry_103 : decode cX5_carry 103 = .ok (.imul, 1) := by decide +kernel
theorem dX5_carry_104 : decode cX5_carry 104 = .ok (.iload_n 1, 1) := by decide +kernel
theorem dX5_carry_105 : decode cX5_carry 105 = .ok (.bipush 7, 2) := by decide +kernel
theorem dX5_carry_107 : decode cX5_carry 107 = .ok (.imul, 1) := by decide +kernel
theorem dX5_carry_108 : decode cX5_carry 108 = .ok (.iload 4, 2) := by decide +kernel
theorem dX5_carry_110 : decode cX5_carry 110 = .ok (.bipush 7, 2) := by decide +kernel
theorem dX5_carry_112 : decode cX5_carry 112 = .ok (.imul, 1) := by decide +kernel
theorem dX5_carry_113 : decode cX5_carry 113 = .ok (.invokevirtual 85, 3) := by decide +kernel
theorem dX5_carry_116 : decode cX5_carry 116 = .ok (.iload_n 3, 1) := by decide +kernel
theorem dX5_carry_117 : decode cX5_carry 117 = .ok (.ireturn, 1) := by decide +kernel
theorem dX5_carry_118 : decode cX5_carry 118 = .ok (.aload_n 0, 1) := by decide +kernel
theorem dX5_carry_119 : decode cX5_carry 119 = .ok (.getfield 12, 3) := by decide +kernel
theorem dX5_carry_122 : decode cX5_carry 122 = .ok (.iload_n 1, 1) := by decide +kernel
theorem dX5_carry_123 : decode cX5_carry 123 = .ok (.bipush 7, 2) := by decide +kernel
theorem dX5_carry_125 : decode cX5_carry 125 = .ok (.imul, 1) := by decide +kernel
theorem dX5_carry_126 : decode cX5_carry 126 = .ok (.iload 4, 2) := by decide +kernel
theorem dX5_carry_128 : decode cX5_carry 128 = .ok (.bipush 7, 2) := by decide +kernel
theorem dX5_carry_130 : decode cX5_carry 130 = .ok (.imul, 1) := by decide +kernel
theorem dX5_carry_131 : decode cX5_carry 131 = .ok (.iload_n 3, 1) := by decide +kernel
theorem dX5_carry_132 : decode cX5_carry 132 = .ok (.bipush 7, 2) := by decide +kernel
theorem dX5_carry_134 : decode cX5_carry 134 = .ok (.imul, 1) := by decide +kernel
theorem dX5_carry_135 : decode cX5_carry 135 = .ok (.invokevirtual 85, 3) := by decide +kernel
theorem dX5_carry_138 : decode cX5_carry 138 = .ok (.iload_n 3, 1) := by decide +kernel
theorem dX5_carry_139 : decode cX5_carry 139 = .ok (.iload 4, 2) := by decide +kernel
theorem dX5_carry_141 : decode cX5_carry 141 = .ok (.iload_n 1, 1) := by decide +kernel
theorem dX5_carry_142 : decode cX5_carry 142 = .ok (.isub, 1) := by decide +kernel
theorem dX5_carry_143 : decode cX5_carry 143 = .ok (.isub, 1) := by decide +kernel
theorem dX5_carry_144 : decode cX5_carry 144 = .ok (.ireturn, 1) := by decide +kernel
theorem dX6_init_0 : decode cX6_init 0 = .ok (.aload_n 0, 1) := by decide +kernel
theorem dX6_init_1 : decode cX6_init 1 = .ok (.invokespecial 1, 3) := by decide +kernel
theorem dX6_init_4 : decode cX6_init 4 = .ok (.aload_n 0, 1) := by decide +kernel
theorem dX6_init_5 : decode cX6_init 5 = .ok (.new 7, 3) := by decide +kernel
theorem dX6_init_8 : decode cX6_init 8 = .ok (.dup, 1) := by decide +kernel
theorem dX6_init_9 : decode cX6_init 9 = .ok (.invokespecial 9, 3) := by decide +kernel
theorem dX6_init_12 : decode cX6_init 12 = .ok (.putfield 10, 3) := by decide +kernel
theorem dX6_init_15 : decode cX6_init 15 = .ok (.aload_n 0, 1) := by decide +kernel
theorem dX6_init_16 : decode cX6_init 16 = .ok (.new 7, 3) := by decide +kernel
theorem dX6_init_19 : decode cX6_init 19 = .ok (.dup, 1) := by decide +kernel
theorem dX6_init_20 : decode cX6_init 20 = .ok (.invokespecial 9, 3) := by decide +kernel
theorem dX6_init_23 : decode cX6_init 23 = .ok (.putfield 16, 3) := by decide +kernel
theorem dX6_init_26 : decode cX6_init 26 = .ok (.aload_n 0, 1) := by decide +kernel
theorem dX6_init_27 : decode cX6_init 27 = .ok (.new 19, 3) := by decide +kernel
theorem dX6_init_30 : decode cX6_init 30 = .ok (.dup, 1) := by decide +kernel
theorem dX6_init_31 : decode cX6_init 31 = .ok (.invokespecial 21, 3) := by decide +kernel
theorem dX6_init_34 : decode cX6_init 34 = .ok (.putfield 22, 3) := by decide +kernel
theorem dX6_init_37 : decode cX6_init 37 = .ok (.aload_n 0, 1) := by decide +kernel
theorem dX6_init_38 : decode cX6_init 38 = .ok (.new 26, 3) := by decide +kernel
theorem dX6_init_41 : decode cX6_init 41 = .ok (.dup, 1) := by decide +kernel
theorem dX6_init_42 : decode cX6_init 42 = .ok (.invokespecial 28, 3) := by decide +kernel
theorem dX6_init_45 : decode cX6_init 45 = .ok (.putfield 29, 3) := by decide +kernel
theorem dX6_init_48 : decode cX6_init 48 = .ok (.aload_n 0, 1) := by decide +kernel
theorem dX6_init_49 : decode cX6_init 49 = .ok (.new 33, 3) := by decide +kernel
theorem dX6_init_52 : decode cX6_init 52 = .ok (.dup, 1) := by decide +kernel
theorem dX6_init_53 : decode cX6_init 53 = .ok (.aload_n 0, 1) := by decide +kernel
theorem dX6_init_54 : decode cX6_init 54 = .ok (.getfield 10, 3) := by decide +kernel
theorem dX6_init_57 : decode cX6_init 57 = .ok (.aload_n 0, 1) := by decide +kernel
theorem dX6_init_58 : decode cX6_init 58 = .ok (.getfield 22, 3) := by decide +kernel
theorem dX6_init_61 : decode cX6_init 61 = .ok (.invokespecial 35, 3) := by decide +kernel
theorem dX6_init_64 : decode cX6_init 64 = .ok (.putfield 38, 3) := by decide +kernel
theorem dX6_init_67 : decode cX6_init 67 = .ok (.aload_n 0, 1) := by decide +kernel
theorem dX6_init_68 : decode cX6_init 68 = .ok (.new 42, 3) := by decide +kernel
theorem dX6_init_71 : decode cX6_init 71 = .ok (.dup, 1) := by decide +kernel
theorem dX6_init_72 : decode cX6_init 72 = .ok (.aload_n 0, 1) := by decide +kernel
theorem dX6_init_73 : decode cX6_init 73 = .ok (.getfield 10, 3) := by decide +kernel
theorem dX6_init_76 : decode cX6_init 76 = .ok (.aload_n 0, 1) := by decide +kernel
theorem dX6_init_77 : decode cX6_init 77 = .ok (.getfield 38, 3) := by decide +kernel
theorem dX6_init_80 : decode cX6_init 80 = .ok (.aload_n 0, 1) := by decide +kernel
theorem dX6_init_81 : decode cX6_init 81 = .ok (.getfield 29, 3) := by decide +kernel
theorem dX6_init_84 : decode cX6_init 84 = .ok (.aload_n 0, 1) := by decide +kernel
theorem dX6_init_85 : decode cX6_init 85 = .ok (.getfield 22, 3) := by decide +kernel
theorem dX6_init_88 : decode cX6_init 88 = .ok (.invokespecial 44, 3) := by decide +kernel
theorem dX6_init_91 : decode cX6_init 91 = .ok (.putfield 47, 3) := by decide +kernel
theorem dX6_init_94 : decode cX6_init 94 = .ok (.aload_n 0, 1) := by decide +kernel
theorem dX6_init_95 : decode cX6_init 95 = .ok (.new 51, 3) := by decide +kernel
theorem dX6_init_98 : decode cX6_init 98 = .ok (.dup, 1) := by decide +kernel
theorem dX6_init_99 : decode cX6_init 99 = .ok (.aload_n 0, 1) := by decide +kernel
theorem dX6_init_100 : decode cX6_init 100 = .ok (.getfield 29, 3) := by decide +kernel
theorem dX6_init_103 : decode cX6_init 103 = .ok (.invokespecial 53, 3) := by decide +kernel
theorem dX6_init_106 : decode cX6_init 106 = .ok (.putfield 56, 3) := by decide +kernel
theorem dX6_init_109 : decode cX6_init 109 = .ok (.aload_n 0, 1) := by decide +kernel
theorem dX6_init_110 : decode cX6_init 110 = .ok (.getfield 29, 3) := by decide +kernel
theorem dX6_init_113 : decode cX6_init 113 = .ok (.invokevirtual 60, 3) := by decide +kernel
theorem dX6_init_116 : decode cX6_init 116 = .ok (.return_, 1) := by decide +kernel
theorem dX6_feed_0 : decode cX6_feed 0 = .ok (.aload_n 0, 1) := by decide +kernel
theorem dX6_feed_1 : decode cX6_feed 1 = .ok (.lload_n 1, 1) := by decide +kernel
theorem dX6_feed_2 : decode cX6_feed 2 = .ok (.invokevirtual 63, 3) := by decide +kernel
theorem dX6_feed_5 : decode cX6_feed 5 = .ok (.iconst 0, 1) := by decide +kernel
theorem dX6_feed_6 : decode cX6_feed 6 = .ok (.istore_n 3, 1) := by decide +kernel
theorem dX6_feed_7 : decode cX6_feed 7 = .ok (.iload_n 3, 1) := by decide +kernel
theorem dX6_feed_8 : decode cX6_feed 8 = .ok (.aload_n 0, 1) := by decide +kernel
theorem dX6_feed_9 : decode cX6_feed 9 = .ok (.getfield 16, 3) := by decide +kernel
theorem dX6_feed_12 : decode cX6_feed 12 = .ok (.invokevirtual 67, 3) := by decide +kernel
theorem dX6_feed_15 : decode cX6_feed 15 = .ok (.if_icmp .ge 33, 3) := by decide +kernel
theorem dX6_feed_18 : decode cX6_feed 18 = .ok (.aload_n 0, 1) := by decide +kernel
theorem dX6_feed_19 : decode cX6_feed 19 = .ok (.getfield 16, 3) := by decide +kernel
theorem dX6_feed_22 : decode cX6_feed 22 = .ok (.iload_n 3, 1) := by decide +kernel
theorem dX6_feed_23 : decode cX6_feed 23 = .ok (.invokevirtual 71, 3) := by decide +kernel
theorem dX6_feed_26 : decode cX6_feed 26 = .ok (.invokestatic 75, 3) := by decide +kernel
theorem dX6_feed_29 : decode cX6_feed 29 = .ok (.ifCond .ne 13, 3) := by decide +kernel
theorem dX6_feed_32 : decode cX6_feed 32 = .ok (.new 79, 3) := by decide +kernel
theorem dX6_feed_35 : decode cX6_feed 35 = .ok (.dup, 1) := by decide +kernel
theorem dX6_feed_36 : decode cX6_feed 36 = .ok (.ldc 81, 2) := by decide +kernel
theorem dX6_feed_38 : decode cX6_feed 38 = .ok (.invokespecial 83, 3) := by decide +kernel
theorem dX6_feed_41 : decode cX6_feed 41 = .ok (.athrow, 1) := by decide +kernel
theorem dX6_feed_42 : decode cX6_feed 42 = .ok (.iinc 3 1, 3) := by decide +kernel
theorem dX6_feed_45 : decode cX6_feed 45 = .ok (.goto (-38), 3) := by decide +kernel
theorem dX6_feed_48 : decode cX6_feed 48 = .ok (.aload_n 0, 1) := by decide +kernel
theorem dX6_feed_49 : decode cX6_feed 49 = .ok (.getfield 10, 3) := by decide +kernel
theorem dX6_feed_52 : decode cX6_feed 52 = .ok (.invokevirtual 67, 3) := by decide +kernel
theorem dX6_feed_55 : decode cX6_feed 55 = .ok (.aload_n 0, 1) := by decide +kernel
theorem dX6_feed_56 : decode cX6_feed 56 = .ok (.getfield 16, 3) := by decide +kernel
theorem dX6_feed_59 : decode cX6_feed 59 = .ok (.invokevirtual 67, 3) := by decide +kernel
theorem dX6_feed_62 : decode cX6_feed 62 = .ok (.iadd, 1) := by decide +kernel
theorem dX6_feed_63 : decode cX6_feed 63 = .ok (.sipush 600, 3) := by decide +kernel
theorem dX6_feed_66 : decode cX6_feed 66 = .ok (.if_icmp .le 13, 3) := by decide +kernel
theorem dX6_feed_69 : decode cX6_feed 69 = .ok (.new 86, 3) := by decide +kernel
theorem dX6_feed_72 : decode cX6_feed 72 = .ok (.dup, 1) := by decide +kernel
theorem dX6_feed_73 : decode cX6_feed 73 = .ok (.ldc 88, 2) := by decide +kernel
theorem dX6_feed_75 : decode cX6_feed 75 = .ok (.invokespecial 90, 3) := by decide +kernel
theorem dX6_feed_78 : decode cX6_feed 78 = .ok (.athrow, 1) := by decide +kernel
theorem dX6_feed_79 : decode cX6_feed 79 = .ok (.iconst 0, 1) := by decide +kernel
theorem dX6_feed_80 : decode cX6_feed 80 = .ok (.istore_n 3, 1) := by decide +kernel
theorem dX6_feed_81 : decode cX6_feed 81 = .ok (.iload_n 3, 1) := by decide +kernel
theorem dX6_feed_82 : decode cX6_feed 82 = .ok (.aload_n 0, 1) := by decide +kernel
theorem dX6_feed_83 : decode cX6_feed 83 = .ok (.getfield 16, 3) := by decide +kernel
theorem dX6_feed_86 : decode cX6_feed 86 = .ok (.invokevirtual 67, 3) := by decide +kernel
theorem dX6_feed_89 : decode cX6_feed 89 = .ok (.if_icmp .ge 24, 3) := by decide +kernel
theorem dX6_feed_92 : decode cX6_feed 92 = .ok (.aload_n 0, 1) := by decide +kernel
theorem dX6_feed_93 : decode cX6_feed 93 = .ok (.getfield 10, 3) := by decide +kernel
theorem dX6_feed_96 : decode cX6_feed 96 = .ok (.aload_n 0, 1) := by decide +kernel
theorem dX6_feed_97 : decode cX6_feed 97 = .ok (.getfield 16, 3) := by decide +kernel
theorem dX6_feed_100 : decode cX6_feed 100 = .ok (.iload_n 3, 1) := by decide +kernel
theorem dX6_feed_101 : decode cX6_feed 101 = .ok (.invokevirtual 71, 3) := by decide +kernel
theorem dX6_feed_104 : decode cX6_feed 104 = .ok (.invokevirtual 91, 3) := by decide +kernel
theorem dX6_feed_107 : decode cX6_feed 107 = .ok (.iinc 3 1, 3) := by decide +kernel
theorem dX6_feed_110 : decode cX6_feed 110 = .ok (.goto (-29), 3) := by decide +kernel
theorem dX6_feed_113 : decode cX6_feed 113 = .ok (.aload_n 0, 1) := by decide +kernel
theorem dX6_feed_114 : decode cX6_feed 114 = .ok (.getfield 10, 3) := by decide +kernel
theorem dX6_feed_117 : decode cX6_feed 117 = .ok (.invokevirtual 67, 3) := by decide +kernel
theorem dX6_feed_120 : decode cX6_feed 120 = .ok (.ireturn, 1) := by decide +kernel
theorem dX6_trim_0 : decode cX6_trim 0 = .ok (.aload_n 0, 1) := by decide +kernel
theorem dX6_trim_1 : decode cX6_trim 1 = .ok (.getfield 10, 3) := by decide +kernel
theorem dX6_trim_4 : decode cX6_trim 4 = .ok (.invokevirtual 67, 3) := by decide +kernel
theorem dX6_trim_7 : decode cX6_trim 7 = .ok (.istore_n 2, 1) := by decide +kernel
theorem dX6_trim_8 : decode cX6_trim 8 = .ok (.iload_n 1, 1) := by decide +kernel
theorem dX6_trim_9 : decode cX6_trim 9 = .ok (.ifCond .lt 8, 3) := by decide +kernel
theorem dX6_trim_12 : decode cX6_trim 12 = .ok (.iload_n 1, 1) := by decide +kernel
theorem dX6_trim_13 : decode cX6_trim 13 = .ok (.iload_n 2, 1) := by decide +kernel
theorem dX6_trim_14 : decode cX6_trim 14 = .ok (.if_icmp .le 13, 3) := by decide +kernel
theorem dX6_trim_17 : decode cX6_trim 17 = .ok (.new 79, 3) := by decide +kernel
theorem dX6_trim_20 : decode cX6_trim 20 = .ok (.dup, 1) := by decide +kernel
theorem dX6_trim_21 : decode cX6_trim 21 = .ok (.ldc 95, 2) := by decide +kernel
theorem dX6_trim_23 : decode cX6_trim 23 = .ok (.invokespecial 83, 3) := by decide +kernel
theorem dX6_trim_26 : decode cX6_trim 26 = .ok (.athrow, 1) := by decide +kernel
theorem dX6_trim_27 : decode cX6_trim 27 = .ok (.aload_n 0, 1) := by decide +kernel
theorem dX6_trim_28 : decode cX6_trim 28 = .ok (.getfield 10, 3) := by decide +kernel
theorem dX6_trim_31 : decode cX6_trim 31 = .ok (.iload_n 1, 1) := by decide +kernel
theorem dX6_trim_32 : decode cX6_trim 32 = .ok (.invokevirtual 97, 3) := by decide +kernel
theorem dX6_trim_35 : decode cX6_trim 35 = .ok (.iload_n 2, 1) := by decide +kernel
theorem dX6_trim_36 : decode cX6_trim 36 = .ok (.ireturn, 1) := by decide +kernel
theorem dX6_length_0 : decode cX6_length 0 = .ok (.aload_n 0, 1) := by decide +kernel
theorem dX6_length_1 : decode cX6_length 1 = .ok (.getfield 10, 3) := by decide +kernel
theorem dX6_length_4 : decode cX6_length 4 = .ok (.invokevirtual 67, 3) := by decide +kernel
theorem dX6_length_7 : decode cX6_length 7 = .ok (.ireturn, 1) := by decide +kernel
theorem dX6_parse_0 : decode cX6_parse 0 = .ok (.aload_n 0, 1) := by decide +kernel
theorem dX6_parse_1 : decode cX6_parse 1 = .ok (.getfield 22, 3) := by decide +kernel
theorem dX6_parse_4 : decode cX6_parse 4 = .ok (.invokevirtual 100, 3) := by decide +kernel
theorem dX6_parse_7 : decode cX6_parse 7 = .ok (.aload_n 0, 1) := by decide +kernel
theorem dX6_parse_8 : decode cX6_parse 8 = .ok (.getfield 29, 3) := by decide +kernel
theorem dX6_parse_11 : decode cX6_parse 11 = .ok (.invokevirtual 60, 3) := by decide +kernel
theorem dX6_parse_14 : decode cX6_parse 14 = .ok (.aload_n 0, 1) := by decide +kernel
theorem dX6_parse_15 : decode cX6_parse 15 = .ok (.getfield 38, 3) := by decide +kernel
theorem dX6_parse_18 : decode cX6_parse 18 = .ok (.invokevirtual 101, 3) := by decide +kernel
theorem dX6_parse_21 : decode cX6_parse 21 = .ok (.aload_n 0, 1) := by decide +kernel
theorem dX6_parse_22 : decode cX6_parse 22 = .ok (.getfield 47, 3) := by decide +kernel
theorem dX6_parse_25 : decode cX6_parse 25 = .ok (.invokevirtual 102, 3) := by decide +kernel
theorem dX6_parse_28 : decode cX6_parse 28 = .ok (.iconst 0, 1) := by decide +kernel
theorem dX6_parse_29 : decode cX6_parse 29 = .ok (.istore_n 1, 1) := by decide +kernel
theorem dX6_parse_30 : decode cX6_parse 30 = .ok (.iload_n 1, 1) := by decide +kernel
theorem dX6_parse_31 : decode cX6_parse 31 = .ok (.sipush 600, 3) := by decide +kernel
theorem dX6_parse_34 : decode cX6_parse 34 = .ok (.if_icmp .gt 26, 3) := by decide +kernel
theorem dX6_parse_37 : decode cX6_parse 37 = .ok (.aload_n 0, 1) := by decide +kernel
theorem dX6_parse_38 : decode cX6_parse 38 = .ok (.getfield 38, 3) := by decide +kernel
theorem dX6_parse_41 : decode cX6_parse 41 = .ok (.invokevirtual 103, 3) := by decide +kernel
theorem dX6_parse_44 : decode cX6_parse 44 = .ok (.ifCond .eq 16, 3) := by decide +kernel
theorem dX6_parse_47 : decode cX6_parse 47 = .ok (.aload_n 0, 1) := by decide +kernel
theorem dX6_parse_48 : decode cX6_parse 48 = .ok (.getfield 47, 3) := by decide +kernel
theorem dX6_parse_51 : decode cX6_parse 51 = .ok (.invokevirtual 107, 3) := by decide +kernel
theorem dX6_parse_54 : decode cX6_parse 54 = .ok (.iinc 1 1, 3) := by decide +kernel
theorem dX6_parse_57 : decode cX6_parse 57 = .ok (.goto (-27), 3) := by decide +kernel
theorem dX6_parse_60 : decode cX6_parse 60 = .ok (.aload_n 0, 1) := by decide +kernel
theorem dX6_parse_61 : decode cX6_parse 61 = .ok (.getfield 47, 3) := by decide +kernel
theorem dX6_parse_64 : decode cX6_parse 64 = .ok (.invokevirtual 110, 3) := by decide +kernel
theorem dX6_parse_67 : decode cX6_parse 67 = .ok (.aload_n 0, 1) := by decide +kernel
theorem dX6_parse_68 : decode cX6_parse 68 = .ok (.getfield 29, 3) := by decide +kernel
theorem dX6_parse_71 : decode cX6_parse 71 = .ok (.invokevirtual 113, 3) := by decide +kernel
theorem dX6_parse_74 : decode cX6_parse 74 = .ok (.ireturn, 1) := by decide +kernel
theorem dX6_repairCount_0 : decode cX6_repairCount 0 = .ok (.aload_n 0, 1) := by decide +kernel
theorem dX6_repairCount_1 : decode cX6_repairCount 1 = .ok (.getfield 22, 3) := by decide +kernel
theorem dX6_repairCount_4 : decode cX6_repairCount 4 = .ok (.invokevirtual 114, 3) := by decide +kernel
theorem dX6_repairCount_7 : decode cX6_repairCount 7 = .ok (.ireturn, 1) := by decide +kernel
theorem dX6_repair_0 : decode cX6_repair 0 = .ok (.iload_n 1, 1) := by decide +kernel
theorem dX6_repair_1 : decode cX6_repair 1 = .ok (.ifCond .lt 23, 3) := by decide +kernel
theorem dX6_repair_4 : decode cX6_repair 4 = .ok (.iload_n 1, 1) := by decide +kernel
theorem dX6_repair_5 : decode cX6_repair 5 = .ok (.aload_n 0, 1) := by decide +kernel
theorem dX6_repair_6 : decode cX6_repair 6 = .ok (.getfield 22, 3) := by decide +kernel
theorem dX6_repair_9 : decode cX6_repair 9 = .ok (.invokevirtual 114, 3) := by decide +kernel
theorem dX6_repair_12 : decode cX6_repair 12 = .ok (.if_icmp .ge 12, 3) := by decide +kernel
theorem dX6_repair_15 : decode cX6_repair 15 = .ok (.iload_n 2, 1) := by decide +kernel
theorem dX6_repair_16 : decode cX6_repair 16 = .ok (.ifCond .lt 8, 3) := by decide +kernel
theorem dX6_repair_19 : decode cX6_repair 19 = .ok (.iload_n 2, 1) := by decide +kernel
theorem dX6_repair_20 : decode cX6_repair 20 = .ok (.iconst 3, 1) := by decide +kernel
theorem dX6_repair_21 : decode cX6_repair 21 = .ok (.if_icmp .lt 13, 3) := by decide +kernel
theorem dX6_repair_24 : decode cX6_repair 24 = .ok (.new 115, 3) := by decide +kernel
theorem dX6_repair_27 : decode cX6_repair 27 = .ok (.dup, 1) := by decide +kernel
theorem dX6_repair_28 : decode cX6_repair 28 = .ok (.ldc 117, 2) := by decide +kernel
theorem dX6_repair_30 : decode cX6_repair 30 = .ok (.invokespecial 119, 3) := by decide +kernel
theorem dX6_repair_33 : decode cX6_repair 33 = .ok (.athrow, 1) := by decide +kernel
theorem dX6_repair_34 : decode cX6_repair 34 = .ok (.aload_n 0, 1) := by decide +kernel
theorem dX6_repair_35 : decode cX6_repair 35 = .ok (.getfield 22, 3) := by decide +kernel
theorem dX6_repair_38 : decode cX6_repair 38 = .ok (.iload_n 1, 1) := by decide +kernel
theorem dX6_repair_39 : decode cX6_repair 39 = .ok (.iload_n 2, 1) := by decide +kernel
theorem dX6_repair_40 : decode cX6_repair 40 = .ok (.invokevirtual 120, 3) := by decide +kernel
theorem dX6_repair_43 : decode cX6_repair 43 = .ok (.ireturn, 1) := by decide +kernel
theorem dX6_nodeCount_0 : decode cX6_nodeCount 0 = .ok (.aload_n 0, 1) := by decide +kernel
theorem dX6_nodeCount_1 : decode cX6_nodeCount 1 = .ok (.getfield 29, 3) := by decide +kernel
theorem dX6_nodeCount_4 : decode cX6_nodeCount 4 = .ok (.invokevirtual 113, 3) := by decide +kernel
theorem dX6_nodeCount_7 : decode cX6_nodeCount 7 = .ok (.ireturn, 1) := by decide +kernel
theorem dX6_kind_0 : decode cX6_kind 0 = .ok (.aload_n 0, 1) := by decide +kernel
theorem dX6_kind_1 : decode cX6_kind 1 = .ok (.iload_n 1, 1) := by decide +kernel
theorem dX6_kind_2 : decode cX6_kind 2 = .ok (.invokevirtual 124, 3) := by decide +kernel
theorem dX6_kind_5 : decode cX6_kind 5 = .ok (.aload_n 0, 1) := by decide +kernel
theorem dX6_kind_6 : decode cX6_kind 6 = .ok (.getfield 29, 3) := by decide +kernel
theorem dX6_kind_9 : decode cX6_kind 9 = .ok (.iload_n 1, 1) := by decide +kernel
theorem dX6_kind_10 : decode cX6_kind 10 = .ok (.iconst 0, 1) := by decide +kernel
theorem dX6_kind_11 : decode cX6_kind 11 = .ok (.invokevirtual 127, 3) := by decide +kernel
theorem dX6_kind_14 : decode cX6_kind 14 = .ok (.ireturn, 1) := by decide +kernel
theorem dX6_parent_0 : decode cX6_parent 0 = .ok (.aload_n 0, 1) := by decide +kernel
theorem dX6_parent_1 : decode cX6_parent 1 = .ok (.iload_n 1, 1) := by decide +kernel
theorem dX6_parent_2 : decode cX6_parent 2 = .ok (.invokevirtual 124, 3) := by decide +kernel
theorem dX6_parent_5 : decode cX6_parent 5 = .ok (.aload_n 0, 1) := by decide +kernel
theorem dX6_parent_6 : decode cX6_parent 6 = .ok (.getfield 29, 3) := by decide +kernel
theorem dX6_parent_9 : decode cX6_parent 9 = .ok (.iload_n 1, 1) := by decide +kernel
theorem dX6_parent_10 : decode cX6_parent 10 = .ok (.invokevirtual 128, 3) := by decide +kernel
theorem dX6_parent_13 : decode cX6_parent 13 = .ok (.ireturn, 1) := by decide +kernel
theorem dX6_childCount_0 : decode cX6_childCount 0 = .ok (.aload_n 0, 1) := by decide +kernel
theorem dX6_childCount_1 : decode cX6_childCount 1 = .ok (.iload_n 1, 1) := by decide +kernel
theorem dX6_childCount_2 : decode cX6_childCount 2 = .ok (.invokevirtual 124, 3) := by decide +kernel
theorem dX6_childCount_5 : decode cX6_childCount 5 = .ok (.aload_n 0, 1) := by decide +kernel
theorem dX6_childCount_6 : decode cX6_childCount 6 = .ok (.getfield 29, 3) := by decide +kernel
theorem dX6_childCount_9 : decode cX6_childCount 9 = .ok (.iload_n 1, 1) := by decide +kernel
theorem dX6_childCount_10 : decode cX6_childCount 10 = .ok (.invokevirtual 131, 3) := by decide +kernel
theorem dX6_childCount_13 : decode cX6_childCount 13 = .ok (.ireturn, 1) := by decide +kernel
theorem dX6_child_0 : decode cX6_child 0 = .ok (.aload_n 0, 1) := by decide +kernel
theorem dX6_child_1 : decode cX6_child 1 = .ok (.iload_n 1, 1) := by decide +kernel
theorem dX6_child_2 : decode cX6_child 2 = .ok (.invokevirtual 124, 3) := by decide +kernel
theorem dX6_child_5 : decode cX6_child 5 = .ok (.aload_n 0, 1) := by decide +kernel
theorem dX6_child_6 : decode cX6_child 6 = .ok (.getfield 29, 3) := by decide +kernel
theorem dX6_child_9 : decode cX6_child 9 = .ok (.iload_n 1, 1) := by decide +kernel
theorem dX6_child_10 : decode cX6_child 10 = .ok (.iload_n 2, 1) := by decide +kernel
theorem dX6_child_11 : decode cX6_child 11 = .ok (.invokevirtual 134, 3) := by decide +kernel
theorem dX6_child_14 : decode cX6_child 14 = .ok (.istore_n 3, 1) := by decide +kernel
theorem dX6_child_15 : decode cX6_child 15 = .ok (.iload_n 3, 1) := by decide +kernel
theorem dX6_child_16 : decode cX6_child 16 = .ok (.iconst (-1), 1) := by decide +kernel
theorem dX6_child_17 : decode cX6_child 17 = .ok (.if_icmp .ne 13, 3) := by decide +kernel
theorem dX6_child_20 : decode cX6_child 20 = .ok (.new 115, 3) := by decide +kernel
theorem dX6_child_23 : decode cX6_child 23 = .ok (.dup, 1) := by decide +kernel
theorem dX6_child_24 : decode cX6_child 24 = .ok (.ldc 137, 2) := by decide +kernel
theorem dX6_child_26 : decode cX6_child 26 = .ok (.invokespecial 119, 3) := by decide +kernel
theorem dX6_child_29 : decode cX6_child 29 = .ok (.athrow, 1) := by decide +kernel
theorem dX6_child_30 : decode cX6_child 30 = .ok (.iload_n 3, 1) := by decide +kernel
theorem dX6_child_31 : decode cX6_child 31 = .ok (.ireturn, 1) := by decide +kernel
theorem dX6_line_0 : decode cX6_line 0 = .ok (.aload_n 0, 1) := by decide +kernel
theorem dX6_line_1 : decode cX6_line 1 = .ok (.iload_n 1, 1) := by decide +kernel
theorem dX6_line_2 : decode cX6_line 2 = .ok (.invokevirtual 124, 3) := by decide +kernel
theorem dX6_line_5 : decode cX6_line 5 = .ok (.aload_n 0, 1) := by decide +kernel
theorem dX6_line_6 : decode cX6_line 6 = .ok (.getfield 29, 3) := by decide +kernel
theorem dX6_line_9 : decode cX6_line 9 = .ok (.iload_n 1, 1) := by decide +kernel
theorem dX6_line_10 : decode cX6_line 10 = .ok (.iconst 3, 1) := by decide +kernel
theorem dX6_line_11 : decode cX6_line 11 = .ok (.invokevirtual 127, 3) := by decide +kernel
theorem dX6_line_14 : decode cX6_line 14 = .ok (.ireturn, 1) := by decide +kernel
theorem dX6_column_0 : decode cX6_column 0 = .ok (.aload_n 0, 1) := by decide +kernel
theorem dX6_column_1 : decode cX6_column 1 = .ok (.iload_n 1, 1) := by decide +kernel
theorem dX6_column_2 : decode cX6_column 2 = .ok (.invokevirtual 124, 3) := by decide +kernel
theorem dX6_column_5 : decode cX6_column 5 = .ok (.aload_n 0, 1) := by decide +kernel
theorem dX6_column_6 : decode cX6_column 6 = .ok (.getfield 29, 3) := by decide +kernel
theorem dX6_column_9 : decode cX6_column 9 = .ok (.iload_n 1, 1) := by decide +kernel
theorem dX6_column_10 : decode cX6_column 10 = .ok (.iconst 4, 1) := by decide +kernel
theorem dX6_column_11 : decode cX6_column 11 = .ok (.invokevirtual 127, 3) := by decide +kernel
theorem dX6_column_14 : decode cX6_column 14 = .ok (.ireturn, 1) := by decide +kernel
theorem dX6_value_0 : decode cX6_value 0 = .ok (.aload_n 0, 1) := by decide +kernel
theorem dX6_value_1 : decode cX6_value 1 = .ok (.iload_n 1, 1) := by decide +kernel
theorem dX6_value_2 : decode cX6_value 2 = .ok (.invokevirtual 124, 3) := by decide +kernel
theorem dX6_value_5 : decode cX6_value 5 = .ok (.aload_n 0, 1) := by decide +kernel
theorem dX6_value_6 : decode cX6_value 6 = .ok (.getfield 29, 3) := by decide +kernel
theorem dX6_value_9 : decode cX6_value 9 = .ok (.iload_n 1, 1) := by decide +kernel
theorem dX6_value_10 : decode cX6_value 10 = .ok (.iconst 5, 1) := by decide +kernel
theorem dX6_value_11 : decode cX6_value 11 = .ok (.invokevirtual 127, 3) := by decide +kernel
theorem dX6_value_14 : decode cX6_value 14 = .ok (.ireturn, 1) := by decide +kernel
theorem dX6_letter_0 : decode cX6_letter 0 = .ok (.aload_n 0, 1) := by decide +kernel
theorem dX6_letter_1 : decode cX6_letter 1 = .ok (.iload_n 1, 1) := by decide +kernel
theorem dX6_letter_2 : decode cX6_letter 2 = .ok (.invokevirtual 124, 3) := by decide +kernel
theorem dX6_letter_5 : decode cX6_letter 5 = .ok (.aload_n 0, 1) := by decide +kernel
theorem dX6_letter_6 : decode cX6_letter 6 = .ok (.getfield 29, 3) := by decide +kernel
theorem dX6_letter_9 : decode cX6_letter 9 = .ok (.iload_n 1, 1) := by decide +kernel
theorem dX6_letter_10 : decode cX6_letter 10 = .ok (.iconst 2, 1) := by decide +kernel
theorem dX6_letter_11 : decode cX6_letter 11 = .ok (.invokevirtual 139, 3) := by decide +kernel
theorem dX6_letter_14 : decode cX6_letter 14 = .ok (.ifCond .eq 15, 3) := by decide +kernel
theorem dX6_letter_17 : decode cX6_letter 17 = .ok (.aload_n 0, 1) := by decide +kernel
theorem dX6_letter_18 : decode cX6_letter 18 = .ok (.getfield 29, 3) := by decide +kernel
theorem dX6_letter_21 : decode cX6_letter 21 = .ok (.iload_n 1, 1) := by decide +kernel
theorem dX6_letter_22 : decode cX6_letter 22 = .ok (.iload_n 2, 1) := by decide +kernel
theorem dX6_letter_23 : decode cX6_letter 23 = .ok (.invokevirtual 143, 3) := by decide +kernel
theorem dX6_letter_26 : decode cX6_letter 26 = .ok (.goto 4, 3) := by decide +kernel
theorem dX6_letter_29 : decode cX6_letter 29 = .ok (.iconst (-1), 1) := by decide +kernel
theorem dX6_letter_30 : decode cX6_letter 30 = .ok (.ireturn, 1) := by decide +kernel
theorem dX6_depth_0 : decode cX6_depth 0 = .ok (.aload_n 0, 1) := by decide +kernel
theorem dX6_depth_1 : decode cX6_depth 1 = .ok (.iload_n 1, 1) := by decide +kernel
theorem dX6_depth_2 : decode cX6_depth 2 = .ok (.invokevirtual 124, 3) := by decide +kernel
theorem dX6_depth_5 : decode cX6_depth 5 = .ok (.aload_n 0, 1) := by decide +kernel
theorem dX6_depth_6 : decode cX6_depth 6 = .ok (.getfield 29, 3) := by decide +kernel
theorem dX6_depth_9 : decode cX6_depth 9 = .ok (.iload_n 1, 1) := by decide +kernel
theorem dX6_depth_10 : decode cX6_depth 10 = .ok (.iconst 2, 1) := by decide +kernel
theorem dX6_depth_11 : decode cX6_depth 11 = .ok (.invokevirtual 127, 3) := by decide +kernel
theorem dX6_depth_14 : decode cX6_depth 14 = .ok (.ireturn, 1) := by decide +kernel
theorem dX6_find_0 : decode cX6_find 0 = .ok (.aload_n 0, 1) := by decide +kernel
theorem dX6_find_1 : decode cX6_find 1 = .ok (.lload_n 1, 1) := by decide +kernel
theorem dX6_find_2 : decode cX6_find 2 = .ok (.invokevirtual 63, 3) := by decide +kernel
theorem dX6_find_5 : decode cX6_find 5 = .ok (.aload_n 0, 1) := by decide +kernel
theorem dX6_find_6 : decode cX6_find 6 = .ok (.getfield 29, 3) := by decide +kernel
theorem dX6_find_9 : decode cX6_find 9 = .ok (.aload_n 0, 1) := by decide +kernel
theorem dX6_find_10 : decode cX6_find 10 = .ok (.getfield 16, 3) := by decide +kernel
theorem dX6_find_13 : decode cX6_find 13 = .ok (.iload_n 3, 1) := by decide +kernel
theorem dX6_find_14 : decode cX6_find 14 = .ok (.invokevirtual 146, 3) := by decide +kernel
theorem dX6_find_17 : decode cX6_find 17 = .ok (.ireturn, 1) := by decide +kernel
theorem dX6_wordCount_0 : decode cX6_wordCount 0 = .ok (.aload_n 0, 1) := by decide +kernel
theorem dX6_wordCount_1 : decode cX6_wordCount 1 = .ok (.getfield 29, 3) := by decide +kernel
theorem dX6_wordCount_4 : decode cX6_wordCount 4 = .ok (.invokevirtual 150, 3) := by decide +kernel
theorem dX6_wordCount_7 : decode cX6_wordCount 7 = .ok (.ireturn, 1) := by decide +kernel
theorem dX6_remove_0 : decode cX6_remove 0 = .ok (.aload_n 0, 1) := by decide +kernel
theorem dX6_remove_1 : decode cX6_remove 1 = .ok (.iload_n 1, 1) := by decide +kernel
theorem dX6_remove_2 : decode cX6_remove 2 = .ok (.invokevirtual 124, 3) := by decide +kernel
theorem dX6_remove_5 : decode cX6_remove 5 = .ok (.aload_n 0, 1) := by decide +kernel
theorem dX6_remove_6 : decode cX6_remove 6 = .ok (.getfield 29, 3) := by decide +kernel
theorem dX6_remove_9 : decode cX6_remove 9 = .ok (.iload_n 1, 1) := by decide +kernel
theorem dX6_remove_10 : decode cX6_remove 10 = .ok (.iconst 1, 1) := by decide +kernel
theorem dX6_remove_11 : decode cX6_remove 11 = .ok (.invokevirtual 139, 3) := by decide +kernel
theorem dX6_remove_14 : decode cX6_remove 14 = .ok (.ifCond .ne 13, 3) := by decide +kernel
theorem dX6_remove_17 : decode cX6_remove 17 = .ok (.new 79, 3) := by decide +kernel
theorem dX6_remove_20 : decode cX6_remove 20 = .ok (.dup, 1) := by decide +kernel
theorem dX6_remove_21 : decode cX6_remove 21 = .ok (.ldc 153, 2) := by decide +kernel
theorem dX6_remove_23 : decode cX6_remove 23 = .ok (.invokespecial 83, 3) := by decide +kernel
theorem dX6_remove_26 : decode cX6_remove 26 = .ok (.athrow, 1) := by decide +kernel
theorem dX6_remove_27 : decode cX6_remove 27 = .ok (.aload_n 0, 1) := by decide +kernel
theorem dX6_remove_28 : decode cX6_remove 28 = .ok (.getfield 29, 3) := by decide +kernel
theorem dX6_remove_31 : decode cX6_remove 31 = .ok (.iload_n 1, 1) := by decide +kernel
theorem dX6_remove_32 : decode cX6_remove 32 = .ok (.invokevirtual 155, 3) := by decide +kernel
theorem dX6_remove_35 : decode cX6_remove 35 = .ok (.aload_n 0, 1) := by decide +kernel
theorem dX6_remove_36 : decode cX6_remove 36 = .ok (.getfield 29, 3) := by decide +kernel
theorem dX6_remove_39 : decode cX6_remove 39 = .ok (.invokevirtual 113, 3) := by decide +kernel
theorem dX6_remove_42 : decode cX6_remove 42 = .ok (.ireturn, 1) := by decide +kernel
theorem dX6_move_0 : decode cX6_move 0 = .ok (.aload_n 0, 1) := by decide +kernel
theorem dX6_move_1 : decode cX6_move 1 = .ok (.iload_n 1, 1) := by decide +kernel
theorem dX6_move_2 : decode cX6_move 2 = .ok (.invokevirtual 124, 3) := by decide +kernel
theorem dX6_move_5 : decode cX6_move 5 = .ok (.aload_n 0, 1) := by decide +kernel
theorem dX6_move_6 : decode cX6_move 6 = .ok (.iload_n 2, 1) := by decide +kernel
theorem dX6_move_7 : decode cX6_move 7 = .ok (.invokevirtual 124, 3) := by decide +kernel
theorem dX6_move_10 : decode cX6_move 10 = .ok (.aload_n 0, 1) := by decide +kernel
theorem dX6_move_11 : decode cX6_move 11 = .ok (.getfield 29, 3) := by decide +kernel
theorem dX6_move_14 : decode cX6_move 14 = .ok (.iload_n 1, 1) := by decide +kernel
theorem dX6_move_15 : decode cX6_move 15 = .ok (.iconst 1, 1) := by decide +kernel
theorem dX6_move_16 : decode cX6_move 16 = .ok (.invokevirtual 139, 3) := by decide +kernel
theorem dX6_move_19 : decode cX6_move 19 = .ok (.ifCond .eq 15, 3) := by decide +kernel
theorem dX6_move_22 : decode cX6_move 22 = .ok (.aload_n 0, 1) := by decide +kernel
theorem dX6_move_23 : decode cX6_move 23 = .ok (.getfield 29, 3) := by decide +kernel
theorem dX6_move_26 : decode cX6_move 26 = .ok (.iload_n 2, 1) := by decide +kernel
theorem dX6_move_27 : decode cX6_move 27 = .ok (.iconst 0, 1) := by decide +kernel
theorem dX6_move_28 : decode cX6_move 28 = .ok (.invokevirtual 139, 3) := by decide +kernel
theorem dX6_move_31 : decode cX6_move 31 = .ok (.ifCond .ne 13, 3) := by decide +kernel
theorem dX6_move_34 : decode cX6_move 34 = .ok (.new 79, 3) := by decide +kernel
theorem dX6_move_37 : decode cX6_move 37 = .ok (.dup, 1) := by decide +kernel
theorem dX6_move_38 : decode cX6_move 38 = .ok (.ldc 158, 2) := by decide +kernel
theorem dX6_move_40 : decode cX6_move 40 = .ok (.invokespecial 83, 3) := by decide +kernel
theorem dX6_move_43 : decode cX6_move 43 = .ok (.athrow, 1) := by decide +kernel
theorem dX6_move_44 : decode cX6_move 44 = .ok (.iload_n 2, 1) := by decide +kernel
theorem dX6_move_45 : decode cX6_move 45 = .ok (.iload_n 1, 1) := by decide +kernel
theorem dX6_move_46 : decode cX6_move 46 = .ok (.if_icmp .le 25, 3) := by decide +kernel
theorem dX6_move_49 : decode cX6_move 49 = .ok (.iload_n 2, 1) := by decide +kernel
theorem dX6_move_50 : decode cX6_move 50 = .ok (.aload_n 0, 1) := by decide +kernel
theorem dX6_move_51 : decode cX6_move 51 = .ok (.getfield 29, 3) := by decide +kernel
theorem dX6_move_54 : decode cX6_move 54 = .ok (.iload_n 1, 1) := by decide +kernel
theorem dX6_move_55 : decode cX6_move 55 = .ok (.invokevirtual 160, 3) := by decide +kernel
theorem dX6_move_58 : decode cX6_move 58 = .ok (.if_icmp .ge 13, 3) := by decide +kernel
theorem dX6_move_61 : decode cX6_move 61 = .ok (.new 79, 3) := by decide +kernel
theorem dX6_move_64 : decode cX6_move 64 = .ok (.dup, 1) := by decide +kernel
theorem dX6_move_65 : decode cX6_move 65 = .ok (.ldc 163, 2) := by decide +kernel
theorem dX6_move_67 : decode cX6_move 67 = .ok (.invokespecial 83, 3) := by decide +kernel
theorem dX6_move_70 : decode cX6_move 70 = .ok (.athrow, 1) := by decide +kernel
theorem dX6_move_71 : decode cX6_move 71 = .ok (.aload_n 0, 1) := by decide +kernel
theorem dX6_move_72 : decode cX6_move 72 = .ok (.getfield 29, 3) := by decide +kernel
theorem dX6_move_75 : decode cX6_move 75 = .ok (.iload_n 2, 1) := by decide +kernel
theorem dX6_move_76 : decode cX6_move 76 = .ok (.invokevirtual 165, 3) := by decide +kernel
theorem dX6_move_79 : decode cX6_move 79 = .ok (.aload_n 0, 1) := by decide +kernel
theorem dX6_move_80 : decode cX6_move 80 = .ok (.getfield 29, 3) := by decide +kernel
theorem dX6_move_83 : decode cX6_move 83 = .ok (.iload_n 1, 1) := by decide +kernel
theorem dX6_move_84 : decode cX6_move 84 = .ok (.invokevirtual 168, 3) := by decide +kernel
theorem dX6_move_87 : decode cX6_move 87 = .ok (.iadd, 1) := by decide +kernel
theorem dX6_move_88 : decode cX6_move 88 = .ok (.bipush 30, 2) := by decide +kernel
theorem dX6_move_90 : decode cX6_move 90 = .ok (.if_icmp .le 13, 3) := by decide +kernel
theorem dX6_move_93 : decode cX6_move 93 = .ok (.new 79, 3) := by decide +kernel
theorem dX6_move_96 : decode cX6_move 96 = .ok (.dup, 1) := by decide +kernel
theorem dX6_move_97 : decode cX6_move 97 = .ok (.ldc 171, 2) := by decide +kernel
theorem dX6_move_99 : decode cX6_move 99 = .ok (.invokespecial 83, 3) := by decide +kernel
theorem dX6_move_102 : decode cX6_move 102 = .ok (.athrow, 1) := by decide +kernel
theorem dX6_move_103 : decode cX6_move 103 = .ok (.aload_n 0, 1) := by decide +kernel
theorem dX6_move_104 : decode cX6_move 104 = .ok (.getfield 29, 3) := by decide +kernel
theorem dX6_move_107 : decode cX6_move 107 = .ok (.iload_n 1, 1) := by decide +kernel
theorem dX6_move_108 : decode cX6_move 108 = .ok (.iload_n 2, 1) := by decide +kernel
theorem dX6_move_109 : decode cX6_move 109 = .ok (.iload_n 3, 1) := by decide +kernel
theorem dX6_move_110 : decode cX6_move 110 = .ok (.invokevirtual 173, 3) := by decide +kernel
theorem dX6_move_113 : decode cX6_move 113 = .ok (.istore 4, 2) := by decide +kernel
theorem dX6_move_115 : decode cX6_move 115 = .ok (.iload 4, 2) := by decide +kernel
theorem dX6_move_117 : decode cX6_move 117 = .ok (.iconst (-1), 1) := by decide +kernel
theorem dX6_move_118 : decode cX6_move 118 = .ok (.if_icmp .ne 13, 3) := by decide +kernel
theorem dX6_move_121 : decode cX6_move 121 = .ok (.new 79, 3) := by decide +kernel
theorem dX6_move_124 : decode cX6_move 124 = .ok (.dup, 1) := by decide +kernel
theorem dX6_move_125 : decode cX6_move 125 = .ok (.ldc 177, 2) := by decide +kernel
theorem dX6_move_127 : decode cX6_move 127 = .ok (.invokespecial 83, 3) := by decide +kernel
theorem dX6_move_130 : decode cX6_move 130 = .ok (.athrow, 1) := by decide +kernel
theorem dX6_move_131 : decode cX6_move 131 = .ok (.aload_n 0, 1) := by decide +kernel
theorem dX6_move_132 : decode cX6_move 132 = .ok (.getfield 29, 3) := by decide +kernel
theorem dX6_move_135 : decode cX6_move 135 = .ok (.iload_n 1, 1) := by decide +kernel
theorem dX6_move_136 : decode cX6_move 136 = .ok (.iload_n 2, 1) := by decide +kernel
theorem dX6_move_137 : decode cX6_move 137 = .ok (.iload 4, 2) := by decide +kernel
theorem dX6_move_139 : decode cX6_move 139 = .ok (.invokevirtual 179, 3) := by decide +kernel
theorem dX6_move_142 : decode cX6_move 142 = .ok (.ireturn, 1) := by decide +kernel
theorem dX6_rename_0 : decode cX6_rename 0 = .ok (.aload_n 0, 1) := by decide +kernel
theorem dX6_rename_1 : decode cX6_rename 1 = .ok (.iload_n 1, 1) := by decide +kernel
theorem dX6_rename_2 : decode cX6_rename 2 = .ok (.invokevirtual 124, 3) := by decide +kernel
theorem dX6_rename_5 : decode cX6_rename 5 = .ok (.aload_n 0, 1) := by decide +kernel
theorem dX6_rename_6 : decode cX6_rename 6 = .ok (.lload_n 2, 1) := by decide +kernel
theorem dX6_rename_7 : decode cX6_rename 7 = .ok (.invokevirtual 63, 3) := by decide +kernel
theorem dX6_rename_10 : decode cX6_rename 10 = .ok (.aload_n 0, 1) := by decide +kernel
theorem dX6_rename_11 : decode cX6_rename 11 = .ok (.getfield 29, 3) := by decide +kernel
theorem dX6_rename_14 : decode cX6_rename 14 = .ok (.iload_n 1, 1) := by decide +kernel
theorem dX6_rename_15 : decode cX6_rename 15 = .ok (.iconst 2, 1) := by decide +kernel
theorem dX6_rename_16 : decode cX6_rename 16 = .ok (.invokevirtual 139, 3) := by decide +kernel
theorem dX6_rename_19 : decode cX6_rename 19 = .ok (.ifCond .eq 13, 3) := by decide +kernel
theorem dX6_rename_22 : decode cX6_rename 22 = .ok (.aload_n 0, 1) := by decide +kernel
theorem dX6_rename_23 : decode cX6_rename 23 = .ok (.getfield 16, 3) := by decide +kernel
theorem dX6_rename_26 : decode cX6_rename 26 = .ok (.invokestatic 182, 3) := by decide +kernel
theorem dX6_rename_29 : decode cX6_rename 29 = .ok (.ifCond .ne 13, 3) := by decide +kernel
theorem dX6_rename_32 : decode cX6_rename 32 = .ok (.new 79, 3) := by decide +kernel
theorem dX6_rename_35 : decode cX6_rename 35 = .ok (.dup, 1) := by decide +kernel
theorem dX6_rename_36 : decode cX6_rename 36 = .ok (.ldc 186, 2) := by decide +kernel
theorem dX6_rename_38 : decode cX6_rename 38 = .ok (.invokespecial 83, 3) := by decide +kernel
theorem dX6_rename_41 : decode cX6_rename 41 = .ok (.athrow, 1) := by decide +kernel
theorem dX6_rename_42 : decode cX6_rename 42 = .ok (.aload_n 0, 1) := by decide +kernel
theorem dX6_rename_43 : decode cX6_rename 43 = .ok (.getfield 29, 3) := by decide +kernel
theorem dX6_rename_46 : decode cX6_rename 46 = .ok (.iload_n 1, 1) := by decide +kernel
theorem dX6_rename_47 : decode cX6_rename 47 = .ok (.aload_n 0, 1) := by decide +kernel
theorem dX6_rename_48 : decode cX6_rename 48 = .ok (.getfield 16, 3) := by decide +kernel
theorem dX6_rename_51 : decode cX6_rename 51 = .ok (.invokevirtual 188, 3) := by decide +kernel
theorem dX6_rename_54 : decode cX6_rename 54 = .ok (.aload_n 0, 1) := by decide +kernel
theorem dX6_rename_55 : decode cX6_rename 55 = .ok (.getfield 16, 3) := by decide +kernel
theorem dX6_rename_58 : decode cX6_rename 58 = .ok (.invokevirtual 67, 3) := by decide +kernel
theorem dX6_rename_61 : decode cX6_rename 61 = .ok (.ireturn, 1) := by decide +kernel
theorem dX6_write_0 : decode cX6_write 0 = .ok (.aload_n 0, 1) := by decide +kernel
theorem dX6_write_1 : decode cX6_write 1 = .ok (.getfield 56, 3) := by decide +kernel
theorem dX6_write_4 : decode cX6_write 4 = .ok (.invokevirtual 192, 3) := by decide +kernel
theorem dX6_write_7 : decode cX6_write 7 = .ok (.iload_n 1, 1) := by decide +kernel
theorem dX6_write_8 : decode cX6_write 8 = .ok (.ifCond .eq 15, 3) := by decide +kernel
theorem dX6_write_11 : decode cX6_write 11 = .ok (.aload_n 0, 1) := by decide +kernel
theorem dX6_write_12 : decode cX6_write 12 = .ok (.getfield 56, 3) := by decide +kernel
theorem dX6_write_15 : decode cX6_write 15 = .ok (.iconst 0, 1) := by decide +kernel
theorem dX6_write_16 : decode cX6_write 16 = .ok (.iconst 0, 1) := by decide +kernel
theorem dX6_write_17 : decode cX6_write 17 = .ok (.invokevirtual 193, 3) := by decide +kernel
theorem dX6_write_20 : decode cX6_write 20 = .ok (.goto 10, 3) := by decide +kernel
theorem dX6_write_23 : decode cX6_write 23 = .ok (.aload_n 0, 1) := by decide +kernel
theorem dX6_write_24 : decode cX6_write 24 = .ok (.getfield 56, 3) := by decide +kernel
theorem dX6_write_27 : decode cX6_write 27 = .ok (.invokevirtual 197, 3) := by decide +kernel
theorem dX6_write_30 : decode cX6_write 30 = .ok (.aload_n 0, 1) := by decide +kernel
theorem dX6_write_31 : decode cX6_write 31 = .ok (.getfield 56, 3) := by decide +kernel
theorem dX6_write_34 : decode cX6_write 34 = .ok (.invokevirtual 200, 3) := by decide +kernel
theorem dX6_write_37 : decode cX6_write 37 = .ok (.ireturn, 1) := by decide +kernel
theorem dX6_written_0 : decode cX6_written 0 = .ok (.iload_n 1, 1) := by decide +kernel
theorem dX6_written_1 : decode cX6_written 1 = .ok (.ifCond .lt 14, 3) := by decide +kernel
theorem dX6_written_4 : decode cX6_written 4 = .ok (.iload_n 1, 1) := by decide +kernel
theorem dX6_written_5 : decode cX6_written 5 = .ok (.aload_n 0, 1) := by decide +kernel
theorem dX6_written_6 : decode cX6_written 6 = .ok (.getfield 56, 3) := by decide +kernel
theorem dX6_written_9 : decode cX6_written 9 = .ok (.invokevirtual 200, 3) := by decide +kernel
theorem dX6_written_12 : decode cX6_written 12 = .ok (.if_icmp .lt 13, 3) := by decide +kernel
theorem dX6_written_15 : decode cX6_written 15 = .ok (.new 115, 3) := by decide +kernel
theorem dX6_written_18 : decode cX6_written 18 = .ok (.dup, 1) := by decide +kernel
theorem dX6_written_19 : decode cX6_written 19 = .ok (.ldc 201, 2) := by decide +kernel
theorem dX6_written_21 : decode cX6_written 21 = .ok (.invokespecial 119, 3) := by decide +kernel
theorem dX6_written_24 : decode cX6_written 24 = .ok (.athrow, 1) := by decide +kernel
theorem dX6_written_25 : decode cX6_written 25 = .ok (.aload_n 0, 1) := by decide +kernel
theorem dX6_written_26 : decode cX6_written 26 = .ok (.getfield 56, 3) := by decide +kernel
theorem dX6_written_29 : decode cX6_written 29 = .ok (.iload_n 1, 1) := by decide +kernel
theorem dX6_written_30 : decode cX6_written 30 = .ok (.invokevirtual 203, 3) := by decide +kernel
theorem dX6_written_33 : decode cX6_written 33 = .ok (.ireturn, 1) := by decide +kernel
theorem dX6_digest_0 : decode cX6_digest 0 = .ok (.ldc2_w 205, 3) := by decide +kernel
theorem dX6_digest_3 : decode cX6_digest 3 = .ok (.lstore_n 1, 1) := by decide +kernel
theorem dX6_digest_4 : decode cX6_digest 4 = .ok (.lload_n 1, 1) := by decide +kernel
theorem dX6_digest_5 : decode cX6_digest 5 = .ok (.aload_n 0, 1) := by decide +kernel
theorem dX6_digest_6 : decode cX6_digest 6 = .ok (.getfield 10, 3) := by decide +kernel
theorem dX6_digest_9 : decode cX6_digest 9 = .ok (.invokevirtual 67, 3) := by decide +kernel
theorem dX6_digest_12 : decode cX6_digest 12 = .ok (.i2l, 1) := by decide +kernel
theorem dX6_digest_13 : decode cX6_digest 13 = .ok (.invokestatic 207, 3) := by decide +kernel
theorem dX6_digest_16 : decode cX6_digest 16 = .ok (.lstore_n 1, 1) := by decide +kernel
theorem dX6_digest_17 : decode cX6_digest 17 = .ok (.lload_n 1, 1) := by decide +kernel
theorem dX6_digest_18 : decode cX6_digest 18 = .ok (.aload_n 0, 1) := by decide +kernel
theorem dX6_digest_19 : decode cX6_digest 19 = .ok (.getfield 29, 3) := by decide +kernel
theorem dX6_digest_22 : decode cX6_digest 22 = .ok (.invokevirtual 113, 3) := by decide +kernel
theorem dX6_digest_25 : decode cX6_digest 25 = .ok (.i2l, 1) := by decide +kernel
theorem dX6_digest_26 : decode cX6_digest 26 = .ok (.invokestatic 207, 3) := by decide +kernel
theorem dX6_digest_29 : decode cX6_digest 29 = .ok (.lstore_n 1, 1) := by decide +kernel
theorem dX6_digest_30 : decode cX6_digest 30 = .ok (.iconst 0, 1) := by decide +kernel
theorem dX6_digest_31 : decode cX6_digest 31 = .ok (.istore_n 3, 1) := by decide +kernel
theorem dX6_digest_32 : decode cX6_digest 32 = .ok (.iload_n 3, 1) := by decide +kernel
theorem dX6_digest_33 : decode cX6_digest 33 = .ok (.aload_n 0, 1) := by decide +kernel
theorem dX6_digest_34 : decode cX6_digest 34 = .ok (.getfield 29, 3) := by decide +kernel
theorem dX6_digest_37 : decode cX6_digest 37 = .ok (.invokevirtual 113, 3) := by decide +kernel
theorem dX6_digest_40 : decode cX6_digest 40 = .ok (.if_icmp .ge 112, 3) := by decide +kernel
theorem dX6_digest_43 : decode cX6_digest 43 = .ok (.lload_n 1, 1) := by decide +kernel
theorem dX6_digest_44 : decode cX6_digest 44 = .ok (.aload_n 0, 1) := by decide +kernel
theorem dX6_digest_45 : decode cX6_digest 45 = .ok (.getfield 29, 3) := by decide +kernel
theorem dX6_digest_48 : decode cX6_digest 48 = .ok (.iload_n 3, 1) := by decide +kernel
theorem dX6_digest_49 : decode cX6_digest 49 = .ok (.iconst 0, 1) := by decide +kernel
theorem dX6_digest_50 : decode cX6_digest 50 = .ok (.invokevirtual 127, 3) := by decide +kernel
theorem dX6_digest_53 : decode cX6_digest 53 = .ok (.i2l, 1) := by decide +kernel
theorem dX6_digest_54 : decode cX6_digest 54 = .ok (.invokestatic 207, 3) := by decide +kernel
theorem dX6_digest_57 : decode cX6_digest 57 = .ok (.lstore_n 1, 1) := by decide +kernel
theorem dX6_digest_58 : decode cX6_digest 58 = .ok (.lload_n 1, 1) := by decide +kernel
theorem dX6_digest_59 : decode cX6_digest 59 = .ok (.aload_n 0, 1) := by decide +kernel
theorem dX6_digest_60 : decode cX6_digest 60 = .ok (.getfield 29, 3) := by decide +kernel
theorem dX6_digest_63 : decode cX6_digest 63 = .ok (.iload_n 3, 1) := by decide +kernel
theorem dX6_digest_64 : decode cX6_digest 64 = .ok (.invokevirtual 131, 3) := by decide +kernel
theorem dX6_digest_67 : decode cX6_digest 67 = .ok (.i2l, 1) := by decide +kernel
theorem dX6_digest_68 : decode cX6_digest 68 = .ok (.invokestatic 207, 3) := by decide +kernel
theorem dX6_digest_71 : decode cX6_digest 71 = .ok (.lstore_n 1, 1) := by decide +kernel
theorem dX6_digest_72 : decode cX6_digest 72 = .ok (.lload_n 1, 1) := by decide +kernel
theorem dX6_digest_73 : decode cX6_digest 73 = .ok (.aload_n 0, 1) := by decide +kernel
theorem dX6_digest_74 : decode cX6_digest 74 = .ok (.getfield 29, 3) := by decide +kernel
theorem dX6_digest_77 : decode cX6_digest 77 = .ok (.iload_n 3, 1) := by decide +kernel
theorem dX6_digest_78 : decode cX6_digest 78 = .ok (.iconst 5, 1) := by decide +kernel
theorem dX6_digest_79 : decode cX6_digest 79 = .ok (.invokevirtual 127, 3) := by decide +kernel
theorem dX6_digest_82 : decode cX6_digest 82 = .ok (.i2l, 1) := by decide +kernel
theorem dX6_digest_83 : decode cX6_digest 83 = .ok (.invokestatic 207, 3) := by decide +kernel
theorem dX6_digest_86 : decode cX6_digest 86 = .ok (.lstore_n 1, 1) := by decide +kernel
theorem dX6_digest_87 : decode cX6_digest 87 = .ok (.aload_n 0, 1) := by decide +kernel
theorem dX6_digest_88 : decode cX6_digest 88 = .ok (.getfield 29, 3) := by decide +kernel
theorem dX6_digest_91 : decode cX6_digest 91 = .ok (.iload_n 3, 1) := by decide +kernel
theorem dX6_digest_92 : decode cX6_digest 92 = .ok (.iconst 2, 1) := by decide +kernel
theorem dX6_digest_93 : decode cX6_digest 93 = .ok (.invokevirtual 139, 3) := by decide +kernel
theorem dX6_digest_96 : decode cX6_digest 96 = .ok (.ifCond .eq 15, 3) := by decide +kernel
theorem dX6_digest_99 : decode cX6_digest 99 = .ok (.aload_n 0, 1) := by decide +kernel
theorem dX6_digest_100 : decode cX6_digest 100 = .ok (.getfield 29, 3) := by decide +kernel
theorem dX6_digest_103 : decode cX6_digest 103 = .ok (.iload_n 3, 1) := by decide +kernel
theorem dX6_digest_104 : decode cX6_digest 104 = .ok (.iconst 5, 1) := by decide +kernel
theorem dX6_digest_105 : decode cX6_digest 105 = .ok (.invokevirtual 127, 3) := by decide +kernel
theorem dX6_digest_108 : decode cX6_digest 108 = .ok (.goto 4, 3) := by decide +kernel
theorem dX6_digest_111 : decode cX6_digest 111 = .ok (.iconst 0, 1) := by decide +kernel
theorem dX6_digest_112 : decode cX6_digest 112 = .ok (.istore 4, 2) := by decide +kernel
theorem dX6_digest_114 : decode cX6_digest 114 = .ok (.iconst 0, 1) := by decide +kernel
theorem dX6_digest_115 : decode cX6_digest 115 = .ok (.istore 5, 2) := by decide +kernel
theorem dX6_digest_117 : decode cX6_digest 117 = .ok (.iload 5, 2) := by decide +kernel
theorem dX6_digest_119 : decode cX6_digest 119 = .ok (.iload 4, 2) := by decide +kernel
theorem dX6_digest_121 : decode cX6_digest 121 = .ok (.if_icmp .ge 25, 3) := by decide +kernel
theorem dX6_digest_124 : decode cX6_digest 124 = .ok (.lload_n 1, 1) := by decide +kernel
theorem dX6_digest_125 : decode cX6_digest 125 = .ok (.aload_n 0, 1) := by decide +kernel
theorem dX6_digest_126 : decode cX6_digest 126 = .ok (.getfield 29, 3) := by decide +kernel
theorem dX6_digest_129 : decode cX6_digest 129 = .ok (.iload_n 3, 1) := by decide +kernel
theorem dX6_digest_130 : decode cX6_digest 130 = .ok (.iload 5, 2) := by decide +kernel
theorem dX6_digest_132 : decode cX6_digest 132 = .ok (.invokevirtual 143, 3) := by decide +kernel
theorem dX6_digest_135 : decode cX6_digest 135 = .ok (.i2l, 1) := by decide +kernel
theorem dX6_digest_136 : decode cX6_digest 136 = .ok (.invokestatic 207, 3) := by decide +kernel
theorem dX6_digest_139 : decode cX6_digest 139 = .ok (.lstore_n 1, 1) := by decide +kernel
theorem dX6_digest_140 : decode cX6_digest 140 = .ok (.iinc 5 1, 3) := by decide +kernel
theorem dX6_digest_143 : decode cX6_digest 143 = .ok (.goto (-26), 3) := by decide +kernel
theorem dX6_digest_146 : decode cX6_digest 146 = .ok (.iinc 3 1, 3) := by decide +kernel
theorem dX6_digest_149 : decode cX6_digest 149 = .ok (.goto (-117), 3) := by decide +kernel
theorem dX6_digest_152 : decode cX6_digest 152 = .ok (.lload_n 1, 1) := by decide +kernel
theorem dX6_digest_153 : decode cX6_digest 153 = .ok (.aload_n 0, 1) := by decide +kernel
theorem dX6_digest_154 : decode cX6_digest 154 = .ok (.getfield 22, 3) := by decide +kernel
theorem dX6_digest_157 : decode cX6_digest 157 = .ok (.invokevirtual 114, 3) := by decide +kernel
theorem dX6_digest_160 : decode cX6_digest 160 = .ok (.i2l, 1) := by decide +kernel
theorem dX6_digest_161 : decode cX6_digest 161 = .ok (.invokestatic 207, 3) := by decide +kernel
theorem dX6_digest_164 : decode cX6_digest 164 = .ok (.lstore_n 1, 1) := by decide +kernel
theorem dX6_digest_165 : decode cX6_digest 165 = .ok (.lload_n 1, 1) := by decide +kernel
theorem dX6_digest_166 : decode cX6_digest 166 = .ok (.aload_n 0, 1) := by decide +kernel
theorem dX6_digest_167 : decode cX6_digest 167 = .ok (.getfield 29, 3) := by decide +kernel
theorem dX6_digest_170 : decode cX6_digest 170 = .ok (.invokevirtual 150, 3) := by decide +kernel
theorem dX6_digest_173 : decode cX6_digest 173 = .ok (.i2l, 1) := by decide +kernel
theorem dX6_digest_174 : decode cX6_digest 174 = .ok (.invokestatic 207, 3) := by decide +kernel
theorem dX6_digest_177 : decode cX6_digest 177 = .ok (.lreturn, 1) := by decide +kernel
theorem dX6_mix_0 : decode cX6_mix 0 = .ok (.lload_n 0, 1) := by decide +kernel
theorem dX6_mix_1 : decode cX6_mix 1 = .ok (.ldc2_w 211, 3) := by decide +kernel
theorem dX6_mix_4 : decode cX6_mix 4 = .ok (.lmul, 1) := by decide +kernel
theorem dX6_mix_5 : decode cX6_mix 5 = .ok (.lload_n 2, 1) := by decide +kernel
theorem dX6_mix_6 : decode cX6_mix 6 = .ok (.ladd, 1) := by decide +kernel
theorem dX6_mix_7 : decode cX6_mix 7 = .ok (.lreturn, 1) := by decide +kernel
theorem dX6_checkNode_0 : decode cX6_checkNode 0 = .ok (.iload_n 1, 1) := by decide +kernel
theorem dX6_checkNode_1 : decode cX6_checkNode 1 = .ok (.ifCond .lt 14, 3) := by decide +kernel
theorem dX6_checkNode_4 : decode cX6_checkNode 4 = .ok (.iload_n 1, 1) := by decide +kernel
theorem dX6_checkNode_5 : decode cX6_checkNode 5 = .ok (.aload_n 0, 1) := by decide +kernel
theorem dX6_checkNode_6 : decode cX6_checkNode 6 = .ok (.getfield 29, 3) := by decide +kernel
theorem dX6_checkNode_9 : decode cX6_checkNode 9 = .ok (.invokevirtual 113, 3) := by decide +kernel
theorem dX6_checkNode_12 : decode cX6_checkNode 12 = .ok (.if_icmp .lt 13, 3) := by decide +kernel
theorem dX6_checkNode_15 : decode cX6_checkNode 15 = .ok (.new 115, 3) := by decide +kernel
theorem dX6_checkNode_18 : decode cX6_checkNode 18 = .ok (.dup, 1) := by decide +kernel
theorem dX6_checkNode_19 : decode cX6_checkNode 19 = .ok (.ldc 213, 2) := by decide +kernel
theorem dX6_checkNode_21 : decode cX6_checkNode 21 = .ok (.invokespecial 119, 3) := by decide +kernel
theorem dX6_checkNode_24 : decode cX6_checkNode 24 = .ok (.athrow, 1) := by decide +kernel
theorem dX6_checkNode_25 : decode cX6_checkNode 25 = .ok (.return_, 1) := by decide +kernel
theorem dX6_unpack_0 : decode cX6_unpack 0 = .ok (.aload_n 0, 1) := by decide +kernel
theorem dX6_unpack_1 : decode cX6_unpack 1 = .ok (.getfield 16, 3) := by decide +kernel
theorem dX6_unpack_4 : decode cX6_unpack 4 = .ok (.iconst 0, 1) := by decide +kernel
theorem dX6_unpack_5 : decode cX6_unpack 5 = .ok (.invokevirtual 97, 3) := by decide +kernel
theorem dX6_unpack_8 : decode cX6_unpack 8 = .ok (.bipush 56, 2) := by decide +kernel
theorem dX6_unpack_10 : decode cX6_unpack 10 = .ok (.istore_n 3, 1) := by decide +kernel
theorem dX6_unpack_11 : decode cX6_unpack 11 = .ok (.iload_n 3, 1) := by decide +kernel
theorem dX6_unpack_12 : decode cX6_unpack 12 = .ok (.ifCond .lt 33, 3) := by decide +kernel
theorem dX6_unpack_15 : decode cX6_unpack 15 = .ok (.lload_n 1, 1) := by decide +kernel
theorem dX6_unpack_16 : decode cX6_unpack 16 = .ok (.iload_n 3, 1) := by decide +kernel
theorem dX6_unpack_17 : decode cX6_unpack 17 = .ok (.lushr, 1) := by decide +kernel
theorem dX6_unpack_18 : decode cX6_unpack 18 = .ok (.l2i, 1) := by decide +kernel
theorem dX6_unpack_19 : decode cX6_unpack 19 = .ok (.sipush 255, 3) := by decide +kernel
theorem dX6_unpack_22 : decode cX6_unpack 22 = .ok (.iand, 1) := by decide +kernel
theorem dX6_unpack_23 : decode cX6_unpack 23 = .ok (.istore 4, 2) := by decide +kernel
theorem dX6_unpack_25 : decode cX6_unpack 25 = .ok (.iload 4, 2) := by decide +kernel
theorem dX6_unpack_27 : decode cX6_unpack 27 = .ok (.ifCond .eq 12, 3) := by decide +kernel
theorem dX6_unpack_30 : decode cX6_unpack 30 = .ok (.aload_n 0, 1) := by decide +kernel
theorem dX6_unpack_31 : decode cX6_unpack 31 = .ok (.getfield 16, 3) := by decide +kernel
theorem dX6_unpack_34 : decode cX6_unpack 34 = .ok (.iload 4, 2) := by decide +kernel
theorem dX6_unpack_36 : decode cX6_unpack 36 = .ok (.invokevirtual 91, 3) := by decide +kernel
theorem dX6_unpack_39 : decode cX6_unpack 39 = .ok (.iinc 3 (-8), 3) := by decide +kernel
theorem dX6_unpack_42 : decode cX6_unpack 42 = .ok (.goto (-31), 3) := by decide +kernel
theorem dX6_unpack_45 : decode cX6_unpack 45 = .ok (.return_, 1) := by decide +kernel
theorem dX6_isTextByte_0 : decode cX6_isTextByte 0 = .ok (.iload_n 0, 1) := by decide +kernel
theorem dX6_isTextByte_1 : decode cX6_isTextByte 1 = .ok (.bipush 10, 2) := by decide +kernel
theorem dX6_isTextByte_3 : decode cX6_isTextByte 3 = .ok (.if_icmp .eq 15, 3) := by decide +kernel
theorem dX6_isTextByte_6 : decode cX6_isTextByte 6 = .ok (.iload_n 0, 1) := by decide +kernel
theorem dX6_isTextByte_7 : decode cX6_isTextByte 7 = .ok (.bipush 32, 2) := by decide +kernel
theorem dX6_isTextByte_9 : decode cX6_isTextByte 9 = .ok (.if_icmp .lt 13, 3) := by decide +kernel
theorem dX6_isTextByte_12 : decode cX6_isTextByte 12 = .ok (.iload_n 0, 1) := by decide +kernel
theorem dX6_isTextByte_13 : decode cX6_isTextByte 13 = .ok (.bipush 126, 2) := by decide +kernel
theorem dX6_isTextByte_15 : decode cX6_isTextByte 15 = .ok (.if_icmp .gt 7, 3) := by decide +kernel
theorem dX6_isTextByte_18 : decode cX6_isTextByte 18 = .ok (.iconst 1, 1) := by decide +kernel
theorem dX6_isTextByte_19 : decode cX6_isTextByte 19 = .ok (.goto 4, 3) := by decide +kernel
theorem dX6_isTextByte_22 : decode cX6_isTextByte 22 = .ok (.iconst 0, 1) := by decide +kernel
theorem dX6_isTextByte_23 : decode cX6_isTextByte 23 = .ok (.ireturn, 1) := by decide +kernel
theorem dX6_isLetter_0 : decode cX6_isLetter 0 = .ok (.iload_n 0, 1) := by decide +kernel
theorem dX6_isLetter_1 : decode cX6_isLetter 1 = .ok (.bipush 65, 2) := by decide +kernel
theorem dX6_isLetter_3 : decode cX6_isLetter 3 = .ok (.if_icmp .lt 9, 3) := by decide +kernel
theorem dX6_isLetter_6 : decode cX6_isLetter 6 = .ok (.iload_n 0, 1) := by decide +kernel
theorem dX6_isLetter_7 : decode cX6_isLetter 7 = .ok (.bipush 90, 2) := by decide +kernel
theorem dX6_isLetter_9 : decode cX6_isLetter 9 = .ok (.if_icmp .le 15, 3) := by decide +kernel
theorem dX6_isLetter_12 : decode cX6_isLetter 12 = .ok (.iload_n 0, 1) := by decide +kernel
theorem dX6_isLetter_13 : decode cX6_isLetter 13 = .ok (.bipush 97, 2) := by decide +kernel
theorem dX6_isLetter_15 : decode cX6_isLetter 15 = .ok (.if_icmp .lt 13, 3) := by decide +kernel
theorem dX6_isLetter_18 : decode cX6_isLetter 18 = .ok (.iload_n 0, 1) := by decide +kernel
theorem dX6_isLetter_19 : decode cX6_isLetter 19 = .ok (.bipush 122, 2) := by decide +kernel
theorem dX6_isLetter_21 : decode cX6_isLetter 21 = .ok (.if_icmp .gt 7, 3) := by decide +kernel
theorem dX6_isLetter_24 : decode cX6_isLetter 24 = .ok (.iconst 1, 1) := by decide +kernel
theorem dX6_isLetter_25 : decode cX6_isLetter 25 = .ok (.goto 4, 3) := by decide +kernel
theorem dX6_isLetter_28 : decode cX6_isLetter 28 = .ok (.iconst 0, 1) := by decide +kernel
theorem dX6_isLetter_29 : decode cX6_isLetter 29 = .ok (.ireturn, 1) := by decide +kernel
theorem dX6_isDigit_0 : decode cX6_isDigit 0 = .ok (.iload_n 0, 1) := by decide +kernel
theorem dX6_isDigit_1 : decode cX6_isDigit 1 = .ok (.bipush 48, 2) := by decide +kernel
theorem dX6_isDigit_3 : decode cX6_isDigit 3 = .ok (.if_icmp .lt 13, 3) := by decide +kernel
theorem dX6_isDigit_6 : decode cX6_isDigit 6 = .ok (.iload_n 0, 1) := by decide +kernel
theorem dX6_isDigit_7 : decode cX6_isDigit 7 = .ok (.bipush 57, 2) := by decide +kernel
theorem dX6_isDigit_9 : decode cX6_isDigit 9 = .ok (.if_icmp .gt 7, 3) := by decide +kernel
theorem dX6_isDigit_12 : decode cX6_isDigit 12 = .ok (.iconst 1, 1) := by decide +kernel
theorem dX6_isDigit_13 : decode cX6_isDigit 13 = .ok (.goto 4, 3) := by decide +kernel
theorem dX6_isDigit_16 : decode cX6_isDigit 16 = .ok (.iconst 0, 1) := by decide +kernel
theorem dX6_isDigit_17 : decode cX6_isDigit 17 = .ok (.ireturn, 1) := by decide +kernel
theorem dX6_isWord_0 : decode cX6_isWord 0 = .ok (.iconst 0, 1) := by decide +kernel
theorem dX6_isWord_1 : decode cX6_isWord 1 = .ok (.istore_n 1, 1) := by decide +kernel
theorem dX6_isWord_2 : decode cX6_isWord 2 = .ok (.iload_n 1, 1) := by decide +kernel
theorem dX6_isWord_3 : decode cX6_isWord 3 = .ok (.aload_n 0, 1) := by decide +kernel
theorem dX6_isWord_4 : decode cX6_isWord 4 = .ok (.invokevirtual 67, 3) := by decide +kernel
theorem dX6_isWord_7 : decode cX6_isWord 7 = .ok (.if_icmp .ge 47, 3) := by decide +kernel
theorem dX6_isWord_10 : decode cX6_isWord 10 = .ok (.aload_n 0, 1) := by decide +kernel
theorem dX6_isWord_11 : decode cX6_isWord 11 = .ok (.iload_n 1, 1) := by decide +kernel
theorem dX6_isWord_12 : decode cX6_isWord 12 = .ok (.invokevirtual 71, 3) := by decide +kernel
theorem dX6_isWord_15 : decode cX6_isWord 15 = .ok (.invokestatic 215, 3) := by decide +kernel
theorem dX6_isWord_18 : decode cX6_isWord 18 = .ok (.ifCond .ne 18, 3) := by decide +kernel
theorem dX6_isWord_21 : decode cX6_isWord 21 = .ok (.iload_n 1, 1) := by decide +kernel
theorem dX6_isWord_22 : decode cX6_isWord 22 = .ok (.ifCond .le 18, 3) := by decide +kernel
theorem dX6_isWord_25 : decode cX6_isWord 25 = .ok (.aload_n 0, 1) := by decide +kernel
theorem dX6_isWord_26 : decode cX6_isWord 26 = .ok (.iload_n 1, 1) := by decide +kernel
theorem dX6_isWord_27 : decode cX6_isWord 27 = .ok (.invokevirtual 71, 3) := by decide +kernel
theorem dX6_isWord_30 : decode cX6_isWord 30 = .ok (.invokestatic 218, 3) := by decide +kernel
theorem dX6_isWord_33 : decode cX6_isWord 33 = .ok (.ifCond .eq 7, 3) := by decide +kernel
theorem dX6_isWord_36 : decode cX6_isWord 36 = .ok (.iconst 1, 1) := by decide +kernel
theorem dX6_isWord_37 : decode cX6_isWord 37 = .ok (.goto 4, 3) := by decide +kernel
theorem dX6_isWord_40 : decode cX6_isWord 40 = .ok (.iconst 0, 1) := by decide +kernel
theorem dX6_isWord_41 : decode cX6_isWord 41 = .ok (.istore_n 2, 1) := by decide +kernel
theorem dX6_isWord_42 : decode cX6_isWord 42 = .ok (.iload_n 2, 1) := by decide +kernel
theorem dX6_isWord_43 : decode cX6_isWord 43 = .ok (.ifCond .ne 5, 3) := by decide +kernel
theorem dX6_isWord_46 : decode cX6_isWord 46 = .ok (.iconst 0, 1) := by decide +kernel
theorem dX6_isWord_47 : decode cX6_isWord 47 = .ok (.ireturn, 1) := by decide +kernel
theorem dX6_isWord_48 : decode cX6_isWord 48 = .ok (.iinc 1 1, 3) := by decide +kernel
theorem dX6_isWord_51 : decode cX6_isWord 51 = .ok (.goto (-49), 3) := by decide +kernel
theorem dX6_isWord_54 : decode cX6_isWord 54 = .ok (.aload_n 0, 1) := by decide +kernel
theorem dX6_isWord_55 : decode cX6_isWord 55 = .ok (.invokevirtual 67, 3) := by decide +kernel
theorem dX6_isWord_58 : decode cX6_isWord 58 = .ok (.ifCond .le 7, 3) := by decide +kernel
theorem dX6_isWord_61 : decode cX6_isWord 61 = .ok (.iconst 1, 1) := by decide +kernel
theorem dX6_isWord_62 : decode cX6_isWord 62 = .ok (.goto 4, 3) := by decide +kernel
theorem dX6_isWord_65 : decode cX6_isWord 65 = .ok (.iconst 0, 1) := by decide +kernel
theorem dX6_isWord_66 : decode cX6_isWord 66 = .ok (.ireturn, 1) := by decide +kernel
theorem dJ9_max_7cf53_0 : decode cJ9_max_7cf53 0 = .ok (.iload_n 0, 1) := by decide +kernel
theorem dJ9_max_7cf53_1 : decode cJ9_max_7cf53 1 = .ok (.iload_n 1, 1) := by decide +kernel
theorem dJ9_max_7cf53_2 : decode cJ9_max_7cf53 2 = .ok (.if_icmp .lt 7, 3) := by decide +kernel
theorem dJ9_max_7cf53_5 : decode cJ9_max_7cf53 5 = .ok (.iload_n 0, 1) := by decide +kernel
theorem dJ9_max_7cf53_6 : decode cJ9_max_7cf53 6 = .ok (.goto 4, 3) := by decide +kernel
theorem dJ9_max_7cf53_9 : decode cJ9_max_7cf53 9 = .ok (.iload_n 1, 1) := by decide +kernel
theorem dJ9_max_7cf53_10 : decode cJ9_max_7cf53 10 = .ok (.ireturn, 1) := by decide +kernel
theorem dJ9_min_7cf53_0 : decode cJ9_min_7cf53 0 = .ok (.iload_n 0, 1) := by decide +kernel
theorem dJ9_min_7cf53_1 : decode cJ9_min_7cf53 1 = .ok (.iload_n 1, 1) := by decide +kernel
theorem dJ9_min_7cf53_2 : decode cJ9_min_7cf53 2 = .ok (.if_icmp .gt 7, 3) := by decide +kernel
theorem dJ9_min_7cf53_5 : decode cJ9_min_7cf53 5 = .ok (.iload_n 0, 1) := by decide +kernel
theorem dJ9_min_7cf53_6 : decode cJ9_min_7cf53 6 = .ok (.goto 4, 3) := by decide +kernel
theorem dJ9_min_7cf53_9 : decode cJ9_min_7cf53 9 = .ok (.iload_n 1, 1) := by decide +kernel
theorem dJ9_min_7cf53_10 : decode cJ9_min_7cf53 10 = .ok (.ireturn, 1) := by decide +kernel
theorem dJ7_copyOf_59c91_0 : decode cJ7_copyOf_59c91 0 = .ok (.iload_n 1, 1) := by decide +kernel
theorem dJ7_copyOf_59c91_1 : decode cJ7_copyOf_59c91 1 = .ok (.aload_n 0, 1) := by decide +kernel
theorem dJ7_copyOf_59c91_2 : decode cJ7_copyOf_59c91 2 = .ok (.arraylength, 1) := by decide +kernel
theorem dJ7_copyOf_59c91_3 : decode cJ7_copyOf_59c91 3 = .ok (.if_icmp .ne 11, 3) := by decide +kernel
theorem dJ7_copyOf_59c91_6 : decode cJ7_copyOf_59c91 6 = .ok (.aload_n 0, 1) := by decide +kernel
theorem dJ7_copyOf_59c91_7 : decode cJ7_copyOf_59c91 7 = .ok (.invokevirtual 316, 3) := by decide +kernel
theorem dJ7_copyOf_59c91_10 : decode cJ7_copyOf_59c91 10 = .ok (.checkcast 317, 3) := by decide +kernel
theorem dJ7_copyOf_59c91_13 : decode cJ7_copyOf_59c91 13 = .ok (.areturn, 1) := by decide +kernel
theorem dJ7_copyOf_59c91_14 : decode cJ7_copyOf_59c91 14 = .ok (.iload_n 1, 1) := by decide +kernel
theorem dJ7_copyOf_59c91_15 : decode cJ7_copyOf_59c91 15 = .ok (.newarray .int, 2) := by decide +kernel
theorem dJ7_copyOf_59c91_17 : decode cJ7_copyOf_59c91 17 = .ok (.astore_n 2, 1) := by decide +kernel
theorem dJ7_copyOf_59c91_18 : decode cJ7_copyOf_59c91 18 = .ok (.aload_n 0, 1) := by decide +kernel
theorem dJ7_copyOf_59c91_19 : decode cJ7_copyOf_59c91 19 = .ok (.iconst 0, 1) := by decide +kernel
theorem dJ7_copyOf_59c91_20 : decode cJ7_copyOf_59c91 20 = .ok (.aload_n 2, 1) := by decide +kernel
theorem dJ7_copyOf_59c91_21 : decode cJ7_copyOf_59c91 21 = .ok (.iconst 0, 1) := by decide +kernel
theorem dJ7_copyOf_59c91_22 : decode cJ7_copyOf_59c91 22 = .ok (.aload_n 0, 1) := by decide +kernel
theorem dJ7_copyOf_59c91_23 : decode cJ7_copyOf_59c91 23 = .ok (.arraylength, 1) := by decide +kernel
theorem dJ7_copyOf_59c91_24 : decode cJ7_copyOf_59c91 24 = .ok (.iload_n 1, 1) := by decide +kernel
theorem dJ7_copyOf_59c91_25 : decode cJ7_copyOf_59c91 25 = .ok (.invokestatic 304, 3) := by decide +kernel
theorem dJ7_copyOf_59c91_28 : decode cJ7_copyOf_59c91 28 = .ok (.invokestatic 150, 3) := by decide +kernel
theorem dJ7_copyOf_59c91_31 : decode cJ7_copyOf_59c91 31 = .ok (.aload_n 2, 1) := by decide +kernel
theorem dJ7_copyOf_59c91_32 : decode cJ7_copyOf_59c91 32 = .ok (.areturn, 1) := by decide +kernel
