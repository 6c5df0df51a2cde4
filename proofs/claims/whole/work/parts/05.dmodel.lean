theorem dX7_init_0 : decode cX7_init 0 = .ok (.aload_n 0, 1) := by decide +kernel
theorem dX7_init_1 : decode cX7_init 1 = .ok (.invokespecial 1, 3) := by decide +kernel
theorem dX7_init_4 : decode cX7_init 4 = .ok (.aload_n 0, 1) := by decide +kernel
theorem dX7_init_5 : decode cX7_init 5 = .ok (.sipush 600, 3) := by decide +kernel
theorem dX7_init_8 : decode cX7_init 8 = .ok (.newarray .int, 2) := by decide +kernel
theorem dX7_init_10 : decode cX7_init 10 = .ok (.putfield 9, 3) := by decide +kernel
theorem dX7_init_13 : decode cX7_init 13 = .ok (.aload_n 0, 1) := by decide +kernel
theorem dX7_init_14 : decode cX7_init 14 = .ok (.sipush 1500, 3) := by decide +kernel
theorem dX7_init_17 : decode cX7_init 17 = .ok (.newarray .int, 2) := by decide +kernel
theorem dX7_init_19 : decode cX7_init 19 = .ok (.putfield 13, 3) := by decide +kernel
theorem dX7_init_22 : decode cX7_init 22 = .ok (.aload_n 0, 1) := by decide +kernel
theorem dX7_init_23 : decode cX7_init 23 = .ok (.sipush 1500, 3) := by decide +kernel
theorem dX7_init_26 : decode cX7_init 26 = .ok (.newarray .int, 2) := by decide +kernel
theorem dX7_init_28 : decode cX7_init 28 = .ok (.putfield 16, 3) := by decide +kernel
theorem dX7_init_31 : decode cX7_init 31 = .ok (.aload_n 0, 1) := by decide +kernel
theorem dX7_init_32 : decode cX7_init 32 = .ok (.sipush 1500, 3) := by decide +kernel
theorem dX7_init_35 : decode cX7_init 35 = .ok (.newarray .int, 2) := by decide +kernel
theorem dX7_init_37 : decode cX7_init 37 = .ok (.putfield 19, 3) := by decide +kernel
theorem dX7_init_40 : decode cX7_init 40 = .ok (.aload_n 0, 1) := by decide +kernel
theorem dX7_init_41 : decode cX7_init 41 = .ok (.sipush 1500, 3) := by decide +kernel
theorem dX7_init_44 : decode cX7_init 44 = .ok (.newarray .int, 2) := by decide +kernel
theorem dX7_init_46 : decode cX7_init 46 = .ok (.putfield 22, 3) := by decide +kernel
theorem dX7_init_49 : decode cX7_init 49 = .ok (.aload_n 0, 1) := by decide +kernel
theorem dX7_init_50 : decode cX7_init 50 = .ok (.sipush 1500, 3) := by decide +kernel
theorem dX7_init_53 : decode cX7_init 53 = .ok (.newarray .int, 2) := by decide +kernel
theorem dX7_init_55 : decode cX7_init 55 = .ok (.putfield 25, 3) := by decide +kernel
theorem dX7_init_58 : decode cX7_init 58 = .ok (.aload_n 0, 1) := by decide +kernel
theorem dX7_init_59 : decode cX7_init 59 = .ok (.sipush 1500, 3) := by decide +kernel
theorem dX7_init_62 : decode cX7_init 62 = .ok (.newarray .int, 2) := by decide +kernel
theorem dX7_init_64 : decode cX7_init 64 = .ok (.putfield 28, 3) := by decide +kernel
theorem dX7_init_67 : decode cX7_init 67 = .ok (.aload_n 0, 1) := by decide +kernel
theorem dX7_init_68 : decode cX7_init 68 = .ok (.sipush 1500, 3) := by decide +kernel
theorem dX7_init_71 : decode cX7_init 71 = .ok (.newarray .int, 2) := by decide +kernel
theorem dX7_init_73 : decode cX7_init 73 = .ok (.putfield 31, 3) := by decide +kernel
theorem dX7_init_76 : decode cX7_init 76 = .ok (.aload_n 0, 1) := by decide +kernel
theorem dX7_init_77 : decode cX7_init 77 = .ok (.sipush 1500, 3) := by decide +kernel
theorem dX7_init_80 : decode cX7_init 80 = .ok (.newarray .int, 2) := by decide +kernel
theorem dX7_init_82 : decode cX7_init 82 = .ok (.putfield 34, 3) := by decide +kernel
theorem dX7_init_85 : decode cX7_init 85 = .ok (.aload_n 0, 1) := by decide +kernel
theorem dX7_init_86 : decode cX7_init 86 = .ok (.sipush 12600, 3) := by decide +kernel
theorem dX7_init_89 : decode cX7_init 89 = .ok (.newarray .int, 2) := by decide +kernel
theorem dX7_init_91 : decode cX7_init 91 = .ok (.putfield 37, 3) := by decide +kernel
theorem dX7_init_94 : decode cX7_init 94 = .ok (.aload_n 0, 1) := by decide +kernel
theorem dX7_init_95 : decode cX7_init 95 = .ok (.sipush 1500, 3) := by decide +kernel
theorem dX7_init_98 : decode cX7_init 98 = .ok (.newarray .int, 2) := by decide +kernel
theorem dX7_init_100 : decode cX7_init 100 = .ok (.putfield 40, 3) := by decide +kernel
theorem dX7_init_103 : decode cX7_init 103 = .ok (.aload_n 0, 1) := by decide +kernel
theorem dX7_init_104 : decode cX7_init 104 = .ok (.sipush 1500, 3) := by decide +kernel
theorem dX7_init_107 : decode cX7_init 107 = .ok (.newarray .int, 2) := by decide +kernel
theorem dX7_init_109 : decode cX7_init 109 = .ok (.putfield 43, 3) := by decide +kernel
theorem dX7_init_112 : decode cX7_init 112 = .ok (.aload_n 0, 1) := by decide +kernel
theorem dX7_init_113 : decode cX7_init 113 = .ok (.sipush 3900, 3) := by decide +kernel
theorem dX7_init_116 : decode cX7_init 116 = .ok (.newarray .int, 2) := by decide +kernel
theorem dX7_init_118 : decode cX7_init 118 = .ok (.putfield 46, 3) := by decide +kernel
theorem dX7_init_121 : decode cX7_init 121 = .ok (.aload_n 0, 1) := by decide +kernel
theorem dX7_init_122 : decode cX7_init 122 = .ok (.ldc 49, 2) := by decide +kernel
theorem dX7_init_124 : decode cX7_init 124 = .ok (.newarray .int, 2) := by decide +kernel
theorem dX7_init_126 : decode cX7_init 126 = .ok (.putfield 50, 3) := by decide +kernel
theorem dX7_init_129 : decode cX7_init 129 = .ok (.aload_n 0, 1) := by decide +kernel
theorem dX7_init_130 : decode cX7_init 130 = .ok (.bipush 8, 2) := by decide +kernel
theorem dX7_init_132 : decode cX7_init 132 = .ok (.newarray .int, 2) := by decide +kernel
theorem dX7_init_134 : decode cX7_init 134 = .ok (.putfield 53, 3) := by decide +kernel
theorem dX7_init_137 : decode cX7_init 137 = .ok (.aload_n 0, 1) := by decide +kernel
theorem dX7_init_138 : decode cX7_init 138 = .ok (.bipush 32, 2) := by decide +kernel
theorem dX7_init_140 : decode cX7_init 140 = .ok (.newarray .int, 2) := by decide +kernel
theorem dX7_init_142 : decode cX7_init 142 = .ok (.putfield 56, 3) := by decide +kernel
theorem dX7_init_145 : decode cX7_init 145 = .ok (.aload_n 0, 1) := by decide +kernel
theorem dX7_init_146 : decode cX7_init 146 = .ok (.bipush 32, 2) := by decide +kernel
theorem dX7_init_148 : decode cX7_init 148 = .ok (.newarray .int, 2) := by decide +kernel
theorem dX7_init_150 : decode cX7_init 150 = .ok (.putfield 59, 3) := by decide +kernel
theorem dX7_init_153 : decode cX7_init 153 = .ok (.aload_n 0, 1) := by decide +kernel
theorem dX7_init_154 : decode cX7_init 154 = .ok (.bipush 32, 2) := by decide +kernel
theorem dX7_init_156 : decode cX7_init 156 = .ok (.newarray .int, 2) := by decide +kernel
theorem dX7_init_158 : decode cX7_init 158 = .ok (.putfield 62, 3) := by decide +kernel
theorem dX7_init_161 : decode cX7_init 161 = .ok (.aload_n 0, 1) := by decide +kernel
theorem dX7_init_162 : decode cX7_init 162 = .ok (.invokevirtual 65, 3) := by decide +kernel
theorem dX7_init_165 : decode cX7_init 165 = .ok (.aload_n 0, 1) := by decide +kernel
theorem dX7_init_166 : decode cX7_init 166 = .ok (.invokevirtual 68, 3) := by decide +kernel
theorem dX7_init_169 : decode cX7_init 169 = .ok (.return_, 1) := by decide +kernel
theorem dX7_thrown_0 : decode cX7_thrown 0 = .ok (.aload_n 0, 1) := by decide +kernel
theorem dX7_thrown_1 : decode cX7_thrown 1 = .ok (.getfield 71, 3) := by decide +kernel
theorem dX7_thrown_4 : decode cX7_thrown 4 = .ok (.ireturn, 1) := by decide +kernel
theorem dX7_fail_0 : decode cX7_fail 0 = .ok (.aload_n 0, 1) := by decide +kernel
theorem dX7_fail_1 : decode cX7_fail 1 = .ok (.iload_n 1, 1) := by decide +kernel
theorem dX7_fail_2 : decode cX7_fail 2 = .ok (.putfield 71, 3) := by decide +kernel
theorem dX7_fail_5 : decode cX7_fail 5 = .ok (.iconst 0, 1) := by decide +kernel
theorem dX7_fail_6 : decode cX7_fail 6 = .ok (.ireturn, 1) := by decide +kernel
theorem dX7_byteOf_0 : decode cX7_byteOf 0 = .ok (.lload_n 0, 1) := by decide +kernel
theorem dX7_byteOf_1 : decode cX7_byteOf 1 = .ok (.bipush 56, 2) := by decide +kernel
theorem dX7_byteOf_3 : decode cX7_byteOf 3 = .ok (.bipush 8, 2) := by decide +kernel
theorem dX7_byteOf_5 : decode cX7_byteOf 5 = .ok (.iload_n 2, 1) := by decide +kernel
theorem dX7_byteOf_6 : decode cX7_byteOf 6 = .ok (.imul, 1) := by decide +kernel
theorem dX7_byteOf_7 : decode cX7_byteOf 7 = .ok (.isub, 1) := by decide +kernel
theorem dX7_byteOf_8 : decode cX7_byteOf 8 = .ok (.lshr, 1) := by decide +kernel
theorem dX7_byteOf_9 : decode cX7_byteOf 9 = .ok (.ldc2_w 75, 3) := by decide +kernel
theorem dX7_byteOf_12 : decode cX7_byteOf 12 = .ok (.land, 1) := by decide +kernel
theorem dX7_byteOf_13 : decode cX7_byteOf 13 = .ok (.l2i, 1) := by decide +kernel
theorem dX7_byteOf_14 : decode cX7_byteOf 14 = .ok (.ireturn, 1) := by decide +kernel
theorem dX7_take_0 : decode cX7_take 0 = .ok (.iconst 0, 1) := by decide +kernel
theorem dX7_take_1 : decode cX7_take 1 = .ok (.istore_n 3, 1) := by decide +kernel
theorem dX7_take_2 : decode cX7_take 2 = .ok (.iconst 0, 1) := by decide +kernel
theorem dX7_take_3 : decode cX7_take 3 = .ok (.istore 4, 2) := by decide +kernel
theorem dX7_take_5 : decode cX7_take 5 = .ok (.iload 4, 2) := by decide +kernel
theorem dX7_take_7 : decode cX7_take 7 = .ok (.bipush 8, 2) := by decide +kernel
theorem dX7_take_9 : decode cX7_take 9 = .ok (.if_icmp .ge 36, 3) := by decide +kernel
theorem dX7_take_12 : decode cX7_take 12 = .ok (.lload_n 1, 1) := by decide +kernel
theorem dX7_take_13 : decode cX7_take 13 = .ok (.iload 4, 2) := by decide +kernel
theorem dX7_take_15 : decode cX7_take 15 = .ok (.invokestatic 77, 3) := by decide +kernel
theorem dX7_take_18 : decode cX7_take 18 = .ok (.ifCond .ne 6, 3) := by decide +kernel
theorem dX7_take_21 : decode cX7_take 21 = .ok (.goto 18, 3) := by decide +kernel
theorem dX7_take_24 : decode cX7_take 24 = .ok (.aload_n 0, 1) := by decide +kernel
theorem dX7_take_25 : decode cX7_take 25 = .ok (.getfield 53, 3) := by decide +kernel
theorem dX7_take_28 : decode cX7_take 28 = .ok (.iload_n 3, 1) := by decide +kernel
theorem dX7_take_29 : decode cX7_take 29 = .ok (.lload_n 1, 1) := by decide +kernel
theorem dX7_take_30 : decode cX7_take 30 = .ok (.iload 4, 2) := by decide +kernel
theorem dX7_take_32 : decode cX7_take 32 = .ok (.invokestatic 77, 3) := by decide +kernel
theorem dX7_take_35 : decode cX7_take 35 = .ok (.iastore, 1) := by decide +kernel
theorem dX7_take_36 : decode cX7_take 36 = .ok (.iinc 3 1, 3) := by decide +kernel
theorem dX7_take_39 : decode cX7_take 39 = .ok (.iinc 4 1, 3) := by decide +kernel
theorem dX7_take_42 : decode cX7_take 42 = .ok (.goto (-37), 3) := by decide +kernel
theorem dX7_take_45 : decode cX7_take 45 = .ok (.iload_n 3, 1) := by decide +kernel
theorem dX7_take_46 : decode cX7_take 46 = .ok (.ireturn, 1) := by decide +kernel
theorem dX7_feed_0 : decode cX7_feed 0 = .ok (.aload_n 0, 1) := by decide +kernel
theorem dX7_feed_1 : decode cX7_feed 1 = .ok (.iconst 0, 1) := by decide +kernel
theorem dX7_feed_2 : decode cX7_feed 2 = .ok (.putfield 71, 3) := by decide +kernel
theorem dX7_feed_5 : decode cX7_feed 5 = .ok (.aload_n 0, 1) := by decide +kernel
theorem dX7_feed_6 : decode cX7_feed 6 = .ok (.lload_n 1, 1) := by decide +kernel
theorem dX7_feed_7 : decode cX7_feed 7 = .ok (.invokevirtual 81, 3) := by decide +kernel
theorem dX7_feed_10 : decode cX7_feed 10 = .ok (.istore_n 3, 1) := by decide +kernel
theorem dX7_feed_11 : decode cX7_feed 11 = .ok (.iconst 0, 1) := by decide +kernel
theorem dX7_feed_12 : decode cX7_feed 12 = .ok (.istore 4, 2) := by decide +kernel
theorem dX7_feed_14 : decode cX7_feed 14 = .ok (.iload 4, 2) := by decide +kernel
theorem dX7_feed_16 : decode cX7_feed 16 = .ok (.iload_n 3, 1) := by decide +kernel
theorem dX7_feed_17 : decode cX7_feed 17 = .ok (.if_icmp .ge 51, 3) := by decide +kernel
theorem dX7_feed_20 : decode cX7_feed 20 = .ok (.aload_n 0, 1) := by decide +kernel
theorem dX7_feed_21 : decode cX7_feed 21 = .ok (.getfield 53, 3) := by decide +kernel
theorem dX7_feed_24 : decode cX7_feed 24 = .ok (.iload 4, 2) := by decide +kernel
theorem dX7_feed_26 : decode cX7_feed 26 = .ok (.iaload, 1) := by decide +kernel
theorem dX7_feed_27 : decode cX7_feed 27 = .ok (.bipush 10, 2) := by decide +kernel
theorem dX7_feed_29 : decode cX7_feed 29 = .ok (.if_icmp .eq 33, 3) := by decide +kernel
theorem dX7_feed_32 : decode cX7_feed 32 = .ok (.aload_n 0, 1) := by decide +kernel
theorem dX7_feed_33 : decode cX7_feed 33 = .ok (.getfield 53, 3) := by decide +kernel
theorem dX7_feed_36 : decode cX7_feed 36 = .ok (.iload 4, 2) := by decide +kernel
theorem dX7_feed_38 : decode cX7_feed 38 = .ok (.iaload, 1) := by decide +kernel
theorem dX7_feed_39 : decode cX7_feed 39 = .ok (.bipush 32, 2) := by decide +kernel
theorem dX7_feed_41 : decode cX7_feed 41 = .ok (.if_icmp .lt 15, 3) := by decide +kernel
theorem dX7_feed_44 : decode cX7_feed 44 = .ok (.aload_n 0, 1) := by decide +kernel
theorem dX7_feed_45 : decode cX7_feed 45 = .ok (.getfield 53, 3) := by decide +kernel
theorem dX7_feed_48 : decode cX7_feed 48 = .ok (.iload 4, 2) := by decide +kernel
theorem dX7_feed_50 : decode cX7_feed 50 = .ok (.iaload, 1) := by decide +kernel
theorem dX7_feed_51 : decode cX7_feed 51 = .ok (.bipush 126, 2) := by decide +kernel
theorem dX7_feed_53 : decode cX7_feed 53 = .ok (.if_icmp .le 9, 3) := by decide +kernel
theorem dX7_feed_56 : decode cX7_feed 56 = .ok (.aload_n 0, 1) := by decide +kernel
theorem dX7_feed_57 : decode cX7_feed 57 = .ok (.iconst 1, 1) := by decide +kernel
theorem dX7_feed_58 : decode cX7_feed 58 = .ok (.invokevirtual 85, 3) := by decide +kernel
theorem dX7_feed_61 : decode cX7_feed 61 = .ok (.ireturn, 1) := by decide +kernel
theorem dX7_feed_62 : decode cX7_feed 62 = .ok (.iinc 4 1, 3) := by decide +kernel
theorem dX7_feed_65 : decode cX7_feed 65 = .ok (.goto (-51), 3) := by decide +kernel
theorem dX7_feed_68 : decode cX7_feed 68 = .ok (.aload_n 0, 1) := by decide +kernel
theorem dX7_feed_69 : decode cX7_feed 69 = .ok (.getfield 89, 3) := by decide +kernel
theorem dX7_feed_72 : decode cX7_feed 72 = .ok (.iload_n 3, 1) := by decide +kernel
theorem dX7_feed_73 : decode cX7_feed 73 = .ok (.iadd, 1) := by decide +kernel
theorem dX7_feed_74 : decode cX7_feed 74 = .ok (.sipush 600, 3) := by decide +kernel
theorem dX7_feed_77 : decode cX7_feed 77 = .ok (.if_icmp .le 9, 3) := by decide +kernel
theorem dX7_feed_80 : decode cX7_feed 80 = .ok (.aload_n 0, 1) := by decide +kernel
theorem dX7_feed_81 : decode cX7_feed 81 = .ok (.iconst 2, 1) := by decide +kernel
theorem dX7_feed_82 : decode cX7_feed 82 = .ok (.invokevirtual 85, 3) := by decide +kernel
theorem dX7_feed_85 : decode cX7_feed 85 = .ok (.ireturn, 1) := by decide +kernel
theorem dX7_feed_86 : decode cX7_feed 86 = .ok (.iconst 0, 1) := by decide +kernel
theorem dX7_feed_87 : decode cX7_feed 87 = .ok (.istore 4, 2) := by decide +kernel
theorem dX7_feed_89 : decode cX7_feed 89 = .ok (.iload 4, 2) := by decide +kernel
theorem dX7_feed_91 : decode cX7_feed 91 = .ok (.iload_n 3, 1) := by decide +kernel
theorem dX7_feed_92 : decode cX7_feed 92 = .ok (.if_icmp .ge 35, 3) := by decide +kernel
theorem dX7_feed_95 : decode cX7_feed 95 = .ok (.aload_n 0, 1) := by decide +kernel
theorem dX7_feed_96 : decode cX7_feed 96 = .ok (.getfield 9, 3) := by decide +kernel
theorem dX7_feed_99 : decode cX7_feed 99 = .ok (.aload_n 0, 1) := by decide +kernel
theorem dX7_feed_100 : decode cX7_feed 100 = .ok (.getfield 89, 3) := by decide +kernel
theorem dX7_feed_103 : decode cX7_feed 103 = .ok (.aload_n 0, 1) := by decide +kernel
theorem dX7_feed_104 : decode cX7_feed 104 = .ok (.getfield 53, 3) := by decide +kernel
theorem dX7_feed_107 : decode cX7_feed 107 = .ok (.iload 4, 2) := by decide +kernel
theorem dX7_feed_109 : decode cX7_feed 109 = .ok (.iaload, 1) := by decide +kernel
theorem dX7_feed_110 : decode cX7_feed 110 = .ok (.iastore, 1) := by decide +kernel
theorem dX7_feed_111 : decode cX7_feed 111 = .ok (.aload_n 0, 1) := by decide +kernel
theorem dX7_feed_112 : decode cX7_feed 112 = .ok (.dup, 1) := by decide +kernel
theorem dX7_feed_113 : decode cX7_feed 113 = .ok (.getfield 89, 3) := by decide +kernel
theorem dX7_feed_116 : decode cX7_feed 116 = .ok (.iconst 1, 1) := by decide +kernel
theorem dX7_feed_117 : decode cX7_feed 117 = .ok (.iadd, 1) := by decide +kernel
theorem dX7_feed_118 : decode cX7_feed 118 = .ok (.putfield 89, 3) := by decide +kernel
theorem dX7_feed_121 : decode cX7_feed 121 = .ok (.iinc 4 1, 3) := by decide +kernel
theorem dX7_feed_124 : decode cX7_feed 124 = .ok (.goto (-35), 3) := by decide +kernel
theorem dX7_feed_127 : decode cX7_feed 127 = .ok (.aload_n 0, 1) := by decide +kernel
theorem dX7_feed_128 : decode cX7_feed 128 = .ok (.getfield 89, 3) := by decide +kernel
theorem dX7_feed_131 : decode cX7_feed 131 = .ok (.ireturn, 1) := by decide +kernel
theorem dX7_trim_0 : decode cX7_trim 0 = .ok (.aload_n 0, 1) := by decide +kernel
theorem dX7_trim_1 : decode cX7_trim 1 = .ok (.iconst 0, 1) := by decide +kernel
theorem dX7_trim_2 : decode cX7_trim 2 = .ok (.putfield 71, 3) := by decide +kernel
theorem dX7_trim_5 : decode cX7_trim 5 = .ok (.iload_n 1, 1) := by decide +kernel
theorem dX7_trim_6 : decode cX7_trim 6 = .ok (.ifCond .lt 11, 3) := by decide +kernel
theorem dX7_trim_9 : decode cX7_trim 9 = .ok (.iload_n 1, 1) := by decide +kernel
theorem dX7_trim_10 : decode cX7_trim 10 = .ok (.aload_n 0, 1) := by decide +kernel
theorem dX7_trim_11 : decode cX7_trim 11 = .ok (.getfield 89, 3) := by decide +kernel
theorem dX7_trim_14 : decode cX7_trim 14 = .ok (.if_icmp .le 9, 3) := by decide +kernel
theorem dX7_trim_17 : decode cX7_trim 17 = .ok (.aload_n 0, 1) := by decide +kernel
theorem dX7_trim_18 : decode cX7_trim 18 = .ok (.iconst 1, 1) := by decide +kernel
theorem dX7_trim_19 : decode cX7_trim 19 = .ok (.invokevirtual 85, 3) := by decide +kernel
theorem dX7_trim_22 : decode cX7_trim 22 = .ok (.ireturn, 1) := by decide +kernel
theorem dX7_trim_23 : decode cX7_trim 23 = .ok (.aload_n 0, 1) := by decide +kernel
theorem dX7_trim_24 : decode cX7_trim 24 = .ok (.getfield 89, 3) := by decide +kernel
theorem dX7_trim_27 : decode cX7_trim 27 = .ok (.istore_n 2, 1) := by decide +kernel
theorem dX7_trim_28 : decode cX7_trim 28 = .ok (.aload_n 0, 1) := by decide +kernel
theorem dX7_trim_29 : decode cX7_trim 29 = .ok (.iload_n 1, 1) := by decide +kernel
theorem dX7_trim_30 : decode cX7_trim 30 = .ok (.putfield 89, 3) := by decide +kernel
theorem dX7_trim_33 : decode cX7_trim 33 = .ok (.iload_n 2, 1) := by decide +kernel
theorem dX7_trim_34 : decode cX7_trim 34 = .ok (.ireturn, 1) := by decide +kernel
theorem dX7_length_0 : decode cX7_length 0 = .ok (.aload_n 0, 1) := by decide +kernel
theorem dX7_length_1 : decode cX7_length 1 = .ok (.iconst 0, 1) := by decide +kernel
theorem dX7_length_2 : decode cX7_length 2 = .ok (.putfield 71, 3) := by decide +kernel
theorem dX7_length_5 : decode cX7_length 5 = .ok (.aload_n 0, 1) := by decide +kernel
theorem dX7_length_6 : decode cX7_length 6 = .ok (.getfield 89, 3) := by decide +kernel
theorem dX7_length_9 : decode cX7_length 9 = .ok (.ireturn, 1) := by decide +kernel
theorem dX7_begin_0 : decode cX7_begin 0 = .ok (.aload_n 0, 1) := by decide +kernel
theorem dX7_begin_1 : decode cX7_begin 1 = .ok (.iconst 0, 1) := by decide +kernel
theorem dX7_begin_2 : decode cX7_begin 2 = .ok (.putfield 92, 3) := by decide +kernel
theorem dX7_begin_5 : decode cX7_begin 5 = .ok (.aload_n 0, 1) := by decide +kernel
theorem dX7_begin_6 : decode cX7_begin 6 = .ok (.iconst 0, 1) := by decide +kernel
theorem dX7_begin_7 : decode cX7_begin 7 = .ok (.putfield 95, 3) := by decide +kernel
theorem dX7_begin_10 : decode cX7_begin 10 = .ok (.aload_n 0, 1) := by decide +kernel
theorem dX7_begin_11 : decode cX7_begin 11 = .ok (.iconst 0, 1) := by decide +kernel
theorem dX7_begin_12 : decode cX7_begin 12 = .ok (.iconst (-1), 1) := by decide +kernel
theorem dX7_begin_13 : decode cX7_begin 13 = .ok (.iconst 0, 1) := by decide +kernel
theorem dX7_begin_14 : decode cX7_begin 14 = .ok (.iconst 0, 1) := by decide +kernel
theorem dX7_begin_15 : decode cX7_begin 15 = .ok (.iconst 0, 1) := by decide +kernel
theorem dX7_begin_16 : decode cX7_begin 16 = .ok (.invokevirtual 98, 3) := by decide +kernel
theorem dX7_begin_19 : decode cX7_begin 19 = .ok (.pop, 1) := by decide +kernel
theorem dX7_begin_20 : decode cX7_begin 20 = .ok (.return_, 1) := by decide +kernel
theorem dX7_add_0 : decode cX7_add 0 = .ok (.aload_n 0, 1) := by decide +kernel
theorem dX7_add_1 : decode cX7_add 1 = .ok (.getfield 92, 3) := by decide +kernel
theorem dX7_add_4 : decode cX7_add 4 = .ok (.istore 6, 2) := by decide +kernel
theorem dX7_add_6 : decode cX7_add 6 = .ok (.aload_n 0, 1) := by decide +kernel
theorem dX7_add_7 : decode cX7_add 7 = .ok (.dup, 1) := by decide +kernel
theorem dX7_add_8 : decode cX7_add 8 = .ok (.getfield 92, 3) := by decide +kernel
theorem dX7_add_11 : decode cX7_add 11 = .ok (.iconst 1, 1) := by decide +kernel
theorem dX7_add_12 : decode cX7_add 12 = .ok (.iadd, 1) := by decide +kernel
theorem dX7_add_13 : decode cX7_add 13 = .ok (.putfield 92, 3) := by decide +kernel
theorem dX7_add_16 : decode cX7_add 16 = .ok (.aload_n 0, 1) := by decide +kernel
theorem dX7_add_17 : decode cX7_add 17 = .ok (.getfield 13, 3) := by decide +kernel
theorem dX7_add_20 : decode cX7_add 20 = .ok (.iload 6, 2) := by decide +kernel
theorem dX7_add_22 : decode cX7_add 22 = .ok (.iload_n 1, 1) := by decide +kernel
theorem dX7_add_23 : decode cX7_add 23 = .ok (.iastore, 1) := by decide +kernel
theorem dX7_add_24 : decode cX7_add 24 = .ok (.aload_n 0, 1) := by decide +kernel
theorem dX7_add_25 : decode cX7_add 25 = .ok (.getfield 25, 3) := by decide +kernel
theorem dX7_add_28 : decode cX7_add 28 = .ok (.iload 6, 2) := by decide +kernel
theorem dX7_add_30 : decode cX7_add 30 = .ok (.iload_n 3, 1) := by decide +kernel
theorem dX7_add_31 : decode cX7_add 31 = .ok (.iastore, 1) := by decide +kernel
theorem dX7_add_32 : decode cX7_add 32 = .ok (.aload_n 0, 1) := by decide +kernel
theorem dX7_add_33 : decode cX7_add 33 = .ok (.getfield 28, 3) := by decide +kernel
theorem dX7_add_36 : decode cX7_add 36 = .ok (.iload 6, 2) := by decide +kernel
theorem dX7_add_38 : decode cX7_add 38 = .ok (.iload 4, 2) := by decide +kernel
theorem dX7_add_40 : decode cX7_add 40 = .ok (.iastore, 1) := by decide +kernel
theorem dX7_add_41 : decode cX7_add 41 = .ok (.aload_n 0, 1) := by decide +kernel
theorem dX7_add_42 : decode cX7_add 42 = .ok (.getfield 31, 3) := by decide +kernel
theorem dX7_add_45 : decode cX7_add 45 = .ok (.iload 6, 2) := by decide +kernel
theorem dX7_add_47 : decode cX7_add 47 = .ok (.iload 5, 2) := by decide +kernel
theorem dX7_add_49 : decode cX7_add 49 = .ok (.iastore, 1) := by decide +kernel
theorem dX7_add_50 : decode cX7_add 50 = .ok (.aload_n 0, 1) := by decide +kernel
theorem dX7_add_51 : decode cX7_add 51 = .ok (.getfield 19, 3) := by decide +kernel
theorem dX7_add_54 : decode cX7_add 54 = .ok (.iload 6, 2) := by decide +kernel
theorem dX7_add_56 : decode cX7_add 56 = .ok (.iconst (-1), 1) := by decide +kernel
theorem dX7_add_57 : decode cX7_add 57 = .ok (.iastore, 1) := by decide +kernel
theorem dX7_add_58 : decode cX7_add 58 = .ok (.aload_n 0, 1) := by decide +kernel
theorem dX7_add_59 : decode cX7_add 59 = .ok (.getfield 16, 3) := by decide +kernel
theorem dX7_add_62 : decode cX7_add 62 = .ok (.iload 6, 2) := by decide +kernel
theorem dX7_add_64 : decode cX7_add 64 = .ok (.iconst (-1), 1) := by decide +kernel
theorem dX7_add_65 : decode cX7_add 65 = .ok (.iastore, 1) := by decide +kernel
theorem dX7_add_66 : decode cX7_add 66 = .ok (.aload_n 0, 1) := by decide +kernel
theorem dX7_add_67 : decode cX7_add 67 = .ok (.getfield 22, 3) := by decide +kernel
theorem dX7_add_70 : decode cX7_add 70 = .ok (.iload 6, 2) := by decide +kernel
theorem dX7_add_72 : decode cX7_add 72 = .ok (.iconst (-1), 1) := by decide +kernel
theorem dX7_add_73 : decode cX7_add 73 = .ok (.iastore, 1) := by decide +kernel
theorem dX7_add_74 : decode cX7_add 74 = .ok (.iload_n 2, 1) := by decide +kernel
theorem dX7_add_75 : decode cX7_add 75 = .ok (.iconst (-1), 1) := by decide +kernel
theorem dX7_add_76 : decode cX7_add 76 = .ok (.if_icmp .eq 15, 3) := by decide +kernel
theorem dX7_add_79 : decode cX7_add 79 = .ok (.aload_n 0, 1) := by decide +kernel
theorem dX7_add_80 : decode cX7_add 80 = .ok (.iload 6, 2) := by decide +kernel
theorem dX7_add_82 : decode cX7_add 82 = .ok (.iload_n 2, 1) := by decide +kernel
theorem dX7_add_83 : decode cX7_add 83 = .ok (.aload_n 0, 1) := by decide +kernel
theorem dX7_add_84 : decode cX7_add 84 = .ok (.iload_n 2, 1) := by decide +kernel
theorem dX7_add_85 : decode cX7_add 85 = .ok (.invokevirtual 102, 3) := by decide +kernel
theorem dX7_add_88 : decode cX7_add 88 = .ok (.invokevirtual 105, 3) := by decide +kernel
theorem dX7_add_91 : decode cX7_add 91 = .ok (.iload 6, 2) := by decide +kernel
theorem dX7_add_93 : decode cX7_add 93 = .ok (.ireturn, 1) := by decide +kernel
theorem dX7_countOf_0 : decode cX7_countOf 0 = .ok (.iconst 0, 1) := by decide +kernel
theorem dX7_countOf_1 : decode cX7_countOf 1 = .ok (.istore_n 2, 1) := by decide +kernel
theorem dX7_countOf_2 : decode cX7_countOf 2 = .ok (.aload_n 0, 1) := by decide +kernel
theorem dX7_countOf_3 : decode cX7_countOf 3 = .ok (.getfield 19, 3) := by decide +kernel
theorem dX7_countOf_6 : decode cX7_countOf 6 = .ok (.iload_n 1, 1) := by decide +kernel
theorem dX7_countOf_7 : decode cX7_countOf 7 = .ok (.iaload, 1) := by decide +kernel
theorem dX7_countOf_8 : decode cX7_countOf 8 = .ok (.istore_n 3, 1) := by decide +kernel
theorem dX7_countOf_9 : decode cX7_countOf 9 = .ok (.iload_n 3, 1) := by decide +kernel
theorem dX7_countOf_10 : decode cX7_countOf 10 = .ok (.iconst (-1), 1) := by decide +kernel
theorem dX7_countOf_11 : decode cX7_countOf 11 = .ok (.if_icmp .eq 16, 3) := by decide +kernel
theorem dX7_countOf_14 : decode cX7_countOf 14 = .ok (.iinc 2 1, 3) := by decide +kernel
theorem dX7_countOf_17 : decode cX7_countOf 17 = .ok (.aload_n 0, 1) := by decide +kernel
theorem dX7_countOf_18 : decode cX7_countOf 18 = .ok (.getfield 22, 3) := by decide +kernel
theorem dX7_countOf_21 : decode cX7_countOf 21 = .ok (.iload_n 3, 1) := by decide +kernel
theorem dX7_countOf_22 : decode cX7_countOf 22 = .ok (.iaload, 1) := by decide +kernel
theorem dX7_countOf_23 : decode cX7_countOf 23 = .ok (.istore_n 3, 1) := by decide +kernel
theorem dX7_countOf_24 : decode cX7_countOf 24 = .ok (.goto (-15), 3) := by decide +kernel
theorem dX7_countOf_27 : decode cX7_countOf 27 = .ok (.iload_n 2, 1) := by decide +kernel
theorem dX7_countOf_28 : decode cX7_countOf 28 = .ok (.ireturn, 1) := by decide +kernel
theorem dX7_childOf_0 : decode cX7_childOf 0 = .ok (.aload_n 0, 1) := by decide +kernel
theorem dX7_childOf_1 : decode cX7_childOf 1 = .ok (.getfield 19, 3) := by decide +kernel
theorem dX7_childOf_4 : decode cX7_childOf 4 = .ok (.iload_n 1, 1) := by decide +kernel
theorem dX7_childOf_5 : decode cX7_childOf 5 = .ok (.iaload, 1) := by decide +kernel
theorem dX7_childOf_6 : decode cX7_childOf 6 = .ok (.istore_n 3, 1) := by decide +kernel
theorem dX7_childOf_7 : decode cX7_childOf 7 = .ok (.iconst 0, 1) := by decide +kernel
theorem dX7_childOf_8 : decode cX7_childOf 8 = .ok (.istore 4, 2) := by decide +kernel
theorem dX7_childOf_10 : decode cX7_childOf 10 = .ok (.iload 4, 2) := by decide +kernel
theorem dX7_childOf_12 : decode cX7_childOf 12 = .ok (.iload_n 2, 1) := by decide +kernel
theorem dX7_childOf_13 : decode cX7_childOf 13 = .ok (.if_icmp .ge 21, 3) := by decide +kernel
theorem dX7_childOf_16 : decode cX7_childOf 16 = .ok (.iload_n 3, 1) := by decide +kernel
theorem dX7_childOf_17 : decode cX7_childOf 17 = .ok (.iconst (-1), 1) := by decide +kernel
theorem dX7_childOf_18 : decode cX7_childOf 18 = .ok (.if_icmp .eq 16, 3) := by decide +kernel
theorem dX7_childOf_21 : decode cX7_childOf 21 = .ok (.aload_n 0, 1) := by decide +kernel
theorem dX7_childOf_22 : decode cX7_childOf 22 = .ok (.getfield 22, 3) := by decide +kernel
theorem dX7_childOf_25 : decode cX7_childOf 25 = .ok (.iload_n 3, 1) := by decide +kernel
theorem dX7_childOf_26 : decode cX7_childOf 26 = .ok (.iaload, 1) := by decide +kernel
theorem dX7_childOf_27 : decode cX7_childOf 27 = .ok (.istore_n 3, 1) := by decide +kernel
theorem dX7_childOf_28 : decode cX7_childOf 28 = .ok (.iinc 4 1, 3) := by decide +kernel
theorem dX7_childOf_31 : decode cX7_childOf 31 = .ok (.goto (-21), 3) := by decide +kernel
theorem dX7_childOf_34 : decode cX7_childOf 34 = .ok (.iload_n 3, 1) := by decide +kernel
theorem dX7_childOf_35 : decode cX7_childOf 35 = .ok (.ireturn, 1) := by decide +kernel
theorem dX7_insert_0 : decode cX7_insert 0 = .ok (.aload_n 0, 1) := by decide +kernel
theorem dX7_insert_1 : decode cX7_insert 1 = .ok (.getfield 16, 3) := by decide +kernel
theorem dX7_insert_4 : decode cX7_insert 4 = .ok (.iload_n 1, 1) := by decide +kernel
theorem dX7_insert_5 : decode cX7_insert 5 = .ok (.iload_n 2, 1) := by decide +kernel
theorem dX7_insert_6 : decode cX7_insert 6 = .ok (.iastore, 1) := by decide +kernel
theorem dX7_insert_7 : decode cX7_insert 7 = .ok (.iload_n 3, 1) := by decide +kernel
theorem dX7_insert_8 : decode cX7_insert 8 = .ok (.ifCond .ne 23, 3) := by decide +kernel
theorem dX7_insert_11 : decode cX7_insert 11 = .ok (.aload_n 0, 1) := by decide +kernel
theorem dX7_insert_12 : decode cX7_insert 12 = .ok (.getfield 22, 3) := by decide +kernel
theorem dX7_insert_15 : decode cX7_insert 15 = .ok (.iload_n 1, 1) := by decide +kernel
theorem dX7_insert_16 : decode cX7_insert 16 = .ok (.aload_n 0, 1) := by decide +kernel
theorem dX7_insert_17 : decode cX7_insert 17 = .ok (.getfield 19, 3) := by decide +kernel
theorem dX7_insert_20 : decode cX7_insert 20 = .ok (.iload_n 2, 1) := by decide +kernel
theorem dX7_insert_21 : decode cX7_insert 21 = .ok (.iaload, 1) := by decide +kernel
theorem dX7_insert_22 : decode cX7_insert 22 = .ok (.iastore, 1) := by decide +kernel
theorem dX7_insert_23 : decode cX7_insert 23 = .ok (.aload_n 0, 1) := by decide +kernel
theorem dX7_insert_24 : decode cX7_insert 24 = .ok (.getfield 19, 3) := by decide +kernel
theorem dX7_insert_27 : decode cX7_insert 27 = .ok (.iload_n 2, 1) := by decide +kernel
theorem dX7_insert_28 : decode cX7_insert 28 = .ok (.iload_n 1, 1) := by decide +kernel
theorem dX7_insert_29 : decode cX7_insert 29 = .ok (.iastore, 1) := by decide +kernel
theorem dX7_insert_30 : decode cX7_insert 30 = .ok (.return_, 1) := by decide +kernel
theorem dX7_insert_31 : decode cX7_insert 31 = .ok (.aload_n 0, 1) := by decide +kernel
theorem dX7_insert_32 : decode cX7_insert 32 = .ok (.iload_n 2, 1) := by decide +kernel
theorem dX7_insert_33 : decode cX7_insert 33 = .ok (.iload_n 3, 1) := by decide +kernel
theorem dX7_insert_34 : decode cX7_insert 34 = .ok (.iconst 1, 1) := by decide +kernel
theorem dX7_insert_35 : decode cX7_insert 35 = .ok (.isub, 1) := by decide +kernel
theorem dX7_insert_36 : decode cX7_insert 36 = .ok (.invokevirtual 109, 3) := by decide +kernel
theorem dX7_insert_39 : decode cX7_insert 39 = .ok (.istore 4, 2) := by decide +kernel
theorem dX7_insert_41 : decode cX7_insert 41 = .ok (.aload_n 0, 1) := by decide +kernel
theorem dX7_insert_42 : decode cX7_insert 42 = .ok (.getfield 22, 3) := by decide +kernel
theorem dX7_insert_45 : decode cX7_insert 45 = .ok (.iload_n 1, 1) := by decide +kernel
theorem dX7_insert_46 : decode cX7_insert 46 = .ok (.aload_n 0, 1) := by decide +kernel
theorem dX7_insert_47 : decode cX7_insert 47 = .ok (.getfield 22, 3) := by decide +kernel
theorem dX7_insert_50 : decode cX7_insert 50 = .ok (.iload 4, 2) := by decide +kernel
theorem dX7_insert_52 : decode cX7_insert 52 = .ok (.iaload, 1) := by decide +kernel
theorem dX7_insert_53 : decode cX7_insert 53 = .ok (.iastore, 1) := by decide +kernel
theorem dX7_insert_54 : decode cX7_insert 54 = .ok (.aload_n 0, 1) := by decide +kernel
theorem dX7_insert_55 : decode cX7_insert 55 = .ok (.getfield 22, 3) := by decide +kernel
theorem dX7_insert_58 : decode cX7_insert 58 = .ok (.iload 4, 2) := by decide +kernel
theorem dX7_insert_60 : decode cX7_insert 60 = .ok (.iload_n 1, 1) := by decide +kernel
theorem dX7_insert_61 : decode cX7_insert 61 = .ok (.iastore, 1) := by decide +kernel
theorem dX7_insert_62 : decode cX7_insert 62 = .ok (.return_, 1) := by decide +kernel
theorem dX7_takeOut_0 : decode cX7_takeOut 0 = .ok (.aload_n 0, 1) := by decide +kernel
theorem dX7_takeOut_1 : decode cX7_takeOut 1 = .ok (.getfield 16, 3) := by decide +kernel
theorem dX7_takeOut_4 : decode cX7_takeOut 4 = .ok (.iload_n 1, 1) := by decide +kernel
theorem dX7_takeOut_5 : decode cX7_takeOut 5 = .ok (.iaload, 1) := by decide +kernel
theorem dX7_takeOut_6 : decode cX7_takeOut 6 = .ok (.istore_n 2, 1) := by decide +kernel
theorem dX7_takeOut_7 : decode cX7_takeOut 7 = .ok (.aload_n 0, 1) := by decide +kernel
theorem dX7_takeOut_8 : decode cX7_takeOut 8 = .ok (.getfield 19, 3) := by decide +kernel
theorem dX7_takeOut_11 : decode cX7_takeOut 11 = .ok (.iload_n 2, 1) := by decide +kernel
theorem dX7_takeOut_12 : decode cX7_takeOut 12 = .ok (.iaload, 1) := by decide +kernel
theorem dX7_takeOut_13 : decode cX7_takeOut 13 = .ok (.iload_n 1, 1) := by decide +kernel
theorem dX7_takeOut_14 : decode cX7_takeOut 14 = .ok (.if_icmp .ne 18, 3) := by decide +kernel
theorem dX7_takeOut_17 : decode cX7_takeOut 17 = .ok (.aload_n 0, 1) := by decide +kernel
theorem dX7_takeOut_18 : decode cX7_takeOut 18 = .ok (.getfield 19, 3) := by decide +kernel
theorem dX7_takeOut_21 : decode cX7_takeOut 21 = .ok (.iload_n 2, 1) := by decide +kernel
theorem dX7_takeOut_22 : decode cX7_takeOut 22 = .ok (.aload_n 0, 1) := by decide +kernel
theorem dX7_takeOut_23 : decode cX7_takeOut 23 = .ok (.getfield 22, 3) := by decide +kernel
theorem dX7_takeOut_26 : decode cX7_takeOut 26 = .ok (.iload_n 1, 1) := by decide +kernel
theorem dX7_takeOut_27 : decode cX7_takeOut 27 = .ok (.iaload, 1) := by decide +kernel
theorem dX7_takeOut_28 : decode cX7_takeOut 28 = .ok (.iastore, 1) := by decide +kernel
theorem dX7_takeOut_29 : decode cX7_takeOut 29 = .ok (.goto 42, 3) := by decide +kernel
theorem dX7_takeOut_32 : decode cX7_takeOut 32 = .ok (.aload_n 0, 1) := by decide +kernel
theorem dX7_takeOut_33 : decode cX7_takeOut 33 = .ok (.getfield 19, 3) := by decide +kernel
theorem dX7_takeOut_36 : decode cX7_takeOut 36 = .ok (.iload_n 2, 1) := by decide +kernel
theorem dX7_takeOut_37 : decode cX7_takeOut 37 = .ok (.iaload, 1) := by decide +kernel
theorem dX7_takeOut_38 : decode cX7_takeOut 38 = .ok (.istore_n 3, 1) := by decide +kernel
theorem dX7_takeOut_39 : decode cX7_takeOut 39 = .ok (.aload_n 0, 1) := by decide +kernel
theorem dX7_takeOut_40 : decode cX7_takeOut 40 = .ok (.getfield 22, 3) := by decide +kernel
theorem dX7_takeOut_43 : decode cX7_takeOut 43 = .ok (.iload_n 3, 1) := by decide +kernel
theorem dX7_takeOut_44 : decode cX7_takeOut 44 = .ok (.iaload, 1) := by decide +kernel
theorem dX7_takeOut_45 : decode cX7_takeOut 45 = .ok (.iload_n 1, 1) := by decide +kernel
theorem dX7_takeOut_46 : decode cX7_takeOut 46 = .ok (.if_icmp .eq 13, 3) := by decide +kernel
theorem dX7_takeOut_49 : decode cX7_takeOut 49 = .ok (.aload_n 0, 1) := by decide +kernel
theorem dX7_takeOut_50 : decode cX7_takeOut 50 = .ok (.getfield 22, 3) := by decide +kernel
theorem dX7_takeOut_53 : decode cX7_takeOut 53 = .ok (.iload_n 3, 1) := by decide +kernel
theorem dX7_takeOut_54 : decode cX7_takeOut 54 = .ok (.iaload, 1) := by decide +kernel
theorem dX7_takeOut_55 : decode cX7_takeOut 55 = .ok (.istore_n 3, 1) := by decide +kernel
theorem dX7_takeOut_56 : decode cX7_takeOut 56 = .ok (.goto (-17), 3) := by decide +kernel
theorem dX7_takeOut_59 : decode cX7_takeOut 59 = .ok (.aload_n 0, 1) := by decide +kernel
theorem dX7_takeOut_60 : decode cX7_takeOut 60 = .ok (.getfield 22, 3) := by decide +kernel
theorem dX7_takeOut_63 : decode cX7_takeOut 63 = .ok (.iload_n 3, 1) := by decide +kernel
theorem dX7_takeOut_64 : decode cX7_takeOut 64 = .ok (.aload_n 0, 1) := by decide +kernel
theorem dX7_takeOut_65 : decode cX7_takeOut 65 = .ok (.getfield 22, 3) := by decide +kernel
theorem dX7_takeOut_68 : decode cX7_takeOut 68 = .ok (.iload_n 1, 1) := by decide +kernel
theorem dX7_takeOut_69 : decode cX7_takeOut 69 = .ok (.iaload, 1) := by decide +kernel
theorem dX7_takeOut_70 : decode cX7_takeOut 70 = .ok (.iastore, 1) := by decide +kernel
theorem dX7_takeOut_71 : decode cX7_takeOut 71 = .ok (.return_, 1) := by decide +kernel
theorem dX7_following_0 : decode cX7_following 0 = .ok (.aload_n 0, 1) := by decide +kernel
theorem dX7_following_1 : decode cX7_following 1 = .ok (.getfield 19, 3) := by decide +kernel
theorem dX7_following_4 : decode cX7_following 4 = .ok (.iload_n 1, 1) := by decide +kernel
theorem dX7_following_5 : decode cX7_following 5 = .ok (.iaload, 1) := by decide +kernel
theorem dX7_following_6 : decode cX7_following 6 = .ok (.iconst (-1), 1) := by decide +kernel
theorem dX7_following_7 : decode cX7_following 7 = .ok (.if_icmp .eq 10, 3) := by decide +kernel
theorem dX7_following_10 : decode cX7_following 10 = .ok (.aload_n 0, 1) := by decide +kernel
theorem dX7_following_11 : decode cX7_following 11 = .ok (.getfield 19, 3) := by decide +kernel
theorem dX7_following_14 : decode cX7_following 14 = .ok (.iload_n 1, 1) := by decide +kernel
theorem dX7_following_15 : decode cX7_following 15 = .ok (.iaload, 1) := by decide +kernel
theorem dX7_following_16 : decode cX7_following 16 = .ok (.ireturn, 1) := by decide +kernel
theorem dX7_following_17 : decode cX7_following 17 = .ok (.iload_n 1, 1) := by decide +kernel
theorem dX7_following_18 : decode cX7_following 18 = .ok (.istore_n 3, 1) := by decide +kernel
theorem dX7_following_19 : decode cX7_following 19 = .ok (.iload_n 3, 1) := by decide +kernel
theorem dX7_following_20 : decode cX7_following 20 = .ok (.iload_n 2, 1) := by decide +kernel
theorem dX7_following_21 : decode cX7_following 21 = .ok (.if_icmp .eq 23, 3) := by decide +kernel
theorem dX7_following_24 : decode cX7_following 24 = .ok (.aload_n 0, 1) := by decide +kernel
theorem dX7_following_25 : decode cX7_following 25 = .ok (.getfield 22, 3) := by decide +kernel
theorem dX7_following_28 : decode cX7_following 28 = .ok (.iload_n 3, 1) := by decide +kernel
theorem dX7_following_29 : decode cX7_following 29 = .ok (.iaload, 1) := by decide +kernel
theorem dX7_following_30 : decode cX7_following 30 = .ok (.iconst (-1), 1) := by decide +kernel
theorem dX7_following_31 : decode cX7_following 31 = .ok (.if_icmp .ne 13, 3) := by decide +kernel
theorem dX7_following_34 : decode cX7_following 34 = .ok (.aload_n 0, 1) := by decide +kernel
theorem dX7_following_35 : decode cX7_following 35 = .ok (.getfield 16, 3) := by decide +kernel
theorem dX7_following_38 : decode cX7_following 38 = .ok (.iload_n 3, 1) := by decide +kernel
theorem dX7_following_39 : decode cX7_following 39 = .ok (.iaload, 1) := by decide +kernel
theorem dX7_following_40 : decode cX7_following 40 = .ok (.istore_n 3, 1) := by decide +kernel
theorem dX7_following_41 : decode cX7_following 41 = .ok (.goto (-22), 3) := by decide +kernel
theorem dX7_following_44 : decode cX7_following 44 = .ok (.iload_n 3, 1) := by decide +kernel
theorem dX7_following_45 : decode cX7_following 45 = .ok (.iload_n 2, 1) := by decide +kernel
theorem dX7_following_46 : decode cX7_following 46 = .ok (.if_icmp .ne 7, 3) := by decide +kernel
theorem dX7_following_49 : decode cX7_following 49 = .ok (.iconst (-1), 1) := by decide +kernel
theorem dX7_following_50 : decode cX7_following 50 = .ok (.goto 9, 3) := by decide +kernel
theorem dX7_following_53 : decode cX7_following 53 = .ok (.aload_n 0, 1) := by decide +kernel
theorem dX7_following_54 : decode cX7_following 54 = .ok (.getfield 22, 3) := by decide +kernel
theorem dX7_following_57 : decode cX7_following 57 = .ok (.iload_n 3, 1) := by decide +kernel
theorem dX7_following_58 : decode cX7_following 58 = .ok (.iaload, 1) := by decide +kernel
theorem dX7_following_59 : decode cX7_following 59 = .ok (.ireturn, 1) := by decide +kernel
theorem dX7_number_0 : decode cX7_number 0 = .ok (.aload_n 0, 1) := by decide +kernel
theorem dX7_number_1 : decode cX7_number 1 = .ok (.iconst 0, 1) := by decide +kernel
theorem dX7_number_2 : decode cX7_number 2 = .ok (.putfield 113, 3) := by decide +kernel
theorem dX7_number_5 : decode cX7_number 5 = .ok (.iconst 0, 1) := by decide +kernel
theorem dX7_number_6 : decode cX7_number 6 = .ok (.istore_n 1, 1) := by decide +kernel
theorem dX7_number_7 : decode cX7_number 7 = .ok (.iload_n 1, 1) := by decide +kernel
theorem dX7_number_8 : decode cX7_number 8 = .ok (.iconst (-1), 1) := by decide +kernel
theorem dX7_number_9 : decode cX7_number 9 = .ok (.if_icmp .eq 43, 3) := by decide +kernel
theorem dX7_number_12 : decode cX7_number 12 = .ok (.aload_n 0, 1) := by decide +kernel
theorem dX7_number_13 : decode cX7_number 13 = .ok (.getfield 40, 3) := by decide +kernel
theorem dX7_number_16 : decode cX7_number 16 = .ok (.aload_n 0, 1) := by decide +kernel
theorem dX7_number_17 : decode cX7_number 17 = .ok (.getfield 113, 3) := by decide +kernel
theorem dX7_number_20 : decode cX7_number 20 = .ok (.iload_n 1, 1) := by decide +kernel
theorem dX7_number_21 : decode cX7_number 21 = .ok (.iastore, 1) := by decide +kernel
theorem dX7_number_22 : decode cX7_number 22 = .ok (.aload_n 0, 1) := by decide +kernel
theorem dX7_number_23 : decode cX7_number 23 = .ok (.getfield 43, 3) := by decide +kernel
theorem dX7_number_26 : decode cX7_number 26 = .ok (.iload_n 1, 1) := by decide +kernel
theorem dX7_number_27 : decode cX7_number 27 = .ok (.aload_n 0, 1) := by decide +kernel
theorem dX7_number_28 : decode cX7_number 28 = .ok (.getfield 113, 3) := by decide +kernel
theorem dX7_number_31 : decode cX7_number 31 = .ok (.iastore, 1) := by decide +kernel
theorem dX7_number_32 : decode cX7_number 32 = .ok (.aload_n 0, 1) := by decide +kernel
theorem dX7_number_33 : decode cX7_number 33 = .ok (.dup, 1) := by decide +kernel
theorem dX7_number_34 : decode cX7_number 34 = .ok (.getfield 113, 3) := by decide +kernel
theorem dX7_number_37 : decode cX7_number 37 = .ok (.iconst 1, 1) := by decide +kernel
theorem dX7_number_38 : decode cX7_number 38 = .ok (.iadd, 1) := by decide +kernel
theorem dX7_number_39 : decode cX7_number 39 = .ok (.putfield 113, 3) := by decide +kernel
theorem dX7_number_42 : decode cX7_number 42 = .ok (.aload_n 0, 1) := by decide +kernel
theorem dX7_number_43 : decode cX7_number 43 = .ok (.iload_n 1, 1) := by decide +kernel
theorem dX7_number_44 : decode cX7_number 44 = .ok (.iconst 0, 1) := by decide +kernel
theorem dX7_number_45 : decode cX7_number 45 = .ok (.invokevirtual 116, 3) := by decide +kernel
theorem dX7_number_48 : decode cX7_number 48 = .ok (.istore_n 1, 1) := by decide +kernel
theorem dX7_number_49 : decode cX7_number 49 = .ok (.goto (-42), 3) := by decide +kernel
theorem dX7_number_52 : decode cX7_number 52 = .ok (.return_, 1) := by decide +kernel
theorem dX7_repair_0 : decode cX7_repair 0 = .ok (.aload_n 0, 1) := by decide +kernel
theorem dX7_repair_1 : decode cX7_repair 1 = .ok (.getfield 46, 3) := by decide +kernel
theorem dX7_repair_4 : decode cX7_repair 4 = .ok (.iconst 3, 1) := by decide +kernel
theorem dX7_repair_5 : decode cX7_repair 5 = .ok (.aload_n 0, 1) := by decide +kernel
theorem dX7_repair_6 : decode cX7_repair 6 = .ok (.getfield 95, 3) := by decide +kernel
theorem dX7_repair_9 : decode cX7_repair 9 = .ok (.imul, 1) := by decide +kernel
theorem dX7_repair_10 : decode cX7_repair 10 = .ok (.iload_n 1, 1) := by decide +kernel
theorem dX7_repair_11 : decode cX7_repair 11 = .ok (.iastore, 1) := by decide +kernel
theorem dX7_repair_12 : decode cX7_repair 12 = .ok (.aload_n 0, 1) := by decide +kernel
theorem dX7_repair_13 : decode cX7_repair 13 = .ok (.getfield 46, 3) := by decide +kernel
theorem dX7_repair_16 : decode cX7_repair 16 = .ok (.iconst 3, 1) := by decide +kernel
theorem dX7_repair_17 : decode cX7_repair 17 = .ok (.aload_n 0, 1) := by decide +kernel
theorem dX7_repair_18 : decode cX7_repair 18 = .ok (.getfield 95, 3) := by decide +kernel
theorem dX7_repair_21 : decode cX7_repair 21 = .ok (.imul, 1) := by decide +kernel
theorem dX7_repair_22 : decode cX7_repair 22 = .ok (.iconst 1, 1) := by decide +kernel
theorem dX7_repair_23 : decode cX7_repair 23 = .ok (.iadd, 1) := by decide +kernel
theorem dX7_repair_24 : decode cX7_repair 24 = .ok (.aload_n 0, 1) := by decide +kernel
theorem dX7_repair_25 : decode cX7_repair 25 = .ok (.getfield 119, 3) := by decide +kernel
theorem dX7_repair_28 : decode cX7_repair 28 = .ok (.iastore, 1) := by decide +kernel
theorem dX7_repair_29 : decode cX7_repair 29 = .ok (.aload_n 0, 1) := by decide +kernel
theorem dX7_repair_30 : decode cX7_repair 30 = .ok (.getfield 46, 3) := by decide +kernel
theorem dX7_repair_33 : decode cX7_repair 33 = .ok (.iconst 3, 1) := by decide +kernel
theorem dX7_repair_34 : decode cX7_repair 34 = .ok (.aload_n 0, 1) := by decide +kernel
theorem dX7_repair_35 : decode cX7_repair 35 = .ok (.getfield 95, 3) := by decide +kernel
theorem dX7_repair_38 : decode cX7_repair 38 = .ok (.imul, 1) := by decide +kernel
theorem dX7_repair_39 : decode cX7_repair 39 = .ok (.iconst 2, 1) := by decide +kernel
theorem dX7_repair_40 : decode cX7_repair 40 = .ok (.iadd, 1) := by decide +kernel
theorem dX7_repair_41 : decode cX7_repair 41 = .ok (.aload_n 0, 1) := by decide +kernel
theorem dX7_repair_42 : decode cX7_repair 42 = .ok (.getfield 122, 3) := by decide +kernel
theorem dX7_repair_45 : decode cX7_repair 45 = .ok (.iastore, 1) := by decide +kernel
theorem dX7_repair_46 : decode cX7_repair 46 = .ok (.aload_n 0, 1) := by decide +kernel
theorem dX7_repair_47 : decode cX7_repair 47 = .ok (.dup, 1) := by decide +kernel
theorem dX7_repair_48 : decode cX7_repair 48 = .ok (.getfield 95, 3) := by decide +kernel
theorem dX7_repair_51 : decode cX7_repair 51 = .ok (.iconst 1, 1) := by decide +kernel
theorem dX7_repair_52 : decode cX7_repair 52 = .ok (.iadd, 1) := by decide +kernel
theorem dX7_repair_53 : decode cX7_repair 53 = .ok (.putfield 95, 3) := by decide +kernel
theorem dX7_repair_56 : decode cX7_repair 56 = .ok (.return_, 1) := by decide +kernel
theorem dX7_push_0 : decode cX7_push 0 = .ok (.aload_n 0, 1) := by decide +kernel
theorem dX7_push_1 : decode cX7_push 1 = .ok (.getfield 56, 3) := by decide +kernel
theorem dX7_push_4 : decode cX7_push 4 = .ok (.aload_n 0, 1) := by decide +kernel
theorem dX7_push_5 : decode cX7_push 5 = .ok (.getfield 125, 3) := by decide +kernel
theorem dX7_push_8 : decode cX7_push 8 = .ok (.iload_n 1, 1) := by decide +kernel
theorem dX7_push_9 : decode cX7_push 9 = .ok (.iastore, 1) := by decide +kernel
theorem dX7_push_10 : decode cX7_push 10 = .ok (.aload_n 0, 1) := by decide +kernel
theorem dX7_push_11 : decode cX7_push 11 = .ok (.getfield 59, 3) := by decide +kernel
theorem dX7_push_14 : decode cX7_push 14 = .ok (.aload_n 0, 1) := by decide +kernel
theorem dX7_push_15 : decode cX7_push 15 = .ok (.getfield 125, 3) := by decide +kernel
theorem dX7_push_18 : decode cX7_push 18 = .ok (.iload_n 2, 1) := by decide +kernel
theorem dX7_push_19 : decode cX7_push 19 = .ok (.iastore, 1) := by decide +kernel
theorem dX7_push_20 : decode cX7_push 20 = .ok (.aload_n 0, 1) := by decide +kernel
theorem dX7_push_21 : decode cX7_push 21 = .ok (.getfield 62, 3) := by decide +kernel
theorem dX7_push_24 : decode cX7_push 24 = .ok (.aload_n 0, 1) := by decide +kernel
theorem dX7_push_25 : decode cX7_push 25 = .ok (.getfield 125, 3) := by decide +kernel
theorem dX7_push_28 : decode cX7_push 28 = .ok (.iconst (-1), 1) := by decide +kernel
theorem dX7_push_29 : decode cX7_push 29 = .ok (.iastore, 1) := by decide +kernel
theorem dX7_push_30 : decode cX7_push 30 = .ok (.aload_n 0, 1) := by decide +kernel
theorem dX7_push_31 : decode cX7_push 31 = .ok (.dup, 1) := by decide +kernel
theorem dX7_push_32 : decode cX7_push 32 = .ok (.getfield 125, 3) := by decide +kernel
theorem dX7_push_35 : decode cX7_push 35 = .ok (.iconst 1, 1) := by decide +kernel
theorem dX7_push_36 : decode cX7_push 36 = .ok (.iadd, 1) := by decide +kernel
theorem dX7_push_37 : decode cX7_push 37 = .ok (.putfield 125, 3) := by decide +kernel
theorem dX7_push_40 : decode cX7_push 40 = .ok (.return_, 1) := by decide +kernel
theorem dX7_top_0 : decode cX7_top 0 = .ok (.aload_n 0, 1) := by decide +kernel
theorem dX7_top_1 : decode cX7_top 1 = .ok (.getfield 125, 3) := by decide +kernel
theorem dX7_top_4 : decode cX7_top 4 = .ok (.iconst 1, 1) := by decide +kernel
theorem dX7_top_5 : decode cX7_top 5 = .ok (.isub, 1) := by decide +kernel
theorem dX7_top_6 : decode cX7_top 6 = .ok (.ireturn, 1) := by decide +kernel
theorem dX7_isGroupOpen_0 : decode cX7_isGroupOpen 0 = .ok (.aload_n 0, 1) := by decide +kernel
theorem dX7_isGroupOpen_1 : decode cX7_isGroupOpen 1 = .ok (.getfield 13, 3) := by decide +kernel
theorem dX7_isGroupOpen_4 : decode cX7_isGroupOpen 4 = .ok (.aload_n 0, 1) := by decide +kernel
theorem dX7_isGroupOpen_5 : decode cX7_isGroupOpen 5 = .ok (.getfield 56, 3) := by decide +kernel
theorem dX7_isGroupOpen_8 : decode cX7_isGroupOpen 8 = .ok (.aload_n 0, 1) := by decide +kernel
theorem dX7_isGroupOpen_9 : decode cX7_isGroupOpen 9 = .ok (.invokevirtual 128, 3) := by decide +kernel
theorem dX7_isGroupOpen_12 : decode cX7_isGroupOpen 12 = .ok (.iaload, 1) := by decide +kernel
theorem dX7_isGroupOpen_13 : decode cX7_isGroupOpen 13 = .ok (.iaload, 1) := by decide +kernel
theorem dX7_isGroupOpen_14 : decode cX7_isGroupOpen 14 = .ok (.iconst 4, 1) := by decide +kernel
theorem dX7_isGroupOpen_15 : decode cX7_isGroupOpen 15 = .ok (.if_icmp .ne 7, 3) := by decide +kernel
theorem dX7_isGroupOpen_18 : decode cX7_isGroupOpen 18 = .ok (.iconst 1, 1) := by decide +kernel
theorem dX7_isGroupOpen_19 : decode cX7_isGroupOpen 19 = .ok (.goto 4, 3) := by decide +kernel
theorem dX7_isGroupOpen_22 : decode cX7_isGroupOpen 22 = .ok (.iconst 0, 1) := by decide +kernel
theorem dX7_isGroupOpen_23 : decode cX7_isGroupOpen 23 = .ok (.ireturn, 1) := by decide +kernel
theorem dX7_isDigit_0 : decode cX7_isDigit 0 = .ok (.iload_n 0, 1) := by decide +kernel
theorem dX7_isDigit_1 : decode cX7_isDigit 1 = .ok (.bipush 48, 2) := by decide +kernel
theorem dX7_isDigit_3 : decode cX7_isDigit 3 = .ok (.if_icmp .lt 13, 3) := by decide +kernel
theorem dX7_isDigit_6 : decode cX7_isDigit 6 = .ok (.iload_n 0, 1) := by decide +kernel
theorem dX7_isDigit_7 : decode cX7_isDigit 7 = .ok (.bipush 57, 2) := by decide +kernel
theorem dX7_isDigit_9 : decode cX7_isDigit 9 = .ok (.if_icmp .gt 7, 3) := by decide +kernel
theorem dX7_isDigit_12 : decode cX7_isDigit 12 = .ok (.iconst 1, 1) := by decide +kernel
theorem dX7_isDigit_13 : decode cX7_isDigit 13 = .ok (.goto 4, 3) := by decide +kernel
theorem dX7_isDigit_16 : decode cX7_isDigit 16 = .ok (.iconst 0, 1) := by decide +kernel
theorem dX7_isDigit_17 : decode cX7_isDigit 17 = .ok (.ireturn, 1) := by decide +kernel
theorem dX7_isLetter_0 : decode cX7_isLetter 0 = .ok (.iload_n 0, 1) := by decide +kernel
theorem dX7_isLetter_1 : decode cX7_isLetter 1 = .ok (.bipush 97, 2) := by decide +kernel
theorem dX7_isLetter_3 : decode cX7_isLetter 3 = .ok (.if_icmp .lt 9, 3) := by decide +kernel
theorem dX7_isLetter_6 : decode cX7_isLetter 6 = .ok (.iload_n 0, 1) := by decide +kernel
theorem dX7_isLetter_7 : decode cX7_isLetter 7 = .ok (.bipush 122, 2) := by decide +kernel
theorem dX7_isLetter_9 : decode cX7_isLetter 9 = .ok (.if_icmp .le 15, 3) := by decide +kernel
theorem dX7_isLetter_12 : decode cX7_isLetter 12 = .ok (.iload_n 0, 1) := by decide +kernel
theorem dX7_isLetter_13 : decode cX7_isLetter 13 = .ok (.bipush 65, 2) := by decide +kernel
theorem dX7_isLetter_15 : decode cX7_isLetter 15 = .ok (.if_icmp .lt 13, 3) := by decide +kernel
theorem dX7_isLetter_18 : decode cX7_isLetter 18 = .ok (.iload_n 0, 1) := by decide +kernel
theorem dX7_isLetter_19 : decode cX7_isLetter 19 = .ok (.bipush 90, 2) := by decide +kernel
theorem dX7_isLetter_21 : decode cX7_isLetter 21 = .ok (.if_icmp .gt 7, 3) := by decide +kernel
theorem dX7_isLetter_24 : decode cX7_isLetter 24 = .ok (.iconst 1, 1) := by decide +kernel
theorem dX7_isLetter_25 : decode cX7_isLetter 25 = .ok (.goto 4, 3) := by decide +kernel
theorem dX7_isLetter_28 : decode cX7_isLetter 28 = .ok (.iconst 0, 1) := by decide +kernel
theorem dX7_isLetter_29 : decode cX7_isLetter 29 = .ok (.ireturn, 1) := by decide +kernel
theorem dX7_isSign_0 : decode cX7_isSign 0 = .ok (.iload_n 0, 1) := by decide +kernel
theorem dX7_isSign_1 : decode cX7_isSign 1 = .ok (.bipush 123, 2) := by decide +kernel
theorem dX7_isSign_3 : decode cX7_isSign 3 = .ok (.if_icmp .eq 33, 3) := by decide +kernel
theorem dX7_isSign_6 : decode cX7_isSign 6 = .ok (.iload_n 0, 1) := by decide +kernel
theorem dX7_isSign_7 : decode cX7_isSign 7 = .ok (.bipush 125, 2) := by decide +kernel
theorem dX7_isSign_9 : decode cX7_isSign 9 = .ok (.if_icmp .eq 27, 3) := by decide +kernel
theorem dX7_isSign_12 : decode cX7_isSign 12 = .ok (.iload_n 0, 1) := by decide +kernel
theorem dX7_isSign_13 : decode cX7_isSign 13 = .ok (.bipush 40, 2) := by decide +kernel
theorem dX7_isSign_15 : decode cX7_isSign 15 = .ok (.if_icmp .eq 21, 3) := by decide +kernel
theorem dX7_isSign_18 : decode cX7_isSign 18 = .ok (.iload_n 0, 1) := by decide +kernel
theorem dX7_isSign_19 : decode cX7_isSign 19 = .ok (.bipush 41, 2) := by decide +kernel
theorem dX7_isSign_21 : decode cX7_isSign 21 = .ok (.if_icmp .eq 15, 3) := by decide +kernel
theorem dX7_isSign_24 : decode cX7_isSign 24 = .ok (.iload_n 0, 1) := by decide +kernel
theorem dX7_isSign_25 : decode cX7_isSign 25 = .ok (.bipush 58, 2) := by decide +kernel
theorem dX7_isSign_27 : decode cX7_isSign 27 = .ok (.if_icmp .eq 9, 3) := by decide +kernel
theorem dX7_isSign_30 : decode cX7_isSign 30 = .ok (.iload_n 0, 1) := by decide +kernel
theorem dX7_isSign_31 : decode cX7_isSign 31 = .ok (.bipush 59, 2) := by decide +kernel
theorem dX7_isSign_33 : decode cX7_isSign 33 = .ok (.if_icmp .ne 7, 3) := by decide +kernel
theorem dX7_isSign_36 : decode cX7_isSign 36 = .ok (.iconst 1, 1) := by decide +kernel
theorem dX7_isSign_37 : decode cX7_isSign 37 = .ok (.goto 4, 3) := by decide +kernel
theorem dX7_isSign_40 : decode cX7_isSign 40 = .ok (.iconst 0, 1) := by decide +kernel
theorem dX7_isSign_41 : decode cX7_isSign 41 = .ok (.ireturn, 1) := by decide +kernel
theorem dX7_parse_0 : decode cX7_parse 0 = .ok (.aload_n 0, 1) := by decide +kernel
theorem dX7_parse_1 : decode cX7_parse 1 = .ok (.iconst 0, 1) := by decide +kernel
theorem dX7_parse_2 : decode cX7_parse 2 = .ok (.putfield 71, 3) := by decide +kernel
theorem dX7_parse_5 : decode cX7_parse 5 = .ok (.aload_n 0, 1) := by decide +kernel
theorem dX7_parse_6 : decode cX7_parse 6 = .ok (.invokevirtual 65, 3) := by decide +kernel
theorem dX7_parse_9 : decode cX7_parse 9 = .ok (.iconst 0, 1) := by decide +kernel
theorem dX7_parse_10 : decode cX7_parse 10 = .ok (.istore_n 1, 1) := by decide +kernel
theorem dX7_parse_11 : decode cX7_parse 11 = .ok (.iload_n 1, 1) := by decide +kernel
theorem dX7_parse_12 : decode cX7_parse 12 = .ok (.aload_n 0, 1) := by decide +kernel
theorem dX7_parse_13 : decode cX7_parse 13 = .ok (.getfield 89, 3) := by decide +kernel
theorem dX7_parse_16 : decode cX7_parse 16 = .ok (.if_icmp .ge 21, 3) := by decide +kernel
theorem dX7_parse_19 : decode cX7_parse 19 = .ok (.aload_n 0, 1) := by decide +kernel
theorem dX7_parse_20 : decode cX7_parse 20 = .ok (.getfield 37, 3) := by decide +kernel
theorem dX7_parse_23 : decode cX7_parse 23 = .ok (.iload_n 1, 1) := by decide +kernel
theorem dX7_parse_24 : decode cX7_parse 24 = .ok (.aload_n 0, 1) := by decide +kernel
theorem dX7_parse_25 : decode cX7_parse 25 = .ok (.getfield 9, 3) := by decide +kernel
theorem dX7_parse_28 : decode cX7_parse 28 = .ok (.iload_n 1, 1) := by decide +kernel
theorem dX7_parse_29 : decode cX7_parse 29 = .ok (.iaload, 1) := by decide +kernel
theorem dX7_parse_30 : decode cX7_parse 30 = .ok (.iastore, 1) := by decide +kernel
theorem dX7_parse_31 : decode cX7_parse 31 = .ok (.iinc 1 1, 3) := by decide +kernel
theorem dX7_parse_34 : decode cX7_parse 34 = .ok (.goto (-23), 3) := by decide +kernel
theorem dX7_parse_37 : decode cX7_parse 37 = .ok (.aload_n 0, 1) := by decide +kernel
theorem dX7_parse_38 : decode cX7_parse 38 = .ok (.iconst 0, 1) := by decide +kernel
theorem dX7_parse_39 : decode cX7_parse 39 = .ok (.putfield 125, 3) := by decide +kernel
theorem dX7_parse_42 : decode cX7_parse 42 = .ok (.aload_n 0, 1) := by decide +kernel
theorem dX7_parse_43 : decode cX7_parse 43 = .ok (.iconst 0, 1) := by decide +kernel
theorem dX7_parse_44 : decode cX7_parse 44 = .ok (.iconst (-1), 1) := by decide +kernel
theorem dX7_parse_45 : decode cX7_parse 45 = .ok (.invokevirtual 132, 3) := by decide +kernel
theorem dX7_parse_48 : decode cX7_parse 48 = .ok (.aload_n 0, 1) := by decide +kernel
theorem dX7_parse_49 : decode cX7_parse 49 = .ok (.iconst 0, 1) := by decide +kernel
theorem dX7_parse_50 : decode cX7_parse 50 = .ok (.putfield 136, 3) := by decide +kernel
theorem dX7_parse_53 : decode cX7_parse 53 = .ok (.iconst 0, 1) := by decide +kernel
theorem dX7_parse_54 : decode cX7_parse 54 = .ok (.istore_n 1, 1) := by decide +kernel
theorem dX7_parse_55 : decode cX7_parse 55 = .ok (.aload_n 0, 1) := by decide +kernel
theorem dX7_parse_56 : decode cX7_parse 56 = .ok (.iconst 0, 1) := by decide +kernel
theorem dX7_parse_57 : decode cX7_parse 57 = .ok (.putfield 119, 3) := by decide +kernel
theorem dX7_parse_60 : decode cX7_parse 60 = .ok (.iconst 0, 1) := by decide +kernel
theorem dX7_parse_61 : decode cX7_parse 61 = .ok (.istore_n 2, 1) := by decide +kernel
theorem dX7_parse_62 : decode cX7_parse 62 = .ok (.iconst 1, 1) := by decide +kernel
theorem dX7_parse_63 : decode cX7_parse 63 = .ok (.istore_n 3, 1) := by decide +kernel
theorem dX7_parse_64 : decode cX7_parse 64 = .ok (.iconst 0, 1) := by decide +kernel
theorem dX7_parse_65 : decode cX7_parse 65 = .ok (.istore 4, 2) := by decide +kernel
theorem dX7_parse_67 : decode cX7_parse 67 = .ok (.iload 4, 2) := by decide +kernel
theorem dX7_parse_69 : decode cX7_parse 69 = .ok (.aload_n 0, 1) := by decide +kernel
theorem dX7_parse_70 : decode cX7_parse 70 = .ok (.getfield 89, 3) := by decide +kernel
theorem dX7_parse_73 : decode cX7_parse 73 = .ok (.if_icmp .ge 325, 3) := by decide +kernel
theorem dX7_parse_76 : decode cX7_parse 76 = .ok (.aload_n 0, 1) := by decide +kernel
theorem dX7_parse_77 : decode cX7_parse 77 = .ok (.getfield 9, 3) := by decide +kernel
theorem dX7_parse_80 : decode cX7_parse 80 = .ok (.iload 4, 2) := by decide +kernel
theorem dX7_parse_82 : decode cX7_parse 82 = .ok (.iaload, 1) := by decide +kernel
theorem dX7_parse_83 : decode cX7_parse 83 = .ok (.istore 5, 2) := by decide +kernel
theorem dX7_parse_85 : decode cX7_parse 85 = .ok (.aload_n 0, 1) := by decide +kernel
theorem dX7_parse_86 : decode cX7_parse 86 = .ok (.iload 4, 2) := by decide +kernel
theorem dX7_parse_88 : decode cX7_parse 88 = .ok (.iload_n 2, 1) := by decide +kernel
theorem dX7_parse_89 : decode cX7_parse 89 = .ok (.isub, 1) := by decide +kernel
theorem dX7_parse_90 : decode cX7_parse 90 = .ok (.putfield 122, 3) := by decide +kernel
theorem dX7_parse_93 : decode cX7_parse 93 = .ok (.iload 4, 2) := by decide +kernel
theorem dX7_parse_95 : decode cX7_parse 95 = .ok (.iconst 1, 1) := by decide +kernel
theorem dX7_parse_96 : decode cX7_parse 96 = .ok (.iadd, 1) := by decide +kernel
theorem dX7_parse_97 : decode cX7_parse 97 = .ok (.istore 6, 2) := by decide +kernel
theorem dX7_parse_99 : decode cX7_parse 99 = .ok (.iload 5, 2) := by decide +kernel
theorem dX7_parse_101 : decode cX7_parse 101 = .ok (.bipush 92, 2) := by decide +kernel
theorem dX7_parse_103 : decode cX7_parse 103 = .ok (.if_icmp .ne 28, 3) := by decide +kernel
theorem dX7_parse_106 : decode cX7_parse 106 = .ok (.iload 6, 2) := by decide +kernel
theorem dX7_parse_108 : decode cX7_parse 108 = .ok (.aload_n 0, 1) := by decide +kernel
theorem dX7_parse_109 : decode cX7_parse 109 = .ok (.getfield 89, 3) := by decide +kernel
theorem dX7_parse_112 : decode cX7_parse 112 = .ok (.if_icmp .ge 19, 3) := by decide +kernel
theorem dX7_parse_115 : decode cX7_parse 115 = .ok (.aload_n 0, 1) := by decide +kernel
theorem dX7_parse_116 : decode cX7_parse 116 = .ok (.getfield 9, 3) := by decide +kernel
theorem dX7_parse_119 : decode cX7_parse 119 = .ok (.iload 6, 2) := by decide +kernel
theorem dX7_parse_121 : decode cX7_parse 121 = .ok (.iaload, 1) := by decide +kernel
theorem dX7_parse_122 : decode cX7_parse 122 = .ok (.bipush 10, 2) := by decide +kernel
theorem dX7_parse_124 : decode cX7_parse 124 = .ok (.if_icmp .ne 7, 3) := by decide +kernel
theorem dX7_parse_127 : decode cX7_parse 127 = .ok (.iconst 1, 1) := by decide +kernel
theorem dX7_parse_128 : decode cX7_parse 128 = .ok (.goto 4, 3) := by decide +kernel
theorem dX7_parse_131 : decode cX7_parse 131 = .ok (.iconst 0, 1) := by decide +kernel
theorem dX7_parse_132 : decode cX7_parse 132 = .ok (.istore 7, 2) := by decide +kernel
theorem dX7_parse_134 : decode cX7_parse 134 = .ok (.iload 7, 2) := by decide +kernel
theorem dX7_parse_136 : decode cX7_parse 136 = .ok (.ifCond .ne 10, 3) := by decide +kernel
theorem dX7_parse_139 : decode cX7_parse 139 = .ok (.iload 5, 2) := by decide +kernel
theorem dX7_parse_141 : decode cX7_parse 141 = .ok (.bipush 10, 2) := by decide +kernel
theorem dX7_parse_143 : decode cX7_parse 143 = .ok (.if_icmp .ne 48, 3) := by decide +kernel
theorem dX7_parse_146 : decode cX7_parse 146 = .ok (.iload 7, 2) := by decide +kernel
theorem dX7_parse_148 : decode cX7_parse 148 = .ok (.ifCond .eq 10, 3) := by decide +kernel
theorem dX7_parse_151 : decode cX7_parse 151 = .ok (.iload 4, 2) := by decide +kernel
theorem dX7_parse_153 : decode cX7_parse 153 = .ok (.iconst 2, 1) := by decide +kernel
theorem dX7_parse_154 : decode cX7_parse 154 = .ok (.iadd, 1) := by decide +kernel
theorem dX7_parse_155 : decode cX7_parse 155 = .ok (.goto 7, 3) := by decide +kernel
theorem dX7_parse_158 : decode cX7_parse 158 = .ok (.iload 4, 2) := by decide +kernel
theorem dX7_parse_160 : decode cX7_parse 160 = .ok (.iconst 1, 1) := by decide +kernel
theorem dX7_parse_161 : decode cX7_parse 161 = .ok (.iadd, 1) := by decide +kernel
theorem dX7_parse_162 : decode cX7_parse 162 = .ok (.istore 6, 2) := by decide +kernel
theorem dX7_parse_164 : decode cX7_parse 164 = .ok (.aload_n 0, 1) := by decide +kernel
theorem dX7_parse_165 : decode cX7_parse 165 = .ok (.dup, 1) := by decide +kernel
theorem dX7_parse_166 : decode cX7_parse 166 = .ok (.getfield 119, 3) := by decide +kernel
theorem dX7_parse_169 : decode cX7_parse 169 = .ok (.iconst 1, 1) := by decide +kernel
theorem dX7_parse_170 : decode cX7_parse 170 = .ok (.iadd, 1) := by decide +kernel
theorem dX7_parse_171 : decode cX7_parse 171 = .ok (.putfield 119, 3) := by decide +kernel
theorem dX7_parse_174 : decode cX7_parse 174 = .ok (.iload 6, 2) := by decide +kernel
theorem dX7_parse_176 : decode cX7_parse 176 = .ok (.istore_n 2, 1) := by decide +kernel
theorem dX7_parse_177 : decode cX7_parse 177 = .ok (.iload 7, 2) := by decide +kernel
theorem dX7_parse_179 : decode cX7_parse 179 = .ok (.ifCond .ne 7, 3) := by decide +kernel
theorem dX7_parse_182 : decode cX7_parse 182 = .ok (.iconst 1, 1) := by decide +kernel
theorem dX7_parse_183 : decode cX7_parse 183 = .ok (.goto 4, 3) := by decide +kernel
theorem dX7_parse_186 : decode cX7_parse 186 = .ok (.iconst 0, 1) := by decide +kernel
theorem dX7_parse_187 : decode cX7_parse 187 = .ok (.istore_n 3, 1) := by decide +kernel
theorem dX7_parse_188 : decode cX7_parse 188 = .ok (.goto 203, 3) := by decide +kernel
theorem dX7_parse_191 : decode cX7_parse 191 = .ok (.iload 5, 2) := by decide +kernel
theorem dX7_parse_193 : decode cX7_parse 193 = .ok (.bipush 35, 2) := by decide +kernel
theorem dX7_parse_195 : decode cX7_parse 195 = .ok (.if_icmp .ne 30, 3) := by decide +kernel
theorem dX7_parse_198 : decode cX7_parse 198 = .ok (.iload 6, 2) := by decide +kernel
theorem dX7_parse_200 : decode cX7_parse 200 = .ok (.aload_n 0, 1) := by decide +kernel
theorem dX7_parse_201 : decode cX7_parse 201 = .ok (.getfield 89, 3) := by decide +kernel
theorem dX7_parse_204 : decode cX7_parse 204 = .ok (.if_icmp .ge 187, 3) := by decide +kernel
theorem dX7_parse_207 : decode cX7_parse 207 = .ok (.aload_n 0, 1) := by decide +kernel
theorem dX7_parse_208 : decode cX7_parse 208 = .ok (.getfield 9, 3) := by decide +kernel
theorem dX7_parse_211 : decode cX7_parse 211 = .ok (.iload 6, 2) := by decide +kernel
theorem dX7_parse_213 : decode cX7_parse 213 = .ok (.iaload, 1) := by decide +kernel
theorem dX7_parse_214 : decode cX7_parse 214 = .ok (.bipush 10, 2) := by decide +kernel
theorem dX7_parse_216 : decode cX7_parse 216 = .ok (.if_icmp .eq 175, 3) := by decide +kernel
theorem dX7_parse_219 : decode cX7_parse 219 = .ok (.iinc 6 1, 3) := by decide +kernel
theorem dX7_parse_222 : decode cX7_parse 222 = .ok (.goto (-24), 3) := by decide +kernel
theorem dX7_parse_225 : decode cX7_parse 225 = .ok (.iload 5, 2) := by decide +kernel
theorem dX7_parse_227 : decode cX7_parse 227 = .ok (.invokestatic 140, 3) := by decide +kernel
theorem dX7_parse_230 : decode cX7_parse 230 = .ok (.ifCond .ne 19, 3) := by decide +kernel
theorem dX7_parse_233 : decode cX7_parse 233 = .ok (.iload 5, 2) := by decide +kernel
theorem dX7_parse_235 : decode cX7_parse 235 = .ok (.invokestatic 144, 3) := by decide +kernel
theorem dX7_parse_238 : decode cX7_parse 238 = .ok (.ifCond .ne 11, 3) := by decide +kernel
theorem dX7_parse_241 : decode cX7_parse 241 = .ok (.iload 5, 2) := by decide +kernel
theorem dX7_parse_243 : decode cX7_parse 243 = .ok (.invokestatic 147, 3) := by decide +kernel
theorem dX7_parse_246 : decode cX7_parse 246 = .ok (.ifCond .eq 133, 3) := by decide +kernel
theorem dX7_parse_249 : decode cX7_parse 249 = .ok (.aload_n 0, 1) := by decide +kernel
theorem dX7_parse_250 : decode cX7_parse 250 = .ok (.iload 5, 2) := by decide +kernel
theorem dX7_parse_252 : decode cX7_parse 252 = .ok (.invokestatic 140, 3) := by decide +kernel
theorem dX7_parse_255 : decode cX7_parse 255 = .ok (.ifCond .eq 7, 3) := by decide +kernel
theorem dX7_parse_258 : decode cX7_parse 258 = .ok (.iconst 2, 1) := by decide +kernel
theorem dX7_parse_259 : decode cX7_parse 259 = .ok (.goto 17, 3) := by decide +kernel
theorem dX7_parse_262 : decode cX7_parse 262 = .ok (.iload 5, 2) := by decide +kernel
theorem dX7_parse_264 : decode cX7_parse 264 = .ok (.invokestatic 144, 3) := by decide +kernel
theorem dX7_parse_267 : decode cX7_parse 267 = .ok (.ifCond .eq 7, 3) := by decide +kernel
theorem dX7_parse_270 : decode cX7_parse 270 = .ok (.iconst 3, 1) := by decide +kernel
theorem dX7_parse_271 : decode cX7_parse 271 = .ok (.goto 5, 3) := by decide +kernel
theorem dX7_parse_274 : decode cX7_parse 274 = .ok (.iload 5, 2) := by decide +kernel
theorem dX7_parse_276 : decode cX7_parse 276 = .ok (.putfield 150, 3) := by decide +kernel
theorem dX7_parse_279 : decode cX7_parse 279 = .ok (.iload 6, 2) := by decide +kernel
theorem dX7_parse_281 : decode cX7_parse 281 = .ok (.aload_n 0, 1) := by decide +kernel
theorem dX7_parse_282 : decode cX7_parse 282 = .ok (.getfield 89, 3) := by decide +kernel
theorem dX7_parse_285 : decode cX7_parse 285 = .ok (.if_icmp .ge 51, 3) := by decide +kernel
theorem dX7_parse_288 : decode cX7_parse 288 = .ok (.aload_n 0, 1) := by decide +kernel
theorem dX7_parse_289 : decode cX7_parse 289 = .ok (.getfield 150, 3) := by decide +kernel
theorem dX7_parse_292 : decode cX7_parse 292 = .ok (.iconst 2, 1) := by decide +kernel
theorem dX7_parse_293 : decode cX7_parse 293 = .ok (.if_icmp .ne 16, 3) := by decide +kernel
theorem dX7_parse_296 : decode cX7_parse 296 = .ok (.aload_n 0, 1) := by decide +kernel
theorem dX7_parse_297 : decode cX7_parse 297 = .ok (.getfield 9, 3) := by decide +kernel
theorem dX7_parse_300 : decode cX7_parse 300 = .ok (.iload 6, 2) := by decide +kernel
theorem dX7_parse_302 : decode cX7_parse 302 = .ok (.iaload, 1) := by decide +kernel
theorem dX7_parse_303 : decode cX7_parse 303 = .ok (.invokestatic 140, 3) := by decide +kernel
theorem dX7_parse_306 : decode cX7_parse 306 = .ok (.ifCond .ne 24, 3) := by decide +kernel
theorem dX7_parse_309 : decode cX7_parse 309 = .ok (.aload_n 0, 1) := by decide +kernel
theorem dX7_parse_310 : decode cX7_parse 310 = .ok (.getfield 150, 3) := by decide +kernel
theorem dX7_parse_313 : decode cX7_parse 313 = .ok (.iconst 3, 1) := by decide +kernel
theorem dX7_parse_314 : decode cX7_parse 314 = .ok (.if_icmp .gt 22, 3) := by decide +kernel
theorem dX7_parse_317 : decode cX7_parse 317 = .ok (.aload_n 0, 1) := by decide +kernel
theorem dX7_parse_318 : decode cX7_parse 318 = .ok (.getfield 9, 3) := by decide +kernel
theorem dX7_parse_321 : decode cX7_parse 321 = .ok (.iload 6, 2) := by decide +kernel
theorem dX7_parse_323 : decode cX7_parse 323 = .ok (.iaload, 1) := by decide +kernel
theorem dX7_parse_324 : decode cX7_parse 324 = .ok (.invokestatic 144, 3) := by decide +kernel
theorem dX7_parse_327 : decode cX7_parse 327 = .ok (.ifCond .eq 9, 3) := by decide +kernel
theorem dX7_parse_330 : decode cX7_parse 330 = .ok (.iinc 6 1, 3) := by decide +kernel
theorem dX7_parse_333 : decode cX7_parse 333 = .ok (.goto (-54), 3) := by decide +kernel
theorem dX7_parse_336 : decode cX7_parse 336 = .ok (.aload_n 0, 1) := by decide +kernel
theorem dX7_parse_337 : decode cX7_parse 337 = .ok (.iload 4, 2) := by decide +kernel
theorem dX7_parse_339 : decode cX7_parse 339 = .ok (.putfield 153, 3) := by decide +kernel
theorem dX7_parse_342 : decode cX7_parse 342 = .ok (.aload_n 0, 1) := by decide +kernel
theorem dX7_parse_343 : decode cX7_parse 343 = .ok (.iload 6, 2) := by decide +kernel
theorem dX7_parse_345 : decode cX7_parse 345 = .ok (.putfield 156, 3) := by decide +kernel
theorem dX7_parse_348 : decode cX7_parse 348 = .ok (.aload_n 0, 1) := by decide +kernel
theorem dX7_parse_349 : decode cX7_parse 349 = .ok (.iload_n 3, 1) := by decide +kernel
theorem dX7_parse_350 : decode cX7_parse 350 = .ok (.putfield 159, 3) := by decide +kernel
theorem dX7_parse_353 : decode cX7_parse 353 = .ok (.iconst 0, 1) := by decide +kernel
theorem dX7_parse_354 : decode cX7_parse 354 = .ok (.istore_n 3, 1) := by decide +kernel
theorem dX7_parse_355 : decode cX7_parse 355 = .ok (.iload_n 1, 1) := by decide +kernel
theorem dX7_parse_356 : decode cX7_parse 356 = .ok (.ifCond .ne 13, 3) := by decide +kernel
theorem dX7_parse_359 : decode cX7_parse 359 = .ok (.aload_n 0, 1) := by decide +kernel
theorem dX7_parse_360 : decode cX7_parse 360 = .ok (.getfield 59, 3) := by decide +kernel
theorem dX7_parse_363 : decode cX7_parse 363 = .ok (.iconst 0, 1) := by decide +kernel
theorem dX7_parse_364 : decode cX7_parse 364 = .ok (.aload_n 0, 1) := by decide +kernel
theorem dX7_parse_365 : decode cX7_parse 365 = .ok (.getfield 122, 3) := by decide +kernel
theorem dX7_parse_368 : decode cX7_parse 368 = .ok (.iastore, 1) := by decide +kernel
theorem dX7_parse_369 : decode cX7_parse 369 = .ok (.iinc 1 1, 3) := by decide +kernel
theorem dX7_parse_372 : decode cX7_parse 372 = .ok (.aload_n 0, 1) := by decide +kernel
theorem dX7_parse_373 : decode cX7_parse 373 = .ok (.invokevirtual 162, 3) := by decide +kernel
theorem dX7_parse_376 : decode cX7_parse 376 = .ok (.goto 15, 3) := by decide +kernel
theorem dX7_parse_379 : decode cX7_parse 379 = .ok (.iload 5, 2) := by decide +kernel
theorem dX7_parse_381 : decode cX7_parse 381 = .ok (.bipush 32, 2) := by decide +kernel
theorem dX7_parse_383 : decode cX7_parse 383 = .ok (.if_icmp .eq 8, 3) := by decide +kernel
theorem dX7_parse_386 : decode cX7_parse 386 = .ok (.aload_n 0, 1) := by decide +kernel
theorem dX7_parse_387 : decode cX7_parse 387 = .ok (.iconst 1, 1) := by decide +kernel
theorem dX7_parse_388 : decode cX7_parse 388 = .ok (.invokevirtual 165, 3) := by decide +kernel
theorem dX7_parse_391 : decode cX7_parse 391 = .ok (.iload 6, 2) := by decide +kernel
theorem dX7_parse_393 : decode cX7_parse 393 = .ok (.istore 4, 2) := by decide +kernel
theorem dX7_parse_395 : decode cX7_parse 395 = .ok (.goto (-328), 3) := by decide +kernel
theorem dX7_parse_398 : decode cX7_parse 398 = .ok (.iload_n 1, 1) := by decide +kernel
theorem dX7_parse_399 : decode cX7_parse 399 = .ok (.ifCond .ne 10, 3) := by decide +kernel
theorem dX7_parse_402 : decode cX7_parse 402 = .ok (.aload_n 0, 1) := by decide +kernel
theorem dX7_parse_403 : decode cX7_parse 403 = .ok (.getfield 59, 3) := by decide +kernel
theorem dX7_parse_406 : decode cX7_parse 406 = .ok (.iconst 0, 1) := by decide +kernel
theorem dX7_parse_407 : decode cX7_parse 407 = .ok (.iconst 0, 1) := by decide +kernel
theorem dX7_parse_408 : decode cX7_parse 408 = .ok (.iastore, 1) := by decide +kernel
theorem dX7_parse_409 : decode cX7_parse 409 = .ok (.aload_n 0, 1) := by decide +kernel
theorem dX7_parse_410 : decode cX7_parse 410 = .ok (.aload_n 0, 1) := by decide +kernel
theorem dX7_parse_411 : decode cX7_parse 411 = .ok (.getfield 89, 3) := by decide +kernel
theorem dX7_parse_414 : decode cX7_parse 414 = .ok (.iload_n 2, 1) := by decide +kernel
theorem dX7_parse_415 : decode cX7_parse 415 = .ok (.isub, 1) := by decide +kernel
theorem dX7_parse_416 : decode cX7_parse 416 = .ok (.putfield 122, 3) := by decide +kernel
theorem dX7_parse_419 : decode cX7_parse 419 = .ok (.aload_n 0, 1) := by decide +kernel
theorem dX7_parse_420 : decode cX7_parse 420 = .ok (.getfield 136, 3) := by decide +kernel
theorem dX7_parse_423 : decode cX7_parse 423 = .ok (.ifCond .eq 27, 3) := by decide +kernel
theorem dX7_parse_426 : decode cX7_parse 426 = .ok (.aload_n 0, 1) := by decide +kernel
theorem dX7_parse_427 : decode cX7_parse 427 = .ok (.iconst 0, 1) := by decide +kernel
theorem dX7_parse_428 : decode cX7_parse 428 = .ok (.aload_n 0, 1) := by decide +kernel
theorem dX7_parse_429 : decode cX7_parse 429 = .ok (.getfield 62, 3) := by decide +kernel
theorem dX7_parse_432 : decode cX7_parse 432 = .ok (.aload_n 0, 1) := by decide +kernel
theorem dX7_parse_433 : decode cX7_parse 433 = .ok (.invokevirtual 128, 3) := by decide +kernel
theorem dX7_parse_436 : decode cX7_parse 436 = .ok (.iaload, 1) := by decide +kernel
theorem dX7_parse_437 : decode cX7_parse 437 = .ok (.aload_n 0, 1) := by decide +kernel
theorem dX7_parse_438 : decode cX7_parse 438 = .ok (.getfield 119, 3) := by decide +kernel
theorem dX7_parse_441 : decode cX7_parse 441 = .ok (.aload_n 0, 1) := by decide +kernel
theorem dX7_parse_442 : decode cX7_parse 442 = .ok (.getfield 122, 3) := by decide +kernel
theorem dX7_parse_445 : decode cX7_parse 445 = .ok (.iconst 0, 1) := by decide +kernel
theorem dX7_parse_446 : decode cX7_parse 446 = .ok (.invokevirtual 98, 3) := by decide +kernel
theorem dX7_parse_449 : decode cX7_parse 449 = .ok (.pop, 1) := by decide +kernel
theorem dX7_parse_450 : decode cX7_parse 450 = .ok (.aload_n 0, 1) := by decide +kernel
theorem dX7_parse_451 : decode cX7_parse 451 = .ok (.invokevirtual 128, 3) := by decide +kernel
theorem dX7_parse_454 : decode cX7_parse 454 = .ok (.istore 5, 2) := by decide +kernel
theorem dX7_parse_456 : decode cX7_parse 456 = .ok (.iload 5, 2) := by decide +kernel
theorem dX7_parse_458 : decode cX7_parse 458 = .ok (.ifCond .lt 31, 3) := by decide +kernel
theorem dX7_parse_461 : decode cX7_parse 461 = .ok (.iload 5, 2) := by decide +kernel
theorem dX7_parse_463 : decode cX7_parse 463 = .ok (.ifCond .le 20, 3) := by decide +kernel
theorem dX7_parse_466 : decode cX7_parse 466 = .ok (.aload_n 0, 1) := by decide +kernel
theorem dX7_parse_467 : decode cX7_parse 467 = .ok (.getfield 59, 3) := by decide +kernel
theorem dX7_parse_470 : decode cX7_parse 470 = .ok (.iload 5, 2) := by decide +kernel
theorem dX7_parse_472 : decode cX7_parse 472 = .ok (.iaload, 1) := by decide +kernel
theorem dX7_parse_473 : decode cX7_parse 473 = .ok (.iconst (-1), 1) := by decide +kernel
theorem dX7_parse_474 : decode cX7_parse 474 = .ok (.if_icmp .ne 9, 3) := by decide +kernel
theorem dX7_parse_477 : decode cX7_parse 477 = .ok (.aload_n 0, 1) := by decide +kernel
theorem dX7_parse_478 : decode cX7_parse 478 = .ok (.bipush 6, 2) := by decide +kernel
theorem dX7_parse_480 : decode cX7_parse 480 = .ok (.invokevirtual 165, 3) := by decide +kernel
theorem dX7_parse_483 : decode cX7_parse 483 = .ok (.iinc 5 (-1), 3) := by decide +kernel
theorem dX7_parse_486 : decode cX7_parse 486 = .ok (.goto (-30), 3) := by decide +kernel
theorem dX7_parse_489 : decode cX7_parse 489 = .ok (.aload_n 0, 1) := by decide +kernel
theorem dX7_parse_490 : decode cX7_parse 490 = .ok (.invokevirtual 68, 3) := by decide +kernel
theorem dX7_parse_493 : decode cX7_parse 493 = .ok (.aload_n 0, 1) := by decide +kernel
theorem dX7_parse_494 : decode cX7_parse 494 = .ok (.getfield 113, 3) := by decide +kernel
theorem dX7_parse_497 : decode cX7_parse 497 = .ok (.ireturn, 1) := by decide +kernel
theorem dX7_isPart_0 : decode cX7_isPart 0 = .ok (.aload_n 0, 1) := by decide +kernel
theorem dX7_isPart_1 : decode cX7_isPart 1 = .ok (.getfield 150, 3) := by decide +kernel
theorem dX7_isPart_4 : decode cX7_isPart 4 = .ok (.iconst 2, 1) := by decide +kernel
theorem dX7_isPart_5 : decode cX7_isPart 5 = .ok (.if_icmp .eq 20, 3) := by decide +kernel
theorem dX7_isPart_8 : decode cX7_isPart 8 = .ok (.aload_n 0, 1) := by decide +kernel
theorem dX7_isPart_9 : decode cX7_isPart 9 = .ok (.getfield 150, 3) := by decide +kernel
theorem dX7_isPart_12 : decode cX7_isPart 12 = .ok (.iconst 3, 1) := by decide +kernel
theorem dX7_isPart_13 : decode cX7_isPart 13 = .ok (.if_icmp .eq 12, 3) := by decide +kernel
theorem dX7_isPart_16 : decode cX7_isPart 16 = .ok (.aload_n 0, 1) := by decide +kernel
theorem dX7_isPart_17 : decode cX7_isPart 17 = .ok (.getfield 150, 3) := by decide +kernel
theorem dX7_isPart_20 : decode cX7_isPart 20 = .ok (.bipush 40, 2) := by decide +kernel
theorem dX7_isPart_22 : decode cX7_isPart 22 = .ok (.if_icmp .ne 7, 3) := by decide +kernel
theorem dX7_isPart_25 : decode cX7_isPart 25 = .ok (.iconst 1, 1) := by decide +kernel
theorem dX7_isPart_26 : decode cX7_isPart 26 = .ok (.goto 4, 3) := by decide +kernel
theorem dX7_isPart_29 : decode cX7_isPart 29 = .ok (.iconst 0, 1) := by decide +kernel
theorem dX7_isPart_30 : decode cX7_isPart 30 = .ok (.ireturn, 1) := by decide +kernel
theorem dX7_accept_0 : decode cX7_accept 0 = .ok (.aload_n 0, 1) := by decide +kernel
theorem dX7_accept_1 : decode cX7_accept 1 = .ok (.getfield 136, 3) := by decide +kernel
theorem dX7_accept_4 : decode cX7_accept 4 = .ok (.istore_n 1, 1) := by decide +kernel
theorem dX7_accept_5 : decode cX7_accept 5 = .ok (.aload_n 0, 1) := by decide +kernel
theorem dX7_accept_6 : decode cX7_accept 6 = .ok (.iconst 0, 1) := by decide +kernel
theorem dX7_accept_7 : decode cX7_accept 7 = .ok (.putfield 136, 3) := by decide +kernel
theorem dX7_accept_10 : decode cX7_accept 10 = .ok (.aload_n 0, 1) := by decide +kernel
theorem dX7_accept_11 : decode cX7_accept 11 = .ok (.invokevirtual 169, 3) := by decide +kernel
theorem dX7_accept_14 : decode cX7_accept 14 = .ok (.ifCond .eq 54, 3) := by decide +kernel
theorem dX7_accept_17 : decode cX7_accept 17 = .ok (.aload_n 0, 1) := by decide +kernel
theorem dX7_accept_18 : decode cX7_accept 18 = .ok (.getfield 150, 3) := by decide +kernel
theorem dX7_accept_21 : decode cX7_accept 21 = .ok (.bipush 41, 2) := by decide +kernel
theorem dX7_accept_23 : decode cX7_accept 23 = .ok (.if_icmp .ne 16, 3) := by decide +kernel
theorem dX7_accept_26 : decode cX7_accept 26 = .ok (.aload_n 0, 1) := by decide +kernel
theorem dX7_accept_27 : decode cX7_accept 27 = .ok (.dup, 1) := by decide +kernel
theorem dX7_accept_28 : decode cX7_accept 28 = .ok (.getfield 125, 3) := by decide +kernel
theorem dX7_accept_31 : decode cX7_accept 31 = .ok (.iconst 1, 1) := by decide +kernel
theorem dX7_accept_32 : decode cX7_accept 32 = .ok (.isub, 1) := by decide +kernel
theorem dX7_accept_33 : decode cX7_accept 33 = .ok (.putfield 125, 3) := by decide +kernel
theorem dX7_accept_36 : decode cX7_accept 36 = .ok (.goto 31, 3) := by decide +kernel
theorem dX7_accept_39 : decode cX7_accept 39 = .ok (.aload_n 0, 1) := by decide +kernel
theorem dX7_accept_40 : decode cX7_accept 40 = .ok (.invokevirtual 173, 3) := by decide +kernel
theorem dX7_accept_43 : decode cX7_accept 43 = .ok (.ifCond .eq 19, 3) := by decide +kernel
theorem dX7_accept_46 : decode cX7_accept 46 = .ok (.aload_n 0, 1) := by decide +kernel
theorem dX7_accept_47 : decode cX7_accept 47 = .ok (.aload_n 0, 1) := by decide +kernel
theorem dX7_accept_48 : decode cX7_accept 48 = .ok (.getfield 56, 3) := by decide +kernel
theorem dX7_accept_51 : decode cX7_accept 51 = .ok (.aload_n 0, 1) := by decide +kernel
theorem dX7_accept_52 : decode cX7_accept 52 = .ok (.invokevirtual 128, 3) := by decide +kernel
theorem dX7_accept_55 : decode cX7_accept 55 = .ok (.iaload, 1) := by decide +kernel
theorem dX7_accept_56 : decode cX7_accept 56 = .ok (.invokevirtual 176, 3) := by decide +kernel
theorem dX7_accept_59 : decode cX7_accept 59 = .ok (.goto 8, 3) := by decide +kernel
theorem dX7_accept_62 : decode cX7_accept 62 = .ok (.aload_n 0, 1) := by decide +kernel
theorem dX7_accept_63 : decode cX7_accept 63 = .ok (.iconst 1, 1) := by decide +kernel
theorem dX7_accept_64 : decode cX7_accept 64 = .ok (.invokevirtual 165, 3) := by decide +kernel
theorem dX7_accept_67 : decode cX7_accept 67 = .ok (.return_, 1) := by decide +kernel
theorem dX7_accept_68 : decode cX7_accept 68 = .ok (.iload_n 1, 1) := by decide +kernel
theorem dX7_accept_69 : decode cX7_accept 69 = .ok (.ifCond .eq 41, 3) := by decide +kernel
theorem dX7_accept_72 : decode cX7_accept 72 = .ok (.aload_n 0, 1) := by decide +kernel
theorem dX7_accept_73 : decode cX7_accept 73 = .ok (.getfield 150, 3) := by decide +kernel
theorem dX7_accept_76 : decode cX7_accept 76 = .ok (.bipush 123, 2) := by decide +kernel
theorem dX7_accept_78 : decode cX7_accept 78 = .ok (.if_icmp .ne 32, 3) := by decide +kernel
theorem dX7_accept_81 : decode cX7_accept 81 = .ok (.aload_n 0, 1) := by decide +kernel
theorem dX7_accept_82 : decode cX7_accept 82 = .ok (.aload_n 0, 1) := by decide +kernel
theorem dX7_accept_83 : decode cX7_accept 83 = .ok (.iconst 0, 1) := by decide +kernel
theorem dX7_accept_84 : decode cX7_accept 84 = .ok (.aload_n 0, 1) := by decide +kernel
theorem dX7_accept_85 : decode cX7_accept 85 = .ok (.getfield 62, 3) := by decide +kernel
theorem dX7_accept_88 : decode cX7_accept 88 = .ok (.aload_n 0, 1) := by decide +kernel
theorem dX7_accept_89 : decode cX7_accept 89 = .ok (.invokevirtual 128, 3) := by decide +kernel
theorem dX7_accept_92 : decode cX7_accept 92 = .ok (.iaload, 1) := by decide +kernel
theorem dX7_accept_93 : decode cX7_accept 93 = .ok (.aload_n 0, 1) := by decide +kernel
theorem dX7_accept_94 : decode cX7_accept 94 = .ok (.getfield 119, 3) := by decide +kernel
theorem dX7_accept_97 : decode cX7_accept 97 = .ok (.aload_n 0, 1) := by decide +kernel
theorem dX7_accept_98 : decode cX7_accept 98 = .ok (.getfield 122, 3) := by decide +kernel
theorem dX7_accept_101 : decode cX7_accept 101 = .ok (.iconst 1, 1) := by decide +kernel
theorem dX7_accept_102 : decode cX7_accept 102 = .ok (.invokevirtual 98, 3) := by decide +kernel
theorem dX7_accept_105 : decode cX7_accept 105 = .ok (.iconst (-1), 1) := by decide +kernel
theorem dX7_accept_106 : decode cX7_accept 106 = .ok (.invokevirtual 132, 3) := by decide +kernel
theorem dX7_accept_109 : decode cX7_accept 109 = .ok (.return_, 1) := by decide +kernel
theorem dX7_accept_110 : decode cX7_accept 110 = .ok (.iload_n 1, 1) := by decide +kernel
theorem dX7_accept_111 : decode cX7_accept 111 = .ok (.ifCond .eq 30, 3) := by decide +kernel
theorem dX7_accept_114 : decode cX7_accept 114 = .ok (.aload_n 0, 1) := by decide +kernel
theorem dX7_accept_115 : decode cX7_accept 115 = .ok (.invokevirtual 173, 3) := by decide +kernel
theorem dX7_accept_118 : decode cX7_accept 118 = .ok (.ifCond .eq 23, 3) := by decide +kernel
theorem dX7_accept_121 : decode cX7_accept 121 = .ok (.aload_n 0, 1) := by decide +kernel
theorem dX7_accept_122 : decode cX7_accept 122 = .ok (.getfield 59, 3) := by decide +kernel
theorem dX7_accept_125 : decode cX7_accept 125 = .ok (.aload_n 0, 1) := by decide +kernel
theorem dX7_accept_126 : decode cX7_accept 126 = .ok (.invokevirtual 128, 3) := by decide +kernel
theorem dX7_accept_129 : decode cX7_accept 129 = .ok (.iaload, 1) := by decide +kernel
theorem dX7_accept_130 : decode cX7_accept 130 = .ok (.aload_n 0, 1) := by decide +kernel
theorem dX7_accept_131 : decode cX7_accept 131 = .ok (.getfield 122, 3) := by decide +kernel
theorem dX7_accept_134 : decode cX7_accept 134 = .ok (.if_icmp .ge 7, 3) := by decide +kernel
theorem dX7_accept_137 : decode cX7_accept 137 = .ok (.iconst 1, 1) := by decide +kernel
theorem dX7_accept_138 : decode cX7_accept 138 = .ok (.goto 4, 3) := by decide +kernel
theorem dX7_accept_141 : decode cX7_accept 141 = .ok (.iconst 0, 1) := by decide +kernel
theorem dX7_accept_142 : decode cX7_accept 142 = .ok (.istore_n 2, 1) := by decide +kernel
theorem dX7_accept_143 : decode cX7_accept 143 = .ok (.iload_n 2, 1) := by decide +kernel
theorem dX7_accept_144 : decode cX7_accept 144 = .ok (.ifCond .eq 37, 3) := by decide +kernel
theorem dX7_accept_147 : decode cX7_accept 147 = .ok (.aload_n 0, 1) := by decide +kernel
theorem dX7_accept_148 : decode cX7_accept 148 = .ok (.aload_n 0, 1) := by decide +kernel
theorem dX7_accept_149 : decode cX7_accept 149 = .ok (.iconst 0, 1) := by decide +kernel
theorem dX7_accept_150 : decode cX7_accept 150 = .ok (.aload_n 0, 1) := by decide +kernel
theorem dX7_accept_151 : decode cX7_accept 151 = .ok (.getfield 62, 3) := by decide +kernel
theorem dX7_accept_154 : decode cX7_accept 154 = .ok (.aload_n 0, 1) := by decide +kernel
theorem dX7_accept_155 : decode cX7_accept 155 = .ok (.invokevirtual 128, 3) := by decide +kernel
theorem dX7_accept_158 : decode cX7_accept 158 = .ok (.iaload, 1) := by decide +kernel
theorem dX7_accept_159 : decode cX7_accept 159 = .ok (.aload_n 0, 1) := by decide +kernel
theorem dX7_accept_160 : decode cX7_accept 160 = .ok (.getfield 119, 3) := by decide +kernel
theorem dX7_accept_163 : decode cX7_accept 163 = .ok (.aload_n 0, 1) := by decide +kernel
theorem dX7_accept_164 : decode cX7_accept 164 = .ok (.getfield 122, 3) := by decide +kernel
theorem dX7_accept_167 : decode cX7_accept 167 = .ok (.iconst 0, 1) := by decide +kernel
theorem dX7_accept_168 : decode cX7_accept 168 = .ok (.invokevirtual 98, 3) := by decide +kernel
theorem dX7_accept_171 : decode cX7_accept 171 = .ok (.aload_n 0, 1) := by decide +kernel
theorem dX7_accept_172 : decode cX7_accept 172 = .ok (.getfield 122, 3) := by decide +kernel
theorem dX7_accept_175 : decode cX7_accept 175 = .ok (.invokevirtual 132, 3) := by decide +kernel
theorem dX7_accept_178 : decode cX7_accept 178 = .ok (.goto 31, 3) := by decide +kernel
theorem dX7_accept_181 : decode cX7_accept 181 = .ok (.iload_n 1, 1) := by decide +kernel
theorem dX7_accept_182 : decode cX7_accept 182 = .ok (.ifCond .eq 27, 3) := by decide +kernel
theorem dX7_accept_185 : decode cX7_accept 185 = .ok (.aload_n 0, 1) := by decide +kernel
theorem dX7_accept_186 : decode cX7_accept 186 = .ok (.iconst 0, 1) := by decide +kernel
theorem dX7_accept_187 : decode cX7_accept 187 = .ok (.aload_n 0, 1) := by decide +kernel
theorem dX7_accept_188 : decode cX7_accept 188 = .ok (.getfield 62, 3) := by decide +kernel
theorem dX7_accept_191 : decode cX7_accept 191 = .ok (.aload_n 0, 1) := by decide +kernel
theorem dX7_accept_192 : decode cX7_accept 192 = .ok (.invokevirtual 128, 3) := by decide +kernel
theorem dX7_accept_195 : decode cX7_accept 195 = .ok (.iaload, 1) := by decide +kernel
theorem dX7_accept_196 : decode cX7_accept 196 = .ok (.aload_n 0, 1) := by decide +kernel
theorem dX7_accept_197 : decode cX7_accept 197 = .ok (.getfield 119, 3) := by decide +kernel
theorem dX7_accept_200 : decode cX7_accept 200 = .ok (.aload_n 0, 1) := by decide +kernel
theorem dX7_accept_201 : decode cX7_accept 201 = .ok (.getfield 122, 3) := by decide +kernel
theorem dX7_accept_204 : decode cX7_accept 204 = .ok (.iconst 0, 1) := by decide +kernel
theorem dX7_accept_205 : decode cX7_accept 205 = .ok (.invokevirtual 98, 3) := by decide +kernel
theorem dX7_accept_208 : decode cX7_accept 208 = .ok (.pop, 1) := by decide +kernel
theorem dX7_accept_209 : decode cX7_accept 209 = .ok (.iload_n 2, 1) := by decide +kernel
theorem dX7_accept_210 : decode cX7_accept 210 = .ok (.ifCond .ne 27, 3) := by decide +kernel
theorem dX7_accept_213 : decode cX7_accept 213 = .ok (.aload_n 0, 1) := by decide +kernel
theorem dX7_accept_214 : decode cX7_accept 214 = .ok (.getfield 159, 3) := by decide +kernel
theorem dX7_accept_217 : decode cX7_accept 217 = .ok (.ifCond .eq 20, 3) := by decide +kernel
theorem dX7_accept_220 : decode cX7_accept 220 = .ok (.aload_n 0, 1) := by decide +kernel
theorem dX7_accept_221 : decode cX7_accept 221 = .ok (.getfield 59, 3) := by decide +kernel
theorem dX7_accept_224 : decode cX7_accept 224 = .ok (.aload_n 0, 1) := by decide +kernel
theorem dX7_accept_225 : decode cX7_accept 225 = .ok (.invokevirtual 128, 3) := by decide +kernel
theorem dX7_accept_228 : decode cX7_accept 228 = .ok (.iaload, 1) := by decide +kernel
theorem dX7_accept_229 : decode cX7_accept 229 = .ok (.iconst (-1), 1) := by decide +kernel
theorem dX7_accept_230 : decode cX7_accept 230 = .ok (.if_icmp .eq 7, 3) := by decide +kernel
theorem dX7_accept_233 : decode cX7_accept 233 = .ok (.aload_n 0, 1) := by decide +kernel
theorem dX7_accept_234 : decode cX7_accept 234 = .ok (.invokevirtual 179, 3) := by decide +kernel
theorem dX7_accept_237 : decode cX7_accept 237 = .ok (.aload_n 0, 1) := by decide +kernel
theorem dX7_accept_238 : decode cX7_accept 238 = .ok (.invokevirtual 182, 3) := by decide +kernel
theorem dX7_accept_241 : decode cX7_accept 241 = .ok (.return_, 1) := by decide +kernel
theorem dX7_align_0 : decode cX7_align 0 = .ok (.iconst 0, 1) := by decide +kernel
theorem dX7_align_1 : decode cX7_align 1 = .ok (.istore_n 1, 1) := by decide +kernel
theorem dX7_align_2 : decode cX7_align 2 = .ok (.aload_n 0, 1) := by decide +kernel
theorem dX7_align_3 : decode cX7_align 3 = .ok (.invokevirtual 128, 3) := by decide +kernel
theorem dX7_align_6 : decode cX7_align 6 = .ok (.ifCond .le 34, 3) := by decide +kernel
theorem dX7_align_9 : decode cX7_align 9 = .ok (.aload_n 0, 1) := by decide +kernel
theorem dX7_align_10 : decode cX7_align 10 = .ok (.getfield 59, 3) := by decide +kernel
theorem dX7_align_13 : decode cX7_align 13 = .ok (.aload_n 0, 1) := by decide +kernel
theorem dX7_align_14 : decode cX7_align 14 = .ok (.invokevirtual 128, 3) := by decide +kernel
theorem dX7_align_17 : decode cX7_align 17 = .ok (.iaload, 1) := by decide +kernel
theorem dX7_align_18 : decode cX7_align 18 = .ok (.aload_n 0, 1) := by decide +kernel
theorem dX7_align_19 : decode cX7_align 19 = .ok (.getfield 122, 3) := by decide +kernel
theorem dX7_align_22 : decode cX7_align 22 = .ok (.if_icmp .le 18, 3) := by decide +kernel
theorem dX7_align_25 : decode cX7_align 25 = .ok (.aload_n 0, 1) := by decide +kernel
theorem dX7_align_26 : decode cX7_align 26 = .ok (.dup, 1) := by decide +kernel
theorem dX7_align_27 : decode cX7_align 27 = .ok (.getfield 125, 3) := by decide +kernel
theorem dX7_align_30 : decode cX7_align 30 = .ok (.iconst 1, 1) := by decide +kernel
theorem dX7_align_31 : decode cX7_align 31 = .ok (.isub, 1) := by decide +kernel
theorem dX7_align_32 : decode cX7_align 32 = .ok (.putfield 125, 3) := by decide +kernel
theorem dX7_align_35 : decode cX7_align 35 = .ok (.iconst 1, 1) := by decide +kernel
theorem dX7_align_36 : decode cX7_align 36 = .ok (.istore_n 1, 1) := by decide +kernel
theorem dX7_align_37 : decode cX7_align 37 = .ok (.goto (-35), 3) := by decide +kernel
theorem dX7_align_40 : decode cX7_align 40 = .ok (.aload_n 0, 1) := by decide +kernel
theorem dX7_align_41 : decode cX7_align 41 = .ok (.getfield 59, 3) := by decide +kernel
theorem dX7_align_44 : decode cX7_align 44 = .ok (.aload_n 0, 1) := by decide +kernel
theorem dX7_align_45 : decode cX7_align 45 = .ok (.invokevirtual 128, 3) := by decide +kernel
theorem dX7_align_48 : decode cX7_align 48 = .ok (.iaload, 1) := by decide +kernel
theorem dX7_align_49 : decode cX7_align 49 = .ok (.istore_n 2, 1) := by decide +kernel
theorem dX7_align_50 : decode cX7_align 50 = .ok (.iload_n 2, 1) := by decide +kernel
theorem dX7_align_51 : decode cX7_align 51 = .ok (.iconst (-1), 1) := by decide +kernel
theorem dX7_align_52 : decode cX7_align 52 = .ok (.if_icmp .eq 15, 3) := by decide +kernel
theorem dX7_align_55 : decode cX7_align 55 = .ok (.iload_n 2, 1) := by decide +kernel
theorem dX7_align_56 : decode cX7_align 56 = .ok (.aload_n 0, 1) := by decide +kernel
theorem dX7_align_57 : decode cX7_align 57 = .ok (.getfield 122, 3) := by decide +kernel
theorem dX7_align_60 : decode cX7_align 60 = .ok (.if_icmp .ge 8, 3) := by decide +kernel
theorem dX7_align_63 : decode cX7_align 63 = .ok (.iload_n 1, 1) := by decide +kernel
theorem dX7_align_64 : decode cX7_align 64 = .ok (.ifCond .ne 4, 3) := by decide +kernel
theorem dX7_align_67 : decode cX7_align 67 = .ok (.return_, 1) := by decide +kernel
theorem dX7_align_68 : decode cX7_align 68 = .ok (.iload_n 2, 1) := by decide +kernel
theorem dX7_align_69 : decode cX7_align 69 = .ok (.aload_n 0, 1) := by decide +kernel
theorem dX7_align_70 : decode cX7_align 70 = .ok (.getfield 122, 3) := by decide +kernel
theorem dX7_align_73 : decode cX7_align 73 = .ok (.if_icmp .eq 8, 3) := by decide +kernel
theorem dX7_align_76 : decode cX7_align 76 = .ok (.aload_n 0, 1) := by decide +kernel
theorem dX7_align_77 : decode cX7_align 77 = .ok (.iconst 2, 1) := by decide +kernel
theorem dX7_align_78 : decode cX7_align 78 = .ok (.invokevirtual 165, 3) := by decide +kernel
theorem dX7_align_81 : decode cX7_align 81 = .ok (.aload_n 0, 1) := by decide +kernel
theorem dX7_align_82 : decode cX7_align 82 = .ok (.getfield 62, 3) := by decide +kernel
theorem dX7_align_85 : decode cX7_align 85 = .ok (.aload_n 0, 1) := by decide +kernel
theorem dX7_align_86 : decode cX7_align 86 = .ok (.invokevirtual 128, 3) := by decide +kernel
theorem dX7_align_89 : decode cX7_align 89 = .ok (.iconst (-1), 1) := by decide +kernel
theorem dX7_align_90 : decode cX7_align 90 = .ok (.iastore, 1) := by decide +kernel
theorem dX7_align_91 : decode cX7_align 91 = .ok (.return_, 1) := by decide +kernel
theorem dX7_act_0 : decode cX7_act 0 = .ok (.aload_n 0, 1) := by decide +kernel
theorem dX7_act_1 : decode cX7_act 1 = .ok (.invokevirtual 173, 3) := by decide +kernel
theorem dX7_act_4 : decode cX7_act 4 = .ok (.ifCond .eq 10, 3) := by decide +kernel
theorem dX7_act_7 : decode cX7_act 7 = .ok (.aload_n 0, 1) := by decide +kernel
theorem dX7_act_8 : decode cX7_act 8 = .ok (.invokevirtual 185, 3) := by decide +kernel
theorem dX7_act_11 : decode cX7_act 11 = .ok (.goto 118, 3) := by decide +kernel
theorem dX7_act_14 : decode cX7_act 14 = .ok (.aload_n 0, 1) := by decide +kernel
theorem dX7_act_15 : decode cX7_act 15 = .ok (.getfield 150, 3) := by decide +kernel
theorem dX7_act_18 : decode cX7_act 18 = .ok (.bipush 59, 2) := by decide +kernel
theorem dX7_act_20 : decode cX7_act 20 = .ok (.if_icmp .ne 16, 3) := by decide +kernel
theorem dX7_act_23 : decode cX7_act 23 = .ok (.aload_n 0, 1) := by decide +kernel
theorem dX7_act_24 : decode cX7_act 24 = .ok (.getfield 62, 3) := by decide +kernel
theorem dX7_act_27 : decode cX7_act 27 = .ok (.aload_n 0, 1) := by decide +kernel
theorem dX7_act_28 : decode cX7_act 28 = .ok (.invokevirtual 128, 3) := by decide +kernel
theorem dX7_act_31 : decode cX7_act 31 = .ok (.iconst (-1), 1) := by decide +kernel
theorem dX7_act_32 : decode cX7_act 32 = .ok (.iastore, 1) := by decide +kernel
theorem dX7_act_33 : decode cX7_act 33 = .ok (.goto 96, 3) := by decide +kernel
theorem dX7_act_36 : decode cX7_act 36 = .ok (.aload_n 0, 1) := by decide +kernel
theorem dX7_act_37 : decode cX7_act 37 = .ok (.getfield 150, 3) := by decide +kernel
theorem dX7_act_40 : decode cX7_act 40 = .ok (.bipush 58, 2) := by decide +kernel
theorem dX7_act_42 : decode cX7_act 42 = .ok (.if_icmp .ne 49, 3) := by decide +kernel
theorem dX7_act_45 : decode cX7_act 45 = .ok (.aload_n 0, 1) := by decide +kernel
theorem dX7_act_46 : decode cX7_act 46 = .ok (.getfield 62, 3) := by decide +kernel
theorem dX7_act_49 : decode cX7_act 49 = .ok (.aload_n 0, 1) := by decide +kernel
theorem dX7_act_50 : decode cX7_act 50 = .ok (.invokevirtual 128, 3) := by decide +kernel
theorem dX7_act_53 : decode cX7_act 53 = .ok (.iaload, 1) := by decide +kernel
theorem dX7_act_54 : decode cX7_act 54 = .ok (.iconst (-1), 1) := by decide +kernel
theorem dX7_act_55 : decode cX7_act 55 = .ok (.if_icmp .ne 11, 3) := by decide +kernel
theorem dX7_act_58 : decode cX7_act 58 = .ok (.aload_n 0, 1) := by decide +kernel
theorem dX7_act_59 : decode cX7_act 59 = .ok (.iconst 3, 1) := by decide +kernel
theorem dX7_act_60 : decode cX7_act 60 = .ok (.invokevirtual 165, 3) := by decide +kernel
theorem dX7_act_63 : decode cX7_act 63 = .ok (.goto 66, 3) := by decide +kernel
theorem dX7_act_66 : decode cX7_act 66 = .ok (.aload_n 0, 1) := by decide +kernel
theorem dX7_act_67 : decode cX7_act 67 = .ok (.getfield 125, 3) := by decide +kernel
theorem dX7_act_70 : decode cX7_act 70 = .ok (.bipush 30, 2) := by decide +kernel
theorem dX7_act_72 : decode cX7_act 72 = .ok (.if_icmp .le 11, 3) := by decide +kernel
theorem dX7_act_75 : decode cX7_act 75 = .ok (.aload_n 0, 1) := by decide +kernel
theorem dX7_act_76 : decode cX7_act 76 = .ok (.iconst 5, 1) := by decide +kernel
theorem dX7_act_77 : decode cX7_act 77 = .ok (.invokevirtual 165, 3) := by decide +kernel
theorem dX7_act_80 : decode cX7_act 80 = .ok (.goto 49, 3) := by decide +kernel
theorem dX7_act_83 : decode cX7_act 83 = .ok (.aload_n 0, 1) := by decide +kernel
theorem dX7_act_84 : decode cX7_act 84 = .ok (.iconst 1, 1) := by decide +kernel
theorem dX7_act_85 : decode cX7_act 85 = .ok (.putfield 136, 3) := by decide +kernel
theorem dX7_act_88 : decode cX7_act 88 = .ok (.goto 41, 3) := by decide +kernel
theorem dX7_act_91 : decode cX7_act 91 = .ok (.aload_n 0, 1) := by decide +kernel
theorem dX7_act_92 : decode cX7_act 92 = .ok (.getfield 150, 3) := by decide +kernel
theorem dX7_act_95 : decode cX7_act 95 = .ok (.bipush 123, 2) := by decide +kernel
theorem dX7_act_97 : decode cX7_act 97 = .ok (.if_icmp .ne 11, 3) := by decide +kernel
theorem dX7_act_100 : decode cX7_act 100 = .ok (.aload_n 0, 1) := by decide +kernel
theorem dX7_act_101 : decode cX7_act 101 = .ok (.iconst 3, 1) := by decide +kernel
theorem dX7_act_102 : decode cX7_act 102 = .ok (.invokevirtual 165, 3) := by decide +kernel
theorem dX7_act_105 : decode cX7_act 105 = .ok (.goto 24, 3) := by decide +kernel
theorem dX7_act_108 : decode cX7_act 108 = .ok (.aload_n 0, 1) := by decide +kernel
theorem dX7_act_109 : decode cX7_act 109 = .ok (.getfield 150, 3) := by decide +kernel
theorem dX7_act_112 : decode cX7_act 112 = .ok (.bipush 41, 2) := by decide +kernel
theorem dX7_act_114 : decode cX7_act 114 = .ok (.if_icmp .ne 11, 3) := by decide +kernel
theorem dX7_act_117 : decode cX7_act 117 = .ok (.aload_n 0, 1) := by decide +kernel
theorem dX7_act_118 : decode cX7_act 118 = .ok (.iconst 4, 1) := by decide +kernel
theorem dX7_act_119 : decode cX7_act 119 = .ok (.invokevirtual 165, 3) := by decide +kernel
theorem dX7_act_122 : decode cX7_act 122 = .ok (.goto 7, 3) := by decide +kernel
theorem dX7_act_125 : decode cX7_act 125 = .ok (.aload_n 0, 1) := by decide +kernel
theorem dX7_act_126 : decode cX7_act 126 = .ok (.invokevirtual 188, 3) := by decide +kernel
theorem dX7_act_129 : decode cX7_act 129 = .ok (.return_, 1) := by decide +kernel
theorem dX7_close_0 : decode cX7_close 0 = .ok (.aload_n 0, 1) := by decide +kernel
theorem dX7_close_1 : decode cX7_close 1 = .ok (.invokevirtual 128, 3) := by decide +kernel
theorem dX7_close_4 : decode cX7_close 4 = .ok (.istore_n 1, 1) := by decide +kernel
theorem dX7_close_5 : decode cX7_close 5 = .ok (.iload_n 1, 1) := by decide +kernel
theorem dX7_close_6 : decode cX7_close 6 = .ok (.ifCond .le 19, 3) := by decide +kernel
theorem dX7_close_9 : decode cX7_close 9 = .ok (.aload_n 0, 1) := by decide +kernel
theorem dX7_close_10 : decode cX7_close 10 = .ok (.getfield 59, 3) := by decide +kernel
theorem dX7_close_13 : decode cX7_close 13 = .ok (.iload_n 1, 1) := by decide +kernel
theorem dX7_close_14 : decode cX7_close 14 = .ok (.iaload, 1) := by decide +kernel
theorem dX7_close_15 : decode cX7_close 15 = .ok (.iconst (-1), 1) := by decide +kernel
theorem dX7_close_16 : decode cX7_close 16 = .ok (.if_icmp .eq 9, 3) := by decide +kernel
theorem dX7_close_19 : decode cX7_close 19 = .ok (.iinc 1 (-1), 3) := by decide +kernel
theorem dX7_close_22 : decode cX7_close 22 = .ok (.goto (-17), 3) := by decide +kernel
theorem dX7_close_25 : decode cX7_close 25 = .ok (.iload_n 1, 1) := by decide +kernel
theorem dX7_close_26 : decode cX7_close 26 = .ok (.ifCond .ne 11, 3) := by decide +kernel
theorem dX7_close_29 : decode cX7_close 29 = .ok (.aload_n 0, 1) := by decide +kernel
theorem dX7_close_30 : decode cX7_close 30 = .ok (.iconst 4, 1) := by decide +kernel
theorem dX7_close_31 : decode cX7_close 31 = .ok (.invokevirtual 165, 3) := by decide +kernel
theorem dX7_close_34 : decode cX7_close 34 = .ok (.goto 8, 3) := by decide +kernel
theorem dX7_close_37 : decode cX7_close 37 = .ok (.aload_n 0, 1) := by decide +kernel
theorem dX7_close_38 : decode cX7_close 38 = .ok (.iload_n 1, 1) := by decide +kernel
theorem dX7_close_39 : decode cX7_close 39 = .ok (.putfield 125, 3) := by decide +kernel
theorem dX7_close_42 : decode cX7_close 42 = .ok (.return_, 1) := by decide +kernel
theorem dX7_addToItem_0 : decode cX7_addToItem 0 = .ok (.aload_n 0, 1) := by decide +kernel
theorem dX7_addToItem_1 : decode cX7_addToItem 1 = .ok (.getfield 150, 3) := by decide +kernel
theorem dX7_addToItem_4 : decode cX7_addToItem 4 = .ok (.bipush 40, 2) := by decide +kernel
theorem dX7_addToItem_6 : decode cX7_addToItem 6 = .ok (.if_icmp .ne 18, 3) := by decide +kernel
theorem dX7_addToItem_9 : decode cX7_addToItem 9 = .ok (.aload_n 0, 1) := by decide +kernel
theorem dX7_addToItem_10 : decode cX7_addToItem 10 = .ok (.getfield 125, 3) := by decide +kernel
theorem dX7_addToItem_13 : decode cX7_addToItem 13 = .ok (.bipush 30, 2) := by decide +kernel
theorem dX7_addToItem_15 : decode cX7_addToItem 15 = .ok (.if_icmp .le 9, 3) := by decide +kernel
theorem dX7_addToItem_18 : decode cX7_addToItem 18 = .ok (.aload_n 0, 1) := by decide +kernel
theorem dX7_addToItem_19 : decode cX7_addToItem 19 = .ok (.iconst 5, 1) := by decide +kernel
theorem dX7_addToItem_20 : decode cX7_addToItem 20 = .ok (.invokevirtual 165, 3) := by decide +kernel
theorem dX7_addToItem_23 : decode cX7_addToItem 23 = .ok (.return_, 1) := by decide +kernel
theorem dX7_addToItem_24 : decode cX7_addToItem 24 = .ok (.aload_n 0, 1) := by decide +kernel
theorem dX7_addToItem_25 : decode cX7_addToItem 25 = .ok (.getfield 62, 3) := by decide +kernel
theorem dX7_addToItem_28 : decode cX7_addToItem 28 = .ok (.aload_n 0, 1) := by decide +kernel
theorem dX7_addToItem_29 : decode cX7_addToItem 29 = .ok (.invokevirtual 128, 3) := by decide +kernel
theorem dX7_addToItem_32 : decode cX7_addToItem 32 = .ok (.iaload, 1) := by decide +kernel
theorem dX7_addToItem_33 : decode cX7_addToItem 33 = .ok (.iconst (-1), 1) := by decide +kernel
theorem dX7_addToItem_34 : decode cX7_addToItem 34 = .ok (.if_icmp .ne 35, 3) := by decide +kernel
theorem dX7_addToItem_37 : decode cX7_addToItem 37 = .ok (.aload_n 0, 1) := by decide +kernel
theorem dX7_addToItem_38 : decode cX7_addToItem 38 = .ok (.getfield 62, 3) := by decide +kernel
theorem dX7_addToItem_41 : decode cX7_addToItem 41 = .ok (.aload_n 0, 1) := by decide +kernel
theorem dX7_addToItem_42 : decode cX7_addToItem 42 = .ok (.invokevirtual 128, 3) := by decide +kernel
theorem dX7_addToItem_45 : decode cX7_addToItem 45 = .ok (.aload_n 0, 1) := by decide +kernel
theorem dX7_addToItem_46 : decode cX7_addToItem 46 = .ok (.iconst 1, 1) := by decide +kernel
theorem dX7_addToItem_47 : decode cX7_addToItem 47 = .ok (.aload_n 0, 1) := by decide +kernel
theorem dX7_addToItem_48 : decode cX7_addToItem 48 = .ok (.getfield 56, 3) := by decide +kernel
theorem dX7_addToItem_51 : decode cX7_addToItem 51 = .ok (.aload_n 0, 1) := by decide +kernel
theorem dX7_addToItem_52 : decode cX7_addToItem 52 = .ok (.invokevirtual 128, 3) := by decide +kernel
theorem dX7_addToItem_55 : decode cX7_addToItem 55 = .ok (.iaload, 1) := by decide +kernel
theorem dX7_addToItem_56 : decode cX7_addToItem 56 = .ok (.aload_n 0, 1) := by decide +kernel
theorem dX7_addToItem_57 : decode cX7_addToItem 57 = .ok (.getfield 119, 3) := by decide +kernel
theorem dX7_addToItem_60 : decode cX7_addToItem 60 = .ok (.aload_n 0, 1) := by decide +kernel
theorem dX7_addToItem_61 : decode cX7_addToItem 61 = .ok (.getfield 122, 3) := by decide +kernel
theorem dX7_addToItem_64 : decode cX7_addToItem 64 = .ok (.iconst 0, 1) := by decide +kernel
theorem dX7_addToItem_65 : decode cX7_addToItem 65 = .ok (.invokevirtual 98, 3) := by decide +kernel
theorem dX7_addToItem_68 : decode cX7_addToItem 68 = .ok (.iastore, 1) := by decide +kernel
theorem dX7_addToItem_69 : decode cX7_addToItem 69 = .ok (.aload_n 0, 1) := by decide +kernel
theorem dX7_addToItem_70 : decode cX7_addToItem 70 = .ok (.aload_n 0, 1) := by decide +kernel
theorem dX7_addToItem_71 : decode cX7_addToItem 71 = .ok (.getfield 62, 3) := by decide +kernel
theorem dX7_addToItem_74 : decode cX7_addToItem 74 = .ok (.aload_n 0, 1) := by decide +kernel
theorem dX7_addToItem_75 : decode cX7_addToItem 75 = .ok (.invokevirtual 128, 3) := by decide +kernel
theorem dX7_addToItem_78 : decode cX7_addToItem 78 = .ok (.iaload, 1) := by decide +kernel
theorem dX7_addToItem_79 : decode cX7_addToItem 79 = .ok (.invokevirtual 176, 3) := by decide +kernel
theorem dX7_addToItem_82 : decode cX7_addToItem 82 = .ok (.return_, 1) := by decide +kernel
theorem dX7_addPart_0 : decode cX7_addPart 0 = .ok (.aload_n 0, 1) := by decide +kernel
theorem dX7_addPart_1 : decode cX7_addPart 1 = .ok (.getfield 150, 3) := by decide +kernel
theorem dX7_addPart_4 : decode cX7_addPart 4 = .ok (.bipush 40, 2) := by decide +kernel
theorem dX7_addPart_6 : decode cX7_addPart 6 = .ok (.if_icmp .ne 41, 3) := by decide +kernel
theorem dX7_addPart_9 : decode cX7_addPart 9 = .ok (.aload_n 0, 1) := by decide +kernel
theorem dX7_addPart_10 : decode cX7_addPart 10 = .ok (.getfield 125, 3) := by decide +kernel
theorem dX7_addPart_13 : decode cX7_addPart 13 = .ok (.bipush 30, 2) := by decide +kernel
theorem dX7_addPart_15 : decode cX7_addPart 15 = .ok (.if_icmp .le 11, 3) := by decide +kernel
theorem dX7_addPart_18 : decode cX7_addPart 18 = .ok (.aload_n 0, 1) := by decide +kernel
theorem dX7_addPart_19 : decode cX7_addPart 19 = .ok (.iconst 5, 1) := by decide +kernel
theorem dX7_addPart_20 : decode cX7_addPart 20 = .ok (.invokevirtual 165, 3) := by decide +kernel
theorem dX7_addPart_23 : decode cX7_addPart 23 = .ok (.goto 23, 3) := by decide +kernel
theorem dX7_addPart_26 : decode cX7_addPart 26 = .ok (.aload_n 0, 1) := by decide +kernel
theorem dX7_addPart_27 : decode cX7_addPart 27 = .ok (.aload_n 0, 1) := by decide +kernel
theorem dX7_addPart_28 : decode cX7_addPart 28 = .ok (.iconst 4, 1) := by decide +kernel
theorem dX7_addPart_29 : decode cX7_addPart 29 = .ok (.iload_n 1, 1) := by decide +kernel
theorem dX7_addPart_30 : decode cX7_addPart 30 = .ok (.aload_n 0, 1) := by decide +kernel
theorem dX7_addPart_31 : decode cX7_addPart 31 = .ok (.getfield 119, 3) := by decide +kernel
theorem dX7_addPart_34 : decode cX7_addPart 34 = .ok (.aload_n 0, 1) := by decide +kernel
theorem dX7_addPart_35 : decode cX7_addPart 35 = .ok (.getfield 122, 3) := by decide +kernel
theorem dX7_addPart_38 : decode cX7_addPart 38 = .ok (.iconst 0, 1) := by decide +kernel
theorem dX7_addPart_39 : decode cX7_addPart 39 = .ok (.invokevirtual 98, 3) := by decide +kernel
theorem dX7_addPart_42 : decode cX7_addPart 42 = .ok (.iconst (-1), 1) := by decide +kernel
theorem dX7_addPart_43 : decode cX7_addPart 43 = .ok (.invokevirtual 132, 3) := by decide +kernel
theorem dX7_addPart_46 : decode cX7_addPart 46 = .ok (.return_, 1) := by decide +kernel
theorem dX7_addPart_47 : decode cX7_addPart 47 = .ok (.aload_n 0, 1) := by decide +kernel
theorem dX7_addPart_48 : decode cX7_addPart 48 = .ok (.getfield 150, 3) := by decide +kernel
theorem dX7_addPart_51 : decode cX7_addPart 51 = .ok (.iconst 2, 1) := by decide +kernel
theorem dX7_addPart_52 : decode cX7_addPart 52 = .ok (.if_icmp .ne 38, 3) := by decide +kernel
theorem dX7_addPart_55 : decode cX7_addPart 55 = .ok (.aload_n 0, 1) := by decide +kernel
theorem dX7_addPart_56 : decode cX7_addPart 56 = .ok (.iconst 2, 1) := by decide +kernel
theorem dX7_addPart_57 : decode cX7_addPart 57 = .ok (.iload_n 1, 1) := by decide +kernel
theorem dX7_addPart_58 : decode cX7_addPart 58 = .ok (.aload_n 0, 1) := by decide +kernel
theorem dX7_addPart_59 : decode cX7_addPart 59 = .ok (.getfield 119, 3) := by decide +kernel
theorem dX7_addPart_62 : decode cX7_addPart 62 = .ok (.aload_n 0, 1) := by decide +kernel
theorem dX7_addPart_63 : decode cX7_addPart 63 = .ok (.getfield 122, 3) := by decide +kernel
theorem dX7_addPart_66 : decode cX7_addPart 66 = .ok (.aload_n 0, 1) := by decide +kernel
theorem dX7_addPart_67 : decode cX7_addPart 67 = .ok (.getfield 156, 3) := by decide +kernel
theorem dX7_addPart_70 : decode cX7_addPart 70 = .ok (.aload_n 0, 1) := by decide +kernel
theorem dX7_addPart_71 : decode cX7_addPart 71 = .ok (.getfield 153, 3) := by decide +kernel
theorem dX7_addPart_74 : decode cX7_addPart 74 = .ok (.isub, 1) := by decide +kernel
theorem dX7_addPart_75 : decode cX7_addPart 75 = .ok (.invokevirtual 98, 3) := by decide +kernel
theorem dX7_addPart_78 : decode cX7_addPart 78 = .ok (.istore_n 2, 1) := by decide +kernel
theorem dX7_addPart_79 : decode cX7_addPart 79 = .ok (.aload_n 0, 1) := by decide +kernel
theorem dX7_addPart_80 : decode cX7_addPart 80 = .ok (.getfield 34, 3) := by decide +kernel
theorem dX7_addPart_83 : decode cX7_addPart 83 = .ok (.iload_n 2, 1) := by decide +kernel
theorem dX7_addPart_84 : decode cX7_addPart 84 = .ok (.aload_n 0, 1) := by decide +kernel
theorem dX7_addPart_85 : decode cX7_addPart 85 = .ok (.getfield 153, 3) := by decide +kernel
theorem dX7_addPart_88 : decode cX7_addPart 88 = .ok (.iastore, 1) := by decide +kernel
theorem dX7_addPart_89 : decode cX7_addPart 89 = .ok (.return_, 1) := by decide +kernel
theorem dX7_addPart_90 : decode cX7_addPart 90 = .ok (.lconst 0, 1) := by decide +kernel
theorem dX7_addPart_91 : decode cX7_addPart 91 = .ok (.lstore_n 2, 1) := by decide +kernel
theorem dX7_addPart_92 : decode cX7_addPart 92 = .ok (.aload_n 0, 1) := by decide +kernel
theorem dX7_addPart_93 : decode cX7_addPart 93 = .ok (.getfield 153, 3) := by decide +kernel
theorem dX7_addPart_96 : decode cX7_addPart 96 = .ok (.istore 4, 2) := by decide +kernel
theorem dX7_addPart_98 : decode cX7_addPart 98 = .ok (.iload 4, 2) := by decide +kernel
theorem dX7_addPart_100 : decode cX7_addPart 100 = .ok (.aload_n 0, 1) := by decide +kernel
theorem dX7_addPart_101 : decode cX7_addPart 101 = .ok (.getfield 156, 3) := by decide +kernel
theorem dX7_addPart_104 : decode cX7_addPart 104 = .ok (.if_icmp .ge 32, 3) := by decide +kernel
theorem dX7_addPart_107 : decode cX7_addPart 107 = .ok (.ldc2_w 191, 3) := by decide +kernel
theorem dX7_addPart_110 : decode cX7_addPart 110 = .ok (.lload_n 2, 1) := by decide +kernel
theorem dX7_addPart_111 : decode cX7_addPart 111 = .ok (.lmul, 1) := by decide +kernel
theorem dX7_addPart_112 : decode cX7_addPart 112 = .ok (.aload_n 0, 1) := by decide +kernel
theorem dX7_addPart_113 : decode cX7_addPart 113 = .ok (.getfield 9, 3) := by decide +kernel
theorem dX7_addPart_116 : decode cX7_addPart 116 = .ok (.iload 4, 2) := by decide +kernel
theorem dX7_addPart_118 : decode cX7_addPart 118 = .ok (.iaload, 1) := by decide +kernel
theorem dX7_addPart_119 : decode cX7_addPart 119 = .ok (.i2l, 1) := by decide +kernel
theorem dX7_addPart_120 : decode cX7_addPart 120 = .ok (.ladd, 1) := by decide +kernel
theorem dX7_addPart_121 : decode cX7_addPart 121 = .ok (.ldc2_w 193, 3) := by decide +kernel
theorem dX7_addPart_124 : decode cX7_addPart 124 = .ok (.lsub, 1) := by decide +kernel
theorem dX7_addPart_125 : decode cX7_addPart 125 = .ok (.ldc2_w 195, 3) := by decide +kernel
theorem dX7_addPart_128 : decode cX7_addPart 128 = .ok (.lrem, 1) := by decide +kernel
theorem dX7_addPart_129 : decode cX7_addPart 129 = .ok (.lstore_n 2, 1) := by decide +kernel
theorem dX7_addPart_130 : decode cX7_addPart 130 = .ok (.iinc 4 1, 3) := by decide +kernel
theorem dX7_addPart_133 : decode cX7_addPart 133 = .ok (.goto (-35), 3) := by decide +kernel
theorem dX7_addPart_136 : decode cX7_addPart 136 = .ok (.aload_n 0, 1) := by decide +kernel
theorem dX7_addPart_137 : decode cX7_addPart 137 = .ok (.iconst 3, 1) := by decide +kernel
theorem dX7_addPart_138 : decode cX7_addPart 138 = .ok (.iload_n 1, 1) := by decide +kernel
theorem dX7_addPart_139 : decode cX7_addPart 139 = .ok (.aload_n 0, 1) := by decide +kernel
theorem dX7_addPart_140 : decode cX7_addPart 140 = .ok (.getfield 119, 3) := by decide +kernel
theorem dX7_addPart_143 : decode cX7_addPart 143 = .ok (.aload_n 0, 1) := by decide +kernel
theorem dX7_addPart_144 : decode cX7_addPart 144 = .ok (.getfield 122, 3) := by decide +kernel
theorem dX7_addPart_147 : decode cX7_addPart 147 = .ok (.lload_n 2, 1) := by decide +kernel
theorem dX7_addPart_148 : decode cX7_addPart 148 = .ok (.l2i, 1) := by decide +kernel
theorem dX7_addPart_149 : decode cX7_addPart 149 = .ok (.invokevirtual 98, 3) := by decide +kernel
theorem dX7_addPart_152 : decode cX7_addPart 152 = .ok (.pop, 1) := by decide +kernel
theorem dX7_addPart_153 : decode cX7_addPart 153 = .ok (.return_, 1) := by decide +kernel
theorem dX7_repairCount_0 : decode cX7_repairCount 0 = .ok (.aload_n 0, 1) := by decide +kernel
theorem dX7_repairCount_1 : decode cX7_repairCount 1 = .ok (.iconst 0, 1) := by decide +kernel
theorem dX7_repairCount_2 : decode cX7_repairCount 2 = .ok (.putfield 71, 3) := by decide +kernel
theorem dX7_repairCount_5 : decode cX7_repairCount 5 = .ok (.aload_n 0, 1) := by decide +kernel
theorem dX7_repairCount_6 : decode cX7_repairCount 6 = .ok (.getfield 95, 3) := by decide +kernel
theorem dX7_repairCount_9 : decode cX7_repairCount 9 = .ok (.ireturn, 1) := by decide +kernel
theorem dX7_repair__0 : decode cX7_repair_ 0 = .ok (.aload_n 0, 1) := by decide +kernel
theorem dX7_repair__1 : decode cX7_repair_ 1 = .ok (.iconst 0, 1) := by decide +kernel
theorem dX7_repair__2 : decode cX7_repair_ 2 = .ok (.putfield 71, 3) := by decide +kernel
theorem dX7_repair__5 : decode cX7_repair_ 5 = .ok (.iload_n 1, 1) := by decide +kernel
theorem dX7_repair__6 : decode cX7_repair_ 6 = .ok (.ifCond .lt 33, 3) := by decide +kernel
theorem dX7_repair__9 : decode cX7_repair_ 9 = .ok (.iload_n 1, 1) := by decide +kernel
theorem dX7_repair__10 : decode cX7_repair_ 10 = .ok (.aload_n 0, 1) := by decide +kernel
theorem dX7_repair__11 : decode cX7_repair_ 11 = .ok (.getfield 95, 3) := by decide +kernel
theorem dX7_repair__14 : decode cX7_repair_ 14 = .ok (.if_icmp .ge 25, 3) := by decide +kernel
theorem dX7_repair__17 : decode cX7_repair_ 17 = .ok (.iload_n 2, 1) := by decide +kernel
theorem dX7_repair__18 : decode cX7_repair_ 18 = .ok (.ifCond .lt 21, 3) := by decide +kernel
theorem dX7_repair__21 : decode cX7_repair_ 21 = .ok (.iload_n 2, 1) := by decide +kernel
theorem dX7_repair__22 : decode cX7_repair_ 22 = .ok (.iconst 2, 1) := by decide +kernel
theorem dX7_repair__23 : decode cX7_repair_ 23 = .ok (.if_icmp .gt 16, 3) := by decide +kernel
theorem dX7_repair__26 : decode cX7_repair_ 26 = .ok (.aload_n 0, 1) := by decide +kernel
theorem dX7_repair__27 : decode cX7_repair_ 27 = .ok (.getfield 46, 3) := by decide +kernel
theorem dX7_repair__30 : decode cX7_repair_ 30 = .ok (.iconst 3, 1) := by decide +kernel
theorem dX7_repair__31 : decode cX7_repair_ 31 = .ok (.iload_n 1, 1) := by decide +kernel
theorem dX7_repair__32 : decode cX7_repair_ 32 = .ok (.imul, 1) := by decide +kernel
theorem dX7_repair__33 : decode cX7_repair_ 33 = .ok (.iload_n 2, 1) := by decide +kernel
theorem dX7_repair__34 : decode cX7_repair_ 34 = .ok (.iadd, 1) := by decide +kernel
theorem dX7_repair__35 : decode cX7_repair_ 35 = .ok (.iaload, 1) := by decide +kernel
theorem dX7_repair__36 : decode cX7_repair_ 36 = .ok (.goto 8, 3) := by decide +kernel
theorem dX7_repair__39 : decode cX7_repair_ 39 = .ok (.aload_n 0, 1) := by decide +kernel
theorem dX7_repair__40 : decode cX7_repair_ 40 = .ok (.iconst 1, 1) := by decide +kernel
theorem dX7_repair__41 : decode cX7_repair_ 41 = .ok (.invokevirtual 85, 3) := by decide +kernel
theorem dX7_repair__44 : decode cX7_repair_ 44 = .ok (.ireturn, 1) := by decide +kernel
theorem dX7_isNode_0 : decode cX7_isNode 0 = .ok (.iload_n 1, 1) := by decide +kernel
theorem dX7_isNode_1 : decode cX7_isNode 1 = .ok (.ifCond .lt 15, 3) := by decide +kernel
theorem dX7_isNode_4 : decode cX7_isNode 4 = .ok (.iload_n 1, 1) := by decide +kernel
theorem dX7_isNode_5 : decode cX7_isNode 5 = .ok (.aload_n 0, 1) := by decide +kernel
theorem dX7_isNode_6 : decode cX7_isNode 6 = .ok (.getfield 113, 3) := by decide +kernel
theorem dX7_isNode_9 : decode cX7_isNode 9 = .ok (.if_icmp .ge 7, 3) := by decide +kernel
theorem dX7_isNode_12 : decode cX7_isNode 12 = .ok (.iconst 1, 1) := by decide +kernel
theorem dX7_isNode_13 : decode cX7_isNode 13 = .ok (.goto 4, 3) := by decide +kernel
theorem dX7_isNode_16 : decode cX7_isNode 16 = .ok (.iconst 0, 1) := by decide +kernel
theorem dX7_isNode_17 : decode cX7_isNode 17 = .ok (.ireturn, 1) := by decide +kernel
theorem dX7_nodeCount_0 : decode cX7_nodeCount 0 = .ok (.aload_n 0, 1) := by decide +kernel
theorem dX7_nodeCount_1 : decode cX7_nodeCount 1 = .ok (.iconst 0, 1) := by decide +kernel
theorem dX7_nodeCount_2 : decode cX7_nodeCount 2 = .ok (.putfield 71, 3) := by decide +kernel
theorem dX7_nodeCount_5 : decode cX7_nodeCount 5 = .ok (.aload_n 0, 1) := by decide +kernel
theorem dX7_nodeCount_6 : decode cX7_nodeCount 6 = .ok (.getfield 113, 3) := by decide +kernel
theorem dX7_nodeCount_9 : decode cX7_nodeCount 9 = .ok (.ireturn, 1) := by decide +kernel
theorem dX7_kind_0 : decode cX7_kind 0 = .ok (.aload_n 0, 1) := by decide +kernel
theorem dX7_kind_1 : decode cX7_kind 1 = .ok (.iconst 0, 1) := by decide +kernel
theorem dX7_kind_2 : decode cX7_kind 2 = .ok (.putfield 71, 3) := by decide +kernel
theorem dX7_kind_5 : decode cX7_kind 5 = .ok (.aload_n 0, 1) := by decide +kernel
theorem dX7_kind_6 : decode cX7_kind 6 = .ok (.iload_n 1, 1) := by decide +kernel
theorem dX7_kind_7 : decode cX7_kind 7 = .ok (.invokevirtual 197, 3) := by decide +kernel
theorem dX7_kind_10 : decode cX7_kind 10 = .ok (.ifCond .eq 17, 3) := by decide +kernel
theorem dX7_kind_13 : decode cX7_kind 13 = .ok (.aload_n 0, 1) := by decide +kernel
theorem dX7_kind_14 : decode cX7_kind 14 = .ok (.getfield 13, 3) := by decide +kernel
theorem dX7_kind_17 : decode cX7_kind 17 = .ok (.aload_n 0, 1) := by decide +kernel
theorem dX7_kind_18 : decode cX7_kind 18 = .ok (.getfield 40, 3) := by decide +kernel
theorem dX7_kind_21 : decode cX7_kind 21 = .ok (.iload_n 1, 1) := by decide +kernel
theorem dX7_kind_22 : decode cX7_kind 22 = .ok (.iaload, 1) := by decide +kernel
theorem dX7_kind_23 : decode cX7_kind 23 = .ok (.iaload, 1) := by decide +kernel
theorem dX7_kind_24 : decode cX7_kind 24 = .ok (.goto 8, 3) := by decide +kernel
theorem dX7_kind_27 : decode cX7_kind 27 = .ok (.aload_n 0, 1) := by decide +kernel
theorem dX7_kind_28 : decode cX7_kind 28 = .ok (.iconst 1, 1) := by decide +kernel
theorem dX7_kind_29 : decode cX7_kind 29 = .ok (.invokevirtual 85, 3) := by decide +kernel
theorem dX7_kind_32 : decode cX7_kind 32 = .ok (.ireturn, 1) := by decide +kernel
theorem dX7_parent_0 : decode cX7_parent 0 = .ok (.aload_n 0, 1) := by decide +kernel
theorem dX7_parent_1 : decode cX7_parent 1 = .ok (.iconst 0, 1) := by decide +kernel
theorem dX7_parent_2 : decode cX7_parent 2 = .ok (.putfield 71, 3) := by decide +kernel
theorem dX7_parent_5 : decode cX7_parent 5 = .ok (.aload_n 0, 1) := by decide +kernel
theorem dX7_parent_6 : decode cX7_parent 6 = .ok (.iload_n 1, 1) := by decide +kernel
theorem dX7_parent_7 : decode cX7_parent 7 = .ok (.invokevirtual 197, 3) := by decide +kernel
theorem dX7_parent_10 : decode cX7_parent 10 = .ok (.ifCond .ne 9, 3) := by decide +kernel
theorem dX7_parent_13 : decode cX7_parent 13 = .ok (.aload_n 0, 1) := by decide +kernel
theorem dX7_parent_14 : decode cX7_parent 14 = .ok (.iconst 1, 1) := by decide +kernel
theorem dX7_parent_15 : decode cX7_parent 15 = .ok (.invokevirtual 85, 3) := by decide +kernel
theorem dX7_parent_18 : decode cX7_parent 18 = .ok (.ireturn, 1) := by decide +kernel
theorem dX7_parent_19 : decode cX7_parent 19 = .ok (.iload_n 1, 1) := by decide +kernel
theorem dX7_parent_20 : decode cX7_parent 20 = .ok (.ifCond .ne 7, 3) := by decide +kernel
theorem dX7_parent_23 : decode cX7_parent 23 = .ok (.iconst (-1), 1) := by decide +kernel
theorem dX7_parent_24 : decode cX7_parent 24 = .ok (.goto 19, 3) := by decide +kernel
theorem dX7_parent_27 : decode cX7_parent 27 = .ok (.aload_n 0, 1) := by decide +kernel
theorem dX7_parent_28 : decode cX7_parent 28 = .ok (.getfield 43, 3) := by decide +kernel
theorem dX7_parent_31 : decode cX7_parent 31 = .ok (.aload_n 0, 1) := by decide +kernel
theorem dX7_parent_32 : decode cX7_parent 32 = .ok (.getfield 16, 3) := by decide +kernel
theorem dX7_parent_35 : decode cX7_parent 35 = .ok (.aload_n 0, 1) := by decide +kernel
theorem dX7_parent_36 : decode cX7_parent 36 = .ok (.getfield 40, 3) := by decide +kernel
theorem dX7_parent_39 : decode cX7_parent 39 = .ok (.iload_n 1, 1) := by decide +kernel
theorem dX7_parent_40 : decode cX7_parent 40 = .ok (.iaload, 1) := by decide +kernel
theorem dX7_parent_41 : decode cX7_parent 41 = .ok (.iaload, 1) := by decide +kernel
theorem dX7_parent_42 : decode cX7_parent 42 = .ok (.iaload, 1) := by decide +kernel
theorem dX7_parent_43 : decode cX7_parent 43 = .ok (.ireturn, 1) := by decide +kernel
theorem dX7_childCount_0 : decode cX7_childCount 0 = .ok (.aload_n 0, 1) := by decide +kernel
theorem dX7_childCount_1 : decode cX7_childCount 1 = .ok (.iconst 0, 1) := by decide +kernel
theorem dX7_childCount_2 : decode cX7_childCount 2 = .ok (.putfield 71, 3) := by decide +kernel
theorem dX7_childCount_5 : decode cX7_childCount 5 = .ok (.aload_n 0, 1) := by decide +kernel
theorem dX7_childCount_6 : decode cX7_childCount 6 = .ok (.iload_n 1, 1) := by decide +kernel
theorem dX7_childCount_7 : decode cX7_childCount 7 = .ok (.invokevirtual 197, 3) := by decide +kernel
theorem dX7_childCount_10 : decode cX7_childCount 10 = .ok (.ifCond .eq 16, 3) := by decide +kernel
theorem dX7_childCount_13 : decode cX7_childCount 13 = .ok (.aload_n 0, 1) := by decide +kernel
theorem dX7_childCount_14 : decode cX7_childCount 14 = .ok (.aload_n 0, 1) := by decide +kernel
theorem dX7_childCount_15 : decode cX7_childCount 15 = .ok (.getfield 40, 3) := by decide +kernel
theorem dX7_childCount_18 : decode cX7_childCount 18 = .ok (.iload_n 1, 1) := by decide +kernel
theorem dX7_childCount_19 : decode cX7_childCount 19 = .ok (.iaload, 1) := by decide +kernel
theorem dX7_childCount_20 : decode cX7_childCount 20 = .ok (.invokevirtual 102, 3) := by decide +kernel
theorem dX7_childCount_23 : decode cX7_childCount 23 = .ok (.goto 8, 3) := by decide +kernel
theorem dX7_childCount_26 : decode cX7_childCount 26 = .ok (.aload_n 0, 1) := by decide +kernel
theorem dX7_childCount_27 : decode cX7_childCount 27 = .ok (.iconst 1, 1) := by decide +kernel
theorem dX7_childCount_28 : decode cX7_childCount 28 = .ok (.invokevirtual 85, 3) := by decide +kernel
theorem dX7_childCount_31 : decode cX7_childCount 31 = .ok (.ireturn, 1) := by decide +kernel
theorem dX7_child_0 : decode cX7_child 0 = .ok (.aload_n 0, 1) := by decide +kernel
theorem dX7_child_1 : decode cX7_child 1 = .ok (.iconst 0, 1) := by decide +kernel
theorem dX7_child_2 : decode cX7_child 2 = .ok (.putfield 71, 3) := by decide +kernel
theorem dX7_child_5 : decode cX7_child 5 = .ok (.aload_n 0, 1) := by decide +kernel
theorem dX7_child_6 : decode cX7_child 6 = .ok (.iload_n 1, 1) := by decide +kernel
theorem dX7_child_7 : decode cX7_child 7 = .ok (.invokevirtual 197, 3) := by decide +kernel
theorem dX7_child_10 : decode cX7_child 10 = .ok (.ifCond .eq 40, 3) := by decide +kernel
theorem dX7_child_13 : decode cX7_child 13 = .ok (.iload_n 2, 1) := by decide +kernel
theorem dX7_child_14 : decode cX7_child 14 = .ok (.ifCond .lt 36, 3) := by decide +kernel
theorem dX7_child_17 : decode cX7_child 17 = .ok (.iload_n 2, 1) := by decide +kernel
theorem dX7_child_18 : decode cX7_child 18 = .ok (.aload_n 0, 1) := by decide +kernel
theorem dX7_child_19 : decode cX7_child 19 = .ok (.aload_n 0, 1) := by decide +kernel
theorem dX7_child_20 : decode cX7_child 20 = .ok (.getfield 40, 3) := by decide +kernel
theorem dX7_child_23 : decode cX7_child 23 = .ok (.iload_n 1, 1) := by decide +kernel
theorem dX7_child_24 : decode cX7_child 24 = .ok (.iaload, 1) := by decide +kernel
theorem dX7_child_25 : decode cX7_child 25 = .ok (.invokevirtual 102, 3) := by decide +kernel
theorem dX7_child_28 : decode cX7_child 28 = .ok (.if_icmp .ge 22, 3) := by decide +kernel
theorem dX7_child_31 : decode cX7_child 31 = .ok (.aload_n 0, 1) := by decide +kernel
theorem dX7_child_32 : decode cX7_child 32 = .ok (.getfield 43, 3) := by decide +kernel
theorem dX7_child_35 : decode cX7_child 35 = .ok (.aload_n 0, 1) := by decide +kernel
theorem dX7_child_36 : decode cX7_child 36 = .ok (.aload_n 0, 1) := by decide +kernel
theorem dX7_child_37 : decode cX7_child 37 = .ok (.getfield 40, 3) := by decide +kernel
theorem dX7_child_40 : decode cX7_child 40 = .ok (.iload_n 1, 1) := by decide +kernel
theorem dX7_child_41 : decode cX7_child 41 = .ok (.iaload, 1) := by decide +kernel
theorem dX7_child_42 : decode cX7_child 42 = .ok (.iload_n 2, 1) := by decide +kernel
theorem dX7_child_43 : decode cX7_child 43 = .ok (.invokevirtual 109, 3) := by decide +kernel
theorem dX7_child_46 : decode cX7_child 46 = .ok (.iaload, 1) := by decide +kernel
theorem dX7_child_47 : decode cX7_child 47 = .ok (.goto 8, 3) := by decide +kernel
theorem dX7_child_50 : decode cX7_child 50 = .ok (.aload_n 0, 1) := by decide +kernel
theorem dX7_child_51 : decode cX7_child 51 = .ok (.iconst 1, 1) := by decide +kernel
theorem dX7_child_52 : decode cX7_child 52 = .ok (.invokevirtual 85, 3) := by decide +kernel
theorem dX7_child_55 : decode cX7_child 55 = .ok (.ireturn, 1) := by decide +kernel
theorem dX7_line_0 : decode cX7_line 0 = .ok (.aload_n 0, 1) := by decide +kernel
theorem dX7_line_1 : decode cX7_line 1 = .ok (.iconst 0, 1) := by decide +kernel
theorem dX7_line_2 : decode cX7_line 2 = .ok (.putfield 71, 3) := by decide +kernel
theorem dX7_line_5 : decode cX7_line 5 = .ok (.aload_n 0, 1) := by decide +kernel
theorem dX7_line_6 : decode cX7_line 6 = .ok (.iload_n 1, 1) := by decide +kernel
theorem dX7_line_7 : decode cX7_line 7 = .ok (.invokevirtual 197, 3) := by decide +kernel
theorem dX7_line_10 : decode cX7_line 10 = .ok (.ifCond .eq 17, 3) := by decide +kernel
theorem dX7_line_13 : decode cX7_line 13 = .ok (.aload_n 0, 1) := by decide +kernel
theorem dX7_line_14 : decode cX7_line 14 = .ok (.getfield 25, 3) := by decide +kernel
theorem dX7_line_17 : decode cX7_line 17 = .ok (.aload_n 0, 1) := by decide +kernel
theorem dX7_line_18 : decode cX7_line 18 = .ok (.getfield 40, 3) := by decide +kernel
theorem dX7_line_21 : decode cX7_line 21 = .ok (.iload_n 1, 1) := by decide +kernel
theorem dX7_line_22 : decode cX7_line 22 = .ok (.iaload, 1) := by decide +kernel
theorem dX7_line_23 : decode cX7_line 23 = .ok (.iaload, 1) := by decide +kernel
theorem dX7_line_24 : decode cX7_line 24 = .ok (.goto 8, 3) := by decide +kernel
theorem dX7_line_27 : decode cX7_line 27 = .ok (.aload_n 0, 1) := by decide +kernel
theorem dX7_line_28 : decode cX7_line 28 = .ok (.iconst 1, 1) := by decide +kernel
theorem dX7_line_29 : decode cX7_line 29 = .ok (.invokevirtual 85, 3) := by decide +kernel
theorem dX7_line_32 : decode cX7_line 32 = .ok (.ireturn, 1) := by decide +kernel
theorem dX7_column_0 : decode cX7_column 0 = .ok (.aload_n 0, 1) := by decide +kernel
theorem dX7_column_1 : decode cX7_column 1 = .ok (.iconst 0, 1) := by decide +kernel
theorem dX7_column_2 : decode cX7_column 2 = .ok (.putfield 71, 3) := by decide +kernel
theorem dX7_column_5 : decode cX7_column 5 = .ok (.aload_n 0, 1) := by decide +kernel
theorem dX7_column_6 : decode cX7_column 6 = .ok (.iload_n 1, 1) := by decide +kernel
theorem dX7_column_7 : decode cX7_column 7 = .ok (.invokevirtual 197, 3) := by decide +kernel
theorem dX7_column_10 : decode cX7_column 10 = .ok (.ifCond .eq 17, 3) := by decide +kernel
theorem dX7_column_13 : decode cX7_column 13 = .ok (.aload_n 0, 1) := by decide +kernel
theorem dX7_column_14 : decode cX7_column 14 = .ok (.getfield 28, 3) := by decide +kernel
theorem dX7_column_17 : decode cX7_column 17 = .ok (.aload_n 0, 1) := by decide +kernel
theorem dX7_column_18 : decode cX7_column 18 = .ok (.getfield 40, 3) := by decide +kernel
theorem dX7_column_21 : decode cX7_column 21 = .ok (.iload_n 1, 1) := by decide +kernel
theorem dX7_column_22 : decode cX7_column 22 = .ok (.iaload, 1) := by decide +kernel
theorem dX7_column_23 : decode cX7_column 23 = .ok (.iaload, 1) := by decide +kernel
theorem dX7_column_24 : decode cX7_column 24 = .ok (.goto 8, 3) := by decide +kernel
theorem dX7_column_27 : decode cX7_column 27 = .ok (.aload_n 0, 1) := by decide +kernel
theorem dX7_column_28 : decode cX7_column 28 = .ok (.iconst 1, 1) := by decide +kernel
theorem dX7_column_29 : decode cX7_column 29 = .ok (.invokevirtual 85, 3) := by decide +kernel
theorem dX7_column_32 : decode cX7_column 32 = .ok (.ireturn, 1) := by decide +kernel
theorem dX7_value_0 : decode cX7_value 0 = .ok (.aload_n 0, 1) := by decide +kernel
theorem dX7_value_1 : decode cX7_value 1 = .ok (.iconst 0, 1) := by decide +kernel
theorem dX7_value_2 : decode cX7_value 2 = .ok (.putfield 71, 3) := by decide +kernel
theorem dX7_value_5 : decode cX7_value 5 = .ok (.aload_n 0, 1) := by decide +kernel
theorem dX7_value_6 : decode cX7_value 6 = .ok (.iload_n 1, 1) := by decide +kernel
theorem dX7_value_7 : decode cX7_value 7 = .ok (.invokevirtual 197, 3) := by decide +kernel
theorem dX7_value_10 : decode cX7_value 10 = .ok (.ifCond .eq 17, 3) := by decide +kernel
theorem dX7_value_13 : decode cX7_value 13 = .ok (.aload_n 0, 1) := by decide +kernel
theorem dX7_value_14 : decode cX7_value 14 = .ok (.getfield 31, 3) := by decide +kernel
theorem dX7_value_17 : decode cX7_value 17 = .ok (.aload_n 0, 1) := by decide +kernel
theorem dX7_value_18 : decode cX7_value 18 = .ok (.getfield 40, 3) := by decide +kernel
theorem dX7_value_21 : decode cX7_value 21 = .ok (.iload_n 1, 1) := by decide +kernel
theorem dX7_value_22 : decode cX7_value 22 = .ok (.iaload, 1) := by decide +kernel
theorem dX7_value_23 : decode cX7_value 23 = .ok (.iaload, 1) := by decide +kernel
theorem dX7_value_24 : decode cX7_value 24 = .ok (.goto 8, 3) := by decide +kernel
theorem dX7_value_27 : decode cX7_value 27 = .ok (.aload_n 0, 1) := by decide +kernel
theorem dX7_value_28 : decode cX7_value 28 = .ok (.iconst 1, 1) := by decide +kernel
theorem dX7_value_29 : decode cX7_value 29 = .ok (.invokevirtual 85, 3) := by decide +kernel
theorem dX7_value_32 : decode cX7_value 32 = .ok (.ireturn, 1) := by decide +kernel
theorem dX7_letter_0 : decode cX7_letter 0 = .ok (.aload_n 0, 1) := by decide +kernel
theorem dX7_letter_1 : decode cX7_letter 1 = .ok (.iconst 0, 1) := by decide +kernel
theorem dX7_letter_2 : decode cX7_letter 2 = .ok (.putfield 71, 3) := by decide +kernel
theorem dX7_letter_5 : decode cX7_letter 5 = .ok (.aload_n 0, 1) := by decide +kernel
theorem dX7_letter_6 : decode cX7_letter 6 = .ok (.iload_n 1, 1) := by decide +kernel
theorem dX7_letter_7 : decode cX7_letter 7 = .ok (.invokevirtual 197, 3) := by decide +kernel
theorem dX7_letter_10 : decode cX7_letter 10 = .ok (.ifCond .ne 9, 3) := by decide +kernel
theorem dX7_letter_13 : decode cX7_letter 13 = .ok (.aload_n 0, 1) := by decide +kernel
theorem dX7_letter_14 : decode cX7_letter 14 = .ok (.iconst 1, 1) := by decide +kernel
theorem dX7_letter_15 : decode cX7_letter 15 = .ok (.invokevirtual 85, 3) := by decide +kernel
theorem dX7_letter_18 : decode cX7_letter 18 = .ok (.ireturn, 1) := by decide +kernel
theorem dX7_letter_19 : decode cX7_letter 19 = .ok (.aload_n 0, 1) := by decide +kernel
theorem dX7_letter_20 : decode cX7_letter 20 = .ok (.getfield 40, 3) := by decide +kernel
theorem dX7_letter_23 : decode cX7_letter 23 = .ok (.iload_n 1, 1) := by decide +kernel
theorem dX7_letter_24 : decode cX7_letter 24 = .ok (.iaload, 1) := by decide +kernel
theorem dX7_letter_25 : decode cX7_letter 25 = .ok (.istore_n 3, 1) := by decide +kernel
theorem dX7_letter_26 : decode cX7_letter 26 = .ok (.aload_n 0, 1) := by decide +kernel
theorem dX7_letter_27 : decode cX7_letter 27 = .ok (.getfield 13, 3) := by decide +kernel
theorem dX7_letter_30 : decode cX7_letter 30 = .ok (.iload_n 3, 1) := by decide +kernel
theorem dX7_letter_31 : decode cX7_letter 31 = .ok (.iaload, 1) := by decide +kernel
theorem dX7_letter_32 : decode cX7_letter 32 = .ok (.iconst 2, 1) := by decide +kernel
theorem dX7_letter_33 : decode cX7_letter 33 = .ok (.if_icmp .ne 33, 3) := by decide +kernel
theorem dX7_letter_36 : decode cX7_letter 36 = .ok (.iload_n 2, 1) := by decide +kernel
theorem dX7_letter_37 : decode cX7_letter 37 = .ok (.ifCond .lt 29, 3) := by decide +kernel
theorem dX7_letter_40 : decode cX7_letter 40 = .ok (.iload_n 2, 1) := by decide +kernel
theorem dX7_letter_41 : decode cX7_letter 41 = .ok (.aload_n 0, 1) := by decide +kernel
theorem dX7_letter_42 : decode cX7_letter 42 = .ok (.getfield 31, 3) := by decide +kernel
theorem dX7_letter_45 : decode cX7_letter 45 = .ok (.iload_n 3, 1) := by decide +kernel
theorem dX7_letter_46 : decode cX7_letter 46 = .ok (.iaload, 1) := by decide +kernel
theorem dX7_letter_47 : decode cX7_letter 47 = .ok (.if_icmp .ge 19, 3) := by decide +kernel
theorem dX7_letter_50 : decode cX7_letter 50 = .ok (.aload_n 0, 1) := by decide +kernel
theorem dX7_letter_51 : decode cX7_letter 51 = .ok (.getfield 37, 3) := by decide +kernel
theorem dX7_letter_54 : decode cX7_letter 54 = .ok (.aload_n 0, 1) := by decide +kernel
theorem dX7_letter_55 : decode cX7_letter 55 = .ok (.getfield 34, 3) := by decide +kernel
theorem dX7_letter_58 : decode cX7_letter 58 = .ok (.iload_n 3, 1) := by decide +kernel
theorem dX7_letter_59 : decode cX7_letter 59 = .ok (.iaload, 1) := by decide +kernel
theorem dX7_letter_60 : decode cX7_letter 60 = .ok (.iload_n 2, 1) := by decide +kernel
theorem dX7_letter_61 : decode cX7_letter 61 = .ok (.iadd, 1) := by decide +kernel
theorem dX7_letter_62 : decode cX7_letter 62 = .ok (.iaload, 1) := by decide +kernel
theorem dX7_letter_63 : decode cX7_letter 63 = .ok (.goto 4, 3) := by decide +kernel
theorem dX7_letter_66 : decode cX7_letter 66 = .ok (.iconst (-1), 1) := by decide +kernel
theorem dX7_letter_67 : decode cX7_letter 67 = .ok (.ireturn, 1) := by decide +kernel
theorem dX7_depthOf_0 : decode cX7_depthOf 0 = .ok (.iconst 0, 1) := by decide +kernel
theorem dX7_depthOf_1 : decode cX7_depthOf 1 = .ok (.istore_n 3, 1) := by decide +kernel
theorem dX7_depthOf_2 : decode cX7_depthOf 2 = .ok (.aload_n 0, 1) := by decide +kernel
theorem dX7_depthOf_3 : decode cX7_depthOf 3 = .ok (.getfield 16, 3) := by decide +kernel
theorem dX7_depthOf_6 : decode cX7_depthOf 6 = .ok (.iload_n 1, 1) := by decide +kernel
theorem dX7_depthOf_7 : decode cX7_depthOf 7 = .ok (.iaload, 1) := by decide +kernel
theorem dX7_depthOf_8 : decode cX7_depthOf 8 = .ok (.istore 4, 2) := by decide +kernel
theorem dX7_depthOf_10 : decode cX7_depthOf 10 = .ok (.iload 4, 2) := by decide +kernel
theorem dX7_depthOf_12 : decode cX7_depthOf 12 = .ok (.iconst (-1), 1) := by decide +kernel
theorem dX7_depthOf_13 : decode cX7_depthOf 13 = .ok (.if_icmp .eq 48, 3) := by decide +kernel
theorem dX7_depthOf_16 : decode cX7_depthOf 16 = .ok (.iload_n 3, 1) := by decide +kernel
theorem dX7_depthOf_17 : decode cX7_depthOf 17 = .ok (.aload_n 0, 1) := by decide +kernel
theorem dX7_depthOf_18 : decode cX7_depthOf 18 = .ok (.getfield 13, 3) := by decide +kernel
theorem dX7_depthOf_21 : decode cX7_depthOf 21 = .ok (.iload 4, 2) := by decide +kernel
theorem dX7_depthOf_23 : decode cX7_depthOf 23 = .ok (.iaload, 1) := by decide +kernel
theorem dX7_depthOf_24 : decode cX7_depthOf 24 = .ok (.ifCond .eq 18, 3) := by decide +kernel
theorem dX7_depthOf_27 : decode cX7_depthOf 27 = .ok (.iload_n 2, 1) := by decide +kernel
theorem dX7_depthOf_28 : decode cX7_depthOf 28 = .ok (.ifCond .eq 18, 3) := by decide +kernel
theorem dX7_depthOf_31 : decode cX7_depthOf 31 = .ok (.aload_n 0, 1) := by decide +kernel
theorem dX7_depthOf_32 : decode cX7_depthOf 32 = .ok (.getfield 13, 3) := by decide +kernel
theorem dX7_depthOf_35 : decode cX7_depthOf 35 = .ok (.iload 4, 2) := by decide +kernel
theorem dX7_depthOf_37 : decode cX7_depthOf 37 = .ok (.iaload, 1) := by decide +kernel
theorem dX7_depthOf_38 : decode cX7_depthOf 38 = .ok (.iconst 4, 1) := by decide +kernel
theorem dX7_depthOf_39 : decode cX7_depthOf 39 = .ok (.if_icmp .ne 7, 3) := by decide +kernel
theorem dX7_depthOf_42 : decode cX7_depthOf 42 = .ok (.iconst 1, 1) := by decide +kernel
theorem dX7_depthOf_43 : decode cX7_depthOf 43 = .ok (.goto 4, 3) := by decide +kernel
theorem dX7_depthOf_46 : decode cX7_depthOf 46 = .ok (.iconst 0, 1) := by decide +kernel
theorem dX7_depthOf_47 : decode cX7_depthOf 47 = .ok (.iadd, 1) := by decide +kernel
theorem dX7_depthOf_48 : decode cX7_depthOf 48 = .ok (.istore_n 3, 1) := by decide +kernel
theorem dX7_depthOf_49 : decode cX7_depthOf 49 = .ok (.aload_n 0, 1) := by decide +kernel
theorem dX7_depthOf_50 : decode cX7_depthOf 50 = .ok (.getfield 16, 3) := by decide +kernel
theorem dX7_depthOf_53 : decode cX7_depthOf 53 = .ok (.iload 4, 2) := by decide +kernel
theorem dX7_depthOf_55 : decode cX7_depthOf 55 = .ok (.iaload, 1) := by decide +kernel
theorem dX7_depthOf_56 : decode cX7_depthOf 56 = .ok (.istore 4, 2) := by decide +kernel
theorem dX7_depthOf_58 : decode cX7_depthOf 58 = .ok (.goto (-48), 3) := by decide +kernel
theorem dX7_depthOf_61 : decode cX7_depthOf 61 = .ok (.iload_n 3, 1) := by decide +kernel
theorem dX7_depthOf_62 : decode cX7_depthOf 62 = .ok (.ireturn, 1) := by decide +kernel
theorem dX7_depth_0 : decode cX7_depth 0 = .ok (.aload_n 0, 1) := by decide +kernel
theorem dX7_depth_1 : decode cX7_depth 1 = .ok (.iconst 0, 1) := by decide +kernel
theorem dX7_depth_2 : decode cX7_depth 2 = .ok (.putfield 71, 3) := by decide +kernel
theorem dX7_depth_5 : decode cX7_depth 5 = .ok (.aload_n 0, 1) := by decide +kernel
theorem dX7_depth_6 : decode cX7_depth 6 = .ok (.iload_n 1, 1) := by decide +kernel
theorem dX7_depth_7 : decode cX7_depth 7 = .ok (.invokevirtual 197, 3) := by decide +kernel
theorem dX7_depth_10 : decode cX7_depth 10 = .ok (.ifCond .eq 17, 3) := by decide +kernel
theorem dX7_depth_13 : decode cX7_depth 13 = .ok (.aload_n 0, 1) := by decide +kernel
theorem dX7_depth_14 : decode cX7_depth 14 = .ok (.aload_n 0, 1) := by decide +kernel
theorem dX7_depth_15 : decode cX7_depth 15 = .ok (.getfield 40, 3) := by decide +kernel
theorem dX7_depth_18 : decode cX7_depth 18 = .ok (.iload_n 1, 1) := by decide +kernel
theorem dX7_depth_19 : decode cX7_depth 19 = .ok (.iaload, 1) := by decide +kernel
theorem dX7_depth_20 : decode cX7_depth 20 = .ok (.iconst 0, 1) := by decide +kernel
theorem dX7_depth_21 : decode cX7_depth 21 = .ok (.invokevirtual 200, 3) := by decide +kernel
theorem dX7_depth_24 : decode cX7_depth 24 = .ok (.goto 8, 3) := by decide +kernel
theorem dX7_depth_27 : decode cX7_depth 27 = .ok (.aload_n 0, 1) := by decide +kernel
theorem dX7_depth_28 : decode cX7_depth 28 = .ok (.iconst 1, 1) := by decide +kernel
theorem dX7_depth_29 : decode cX7_depth 29 = .ok (.invokevirtual 85, 3) := by decide +kernel
theorem dX7_depth_32 : decode cX7_depth 32 = .ok (.ireturn, 1) := by decide +kernel
theorem dX7_isFed_0 : decode cX7_isFed 0 = .ok (.aload_n 0, 1) := by decide +kernel
theorem dX7_isFed_1 : decode cX7_isFed 1 = .ok (.getfield 13, 3) := by decide +kernel
theorem dX7_isFed_4 : decode cX7_isFed 4 = .ok (.iload_n 1, 1) := by decide +kernel
theorem dX7_isFed_5 : decode cX7_isFed 5 = .ok (.iaload, 1) := by decide +kernel
theorem dX7_isFed_6 : decode cX7_isFed 6 = .ok (.iconst 2, 1) := by decide +kernel
theorem dX7_isFed_7 : decode cX7_isFed 7 = .ok (.if_icmp .ne 13, 3) := by decide +kernel
theorem dX7_isFed_10 : decode cX7_isFed 10 = .ok (.aload_n 0, 1) := by decide +kernel
theorem dX7_isFed_11 : decode cX7_isFed 11 = .ok (.getfield 31, 3) := by decide +kernel
theorem dX7_isFed_14 : decode cX7_isFed 14 = .ok (.iload_n 1, 1) := by decide +kernel
theorem dX7_isFed_15 : decode cX7_isFed 15 = .ok (.iaload, 1) := by decide +kernel
theorem dX7_isFed_16 : decode cX7_isFed 16 = .ok (.iload_n 2, 1) := by decide +kernel
theorem dX7_isFed_17 : decode cX7_isFed 17 = .ok (.if_icmp .eq 5, 3) := by decide +kernel
theorem dX7_isFed_20 : decode cX7_isFed 20 = .ok (.iconst 0, 1) := by decide +kernel
theorem dX7_isFed_21 : decode cX7_isFed 21 = .ok (.ireturn, 1) := by decide +kernel
theorem dX7_isFed_22 : decode cX7_isFed 22 = .ok (.iconst 0, 1) := by decide +kernel
theorem dX7_isFed_23 : decode cX7_isFed 23 = .ok (.istore_n 3, 1) := by decide +kernel
theorem dX7_isFed_24 : decode cX7_isFed 24 = .ok (.iload_n 3, 1) := by decide +kernel
theorem dX7_isFed_25 : decode cX7_isFed 25 = .ok (.iload_n 2, 1) := by decide +kernel
theorem dX7_isFed_26 : decode cX7_isFed 26 = .ok (.if_icmp .ge 33, 3) := by decide +kernel
theorem dX7_isFed_29 : decode cX7_isFed 29 = .ok (.aload_n 0, 1) := by decide +kernel
theorem dX7_isFed_30 : decode cX7_isFed 30 = .ok (.getfield 37, 3) := by decide +kernel
theorem dX7_isFed_33 : decode cX7_isFed 33 = .ok (.aload_n 0, 1) := by decide +kernel
theorem dX7_isFed_34 : decode cX7_isFed 34 = .ok (.getfield 34, 3) := by decide +kernel
theorem dX7_isFed_37 : decode cX7_isFed 37 = .ok (.iload_n 1, 1) := by decide +kernel
theorem dX7_isFed_38 : decode cX7_isFed 38 = .ok (.iaload, 1) := by decide +kernel
theorem dX7_isFed_39 : decode cX7_isFed 39 = .ok (.iload_n 3, 1) := by decide +kernel
theorem dX7_isFed_40 : decode cX7_isFed 40 = .ok (.iadd, 1) := by decide +kernel
theorem dX7_isFed_41 : decode cX7_isFed 41 = .ok (.iaload, 1) := by decide +kernel
theorem dX7_isFed_42 : decode cX7_isFed 42 = .ok (.aload_n 0, 1) := by decide +kernel
theorem dX7_isFed_43 : decode cX7_isFed 43 = .ok (.getfield 53, 3) := by decide +kernel
theorem dX7_isFed_46 : decode cX7_isFed 46 = .ok (.iload_n 3, 1) := by decide +kernel
theorem dX7_isFed_47 : decode cX7_isFed 47 = .ok (.iaload, 1) := by decide +kernel
theorem dX7_isFed_48 : decode cX7_isFed 48 = .ok (.if_icmp .eq 5, 3) := by decide +kernel
theorem dX7_isFed_51 : decode cX7_isFed 51 = .ok (.iconst 0, 1) := by decide +kernel
theorem dX7_isFed_52 : decode cX7_isFed 52 = .ok (.ireturn, 1) := by decide +kernel
theorem dX7_isFed_53 : decode cX7_isFed 53 = .ok (.iinc 3 1, 3) := by decide +kernel
theorem dX7_isFed_56 : decode cX7_isFed 56 = .ok (.goto (-32), 3) := by decide +kernel
theorem dX7_isFed_59 : decode cX7_isFed 59 = .ok (.iconst 1, 1) := by decide +kernel
theorem dX7_isFed_60 : decode cX7_isFed 60 = .ok (.ireturn, 1) := by decide +kernel
theorem dX7_find_0 : decode cX7_find 0 = .ok (.aload_n 0, 1) := by decide +kernel
theorem dX7_find_1 : decode cX7_find 1 = .ok (.iconst 0, 1) := by decide +kernel
theorem dX7_find_2 : decode cX7_find 2 = .ok (.putfield 71, 3) := by decide +kernel
theorem dX7_find_5 : decode cX7_find 5 = .ok (.aload_n 0, 1) := by decide +kernel
theorem dX7_find_6 : decode cX7_find 6 = .ok (.lload_n 1, 1) := by decide +kernel
theorem dX7_find_7 : decode cX7_find 7 = .ok (.invokevirtual 81, 3) := by decide +kernel
theorem dX7_find_10 : decode cX7_find 10 = .ok (.istore 4, 2) := by decide +kernel
theorem dX7_find_12 : decode cX7_find 12 = .ok (.iload_n 3, 1) := by decide +kernel
theorem dX7_find_13 : decode cX7_find 13 = .ok (.istore 5, 2) := by decide +kernel
theorem dX7_find_15 : decode cX7_find 15 = .ok (.iconst 0, 1) := by decide +kernel
theorem dX7_find_16 : decode cX7_find 16 = .ok (.istore 6, 2) := by decide +kernel
theorem dX7_find_18 : decode cX7_find 18 = .ok (.iload 6, 2) := by decide +kernel
theorem dX7_find_20 : decode cX7_find 20 = .ok (.aload_n 0, 1) := by decide +kernel
theorem dX7_find_21 : decode cX7_find 21 = .ok (.getfield 113, 3) := by decide +kernel
theorem dX7_find_24 : decode cX7_find 24 = .ok (.if_icmp .ge 44, 3) := by decide +kernel
theorem dX7_find_27 : decode cX7_find 27 = .ok (.iload 5, 2) := by decide +kernel
theorem dX7_find_29 : decode cX7_find 29 = .ok (.ifCond .lt 39, 3) := by decide +kernel
theorem dX7_find_32 : decode cX7_find 32 = .ok (.aload_n 0, 1) := by decide +kernel
theorem dX7_find_33 : decode cX7_find 33 = .ok (.aload_n 0, 1) := by decide +kernel
theorem dX7_find_34 : decode cX7_find 34 = .ok (.getfield 40, 3) := by decide +kernel
theorem dX7_find_37 : decode cX7_find 37 = .ok (.iload 6, 2) := by decide +kernel
theorem dX7_find_39 : decode cX7_find 39 = .ok (.iaload, 1) := by decide +kernel
theorem dX7_find_40 : decode cX7_find 40 = .ok (.iload 4, 2) := by decide +kernel
theorem dX7_find_42 : decode cX7_find 42 = .ok (.invokevirtual 204, 3) := by decide +kernel
theorem dX7_find_45 : decode cX7_find 45 = .ok (.ifCond .ne 6, 3) := by decide +kernel
theorem dX7_find_48 : decode cX7_find 48 = .ok (.goto 14, 3) := by decide +kernel
theorem dX7_find_51 : decode cX7_find 51 = .ok (.iload 5, 2) := by decide +kernel
theorem dX7_find_53 : decode cX7_find 53 = .ok (.ifCond .ne 6, 3) := by decide +kernel
theorem dX7_find_56 : decode cX7_find 56 = .ok (.iload 6, 2) := by decide +kernel
theorem dX7_find_58 : decode cX7_find 58 = .ok (.ireturn, 1) := by decide +kernel
theorem dX7_find_59 : decode cX7_find 59 = .ok (.iinc 5 (-1), 3) := by decide +kernel
theorem dX7_find_62 : decode cX7_find 62 = .ok (.iinc 6 1, 3) := by decide +kernel
theorem dX7_find_65 : decode cX7_find 65 = .ok (.goto (-47), 3) := by decide +kernel
theorem dX7_find_68 : decode cX7_find 68 = .ok (.iconst (-1), 1) := by decide +kernel
theorem dX7_find_69 : decode cX7_find 69 = .ok (.ireturn, 1) := by decide +kernel
theorem dX7_areSame_0 : decode cX7_areSame 0 = .ok (.aload_n 0, 1) := by decide +kernel
theorem dX7_areSame_1 : decode cX7_areSame 1 = .ok (.getfield 13, 3) := by decide +kernel
theorem dX7_areSame_4 : decode cX7_areSame 4 = .ok (.iload_n 1, 1) := by decide +kernel
theorem dX7_areSame_5 : decode cX7_areSame 5 = .ok (.iaload, 1) := by decide +kernel
theorem dX7_areSame_6 : decode cX7_areSame 6 = .ok (.aload_n 0, 1) := by decide +kernel
theorem dX7_areSame_7 : decode cX7_areSame 7 = .ok (.getfield 13, 3) := by decide +kernel
theorem dX7_areSame_10 : decode cX7_areSame 10 = .ok (.iload_n 2, 1) := by decide +kernel
theorem dX7_areSame_11 : decode cX7_areSame 11 = .ok (.iaload, 1) := by decide +kernel
theorem dX7_areSame_12 : decode cX7_areSame 12 = .ok (.if_icmp .ne 18, 3) := by decide +kernel
theorem dX7_areSame_15 : decode cX7_areSame 15 = .ok (.aload_n 0, 1) := by decide +kernel
theorem dX7_areSame_16 : decode cX7_areSame 16 = .ok (.getfield 31, 3) := by decide +kernel
theorem dX7_areSame_19 : decode cX7_areSame 19 = .ok (.iload_n 1, 1) := by decide +kernel
theorem dX7_areSame_20 : decode cX7_areSame 20 = .ok (.iaload, 1) := by decide +kernel
theorem dX7_areSame_21 : decode cX7_areSame 21 = .ok (.aload_n 0, 1) := by decide +kernel
theorem dX7_areSame_22 : decode cX7_areSame 22 = .ok (.getfield 31, 3) := by decide +kernel
theorem dX7_areSame_25 : decode cX7_areSame 25 = .ok (.iload_n 2, 1) := by decide +kernel
theorem dX7_areSame_26 : decode cX7_areSame 26 = .ok (.iaload, 1) := by decide +kernel
theorem dX7_areSame_27 : decode cX7_areSame 27 = .ok (.if_icmp .eq 5, 3) := by decide +kernel
theorem dX7_areSame_30 : decode cX7_areSame 30 = .ok (.iconst 0, 1) := by decide +kernel
theorem dX7_areSame_31 : decode cX7_areSame 31 = .ok (.ireturn, 1) := by decide +kernel
theorem dX7_areSame_32 : decode cX7_areSame 32 = .ok (.iconst 0, 1) := by decide +kernel
theorem dX7_areSame_33 : decode cX7_areSame 33 = .ok (.istore_n 3, 1) := by decide +kernel
theorem dX7_areSame_34 : decode cX7_areSame 34 = .ok (.iload_n 3, 1) := by decide +kernel
theorem dX7_areSame_35 : decode cX7_areSame 35 = .ok (.aload_n 0, 1) := by decide +kernel
theorem dX7_areSame_36 : decode cX7_areSame 36 = .ok (.getfield 31, 3) := by decide +kernel
theorem dX7_areSame_39 : decode cX7_areSame 39 = .ok (.iload_n 1, 1) := by decide +kernel
theorem dX7_areSame_40 : decode cX7_areSame 40 = .ok (.iaload, 1) := by decide +kernel
theorem dX7_areSame_41 : decode cX7_areSame 41 = .ok (.if_icmp .ge 40, 3) := by decide +kernel
theorem dX7_areSame_44 : decode cX7_areSame 44 = .ok (.aload_n 0, 1) := by decide +kernel
theorem dX7_areSame_45 : decode cX7_areSame 45 = .ok (.getfield 37, 3) := by decide +kernel
theorem dX7_areSame_48 : decode cX7_areSame 48 = .ok (.aload_n 0, 1) := by decide +kernel
theorem dX7_areSame_49 : decode cX7_areSame 49 = .ok (.getfield 34, 3) := by decide +kernel
theorem dX7_areSame_52 : decode cX7_areSame 52 = .ok (.iload_n 1, 1) := by decide +kernel
theorem dX7_areSame_53 : decode cX7_areSame 53 = .ok (.iaload, 1) := by decide +kernel
theorem dX7_areSame_54 : decode cX7_areSame 54 = .ok (.iload_n 3, 1) := by decide +kernel
theorem dX7_areSame_55 : decode cX7_areSame 55 = .ok (.iadd, 1) := by decide +kernel
theorem dX7_areSame_56 : decode cX7_areSame 56 = .ok (.iaload, 1) := by decide +kernel
theorem dX7_areSame_57 : decode cX7_areSame 57 = .ok (.aload_n 0, 1) := by decide +kernel
theorem dX7_areSame_58 : decode cX7_areSame 58 = .ok (.getfield 37, 3) := by decide +kernel
theorem dX7_areSame_61 : decode cX7_areSame 61 = .ok (.aload_n 0, 1) := by decide +kernel
theorem dX7_areSame_62 : decode cX7_areSame 62 = .ok (.getfield 34, 3) := by decide +kernel
theorem dX7_areSame_65 : decode cX7_areSame 65 = .ok (.iload_n 2, 1) := by decide +kernel
theorem dX7_areSame_66 : decode cX7_areSame 66 = .ok (.iaload, 1) := by decide +kernel
theorem dX7_areSame_67 : decode cX7_areSame 67 = .ok (.iload_n 3, 1) := by decide +kernel
theorem dX7_areSame_68 : decode cX7_areSame 68 = .ok (.iadd, 1) := by decide +kernel
theorem dX7_areSame_69 : decode cX7_areSame 69 = .ok (.iaload, 1) := by decide +kernel
theorem dX7_areSame_70 : decode cX7_areSame 70 = .ok (.if_icmp .eq 5, 3) := by decide +kernel
theorem dX7_areSame_73 : decode cX7_areSame 73 = .ok (.iconst 0, 1) := by decide +kernel
theorem dX7_areSame_74 : decode cX7_areSame 74 = .ok (.ireturn, 1) := by decide +kernel
theorem dX7_areSame_75 : decode cX7_areSame 75 = .ok (.iinc 3 1, 3) := by decide +kernel
theorem dX7_areSame_78 : decode cX7_areSame 78 = .ok (.goto (-44), 3) := by decide +kernel
theorem dX7_areSame_81 : decode cX7_areSame 81 = .ok (.iconst 1, 1) := by decide +kernel
theorem dX7_areSame_82 : decode cX7_areSame 82 = .ok (.ireturn, 1) := by decide +kernel
theorem dX7_words_0 : decode cX7_words 0 = .ok (.iconst 0, 1) := by decide +kernel
theorem dX7_words_1 : decode cX7_words 1 = .ok (.istore_n 1, 1) := by decide +kernel
theorem dX7_words_2 : decode cX7_words 2 = .ok (.iconst 0, 1) := by decide +kernel
theorem dX7_words_3 : decode cX7_words 3 = .ok (.istore_n 2, 1) := by decide +kernel
theorem dX7_words_4 : decode cX7_words 4 = .ok (.iload_n 2, 1) := by decide +kernel
theorem dX7_words_5 : decode cX7_words 5 = .ok (.aload_n 0, 1) := by decide +kernel
theorem dX7_words_6 : decode cX7_words 6 = .ok (.getfield 113, 3) := by decide +kernel
theorem dX7_words_9 : decode cX7_words 9 = .ok (.if_icmp .ge 87, 3) := by decide +kernel
theorem dX7_words_12 : decode cX7_words 12 = .ok (.aload_n 0, 1) := by decide +kernel
theorem dX7_words_13 : decode cX7_words 13 = .ok (.getfield 13, 3) := by decide +kernel
theorem dX7_words_16 : decode cX7_words 16 = .ok (.aload_n 0, 1) := by decide +kernel
theorem dX7_words_17 : decode cX7_words 17 = .ok (.getfield 40, 3) := by decide +kernel
theorem dX7_words_20 : decode cX7_words 20 = .ok (.iload_n 2, 1) := by decide +kernel
theorem dX7_words_21 : decode cX7_words 21 = .ok (.iaload, 1) := by decide +kernel
theorem dX7_words_22 : decode cX7_words 22 = .ok (.iaload, 1) := by decide +kernel
theorem dX7_words_23 : decode cX7_words 23 = .ok (.iconst 2, 1) := by decide +kernel
theorem dX7_words_24 : decode cX7_words 24 = .ok (.if_icmp .ne 7, 3) := by decide +kernel
theorem dX7_words_27 : decode cX7_words 27 = .ok (.iconst 1, 1) := by decide +kernel
theorem dX7_words_28 : decode cX7_words 28 = .ok (.goto 4, 3) := by decide +kernel
theorem dX7_words_31 : decode cX7_words 31 = .ok (.iconst 0, 1) := by decide +kernel
theorem dX7_words_32 : decode cX7_words 32 = .ok (.istore_n 3, 1) := by decide +kernel
theorem dX7_words_33 : decode cX7_words 33 = .ok (.iconst 0, 1) := by decide +kernel
theorem dX7_words_34 : decode cX7_words 34 = .ok (.istore 4, 2) := by decide +kernel
theorem dX7_words_36 : decode cX7_words 36 = .ok (.iload 4, 2) := by decide +kernel
theorem dX7_words_38 : decode cX7_words 38 = .ok (.iload_n 2, 1) := by decide +kernel
theorem dX7_words_39 : decode cX7_words 39 = .ok (.if_icmp .ge 39, 3) := by decide +kernel
theorem dX7_words_42 : decode cX7_words 42 = .ok (.iload_n 3, 1) := by decide +kernel
theorem dX7_words_43 : decode cX7_words 43 = .ok (.ifCond .eq 35, 3) := by decide +kernel
theorem dX7_words_46 : decode cX7_words 46 = .ok (.aload_n 0, 1) := by decide +kernel
theorem dX7_words_47 : decode cX7_words 47 = .ok (.aload_n 0, 1) := by decide +kernel
theorem dX7_words_48 : decode cX7_words 48 = .ok (.getfield 40, 3) := by decide +kernel
theorem dX7_words_51 : decode cX7_words 51 = .ok (.iload 4, 2) := by decide +kernel
theorem dX7_words_53 : decode cX7_words 53 = .ok (.iaload, 1) := by decide +kernel
theorem dX7_words_54 : decode cX7_words 54 = .ok (.aload_n 0, 1) := by decide +kernel
theorem dX7_words_55 : decode cX7_words 55 = .ok (.getfield 40, 3) := by decide +kernel
theorem dX7_words_58 : decode cX7_words 58 = .ok (.iload_n 2, 1) := by decide +kernel
theorem dX7_words_59 : decode cX7_words 59 = .ok (.iaload, 1) := by decide +kernel
theorem dX7_words_60 : decode cX7_words 60 = .ok (.invokevirtual 208, 3) := by decide +kernel
theorem dX7_words_63 : decode cX7_words 63 = .ok (.ifCond .ne 7, 3) := by decide +kernel
theorem dX7_words_66 : decode cX7_words 66 = .ok (.iconst 1, 1) := by decide +kernel
theorem dX7_words_67 : decode cX7_words 67 = .ok (.goto 4, 3) := by decide +kernel
theorem dX7_words_70 : decode cX7_words 70 = .ok (.iconst 0, 1) := by decide +kernel
theorem dX7_words_71 : decode cX7_words 71 = .ok (.istore_n 3, 1) := by decide +kernel
theorem dX7_words_72 : decode cX7_words 72 = .ok (.iinc 4 1, 3) := by decide +kernel
theorem dX7_words_75 : decode cX7_words 75 = .ok (.goto (-39), 3) := by decide +kernel
theorem dX7_words_78 : decode cX7_words 78 = .ok (.iload_n 1, 1) := by decide +kernel
theorem dX7_words_79 : decode cX7_words 79 = .ok (.iload_n 3, 1) := by decide +kernel
theorem dX7_words_80 : decode cX7_words 80 = .ok (.ifCond .eq 7, 3) := by decide +kernel
theorem dX7_words_83 : decode cX7_words 83 = .ok (.iconst 1, 1) := by decide +kernel
theorem dX7_words_84 : decode cX7_words 84 = .ok (.goto 4, 3) := by decide +kernel
theorem dX7_words_87 : decode cX7_words 87 = .ok (.iconst 0, 1) := by decide +kernel
theorem dX7_words_88 : decode cX7_words 88 = .ok (.iadd, 1) := by decide +kernel
theorem dX7_words_89 : decode cX7_words 89 = .ok (.istore_n 1, 1) := by decide +kernel
theorem dX7_words_90 : decode cX7_words 90 = .ok (.iinc 2 1, 3) := by decide +kernel
theorem dX7_words_93 : decode cX7_words 93 = .ok (.goto (-89), 3) := by decide +kernel
theorem dX7_words_96 : decode cX7_words 96 = .ok (.iload_n 1, 1) := by decide +kernel
theorem dX7_words_97 : decode cX7_words 97 = .ok (.ireturn, 1) := by decide +kernel
theorem dX7_wordCount_0 : decode cX7_wordCount 0 = .ok (.aload_n 0, 1) := by decide +kernel
theorem dX7_wordCount_1 : decode cX7_wordCount 1 = .ok (.iconst 0, 1) := by decide +kernel
theorem dX7_wordCount_2 : decode cX7_wordCount 2 = .ok (.putfield 71, 3) := by decide +kernel
theorem dX7_wordCount_5 : decode cX7_wordCount 5 = .ok (.aload_n 0, 1) := by decide +kernel
theorem dX7_wordCount_6 : decode cX7_wordCount 6 = .ok (.invokevirtual 211, 3) := by decide +kernel
theorem dX7_wordCount_9 : decode cX7_wordCount 9 = .ok (.ireturn, 1) := by decide +kernel
theorem dX7_isItem_0 : decode cX7_isItem 0 = .ok (.aload_n 0, 1) := by decide +kernel
theorem dX7_isItem_1 : decode cX7_isItem 1 = .ok (.getfield 13, 3) := by decide +kernel
theorem dX7_isItem_4 : decode cX7_isItem 4 = .ok (.aload_n 0, 1) := by decide +kernel
theorem dX7_isItem_5 : decode cX7_isItem 5 = .ok (.getfield 40, 3) := by decide +kernel
theorem dX7_isItem_8 : decode cX7_isItem 8 = .ok (.iload_n 1, 1) := by decide +kernel
theorem dX7_isItem_9 : decode cX7_isItem 9 = .ok (.iaload, 1) := by decide +kernel
theorem dX7_isItem_10 : decode cX7_isItem 10 = .ok (.iaload, 1) := by decide +kernel
theorem dX7_isItem_11 : decode cX7_isItem 11 = .ok (.iconst 1, 1) := by decide +kernel
theorem dX7_isItem_12 : decode cX7_isItem 12 = .ok (.if_icmp .ne 7, 3) := by decide +kernel
theorem dX7_isItem_15 : decode cX7_isItem 15 = .ok (.iconst 1, 1) := by decide +kernel
theorem dX7_isItem_16 : decode cX7_isItem 16 = .ok (.goto 4, 3) := by decide +kernel
theorem dX7_isItem_19 : decode cX7_isItem 19 = .ok (.iconst 0, 1) := by decide +kernel
theorem dX7_isItem_20 : decode cX7_isItem 20 = .ok (.ireturn, 1) := by decide +kernel
theorem dX7_remove_0 : decode cX7_remove 0 = .ok (.aload_n 0, 1) := by decide +kernel
theorem dX7_remove_1 : decode cX7_remove 1 = .ok (.iconst 0, 1) := by decide +kernel
theorem dX7_remove_2 : decode cX7_remove 2 = .ok (.putfield 71, 3) := by decide +kernel
theorem dX7_remove_5 : decode cX7_remove 5 = .ok (.aload_n 0, 1) := by decide +kernel
theorem dX7_remove_6 : decode cX7_remove 6 = .ok (.iload_n 1, 1) := by decide +kernel
theorem dX7_remove_7 : decode cX7_remove 7 = .ok (.invokevirtual 197, 3) := by decide +kernel
theorem dX7_remove_10 : decode cX7_remove 10 = .ok (.ifCond .ne 9, 3) := by decide +kernel
theorem dX7_remove_13 : decode cX7_remove 13 = .ok (.aload_n 0, 1) := by decide +kernel
theorem dX7_remove_14 : decode cX7_remove 14 = .ok (.iconst 1, 1) := by decide +kernel
theorem dX7_remove_15 : decode cX7_remove 15 = .ok (.invokevirtual 85, 3) := by decide +kernel
theorem dX7_remove_18 : decode cX7_remove 18 = .ok (.ireturn, 1) := by decide +kernel
theorem dX7_remove_19 : decode cX7_remove 19 = .ok (.aload_n 0, 1) := by decide +kernel
theorem dX7_remove_20 : decode cX7_remove 20 = .ok (.iload_n 1, 1) := by decide +kernel
theorem dX7_remove_21 : decode cX7_remove 21 = .ok (.invokevirtual 214, 3) := by decide +kernel
theorem dX7_remove_24 : decode cX7_remove 24 = .ok (.ifCond .ne 9, 3) := by decide +kernel
theorem dX7_remove_27 : decode cX7_remove 27 = .ok (.aload_n 0, 1) := by decide +kernel
theorem dX7_remove_28 : decode cX7_remove 28 = .ok (.iconst 2, 1) := by decide +kernel
theorem dX7_remove_29 : decode cX7_remove 29 = .ok (.invokevirtual 85, 3) := by decide +kernel
theorem dX7_remove_32 : decode cX7_remove 32 = .ok (.ireturn, 1) := by decide +kernel
theorem dX7_remove_33 : decode cX7_remove 33 = .ok (.aload_n 0, 1) := by decide +kernel
theorem dX7_remove_34 : decode cX7_remove 34 = .ok (.aload_n 0, 1) := by decide +kernel
theorem dX7_remove_35 : decode cX7_remove 35 = .ok (.getfield 40, 3) := by decide +kernel
theorem dX7_remove_38 : decode cX7_remove 38 = .ok (.iload_n 1, 1) := by decide +kernel
theorem dX7_remove_39 : decode cX7_remove 39 = .ok (.iaload, 1) := by decide +kernel
theorem dX7_remove_40 : decode cX7_remove 40 = .ok (.invokevirtual 217, 3) := by decide +kernel
theorem dX7_remove_43 : decode cX7_remove 43 = .ok (.aload_n 0, 1) := by decide +kernel
theorem dX7_remove_44 : decode cX7_remove 44 = .ok (.invokevirtual 68, 3) := by decide +kernel
theorem dX7_remove_47 : decode cX7_remove 47 = .ok (.aload_n 0, 1) := by decide +kernel
theorem dX7_remove_48 : decode cX7_remove 48 = .ok (.getfield 113, 3) := by decide +kernel
theorem dX7_remove_51 : decode cX7_remove 51 = .ok (.ireturn, 1) := by decide +kernel
theorem dX7_isWithin_0 : decode cX7_isWithin 0 = .ok (.iload_n 1, 1) := by decide +kernel
theorem dX7_isWithin_1 : decode cX7_isWithin 1 = .ok (.istore_n 3, 1) := by decide +kernel
theorem dX7_isWithin_2 : decode cX7_isWithin 2 = .ok (.iload_n 3, 1) := by decide +kernel
theorem dX7_isWithin_3 : decode cX7_isWithin 3 = .ok (.iconst (-1), 1) := by decide +kernel
theorem dX7_isWithin_4 : decode cX7_isWithin 4 = .ok (.if_icmp .eq 18, 3) := by decide +kernel
theorem dX7_isWithin_7 : decode cX7_isWithin 7 = .ok (.iload_n 3, 1) := by decide +kernel
theorem dX7_isWithin_8 : decode cX7_isWithin 8 = .ok (.iload_n 2, 1) := by decide +kernel
theorem dX7_isWithin_9 : decode cX7_isWithin 9 = .ok (.if_icmp .eq 13, 3) := by decide +kernel
theorem dX7_isWithin_12 : decode cX7_isWithin 12 = .ok (.aload_n 0, 1) := by decide +kernel
theorem dX7_isWithin_13 : decode cX7_isWithin 13 = .ok (.getfield 16, 3) := by decide +kernel
theorem dX7_isWithin_16 : decode cX7_isWithin 16 = .ok (.iload_n 3, 1) := by decide +kernel
theorem dX7_isWithin_17 : decode cX7_isWithin 17 = .ok (.iaload, 1) := by decide +kernel
theorem dX7_isWithin_18 : decode cX7_isWithin 18 = .ok (.istore_n 3, 1) := by decide +kernel
theorem dX7_isWithin_19 : decode cX7_isWithin 19 = .ok (.goto (-17), 3) := by decide +kernel
theorem dX7_isWithin_22 : decode cX7_isWithin 22 = .ok (.iload_n 3, 1) := by decide +kernel
theorem dX7_isWithin_23 : decode cX7_isWithin 23 = .ok (.iload_n 2, 1) := by decide +kernel
theorem dX7_isWithin_24 : decode cX7_isWithin 24 = .ok (.if_icmp .ne 7, 3) := by decide +kernel
theorem dX7_isWithin_27 : decode cX7_isWithin 27 = .ok (.iconst 1, 1) := by decide +kernel
theorem dX7_isWithin_28 : decode cX7_isWithin 28 = .ok (.goto 4, 3) := by decide +kernel
theorem dX7_isWithin_31 : decode cX7_isWithin 31 = .ok (.iconst 0, 1) := by decide +kernel
theorem dX7_isWithin_32 : decode cX7_isWithin 32 = .ok (.ireturn, 1) := by decide +kernel
theorem dX7_heightOf_0 : decode cX7_heightOf 0 = .ok (.iconst 0, 1) := by decide +kernel
theorem dX7_heightOf_1 : decode cX7_heightOf 1 = .ok (.istore_n 2, 1) := by decide +kernel
theorem dX7_heightOf_2 : decode cX7_heightOf 2 = .ok (.iload_n 1, 1) := by decide +kernel
theorem dX7_heightOf_3 : decode cX7_heightOf 3 = .ok (.istore_n 3, 1) := by decide +kernel
theorem dX7_heightOf_4 : decode cX7_heightOf 4 = .ok (.iload_n 3, 1) := by decide +kernel
theorem dX7_heightOf_5 : decode cX7_heightOf 5 = .ok (.iconst (-1), 1) := by decide +kernel
theorem dX7_heightOf_6 : decode cX7_heightOf 6 = .ok (.if_icmp .eq 52, 3) := by decide +kernel
theorem dX7_heightOf_9 : decode cX7_heightOf 9 = .ok (.aload_n 0, 1) := by decide +kernel
theorem dX7_heightOf_10 : decode cX7_heightOf 10 = .ok (.getfield 13, 3) := by decide +kernel
theorem dX7_heightOf_13 : decode cX7_heightOf 13 = .ok (.iload_n 3, 1) := by decide +kernel
theorem dX7_heightOf_14 : decode cX7_heightOf 14 = .ok (.iaload, 1) := by decide +kernel
theorem dX7_heightOf_15 : decode cX7_heightOf 15 = .ok (.ifCond .eq 13, 3) := by decide +kernel
theorem dX7_heightOf_18 : decode cX7_heightOf 18 = .ok (.aload_n 0, 1) := by decide +kernel
theorem dX7_heightOf_19 : decode cX7_heightOf 19 = .ok (.getfield 13, 3) := by decide +kernel
theorem dX7_heightOf_22 : decode cX7_heightOf 22 = .ok (.iload_n 3, 1) := by decide +kernel
theorem dX7_heightOf_23 : decode cX7_heightOf 23 = .ok (.iaload, 1) := by decide +kernel
theorem dX7_heightOf_24 : decode cX7_heightOf 24 = .ok (.iconst 4, 1) := by decide +kernel
theorem dX7_heightOf_25 : decode cX7_heightOf 25 = .ok (.if_icmp .ne 23, 3) := by decide +kernel
theorem dX7_heightOf_28 : decode cX7_heightOf 28 = .ok (.iload_n 2, 1) := by decide +kernel
theorem dX7_heightOf_29 : decode cX7_heightOf 29 = .ok (.aload_n 0, 1) := by decide +kernel
theorem dX7_heightOf_30 : decode cX7_heightOf 30 = .ok (.iload_n 3, 1) := by decide +kernel
theorem dX7_heightOf_31 : decode cX7_heightOf 31 = .ok (.iconst 1, 1) := by decide +kernel
theorem dX7_heightOf_32 : decode cX7_heightOf 32 = .ok (.invokevirtual 200, 3) := by decide +kernel
theorem dX7_heightOf_35 : decode cX7_heightOf 35 = .ok (.aload_n 0, 1) := by decide +kernel
theorem dX7_heightOf_36 : decode cX7_heightOf 36 = .ok (.iload_n 1, 1) := by decide +kernel
theorem dX7_heightOf_37 : decode cX7_heightOf 37 = .ok (.iconst 1, 1) := by decide +kernel
theorem dX7_heightOf_38 : decode cX7_heightOf 38 = .ok (.invokevirtual 200, 3) := by decide +kernel
theorem dX7_heightOf_41 : decode cX7_heightOf 41 = .ok (.isub, 1) := by decide +kernel
theorem dX7_heightOf_42 : decode cX7_heightOf 42 = .ok (.iconst 1, 1) := by decide +kernel
theorem dX7_heightOf_43 : decode cX7_heightOf 43 = .ok (.iadd, 1) := by decide +kernel
theorem dX7_heightOf_44 : decode cX7_heightOf 44 = .ok (.invokestatic 220, 3) := by decide +kernel
theorem dX7_heightOf_47 : decode cX7_heightOf 47 = .ok (.istore_n 2, 1) := by decide +kernel
theorem dX7_heightOf_48 : decode cX7_heightOf 48 = .ok (.aload_n 0, 1) := by decide +kernel
theorem dX7_heightOf_49 : decode cX7_heightOf 49 = .ok (.iload_n 3, 1) := by decide +kernel
theorem dX7_heightOf_50 : decode cX7_heightOf 50 = .ok (.iload_n 1, 1) := by decide +kernel
theorem dX7_heightOf_51 : decode cX7_heightOf 51 = .ok (.invokevirtual 116, 3) := by decide +kernel
theorem dX7_heightOf_54 : decode cX7_heightOf 54 = .ok (.istore_n 3, 1) := by decide +kernel
theorem dX7_heightOf_55 : decode cX7_heightOf 55 = .ok (.goto (-51), 3) := by decide +kernel
theorem dX7_heightOf_58 : decode cX7_heightOf 58 = .ok (.iload_n 2, 1) := by decide +kernel
theorem dX7_heightOf_59 : decode cX7_heightOf 59 = .ok (.ireturn, 1) := by decide +kernel
theorem dX7_move_0 : decode cX7_move 0 = .ok (.aload_n 0, 1) := by decide +kernel
theorem dX7_move_1 : decode cX7_move 1 = .ok (.iconst 0, 1) := by decide +kernel
theorem dX7_move_2 : decode cX7_move 2 = .ok (.putfield 71, 3) := by decide +kernel
theorem dX7_move_5 : decode cX7_move 5 = .ok (.aload_n 0, 1) := by decide +kernel
theorem dX7_move_6 : decode cX7_move 6 = .ok (.iload_n 1, 1) := by decide +kernel
theorem dX7_move_7 : decode cX7_move 7 = .ok (.invokevirtual 197, 3) := by decide +kernel
theorem dX7_move_10 : decode cX7_move 10 = .ok (.ifCond .eq 11, 3) := by decide +kernel
theorem dX7_move_13 : decode cX7_move 13 = .ok (.aload_n 0, 1) := by decide +kernel
theorem dX7_move_14 : decode cX7_move 14 = .ok (.iload_n 2, 1) := by decide +kernel
theorem dX7_move_15 : decode cX7_move 15 = .ok (.invokevirtual 197, 3) := by decide +kernel
theorem dX7_move_18 : decode cX7_move 18 = .ok (.ifCond .ne 9, 3) := by decide +kernel
theorem dX7_move_21 : decode cX7_move 21 = .ok (.aload_n 0, 1) := by decide +kernel
theorem dX7_move_22 : decode cX7_move 22 = .ok (.iconst 1, 1) := by decide +kernel
theorem dX7_move_23 : decode cX7_move 23 = .ok (.invokevirtual 85, 3) := by decide +kernel
theorem dX7_move_26 : decode cX7_move 26 = .ok (.ireturn, 1) := by decide +kernel
theorem dX7_move_27 : decode cX7_move 27 = .ok (.aload_n 0, 1) := by decide +kernel
theorem dX7_move_28 : decode cX7_move 28 = .ok (.getfield 40, 3) := by decide +kernel
theorem dX7_move_31 : decode cX7_move 31 = .ok (.iload_n 1, 1) := by decide +kernel
theorem dX7_move_32 : decode cX7_move 32 = .ok (.iaload, 1) := by decide +kernel
theorem dX7_move_33 : decode cX7_move 33 = .ok (.istore 4, 2) := by decide +kernel
theorem dX7_move_35 : decode cX7_move 35 = .ok (.aload_n 0, 1) := by decide +kernel
theorem dX7_move_36 : decode cX7_move 36 = .ok (.getfield 40, 3) := by decide +kernel
theorem dX7_move_39 : decode cX7_move 39 = .ok (.iload_n 2, 1) := by decide +kernel
theorem dX7_move_40 : decode cX7_move 40 = .ok (.iaload, 1) := by decide +kernel
theorem dX7_move_41 : decode cX7_move 41 = .ok (.istore 5, 2) := by decide +kernel
theorem dX7_move_43 : decode cX7_move 43 = .ok (.aload_n 0, 1) := by decide +kernel
theorem dX7_move_44 : decode cX7_move 44 = .ok (.getfield 13, 3) := by decide +kernel
theorem dX7_move_47 : decode cX7_move 47 = .ok (.iload 4, 2) := by decide +kernel
theorem dX7_move_49 : decode cX7_move 49 = .ok (.iaload, 1) := by decide +kernel
theorem dX7_move_50 : decode cX7_move 50 = .ok (.iconst 1, 1) := by decide +kernel
theorem dX7_move_51 : decode cX7_move 51 = .ok (.if_icmp .ne 43, 3) := by decide +kernel
theorem dX7_move_54 : decode cX7_move 54 = .ok (.aload_n 0, 1) := by decide +kernel
theorem dX7_move_55 : decode cX7_move 55 = .ok (.getfield 13, 3) := by decide +kernel
theorem dX7_move_58 : decode cX7_move 58 = .ok (.iload 5, 2) := by decide +kernel
theorem dX7_move_60 : decode cX7_move 60 = .ok (.iaload, 1) := by decide +kernel
theorem dX7_move_61 : decode cX7_move 61 = .ok (.ifCond .ne 33, 3) := by decide +kernel
theorem dX7_move_64 : decode cX7_move 64 = .ok (.aload_n 0, 1) := by decide +kernel
theorem dX7_move_65 : decode cX7_move 65 = .ok (.iload 5, 2) := by decide +kernel
theorem dX7_move_67 : decode cX7_move 67 = .ok (.iload 4, 2) := by decide +kernel
theorem dX7_move_69 : decode cX7_move 69 = .ok (.invokevirtual 225, 3) := by decide +kernel
theorem dX7_move_72 : decode cX7_move 72 = .ok (.ifCond .ne 22, 3) := by decide +kernel
theorem dX7_move_75 : decode cX7_move 75 = .ok (.aload_n 0, 1) := by decide +kernel
theorem dX7_move_76 : decode cX7_move 76 = .ok (.iload 5, 2) := by decide +kernel
theorem dX7_move_78 : decode cX7_move 78 = .ok (.iconst 1, 1) := by decide +kernel
theorem dX7_move_79 : decode cX7_move 79 = .ok (.invokevirtual 200, 3) := by decide +kernel
theorem dX7_move_82 : decode cX7_move 82 = .ok (.aload_n 0, 1) := by decide +kernel
theorem dX7_move_83 : decode cX7_move 83 = .ok (.iload 4, 2) := by decide +kernel
theorem dX7_move_85 : decode cX7_move 85 = .ok (.invokevirtual 228, 3) := by decide +kernel
theorem dX7_move_88 : decode cX7_move 88 = .ok (.iadd, 1) := by decide +kernel
theorem dX7_move_89 : decode cX7_move 89 = .ok (.bipush 30, 2) := by decide +kernel
theorem dX7_move_91 : decode cX7_move 91 = .ok (.if_icmp .le 9, 3) := by decide +kernel
theorem dX7_move_94 : decode cX7_move 94 = .ok (.aload_n 0, 1) := by decide +kernel
theorem dX7_move_95 : decode cX7_move 95 = .ok (.iconst 2, 1) := by decide +kernel
theorem dX7_move_96 : decode cX7_move 96 = .ok (.invokevirtual 85, 3) := by decide +kernel
theorem dX7_move_99 : decode cX7_move 99 = .ok (.ireturn, 1) := by decide +kernel
theorem dX7_move_100 : decode cX7_move 100 = .ok (.aload_n 0, 1) := by decide +kernel
theorem dX7_move_101 : decode cX7_move 101 = .ok (.iload 5, 2) := by decide +kernel
theorem dX7_move_103 : decode cX7_move 103 = .ok (.invokevirtual 102, 3) := by decide +kernel
theorem dX7_move_106 : decode cX7_move 106 = .ok (.aload_n 0, 1) := by decide +kernel
theorem dX7_move_107 : decode cX7_move 107 = .ok (.getfield 16, 3) := by decide +kernel
theorem dX7_move_110 : decode cX7_move 110 = .ok (.iload 4, 2) := by decide +kernel
theorem dX7_move_112 : decode cX7_move 112 = .ok (.iaload, 1) := by decide +kernel
theorem dX7_move_113 : decode cX7_move 113 = .ok (.iload 5, 2) := by decide +kernel
theorem dX7_move_115 : decode cX7_move 115 = .ok (.if_icmp .ne 7, 3) := by decide +kernel
theorem dX7_move_118 : decode cX7_move 118 = .ok (.iconst 1, 1) := by decide +kernel
theorem dX7_move_119 : decode cX7_move 119 = .ok (.goto 4, 3) := by decide +kernel
theorem dX7_move_122 : decode cX7_move 122 = .ok (.iconst 0, 1) := by decide +kernel
theorem dX7_move_123 : decode cX7_move 123 = .ok (.isub, 1) := by decide +kernel
theorem dX7_move_124 : decode cX7_move 124 = .ok (.istore 6, 2) := by decide +kernel
theorem dX7_move_126 : decode cX7_move 126 = .ok (.iload_n 3, 1) := by decide +kernel
theorem dX7_move_127 : decode cX7_move 127 = .ok (.ifCond .lt 9, 3) := by decide +kernel
theorem dX7_move_130 : decode cX7_move 130 = .ok (.iload_n 3, 1) := by decide +kernel
theorem dX7_move_131 : decode cX7_move 131 = .ok (.iload 6, 2) := by decide +kernel
theorem dX7_move_133 : decode cX7_move 133 = .ok (.if_icmp .le 9, 3) := by decide +kernel
theorem dX7_move_136 : decode cX7_move 136 = .ok (.aload_n 0, 1) := by decide +kernel
theorem dX7_move_137 : decode cX7_move 137 = .ok (.iconst 2, 1) := by decide +kernel
theorem dX7_move_138 : decode cX7_move 138 = .ok (.invokevirtual 85, 3) := by decide +kernel
theorem dX7_move_141 : decode cX7_move 141 = .ok (.ireturn, 1) := by decide +kernel
theorem dX7_move_142 : decode cX7_move 142 = .ok (.aload_n 0, 1) := by decide +kernel
theorem dX7_move_143 : decode cX7_move 143 = .ok (.iload 4, 2) := by decide +kernel
theorem dX7_move_145 : decode cX7_move 145 = .ok (.invokevirtual 217, 3) := by decide +kernel
theorem dX7_move_148 : decode cX7_move 148 = .ok (.aload_n 0, 1) := by decide +kernel
theorem dX7_move_149 : decode cX7_move 149 = .ok (.iload 4, 2) := by decide +kernel
theorem dX7_move_151 : decode cX7_move 151 = .ok (.iload 5, 2) := by decide +kernel
theorem dX7_move_153 : decode cX7_move 153 = .ok (.iload_n 3, 1) := by decide +kernel
theorem dX7_move_154 : decode cX7_move 154 = .ok (.invokevirtual 105, 3) := by decide +kernel
theorem dX7_move_157 : decode cX7_move 157 = .ok (.aload_n 0, 1) := by decide +kernel
theorem dX7_move_158 : decode cX7_move 158 = .ok (.invokevirtual 68, 3) := by decide +kernel
theorem dX7_move_161 : decode cX7_move 161 = .ok (.aload_n 0, 1) := by decide +kernel
theorem dX7_move_162 : decode cX7_move 162 = .ok (.getfield 43, 3) := by decide +kernel
theorem dX7_move_165 : decode cX7_move 165 = .ok (.iload 4, 2) := by decide +kernel
theorem dX7_move_167 : decode cX7_move 167 = .ok (.iaload, 1) := by decide +kernel
theorem dX7_move_168 : decode cX7_move 168 = .ok (.ireturn, 1) := by decide +kernel
theorem dX7_rename_0 : decode cX7_rename 0 = .ok (.aload_n 0, 1) := by decide +kernel
theorem dX7_rename_1 : decode cX7_rename 1 = .ok (.iconst 0, 1) := by decide +kernel
theorem dX7_rename_2 : decode cX7_rename 2 = .ok (.putfield 71, 3) := by decide +kernel
theorem dX7_rename_5 : decode cX7_rename 5 = .ok (.aload_n 0, 1) := by decide +kernel
theorem dX7_rename_6 : decode cX7_rename 6 = .ok (.iload_n 1, 1) := by decide +kernel
theorem dX7_rename_7 : decode cX7_rename 7 = .ok (.invokevirtual 197, 3) := by decide +kernel
theorem dX7_rename_10 : decode cX7_rename 10 = .ok (.ifCond .ne 9, 3) := by decide +kernel
theorem dX7_rename_13 : decode cX7_rename 13 = .ok (.aload_n 0, 1) := by decide +kernel
theorem dX7_rename_14 : decode cX7_rename 14 = .ok (.iconst 1, 1) := by decide +kernel
theorem dX7_rename_15 : decode cX7_rename 15 = .ok (.invokevirtual 85, 3) := by decide +kernel
theorem dX7_rename_18 : decode cX7_rename 18 = .ok (.ireturn, 1) := by decide +kernel
theorem dX7_rename_19 : decode cX7_rename 19 = .ok (.aload_n 0, 1) := by decide +kernel
theorem dX7_rename_20 : decode cX7_rename 20 = .ok (.lload_n 2, 1) := by decide +kernel
theorem dX7_rename_21 : decode cX7_rename 21 = .ok (.invokevirtual 81, 3) := by decide +kernel
theorem dX7_rename_24 : decode cX7_rename 24 = .ok (.istore 4, 2) := by decide +kernel
theorem dX7_rename_26 : decode cX7_rename 26 = .ok (.iload 4, 2) := by decide +kernel
theorem dX7_rename_28 : decode cX7_rename 28 = .ok (.ifCond .le 19, 3) := by decide +kernel
theorem dX7_rename_31 : decode cX7_rename 31 = .ok (.aload_n 0, 1) := by decide +kernel
theorem dX7_rename_32 : decode cX7_rename 32 = .ok (.getfield 53, 3) := by decide +kernel
theorem dX7_rename_35 : decode cX7_rename 35 = .ok (.iconst 0, 1) := by decide +kernel
theorem dX7_rename_36 : decode cX7_rename 36 = .ok (.iaload, 1) := by decide +kernel
theorem dX7_rename_37 : decode cX7_rename 37 = .ok (.invokestatic 140, 3) := by decide +kernel
theorem dX7_rename_40 : decode cX7_rename 40 = .ok (.ifCond .eq 7, 3) := by decide +kernel
theorem dX7_rename_43 : decode cX7_rename 43 = .ok (.iconst 1, 1) := by decide +kernel
theorem dX7_rename_44 : decode cX7_rename 44 = .ok (.goto 4, 3) := by decide +kernel
theorem dX7_rename_47 : decode cX7_rename 47 = .ok (.iconst 0, 1) := by decide +kernel
theorem dX7_rename_48 : decode cX7_rename 48 = .ok (.istore 5, 2) := by decide +kernel
theorem dX7_rename_50 : decode cX7_rename 50 = .ok (.iconst 0, 1) := by decide +kernel
theorem dX7_rename_51 : decode cX7_rename 51 = .ok (.istore 6, 2) := by decide +kernel
theorem dX7_rename_53 : decode cX7_rename 53 = .ok (.iload 6, 2) := by decide +kernel
theorem dX7_rename_55 : decode cX7_rename 55 = .ok (.iload 4, 2) := by decide +kernel
theorem dX7_rename_57 : decode cX7_rename 57 = .ok (.if_icmp .ge 47, 3) := by decide +kernel
theorem dX7_rename_60 : decode cX7_rename 60 = .ok (.iload 5, 2) := by decide +kernel
theorem dX7_rename_62 : decode cX7_rename 62 = .ok (.ifCond .eq 33, 3) := by decide +kernel
theorem dX7_rename_65 : decode cX7_rename 65 = .ok (.aload_n 0, 1) := by decide +kernel
theorem dX7_rename_66 : decode cX7_rename 66 = .ok (.getfield 53, 3) := by decide +kernel
theorem dX7_rename_69 : decode cX7_rename 69 = .ok (.iload 6, 2) := by decide +kernel
theorem dX7_rename_71 : decode cX7_rename 71 = .ok (.iaload, 1) := by decide +kernel
theorem dX7_rename_72 : decode cX7_rename 72 = .ok (.invokestatic 140, 3) := by decide +kernel
theorem dX7_rename_75 : decode cX7_rename 75 = .ok (.ifCond .ne 16, 3) := by decide +kernel
theorem dX7_rename_78 : decode cX7_rename 78 = .ok (.aload_n 0, 1) := by decide +kernel
theorem dX7_rename_79 : decode cX7_rename 79 = .ok (.getfield 53, 3) := by decide +kernel
theorem dX7_rename_82 : decode cX7_rename 82 = .ok (.iload 6, 2) := by decide +kernel
theorem dX7_rename_84 : decode cX7_rename 84 = .ok (.iaload, 1) := by decide +kernel
theorem dX7_rename_85 : decode cX7_rename 85 = .ok (.invokestatic 144, 3) := by decide +kernel
theorem dX7_rename_88 : decode cX7_rename 88 = .ok (.ifCond .eq 7, 3) := by decide +kernel
theorem dX7_rename_91 : decode cX7_rename 91 = .ok (.iconst 1, 1) := by decide +kernel
theorem dX7_rename_92 : decode cX7_rename 92 = .ok (.goto 4, 3) := by decide +kernel
theorem dX7_rename_95 : decode cX7_rename 95 = .ok (.iconst 0, 1) := by decide +kernel
theorem dX7_rename_96 : decode cX7_rename 96 = .ok (.istore 5, 2) := by decide +kernel
theorem dX7_rename_98 : decode cX7_rename 98 = .ok (.iinc 6 1, 3) := by decide +kernel
theorem dX7_rename_101 : decode cX7_rename 101 = .ok (.goto (-48), 3) := by decide +kernel
theorem dX7_rename_104 : decode cX7_rename 104 = .ok (.aload_n 0, 1) := by decide +kernel
theorem dX7_rename_105 : decode cX7_rename 105 = .ok (.getfield 40, 3) := by decide +kernel
theorem dX7_rename_108 : decode cX7_rename 108 = .ok (.iload_n 1, 1) := by decide +kernel
theorem dX7_rename_109 : decode cX7_rename 109 = .ok (.iaload, 1) := by decide +kernel
theorem dX7_rename_110 : decode cX7_rename 110 = .ok (.istore 6, 2) := by decide +kernel
theorem dX7_rename_112 : decode cX7_rename 112 = .ok (.aload_n 0, 1) := by decide +kernel
theorem dX7_rename_113 : decode cX7_rename 113 = .ok (.getfield 13, 3) := by decide +kernel
theorem dX7_rename_116 : decode cX7_rename 116 = .ok (.iload 6, 2) := by decide +kernel
theorem dX7_rename_118 : decode cX7_rename 118 = .ok (.iaload, 1) := by decide +kernel
theorem dX7_rename_119 : decode cX7_rename 119 = .ok (.iconst 2, 1) := by decide +kernel
theorem dX7_rename_120 : decode cX7_rename 120 = .ok (.if_icmp .ne 8, 3) := by decide +kernel
theorem dX7_rename_123 : decode cX7_rename 123 = .ok (.iload 5, 2) := by decide +kernel
theorem dX7_rename_125 : decode cX7_rename 125 = .ok (.ifCond .ne 9, 3) := by decide +kernel
theorem dX7_rename_128 : decode cX7_rename 128 = .ok (.aload_n 0, 1) := by decide +kernel
theorem dX7_rename_129 : decode cX7_rename 129 = .ok (.iconst 2, 1) := by decide +kernel
theorem dX7_rename_130 : decode cX7_rename 130 = .ok (.invokevirtual 85, 3) := by decide +kernel
theorem dX7_rename_133 : decode cX7_rename 133 = .ok (.ireturn, 1) := by decide +kernel
theorem dX7_rename_134 : decode cX7_rename 134 = .ok (.aload_n 0, 1) := by decide +kernel
theorem dX7_rename_135 : decode cX7_rename 135 = .ok (.getfield 34, 3) := by decide +kernel
theorem dX7_rename_138 : decode cX7_rename 138 = .ok (.iload 6, 2) := by decide +kernel
theorem dX7_rename_140 : decode cX7_rename 140 = .ok (.sipush 600, 3) := by decide +kernel
theorem dX7_rename_143 : decode cX7_rename 143 = .ok (.bipush 8, 2) := by decide +kernel
theorem dX7_rename_145 : decode cX7_rename 145 = .ok (.iload 6, 2) := by decide +kernel
theorem dX7_rename_147 : decode cX7_rename 147 = .ok (.imul, 1) := by decide +kernel
theorem dX7_rename_148 : decode cX7_rename 148 = .ok (.iadd, 1) := by decide +kernel
theorem dX7_rename_149 : decode cX7_rename 149 = .ok (.iastore, 1) := by decide +kernel
theorem dX7_rename_150 : decode cX7_rename 150 = .ok (.aload_n 0, 1) := by decide +kernel
theorem dX7_rename_151 : decode cX7_rename 151 = .ok (.getfield 31, 3) := by decide +kernel
theorem dX7_rename_154 : decode cX7_rename 154 = .ok (.iload 6, 2) := by decide +kernel
theorem dX7_rename_156 : decode cX7_rename 156 = .ok (.iload 4, 2) := by decide +kernel
theorem dX7_rename_158 : decode cX7_rename 158 = .ok (.iastore, 1) := by decide +kernel
theorem dX7_rename_159 : decode cX7_rename 159 = .ok (.iconst 0, 1) := by decide +kernel
theorem dX7_rename_160 : decode cX7_rename 160 = .ok (.istore 7, 2) := by decide +kernel
theorem dX7_rename_162 : decode cX7_rename 162 = .ok (.iload 7, 2) := by decide +kernel
theorem dX7_rename_164 : decode cX7_rename 164 = .ok (.iload 4, 2) := by decide +kernel
theorem dX7_rename_166 : decode cX7_rename 166 = .ok (.if_icmp .ge 31, 3) := by decide +kernel
theorem dX7_rename_169 : decode cX7_rename 169 = .ok (.aload_n 0, 1) := by decide +kernel
theorem dX7_rename_170 : decode cX7_rename 170 = .ok (.getfield 37, 3) := by decide +kernel
theorem dX7_rename_173 : decode cX7_rename 173 = .ok (.aload_n 0, 1) := by decide +kernel
theorem dX7_rename_174 : decode cX7_rename 174 = .ok (.getfield 34, 3) := by decide +kernel
theorem dX7_rename_177 : decode cX7_rename 177 = .ok (.iload 6, 2) := by decide +kernel
theorem dX7_rename_179 : decode cX7_rename 179 = .ok (.iaload, 1) := by decide +kernel
theorem dX7_rename_180 : decode cX7_rename 180 = .ok (.iload 7, 2) := by decide +kernel
theorem dX7_rename_182 : decode cX7_rename 182 = .ok (.iadd, 1) := by decide +kernel
theorem dX7_rename_183 : decode cX7_rename 183 = .ok (.aload_n 0, 1) := by decide +kernel
theorem dX7_rename_184 : decode cX7_rename 184 = .ok (.getfield 53, 3) := by decide +kernel
theorem dX7_rename_187 : decode cX7_rename 187 = .ok (.iload 7, 2) := by decide +kernel
theorem dX7_rename_189 : decode cX7_rename 189 = .ok (.iaload, 1) := by decide +kernel
theorem dX7_rename_190 : decode cX7_rename 190 = .ok (.iastore, 1) := by decide +kernel
theorem dX7_rename_191 : decode cX7_rename 191 = .ok (.iinc 7 1, 3) := by decide +kernel
theorem dX7_rename_194 : decode cX7_rename 194 = .ok (.goto (-32), 3) := by decide +kernel
theorem dX7_rename_197 : decode cX7_rename 197 = .ok (.iload 4, 2) := by decide +kernel
theorem dX7_rename_199 : decode cX7_rename 199 = .ok (.ireturn, 1) := by decide +kernel
theorem dX7_put_0 : decode cX7_put 0 = .ok (.aload_n 0, 1) := by decide +kernel
theorem dX7_put_1 : decode cX7_put 1 = .ok (.getfield 50, 3) := by decide +kernel
theorem dX7_put_4 : decode cX7_put 4 = .ok (.aload_n 0, 1) := by decide +kernel
theorem dX7_put_5 : decode cX7_put 5 = .ok (.getfield 231, 3) := by decide +kernel
theorem dX7_put_8 : decode cX7_put 8 = .ok (.iload_n 1, 1) := by decide +kernel
theorem dX7_put_9 : decode cX7_put 9 = .ok (.iastore, 1) := by decide +kernel
theorem dX7_put_10 : decode cX7_put 10 = .ok (.aload_n 0, 1) := by decide +kernel
theorem dX7_put_11 : decode cX7_put 11 = .ok (.dup, 1) := by decide +kernel
theorem dX7_put_12 : decode cX7_put 12 = .ok (.getfield 231, 3) := by decide +kernel
theorem dX7_put_15 : decode cX7_put 15 = .ok (.iconst 1, 1) := by decide +kernel
theorem dX7_put_16 : decode cX7_put 16 = .ok (.iadd, 1) := by decide +kernel
theorem dX7_put_17 : decode cX7_put 17 = .ok (.putfield 231, 3) := by decide +kernel
theorem dX7_put_20 : decode cX7_put 20 = .ok (.return_, 1) := by decide +kernel
theorem dX7_putNumber_0 : decode cX7_putNumber 0 = .ok (.iload_n 1, 1) := by decide +kernel
theorem dX7_putNumber_1 : decode cX7_putNumber 1 = .ok (.bipush 9, 2) := by decide +kernel
theorem dX7_putNumber_3 : decode cX7_putNumber 3 = .ok (.if_icmp .le 11, 3) := by decide +kernel
theorem dX7_putNumber_6 : decode cX7_putNumber 6 = .ok (.aload_n 0, 1) := by decide +kernel
theorem dX7_putNumber_7 : decode cX7_putNumber 7 = .ok (.iload_n 1, 1) := by decide +kernel
theorem dX7_putNumber_8 : decode cX7_putNumber 8 = .ok (.bipush 10, 2) := by decide +kernel
theorem dX7_putNumber_10 : decode cX7_putNumber 10 = .ok (.idiv, 1) := by decide +kernel
theorem dX7_putNumber_11 : decode cX7_putNumber 11 = .ok (.invokevirtual 234, 3) := by decide +kernel
theorem dX7_putNumber_14 : decode cX7_putNumber 14 = .ok (.aload_n 0, 1) := by decide +kernel
theorem dX7_putNumber_15 : decode cX7_putNumber 15 = .ok (.iload_n 1, 1) := by decide +kernel
theorem dX7_putNumber_16 : decode cX7_putNumber 16 = .ok (.bipush 10, 2) := by decide +kernel
theorem dX7_putNumber_18 : decode cX7_putNumber 18 = .ok (.irem, 1) := by decide +kernel
theorem dX7_putNumber_19 : decode cX7_putNumber 19 = .ok (.bipush 48, 2) := by decide +kernel
theorem dX7_putNumber_21 : decode cX7_putNumber 21 = .ok (.iadd, 1) := by decide +kernel
theorem dX7_putNumber_22 : decode cX7_putNumber 22 = .ok (.invokevirtual 237, 3) := by decide +kernel
theorem dX7_putNumber_25 : decode cX7_putNumber 25 = .ok (.return_, 1) := by decide +kernel
theorem dX7_putAll_0 : decode cX7_putAll 0 = .ok (.aload_n 0, 1) := by decide +kernel
theorem dX7_putAll_1 : decode cX7_putAll 1 = .ok (.getfield 19, 3) := by decide +kernel
theorem dX7_putAll_4 : decode cX7_putAll 4 = .ok (.iload_n 1, 1) := by decide +kernel
theorem dX7_putAll_5 : decode cX7_putAll 5 = .ok (.iaload, 1) := by decide +kernel
theorem dX7_putAll_6 : decode cX7_putAll 6 = .ok (.istore 4, 2) := by decide +kernel
theorem dX7_putAll_8 : decode cX7_putAll 8 = .ok (.iload 4, 2) := by decide +kernel
theorem dX7_putAll_10 : decode cX7_putAll 10 = .ok (.iload_n 3, 1) := by decide +kernel
theorem dX7_putAll_11 : decode cX7_putAll 11 = .ok (.if_icmp .eq 69, 3) := by decide +kernel
theorem dX7_putAll_14 : decode cX7_putAll 14 = .ok (.iload 4, 2) := by decide +kernel
theorem dX7_putAll_16 : decode cX7_putAll 16 = .ok (.aload_n 0, 1) := by decide +kernel
theorem dX7_putAll_17 : decode cX7_putAll 17 = .ok (.getfield 19, 3) := by decide +kernel
theorem dX7_putAll_20 : decode cX7_putAll 20 = .ok (.iload_n 1, 1) := by decide +kernel
theorem dX7_putAll_21 : decode cX7_putAll 21 = .ok (.iaload, 1) := by decide +kernel
theorem dX7_putAll_22 : decode cX7_putAll 22 = .ok (.if_icmp .eq 13, 3) := by decide +kernel
theorem dX7_putAll_25 : decode cX7_putAll 25 = .ok (.iload_n 2, 1) := by decide +kernel
theorem dX7_putAll_26 : decode cX7_putAll 26 = .ok (.ifCond .eq 9, 3) := by decide +kernel
theorem dX7_putAll_29 : decode cX7_putAll 29 = .ok (.aload_n 0, 1) := by decide +kernel
theorem dX7_putAll_30 : decode cX7_putAll 30 = .ok (.bipush 59, 2) := by decide +kernel
theorem dX7_putAll_32 : decode cX7_putAll 32 = .ok (.invokevirtual 237, 3) := by decide +kernel
theorem dX7_putAll_35 : decode cX7_putAll 35 = .ok (.iload 4, 2) := by decide +kernel
theorem dX7_putAll_37 : decode cX7_putAll 37 = .ok (.aload_n 0, 1) := by decide +kernel
theorem dX7_putAll_38 : decode cX7_putAll 38 = .ok (.getfield 19, 3) := by decide +kernel
theorem dX7_putAll_41 : decode cX7_putAll 41 = .ok (.iload_n 1, 1) := by decide +kernel
theorem dX7_putAll_42 : decode cX7_putAll 42 = .ok (.iaload, 1) := by decide +kernel
theorem dX7_putAll_43 : decode cX7_putAll 43 = .ok (.if_icmp .eq 19, 3) := by decide +kernel
theorem dX7_putAll_46 : decode cX7_putAll 46 = .ok (.aload_n 0, 1) := by decide +kernel
theorem dX7_putAll_47 : decode cX7_putAll 47 = .ok (.getfield 13, 3) := by decide +kernel
theorem dX7_putAll_50 : decode cX7_putAll 50 = .ok (.iload 4, 2) := by decide +kernel
theorem dX7_putAll_52 : decode cX7_putAll 52 = .ok (.iaload, 1) := by decide +kernel
theorem dX7_putAll_53 : decode cX7_putAll 53 = .ok (.ifCond .eq 9, 3) := by decide +kernel
theorem dX7_putAll_56 : decode cX7_putAll 56 = .ok (.aload_n 0, 1) := by decide +kernel
theorem dX7_putAll_57 : decode cX7_putAll 57 = .ok (.bipush 32, 2) := by decide +kernel
theorem dX7_putAll_59 : decode cX7_putAll 59 = .ok (.invokevirtual 237, 3) := by decide +kernel
theorem dX7_putAll_62 : decode cX7_putAll 62 = .ok (.aload_n 0, 1) := by decide +kernel
theorem dX7_putAll_63 : decode cX7_putAll 63 = .ok (.iload 4, 2) := by decide +kernel
theorem dX7_putAll_65 : decode cX7_putAll 65 = .ok (.invokevirtual 240, 3) := by decide +kernel
theorem dX7_putAll_68 : decode cX7_putAll 68 = .ok (.aload_n 0, 1) := by decide +kernel
theorem dX7_putAll_69 : decode cX7_putAll 69 = .ok (.getfield 22, 3) := by decide +kernel
theorem dX7_putAll_72 : decode cX7_putAll 72 = .ok (.iload 4, 2) := by decide +kernel
theorem dX7_putAll_74 : decode cX7_putAll 74 = .ok (.iaload, 1) := by decide +kernel
theorem dX7_putAll_75 : decode cX7_putAll 75 = .ok (.istore 4, 2) := by decide +kernel
theorem dX7_putAll_77 : decode cX7_putAll 77 = .ok (.goto (-69), 3) := by decide +kernel
theorem dX7_putAll_80 : decode cX7_putAll 80 = .ok (.return_, 1) := by decide +kernel
theorem dX7_putNode_0 : decode cX7_putNode 0 = .ok (.aload_n 0, 1) := by decide +kernel
theorem dX7_putNode_1 : decode cX7_putNode 1 = .ok (.getfield 13, 3) := by decide +kernel
theorem dX7_putNode_4 : decode cX7_putNode 4 = .ok (.iload_n 1, 1) := by decide +kernel
theorem dX7_putNode_5 : decode cX7_putNode 5 = .ok (.iaload, 1) := by decide +kernel
theorem dX7_putNode_6 : decode cX7_putNode 6 = .ok (.iconst 2, 1) := by decide +kernel
theorem dX7_putNode_7 : decode cX7_putNode 7 = .ok (.if_icmp .ne 38, 3) := by decide +kernel
theorem dX7_putNode_10 : decode cX7_putNode 10 = .ok (.iconst 0, 1) := by decide +kernel
theorem dX7_putNode_11 : decode cX7_putNode 11 = .ok (.istore_n 2, 1) := by decide +kernel
theorem dX7_putNode_12 : decode cX7_putNode 12 = .ok (.iload_n 2, 1) := by decide +kernel
theorem dX7_putNode_13 : decode cX7_putNode 13 = .ok (.aload_n 0, 1) := by decide +kernel
theorem dX7_putNode_14 : decode cX7_putNode 14 = .ok (.getfield 31, 3) := by decide +kernel
theorem dX7_putNode_17 : decode cX7_putNode 17 = .ok (.iload_n 1, 1) := by decide +kernel
theorem dX7_putNode_18 : decode cX7_putNode 18 = .ok (.iaload, 1) := by decide +kernel
theorem dX7_putNode_19 : decode cX7_putNode 19 = .ok (.if_icmp .ge 26, 3) := by decide +kernel
theorem dX7_putNode_22 : decode cX7_putNode 22 = .ok (.aload_n 0, 1) := by decide +kernel
theorem dX7_putNode_23 : decode cX7_putNode 23 = .ok (.aload_n 0, 1) := by decide +kernel
theorem dX7_putNode_24 : decode cX7_putNode 24 = .ok (.getfield 37, 3) := by decide +kernel
theorem dX7_putNode_27 : decode cX7_putNode 27 = .ok (.aload_n 0, 1) := by decide +kernel
theorem dX7_putNode_28 : decode cX7_putNode 28 = .ok (.getfield 34, 3) := by decide +kernel
theorem dX7_putNode_31 : decode cX7_putNode 31 = .ok (.iload_n 1, 1) := by decide +kernel
theorem dX7_putNode_32 : decode cX7_putNode 32 = .ok (.iaload, 1) := by decide +kernel
theorem dX7_putNode_33 : decode cX7_putNode 33 = .ok (.iload_n 2, 1) := by decide +kernel
theorem dX7_putNode_34 : decode cX7_putNode 34 = .ok (.iadd, 1) := by decide +kernel
theorem dX7_putNode_35 : decode cX7_putNode 35 = .ok (.iaload, 1) := by decide +kernel
theorem dX7_putNode_36 : decode cX7_putNode 36 = .ok (.invokevirtual 237, 3) := by decide +kernel
theorem dX7_putNode_39 : decode cX7_putNode 39 = .ok (.iinc 2 1, 3) := by decide +kernel
theorem dX7_putNode_42 : decode cX7_putNode 42 = .ok (.goto (-30), 3) := by decide +kernel
theorem dX7_putNode_45 : decode cX7_putNode 45 = .ok (.aload_n 0, 1) := by decide +kernel
theorem dX7_putNode_46 : decode cX7_putNode 46 = .ok (.getfield 13, 3) := by decide +kernel
theorem dX7_putNode_49 : decode cX7_putNode 49 = .ok (.iload_n 1, 1) := by decide +kernel
theorem dX7_putNode_50 : decode cX7_putNode 50 = .ok (.iaload, 1) := by decide +kernel
theorem dX7_putNode_51 : decode cX7_putNode 51 = .ok (.iconst 3, 1) := by decide +kernel
theorem dX7_putNode_52 : decode cX7_putNode 52 = .ok (.if_icmp .ne 13, 3) := by decide +kernel
theorem dX7_putNode_55 : decode cX7_putNode 55 = .ok (.aload_n 0, 1) := by decide +kernel
theorem dX7_putNode_56 : decode cX7_putNode 56 = .ok (.aload_n 0, 1) := by decide +kernel
theorem dX7_putNode_57 : decode cX7_putNode 57 = .ok (.getfield 31, 3) := by decide +kernel
theorem dX7_putNode_60 : decode cX7_putNode 60 = .ok (.iload_n 1, 1) := by decide +kernel
theorem dX7_putNode_61 : decode cX7_putNode 61 = .ok (.iaload, 1) := by decide +kernel
theorem dX7_putNode_62 : decode cX7_putNode 62 = .ok (.invokevirtual 234, 3) := by decide +kernel
theorem dX7_putNode_65 : decode cX7_putNode 65 = .ok (.aload_n 0, 1) := by decide +kernel
theorem dX7_putNode_66 : decode cX7_putNode 66 = .ok (.getfield 13, 3) := by decide +kernel
theorem dX7_putNode_69 : decode cX7_putNode 69 = .ok (.iload_n 1, 1) := by decide +kernel
theorem dX7_putNode_70 : decode cX7_putNode 70 = .ok (.iaload, 1) := by decide +kernel
theorem dX7_putNode_71 : decode cX7_putNode 71 = .ok (.iconst 1, 1) := by decide +kernel
theorem dX7_putNode_72 : decode cX7_putNode 72 = .ok (.if_icmp .ne 10, 3) := by decide +kernel
theorem dX7_putNode_75 : decode cX7_putNode 75 = .ok (.aload_n 0, 1) := by decide +kernel
theorem dX7_putNode_76 : decode cX7_putNode 76 = .ok (.iload_n 1, 1) := by decide +kernel
theorem dX7_putNode_77 : decode cX7_putNode 77 = .ok (.iconst 0, 1) := by decide +kernel
theorem dX7_putNode_78 : decode cX7_putNode 78 = .ok (.iconst (-1), 1) := by decide +kernel
theorem dX7_putNode_79 : decode cX7_putNode 79 = .ok (.invokevirtual 243, 3) := by decide +kernel
theorem dX7_putNode_82 : decode cX7_putNode 82 = .ok (.aload_n 0, 1) := by decide +kernel
theorem dX7_putNode_83 : decode cX7_putNode 83 = .ok (.getfield 13, 3) := by decide +kernel
theorem dX7_putNode_86 : decode cX7_putNode 86 = .ok (.iload_n 1, 1) := by decide +kernel
theorem dX7_putNode_87 : decode cX7_putNode 87 = .ok (.iaload, 1) := by decide +kernel
theorem dX7_putNode_88 : decode cX7_putNode 88 = .ok (.iconst 4, 1) := by decide +kernel
theorem dX7_putNode_89 : decode cX7_putNode 89 = .ok (.if_icmp .ne 22, 3) := by decide +kernel
theorem dX7_putNode_92 : decode cX7_putNode 92 = .ok (.aload_n 0, 1) := by decide +kernel
theorem dX7_putNode_93 : decode cX7_putNode 93 = .ok (.bipush 40, 2) := by decide +kernel
theorem dX7_putNode_95 : decode cX7_putNode 95 = .ok (.invokevirtual 237, 3) := by decide +kernel
theorem dX7_putNode_98 : decode cX7_putNode 98 = .ok (.aload_n 0, 1) := by decide +kernel
theorem dX7_putNode_99 : decode cX7_putNode 99 = .ok (.iload_n 1, 1) := by decide +kernel
theorem dX7_putNode_100 : decode cX7_putNode 100 = .ok (.iconst 0, 1) := by decide +kernel
theorem dX7_putNode_101 : decode cX7_putNode 101 = .ok (.iconst (-1), 1) := by decide +kernel
theorem dX7_putNode_102 : decode cX7_putNode 102 = .ok (.invokevirtual 243, 3) := by decide +kernel
theorem dX7_putNode_105 : decode cX7_putNode 105 = .ok (.aload_n 0, 1) := by decide +kernel
theorem dX7_putNode_106 : decode cX7_putNode 106 = .ok (.bipush 41, 2) := by decide +kernel
theorem dX7_putNode_108 : decode cX7_putNode 108 = .ok (.invokevirtual 237, 3) := by decide +kernel
theorem dX7_putNode_111 : decode cX7_putNode 111 = .ok (.aload_n 0, 1) := by decide +kernel
theorem dX7_putNode_112 : decode cX7_putNode 112 = .ok (.getfield 13, 3) := by decide +kernel
theorem dX7_putNode_115 : decode cX7_putNode 115 = .ok (.iload_n 1, 1) := by decide +kernel
theorem dX7_putNode_116 : decode cX7_putNode 116 = .ok (.iaload, 1) := by decide +kernel
theorem dX7_putNode_117 : decode cX7_putNode 117 = .ok (.ifCond .eq 4, 3) := by decide +kernel
theorem dX7_putNode_120 : decode cX7_putNode 120 = .ok (.return_, 1) := by decide +kernel
theorem dX7_putNode_121 : decode cX7_putNode 121 = .ok (.aload_n 0, 1) := by decide +kernel
theorem dX7_putNode_122 : decode cX7_putNode 122 = .ok (.bipush 58, 2) := by decide +kernel
theorem dX7_putNode_124 : decode cX7_putNode 124 = .ok (.invokevirtual 237, 3) := by decide +kernel
theorem dX7_putNode_127 : decode cX7_putNode 127 = .ok (.aload_n 0, 1) := by decide +kernel
theorem dX7_putNode_128 : decode cX7_putNode 128 = .ok (.bipush 32, 2) := by decide +kernel
theorem dX7_putNode_130 : decode cX7_putNode 130 = .ok (.invokevirtual 237, 3) := by decide +kernel
theorem dX7_putNode_133 : decode cX7_putNode 133 = .ok (.aload_n 0, 1) := by decide +kernel
theorem dX7_putNode_134 : decode cX7_putNode 134 = .ok (.bipush 123, 2) := by decide +kernel
theorem dX7_putNode_136 : decode cX7_putNode 136 = .ok (.invokevirtual 237, 3) := by decide +kernel
theorem dX7_putNode_139 : decode cX7_putNode 139 = .ok (.aload_n 0, 1) := by decide +kernel
theorem dX7_putNode_140 : decode cX7_putNode 140 = .ok (.getfield 19, 3) := by decide +kernel
theorem dX7_putNode_143 : decode cX7_putNode 143 = .ok (.iload_n 1, 1) := by decide +kernel
theorem dX7_putNode_144 : decode cX7_putNode 144 = .ok (.iaload, 1) := by decide +kernel
theorem dX7_putNode_145 : decode cX7_putNode 145 = .ok (.iconst (-1), 1) := by decide +kernel
theorem dX7_putNode_146 : decode cX7_putNode 146 = .ok (.if_icmp .eq 9, 3) := by decide +kernel
theorem dX7_putNode_149 : decode cX7_putNode 149 = .ok (.aload_n 0, 1) := by decide +kernel
theorem dX7_putNode_150 : decode cX7_putNode 150 = .ok (.bipush 32, 2) := by decide +kernel
theorem dX7_putNode_152 : decode cX7_putNode 152 = .ok (.invokevirtual 237, 3) := by decide +kernel
theorem dX7_putNode_155 : decode cX7_putNode 155 = .ok (.aload_n 0, 1) := by decide +kernel
theorem dX7_putNode_156 : decode cX7_putNode 156 = .ok (.iload_n 1, 1) := by decide +kernel
theorem dX7_putNode_157 : decode cX7_putNode 157 = .ok (.iconst 1, 1) := by decide +kernel
theorem dX7_putNode_158 : decode cX7_putNode 158 = .ok (.iconst (-1), 1) := by decide +kernel
theorem dX7_putNode_159 : decode cX7_putNode 159 = .ok (.invokevirtual 243, 3) := by decide +kernel
theorem dX7_putNode_162 : decode cX7_putNode 162 = .ok (.aload_n 0, 1) := by decide +kernel
theorem dX7_putNode_163 : decode cX7_putNode 163 = .ok (.bipush 32, 2) := by decide +kernel
theorem dX7_putNode_165 : decode cX7_putNode 165 = .ok (.invokevirtual 237, 3) := by decide +kernel
theorem dX7_putNode_168 : decode cX7_putNode 168 = .ok (.aload_n 0, 1) := by decide +kernel
theorem dX7_putNode_169 : decode cX7_putNode 169 = .ok (.bipush 125, 2) := by decide +kernel
theorem dX7_putNode_171 : decode cX7_putNode 171 = .ok (.invokevirtual 237, 3) := by decide +kernel
theorem dX7_putNode_174 : decode cX7_putNode 174 = .ok (.return_, 1) := by decide +kernel
theorem dX7_lastOf_0 : decode cX7_lastOf 0 = .ok (.aload_n 0, 1) := by decide +kernel
theorem dX7_lastOf_1 : decode cX7_lastOf 1 = .ok (.iload_n 1, 1) := by decide +kernel
theorem dX7_lastOf_2 : decode cX7_lastOf 2 = .ok (.aload_n 0, 1) := by decide +kernel
theorem dX7_lastOf_3 : decode cX7_lastOf 3 = .ok (.iload_n 1, 1) := by decide +kernel
theorem dX7_lastOf_4 : decode cX7_lastOf 4 = .ok (.invokevirtual 102, 3) := by decide +kernel
theorem dX7_lastOf_7 : decode cX7_lastOf 7 = .ok (.iconst 1, 1) := by decide +kernel
theorem dX7_lastOf_8 : decode cX7_lastOf 8 = .ok (.isub, 1) := by decide +kernel
theorem dX7_lastOf_9 : decode cX7_lastOf 9 = .ok (.invokevirtual 109, 3) := by decide +kernel
theorem dX7_lastOf_12 : decode cX7_lastOf 12 = .ok (.ireturn, 1) := by decide +kernel
theorem dX7_putLine_0 : decode cX7_putLine 0 = .ok (.iconst 0, 1) := by decide +kernel
theorem dX7_putLine_1 : decode cX7_putLine 1 = .ok (.istore 4, 2) := by decide +kernel
theorem dX7_putLine_3 : decode cX7_putLine 3 = .ok (.iload 4, 2) := by decide +kernel
theorem dX7_putLine_5 : decode cX7_putLine 5 = .ok (.iload_n 2, 1) := by decide +kernel
theorem dX7_putLine_6 : decode cX7_putLine 6 = .ok (.if_icmp .ge 15, 3) := by decide +kernel
theorem dX7_putLine_9 : decode cX7_putLine 9 = .ok (.aload_n 0, 1) := by decide +kernel
theorem dX7_putLine_10 : decode cX7_putLine 10 = .ok (.bipush 32, 2) := by decide +kernel
theorem dX7_putLine_12 : decode cX7_putLine 12 = .ok (.invokevirtual 237, 3) := by decide +kernel
theorem dX7_putLine_15 : decode cX7_putLine 15 = .ok (.iinc 4 1, 3) := by decide +kernel
theorem dX7_putLine_18 : decode cX7_putLine 18 = .ok (.goto (-15), 3) := by decide +kernel
theorem dX7_putLine_21 : decode cX7_putLine 21 = .ok (.aload_n 0, 1) := by decide +kernel
theorem dX7_putLine_22 : decode cX7_putLine 22 = .ok (.iload_n 1, 1) := by decide +kernel
theorem dX7_putLine_23 : decode cX7_putLine 23 = .ok (.invokevirtual 247, 3) := by decide +kernel
theorem dX7_putLine_26 : decode cX7_putLine 26 = .ok (.istore 4, 2) := by decide +kernel
theorem dX7_putLine_28 : decode cX7_putLine 28 = .ok (.iload_n 3, 1) := by decide +kernel
theorem dX7_putLine_29 : decode cX7_putLine 29 = .ok (.ifCond .eq 17, 3) := by decide +kernel
theorem dX7_putLine_32 : decode cX7_putLine 32 = .ok (.aload_n 0, 1) := by decide +kernel
theorem dX7_putLine_33 : decode cX7_putLine 33 = .ok (.getfield 13, 3) := by decide +kernel
theorem dX7_putLine_36 : decode cX7_putLine 36 = .ok (.iload 4, 2) := by decide +kernel
theorem dX7_putLine_38 : decode cX7_putLine 38 = .ok (.iaload, 1) := by decide +kernel
theorem dX7_putLine_39 : decode cX7_putLine 39 = .ok (.ifCond .ne 7, 3) := by decide +kernel
theorem dX7_putLine_42 : decode cX7_putLine 42 = .ok (.iconst 1, 1) := by decide +kernel
theorem dX7_putLine_43 : decode cX7_putLine 43 = .ok (.goto 4, 3) := by decide +kernel
theorem dX7_putLine_46 : decode cX7_putLine 46 = .ok (.iconst 0, 1) := by decide +kernel
theorem dX7_putLine_47 : decode cX7_putLine 47 = .ok (.istore 5, 2) := by decide +kernel
theorem dX7_putLine_49 : decode cX7_putLine 49 = .ok (.aload_n 0, 1) := by decide +kernel
theorem dX7_putLine_50 : decode cX7_putLine 50 = .ok (.iload_n 1, 1) := by decide +kernel
theorem dX7_putLine_51 : decode cX7_putLine 51 = .ok (.iconst 0, 1) := by decide +kernel
theorem dX7_putLine_52 : decode cX7_putLine 52 = .ok (.iload 5, 2) := by decide +kernel
theorem dX7_putLine_54 : decode cX7_putLine 54 = .ok (.ifCond .eq 8, 3) := by decide +kernel
theorem dX7_putLine_57 : decode cX7_putLine 57 = .ok (.iload 4, 2) := by decide +kernel
theorem dX7_putLine_59 : decode cX7_putLine 59 = .ok (.goto 4, 3) := by decide +kernel
theorem dX7_putLine_62 : decode cX7_putLine 62 = .ok (.iconst (-1), 1) := by decide +kernel
theorem dX7_putLine_63 : decode cX7_putLine 63 = .ok (.invokevirtual 243, 3) := by decide +kernel
theorem dX7_putLine_66 : decode cX7_putLine 66 = .ok (.iload 5, 2) := by decide +kernel
theorem dX7_putLine_68 : decode cX7_putLine 68 = .ok (.ifCond .eq 9, 3) := by decide +kernel
theorem dX7_putLine_71 : decode cX7_putLine 71 = .ok (.aload_n 0, 1) := by decide +kernel
theorem dX7_putLine_72 : decode cX7_putLine 72 = .ok (.bipush 58, 2) := by decide +kernel
theorem dX7_putLine_74 : decode cX7_putLine 74 = .ok (.invokevirtual 237, 3) := by decide +kernel
theorem dX7_putLine_77 : decode cX7_putLine 77 = .ok (.aload_n 0, 1) := by decide +kernel
theorem dX7_putLine_78 : decode cX7_putLine 78 = .ok (.bipush 10, 2) := by decide +kernel
theorem dX7_putLine_80 : decode cX7_putLine 80 = .ok (.invokevirtual 237, 3) := by decide +kernel
theorem dX7_putLine_83 : decode cX7_putLine 83 = .ok (.iload 5, 2) := by decide +kernel
theorem dX7_putLine_85 : decode cX7_putLine 85 = .ok (.ifCond .eq 40, 3) := by decide +kernel
theorem dX7_putLine_88 : decode cX7_putLine 88 = .ok (.aload_n 0, 1) := by decide +kernel
theorem dX7_putLine_89 : decode cX7_putLine 89 = .ok (.getfield 19, 3) := by decide +kernel
theorem dX7_putLine_92 : decode cX7_putLine 92 = .ok (.iload 4, 2) := by decide +kernel
theorem dX7_putLine_94 : decode cX7_putLine 94 = .ok (.iaload, 1) := by decide +kernel
theorem dX7_putLine_95 : decode cX7_putLine 95 = .ok (.istore 6, 2) := by decide +kernel
theorem dX7_putLine_97 : decode cX7_putLine 97 = .ok (.iload 6, 2) := by decide +kernel
theorem dX7_putLine_99 : decode cX7_putLine 99 = .ok (.iconst (-1), 1) := by decide +kernel
theorem dX7_putLine_100 : decode cX7_putLine 100 = .ok (.if_icmp .eq 25, 3) := by decide +kernel
theorem dX7_putLine_103 : decode cX7_putLine 103 = .ok (.aload_n 0, 1) := by decide +kernel
theorem dX7_putLine_104 : decode cX7_putLine 104 = .ok (.iload 6, 2) := by decide +kernel
theorem dX7_putLine_106 : decode cX7_putLine 106 = .ok (.iload_n 2, 1) := by decide +kernel
theorem dX7_putLine_107 : decode cX7_putLine 107 = .ok (.iconst 2, 1) := by decide +kernel
theorem dX7_putLine_108 : decode cX7_putLine 108 = .ok (.iadd, 1) := by decide +kernel
theorem dX7_putLine_109 : decode cX7_putLine 109 = .ok (.iconst 1, 1) := by decide +kernel
theorem dX7_putLine_110 : decode cX7_putLine 110 = .ok (.invokevirtual 250, 3) := by decide +kernel
theorem dX7_putLine_113 : decode cX7_putLine 113 = .ok (.aload_n 0, 1) := by decide +kernel
theorem dX7_putLine_114 : decode cX7_putLine 114 = .ok (.getfield 22, 3) := by decide +kernel
theorem dX7_putLine_117 : decode cX7_putLine 117 = .ok (.iload 6, 2) := by decide +kernel
theorem dX7_putLine_119 : decode cX7_putLine 119 = .ok (.iaload, 1) := by decide +kernel
theorem dX7_putLine_120 : decode cX7_putLine 120 = .ok (.istore 6, 2) := by decide +kernel
theorem dX7_putLine_122 : decode cX7_putLine 122 = .ok (.goto (-25), 3) := by decide +kernel
theorem dX7_putLine_125 : decode cX7_putLine 125 = .ok (.return_, 1) := by decide +kernel
theorem dX7_write_0 : decode cX7_write 0 = .ok (.aload_n 0, 1) := by decide +kernel
theorem dX7_write_1 : decode cX7_write 1 = .ok (.iconst 0, 1) := by decide +kernel
theorem dX7_write_2 : decode cX7_write 2 = .ok (.putfield 71, 3) := by decide +kernel
theorem dX7_write_5 : decode cX7_write 5 = .ok (.aload_n 0, 1) := by decide +kernel
theorem dX7_write_6 : decode cX7_write 6 = .ok (.iconst 0, 1) := by decide +kernel
theorem dX7_write_7 : decode cX7_write 7 = .ok (.putfield 231, 3) := by decide +kernel
theorem dX7_write_10 : decode cX7_write 10 = .ok (.aload_n 0, 1) := by decide +kernel
theorem dX7_write_11 : decode cX7_write 11 = .ok (.getfield 19, 3) := by decide +kernel
theorem dX7_write_14 : decode cX7_write 14 = .ok (.iconst 0, 1) := by decide +kernel
theorem dX7_write_15 : decode cX7_write 15 = .ok (.iaload, 1) := by decide +kernel
theorem dX7_write_16 : decode cX7_write 16 = .ok (.istore_n 2, 1) := by decide +kernel
theorem dX7_write_17 : decode cX7_write 17 = .ok (.iload_n 2, 1) := by decide +kernel
theorem dX7_write_18 : decode cX7_write 18 = .ok (.iconst (-1), 1) := by decide +kernel
theorem dX7_write_19 : decode cX7_write 19 = .ok (.if_icmp .eq 20, 3) := by decide +kernel
theorem dX7_write_22 : decode cX7_write 22 = .ok (.aload_n 0, 1) := by decide +kernel
theorem dX7_write_23 : decode cX7_write 23 = .ok (.iload_n 2, 1) := by decide +kernel
theorem dX7_write_24 : decode cX7_write 24 = .ok (.iconst 0, 1) := by decide +kernel
theorem dX7_write_25 : decode cX7_write 25 = .ok (.iload_n 1, 1) := by decide +kernel
theorem dX7_write_26 : decode cX7_write 26 = .ok (.invokevirtual 250, 3) := by decide +kernel
theorem dX7_write_29 : decode cX7_write 29 = .ok (.aload_n 0, 1) := by decide +kernel
theorem dX7_write_30 : decode cX7_write 30 = .ok (.getfield 22, 3) := by decide +kernel
theorem dX7_write_33 : decode cX7_write 33 = .ok (.iload_n 2, 1) := by decide +kernel
theorem dX7_write_34 : decode cX7_write 34 = .ok (.iaload, 1) := by decide +kernel
theorem dX7_write_35 : decode cX7_write 35 = .ok (.istore_n 2, 1) := by decide +kernel
theorem dX7_write_36 : decode cX7_write 36 = .ok (.goto (-19), 3) := by decide +kernel
theorem dX7_write_39 : decode cX7_write 39 = .ok (.aload_n 0, 1) := by decide +kernel
theorem dX7_write_40 : decode cX7_write 40 = .ok (.getfield 231, 3) := by decide +kernel
theorem dX7_write_43 : decode cX7_write 43 = .ok (.ireturn, 1) := by decide +kernel
theorem dX7_written_0 : decode cX7_written 0 = .ok (.aload_n 0, 1) := by decide +kernel
theorem dX7_written_1 : decode cX7_written 1 = .ok (.iconst 0, 1) := by decide +kernel
theorem dX7_written_2 : decode cX7_written 2 = .ok (.putfield 71, 3) := by decide +kernel
theorem dX7_written_5 : decode cX7_written 5 = .ok (.iload_n 1, 1) := by decide +kernel
theorem dX7_written_6 : decode cX7_written 6 = .ok (.ifCond .lt 20, 3) := by decide +kernel
theorem dX7_written_9 : decode cX7_written 9 = .ok (.iload_n 1, 1) := by decide +kernel
theorem dX7_written_10 : decode cX7_written 10 = .ok (.aload_n 0, 1) := by decide +kernel
theorem dX7_written_11 : decode cX7_written 11 = .ok (.getfield 231, 3) := by decide +kernel
theorem dX7_written_14 : decode cX7_written 14 = .ok (.if_icmp .ge 12, 3) := by decide +kernel
theorem dX7_written_17 : decode cX7_written 17 = .ok (.aload_n 0, 1) := by decide +kernel
theorem dX7_written_18 : decode cX7_written 18 = .ok (.getfield 50, 3) := by decide +kernel
theorem dX7_written_21 : decode cX7_written 21 = .ok (.iload_n 1, 1) := by decide +kernel
theorem dX7_written_22 : decode cX7_written 22 = .ok (.iaload, 1) := by decide +kernel
theorem dX7_written_23 : decode cX7_written 23 = .ok (.goto 8, 3) := by decide +kernel
theorem dX7_written_26 : decode cX7_written 26 = .ok (.aload_n 0, 1) := by decide +kernel
theorem dX7_written_27 : decode cX7_written 27 = .ok (.iconst 1, 1) := by decide +kernel
theorem dX7_written_28 : decode cX7_written 28 = .ok (.invokevirtual 85, 3) := by decide +kernel
theorem dX7_written_31 : decode cX7_written 31 = .ok (.ireturn, 1) := by decide +kernel
theorem dX7_digest_0 : decode cX7_digest 0 = .ok (.aload_n 0, 1) := by decide +kernel
theorem dX7_digest_1 : decode cX7_digest 1 = .ok (.iconst 0, 1) := by decide +kernel
theorem dX7_digest_2 : decode cX7_digest 2 = .ok (.putfield 71, 3) := by decide +kernel
theorem dX7_digest_5 : decode cX7_digest 5 = .ok (.ldc2_w 254, 3) := by decide +kernel
theorem dX7_digest_8 : decode cX7_digest 8 = .ok (.aload_n 0, 1) := by decide +kernel
theorem dX7_digest_9 : decode cX7_digest 9 = .ok (.getfield 89, 3) := by decide +kernel
theorem dX7_digest_12 : decode cX7_digest 12 = .ok (.i2l, 1) := by decide +kernel
theorem dX7_digest_13 : decode cX7_digest 13 = .ok (.ladd, 1) := by decide +kernel
theorem dX7_digest_14 : decode cX7_digest 14 = .ok (.ldc2_w 256, 3) := by decide +kernel
theorem dX7_digest_17 : decode cX7_digest 17 = .ok (.lmul, 1) := by decide +kernel
theorem dX7_digest_18 : decode cX7_digest 18 = .ok (.aload_n 0, 1) := by decide +kernel
theorem dX7_digest_19 : decode cX7_digest 19 = .ok (.getfield 113, 3) := by decide +kernel
theorem dX7_digest_22 : decode cX7_digest 22 = .ok (.i2l, 1) := by decide +kernel
theorem dX7_digest_23 : decode cX7_digest 23 = .ok (.ladd, 1) := by decide +kernel
theorem dX7_digest_24 : decode cX7_digest 24 = .ok (.lstore_n 1, 1) := by decide +kernel
theorem dX7_digest_25 : decode cX7_digest 25 = .ok (.iconst 0, 1) := by decide +kernel
theorem dX7_digest_26 : decode cX7_digest 26 = .ok (.istore_n 3, 1) := by decide +kernel
theorem dX7_digest_27 : decode cX7_digest 27 = .ok (.iload_n 3, 1) := by decide +kernel
theorem dX7_digest_28 : decode cX7_digest 28 = .ok (.aload_n 0, 1) := by decide +kernel
theorem dX7_digest_29 : decode cX7_digest 29 = .ok (.getfield 113, 3) := by decide +kernel
theorem dX7_digest_32 : decode cX7_digest 32 = .ok (.if_icmp .ge 112, 3) := by decide +kernel
theorem dX7_digest_35 : decode cX7_digest 35 = .ok (.aload_n 0, 1) := by decide +kernel
theorem dX7_digest_36 : decode cX7_digest 36 = .ok (.getfield 40, 3) := by decide +kernel
theorem dX7_digest_39 : decode cX7_digest 39 = .ok (.iload_n 3, 1) := by decide +kernel
theorem dX7_digest_40 : decode cX7_digest 40 = .ok (.iaload, 1) := by decide +kernel
theorem dX7_digest_41 : decode cX7_digest 41 = .ok (.istore 4, 2) := by decide +kernel
theorem dX7_digest_43 : decode cX7_digest 43 = .ok (.lload_n 1, 1) := by decide +kernel
theorem dX7_digest_44 : decode cX7_digest 44 = .ok (.ldc2_w 256, 3) := by decide +kernel
theorem dX7_digest_47 : decode cX7_digest 47 = .ok (.lmul, 1) := by decide +kernel
theorem dX7_digest_48 : decode cX7_digest 48 = .ok (.aload_n 0, 1) := by decide +kernel
theorem dX7_digest_49 : decode cX7_digest 49 = .ok (.getfield 13, 3) := by decide +kernel
theorem dX7_digest_52 : decode cX7_digest 52 = .ok (.iload 4, 2) := by decide +kernel
theorem dX7_digest_54 : decode cX7_digest 54 = .ok (.iaload, 1) := by decide +kernel
theorem dX7_digest_55 : decode cX7_digest 55 = .ok (.i2l, 1) := by decide +kernel
theorem dX7_digest_56 : decode cX7_digest 56 = .ok (.ladd, 1) := by decide +kernel
theorem dX7_digest_57 : decode cX7_digest 57 = .ok (.ldc2_w 256, 3) := by decide +kernel
theorem dX7_digest_60 : decode cX7_digest 60 = .ok (.lmul, 1) := by decide +kernel
theorem dX7_digest_61 : decode cX7_digest 61 = .ok (.aload_n 0, 1) := by decide +kernel
theorem dX7_digest_62 : decode cX7_digest 62 = .ok (.iload 4, 2) := by decide +kernel
theorem dX7_digest_64 : decode cX7_digest 64 = .ok (.invokevirtual 102, 3) := by decide +kernel
theorem dX7_digest_67 : decode cX7_digest 67 = .ok (.i2l, 1) := by decide +kernel
theorem dX7_digest_68 : decode cX7_digest 68 = .ok (.ladd, 1) := by decide +kernel
theorem dX7_digest_69 : decode cX7_digest 69 = .ok (.ldc2_w 256, 3) := by decide +kernel
theorem dX7_digest_72 : decode cX7_digest 72 = .ok (.lmul, 1) := by decide +kernel
theorem dX7_digest_73 : decode cX7_digest 73 = .ok (.aload_n 0, 1) := by decide +kernel
theorem dX7_digest_74 : decode cX7_digest 74 = .ok (.getfield 31, 3) := by decide +kernel
theorem dX7_digest_77 : decode cX7_digest 77 = .ok (.iload 4, 2) := by decide +kernel
theorem dX7_digest_79 : decode cX7_digest 79 = .ok (.iaload, 1) := by decide +kernel
theorem dX7_digest_80 : decode cX7_digest 80 = .ok (.i2l, 1) := by decide +kernel
theorem dX7_digest_81 : decode cX7_digest 81 = .ok (.ladd, 1) := by decide +kernel
theorem dX7_digest_82 : decode cX7_digest 82 = .ok (.lstore_n 1, 1) := by decide +kernel
theorem dX7_digest_83 : decode cX7_digest 83 = .ok (.iconst 0, 1) := by decide +kernel
theorem dX7_digest_84 : decode cX7_digest 84 = .ok (.istore 5, 2) := by decide +kernel
theorem dX7_digest_86 : decode cX7_digest 86 = .ok (.iload 5, 2) := by decide +kernel
theorem dX7_digest_88 : decode cX7_digest 88 = .ok (.aload_n 0, 1) := by decide +kernel
theorem dX7_digest_89 : decode cX7_digest 89 = .ok (.getfield 31, 3) := by decide +kernel
theorem dX7_digest_92 : decode cX7_digest 92 = .ok (.iload 4, 2) := by decide +kernel
theorem dX7_digest_94 : decode cX7_digest 94 = .ok (.iaload, 1) := by decide +kernel
theorem dX7_digest_95 : decode cX7_digest 95 = .ok (.if_icmp .ge 43, 3) := by decide +kernel
theorem dX7_digest_98 : decode cX7_digest 98 = .ok (.aload_n 0, 1) := by decide +kernel
theorem dX7_digest_99 : decode cX7_digest 99 = .ok (.getfield 13, 3) := by decide +kernel
theorem dX7_digest_102 : decode cX7_digest 102 = .ok (.iload 4, 2) := by decide +kernel
theorem dX7_digest_104 : decode cX7_digest 104 = .ok (.iaload, 1) := by decide +kernel
theorem dX7_digest_105 : decode cX7_digest 105 = .ok (.iconst 2, 1) := by decide +kernel
theorem dX7_digest_106 : decode cX7_digest 106 = .ok (.if_icmp .ne 32, 3) := by decide +kernel
theorem dX7_digest_109 : decode cX7_digest 109 = .ok (.lload_n 1, 1) := by decide +kernel
theorem dX7_digest_110 : decode cX7_digest 110 = .ok (.ldc2_w 256, 3) := by decide +kernel
theorem dX7_digest_113 : decode cX7_digest 113 = .ok (.lmul, 1) := by decide +kernel
theorem dX7_digest_114 : decode cX7_digest 114 = .ok (.aload_n 0, 1) := by decide +kernel
theorem dX7_digest_115 : decode cX7_digest 115 = .ok (.getfield 37, 3) := by decide +kernel
theorem dX7_digest_118 : decode cX7_digest 118 = .ok (.aload_n 0, 1) := by decide +kernel
theorem dX7_digest_119 : decode cX7_digest 119 = .ok (.getfield 34, 3) := by decide +kernel
theorem dX7_digest_122 : decode cX7_digest 122 = .ok (.iload 4, 2) := by decide +kernel
theorem dX7_digest_124 : decode cX7_digest 124 = .ok (.iaload, 1) := by decide +kernel
theorem dX7_digest_125 : decode cX7_digest 125 = .ok (.iload 5, 2) := by decide +kernel
theorem dX7_digest_127 : decode cX7_digest 127 = .ok (.iadd, 1) := by decide +kernel
theorem dX7_digest_128 : decode cX7_digest 128 = .ok (.iaload, 1) := by decide +kernel
theorem dX7_digest_129 : decode cX7_digest 129 = .ok (.i2l, 1) := by decide +kernel
theorem dX7_digest_130 : decode cX7_digest 130 = .ok (.ladd, 1) := by decide +kernel
theorem dX7_digest_131 : decode cX7_digest 131 = .ok (.lstore_n 1, 1) := by decide +kernel
theorem dX7_digest_132 : decode cX7_digest 132 = .ok (.iinc 5 1, 3) := by decide +kernel
theorem dX7_digest_135 : decode cX7_digest 135 = .ok (.goto (-49), 3) := by decide +kernel
theorem dX7_digest_138 : decode cX7_digest 138 = .ok (.iinc 3 1, 3) := by decide +kernel
theorem dX7_digest_141 : decode cX7_digest 141 = .ok (.goto (-114), 3) := by decide +kernel
theorem dX7_digest_144 : decode cX7_digest 144 = .ok (.lload_n 1, 1) := by decide +kernel
theorem dX7_digest_145 : decode cX7_digest 145 = .ok (.ldc2_w 256, 3) := by decide +kernel
theorem dX7_digest_148 : decode cX7_digest 148 = .ok (.lmul, 1) := by decide +kernel
theorem dX7_digest_149 : decode cX7_digest 149 = .ok (.aload_n 0, 1) := by decide +kernel
theorem dX7_digest_150 : decode cX7_digest 150 = .ok (.getfield 95, 3) := by decide +kernel
theorem dX7_digest_153 : decode cX7_digest 153 = .ok (.i2l, 1) := by decide +kernel
theorem dX7_digest_154 : decode cX7_digest 154 = .ok (.ladd, 1) := by decide +kernel
theorem dX7_digest_155 : decode cX7_digest 155 = .ok (.ldc2_w 256, 3) := by decide +kernel
theorem dX7_digest_158 : decode cX7_digest 158 = .ok (.lmul, 1) := by decide +kernel
theorem dX7_digest_159 : decode cX7_digest 159 = .ok (.aload_n 0, 1) := by decide +kernel
theorem dX7_digest_160 : decode cX7_digest 160 = .ok (.invokevirtual 211, 3) := by decide +kernel
theorem dX7_digest_163 : decode cX7_digest 163 = .ok (.i2l, 1) := by decide +kernel
theorem dX7_digest_164 : decode cX7_digest 164 = .ok (.ladd, 1) := by decide +kernel
theorem dX7_digest_165 : decode cX7_digest 165 = .ok (.lreturn, 1) := by decide +kernel
