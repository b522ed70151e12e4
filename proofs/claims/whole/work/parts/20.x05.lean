theorem dX11_bears_0 : decode cX11_bears 0 = .ok (.aload_n 0, 1) := by decide +kernel
theorem dX11_bears_1 : decode cX11_bears 1 = .ok (.iload_n 1, 1) := by decide +kernel
theorem dX11_bears_2 : decode cX11_bears 2 = .ok (.iload_n 2, 1) := by decide +kernel
theorem dX11_bears_3 : decode cX11_bears 3 = .ok (.invokevirtual 235, 3) := by decide +kernel
theorem dX11_bears_6 : decode cX11_bears 6 = .ok (.ifCond .ne 5, 3) := by decide +kernel
theorem dX11_bears_9 : decode cX11_bears 9 = .ok (.iconst (-1), 1) := by decide +kernel
theorem dX11_bears_10 : decode cX11_bears 10 = .ok (.ireturn, 1) := by decide +kernel
theorem dX11_bears_11 : decode cX11_bears 11 = .ok (.aload_n 0, 1) := by decide +kernel
theorem dX11_bears_12 : decode cX11_bears 12 = .ok (.getfield 10, 3) := by decide +kernel
theorem dX11_bears_15 : decode cX11_bears 15 = .ok (.getfield 220, 3) := by decide +kernel
theorem dX11_bears_18 : decode cX11_bears 18 = .ok (.iload_n 1, 1) := by decide +kernel
theorem dX11_bears_19 : decode cX11_bears 19 = .ok (.aaload, 1) := by decide +kernel
theorem dX11_bears_20 : decode cX11_bears 20 = .ok (.astore_n 3, 1) := by decide +kernel
theorem dX11_bears_21 : decode cX11_bears 21 = .ok (.aload_n 3, 1) := by decide +kernel
theorem dX11_bears_22 : decode cX11_bears 22 = .ok (.getfield 248, 3) := by decide +kernel
theorem dX11_bears_25 : decode cX11_bears 25 = .ok (.iload_n 2, 1) := by decide +kernel
theorem dX11_bears_26 : decode cX11_bears 26 = .ok (.iaload, 1) := by decide +kernel
theorem dX11_bears_27 : decode cX11_bears 27 = .ok (.bipush (-9), 2) := by decide +kernel
theorem dX11_bears_29 : decode cX11_bears 29 = .ok (.if_icmp .ne 6, 3) := by decide +kernel
theorem dX11_bears_32 : decode cX11_bears 32 = .ok (.bipush (-4), 2) := by decide +kernel
theorem dX11_bears_34 : decode cX11_bears 34 = .ok (.ireturn, 1) := by decide +kernel
theorem dX11_bears_35 : decode cX11_bears 35 = .ok (.aload_n 3, 1) := by decide +kernel
theorem dX11_bears_36 : decode cX11_bears 36 = .ok (.iload_n 2, 1) := by decide +kernel
theorem dX11_bears_37 : decode cX11_bears 37 = .ok (.aload_n 0, 1) := by decide +kernel
theorem dX11_bears_38 : decode cX11_bears 38 = .ok (.getfield 10, 3) := by decide +kernel
theorem dX11_bears_41 : decode cX11_bears 41 = .ok (.aload_n 3, 1) := by decide +kernel
theorem dX11_bears_42 : decode cX11_bears 42 = .ok (.iload_n 2, 1) := by decide +kernel
theorem dX11_bears_43 : decode cX11_bears 43 = .ok (.invokevirtual 264, 3) := by decide +kernel
theorem dX11_bears_46 : decode cX11_bears 46 = .ok (.invokevirtual 268, 3) := by decide +kernel
theorem dX11_bears_49 : decode cX11_bears 49 = .ok (.istore 4, 2) := by decide +kernel
theorem dX11_bears_51 : decode cX11_bears 51 = .ok (.iload 4, 2) := by decide +kernel
theorem dX11_bears_53 : decode cX11_bears 53 = .ok (.ifCond .ge 8, 3) := by decide +kernel
theorem dX11_bears_56 : decode cX11_bears 56 = .ok (.bipush (-3), 2) := by decide +kernel
theorem dX11_bears_58 : decode cX11_bears 58 = .ok (.goto 5, 3) := by decide +kernel
theorem dX11_bears_61 : decode cX11_bears 61 = .ok (.iload 4, 2) := by decide +kernel
theorem dX11_bears_63 : decode cX11_bears 63 = .ok (.ireturn, 1) := by decide +kernel
theorem dX11_begin_0 : decode cX11_begin 0 = .ok (.aload_n 0, 1) := by decide +kernel
theorem dX11_begin_1 : decode cX11_begin 1 = .ok (.getfield 10, 3) := by decide +kernel
theorem dX11_begin_4 : decode cX11_begin 4 = .ok (.invokevirtual 68, 3) := by decide +kernel
theorem dX11_begin_7 : decode cX11_begin 7 = .ok (.aload_n 0, 1) := by decide +kernel
theorem dX11_begin_8 : decode cX11_begin 8 = .ok (.getfield 26, 3) := by decide +kernel
theorem dX11_begin_11 : decode cX11_begin 11 = .ok (.iconst 0, 1) := by decide +kernel
theorem dX11_begin_12 : decode cX11_begin 12 = .ok (.putfield 71, 3) := by decide +kernel
theorem dX11_begin_15 : decode cX11_begin 15 = .ok (.aload_n 0, 1) := by decide +kernel
theorem dX11_begin_16 : decode cX11_begin 16 = .ok (.getfield 33, 3) := by decide +kernel
theorem dX11_begin_19 : decode cX11_begin 19 = .ok (.iconst 0, 1) := by decide +kernel
theorem dX11_begin_20 : decode cX11_begin 20 = .ok (.putfield 74, 3) := by decide +kernel
theorem dX11_begin_23 : decode cX11_begin 23 = .ok (.aload_n 0, 1) := by decide +kernel
theorem dX11_begin_24 : decode cX11_begin 24 = .ok (.getfield 40, 3) := by decide +kernel
theorem dX11_begin_27 : decode cX11_begin 27 = .ok (.iconst 0, 1) := by decide +kernel
theorem dX11_begin_28 : decode cX11_begin 28 = .ok (.putfield 75, 3) := by decide +kernel
theorem dX11_begin_31 : decode cX11_begin 31 = .ok (.aload_n 0, 1) := by decide +kernel
theorem dX11_begin_32 : decode cX11_begin 32 = .ok (.iconst 0, 1) := by decide +kernel
theorem dX11_begin_33 : decode cX11_begin 33 = .ok (.putfield 54, 3) := by decide +kernel
theorem dX11_begin_36 : decode cX11_begin 36 = .ok (.iconst 0, 1) := by decide +kernel
theorem dX11_begin_37 : decode cX11_begin 37 = .ok (.ireturn, 1) := by decide +kernel
theorem dX11_findBest_0 : decode cX11_findBest 0 = .ok (.iconst 0, 1) := by decide +kernel
theorem dX11_findBest_1 : decode cX11_findBest 1 = .ok (.istore_n 2, 1) := by decide +kernel
theorem dX11_findBest_2 : decode cX11_findBest 2 = .ok (.iload_n 2, 1) := by decide +kernel
theorem dX11_findBest_3 : decode cX11_findBest 3 = .ok (.aload_n 0, 1) := by decide +kernel
theorem dX11_findBest_4 : decode cX11_findBest 4 = .ok (.getfield 10, 3) := by decide +kernel
theorem dX11_findBest_7 : decode cX11_findBest 7 = .ok (.getfield 217, 3) := by decide +kernel
theorem dX11_findBest_10 : decode cX11_findBest 10 = .ok (.if_icmp .ge 31, 3) := by decide +kernel
theorem dX11_findBest_13 : decode cX11_findBest 13 = .ok (.aload_n 0, 1) := by decide +kernel
theorem dX11_findBest_14 : decode cX11_findBest 14 = .ok (.getfield 50, 3) := by decide +kernel
theorem dX11_findBest_17 : decode cX11_findBest 17 = .ok (.iload_n 2, 1) := by decide +kernel
theorem dX11_findBest_18 : decode cX11_findBest 18 = .ok (.aload_n 0, 1) := by decide +kernel
theorem dX11_findBest_19 : decode cX11_findBest 19 = .ok (.getfield 10, 3) := by decide +kernel
theorem dX11_findBest_22 : decode cX11_findBest 22 = .ok (.aload_n 0, 1) := by decide +kernel
theorem dX11_findBest_23 : decode cX11_findBest 23 = .ok (.getfield 10, 3) := by decide +kernel
theorem dX11_findBest_26 : decode cX11_findBest 26 = .ok (.getfield 220, 3) := by decide +kernel
theorem dX11_findBest_29 : decode cX11_findBest 29 = .ok (.iload_n 2, 1) := by decide +kernel
theorem dX11_findBest_30 : decode cX11_findBest 30 = .ok (.aaload, 1) := by decide +kernel
theorem dX11_findBest_31 : decode cX11_findBest 31 = .ok (.invokevirtual 384, 3) := by decide +kernel
theorem dX11_findBest_34 : decode cX11_findBest 34 = .ok (.iastore, 1) := by decide +kernel
theorem dX11_findBest_35 : decode cX11_findBest 35 = .ok (.iinc 2 1, 3) := by decide +kernel
theorem dX11_findBest_38 : decode cX11_findBest 38 = .ok (.goto (-36), 3) := by decide +kernel
theorem dX11_findBest_41 : decode cX11_findBest 41 = .ok (.aload_n 0, 1) := by decide +kernel
theorem dX11_findBest_42 : decode cX11_findBest 42 = .ok (.iconst 0, 1) := by decide +kernel
theorem dX11_findBest_43 : decode cX11_findBest 43 = .ok (.putfield 58, 3) := by decide +kernel
theorem dX11_findBest_46 : decode cX11_findBest 46 = .ok (.aload_n 0, 1) := by decide +kernel
theorem dX11_findBest_47 : decode cX11_findBest 47 = .ok (.iconst 0, 1) := by decide +kernel
theorem dX11_findBest_48 : decode cX11_findBest 48 = .ok (.putfield 64, 3) := by decide +kernel
theorem dX11_findBest_51 : decode cX11_findBest 51 = .ok (.aload_n 0, 1) := by decide +kernel
theorem dX11_findBest_52 : decode cX11_findBest 52 = .ok (.aload_n 0, 1) := by decide +kernel
theorem dX11_findBest_53 : decode cX11_findBest 53 = .ok (.getfield 19, 3) := by decide +kernel
theorem dX11_findBest_56 : decode cX11_findBest 56 = .ok (.aload_n 0, 1) := by decide +kernel
theorem dX11_findBest_57 : decode cX11_findBest 57 = .ok (.getfield 10, 3) := by decide +kernel
theorem dX11_findBest_60 : decode cX11_findBest 60 = .ok (.iconst 0, 1) := by decide +kernel
theorem dX11_findBest_61 : decode cX11_findBest 61 = .ok (.invokevirtual 388, 3) := by decide +kernel
theorem dX11_findBest_64 : decode cX11_findBest 64 = .ok (.putfield 61, 3) := by decide +kernel
theorem dX11_findBest_67 : decode cX11_findBest 67 = .ok (.iconst 1, 1) := by decide +kernel
theorem dX11_findBest_68 : decode cX11_findBest 68 = .ok (.istore_n 2, 1) := by decide +kernel
theorem dX11_findBest_69 : decode cX11_findBest 69 = .ok (.iload_n 2, 1) := by decide +kernel
theorem dX11_findBest_70 : decode cX11_findBest 70 = .ok (.iconst 1, 1) := by decide +kernel
theorem dX11_findBest_71 : decode cX11_findBest 71 = .ok (.aload_n 0, 1) := by decide +kernel
theorem dX11_findBest_72 : decode cX11_findBest 72 = .ok (.getfield 10, 3) := by decide +kernel
theorem dX11_findBest_75 : decode cX11_findBest 75 = .ok (.getfield 217, 3) := by decide +kernel
theorem dX11_findBest_78 : decode cX11_findBest 78 = .ok (.ishl, 1) := by decide +kernel
theorem dX11_findBest_79 : decode cX11_findBest 79 = .ok (.if_icmp .ge 116, 3) := by decide +kernel
theorem dX11_findBest_82 : decode cX11_findBest 82 = .ok (.iconst 0, 1) := by decide +kernel
theorem dX11_findBest_83 : decode cX11_findBest 83 = .ok (.istore_n 3, 1) := by decide +kernel
theorem dX11_findBest_84 : decode cX11_findBest 84 = .ok (.iconst 0, 1) := by decide +kernel
theorem dX11_findBest_85 : decode cX11_findBest 85 = .ok (.istore 4, 2) := by decide +kernel
theorem dX11_findBest_87 : decode cX11_findBest 87 = .ok (.iload 4, 2) := by decide +kernel
theorem dX11_findBest_89 : decode cX11_findBest 89 = .ok (.aload_n 0, 1) := by decide +kernel
theorem dX11_findBest_90 : decode cX11_findBest 90 = .ok (.getfield 10, 3) := by decide +kernel
theorem dX11_findBest_93 : decode cX11_findBest 93 = .ok (.getfield 217, 3) := by decide +kernel
theorem dX11_findBest_96 : decode cX11_findBest 96 = .ok (.if_icmp .ge 29, 3) := by decide +kernel
theorem dX11_findBest_99 : decode cX11_findBest 99 = .ok (.iload_n 2, 1) := by decide +kernel
theorem dX11_findBest_100 : decode cX11_findBest 100 = .ok (.iload 4, 2) := by decide +kernel
theorem dX11_findBest_102 : decode cX11_findBest 102 = .ok (.ishr, 1) := by decide +kernel
theorem dX11_findBest_103 : decode cX11_findBest 103 = .ok (.iconst 1, 1) := by decide +kernel
theorem dX11_findBest_104 : decode cX11_findBest 104 = .ok (.iand, 1) := by decide +kernel
theorem dX11_findBest_105 : decode cX11_findBest 105 = .ok (.iconst 1, 1) := by decide +kernel
theorem dX11_findBest_106 : decode cX11_findBest 106 = .ok (.if_icmp .ne 13, 3) := by decide +kernel
theorem dX11_findBest_109 : decode cX11_findBest 109 = .ok (.iload_n 3, 1) := by decide +kernel
theorem dX11_findBest_110 : decode cX11_findBest 110 = .ok (.aload_n 0, 1) := by decide +kernel
theorem dX11_findBest_111 : decode cX11_findBest 111 = .ok (.getfield 50, 3) := by decide +kernel
theorem dX11_findBest_114 : decode cX11_findBest 114 = .ok (.iload 4, 2) := by decide +kernel
theorem dX11_findBest_116 : decode cX11_findBest 116 = .ok (.iaload, 1) := by decide +kernel
theorem dX11_findBest_117 : decode cX11_findBest 117 = .ok (.iadd, 1) := by decide +kernel
theorem dX11_findBest_118 : decode cX11_findBest 118 = .ok (.istore_n 3, 1) := by decide +kernel
theorem dX11_findBest_119 : decode cX11_findBest 119 = .ok (.iinc 4 1, 3) := by decide +kernel
theorem dX11_findBest_122 : decode cX11_findBest 122 = .ok (.goto (-35), 3) := by decide +kernel
theorem dX11_findBest_125 : decode cX11_findBest 125 = .ok (.iload_n 3, 1) := by decide +kernel
theorem dX11_findBest_126 : decode cX11_findBest 126 = .ok (.iload_n 1, 1) := by decide +kernel
theorem dX11_findBest_127 : decode cX11_findBest 127 = .ok (.if_icmp .le 6, 3) := by decide +kernel
theorem dX11_findBest_130 : decode cX11_findBest 130 = .ok (.goto 59, 3) := by decide +kernel
theorem dX11_findBest_133 : decode cX11_findBest 133 = .ok (.aload_n 0, 1) := by decide +kernel
theorem dX11_findBest_134 : decode cX11_findBest 134 = .ok (.getfield 19, 3) := by decide +kernel
theorem dX11_findBest_137 : decode cX11_findBest 137 = .ok (.aload_n 0, 1) := by decide +kernel
theorem dX11_findBest_138 : decode cX11_findBest 138 = .ok (.getfield 10, 3) := by decide +kernel
theorem dX11_findBest_141 : decode cX11_findBest 141 = .ok (.iload_n 2, 1) := by decide +kernel
theorem dX11_findBest_142 : decode cX11_findBest 142 = .ok (.invokevirtual 388, 3) := by decide +kernel
theorem dX11_findBest_145 : decode cX11_findBest 145 = .ok (.istore 4, 2) := by decide +kernel
theorem dX11_findBest_147 : decode cX11_findBest 147 = .ok (.iload 4, 2) := by decide +kernel
theorem dX11_findBest_149 : decode cX11_findBest 149 = .ok (.aload_n 0, 1) := by decide +kernel
theorem dX11_findBest_150 : decode cX11_findBest 150 = .ok (.getfield 61, 3) := by decide +kernel
theorem dX11_findBest_153 : decode cX11_findBest 153 = .ok (.if_icmp .lt 20, 3) := by decide +kernel
theorem dX11_findBest_156 : decode cX11_findBest 156 = .ok (.iload 4, 2) := by decide +kernel
theorem dX11_findBest_158 : decode cX11_findBest 158 = .ok (.aload_n 0, 1) := by decide +kernel
theorem dX11_findBest_159 : decode cX11_findBest 159 = .ok (.getfield 61, 3) := by decide +kernel
theorem dX11_findBest_162 : decode cX11_findBest 162 = .ok (.if_icmp .ne 27, 3) := by decide +kernel
theorem dX11_findBest_165 : decode cX11_findBest 165 = .ok (.iload_n 3, 1) := by decide +kernel
theorem dX11_findBest_166 : decode cX11_findBest 166 = .ok (.aload_n 0, 1) := by decide +kernel
theorem dX11_findBest_167 : decode cX11_findBest 167 = .ok (.getfield 64, 3) := by decide +kernel
theorem dX11_findBest_170 : decode cX11_findBest 170 = .ok (.if_icmp .ge 19, 3) := by decide +kernel
theorem dX11_findBest_173 : decode cX11_findBest 173 = .ok (.aload_n 0, 1) := by decide +kernel
theorem dX11_findBest_174 : decode cX11_findBest 174 = .ok (.iload_n 2, 1) := by decide +kernel
theorem dX11_findBest_175 : decode cX11_findBest 175 = .ok (.putfield 58, 3) := by decide +kernel
theorem dX11_findBest_178 : decode cX11_findBest 178 = .ok (.aload_n 0, 1) := by decide +kernel
theorem dX11_findBest_179 : decode cX11_findBest 179 = .ok (.iload 4, 2) := by decide +kernel
theorem dX11_findBest_181 : decode cX11_findBest 181 = .ok (.putfield 61, 3) := by decide +kernel
theorem dX11_findBest_184 : decode cX11_findBest 184 = .ok (.aload_n 0, 1) := by decide +kernel
theorem dX11_findBest_185 : decode cX11_findBest 185 = .ok (.iload_n 3, 1) := by decide +kernel
theorem dX11_findBest_186 : decode cX11_findBest 186 = .ok (.putfield 64, 3) := by decide +kernel
theorem dX11_findBest_189 : decode cX11_findBest 189 = .ok (.iinc 2 1, 3) := by decide +kernel
theorem dX11_findBest_192 : decode cX11_findBest 192 = .ok (.goto (-123), 3) := by decide +kernel
theorem dX11_findBest_195 : decode cX11_findBest 195 = .ok (.return_, 1) := by decide +kernel
theorem dX11_best_0 : decode cX11_best 0 = .ok (.iload_n 1, 1) := by decide +kernel
theorem dX11_best_1 : decode cX11_best 1 = .ok (.iconst 0, 1) := by decide +kernel
theorem dX11_best_2 : decode cX11_best 2 = .ok (.ldc_w 380, 3) := by decide +kernel
theorem dX11_best_5 : decode cX11_best 5 = .ok (.invokestatic 96, 3) := by decide +kernel
theorem dX11_best_8 : decode cX11_best 8 = .ok (.ifCond .eq 12, 3) := by decide +kernel
theorem dX11_best_11 : decode cX11_best 11 = .ok (.iload_n 2, 1) := by decide +kernel
theorem dX11_best_12 : decode cX11_best 12 = .ok (.iconst 0, 1) := by decide +kernel
theorem dX11_best_13 : decode cX11_best 13 = .ok (.iconst 2, 1) := by decide +kernel
theorem dX11_best_14 : decode cX11_best 14 = .ok (.invokestatic 96, 3) := by decide +kernel
theorem dX11_best_17 : decode cX11_best 17 = .ok (.ifCond .ne 5, 3) := by decide +kernel
theorem dX11_best_20 : decode cX11_best 20 = .ok (.iconst (-1), 1) := by decide +kernel
theorem dX11_best_21 : decode cX11_best 21 = .ok (.ireturn, 1) := by decide +kernel
theorem dX11_best_22 : decode cX11_best 22 = .ok (.aload_n 0, 1) := by decide +kernel
theorem dX11_best_23 : decode cX11_best 23 = .ok (.iload_n 1, 1) := by decide +kernel
theorem dX11_best_24 : decode cX11_best 24 = .ok (.invokevirtual 381, 3) := by decide +kernel
theorem dX11_best_27 : decode cX11_best 27 = .ok (.iload_n 2, 1) := by decide +kernel
theorem dX11_best_28 : decode cX11_best 28 = .ok (.ifCond .ne 8, 3) := by decide +kernel
theorem dX11_best_31 : decode cX11_best 31 = .ok (.aload_n 0, 1) := by decide +kernel
theorem dX11_best_32 : decode cX11_best 32 = .ok (.getfield 58, 3) := by decide +kernel
theorem dX11_best_35 : decode cX11_best 35 = .ok (.ireturn, 1) := by decide +kernel
theorem dX11_best_36 : decode cX11_best 36 = .ok (.iload_n 2, 1) := by decide +kernel
theorem dX11_best_37 : decode cX11_best 37 = .ok (.iconst 1, 1) := by decide +kernel
theorem dX11_best_38 : decode cX11_best 38 = .ok (.if_icmp .ne 10, 3) := by decide +kernel
theorem dX11_best_41 : decode cX11_best 41 = .ok (.aload_n 0, 1) := by decide +kernel
theorem dX11_best_42 : decode cX11_best 42 = .ok (.getfield 61, 3) := by decide +kernel
theorem dX11_best_45 : decode cX11_best 45 = .ok (.goto 7, 3) := by decide +kernel
theorem dX11_best_48 : decode cX11_best 48 = .ok (.aload_n 0, 1) := by decide +kernel
theorem dX11_best_49 : decode cX11_best 49 = .ok (.getfield 64, 3) := by decide +kernel
theorem dX11_best_52 : decode cX11_best 52 = .ok (.ireturn, 1) := by decide +kernel
theorem dX11_bridge_0 : decode cX11_bridge 0 = .ok (.iload_n 1, 1) := by decide +kernel
theorem dX11_bridge_1 : decode cX11_bridge 1 = .ok (.invokestatic 88, 3) := by decide +kernel
theorem dX11_bridge_4 : decode cX11_bridge 4 = .ok (.ifCond .ne 5, 3) := by decide +kernel
theorem dX11_bridge_7 : decode cX11_bridge 7 = .ok (.iconst (-1), 1) := by decide +kernel
theorem dX11_bridge_8 : decode cX11_bridge 8 = .ok (.ireturn, 1) := by decide +kernel
theorem dX11_bridge_9 : decode cX11_bridge 9 = .ok (.aload_n 0, 1) := by decide +kernel
theorem dX11_bridge_10 : decode cX11_bridge 10 = .ok (.getfield 10, 3) := by decide +kernel
theorem dX11_bridge_13 : decode cX11_bridge 13 = .ok (.getfield 359, 3) := by decide +kernel
theorem dX11_bridge_16 : decode cX11_bridge 16 = .ok (.istore_n 2, 1) := by decide +kernel
theorem dX11_bridge_17 : decode cX11_bridge 17 = .ok (.aload_n 0, 1) := by decide +kernel
theorem dX11_bridge_18 : decode cX11_bridge 18 = .ok (.getfield 10, 3) := by decide +kernel
theorem dX11_bridge_21 : decode cX11_bridge 21 = .ok (.iload_n 1, 1) := by decide +kernel
theorem dX11_bridge_22 : decode cX11_bridge 22 = .ok (.putfield 359, 3) := by decide +kernel
theorem dX11_bridge_25 : decode cX11_bridge 25 = .ok (.iload_n 2, 1) := by decide +kernel
theorem dX11_bridge_26 : decode cX11_bridge 26 = .ok (.ireturn, 1) := by decide +kernel
theorem dX11_carries_0 : decode cX11_carries 0 = .ok (.aload_n 0, 1) := by decide +kernel
theorem dX11_carries_1 : decode cX11_carries 1 = .ok (.iload_n 1, 1) := by decide +kernel
theorem dX11_carries_2 : decode cX11_carries 2 = .ok (.invokevirtual 230, 3) := by decide +kernel
theorem dX11_carries_5 : decode cX11_carries 5 = .ok (.ifCond .ne 5, 3) := by decide +kernel
theorem dX11_carries_8 : decode cX11_carries 8 = .ok (.iconst (-1), 1) := by decide +kernel
theorem dX11_carries_9 : decode cX11_carries 9 = .ok (.ireturn, 1) := by decide +kernel
theorem dX11_carries_10 : decode cX11_carries 10 = .ok (.aload_n 0, 1) := by decide +kernel
theorem dX11_carries_11 : decode cX11_carries 11 = .ok (.getfield 10, 3) := by decide +kernel
theorem dX11_carries_14 : decode cX11_carries 14 = .ok (.aload_n 0, 1) := by decide +kernel
theorem dX11_carries_15 : decode cX11_carries 15 = .ok (.getfield 10, 3) := by decide +kernel
theorem dX11_carries_18 : decode cX11_carries 18 = .ok (.getfield 220, 3) := by decide +kernel
theorem dX11_carries_21 : decode cX11_carries 21 = .ok (.iload_n 1, 1) := by decide +kernel
theorem dX11_carries_22 : decode cX11_carries 22 = .ok (.aaload, 1) := by decide +kernel
theorem dX11_carries_23 : decode cX11_carries 23 = .ok (.invokevirtual 271, 3) := by decide +kernel
theorem dX11_carries_26 : decode cX11_carries 26 = .ok (.ifCond .eq 7, 3) := by decide +kernel
theorem dX11_carries_29 : decode cX11_carries 29 = .ok (.iconst 1, 1) := by decide +kernel
theorem dX11_carries_30 : decode cX11_carries 30 = .ok (.goto 4, 3) := by decide +kernel
theorem dX11_carries_33 : decode cX11_carries 33 = .ok (.iconst 0, 1) := by decide +kernel
theorem dX11_carries_34 : decode cX11_carries 34 = .ok (.ireturn, 1) := by decide +kernel
theorem dX11_clear_0 : decode cX11_clear 0 = .ok (.iload_n 1, 1) := by decide +kernel
theorem dX11_clear_1 : decode cX11_clear 1 = .ok (.invokestatic 146, 3) := by decide +kernel
theorem dX11_clear_4 : decode cX11_clear 4 = .ok (.ifCond .ne 5, 3) := by decide +kernel
theorem dX11_clear_7 : decode cX11_clear 7 = .ok (.iconst (-1), 1) := by decide +kernel
theorem dX11_clear_8 : decode cX11_clear 8 = .ok (.ireturn, 1) := by decide +kernel
theorem dX11_clear_9 : decode cX11_clear 9 = .ok (.aload_n 0, 1) := by decide +kernel
theorem dX11_clear_10 : decode cX11_clear 10 = .ok (.getfield 46, 3) := by decide +kernel
theorem dX11_clear_13 : decode cX11_clear 13 = .ok (.iload_n 1, 1) := by decide +kernel
theorem dX11_clear_14 : decode cX11_clear 14 = .ok (.aaload, 1) := by decide +kernel
theorem dX11_clear_15 : decode cX11_clear 15 = .ok (.getfield 149, 3) := by decide +kernel
theorem dX11_clear_18 : decode cX11_clear 18 = .ok (.istore_n 2, 1) := by decide +kernel
theorem dX11_clear_19 : decode cX11_clear 19 = .ok (.aload_n 0, 1) := by decide +kernel
theorem dX11_clear_20 : decode cX11_clear 20 = .ok (.getfield 46, 3) := by decide +kernel
theorem dX11_clear_23 : decode cX11_clear 23 = .ok (.iload_n 1, 1) := by decide +kernel
theorem dX11_clear_24 : decode cX11_clear 24 = .ok (.aaload, 1) := by decide +kernel
theorem dX11_clear_25 : decode cX11_clear 25 = .ok (.iconst 0, 1) := by decide +kernel
theorem dX11_clear_26 : decode cX11_clear 26 = .ok (.putfield 149, 3) := by decide +kernel
theorem dX11_clear_29 : decode cX11_clear 29 = .ok (.aload_n 0, 1) := by decide +kernel
theorem dX11_clear_30 : decode cX11_clear 30 = .ok (.getfield 46, 3) := by decide +kernel
theorem dX11_clear_33 : decode cX11_clear 33 = .ok (.iload_n 1, 1) := by decide +kernel
theorem dX11_clear_34 : decode cX11_clear 34 = .ok (.aaload, 1) := by decide +kernel
theorem dX11_clear_35 : decode cX11_clear 35 = .ok (.iconst 0, 1) := by decide +kernel
theorem dX11_clear_36 : decode cX11_clear 36 = .ok (.putfield 155, 3) := by decide +kernel
theorem dX11_clear_39 : decode cX11_clear 39 = .ok (.iload_n 2, 1) := by decide +kernel
theorem dX11_clear_40 : decode cX11_clear 40 = .ok (.ireturn, 1) := by decide +kernel
theorem dX11_isHouse_0 : decode cX11_isHouse 0 = .ok (.iload_n 1, 1) := by decide +kernel
theorem dX11_isHouse_1 : decode cX11_isHouse 1 = .ok (.invokestatic 88, 3) := by decide +kernel
theorem dX11_isHouse_4 : decode cX11_isHouse 4 = .ok (.ifCond .eq 23, 3) := by decide +kernel
theorem dX11_isHouse_7 : decode cX11_isHouse 7 = .ok (.aload_n 0, 1) := by decide +kernel
theorem dX11_isHouse_8 : decode cX11_isHouse 8 = .ok (.getfield 10, 3) := by decide +kernel
theorem dX11_isHouse_11 : decode cX11_isHouse 11 = .ok (.getfield 278, 3) := by decide +kernel
theorem dX11_isHouse_14 : decode cX11_isHouse 14 = .ok (.getfield 282, 3) := by decide +kernel
theorem dX11_isHouse_17 : decode cX11_isHouse 17 = .ok (.iload_n 1, 1) := by decide +kernel
theorem dX11_isHouse_18 : decode cX11_isHouse 18 = .ok (.iaload, 1) := by decide +kernel
theorem dX11_isHouse_19 : decode cX11_isHouse 19 = .ok (.iload_n 2, 1) := by decide +kernel
theorem dX11_isHouse_20 : decode cX11_isHouse 20 = .ok (.if_icmp .ne 7, 3) := by decide +kernel
theorem dX11_isHouse_23 : decode cX11_isHouse 23 = .ok (.iconst 1, 1) := by decide +kernel
theorem dX11_isHouse_24 : decode cX11_isHouse 24 = .ok (.goto 4, 3) := by decide +kernel
theorem dX11_isHouse_27 : decode cX11_isHouse 27 = .ok (.iconst 0, 1) := by decide +kernel
theorem dX11_isHouse_28 : decode cX11_isHouse 28 = .ok (.ireturn, 1) := by decide +kernel
theorem dX11_coal_0 : decode cX11_coal 0 = .ok (.aload_n 0, 1) := by decide +kernel
theorem dX11_coal_1 : decode cX11_coal 1 = .ok (.iload_n 1, 1) := by decide +kernel
theorem dX11_coal_2 : decode cX11_coal 2 = .ok (.iconst 1, 1) := by decide +kernel
theorem dX11_coal_3 : decode cX11_coal 3 = .ok (.invokevirtual 302, 3) := by decide +kernel
theorem dX11_coal_6 : decode cX11_coal 6 = .ok (.ifCond .eq 14, 3) := by decide +kernel
theorem dX11_coal_9 : decode cX11_coal 9 = .ok (.iload_n 2, 1) := by decide +kernel
theorem dX11_coal_10 : decode cX11_coal 10 = .ok (.iconst 1, 1) := by decide +kernel
theorem dX11_coal_11 : decode cX11_coal 11 = .ok (.sipush 9999, 3) := by decide +kernel
theorem dX11_coal_14 : decode cX11_coal 14 = .ok (.invokestatic 96, 3) := by decide +kernel
theorem dX11_coal_17 : decode cX11_coal 17 = .ok (.ifCond .ne 5, 3) := by decide +kernel
theorem dX11_coal_20 : decode cX11_coal 20 = .ok (.iconst (-1), 1) := by decide +kernel
theorem dX11_coal_21 : decode cX11_coal 21 = .ok (.ireturn, 1) := by decide +kernel
theorem dX11_coal_22 : decode cX11_coal 22 = .ok (.aload_n 0, 1) := by decide +kernel
theorem dX11_coal_23 : decode cX11_coal 23 = .ok (.getfield 10, 3) := by decide +kernel
theorem dX11_coal_26 : decode cX11_coal 26 = .ok (.getfield 278, 3) := by decide +kernel
theorem dX11_coal_29 : decode cX11_coal 29 = .ok (.getfield 296, 3) := by decide +kernel
theorem dX11_coal_32 : decode cX11_coal 32 = .ok (.iload_n 1, 1) := by decide +kernel
theorem dX11_coal_33 : decode cX11_coal 33 = .ok (.iaload, 1) := by decide +kernel
theorem dX11_coal_34 : decode cX11_coal 34 = .ok (.iload_n 2, 1) := by decide +kernel
theorem dX11_coal_35 : decode cX11_coal 35 = .ok (.iadd, 1) := by decide +kernel
theorem dX11_coal_36 : decode cX11_coal 36 = .ok (.ldc 166, 2) := by decide +kernel
theorem dX11_coal_38 : decode cX11_coal 38 = .ok (.if_icmp .le 6, 3) := by decide +kernel
theorem dX11_coal_41 : decode cX11_coal 41 = .ok (.bipush (-2), 2) := by decide +kernel
theorem dX11_coal_43 : decode cX11_coal 43 = .ok (.ireturn, 1) := by decide +kernel
theorem dX11_coal_44 : decode cX11_coal 44 = .ok (.aload_n 0, 1) := by decide +kernel
theorem dX11_coal_45 : decode cX11_coal 45 = .ok (.getfield 10, 3) := by decide +kernel
theorem dX11_coal_48 : decode cX11_coal 48 = .ok (.getfield 278, 3) := by decide +kernel
theorem dX11_coal_51 : decode cX11_coal 51 = .ok (.getfield 296, 3) := by decide +kernel
theorem dX11_coal_54 : decode cX11_coal 54 = .ok (.iload_n 1, 1) := by decide +kernel
theorem dX11_coal_55 : decode cX11_coal 55 = .ok (.dup2, 1) := by decide +kernel
theorem dX11_coal_56 : decode cX11_coal 56 = .ok (.iaload, 1) := by decide +kernel
theorem dX11_coal_57 : decode cX11_coal 57 = .ok (.iload_n 2, 1) := by decide +kernel
theorem dX11_coal_58 : decode cX11_coal 58 = .ok (.iadd, 1) := by decide +kernel
theorem dX11_coal_59 : decode cX11_coal 59 = .ok (.iastore, 1) := by decide +kernel
theorem dX11_coal_60 : decode cX11_coal 60 = .ok (.aload_n 0, 1) := by decide +kernel
theorem dX11_coal_61 : decode cX11_coal 61 = .ok (.getfield 10, 3) := by decide +kernel
theorem dX11_coal_64 : decode cX11_coal 64 = .ok (.getfield 278, 3) := by decide +kernel
theorem dX11_coal_67 : decode cX11_coal 67 = .ok (.getfield 296, 3) := by decide +kernel
theorem dX11_coal_70 : decode cX11_coal 70 = .ok (.iload_n 1, 1) := by decide +kernel
theorem dX11_coal_71 : decode cX11_coal 71 = .ok (.iaload, 1) := by decide +kernel
theorem dX11_coal_72 : decode cX11_coal 72 = .ok (.ireturn, 1) := by decide +kernel
theorem dX11_comesBack_0 : decode cX11_comesBack 0 = .ok (.iload_n 1, 1) := by decide +kernel
theorem dX11_comesBack_1 : decode cX11_comesBack 1 = .ok (.iconst 0, 1) := by decide +kernel
theorem dX11_comesBack_2 : decode cX11_comesBack 2 = .ok (.ldc 166, 2) := by decide +kernel
theorem dX11_comesBack_4 : decode cX11_comesBack 4 = .ok (.invokestatic 96, 3) := by decide +kernel
theorem dX11_comesBack_7 : decode cX11_comesBack 7 = .ok (.ifCond .ne 5, 3) := by decide +kernel
theorem dX11_comesBack_10 : decode cX11_comesBack 10 = .ok (.iconst (-1), 1) := by decide +kernel
theorem dX11_comesBack_11 : decode cX11_comesBack 11 = .ok (.ireturn, 1) := by decide +kernel
theorem dX11_comesBack_12 : decode cX11_comesBack 12 = .ok (.aload_n 0, 1) := by decide +kernel
theorem dX11_comesBack_13 : decode cX11_comesBack 13 = .ok (.getfield 26, 3) := by decide +kernel
theorem dX11_comesBack_16 : decode cX11_comesBack 16 = .ok (.iload_n 1, 1) := by decide +kernel
theorem dX11_comesBack_17 : decode cX11_comesBack 17 = .ok (.invokevirtual 167, 3) := by decide +kernel
theorem dX11_comesBack_20 : decode cX11_comesBack 20 = .ok (.ifCond .eq 7, 3) := by decide +kernel
theorem dX11_comesBack_23 : decode cX11_comesBack 23 = .ok (.iconst 1, 1) := by decide +kernel
theorem dX11_comesBack_24 : decode cX11_comesBack 24 = .ok (.goto 4, 3) := by decide +kernel
theorem dX11_comesBack_27 : decode cX11_comesBack 27 = .ok (.iconst 0, 1) := by decide +kernel
theorem dX11_comesBack_28 : decode cX11_comesBack 28 = .ok (.ireturn, 1) := by decide +kernel
theorem dX11_copy_0 : decode cX11_copy 0 = .ok (.iload_n 1, 1) := by decide +kernel
theorem dX11_copy_1 : decode cX11_copy 1 = .ok (.invokestatic 146, 3) := by decide +kernel
theorem dX11_copy_4 : decode cX11_copy 4 = .ok (.ifCond .eq 10, 3) := by decide +kernel
theorem dX11_copy_7 : decode cX11_copy 7 = .ok (.iload_n 3, 1) := by decide +kernel
theorem dX11_copy_8 : decode cX11_copy 8 = .ok (.invokestatic 146, 3) := by decide +kernel
theorem dX11_copy_11 : decode cX11_copy 11 = .ok (.ifCond .ne 5, 3) := by decide +kernel
theorem dX11_copy_14 : decode cX11_copy 14 = .ok (.iconst (-1), 1) := by decide +kernel
theorem dX11_copy_15 : decode cX11_copy 15 = .ok (.ireturn, 1) := by decide +kernel
theorem dX11_copy_16 : decode cX11_copy 16 = .ok (.aload_n 0, 1) := by decide +kernel
theorem dX11_copy_17 : decode cX11_copy 17 = .ok (.getfield 46, 3) := by decide +kernel
theorem dX11_copy_20 : decode cX11_copy 20 = .ok (.iload_n 1, 1) := by decide +kernel
theorem dX11_copy_21 : decode cX11_copy 21 = .ok (.aaload, 1) := by decide +kernel
theorem dX11_copy_22 : decode cX11_copy 22 = .ok (.astore 6, 2) := by decide +kernel
theorem dX11_copy_24 : decode cX11_copy 24 = .ok (.aload_n 0, 1) := by decide +kernel
theorem dX11_copy_25 : decode cX11_copy 25 = .ok (.getfield 46, 3) := by decide +kernel
theorem dX11_copy_28 : decode cX11_copy 28 = .ok (.iload_n 3, 1) := by decide +kernel
theorem dX11_copy_29 : decode cX11_copy 29 = .ok (.aaload, 1) := by decide +kernel
theorem dX11_copy_30 : decode cX11_copy 30 = .ok (.astore 7, 2) := by decide +kernel
theorem dX11_copy_32 : decode cX11_copy 32 = .ok (.aload 6, 2) := by decide +kernel
theorem dX11_copy_34 : decode cX11_copy 34 = .ok (.getfield 149, 3) := by decide +kernel
theorem dX11_copy_37 : decode cX11_copy 37 = .ok (.ifCond .eq 11, 3) := by decide +kernel
theorem dX11_copy_40 : decode cX11_copy 40 = .ok (.aload 7, 2) := by decide +kernel
theorem dX11_copy_42 : decode cX11_copy 42 = .ok (.getfield 149, 3) := by decide +kernel
theorem dX11_copy_45 : decode cX11_copy 45 = .ok (.ifCond .ne 10, 3) := by decide +kernel
theorem dX11_copy_48 : decode cX11_copy 48 = .ok (.aload_n 0, 1) := by decide +kernel
theorem dX11_copy_49 : decode cX11_copy 49 = .ok (.bipush (-11), 2) := by decide +kernel
theorem dX11_copy_51 : decode cX11_copy 51 = .ok (.invokevirtual 152, 3) := by decide +kernel
theorem dX11_copy_54 : decode cX11_copy 54 = .ok (.ireturn, 1) := by decide +kernel
theorem dX11_copy_55 : decode cX11_copy 55 = .ok (.aload 6, 2) := by decide +kernel
theorem dX11_copy_57 : decode cX11_copy 57 = .ok (.invokevirtual 420, 3) := by decide +kernel
theorem dX11_copy_60 : decode cX11_copy 60 = .ok (.ifCond .eq 16, 3) := by decide +kernel
theorem dX11_copy_63 : decode cX11_copy 63 = .ok (.aload 6, 2) := by decide +kernel
theorem dX11_copy_65 : decode cX11_copy 65 = .ok (.getfield 149, 3) := by decide +kernel
theorem dX11_copy_68 : decode cX11_copy 68 = .ok (.aload 7, 2) := by decide +kernel
theorem dX11_copy_70 : decode cX11_copy 70 = .ok (.getfield 149, 3) := by decide +kernel
theorem dX11_copy_73 : decode cX11_copy 73 = .ok (.if_icmp .eq 10, 3) := by decide +kernel
theorem dX11_copy_76 : decode cX11_copy 76 = .ok (.aload_n 0, 1) := by decide +kernel
theorem dX11_copy_77 : decode cX11_copy 77 = .ok (.bipush (-12), 2) := by decide +kernel
theorem dX11_copy_79 : decode cX11_copy 79 = .ok (.invokevirtual 152, 3) := by decide +kernel
theorem dX11_copy_82 : decode cX11_copy 82 = .ok (.ireturn, 1) := by decide +kernel
theorem dX11_copy_83 : decode cX11_copy 83 = .ok (.iload 5, 2) := by decide +kernel
theorem dX11_copy_85 : decode cX11_copy 85 = .ok (.ifCond .lt 37, 3) := by decide +kernel
theorem dX11_copy_88 : decode cX11_copy 88 = .ok (.iload_n 2, 1) := by decide +kernel
theorem dX11_copy_89 : decode cX11_copy 89 = .ok (.ifCond .lt 33, 3) := by decide +kernel
theorem dX11_copy_92 : decode cX11_copy 92 = .ok (.iload 4, 2) := by decide +kernel
theorem dX11_copy_94 : decode cX11_copy 94 = .ok (.ifCond .lt 28, 3) := by decide +kernel
theorem dX11_copy_97 : decode cX11_copy 97 = .ok (.iload_n 2, 1) := by decide +kernel
theorem dX11_copy_98 : decode cX11_copy 98 = .ok (.aload 6, 2) := by decide +kernel
theorem dX11_copy_100 : decode cX11_copy 100 = .ok (.getfield 155, 3) := by decide +kernel
theorem dX11_copy_103 : decode cX11_copy 103 = .ok (.iload 5, 2) := by decide +kernel
theorem dX11_copy_105 : decode cX11_copy 105 = .ok (.isub, 1) := by decide +kernel
theorem dX11_copy_106 : decode cX11_copy 106 = .ok (.if_icmp .gt 16, 3) := by decide +kernel
theorem dX11_copy_109 : decode cX11_copy 109 = .ok (.iload 4, 2) := by decide +kernel
theorem dX11_copy_111 : decode cX11_copy 111 = .ok (.aload 7, 2) := by decide +kernel
theorem dX11_copy_113 : decode cX11_copy 113 = .ok (.getfield 155, 3) := by decide +kernel
theorem dX11_copy_116 : decode cX11_copy 116 = .ok (.iload 5, 2) := by decide +kernel
theorem dX11_copy_118 : decode cX11_copy 118 = .ok (.isub, 1) := by decide +kernel
theorem dX11_copy_119 : decode cX11_copy 119 = .ok (.if_icmp .le 10, 3) := by decide +kernel
theorem dX11_copy_122 : decode cX11_copy 122 = .ok (.aload_n 0, 1) := by decide +kernel
theorem dX11_copy_123 : decode cX11_copy 123 = .ok (.bipush (-13), 2) := by decide +kernel
theorem dX11_copy_125 : decode cX11_copy 125 = .ok (.invokevirtual 152, 3) := by decide +kernel
theorem dX11_copy_128 : decode cX11_copy 128 = .ok (.ireturn, 1) := by decide +kernel
theorem dX11_copy_129 : decode cX11_copy 129 = .ok (.aload 6, 2) := by decide +kernel
theorem dX11_copy_131 : decode cX11_copy 131 = .ok (.getfield 392, 3) := by decide +kernel
theorem dX11_copy_134 : decode cX11_copy 134 = .ok (.iload_n 2, 1) := by decide +kernel
theorem dX11_copy_135 : decode cX11_copy 135 = .ok (.aload 7, 2) := by decide +kernel
theorem dX11_copy_137 : decode cX11_copy 137 = .ok (.getfield 392, 3) := by decide +kernel
theorem dX11_copy_140 : decode cX11_copy 140 = .ok (.iload 4, 2) := by decide +kernel
theorem dX11_copy_142 : decode cX11_copy 142 = .ok (.iload 5, 2) := by decide +kernel
theorem dX11_copy_144 : decode cX11_copy 144 = .ok (.invokestatic 426, 3) := by decide +kernel
theorem dX11_copy_147 : decode cX11_copy 147 = .ok (.iload 5, 2) := by decide +kernel
theorem dX11_copy_149 : decode cX11_copy 149 = .ok (.ireturn, 1) := by decide +kernel
theorem dX11_count_0 : decode cX11_count 0 = .ok (.iload_n 1, 1) := by decide +kernel
theorem dX11_count_1 : decode cX11_count 1 = .ok (.tableswitch 273 0 18 #[91, 99, 110, 121, 132, 143, 154, 165, 173, 181, 189, 197, 205, 213, 227, 241, 249, 257, 268], 91) := by decide +kernel
theorem dX11_count_92 : decode cX11_count 92 = .ok (.aload_n 0, 1) := by decide +kernel
theorem dX11_count_93 : decode cX11_count 93 = .ok (.getfield 10, 3) := by decide +kernel
theorem dX11_count_96 : decode cX11_count 96 = .ok (.getfield 337, 3) := by decide +kernel
theorem dX11_count_99 : decode cX11_count 99 = .ok (.ireturn, 1) := by decide +kernel
theorem dX11_count_100 : decode cX11_count 100 = .ok (.aload_n 0, 1) := by decide +kernel
theorem dX11_count_101 : decode cX11_count 101 = .ok (.getfield 10, 3) := by decide +kernel
theorem dX11_count_104 : decode cX11_count 104 = .ok (.getfield 116, 3) := by decide +kernel
theorem dX11_count_107 : decode cX11_count 107 = .ok (.getfield 432, 3) := by decide +kernel
theorem dX11_count_110 : decode cX11_count 110 = .ok (.ireturn, 1) := by decide +kernel
theorem dX11_count_111 : decode cX11_count 111 = .ok (.aload_n 0, 1) := by decide +kernel
theorem dX11_count_112 : decode cX11_count 112 = .ok (.getfield 10, 3) := by decide +kernel
theorem dX11_count_115 : decode cX11_count 115 = .ok (.getfield 116, 3) := by decide +kernel
theorem dX11_count_118 : decode cX11_count 118 = .ok (.getfield 435, 3) := by decide +kernel
theorem dX11_count_121 : decode cX11_count 121 = .ok (.ireturn, 1) := by decide +kernel
theorem dX11_count_122 : decode cX11_count 122 = .ok (.aload_n 0, 1) := by decide +kernel
theorem dX11_count_123 : decode cX11_count 123 = .ok (.getfield 10, 3) := by decide +kernel
theorem dX11_count_126 : decode cX11_count 126 = .ok (.getfield 116, 3) := by decide +kernel
theorem dX11_count_129 : decode cX11_count 129 = .ok (.getfield 438, 3) := by decide +kernel
theorem dX11_count_132 : decode cX11_count 132 = .ok (.ireturn, 1) := by decide +kernel
theorem dX11_count_133 : decode cX11_count 133 = .ok (.aload_n 0, 1) := by decide +kernel
theorem dX11_count_134 : decode cX11_count 134 = .ok (.getfield 10, 3) := by decide +kernel
theorem dX11_count_137 : decode cX11_count 137 = .ok (.getfield 116, 3) := by decide +kernel
theorem dX11_count_140 : decode cX11_count 140 = .ok (.getfield 441, 3) := by decide +kernel
theorem dX11_count_143 : decode cX11_count 143 = .ok (.ireturn, 1) := by decide +kernel
theorem dX11_count_144 : decode cX11_count 144 = .ok (.aload_n 0, 1) := by decide +kernel
theorem dX11_count_145 : decode cX11_count 145 = .ok (.getfield 10, 3) := by decide +kernel
theorem dX11_count_148 : decode cX11_count 148 = .ok (.getfield 116, 3) := by decide +kernel
theorem dX11_count_151 : decode cX11_count 151 = .ok (.getfield 444, 3) := by decide +kernel
theorem dX11_count_154 : decode cX11_count 154 = .ok (.ireturn, 1) := by decide +kernel
theorem dX11_count_155 : decode cX11_count 155 = .ok (.aload_n 0, 1) := by decide +kernel
theorem dX11_count_156 : decode cX11_count 156 = .ok (.getfield 10, 3) := by decide +kernel
theorem dX11_count_159 : decode cX11_count 159 = .ok (.getfield 116, 3) := by decide +kernel
theorem dX11_count_162 : decode cX11_count 162 = .ok (.getfield 447, 3) := by decide +kernel
theorem dX11_count_165 : decode cX11_count 165 = .ok (.ireturn, 1) := by decide +kernel
theorem dX11_count_166 : decode cX11_count 166 = .ok (.aload_n 0, 1) := by decide +kernel
theorem dX11_count_167 : decode cX11_count 167 = .ok (.getfield 10, 3) := by decide +kernel
theorem dX11_count_170 : decode cX11_count 170 = .ok (.invokevirtual 450, 3) := by decide +kernel
theorem dX11_count_173 : decode cX11_count 173 = .ok (.ireturn, 1) := by decide +kernel
theorem dX11_count_174 : decode cX11_count 174 = .ok (.aload_n 0, 1) := by decide +kernel
theorem dX11_count_175 : decode cX11_count 175 = .ok (.getfield 10, 3) := by decide +kernel
theorem dX11_count_178 : decode cX11_count 178 = .ok (.invokevirtual 453, 3) := by decide +kernel
theorem dX11_count_181 : decode cX11_count 181 = .ok (.ireturn, 1) := by decide +kernel
theorem dX11_count_182 : decode cX11_count 182 = .ok (.aload_n 0, 1) := by decide +kernel
theorem dX11_count_183 : decode cX11_count 183 = .ok (.getfield 10, 3) := by decide +kernel
theorem dX11_count_186 : decode cX11_count 186 = .ok (.getfield 456, 3) := by decide +kernel
theorem dX11_count_189 : decode cX11_count 189 = .ok (.ireturn, 1) := by decide +kernel
theorem dX11_count_190 : decode cX11_count 190 = .ok (.aload_n 0, 1) := by decide +kernel
theorem dX11_count_191 : decode cX11_count 191 = .ok (.getfield 10, 3) := by decide +kernel
theorem dX11_count_194 : decode cX11_count 194 = .ok (.getfield 459, 3) := by decide +kernel
theorem dX11_count_197 : decode cX11_count 197 = .ok (.ireturn, 1) := by decide +kernel
theorem dX11_count_198 : decode cX11_count 198 = .ok (.aload_n 0, 1) := by decide +kernel
theorem dX11_count_199 : decode cX11_count 199 = .ok (.getfield 10, 3) := by decide +kernel
theorem dX11_count_202 : decode cX11_count 202 = .ok (.getfield 462, 3) := by decide +kernel
theorem dX11_count_205 : decode cX11_count 205 = .ok (.ireturn, 1) := by decide +kernel
theorem dX11_count_206 : decode cX11_count 206 = .ok (.aload_n 0, 1) := by decide +kernel
theorem dX11_count_207 : decode cX11_count 207 = .ok (.getfield 10, 3) := by decide +kernel
theorem dX11_count_210 : decode cX11_count 210 = .ok (.getfield 465, 3) := by decide +kernel
theorem dX11_count_213 : decode cX11_count 213 = .ok (.ireturn, 1) := by decide +kernel
theorem dX11_count_214 : decode cX11_count 214 = .ok (.aload_n 0, 1) := by decide +kernel
theorem dX11_count_215 : decode cX11_count 215 = .ok (.getfield 10, 3) := by decide +kernel
theorem dX11_count_218 : decode cX11_count 218 = .ok (.getfield 78, 3) := by decide +kernel
theorem dX11_count_221 : decode cX11_count 221 = .ok (.getfield 137, 3) := by decide +kernel
theorem dX11_count_224 : decode cX11_count 224 = .ok (.invokestatic 468, 3) := by decide +kernel
theorem dX11_count_227 : decode cX11_count 227 = .ok (.ireturn, 1) := by decide +kernel
theorem dX11_count_228 : decode cX11_count 228 = .ok (.aload_n 0, 1) := by decide +kernel
theorem dX11_count_229 : decode cX11_count 229 = .ok (.getfield 10, 3) := by decide +kernel
theorem dX11_count_232 : decode cX11_count 232 = .ok (.getfield 78, 3) := by decide +kernel
theorem dX11_count_235 : decode cX11_count 235 = .ok (.getfield 143, 3) := by decide +kernel
theorem dX11_count_238 : decode cX11_count 238 = .ok (.invokestatic 468, 3) := by decide +kernel
theorem dX11_count_241 : decode cX11_count 241 = .ok (.ireturn, 1) := by decide +kernel
theorem dX11_count_242 : decode cX11_count 242 = .ok (.aload_n 0, 1) := by decide +kernel
theorem dX11_count_243 : decode cX11_count 243 = .ok (.getfield 10, 3) := by decide +kernel
theorem dX11_count_246 : decode cX11_count 246 = .ok (.getfield 217, 3) := by decide +kernel
theorem dX11_count_249 : decode cX11_count 249 = .ok (.ireturn, 1) := by decide +kernel
theorem dX11_count_250 : decode cX11_count 250 = .ok (.aload_n 0, 1) := by decide +kernel
theorem dX11_count_251 : decode cX11_count 251 = .ok (.getfield 40, 3) := by decide +kernel
theorem dX11_count_254 : decode cX11_count 254 = .ok (.getfield 75, 3) := by decide +kernel
theorem dX11_count_257 : decode cX11_count 257 = .ok (.ireturn, 1) := by decide +kernel
theorem dX11_count_258 : decode cX11_count 258 = .ok (.aload_n 0, 1) := by decide +kernel
theorem dX11_count_259 : decode cX11_count 259 = .ok (.getfield 10, 3) := by decide +kernel
theorem dX11_count_262 : decode cX11_count 262 = .ok (.getfield 183, 3) := by decide +kernel
theorem dX11_count_265 : decode cX11_count 265 = .ok (.getfield 187, 3) := by decide +kernel
theorem dX11_count_268 : decode cX11_count 268 = .ok (.ireturn, 1) := by decide +kernel
theorem dX11_count_269 : decode cX11_count 269 = .ok (.aload_n 0, 1) := by decide +kernel
theorem dX11_count_270 : decode cX11_count 270 = .ok (.getfield 54, 3) := by decide +kernel
theorem dX11_count_273 : decode cX11_count 273 = .ok (.ireturn, 1) := by decide +kernel
theorem dX11_count_274 : decode cX11_count 274 = .ok (.iconst (-1), 1) := by decide +kernel
theorem dX11_count_275 : decode cX11_count 275 = .ok (.ireturn, 1) := by decide +kernel
theorem dX11_cross_0 : decode cX11_cross 0 = .ok (.aload_n 0, 1) := by decide +kernel
theorem dX11_cross_1 : decode cX11_cross 1 = .ok (.iload_n 1, 1) := by decide +kernel
theorem dX11_cross_2 : decode cX11_cross 2 = .ok (.iload_n 2, 1) := by decide +kernel
theorem dX11_cross_3 : decode cX11_cross 3 = .ok (.invokevirtual 235, 3) := by decide +kernel
theorem dX11_cross_6 : decode cX11_cross 6 = .ok (.ifCond .eq 14, 3) := by decide +kernel
theorem dX11_cross_9 : decode cX11_cross 9 = .ok (.iload_n 3, 1) := by decide +kernel
theorem dX11_cross_10 : decode cX11_cross 10 = .ok (.iconst 0, 1) := by decide +kernel
theorem dX11_cross_11 : decode cX11_cross 11 = .ok (.sipush 4999, 3) := by decide +kernel
theorem dX11_cross_14 : decode cX11_cross 14 = .ok (.invokestatic 96, 3) := by decide +kernel
theorem dX11_cross_17 : decode cX11_cross 17 = .ok (.ifCond .ne 5, 3) := by decide +kernel
theorem dX11_cross_20 : decode cX11_cross 20 = .ok (.iconst (-1), 1) := by decide +kernel
theorem dX11_cross_21 : decode cX11_cross 21 = .ok (.ireturn, 1) := by decide +kernel
theorem dX11_cross_22 : decode cX11_cross 22 = .ok (.aload_n 0, 1) := by decide +kernel
theorem dX11_cross_23 : decode cX11_cross 23 = .ok (.getfield 10, 3) := by decide +kernel
theorem dX11_cross_26 : decode cX11_cross 26 = .ok (.getfield 220, 3) := by decide +kernel
theorem dX11_cross_29 : decode cX11_cross 29 = .ok (.iload_n 1, 1) := by decide +kernel
theorem dX11_cross_30 : decode cX11_cross 30 = .ok (.aaload, 1) := by decide +kernel
theorem dX11_cross_31 : decode cX11_cross 31 = .ok (.astore 4, 2) := by decide +kernel
theorem dX11_cross_33 : decode cX11_cross 33 = .ok (.aload_n 0, 1) := by decide +kernel
theorem dX11_cross_34 : decode cX11_cross 34 = .ok (.getfield 10, 3) := by decide +kernel
theorem dX11_cross_37 : decode cX11_cross 37 = .ok (.getfield 183, 3) := by decide +kernel
theorem dX11_cross_40 : decode cX11_cross 40 = .ok (.aload 4, 2) := by decide +kernel
theorem dX11_cross_42 : decode cX11_cross 42 = .ok (.getfield 240, 3) := by decide +kernel
theorem dX11_cross_45 : decode cX11_cross 45 = .ok (.iload_n 2, 1) := by decide +kernel
theorem dX11_cross_46 : decode cX11_cross 46 = .ok (.iaload, 1) := by decide +kernel
theorem dX11_cross_47 : decode cX11_cross 47 = .ok (.iload_n 3, 1) := by decide +kernel
theorem dX11_cross_48 : decode cX11_cross 48 = .ok (.invokevirtual 198, 3) := by decide +kernel
theorem dX11_cross_51 : decode cX11_cross 51 = .ok (.istore 5, 2) := by decide +kernel
theorem dX11_cross_53 : decode cX11_cross 53 = .ok (.iload 5, 2) := by decide +kernel
theorem dX11_cross_55 : decode cX11_cross 55 = .ok (.ifCond .lt 20, 3) := by decide +kernel
theorem dX11_cross_58 : decode cX11_cross 58 = .ok (.aload_n 0, 1) := by decide +kernel
theorem dX11_cross_59 : decode cX11_cross 59 = .ok (.getfield 10, 3) := by decide +kernel
theorem dX11_cross_62 : decode cX11_cross 62 = .ok (.getfield 183, 3) := by decide +kernel
theorem dX11_cross_65 : decode cX11_cross 65 = .ok (.getfield 201, 3) := by decide +kernel
theorem dX11_cross_68 : decode cX11_cross 68 = .ok (.iload 5, 2) := by decide +kernel
theorem dX11_cross_70 : decode cX11_cross 70 = .ok (.iaload, 1) := by decide +kernel
theorem dX11_cross_71 : decode cX11_cross 71 = .ok (.iconst (-1), 1) := by decide +kernel
theorem dX11_cross_72 : decode cX11_cross 72 = .ok (.if_icmp .ne 5, 3) := by decide +kernel
theorem dX11_cross_75 : decode cX11_cross 75 = .ok (.iconst 0, 1) := by decide +kernel
theorem dX11_cross_76 : decode cX11_cross 76 = .ok (.ireturn, 1) := by decide +kernel
theorem dX11_cross_77 : decode cX11_cross 77 = .ok (.aload 4, 2) := by decide +kernel
theorem dX11_cross_79 : decode cX11_cross 79 = .ok (.getfield 241, 3) := by decide +kernel
theorem dX11_cross_82 : decode cX11_cross 82 = .ok (.iload_n 2, 1) := by decide +kernel
theorem dX11_cross_83 : decode cX11_cross 83 = .ok (.iaload, 1) := by decide +kernel
theorem dX11_cross_84 : decode cX11_cross 84 = .ok (.aload_n 0, 1) := by decide +kernel
theorem dX11_cross_85 : decode cX11_cross 85 = .ok (.getfield 10, 3) := by decide +kernel
theorem dX11_cross_88 : decode cX11_cross 88 = .ok (.getfield 183, 3) := by decide +kernel
theorem dX11_cross_91 : decode cX11_cross 91 = .ok (.getfield 202, 3) := by decide +kernel
theorem dX11_cross_94 : decode cX11_cross 94 = .ok (.iload 5, 2) := by decide +kernel
theorem dX11_cross_96 : decode cX11_cross 96 = .ok (.iaload, 1) := by decide +kernel
theorem dX11_cross_97 : decode cX11_cross 97 = .ok (.isub, 1) := by decide +kernel
theorem dX11_cross_98 : decode cX11_cross 98 = .ok (.istore 6, 2) := by decide +kernel
theorem dX11_cross_100 : decode cX11_cross 100 = .ok (.iload 6, 2) := by decide +kernel
theorem dX11_cross_102 : decode cX11_cross 102 = .ok (.iconst 3, 1) := by decide +kernel
theorem dX11_cross_103 : decode cX11_cross 103 = .ok (.if_icmp .lt 5, 3) := by decide +kernel
theorem dX11_cross_106 : decode cX11_cross 106 = .ok (.iconst 1, 1) := by decide +kernel
theorem dX11_cross_107 : decode cX11_cross 107 = .ok (.ireturn, 1) := by decide +kernel
theorem dX11_cross_108 : decode cX11_cross 108 = .ok (.iload 6, 2) := by decide +kernel
theorem dX11_cross_110 : decode cX11_cross 110 = .ok (.bipush (-3), 2) := by decide +kernel
theorem dX11_cross_112 : decode cX11_cross 112 = .ok (.if_icmp .gt 7, 3) := by decide +kernel
theorem dX11_cross_115 : decode cX11_cross 115 = .ok (.iconst 2, 1) := by decide +kernel
theorem dX11_cross_116 : decode cX11_cross 116 = .ok (.goto 4, 3) := by decide +kernel
theorem dX11_cross_119 : decode cX11_cross 119 = .ok (.iconst 3, 1) := by decide +kernel
theorem dX11_cross_120 : decode cX11_cross 120 = .ok (.ireturn, 1) := by decide +kernel
theorem dX11_cut_0 : decode cX11_cut 0 = .ok (.iload_n 1, 1) := by decide +kernel
theorem dX11_cut_1 : decode cX11_cut 1 = .ok (.invokestatic 88, 3) := by decide +kernel
theorem dX11_cut_4 : decode cX11_cut 4 = .ok (.ifCond .ne 5, 3) := by decide +kernel
theorem dX11_cut_7 : decode cX11_cut 7 = .ok (.iconst (-1), 1) := by decide +kernel
theorem dX11_cut_8 : decode cX11_cut 8 = .ok (.ireturn, 1) := by decide +kernel
theorem dX11_cut_9 : decode cX11_cut 9 = .ok (.aload_n 0, 1) := by decide +kernel
theorem dX11_cut_10 : decode cX11_cut 10 = .ok (.getfield 10, 3) := by decide +kernel
theorem dX11_cut_13 : decode cX11_cut 13 = .ok (.getfield 183, 3) := by decide +kernel
theorem dX11_cut_16 : decode cX11_cut 16 = .ok (.astore_n 2, 1) := by decide +kernel
theorem dX11_cut_17 : decode cX11_cut 17 = .ok (.aload_n 0, 1) := by decide +kernel
theorem dX11_cut_18 : decode cX11_cut 18 = .ok (.getfield 10, 3) := by decide +kernel
theorem dX11_cut_21 : decode cX11_cut 21 = .ok (.getfield 78, 3) := by decide +kernel
theorem dX11_cut_24 : decode cX11_cut 24 = .ok (.getfield 174, 3) := by decide +kernel
theorem dX11_cut_27 : decode cX11_cut 27 = .ok (.iload_n 1, 1) := by decide +kernel
theorem dX11_cut_28 : decode cX11_cut 28 = .ok (.iaload, 1) := by decide +kernel
theorem dX11_cut_29 : decode cX11_cut 29 = .ok (.istore_n 3, 1) := by decide +kernel
theorem dX11_cut_30 : decode cX11_cut 30 = .ok (.aload_n 0, 1) := by decide +kernel
theorem dX11_cut_31 : decode cX11_cut 31 = .ok (.getfield 10, 3) := by decide +kernel
theorem dX11_cut_34 : decode cX11_cut 34 = .ok (.getfield 78, 3) := by decide +kernel
theorem dX11_cut_37 : decode cX11_cut 37 = .ok (.getfield 177, 3) := by decide +kernel
theorem dX11_cut_40 : decode cX11_cut 40 = .ok (.iload_n 1, 1) := by decide +kernel
theorem dX11_cut_41 : decode cX11_cut 41 = .ok (.iaload, 1) := by decide +kernel
theorem dX11_cut_42 : decode cX11_cut 42 = .ok (.istore 4, 2) := by decide +kernel
theorem dX11_cut_44 : decode cX11_cut 44 = .ok (.aload_n 2, 1) := by decide +kernel
theorem dX11_cut_45 : decode cX11_cut 45 = .ok (.iload_n 1, 1) := by decide +kernel
theorem dX11_cut_46 : decode cX11_cut 46 = .ok (.aload_n 0, 1) := by decide +kernel
theorem dX11_cut_47 : decode cX11_cut 47 = .ok (.getfield 10, 3) := by decide +kernel
theorem dX11_cut_50 : decode cX11_cut 50 = .ok (.invokevirtual 190, 3) := by decide +kernel
theorem dX11_cut_53 : decode cX11_cut 53 = .ok (.invokevirtual 198, 3) := by decide +kernel
theorem dX11_cut_56 : decode cX11_cut 56 = .ok (.istore 5, 2) := by decide +kernel
theorem dX11_cut_58 : decode cX11_cut 58 = .ok (.iload 5, 2) := by decide +kernel
theorem dX11_cut_60 : decode cX11_cut 60 = .ok (.ifCond .lt 28, 3) := by decide +kernel
theorem dX11_cut_63 : decode cX11_cut 63 = .ok (.aload_n 2, 1) := by decide +kernel
theorem dX11_cut_64 : decode cX11_cut 64 = .ok (.getfield 201, 3) := by decide +kernel
theorem dX11_cut_67 : decode cX11_cut 67 = .ok (.iload 5, 2) := by decide +kernel
theorem dX11_cut_69 : decode cX11_cut 69 = .ok (.iaload, 1) := by decide +kernel
theorem dX11_cut_70 : decode cX11_cut 70 = .ok (.iload_n 3, 1) := by decide +kernel
theorem dX11_cut_71 : decode cX11_cut 71 = .ok (.if_icmp .ne 17, 3) := by decide +kernel
theorem dX11_cut_74 : decode cX11_cut 74 = .ok (.aload_n 2, 1) := by decide +kernel
theorem dX11_cut_75 : decode cX11_cut 75 = .ok (.getfield 202, 3) := by decide +kernel
theorem dX11_cut_78 : decode cX11_cut 78 = .ok (.iload 5, 2) := by decide +kernel
theorem dX11_cut_80 : decode cX11_cut 80 = .ok (.iaload, 1) := by decide +kernel
theorem dX11_cut_81 : decode cX11_cut 81 = .ok (.iload 4, 2) := by decide +kernel
theorem dX11_cut_83 : decode cX11_cut 83 = .ok (.if_icmp .ne 5, 3) := by decide +kernel
theorem dX11_cut_86 : decode cX11_cut 86 = .ok (.iconst 0, 1) := by decide +kernel
theorem dX11_cut_87 : decode cX11_cut 87 = .ok (.ireturn, 1) := by decide +kernel
theorem dX11_cut_88 : decode cX11_cut 88 = .ok (.aload_n 2, 1) := by decide +kernel
theorem dX11_cut_89 : decode cX11_cut 89 = .ok (.getfield 187, 3) := by decide +kernel
theorem dX11_cut_92 : decode cX11_cut 92 = .ok (.sipush 200, 3) := by decide +kernel
theorem dX11_cut_95 : decode cX11_cut 95 = .ok (.if_icmp .lt 6, 3) := by decide +kernel
theorem dX11_cut_98 : decode cX11_cut 98 = .ok (.bipush (-2), 2) := by decide +kernel
theorem dX11_cut_100 : decode cX11_cut 100 = .ok (.ireturn, 1) := by decide +kernel
theorem dX11_cut_101 : decode cX11_cut 101 = .ok (.aload_n 2, 1) := by decide +kernel
theorem dX11_cut_102 : decode cX11_cut 102 = .ok (.iload_n 1, 1) := by decide +kernel
theorem dX11_cut_103 : decode cX11_cut 103 = .ok (.iload_n 3, 1) := by decide +kernel
theorem dX11_cut_104 : decode cX11_cut 104 = .ok (.iload 4, 2) := by decide +kernel
theorem dX11_cut_106 : decode cX11_cut 106 = .ok (.aload_n 0, 1) := by decide +kernel
theorem dX11_cut_107 : decode cX11_cut 107 = .ok (.getfield 10, 3) := by decide +kernel
theorem dX11_cut_110 : decode cX11_cut 110 = .ok (.invokevirtual 190, 3) := by decide +kernel
theorem dX11_cut_113 : decode cX11_cut 113 = .ok (.invokevirtual 194, 3) := by decide +kernel
theorem dX11_cut_116 : decode cX11_cut 116 = .ok (.iconst 1, 1) := by decide +kernel
theorem dX11_cut_117 : decode cX11_cut 117 = .ok (.ireturn, 1) := by decide +kernel
theorem dX11_cutOff_0 : decode cX11_cutOff 0 = .ok (.aload_n 0, 1) := by decide +kernel
theorem dX11_cutOff_1 : decode cX11_cutOff 1 = .ok (.getfield 19, 3) := by decide +kernel
theorem dX11_cutOff_4 : decode cX11_cutOff 4 = .ok (.aload_n 0, 1) := by decide +kernel
theorem dX11_cutOff_5 : decode cX11_cutOff 5 = .ok (.getfield 10, 3) := by decide +kernel
theorem dX11_cutOff_8 : decode cX11_cutOff 8 = .ok (.invokevirtual 362, 3) := by decide +kernel
theorem dX11_cutOff_11 : decode cX11_cutOff 11 = .ok (.ireturn, 1) := by decide +kernel
theorem dX11_gangs_0 : decode cX11_gangs 0 = .ok (.aload_n 0, 1) := by decide +kernel
theorem dX11_gangs_1 : decode cX11_gangs 1 = .ok (.iload_n 1, 1) := by decide +kernel
theorem dX11_gangs_2 : decode cX11_gangs 2 = .ok (.invokevirtual 230, 3) := by decide +kernel
theorem dX11_gangs_5 : decode cX11_gangs 5 = .ok (.ifCond .eq 12, 3) := by decide +kernel
theorem dX11_gangs_8 : decode cX11_gangs 8 = .ok (.iload_n 2, 1) := by decide +kernel
theorem dX11_gangs_9 : decode cX11_gangs 9 = .ok (.iconst 0, 1) := by decide +kernel
theorem dX11_gangs_10 : decode cX11_gangs 10 = .ok (.iconst 4, 1) := by decide +kernel
theorem dX11_gangs_11 : decode cX11_gangs 11 = .ok (.invokestatic 96, 3) := by decide +kernel
theorem dX11_gangs_14 : decode cX11_gangs 14 = .ok (.ifCond .ne 5, 3) := by decide +kernel
theorem dX11_gangs_17 : decode cX11_gangs 17 = .ok (.iconst (-1), 1) := by decide +kernel
theorem dX11_gangs_18 : decode cX11_gangs 18 = .ok (.ireturn, 1) := by decide +kernel
theorem dX11_gangs_19 : decode cX11_gangs 19 = .ok (.aload_n 0, 1) := by decide +kernel
theorem dX11_gangs_20 : decode cX11_gangs 20 = .ok (.getfield 10, 3) := by decide +kernel
theorem dX11_gangs_23 : decode cX11_gangs 23 = .ok (.getfield 220, 3) := by decide +kernel
theorem dX11_gangs_26 : decode cX11_gangs 26 = .ok (.iload_n 1, 1) := by decide +kernel
theorem dX11_gangs_27 : decode cX11_gangs 27 = .ok (.aaload, 1) := by decide +kernel
theorem dX11_gangs_28 : decode cX11_gangs 28 = .ok (.getfield 258, 3) := by decide +kernel
theorem dX11_gangs_31 : decode cX11_gangs 31 = .ok (.istore_n 3, 1) := by decide +kernel
theorem dX11_gangs_32 : decode cX11_gangs 32 = .ok (.aload_n 0, 1) := by decide +kernel
theorem dX11_gangs_33 : decode cX11_gangs 33 = .ok (.getfield 10, 3) := by decide +kernel
theorem dX11_gangs_36 : decode cX11_gangs 36 = .ok (.getfield 220, 3) := by decide +kernel
theorem dX11_gangs_39 : decode cX11_gangs 39 = .ok (.iload_n 1, 1) := by decide +kernel
theorem dX11_gangs_40 : decode cX11_gangs 40 = .ok (.aaload, 1) := by decide +kernel
theorem dX11_gangs_41 : decode cX11_gangs 41 = .ok (.iload_n 2, 1) := by decide +kernel
theorem dX11_gangs_42 : decode cX11_gangs 42 = .ok (.putfield 258, 3) := by decide +kernel
theorem dX11_gangs_45 : decode cX11_gangs 45 = .ok (.iload_n 3, 1) := by decide +kernel
theorem dX11_gangs_46 : decode cX11_gangs 46 = .ok (.ireturn, 1) := by decide +kernel
theorem dX11_holdNow_0 : decode cX11_holdNow 0 = .ok (.aload_n 0, 1) := by decide +kernel
theorem dX11_holdNow_1 : decode cX11_holdNow 1 = .ok (.getfield 19, 3) := by decide +kernel
theorem dX11_holdNow_4 : decode cX11_holdNow 4 = .ok (.aload_n 0, 1) := by decide +kernel
theorem dX11_holdNow_5 : decode cX11_holdNow 5 = .ok (.getfield 10, 3) := by decide +kernel
theorem dX11_holdNow_8 : decode cX11_holdNow 8 = .ok (.aload_n 0, 1) := by decide +kernel
theorem dX11_holdNow_9 : decode cX11_holdNow 9 = .ok (.getfield 10, 3) := by decide +kernel
theorem dX11_holdNow_12 : decode cX11_holdNow 12 = .ok (.invokevirtual 340, 3) := by decide +kernel
theorem dX11_holdNow_15 : decode cX11_holdNow 15 = .ok (.invokevirtual 343, 3) := by decide +kernel
theorem dX11_holdNow_18 : decode cX11_holdNow 18 = .ok (.aload_n 0, 1) := by decide +kernel
theorem dX11_holdNow_19 : decode cX11_holdNow 19 = .ok (.getfield 19, 3) := by decide +kernel
theorem dX11_holdNow_22 : decode cX11_holdNow 22 = .ok (.getfield 472, 3) := by decide +kernel
theorem dX11_holdNow_25 : decode cX11_holdNow 25 = .ok (.iload_n 1, 1) := by decide +kernel
theorem dX11_holdNow_26 : decode cX11_holdNow 26 = .ok (.iaload, 1) := by decide +kernel
theorem dX11_holdNow_27 : decode cX11_holdNow 27 = .ok (.ireturn, 1) := by decide +kernel
theorem dX11_holds_0 : decode cX11_holds 0 = .ok (.iload_n 1, 1) := by decide +kernel
theorem dX11_holds_1 : decode cX11_holds 1 = .ok (.iconst 0, 1) := by decide +kernel
theorem dX11_holds_2 : decode cX11_holds 2 = .ok (.iconst 2, 1) := by decide +kernel
theorem dX11_holds_3 : decode cX11_holds 3 = .ok (.invokestatic 96, 3) := by decide +kernel
theorem dX11_holds_6 : decode cX11_holds 6 = .ok (.ifCond .eq 10, 3) := by decide +kernel
theorem dX11_holds_9 : decode cX11_holds 9 = .ok (.iload_n 2, 1) := by decide +kernel
theorem dX11_holds_10 : decode cX11_holds 10 = .ok (.invokestatic 88, 3) := by decide +kernel
theorem dX11_holds_13 : decode cX11_holds 13 = .ok (.ifCond .ne 5, 3) := by decide +kernel
theorem dX11_holds_16 : decode cX11_holds 16 = .ok (.iconst (-1), 1) := by decide +kernel
theorem dX11_holds_17 : decode cX11_holds 17 = .ok (.ireturn, 1) := by decide +kernel
theorem dX11_holds_18 : decode cX11_holds 18 = .ok (.aload_n 0, 1) := by decide +kernel
theorem dX11_holds_19 : decode cX11_holds 19 = .ok (.getfield 40, 3) := by decide +kernel
theorem dX11_holds_22 : decode cX11_holds 22 = .ok (.iload_n 1, 1) := by decide +kernel
theorem dX11_holds_23 : decode cX11_holds 23 = .ok (.iload_n 2, 1) := by decide +kernel
theorem dX11_holds_24 : decode cX11_holds 24 = .ok (.aload_n 0, 1) := by decide +kernel
theorem dX11_holds_25 : decode cX11_holds 25 = .ok (.getfield 10, 3) := by decide +kernel
theorem dX11_holds_28 : decode cX11_holds 28 = .ok (.aload_n 0, 1) := by decide +kernel
theorem dX11_holds_29 : decode cX11_holds 29 = .ok (.getfield 26, 3) := by decide +kernel
theorem dX11_holds_32 : decode cX11_holds 32 = .ok (.invokevirtual 376, 3) := by decide +kernel
theorem dX11_holds_35 : decode cX11_holds 35 = .ok (.ifCond .eq 7, 3) := by decide +kernel
theorem dX11_holds_38 : decode cX11_holds 38 = .ok (.iconst 1, 1) := by decide +kernel
theorem dX11_holds_39 : decode cX11_holds 39 = .ok (.goto 4, 3) := by decide +kernel
theorem dX11_holds_42 : decode cX11_holds 42 = .ok (.iconst 0, 1) := by decide +kernel
theorem dX11_holds_43 : decode cX11_holds 43 = .ok (.ireturn, 1) := by decide +kernel
theorem dX11_hours_0 : decode cX11_hours 0 = .ok (.iload_n 1, 1) := by decide +kernel
theorem dX11_hours_1 : decode cX11_hours 1 = .ok (.iconst 1, 1) := by decide +kernel
theorem dX11_hours_2 : decode cX11_hours 2 = .ok (.sipush 240, 3) := by decide +kernel
theorem dX11_hours_5 : decode cX11_hours 5 = .ok (.invokestatic 96, 3) := by decide +kernel
theorem dX11_hours_8 : decode cX11_hours 8 = .ok (.ifCond .ne 5, 3) := by decide +kernel
theorem dX11_hours_11 : decode cX11_hours 11 = .ok (.iconst (-1), 1) := by decide +kernel
theorem dX11_hours_12 : decode cX11_hours 12 = .ok (.ireturn, 1) := by decide +kernel
theorem dX11_hours_13 : decode cX11_hours 13 = .ok (.aload_n 0, 1) := by decide +kernel
theorem dX11_hours_14 : decode cX11_hours 14 = .ok (.getfield 10, 3) := by decide +kernel
theorem dX11_hours_17 : decode cX11_hours 17 = .ok (.getfield 337, 3) := by decide +kernel
theorem dX11_hours_20 : decode cX11_hours 20 = .ok (.iload_n 1, 1) := by decide +kernel
theorem dX11_hours_21 : decode cX11_hours 21 = .ok (.iadd, 1) := by decide +kernel
theorem dX11_hours_22 : decode cX11_hours 22 = .ok (.ldc 166, 2) := by decide +kernel
theorem dX11_hours_24 : decode cX11_hours 24 = .ok (.if_icmp .le 6, 3) := by decide +kernel
theorem dX11_hours_27 : decode cX11_hours 27 = .ok (.bipush (-2), 2) := by decide +kernel
theorem dX11_hours_29 : decode cX11_hours 29 = .ok (.ireturn, 1) := by decide +kernel
theorem dX11_hours_30 : decode cX11_hours 30 = .ok (.iconst 0, 1) := by decide +kernel
theorem dX11_hours_31 : decode cX11_hours 31 = .ok (.istore_n 2, 1) := by decide +kernel
theorem dX11_hours_32 : decode cX11_hours 32 = .ok (.iload_n 2, 1) := by decide +kernel
theorem dX11_hours_33 : decode cX11_hours 33 = .ok (.iload_n 1, 1) := by decide +kernel
theorem dX11_hours_34 : decode cX11_hours 34 = .ok (.if_icmp .ge 109, 3) := by decide +kernel
theorem dX11_hours_37 : decode cX11_hours 37 = .ok (.aload_n 0, 1) := by decide +kernel
theorem dX11_hours_38 : decode cX11_hours 38 = .ok (.getfield 10, 3) := by decide +kernel
theorem dX11_hours_41 : decode cX11_hours 41 = .ok (.dup, 1) := by decide +kernel
theorem dX11_hours_42 : decode cX11_hours 42 = .ok (.getfield 337, 3) := by decide +kernel
theorem dX11_hours_45 : decode cX11_hours 45 = .ok (.iconst 1, 1) := by decide +kernel
theorem dX11_hours_46 : decode cX11_hours 46 = .ok (.iadd, 1) := by decide +kernel
theorem dX11_hours_47 : decode cX11_hours 47 = .ok (.putfield 337, 3) := by decide +kernel
theorem dX11_hours_50 : decode cX11_hours 50 = .ok (.aload_n 0, 1) := by decide +kernel
theorem dX11_hours_51 : decode cX11_hours 51 = .ok (.getfield 10, 3) := by decide +kernel
theorem dX11_hours_54 : decode cX11_hours 54 = .ok (.getfield 337, 3) := by decide +kernel
theorem dX11_hours_57 : decode cX11_hours 57 = .ok (.bipush 24, 2) := by decide +kernel
theorem dX11_hours_59 : decode cX11_hours 59 = .ok (.irem, 1) := by decide +kernel
theorem dX11_hours_60 : decode cX11_hours 60 = .ok (.istore_n 3, 1) := by decide +kernel
theorem dX11_hours_61 : decode cX11_hours 61 = .ok (.iload_n 2, 1) := by decide +kernel
theorem dX11_hours_62 : decode cX11_hours 62 = .ok (.ifCond .eq 8, 3) := by decide +kernel
theorem dX11_hours_65 : decode cX11_hours 65 = .ok (.iload_n 3, 1) := by decide +kernel
theorem dX11_hours_66 : decode cX11_hours 66 = .ok (.iconst 2, 1) := by decide +kernel
theorem dX11_hours_67 : decode cX11_hours 67 = .ok (.if_icmp .ge 21, 3) := by decide +kernel
theorem dX11_hours_70 : decode cX11_hours 70 = .ok (.aload_n 0, 1) := by decide +kernel
theorem dX11_hours_71 : decode cX11_hours 71 = .ok (.getfield 19, 3) := by decide +kernel
theorem dX11_hours_74 : decode cX11_hours 74 = .ok (.aload_n 0, 1) := by decide +kernel
theorem dX11_hours_75 : decode cX11_hours 75 = .ok (.getfield 10, 3) := by decide +kernel
theorem dX11_hours_78 : decode cX11_hours 78 = .ok (.aload_n 0, 1) := by decide +kernel
theorem dX11_hours_79 : decode cX11_hours 79 = .ok (.getfield 10, 3) := by decide +kernel
theorem dX11_hours_82 : decode cX11_hours 82 = .ok (.invokevirtual 340, 3) := by decide +kernel
theorem dX11_hours_85 : decode cX11_hours 85 = .ok (.invokevirtual 343, 3) := by decide +kernel
theorem dX11_hours_88 : decode cX11_hours 88 = .ok (.aload_n 0, 1) := by decide +kernel
theorem dX11_hours_89 : decode cX11_hours 89 = .ok (.getfield 19, 3) := by decide +kernel
theorem dX11_hours_92 : decode cX11_hours 92 = .ok (.aload_n 0, 1) := by decide +kernel
theorem dX11_hours_93 : decode cX11_hours 93 = .ok (.getfield 10, 3) := by decide +kernel
theorem dX11_hours_96 : decode cX11_hours 96 = .ok (.aload_n 0, 1) := by decide +kernel
theorem dX11_hours_97 : decode cX11_hours 97 = .ok (.getfield 40, 3) := by decide +kernel
theorem dX11_hours_100 : decode cX11_hours 100 = .ok (.aload_n 0, 1) := by decide +kernel
theorem dX11_hours_101 : decode cX11_hours 101 = .ok (.getfield 26, 3) := by decide +kernel
theorem dX11_hours_104 : decode cX11_hours 104 = .ok (.invokevirtual 347, 3) := by decide +kernel
theorem dX11_hours_107 : decode cX11_hours 107 = .ok (.iload_n 3, 1) := by decide +kernel
theorem dX11_hours_108 : decode cX11_hours 108 = .ok (.ifCond .ne 29, 3) := by decide +kernel
theorem dX11_hours_111 : decode cX11_hours 111 = .ok (.aload_n 0, 1) := by decide +kernel
theorem dX11_hours_112 : decode cX11_hours 112 = .ok (.getfield 10, 3) := by decide +kernel
theorem dX11_hours_115 : decode cX11_hours 115 = .ok (.aload_n 0, 1) := by decide +kernel
theorem dX11_hours_116 : decode cX11_hours 116 = .ok (.getfield 40, 3) := by decide +kernel
theorem dX11_hours_119 : decode cX11_hours 119 = .ok (.aload_n 0, 1) := by decide +kernel
theorem dX11_hours_120 : decode cX11_hours 120 = .ok (.getfield 26, 3) := by decide +kernel
theorem dX11_hours_123 : decode cX11_hours 123 = .ok (.invokevirtual 351, 3) := by decide +kernel
theorem dX11_hours_126 : decode cX11_hours 126 = .ok (.aload_n 0, 1) := by decide +kernel
theorem dX11_hours_127 : decode cX11_hours 127 = .ok (.getfield 19, 3) := by decide +kernel
theorem dX11_hours_130 : decode cX11_hours 130 = .ok (.aload_n 0, 1) := by decide +kernel
theorem dX11_hours_131 : decode cX11_hours 131 = .ok (.getfield 10, 3) := by decide +kernel
theorem dX11_hours_134 : decode cX11_hours 134 = .ok (.invokevirtual 355, 3) := by decide +kernel
theorem dX11_hours_137 : decode cX11_hours 137 = .ok (.iinc 2 1, 3) := by decide +kernel
theorem dX11_hours_140 : decode cX11_hours 140 = .ok (.goto (-108), 3) := by decide +kernel
theorem dX11_hours_143 : decode cX11_hours 143 = .ok (.aload_n 0, 1) := by decide +kernel
theorem dX11_hours_144 : decode cX11_hours 144 = .ok (.getfield 10, 3) := by decide +kernel
theorem dX11_hours_147 : decode cX11_hours 147 = .ok (.getfield 337, 3) := by decide +kernel
theorem dX11_hours_150 : decode cX11_hours 150 = .ok (.ireturn, 1) := by decide +kernel
theorem dX11_inForce_0 : decode cX11_inForce 0 = .ok (.iload_n 1, 1) := by decide +kernel
theorem dX11_inForce_1 : decode cX11_inForce 1 = .ok (.iconst 0, 1) := by decide +kernel
theorem dX11_inForce_2 : decode cX11_inForce 2 = .ok (.iconst 2, 1) := by decide +kernel
theorem dX11_inForce_3 : decode cX11_inForce 3 = .ok (.invokestatic 96, 3) := by decide +kernel
theorem dX11_inForce_6 : decode cX11_inForce 6 = .ok (.ifCond .eq 14, 3) := by decide +kernel
theorem dX11_inForce_9 : decode cX11_inForce 9 = .ok (.iload_n 2, 1) := by decide +kernel
theorem dX11_inForce_10 : decode cX11_inForce 10 = .ok (.iconst 0, 1) := by decide +kernel
theorem dX11_inForce_11 : decode cX11_inForce 11 = .ok (.sipush 4999, 3) := by decide +kernel
theorem dX11_inForce_14 : decode cX11_inForce 14 = .ok (.invokestatic 96, 3) := by decide +kernel
theorem dX11_inForce_17 : decode cX11_inForce 17 = .ok (.ifCond .ne 5, 3) := by decide +kernel
theorem dX11_inForce_20 : decode cX11_inForce 20 = .ok (.iconst (-1), 1) := by decide +kernel
theorem dX11_inForce_21 : decode cX11_inForce 21 = .ok (.ireturn, 1) := by decide +kernel
theorem dX11_inForce_22 : decode cX11_inForce 22 = .ok (.aload_n 0, 1) := by decide +kernel
theorem dX11_inForce_23 : decode cX11_inForce 23 = .ok (.getfield 40, 3) := by decide +kernel
theorem dX11_inForce_26 : decode cX11_inForce 26 = .ok (.iload_n 1, 1) := by decide +kernel
theorem dX11_inForce_27 : decode cX11_inForce 27 = .ok (.iload_n 2, 1) := by decide +kernel
theorem dX11_inForce_28 : decode cX11_inForce 28 = .ok (.invokevirtual 373, 3) := by decide +kernel
theorem dX11_inForce_31 : decode cX11_inForce 31 = .ok (.istore_n 3, 1) := by decide +kernel
theorem dX11_inForce_32 : decode cX11_inForce 32 = .ok (.iload_n 3, 1) := by decide +kernel
theorem dX11_inForce_33 : decode cX11_inForce 33 = .ok (.ifCond .ge 8, 3) := by decide +kernel
theorem dX11_inForce_36 : decode cX11_inForce 36 = .ok (.bipush (-9), 2) := by decide +kernel
theorem dX11_inForce_38 : decode cX11_inForce 38 = .ok (.goto 4, 3) := by decide +kernel
theorem dX11_inForce_41 : decode cX11_inForce 41 = .ok (.iload_n 3, 1) := by decide +kernel
theorem dX11_inForce_42 : decode cX11_inForce 42 = .ok (.ireturn, 1) := by decide +kernel
theorem dX11_isDown_0 : decode cX11_isDown 0 = .ok (.iload_n 1, 1) := by decide +kernel
theorem dX11_isDown_1 : decode cX11_isDown 1 = .ok (.iconst (-1), 1) := by decide +kernel
theorem dX11_isDown_2 : decode cX11_isDown 2 = .ok (.if_icmp .eq 19, 3) := by decide +kernel
theorem dX11_isDown_5 : decode cX11_isDown 5 = .ok (.iload_n 1, 1) := by decide +kernel
theorem dX11_isDown_6 : decode cX11_isDown 6 = .ok (.invokestatic 88, 3) := by decide +kernel
theorem dX11_isDown_9 : decode cX11_isDown 9 = .ok (.ifCond .eq 16, 3) := by decide +kernel
theorem dX11_isDown_12 : decode cX11_isDown 12 = .ok (.iload_n 0, 1) := by decide +kernel
theorem dX11_isDown_13 : decode cX11_isDown 13 = .ok (.iload_n 1, 1) := by decide +kernel
theorem dX11_isDown_14 : decode cX11_isDown 14 = .ok (.invokestatic 203, 3) := by decide +kernel
theorem dX11_isDown_17 : decode cX11_isDown 17 = .ok (.iconst 1, 1) := by decide +kernel
theorem dX11_isDown_18 : decode cX11_isDown 18 = .ok (.if_icmp .ne 7, 3) := by decide +kernel
theorem dX11_isDown_21 : decode cX11_isDown 21 = .ok (.iconst 1, 1) := by decide +kernel
theorem dX11_isDown_22 : decode cX11_isDown 22 = .ok (.goto 4, 3) := by decide +kernel
theorem dX11_isDown_25 : decode cX11_isDown 25 = .ok (.iconst 0, 1) := by decide +kernel
theorem dX11_isDown_26 : decode cX11_isDown 26 = .ok (.ireturn, 1) := by decide +kernel
theorem dX11_judge_0 : decode cX11_judge 0 = .ok (.iload_n 1, 1) := by decide +kernel
theorem dX11_judge_1 : decode cX11_judge 1 = .ok (.invokestatic 146, 3) := by decide +kernel
theorem dX11_judge_4 : decode cX11_judge 4 = .ok (.ifCond .eq 14, 3) := by decide +kernel
theorem dX11_judge_7 : decode cX11_judge 7 = .ok (.iload_n 2, 1) := by decide +kernel
theorem dX11_judge_8 : decode cX11_judge 8 = .ok (.iconst 0, 1) := by decide +kernel
theorem dX11_judge_9 : decode cX11_judge 9 = .ok (.ldc_w 380, 3) := by decide +kernel
theorem dX11_judge_12 : decode cX11_judge 12 = .ok (.invokestatic 96, 3) := by decide +kernel
theorem dX11_judge_15 : decode cX11_judge 15 = .ok (.ifCond .ne 5, 3) := by decide +kernel
theorem dX11_judge_18 : decode cX11_judge 18 = .ok (.iconst (-1), 1) := by decide +kernel
theorem dX11_judge_19 : decode cX11_judge 19 = .ok (.ireturn, 1) := by decide +kernel
theorem dX11_judge_20 : decode cX11_judge 20 = .ok (.aload_n 0, 1) := by decide +kernel
theorem dX11_judge_21 : decode cX11_judge 21 = .ok (.getfield 46, 3) := by decide +kernel
theorem dX11_judge_24 : decode cX11_judge 24 = .ok (.iload_n 1, 1) := by decide +kernel
theorem dX11_judge_25 : decode cX11_judge 25 = .ok (.aaload, 1) := by decide +kernel
theorem dX11_judge_26 : decode cX11_judge 26 = .ok (.astore_n 3, 1) := by decide +kernel
theorem dX11_judge_27 : decode cX11_judge 27 = .ok (.aload_n 3, 1) := by decide +kernel
theorem dX11_judge_28 : decode cX11_judge 28 = .ok (.getfield 149, 3) := by decide +kernel
theorem dX11_judge_31 : decode cX11_judge 31 = .ok (.ifCond .ne 10, 3) := by decide +kernel
theorem dX11_judge_34 : decode cX11_judge 34 = .ok (.aload_n 0, 1) := by decide +kernel
theorem dX11_judge_35 : decode cX11_judge 35 = .ok (.bipush (-11), 2) := by decide +kernel
theorem dX11_judge_37 : decode cX11_judge 37 = .ok (.invokevirtual 152, 3) := by decide +kernel
theorem dX11_judge_40 : decode cX11_judge 40 = .ok (.ireturn, 1) := by decide +kernel
theorem dX11_judge_41 : decode cX11_judge 41 = .ok (.aload_n 3, 1) := by decide +kernel
theorem dX11_judge_42 : decode cX11_judge 42 = .ok (.getfield 149, 3) := by decide +kernel
theorem dX11_judge_45 : decode cX11_judge 45 = .ok (.iconst 5, 1) := by decide +kernel
theorem dX11_judge_46 : decode cX11_judge 46 = .ok (.if_icmp .eq 10, 3) := by decide +kernel
theorem dX11_judge_49 : decode cX11_judge 49 = .ok (.aload_n 0, 1) := by decide +kernel
theorem dX11_judge_50 : decode cX11_judge 50 = .ok (.bipush (-12), 2) := by decide +kernel
theorem dX11_judge_52 : decode cX11_judge 52 = .ok (.invokevirtual 152, 3) := by decide +kernel
theorem dX11_judge_55 : decode cX11_judge 55 = .ok (.ireturn, 1) := by decide +kernel
theorem dX11_judge_56 : decode cX11_judge 56 = .ok (.iconst 0, 1) := by decide +kernel
theorem dX11_judge_57 : decode cX11_judge 57 = .ok (.istore 4, 2) := by decide +kernel
theorem dX11_judge_59 : decode cX11_judge 59 = .ok (.iconst 0, 1) := by decide +kernel
theorem dX11_judge_60 : decode cX11_judge 60 = .ok (.istore 5, 2) := by decide +kernel
theorem dX11_judge_62 : decode cX11_judge 62 = .ok (.iconst 0, 1) := by decide +kernel
theorem dX11_judge_63 : decode cX11_judge 63 = .ok (.istore 6, 2) := by decide +kernel
theorem dX11_judge_65 : decode cX11_judge 65 = .ok (.iload 6, 2) := by decide +kernel
theorem dX11_judge_67 : decode cX11_judge 67 = .ok (.aload_n 0, 1) := by decide +kernel
theorem dX11_judge_68 : decode cX11_judge 68 = .ok (.getfield 10, 3) := by decide +kernel
theorem dX11_judge_71 : decode cX11_judge 71 = .ok (.getfield 217, 3) := by decide +kernel
theorem dX11_judge_74 : decode cX11_judge 74 = .ok (.if_icmp .ge 76, 3) := by decide +kernel
theorem dX11_judge_77 : decode cX11_judge 77 = .ok (.iload 6, 2) := by decide +kernel
theorem dX11_judge_79 : decode cX11_judge 79 = .ok (.aload_n 3, 1) := by decide +kernel
theorem dX11_judge_80 : decode cX11_judge 80 = .ok (.getfield 155, 3) := by decide +kernel
theorem dX11_judge_83 : decode cX11_judge 83 = .ok (.if_icmp .ge 67, 3) := by decide +kernel
theorem dX11_judge_86 : decode cX11_judge 86 = .ok (.aload_n 3, 1) := by decide +kernel
theorem dX11_judge_87 : decode cX11_judge 87 = .ok (.getfield 392, 3) := by decide +kernel
theorem dX11_judge_90 : decode cX11_judge 90 = .ok (.iload 6, 2) := by decide +kernel
theorem dX11_judge_92 : decode cX11_judge 92 = .ok (.laload, 1) := by decide +kernel
theorem dX11_judge_93 : decode cX11_judge 93 = .ok (.lconst 0, 1) := by decide +kernel
theorem dX11_judge_94 : decode cX11_judge 94 = .ok (.lcmp, 1) := by decide +kernel
theorem dX11_judge_95 : decode cX11_judge 95 = .ok (.ifCond .ne 6, 3) := by decide +kernel
theorem dX11_judge_98 : decode cX11_judge 98 = .ok (.goto 46, 3) := by decide +kernel
theorem dX11_judge_101 : decode cX11_judge 101 = .ok (.iload 4, 2) := by decide +kernel
theorem dX11_judge_103 : decode cX11_judge 103 = .ok (.iconst 1, 1) := by decide +kernel
theorem dX11_judge_104 : decode cX11_judge 104 = .ok (.iload 6, 2) := by decide +kernel
theorem dX11_judge_106 : decode cX11_judge 106 = .ok (.ishl, 1) := by decide +kernel
theorem dX11_judge_107 : decode cX11_judge 107 = .ok (.ior, 1) := by decide +kernel
theorem dX11_judge_108 : decode cX11_judge 108 = .ok (.istore 4, 2) := by decide +kernel
theorem dX11_judge_110 : decode cX11_judge 110 = .ok (.iload 5, 2) := by decide +kernel
theorem dX11_judge_112 : decode cX11_judge 112 = .ok (.aload_n 0, 1) := by decide +kernel
theorem dX11_judge_113 : decode cX11_judge 113 = .ok (.getfield 10, 3) := by decide +kernel
theorem dX11_judge_116 : decode cX11_judge 116 = .ok (.aload_n 0, 1) := by decide +kernel
theorem dX11_judge_117 : decode cX11_judge 117 = .ok (.getfield 10, 3) := by decide +kernel
theorem dX11_judge_120 : decode cX11_judge 120 = .ok (.getfield 220, 3) := by decide +kernel
theorem dX11_judge_123 : decode cX11_judge 123 = .ok (.iload 6, 2) := by decide +kernel
theorem dX11_judge_125 : decode cX11_judge 125 = .ok (.aaload, 1) := by decide +kernel
theorem dX11_judge_126 : decode cX11_judge 126 = .ok (.invokevirtual 384, 3) := by decide +kernel
theorem dX11_judge_129 : decode cX11_judge 129 = .ok (.iadd, 1) := by decide +kernel
theorem dX11_judge_130 : decode cX11_judge 130 = .ok (.istore 5, 2) := by decide +kernel
theorem dX11_judge_132 : decode cX11_judge 132 = .ok (.iload 5, 2) := by decide +kernel
theorem dX11_judge_134 : decode cX11_judge 134 = .ok (.iload_n 2, 1) := by decide +kernel
theorem dX11_judge_135 : decode cX11_judge 135 = .ok (.if_icmp .le 9, 3) := by decide +kernel
theorem dX11_judge_138 : decode cX11_judge 138 = .ok (.bipush (-100), 2) := by decide +kernel
theorem dX11_judge_140 : decode cX11_judge 140 = .ok (.iload 6, 2) := by decide +kernel
theorem dX11_judge_142 : decode cX11_judge 142 = .ok (.isub, 1) := by decide +kernel
theorem dX11_judge_143 : decode cX11_judge 143 = .ok (.ireturn, 1) := by decide +kernel
theorem dX11_judge_144 : decode cX11_judge 144 = .ok (.iinc 6 1, 3) := by decide +kernel
theorem dX11_judge_147 : decode cX11_judge 147 = .ok (.goto (-82), 3) := by decide +kernel
theorem dX11_judge_150 : decode cX11_judge 150 = .ok (.aload_n 3, 1) := by decide +kernel
theorem dX11_judge_151 : decode cX11_judge 151 = .ok (.getfield 155, 3) := by decide +kernel
theorem dX11_judge_154 : decode cX11_judge 154 = .ok (.aload_n 0, 1) := by decide +kernel
theorem dX11_judge_155 : decode cX11_judge 155 = .ok (.getfield 10, 3) := by decide +kernel
theorem dX11_judge_158 : decode cX11_judge 158 = .ok (.getfield 217, 3) := by decide +kernel
theorem dX11_judge_161 : decode cX11_judge 161 = .ok (.if_icmp .ge 10, 3) := by decide +kernel
theorem dX11_judge_164 : decode cX11_judge 164 = .ok (.aload_n 0, 1) := by decide +kernel
theorem dX11_judge_165 : decode cX11_judge 165 = .ok (.bipush (-13), 2) := by decide +kernel
theorem dX11_judge_167 : decode cX11_judge 167 = .ok (.invokevirtual 152, 3) := by decide +kernel
theorem dX11_judge_170 : decode cX11_judge 170 = .ok (.ireturn, 1) := by decide +kernel
theorem dX11_judge_171 : decode cX11_judge 171 = .ok (.aload_n 0, 1) := by decide +kernel
theorem dX11_judge_172 : decode cX11_judge 172 = .ok (.getfield 19, 3) := by decide +kernel
theorem dX11_judge_175 : decode cX11_judge 175 = .ok (.aload_n 0, 1) := by decide +kernel
theorem dX11_judge_176 : decode cX11_judge 176 = .ok (.getfield 10, 3) := by decide +kernel
theorem dX11_judge_179 : decode cX11_judge 179 = .ok (.iload 4, 2) := by decide +kernel
theorem dX11_judge_181 : decode cX11_judge 181 = .ok (.invokevirtual 388, 3) := by decide +kernel
theorem dX11_judge_184 : decode cX11_judge 184 = .ok (.ireturn, 1) := by decide +kernel
set_option maxHeartbeats 4000000 in
set_option maxRecDepth 100000 in
theorem xX11_bears_e {K : KT} {v1 : Int32} {v2 : Int32} {w : Wd} {r : Int32} (G : GK K cX11_bears RX11 5 4) (M : Main K.ks) (hf : fX11_bears v1 v2 w = some r) (hr : RI K .int r w) : XW K 0 [some (.ref 0), some (.int v1), some (.int v2), none, none] [] w := by
  unfold fX11_bears at hf
  refine x_aload_n G dX11_bears_0 rfl rfl ?_
  refine x_iload_n G dX11_bears_1 rfl rfl ?_
  refine x_iload_n G dX11_bears_2 rfl rfl ?_
  obtain ⟨v_1, hv_1, hf⟩ := bnd hf
  refine x_virI G (As := [.int v1, .int v2]) (mX11_isOnLine G.2.2.2.2.2.2.1 M hv_1) mv_X11_235 (kd0 M) cl11 rfl rfl rfl rfl rfl dX11_bears_3 ?_
  refine x_ifneB G (tgt := 11) dX11_bears_6 (by decide) hf (fun c_2 hf => ?_) (fun c_2 hf => ?_)
  · refine x_aload_n G dX11_bears_11 rfl rfl ?_
    refine x_getR G (kd0 M) 0 (b := 1) rfl cl11 rfl wf_X11_10 dX11_bears_12 ?_
    refine x_getR G (kd1 M) 4 (b := 35) rfl cl0 rfl wf_X11_220 dX11_bears_15 ?_
    refine x_iload_n G dX11_bears_18 rfl rfl ?_
    refine x_aald G (kd35 M) (kn := 0) (by decide) dX11_bears_19 hf (fun hb_3 hf => ?_)
    refine x_astore_n G (lv' := [some (.ref 0), some (.int v1), some (.int v2), some (.ref (36 + 7 * (v1).toNatClampNeg)), none]) dX11_bears_20 rfl rfl rfl rfl ?_
    refine x_aload_n G dX11_bears_21 rfl rfl ?_
    refine x_getR G (lineOkM M hb_3).1 8 (b := ((36 + 7 * (v1).toNatClampNeg) + 4)) rfl cl5 rfl wf_X11_248 dX11_bears_22 ?_
    refine x_iload_n G dX11_bears_25 rfl rfl ?_
    refine x_iald G (lineOkM M hb_3).2.2.2.2.1 dX11_bears_26 hf (fun hb_4 hf => ?_)
    refine x_bipush G (v := -9) dX11_bears_27 (by decide) ?_
    refine x_icmpne G (tgt := 35) dX11_bears_29 (by decide) hf (fun c_5 hf => ?_) (fun c_5 hf => ?_)
    · refine x_bipush G (v := -4) dX11_bears_32 (by decide) ?_
      exact x_iretP G hf hr dX11_bears_34
    · refine x_aload_n G dX11_bears_35 rfl rfl ?_
      refine x_iload_n G dX11_bears_36 rfl rfl ?_
      refine x_aload_n G dX11_bears_37 rfl rfl ?_
      refine x_getR G (kd0 M) 0 (b := 1) rfl cl11 rfl wf_X11_10 dX11_bears_38 ?_
      refine x_aload_n G dX11_bears_41 rfl rfl ?_
      refine x_iload_n G dX11_bears_42 rfl rfl ?_
      obtain ⟨v_6, hv_6, hf⟩ := bnd hf
      refine x_virI G (As := [.ref (36 + 7 * (v1).toNatClampNeg), .int v2]) (mX0_depthOn G.2.2.2.2.2.2.1 M (lineOkM M hb_3) hv_6) mv_X11_264 (kd1 M) cl0 rfl rfl rfl rfl rfl dX11_bears_43 ?_
      obtain ⟨v_7, hv_7, hf⟩ := bnd hf
      refine x_virI G (As := [.int v2, .int v_6]) (mX5_firstBearing G.2.2.2.2.2.2.1 M (lineOkM M hb_3) hv_7) mv_X11_268 (lineOkM M hb_3).1 cl5 rfl rfl rfl rfl rfl dX11_bears_46 ?_
      refine x_istore G (lv' := [some (.ref 0), some (.int v1), some (.int v2), some (.ref (36 + 7 * (v1).toNatClampNeg)), some (.int v_7)]) dX11_bears_49 rfl rfl rfl ?_
      refine x_iload G dX11_bears_51 rfl ?_
      refine x_ifge G (tgt := 61) dX11_bears_53 (by decide) hf (fun c_8 hf => ?_) (fun c_8 hf => ?_)
      · refine x_bipush G (v := -3) dX11_bears_56 (by decide) ?_
        refine x_goto G (tgt := 63) dX11_bears_58 (by decide) ?_
        exact x_iretP G hf hr dX11_bears_63
      · refine x_iload G dX11_bears_61 rfl ?_
        exact x_iretP G hf hr dX11_bears_63
  · refine x_iconst G (v := -1) dX11_bears_9 (by decide) ?_
    exact x_iretP G hf hr dX11_bears_10

theorem mX11_bears {l : Launch} {S : KS} {w : Wd} (hI : Inj S) (M : Main S) {v1 : Int32} {v2 : Int32} {r : Int32} (hf : fX11_bears v1 v2 w = some r) : CI l yX11_bears cX11_bears 5 (some .int) 4 S [.ref 0, .int v1, .int v2] w r w := by
  intro sz
  refine mk_entry rfl (by decide +kernel) hI 2 rfl rfl (fun K h1 h2 h3 h4 h5 h6 G => ?_)
  subst h2
  exact xX11_bears_e G M hf ⟨h3, by rw [h4, h6], h5⟩

set_option maxHeartbeats 4000000 in
set_option maxRecDepth 100000 in
theorem xX11_begin_e {K : KT} {w : Wd} {r : Int32 × Wd} (G : GK K cX11_begin RX11 1 6) (M : Main K.ks) (hf : fX11_begin w = some r) (hr : RI K .int r.1 r.2) : XW K 0 [some (.ref 0)] [] w := by
  unfold fX11_begin at hf
  refine x_aload_n G dX11_begin_0 rfl rfl ?_
  refine x_getR G (kd0 M) 0 (b := 1) rfl cl11 rfl wf_X11_10 dX11_begin_1 ?_
  obtain ⟨v_1, hv_1, hf⟩ := bnd hf
  refine x_virV G (As := []) (mX0_restart G.2.2.2.2.2.2.1 M hv_1) mv_X11_68 (kd1 M) cl0 rfl rfl rfl rfl rfl dX11_begin_4 ?_
  refine x_aload_n G dX11_begin_7 rfl rfl ?_
  refine x_getR G (kd0 M) 2 (b := 100) rfl cl11 rfl wf_X11_26 dX11_begin_8 ?_
  refine x_iconst G (v := 0) dX11_begin_11 (by decide) ?_
  refine x_putI G (kd100 M) 0 rfl cl9 rfl wf_X11_71 rfl rfl rfl dX11_begin_12 ?_
  refine nwr hf (fun w_2 hf => ?_)
  refine x_aload_n G dX11_begin_15 rfl rfl ?_
  refine x_getR G (kd0 M) 3 (b := 102) rfl cl11 rfl wf_X11_33 dX11_begin_16 ?_
  refine x_iconst G (v := 0) dX11_begin_19 (by decide) ?_
  refine x_putI G (kd102 M) 0 rfl cl7 rfl wf_X11_74 rfl rfl rfl dX11_begin_20 ?_
  refine nwr hf (fun w_3 hf => ?_)
  refine x_aload_n G dX11_begin_23 rfl rfl ?_
  refine x_getR G (kd0 M) 4 (b := 106) rfl cl11 rfl wf_X11_40 dX11_begin_24 ?_
  refine x_iconst G (v := 0) dX11_begin_27 (by decide) ?_
  refine x_putI G (kd106 M) 0 rfl cl4 rfl wf_X11_75 rfl rfl rfl dX11_begin_28 ?_
  refine nwr hf (fun w_4 hf => ?_)
  refine x_aload_n G dX11_begin_31 rfl rfl ?_
  refine x_iconst G (v := 0) dX11_begin_32 (by decide) ?_
  refine x_putI G (kd0 M) 7 rfl cl11 rfl wf_X11_54 rfl rfl rfl dX11_begin_33 ?_
  refine nwr hf (fun w_5 hf => ?_)
  refine x_iconst G (v := 0) dX11_begin_36 (by decide) ?_
  exact x_iretW G hf hr dX11_begin_37

theorem mX11_begin {l : Launch} {S : KS} {w : Wd} (hI : Inj S) (M : Main S) {r : Int32 × Wd} (hf : fX11_begin w = some r) : CI l yX11_begin cX11_begin 1 (some .int) 6 S [.ref 0] w r.1 r.2 := by
  intro sz
  refine mk_entry rfl (by decide +kernel) hI 0 rfl rfl (fun K h1 h2 h3 h4 h5 h6 G => ?_)
  subst h2
  exact xX11_begin_e G M hf ⟨h3, by rw [h4, h6], h5⟩

set_option maxHeartbeats 4000000 in
set_option maxRecDepth 100000 in
theorem xX11_findBest_173 {K : KT} {v1 : Int32} {v2 : Int32} {v3 : Int32} {v4 : Int32} {w : Wd} {r : Wd} (G : GK K cX11_findBest RX11 5 5) (M : Main K.ks) (k69 : Int32 → Int32 → Wd → Option Wd) (hk69 : ∀ (v1 : Int32) (v2 : Int32) (w : Wd), k69 v1 v2 w = some r → XW K 69 [some (.ref 0), some (.int v1), some (.int v2), none, none] [] w) (hf : fX11_findBest_173 k69 v1 v2 v3 v4 w = some r) (hr : RV K r) : XW K 173 [some (.ref 0), some (.int v1), some (.int v2), some (.int v3), some (.int v4)] [] w := by
  unfold fX11_findBest_173 at hf
  refine x_aload_n G dX11_findBest_173 rfl rfl ?_
  refine x_iload_n G dX11_findBest_174 rfl rfl ?_
  refine x_putI G (kd0 M) 8 rfl cl11 rfl wf_X11_58 rfl rfl rfl dX11_findBest_175 ?_
  refine nwr hf (fun w_1 hf => ?_)
  refine x_aload_n G dX11_findBest_178 rfl rfl ?_
  refine x_iload G dX11_findBest_179 rfl ?_
  refine x_putI G (kd0 M) 9 rfl cl11 rfl wf_X11_61 rfl rfl rfl dX11_findBest_181 ?_
  refine nwr hf (fun w_2 hf => ?_)
  refine x_aload_n G dX11_findBest_184 rfl rfl ?_
  refine x_iload_n G dX11_findBest_185 rfl rfl ?_
  refine x_putI G (kd0 M) 10 rfl cl11 rfl wf_X11_64 rfl rfl rfl dX11_findBest_186 ?_
  refine nwr hf (fun w_3 hf => ?_)
  refine x_iinc G (lv' := [some (.ref 0), some (.int v1), some (.int (v2 + (1 : Int32))), some (.int v3), some (.int v4)]) (v := 1) dX11_findBest_189 rfl (by decide) rfl rfl rfl ?_
  refine x_goto G (tgt := 69) dX11_findBest_192 (by decide) ?_
  exact XW.sub (lv' := [some (.ref 0), some (.int v1), some (.int (v2 + (1 : Int32))), none, none]) (And.intro rfl (And.intro rfl (And.intro rfl trivial))) (hk69 _ _ _ hf)

set_option maxHeartbeats 4000000 in
set_option maxRecDepth 100000 in
theorem xX11_findBest_87 {K : KT} {r : Wd} (G : GK K cX11_findBest RX11 5 5) (M : Main K.ks) (k69 : Int32 → Int32 → Wd → Option Wd) (hk69 : ∀ (v1 : Int32) (v2 : Int32) (w : Wd), k69 v1 v2 w = some r → XW K 69 [some (.ref 0), some (.int v1), some (.int v2), none, none] [] w) (hr : RV K r) : ∀ (n : Nat) (v1 : Int32) (v2 : Int32) (v3 : Int32) (v4 : Int32) (w : Wd), fX11_findBest_87 k69 n v1 v2 v3 v4 w = some r → XW K 87 [some (.ref 0), some (.int v1), some (.int v2), some (.int v3), some (.int v4)] [] w := by
  intro n
  induction n with
  | zero =>
    intro v1 v2 v3 v4 w hf
    unfold fX11_findBest_87 at hf
    cases hf
  | succ n ih =>
    intro v1 v2 v3 v4 w hf
    unfold fX11_findBest_87 at hf
    refine x_iload G dX11_findBest_87 rfl ?_
    refine x_aload_n G dX11_findBest_89 rfl rfl ?_
    refine x_getR G (kd0 M) 0 (b := 1) rfl cl11 rfl wf_X11_10 dX11_findBest_90 ?_
    refine x_getI G (kd1 M) 5 rfl cl0 rfl wf_X11_217 dX11_findBest_93 ?_
    refine x_icmpge G (tgt := 125) dX11_findBest_96 (by decide) hf (fun c_1 hf => ?_) (fun c_1 hf => ?_)
    · refine x_iload_n G dX11_findBest_99 rfl rfl ?_
      refine x_iload G dX11_findBest_100 rfl ?_
      refine x_ishr G dX11_findBest_102 ?_
      refine x_iconst G (v := 1) dX11_findBest_103 (by decide) ?_
      refine x_iand G dX11_findBest_104 ?_
      refine x_iconst G (v := 1) dX11_findBest_105 (by decide) ?_
      refine x_icmpne G (tgt := 119) dX11_findBest_106 (by decide) hf (fun c_2 hf => ?_) (fun c_2 hf => ?_)
      · refine x_iload_n G dX11_findBest_109 rfl rfl ?_
        refine x_aload_n G dX11_findBest_110 rfl rfl ?_
        refine x_getR G (kd0 M) 6 (b := 147) rfl cl11 rfl wf_X11_50 dX11_findBest_111 ?_
        refine x_iload G dX11_findBest_114 rfl ?_
        refine x_iald G (kd147 M) dX11_findBest_116 hf (fun hb_3 hf => ?_)
        refine x_iadd G dX11_findBest_117 ?_
        refine x_istore_n G (lv' := [some (.ref 0), some (.int v1), some (.int v2), some (.int (v3 + (ri w 147 v4))), some (.int v4)]) dX11_findBest_118 rfl rfl rfl rfl ?_
        refine x_iinc G (lv' := [some (.ref 0), some (.int v1), some (.int v2), some (.int (v3 + (ri w 147 v4))), some (.int (v4 + (1 : Int32)))]) (v := 1) dX11_findBest_119 rfl (by decide) rfl rfl rfl ?_
        refine x_goto G (tgt := 87) dX11_findBest_122 (by decide) ?_
        exact XW.sub (lv' := [some (.ref 0), some (.int v1), some (.int v2), some (.int (v3 + (ri w 147 v4))), some (.int (v4 + (1 : Int32)))]) (And.intro rfl (And.intro rfl (And.intro rfl (And.intro rfl (And.intro rfl trivial))))) (ih _ _ _ _ _ hf)
      · refine x_iinc G (lv' := [some (.ref 0), some (.int v1), some (.int v2), some (.int v3), some (.int (v4 + (1 : Int32)))]) (v := 1) dX11_findBest_119 rfl (by decide) rfl rfl rfl ?_
        refine x_goto G (tgt := 87) dX11_findBest_122 (by decide) ?_
        exact XW.sub (lv' := [some (.ref 0), some (.int v1), some (.int v2), some (.int v3), some (.int (v4 + (1 : Int32)))]) (And.intro rfl (And.intro rfl (And.intro rfl (And.intro rfl (And.intro rfl trivial))))) (ih _ _ _ _ _ hf)
    · refine x_iload_n G dX11_findBest_125 rfl rfl ?_
      refine x_iload_n G dX11_findBest_126 rfl rfl ?_
      refine x_icmple G (tgt := 133) dX11_findBest_127 (by decide) hf (fun c_4 hf => ?_) (fun c_4 hf => ?_)
      · refine x_goto G (tgt := 189) dX11_findBest_130 (by decide) ?_
        refine x_iinc G (lv' := [some (.ref 0), some (.int v1), some (.int (v2 + (1 : Int32))), some (.int v3), some (.int v4)]) (v := 1) dX11_findBest_189 rfl (by decide) rfl rfl rfl ?_
        refine x_goto G (tgt := 69) dX11_findBest_192 (by decide) ?_
        exact XW.sub (lv' := [some (.ref 0), some (.int v1), some (.int (v2 + (1 : Int32))), none, none]) (And.intro rfl (And.intro rfl (And.intro rfl trivial))) (hk69 _ _ _ hf)
      · refine x_aload_n G dX11_findBest_133 rfl rfl ?_
        refine x_getR G (kd0 M) 1 (b := 92) rfl cl11 rfl wf_X11_19 dX11_findBest_134 ?_
        refine x_aload_n G dX11_findBest_137 rfl rfl ?_
        refine x_getR G (kd0 M) 0 (b := 1) rfl cl11 rfl wf_X11_10 dX11_findBest_138 ?_
        refine x_iload_n G dX11_findBest_141 rfl rfl ?_
        obtain ⟨v_5, hv_5, hf⟩ := bnd hf
        refine x_virI G (As := [.ref 1, .int v2]) (mX1_peopleFouled G.2.2.2.2.2.2.1 M hv_5) mv_X11_388 (kd92 M) cl1 rfl rfl rfl rfl rfl dX11_findBest_142 ?_
        refine x_istore G (lv' := [some (.ref 0), some (.int v1), some (.int v2), some (.int v3), some (.int v_5.1)]) dX11_findBest_145 rfl rfl rfl ?_
        refine x_iload G dX11_findBest_147 rfl ?_
        refine x_aload_n G dX11_findBest_149 rfl rfl ?_
        refine x_getI G (kd0 M) 9 rfl cl11 rfl wf_X11_61 dX11_findBest_150 ?_
        refine x_icmplt G (tgt := 173) dX11_findBest_153 (by decide) hf (fun c_6 hf => ?_) (fun c_6 hf => ?_)
        · exact XW.sub (lv' := [some (.ref 0), some (.int v1), some (.int v2), some (.int v3), some (.int v_5.1)]) (And.intro rfl (And.intro rfl (And.intro rfl (And.intro rfl (And.intro rfl trivial))))) (xX11_findBest_173 G M k69 hk69 hf hr)
        · refine x_iload G dX11_findBest_156 rfl ?_
          refine x_aload_n G dX11_findBest_158 rfl rfl ?_
          refine x_getI G (kd0 M) 9 rfl cl11 rfl wf_X11_61 dX11_findBest_159 ?_
          refine x_icmpne G (tgt := 189) dX11_findBest_162 (by decide) hf (fun c_7 hf => ?_) (fun c_7 hf => ?_)
          · refine x_iload_n G dX11_findBest_165 rfl rfl ?_
            refine x_aload_n G dX11_findBest_166 rfl rfl ?_
            refine x_getI G (kd0 M) 10 rfl cl11 rfl wf_X11_64 dX11_findBest_167 ?_
            refine x_icmpge G (tgt := 189) dX11_findBest_170 (by decide) hf (fun c_8 hf => ?_) (fun c_8 hf => ?_)
            · exact XW.sub (lv' := [some (.ref 0), some (.int v1), some (.int v2), some (.int v3), some (.int v_5.1)]) (And.intro rfl (And.intro rfl (And.intro rfl (And.intro rfl (And.intro rfl trivial))))) (xX11_findBest_173 G M k69 hk69 hf hr)
            · refine x_iinc G (lv' := [some (.ref 0), some (.int v1), some (.int (v2 + (1 : Int32))), some (.int v3), some (.int v_5.1)]) (v := 1) dX11_findBest_189 rfl (by decide) rfl rfl rfl ?_
              refine x_goto G (tgt := 69) dX11_findBest_192 (by decide) ?_
              exact XW.sub (lv' := [some (.ref 0), some (.int v1), some (.int (v2 + (1 : Int32))), none, none]) (And.intro rfl (And.intro rfl (And.intro rfl trivial))) (hk69 _ _ _ hf)
          · refine x_iinc G (lv' := [some (.ref 0), some (.int v1), some (.int (v2 + (1 : Int32))), some (.int v3), some (.int v_5.1)]) (v := 1) dX11_findBest_189 rfl (by decide) rfl rfl rfl ?_
            refine x_goto G (tgt := 69) dX11_findBest_192 (by decide) ?_
            exact XW.sub (lv' := [some (.ref 0), some (.int v1), some (.int (v2 + (1 : Int32))), none, none]) (And.intro rfl (And.intro rfl (And.intro rfl trivial))) (hk69 _ _ _ hf)

set_option maxHeartbeats 4000000 in
set_option maxRecDepth 100000 in
theorem xX11_findBest_69 {K : KT} {r : Wd} (G : GK K cX11_findBest RX11 5 5) (M : Main K.ks) (hr : RV K r) : ∀ (n : Nat) (v1 : Int32) (v2 : Int32) (w : Wd), fX11_findBest_69 n v1 v2 w = some r → XW K 69 [some (.ref 0), some (.int v1), some (.int v2), none, none] [] w := by
  intro n
  induction n with
  | zero =>
    intro v1 v2 w hf
    unfold fX11_findBest_69 at hf
    cases hf
  | succ n ih =>
    intro v1 v2 w hf
    unfold fX11_findBest_69 at hf
    refine x_iload_n G dX11_findBest_69 rfl rfl ?_
    refine x_iconst G (v := 1) dX11_findBest_70 (by decide) ?_
    refine x_aload_n G dX11_findBest_71 rfl rfl ?_
    refine x_getR G (kd0 M) 0 (b := 1) rfl cl11 rfl wf_X11_10 dX11_findBest_72 ?_
    refine x_getI G (kd1 M) 5 rfl cl0 rfl wf_X11_217 dX11_findBest_75 ?_
    refine x_ishl G dX11_findBest_78 ?_
    refine x_icmpge G (tgt := 195) dX11_findBest_79 (by decide) hf (fun c_1 hf => ?_) (fun c_1 hf => ?_)
    · refine x_iconst G (v := 0) dX11_findBest_82 (by decide) ?_
      refine x_istore_n G (lv' := [some (.ref 0), some (.int v1), some (.int v2), some (.int (0 : Int32)), none]) dX11_findBest_83 rfl rfl rfl rfl ?_
      refine x_iconst G (v := 0) dX11_findBest_84 (by decide) ?_
      refine x_istore G (lv' := [some (.ref 0), some (.int v1), some (.int v2), some (.int (0 : Int32)), some (.int (0 : Int32))]) dX11_findBest_85 rfl rfl rfl ?_
      exact XW.sub (lv' := [some (.ref 0), some (.int v1), some (.int v2), some (.int (0 : Int32)), some (.int (0 : Int32))]) (And.intro rfl (And.intro rfl (And.intro rfl (And.intro rfl (And.intro rfl trivial))))) (xX11_findBest_87 G M (fX11_findBest_69 n) ih hr FU _ _ _ _ _ hf)
    · exact x_vretW G hf hr dX11_findBest_195

set_option maxHeartbeats 4000000 in
set_option maxRecDepth 100000 in
theorem xX11_findBest_2 {K : KT} {r : Wd} (G : GK K cX11_findBest RX11 5 5) (M : Main K.ks) (hr : RV K r) : ∀ (n : Nat) (v1 : Int32) (v2 : Int32) (w : Wd), fX11_findBest_2 n v1 v2 w = some r → XW K 2 [some (.ref 0), some (.int v1), some (.int v2), none, none] [] w := by
  intro n
  induction n with
  | zero =>
    intro v1 v2 w hf
    unfold fX11_findBest_2 at hf
    cases hf
  | succ n ih =>
    intro v1 v2 w hf
    unfold fX11_findBest_2 at hf
    refine x_iload_n G dX11_findBest_2 rfl rfl ?_
    refine x_aload_n G dX11_findBest_3 rfl rfl ?_
    refine x_getR G (kd0 M) 0 (b := 1) rfl cl11 rfl wf_X11_10 dX11_findBest_4 ?_
    refine x_getI G (kd1 M) 5 rfl cl0 rfl wf_X11_217 dX11_findBest_7 ?_
    refine x_icmpge G (tgt := 41) dX11_findBest_10 (by decide) hf (fun c_1 hf => ?_) (fun c_1 hf => ?_)
    · refine x_aload_n G dX11_findBest_13 rfl rfl ?_
      refine x_getR G (kd0 M) 6 (b := 147) rfl cl11 rfl wf_X11_50 dX11_findBest_14 ?_
      refine x_iload_n G dX11_findBest_17 rfl rfl ?_
      refine x_aload_n G dX11_findBest_18 rfl rfl ?_
      refine x_getR G (kd0 M) 0 (b := 1) rfl cl11 rfl wf_X11_10 dX11_findBest_19 ?_
      refine x_aload_n G dX11_findBest_22 rfl rfl ?_
      refine x_getR G (kd0 M) 0 (b := 1) rfl cl11 rfl wf_X11_10 dX11_findBest_23 ?_
      refine x_getR G (kd1 M) 4 (b := 35) rfl cl0 rfl wf_X11_220 dX11_findBest_26 ?_
      refine x_iload_n G dX11_findBest_29 rfl rfl ?_
      refine x_aald G (kd35 M) (kn := 0) (by decide) dX11_findBest_30 hf (fun hb_2 hf => ?_)
      obtain ⟨v_3, hv_3, hf⟩ := bnd hf
      refine x_virI G (As := [.ref (36 + 7 * (v2).toNatClampNeg)]) (mX0_costOf G.2.2.2.2.2.2.1 M (lineOkM M hb_2) hv_3) mv_X11_384 (kd1 M) cl0 rfl rfl rfl rfl rfl dX11_findBest_31 ?_
      refine x_iast0 G (kd147 M) dX11_findBest_34 hb_2 ?_
      refine nwr hf (fun w_4 hf => ?_)
      refine x_iinc G (lv' := [some (.ref 0), some (.int v1), some (.int (v2 + (1 : Int32))), none, none]) (v := 1) dX11_findBest_35 rfl (by decide) rfl rfl rfl ?_
      refine x_goto G (tgt := 2) dX11_findBest_38 (by decide) ?_
      exact XW.sub (lv' := [some (.ref 0), some (.int v1), some (.int (v2 + (1 : Int32))), none, none]) (And.intro rfl (And.intro rfl (And.intro rfl trivial))) (ih _ _ _ hf)
    · refine x_aload_n G dX11_findBest_41 rfl rfl ?_
      refine x_iconst G (v := 0) dX11_findBest_42 (by decide) ?_
      refine x_putI G (kd0 M) 8 rfl cl11 rfl wf_X11_58 rfl rfl rfl dX11_findBest_43 ?_
      refine nwr hf (fun w_5 hf => ?_)
      refine x_aload_n G dX11_findBest_46 rfl rfl ?_
      refine x_iconst G (v := 0) dX11_findBest_47 (by decide) ?_
      refine x_putI G (kd0 M) 10 rfl cl11 rfl wf_X11_64 rfl rfl rfl dX11_findBest_48 ?_
      refine nwr hf (fun w_6 hf => ?_)
      refine x_aload_n G dX11_findBest_51 rfl rfl ?_
      refine x_aload_n G dX11_findBest_52 rfl rfl ?_
      refine x_getR G (kd0 M) 1 (b := 92) rfl cl11 rfl wf_X11_19 dX11_findBest_53 ?_
      refine x_aload_n G dX11_findBest_56 rfl rfl ?_
      refine x_getR G (kd0 M) 0 (b := 1) rfl cl11 rfl wf_X11_10 dX11_findBest_57 ?_
      refine x_iconst G (v := 0) dX11_findBest_60 (by decide) ?_
      obtain ⟨v_7, hv_7, hf⟩ := bnd hf
      refine x_virI G (As := [.ref 1, .int (0 : Int32)]) (mX1_peopleFouled G.2.2.2.2.2.2.1 M hv_7) mv_X11_388 (kd92 M) cl1 rfl rfl rfl rfl rfl dX11_findBest_61 ?_
      refine x_putI G (kd0 M) 9 rfl cl11 rfl wf_X11_61 rfl rfl rfl dX11_findBest_64 ?_
      refine nwr hf (fun w_8 hf => ?_)
      refine x_iconst G (v := 1) dX11_findBest_67 (by decide) ?_
      refine x_istore_n G (lv' := [some (.ref 0), some (.int v1), some (.int (1 : Int32)), none, none]) dX11_findBest_68 rfl rfl rfl rfl ?_
      exact XW.sub (lv' := [some (.ref 0), some (.int v1), some (.int (1 : Int32)), none, none]) (And.intro rfl (And.intro rfl (And.intro rfl trivial))) (xX11_findBest_69 G M hr FU _ _ _ hf)

set_option maxHeartbeats 4000000 in
set_option maxRecDepth 100000 in
theorem xX11_findBest_e {K : KT} {v1 : Int32} {w : Wd} {r : Wd} (G : GK K cX11_findBest RX11 5 5) (M : Main K.ks) (hf : fX11_findBest v1 w = some r) (hr : RV K r) : XW K 0 [some (.ref 0), some (.int v1), none, none, none] [] w := by
  unfold fX11_findBest at hf
  refine x_iconst G (v := 0) dX11_findBest_0 (by decide) ?_
  refine x_istore_n G (lv' := [some (.ref 0), some (.int v1), some (.int (0 : Int32)), none, none]) dX11_findBest_1 rfl rfl rfl rfl ?_
  exact XW.sub (lv' := [some (.ref 0), some (.int v1), some (.int (0 : Int32)), none, none]) (And.intro rfl (And.intro rfl (And.intro rfl trivial))) (xX11_findBest_2 G M hr FU _ _ _ hf)

theorem mX11_findBest {l : Launch} {S : KS} {w : Wd} (hI : Inj S) (M : Main S) {v1 : Int32} {r : Wd} (hf : fX11_findBest v1 w = some r) : CV l yX11_findBest cX11_findBest 5 none 5 S [.ref 0, .int v1] w r := by
  intro sz
  refine mk_entry rfl (by decide +kernel) hI 3 rfl rfl (fun K h1 h2 h3 h4 h5 h6 G => ?_)
  subst h2
  exact xX11_findBest_e G M hf ⟨h3, by rw [h4, h6], h5⟩

set_option maxHeartbeats 4000000 in
set_option maxRecDepth 100000 in
theorem xX11_best_e {K : KT} {v1 : Int32} {v2 : Int32} {w : Wd} {r : Int32 × Wd} (G : GK K cX11_best RX11 3 6) (M : Main K.ks) (hf : fX11_best v1 v2 w = some r) (hr : RI K .int r.1 r.2) : XW K 0 [some (.ref 0), some (.int v1), some (.int v2)] [] w := by
  unfold fX11_best at hf
  refine x_iload_n G dX11_best_0 rfl rfl ?_
  refine x_iconst G (v := 0) dX11_best_1 (by decide) ?_
  refine x_ldcw G wc_X11_380 dX11_best_2 ?_
  obtain ⟨v_1, hv_1, hf⟩ := bnd hf
  refine x_staI G (As := [.int v1, .int (0 : Int32), .int (9999999 : Int32)]) (mX11_within G.2.2.2.2.2.2.1 M hv_1) ms_X11_96 rfl rfl rfl rfl rfl dX11_best_5 ?_
  refine x_ifeqB G (tgt := 20) dX11_best_8 (by decide) hf (fun c_2 hf => ?_) (fun c_2 hf => ?_)
  · refine x_iload_n G dX11_best_11 rfl rfl ?_
    refine x_iconst G (v := 0) dX11_best_12 (by decide) ?_
    refine x_iconst G (v := 2) dX11_best_13 (by decide) ?_
    obtain ⟨v_3, hv_3, hf⟩ := bnd hf
    refine x_staI G (As := [.int v2, .int (0 : Int32), .int (2 : Int32)]) (mX11_within G.2.2.2.2.2.2.1 M hv_3) ms_X11_96 rfl rfl rfl rfl rfl dX11_best_14 ?_
    refine x_ifneB G (tgt := 22) dX11_best_17 (by decide) hf (fun c_4 hf => ?_) (fun c_4 hf => ?_)
    · refine x_aload_n G dX11_best_22 rfl rfl ?_
      refine x_iload_n G dX11_best_23 rfl rfl ?_
      obtain ⟨v_5, hv_5, hf⟩ := bnd hf
      refine x_virV G (As := [.int v1]) (mX11_findBest G.2.2.2.2.2.2.1 M hv_5) mv_X11_381 (kd0 M) cl11 rfl rfl rfl rfl rfl dX11_best_24 ?_
      refine x_iload_n G dX11_best_27 rfl rfl ?_
      refine x_ifne G (tgt := 36) dX11_best_28 (by decide) hf (fun c_6 hf => ?_) (fun c_6 hf => ?_)
      · refine x_aload_n G dX11_best_31 rfl rfl ?_
        refine x_getI G (kd0 M) 8 rfl cl11 rfl wf_X11_58 dX11_best_32 ?_
        exact x_iretW G hf hr dX11_best_35
      · refine x_iload_n G dX11_best_36 rfl rfl ?_
        refine x_iconst G (v := 1) dX11_best_37 (by decide) ?_
        refine x_icmpne G (tgt := 48) dX11_best_38 (by decide) hf (fun c_7 hf => ?_) (fun c_7 hf => ?_)
        · refine x_aload_n G dX11_best_41 rfl rfl ?_
          refine x_getI G (kd0 M) 9 rfl cl11 rfl wf_X11_61 dX11_best_42 ?_
          refine x_goto G (tgt := 52) dX11_best_45 (by decide) ?_
          exact x_iretW G hf hr dX11_best_52
        · refine x_aload_n G dX11_best_48 rfl rfl ?_
          refine x_getI G (kd0 M) 10 rfl cl11 rfl wf_X11_64 dX11_best_49 ?_
          exact x_iretW G hf hr dX11_best_52
    · refine x_iconst G (v := -1) dX11_best_20 (by decide) ?_
      exact x_iretW G hf hr dX11_best_21
  · refine x_iconst G (v := -1) dX11_best_20 (by decide) ?_
    exact x_iretW G hf hr dX11_best_21

theorem mX11_best {l : Launch} {S : KS} {w : Wd} (hI : Inj S) (M : Main S) {v1 : Int32} {v2 : Int32} {r : Int32 × Wd} (hf : fX11_best v1 v2 w = some r) : CI l yX11_best cX11_best 3 (some .int) 6 S [.ref 0, .int v1, .int v2] w r.1 r.2 := by
  intro sz
  refine mk_entry rfl (by decide +kernel) hI 0 rfl rfl (fun K h1 h2 h3 h4 h5 h6 G => ?_)
  subst h2
  exact xX11_best_e G M hf ⟨h3, by rw [h4, h6], h5⟩

set_option maxHeartbeats 4000000 in
set_option maxRecDepth 100000 in
theorem xX11_bridge_e {K : KT} {v1 : Int32} {w : Wd} {r : Int32 × Wd} (G : GK K cX11_bridge RX11 3 3) (M : Main K.ks) (hf : fX11_bridge v1 w = some r) (hr : RI K .int r.1 r.2) : XW K 0 [some (.ref 0), some (.int v1), none] [] w := by
  unfold fX11_bridge at hf
  refine x_iload_n G dX11_bridge_0 rfl rfl ?_
  obtain ⟨v_1, hv_1, hf⟩ := bnd hf
  refine x_staI G (As := [.int v1]) (mX11_isCell G.2.2.2.2.2.2.1 M hv_1) ms_X11_88 rfl rfl rfl rfl rfl dX11_bridge_1 ?_
  refine x_ifneB G (tgt := 9) dX11_bridge_4 (by decide) hf (fun c_2 hf => ?_) (fun c_2 hf => ?_)
  · refine x_aload_n G dX11_bridge_9 rfl rfl ?_
    refine x_getR G (kd0 M) 0 (b := 1) rfl cl11 rfl wf_X11_10 dX11_bridge_10 ?_
    refine x_getI G (kd1 M) 9 rfl cl0 rfl wf_X11_359 dX11_bridge_13 ?_
    refine x_istore_n G (lv' := [some (.ref 0), some (.int v1), some (.int (w.1 1 9))]) dX11_bridge_16 rfl rfl rfl rfl ?_
    refine x_aload_n G dX11_bridge_17 rfl rfl ?_
    refine x_getR G (kd0 M) 0 (b := 1) rfl cl11 rfl wf_X11_10 dX11_bridge_18 ?_
    refine x_iload_n G dX11_bridge_21 rfl rfl ?_
    refine x_putI G (kd1 M) 9 rfl cl0 rfl wf_X11_359 rfl rfl rfl dX11_bridge_22 ?_
    refine nwr hf (fun w_3 hf => ?_)
    refine x_iload_n G dX11_bridge_25 rfl rfl ?_
    exact x_iretW G hf hr dX11_bridge_26
  · refine x_iconst G (v := -1) dX11_bridge_7 (by decide) ?_
    exact x_iretW G hf hr dX11_bridge_8

theorem mX11_bridge {l : Launch} {S : KS} {w : Wd} (hI : Inj S) (M : Main S) {v1 : Int32} {r : Int32 × Wd} (hf : fX11_bridge v1 w = some r) : CI l yX11_bridge cX11_bridge 3 (some .int) 3 S [.ref 0, .int v1] w r.1 r.2 := by
  intro sz
  refine mk_entry rfl (by decide +kernel) hI 1 rfl rfl (fun K h1 h2 h3 h4 h5 h6 G => ?_)
  subst h2
  exact xX11_bridge_e G M hf ⟨h3, by rw [h4, h6], h5⟩

set_option maxHeartbeats 4000000 in
set_option maxRecDepth 100000 in
theorem xX11_carries_e {K : KT} {v1 : Int32} {w : Wd} {r : Int32} (G : GK K cX11_carries RX11 2 3) (M : Main K.ks) (hf : fX11_carries v1 w = some r) (hr : RI K .int r w) : XW K 0 [some (.ref 0), some (.int v1)] [] w := by
  unfold fX11_carries at hf
  refine x_aload_n G dX11_carries_0 rfl rfl ?_
  refine x_iload_n G dX11_carries_1 rfl rfl ?_
  obtain ⟨v_1, hv_1, hf⟩ := bnd hf
  refine x_virI G (As := [.int v1]) (mX11_isLine G.2.2.2.2.2.2.1 M hv_1) mv_X11_230 (kd0 M) cl11 rfl rfl rfl rfl rfl dX11_carries_2 ?_
  refine x_ifneB G (tgt := 10) dX11_carries_5 (by decide) hf (fun c_2 hf => ?_) (fun c_2 hf => ?_)
  · refine x_aload_n G dX11_carries_10 rfl rfl ?_
    refine x_getR G (kd0 M) 0 (b := 1) rfl cl11 rfl wf_X11_10 dX11_carries_11 ?_
    refine x_aload_n G dX11_carries_14 rfl rfl ?_
    refine x_getR G (kd0 M) 0 (b := 1) rfl cl11 rfl wf_X11_10 dX11_carries_15 ?_
    refine x_getR G (kd1 M) 4 (b := 35) rfl cl0 rfl wf_X11_220 dX11_carries_18 ?_
    refine x_iload_n G dX11_carries_21 rfl rfl ?_
    refine x_aald G (kd35 M) (kn := 0) (by decide) dX11_carries_22 hf (fun hb_3 hf => ?_)
    obtain ⟨v_4, hv_4, hf⟩ := bnd hf
    refine x_virI G (As := [.ref (36 + 7 * (v1).toNatClampNeg)]) (mX0_lineCarries G.2.2.2.2.2.2.1 M (lineOkM M hb_3) hv_4) mv_X11_271 (kd1 M) cl0 rfl rfl rfl rfl rfl dX11_carries_23 ?_
    refine x_ifeqB G (tgt := 33) dX11_carries_26 (by decide) hf (fun c_5 hf => ?_) (fun c_5 hf => ?_)
    · refine x_iconst G (v := 1) dX11_carries_29 (by decide) ?_
      refine x_goto G (tgt := 34) dX11_carries_30 (by decide) ?_
      exact x_iretP G hf hr dX11_carries_34
    · refine x_iconst G (v := 0) dX11_carries_33 (by decide) ?_
      exact x_iretP G hf hr dX11_carries_34
  · refine x_iconst G (v := -1) dX11_carries_8 (by decide) ?_
    exact x_iretP G hf hr dX11_carries_9

theorem mX11_carries {l : Launch} {S : KS} {w : Wd} (hI : Inj S) (M : Main S) {v1 : Int32} {r : Int32} (hf : fX11_carries v1 w = some r) : CI l yX11_carries cX11_carries 2 (some .int) 3 S [.ref 0, .int v1] w r w := by
  intro sz
  refine mk_entry rfl (by decide +kernel) hI 0 rfl rfl (fun K h1 h2 h3 h4 h5 h6 G => ?_)
  subst h2
  exact xX11_carries_e G M hf ⟨h3, by rw [h4, h6], h5⟩

set_option maxHeartbeats 4000000 in
set_option maxRecDepth 100000 in
theorem xX11_clear_e {K : KT} {v1 : Int32} {w : Wd} {r : Int32 × Wd} (G : GK K cX11_clear RX11 3 3) (M : Main K.ks) (hf : fX11_clear v1 w = some r) (hr : RI K .int r.1 r.2) : XW K 0 [some (.ref 0), some (.int v1), none] [] w := by
  unfold fX11_clear at hf
  refine x_iload_n G dX11_clear_0 rfl rfl ?_
  obtain ⟨v_1, hv_1, hf⟩ := bnd hf
  refine x_staI G (As := [.int v1]) (mX11_isTape G.2.2.2.2.2.2.1 M hv_1) ms_X11_146 rfl rfl rfl rfl rfl dX11_clear_1 ?_
  refine x_ifneB G (tgt := 9) dX11_clear_4 (by decide) hf (fun c_2 hf => ?_) (fun c_2 hf => ?_)
  · refine x_aload_n G dX11_clear_9 rfl rfl ?_
    refine x_getR G (kd0 M) 5 (b := 134) rfl cl11 rfl wf_X11_46 dX11_clear_10 ?_
    refine x_iload_n G dX11_clear_13 rfl rfl ?_
    refine x_aald G (kd134 M) (kn := 1) (by decide) dX11_clear_14 hf (fun hb_3 hf => ?_)
    refine x_getI G (tapeOk M hb_3).1 0 rfl cl8 rfl wf_X11_149 dX11_clear_15 ?_
    refine x_istore_n G (lv' := [some (.ref 0), some (.int v1), some (.int (w.1 (135 + 2 * (v1).toNatClampNeg) 0))]) dX11_clear_18 rfl rfl rfl rfl ?_
    refine x_aload_n G dX11_clear_19 rfl rfl ?_
    refine x_getR G (kd0 M) 5 (b := 134) rfl cl11 rfl wf_X11_46 dX11_clear_20 ?_
    refine x_iload_n G dX11_clear_23 rfl rfl ?_
    refine x_aald0 G (kd134 M) (kn := 1) (by decide) dX11_clear_24 hb_3 ?_
    refine x_iconst G (v := 0) dX11_clear_25 (by decide) ?_
    refine x_putI G (tapeOk M hb_3).1 0 rfl cl8 rfl wf_X11_149 rfl rfl rfl dX11_clear_26 ?_
    refine nwr hf (fun w_4 hf => ?_)
    refine x_aload_n G dX11_clear_29 rfl rfl ?_
    refine x_getR G (kd0 M) 5 (b := 134) rfl cl11 rfl wf_X11_46 dX11_clear_30 ?_
    refine x_iload_n G dX11_clear_33 rfl rfl ?_
    refine x_aald0 G (kd134 M) (kn := 1) (by decide) dX11_clear_34 hb_3 ?_
    refine x_iconst G (v := 0) dX11_clear_35 (by decide) ?_
    refine x_putI G (tapeOk M hb_3).1 1 rfl cl8 rfl wf_X11_155 rfl rfl rfl dX11_clear_36 ?_
    refine nwr hf (fun w_5 hf => ?_)
    refine x_iload_n G dX11_clear_39 rfl rfl ?_
    exact x_iretW G hf hr dX11_clear_40
  · refine x_iconst G (v := -1) dX11_clear_7 (by decide) ?_
    exact x_iretW G hf hr dX11_clear_8

theorem mX11_clear {l : Launch} {S : KS} {w : Wd} (hI : Inj S) (M : Main S) {v1 : Int32} {r : Int32 × Wd} (hf : fX11_clear v1 w = some r) : CI l yX11_clear cX11_clear 3 (some .int) 3 S [.ref 0, .int v1] w r.1 r.2 := by
  intro sz
  refine mk_entry rfl (by decide +kernel) hI 1 rfl rfl (fun K h1 h2 h3 h4 h5 h6 G => ?_)
  subst h2
  exact xX11_clear_e G M hf ⟨h3, by rw [h4, h6], h5⟩

set_option maxHeartbeats 4000000 in
set_option maxRecDepth 100000 in
theorem xX11_isHouse_e {K : KT} {v1 : Int32} {v2 : Int32} {w : Wd} {r : Bool} (G : GK K cX11_isHouse RX11 3 3) (M : Main K.ks) (hf : fX11_isHouse v1 v2 w = some r) (hr : RI K .boolean (bI r) w) : XW K 0 [some (.ref 0), some (.int v1), some (.int v2)] [] w := by
  unfold fX11_isHouse at hf
  refine x_iload_n G dX11_isHouse_0 rfl rfl ?_
  obtain ⟨v_1, hv_1, hf⟩ := bnd hf
  refine x_staI G (As := [.int v1]) (mX11_isCell G.2.2.2.2.2.2.1 M hv_1) ms_X11_88 rfl rfl rfl rfl rfl dX11_isHouse_1 ?_
  refine x_ifeqB G (tgt := 27) dX11_isHouse_4 (by decide) hf (fun c_2 hf => ?_) (fun c_2 hf => ?_)
  · refine x_aload_n G dX11_isHouse_7 rfl rfl ?_
    refine x_getR G (kd0 M) 0 (b := 1) rfl cl11 rfl wf_X11_10 dX11_isHouse_8 ?_
    refine x_getR G (kd1 M) 2 (b := 19) rfl cl0 rfl wf_X11_278 dX11_isHouse_11 ?_
    refine x_getR G (kd19 M) 0 (b := 20) rfl cl3 rfl wf_X11_282 dX11_isHouse_14 ?_
    refine x_iload_n G dX11_isHouse_17 rfl rfl ?_
    refine x_iald G (kd20 M) dX11_isHouse_18 hf (fun hb_3 hf => ?_)
    refine x_iload_n G dX11_isHouse_19 rfl rfl ?_
    refine x_icmpne G (tgt := 27) dX11_isHouse_20 (by decide) hf (fun c_4 hf => ?_) (fun c_4 hf => ?_)
    · refine x_iconst G (v := 1) dX11_isHouse_23 (by decide) ?_
      refine x_goto G (tgt := 28) dX11_isHouse_24 (by decide) ?_
      exact x_zretP G hf hr dX11_isHouse_28
    · refine x_iconst G (v := 0) dX11_isHouse_27 (by decide) ?_
      exact x_zretP G hf hr dX11_isHouse_28
  · refine x_iconst G (v := 0) dX11_isHouse_27 (by decide) ?_
    exact x_zretP G hf hr dX11_isHouse_28

theorem mX11_isHouse {l : Launch} {S : KS} {w : Wd} (hI : Inj S) (M : Main S) {v1 : Int32} {v2 : Int32} {r : Bool} (hf : fX11_isHouse v1 v2 w = some r) : CI l yX11_isHouse cX11_isHouse 3 (some .boolean) 3 S [.ref 0, .int v1, .int v2] w (bI r) w := by
  intro sz
  refine mk_entry rfl (by decide +kernel) hI 0 rfl rfl (fun K h1 h2 h3 h4 h5 h6 G => ?_)
  subst h2
  exact xX11_isHouse_e G M hf ⟨h3, by rw [h4, h6], h5⟩

set_option maxHeartbeats 4000000 in
set_option maxRecDepth 100000 in
theorem xX11_coal_e {K : KT} {v1 : Int32} {v2 : Int32} {w : Wd} {r : Int32 × Wd} (G : GK K cX11_coal RX11 3 4) (M : Main K.ks) (hf : fX11_coal v1 v2 w = some r) (hr : RI K .int r.1 r.2) : XW K 0 [some (.ref 0), some (.int v1), some (.int v2)] [] w := by
  unfold fX11_coal at hf
  refine x_aload_n G dX11_coal_0 rfl rfl ?_
  refine x_iload_n G dX11_coal_1 rfl rfl ?_
  refine x_iconst G (v := 1) dX11_coal_2 (by decide) ?_
  obtain ⟨v_1, hv_1, hf⟩ := bnd hf
  refine x_virI G (As := [.int v1, .int (1 : Int32)]) (mX11_isHouse G.2.2.2.2.2.2.1 M hv_1) mv_X11_302 (kd0 M) cl11 rfl rfl rfl rfl rfl dX11_coal_3 ?_
  refine x_ifeqB G (tgt := 20) dX11_coal_6 (by decide) hf (fun c_2 hf => ?_) (fun c_2 hf => ?_)
  · refine x_iload_n G dX11_coal_9 rfl rfl ?_
    refine x_iconst G (v := 1) dX11_coal_10 (by decide) ?_
    refine x_sipush G (v := 9999) dX11_coal_11 (by decide) ?_
    obtain ⟨v_3, hv_3, hf⟩ := bnd hf
    refine x_staI G (As := [.int v2, .int (1 : Int32), .int (9999 : Int32)]) (mX11_within G.2.2.2.2.2.2.1 M hv_3) ms_X11_96 rfl rfl rfl rfl rfl dX11_coal_14 ?_
    refine x_ifneB G (tgt := 22) dX11_coal_17 (by decide) hf (fun c_4 hf => ?_) (fun c_4 hf => ?_)
    · refine x_aload_n G dX11_coal_22 rfl rfl ?_
      refine x_getR G (kd0 M) 0 (b := 1) rfl cl11 rfl wf_X11_10 dX11_coal_23 ?_
      refine x_getR G (kd1 M) 2 (b := 19) rfl cl0 rfl wf_X11_278 dX11_coal_26 ?_
      refine x_getR G (kd19 M) 3 (b := 23) rfl cl3 rfl wf_X11_296 dX11_coal_29 ?_
      refine x_iload_n G dX11_coal_32 rfl rfl ?_
      refine x_iald G (kd23 M) dX11_coal_33 hf (fun hb_5 hf => ?_)
      refine x_iload_n G dX11_coal_34 rfl rfl ?_
      refine x_iadd G dX11_coal_35 ?_
      refine x_ldc G wc_X11_166 dX11_coal_36 ?_
      refine x_icmple G (tgt := 44) dX11_coal_38 (by decide) hf (fun c_6 hf => ?_) (fun c_6 hf => ?_)
      · refine x_bipush G (v := -2) dX11_coal_41 (by decide) ?_
        exact x_iretW G hf hr dX11_coal_43
      · refine x_aload_n G dX11_coal_44 rfl rfl ?_
        refine x_getR G (kd0 M) 0 (b := 1) rfl cl11 rfl wf_X11_10 dX11_coal_45 ?_
        refine x_getR G (kd1 M) 2 (b := 19) rfl cl0 rfl wf_X11_278 dX11_coal_48 ?_
        refine x_getR G (kd19 M) 3 (b := 23) rfl cl3 rfl wf_X11_296 dX11_coal_51 ?_
        refine x_iload_n G dX11_coal_54 rfl rfl ?_
        refine x_dup2 G dX11_coal_55 rfl rfl ?_
        refine x_iald0 G (kd23 M) dX11_coal_56 hb_5 ?_
        refine x_iload_n G dX11_coal_57 rfl rfl ?_
        refine x_iadd G dX11_coal_58 ?_
        refine x_iast0 G (kd23 M) dX11_coal_59 hb_5 ?_
        refine nwr hf (fun w_7 hf => ?_)
        refine x_aload_n G dX11_coal_60 rfl rfl ?_
        refine x_getR G (kd0 M) 0 (b := 1) rfl cl11 rfl wf_X11_10 dX11_coal_61 ?_
        refine x_getR G (kd1 M) 2 (b := 19) rfl cl0 rfl wf_X11_278 dX11_coal_64 ?_
        refine x_getR G (kd19 M) 3 (b := 23) rfl cl3 rfl wf_X11_296 dX11_coal_67 ?_
        refine x_iload_n G dX11_coal_70 rfl rfl ?_
        refine x_iald0 G (kd23 M) dX11_coal_71 hb_5 ?_
        exact x_iretW G hf hr dX11_coal_72
    · refine x_iconst G (v := -1) dX11_coal_20 (by decide) ?_
      exact x_iretW G hf hr dX11_coal_21
  · refine x_iconst G (v := -1) dX11_coal_20 (by decide) ?_
    exact x_iretW G hf hr dX11_coal_21

theorem mX11_coal {l : Launch} {S : KS} {w : Wd} (hI : Inj S) (M : Main S) {v1 : Int32} {v2 : Int32} {r : Int32 × Wd} (hf : fX11_coal v1 v2 w = some r) : CI l yX11_coal cX11_coal 3 (some .int) 4 S [.ref 0, .int v1, .int v2] w r.1 r.2 := by
  intro sz
  refine mk_entry rfl (by decide +kernel) hI 0 rfl rfl (fun K h1 h2 h3 h4 h5 h6 G => ?_)
  subst h2
  exact xX11_coal_e G M hf ⟨h3, by rw [h4, h6], h5⟩

set_option maxHeartbeats 4000000 in
set_option maxRecDepth 100000 in
theorem xX11_comesBack_e {K : KT} {v1 : Int32} {w : Wd} {r : Int32} (G : GK K cX11_comesBack RX11 2 3) (M : Main K.ks) (hf : fX11_comesBack v1 w = some r) (hr : RI K .int r w) : XW K 0 [some (.ref 0), some (.int v1)] [] w := by
  unfold fX11_comesBack at hf
  refine x_iload_n G dX11_comesBack_0 rfl rfl ?_
  refine x_iconst G (v := 0) dX11_comesBack_1 (by decide) ?_
  refine x_ldc G wc_X11_166 dX11_comesBack_2 ?_
  obtain ⟨v_1, hv_1, hf⟩ := bnd hf
  refine x_staI G (As := [.int v1, .int (0 : Int32), .int (99999 : Int32)]) (mX11_within G.2.2.2.2.2.2.1 M hv_1) ms_X11_96 rfl rfl rfl rfl rfl dX11_comesBack_4 ?_
  refine x_ifneB G (tgt := 12) dX11_comesBack_7 (by decide) hf (fun c_2 hf => ?_) (fun c_2 hf => ?_)
  · refine x_aload_n G dX11_comesBack_12 rfl rfl ?_
    refine x_getR G (kd0 M) 2 (b := 100) rfl cl11 rfl wf_X11_26 dX11_comesBack_13 ?_
    refine x_iload_n G dX11_comesBack_16 rfl rfl ?_
    obtain ⟨v_3, hv_3, hf⟩ := bnd hf
    refine x_virI G (As := [.int v1]) (mX9_bringsBack G.2.2.2.2.2.2.1 M hv_3) mv_X11_167 (kd100 M) cl9 rfl rfl rfl rfl rfl dX11_comesBack_17 ?_
    refine x_ifeqB G (tgt := 27) dX11_comesBack_20 (by decide) hf (fun c_4 hf => ?_) (fun c_4 hf => ?_)
    · refine x_iconst G (v := 1) dX11_comesBack_23 (by decide) ?_
      refine x_goto G (tgt := 28) dX11_comesBack_24 (by decide) ?_
      exact x_iretP G hf hr dX11_comesBack_28
    · refine x_iconst G (v := 0) dX11_comesBack_27 (by decide) ?_
      exact x_iretP G hf hr dX11_comesBack_28
  · refine x_iconst G (v := -1) dX11_comesBack_10 (by decide) ?_
    exact x_iretP G hf hr dX11_comesBack_11

theorem mX11_comesBack {l : Launch} {S : KS} {w : Wd} (hI : Inj S) (M : Main S) {v1 : Int32} {r : Int32} (hf : fX11_comesBack v1 w = some r) : CI l yX11_comesBack cX11_comesBack 2 (some .int) 3 S [.ref 0, .int v1] w r w := by
  intro sz
  refine mk_entry rfl (by decide +kernel) hI 0 rfl rfl (fun K h1 h2 h3 h4 h5 h6 G => ?_)
  subst h2
  exact xX11_comesBack_e G M hf ⟨h3, by rw [h4, h6], h5⟩

set_option maxHeartbeats 4000000 in
set_option maxRecDepth 100000 in
theorem xX11_copy_48 {K : KT} {w : Wd} {r : Int32 × Wd} (G : GK K cX11_copy RX11 8 4) (M : Main K.ks) (hf : fX11_copy_48 w = some r) (hr : RI K .int r.1 r.2) : XW K 48 [some (.ref 0), none, none, none, none, none, none, none] [] w := by
  unfold fX11_copy_48 at hf
  refine x_aload_n G dX11_copy_48 rfl rfl ?_
  refine x_bipush G (v := -11) dX11_copy_49 (by decide) ?_
  obtain ⟨v_1, hv_1, hf⟩ := bnd hf
  refine x_virI G (As := [.int (-11 : Int32)]) (mX11_refuse G.2.2.2.2.2.2.1 M hv_1) mv_X11_152 (kd0 M) cl11 rfl rfl rfl rfl rfl dX11_copy_51 ?_
  exact x_iretW G hf hr dX11_copy_54

set_option maxHeartbeats 4000000 in
set_option maxRecDepth 100000 in
theorem xX11_copy_122 {K : KT} {w : Wd} {r : Int32 × Wd} (G : GK K cX11_copy RX11 8 4) (M : Main K.ks) (hf : fX11_copy_122 w = some r) (hr : RI K .int r.1 r.2) : XW K 122 [some (.ref 0), none, none, none, none, none, none, none] [] w := by
  unfold fX11_copy_122 at hf
  refine x_aload_n G dX11_copy_122 rfl rfl ?_
  refine x_bipush G (v := -13) dX11_copy_123 (by decide) ?_
  obtain ⟨v_1, hv_1, hf⟩ := bnd hf
  refine x_virI G (As := [.int (-13 : Int32)]) (mX11_refuse G.2.2.2.2.2.2.1 M hv_1) mv_X11_152 (kd0 M) cl11 rfl rfl rfl rfl rfl dX11_copy_125 ?_
  exact x_iretW G hf hr dX11_copy_128

set_option maxHeartbeats 4000000 in
set_option maxRecDepth 100000 in
theorem xX11_copy_76 {K : KT} {w : Wd} {r : Int32 × Wd} (G : GK K cX11_copy RX11 8 4) (M : Main K.ks) (hf : fX11_copy_76 w = some r) (hr : RI K .int r.1 r.2) : XW K 76 [some (.ref 0), none, none, none, none, none, none, none] [] w := by
  unfold fX11_copy_76 at hf
  refine x_aload_n G dX11_copy_76 rfl rfl ?_
  refine x_bipush G (v := -12) dX11_copy_77 (by decide) ?_
  obtain ⟨v_1, hv_1, hf⟩ := bnd hf
  refine x_virI G (As := [.int (-12 : Int32)]) (mX11_refuse G.2.2.2.2.2.2.1 M hv_1) mv_X11_152 (kd0 M) cl11 rfl rfl rfl rfl rfl dX11_copy_79 ?_
  exact x_iretW G hf hr dX11_copy_82

set_option maxHeartbeats 4000000 in
set_option maxRecDepth 100000 in
theorem xX11_copy_e {K : KT} {v1 : Int32} {v2 : Int32} {v3 : Int32} {v4 : Int32} {v5 : Int32} {w : Wd} {r : Int32 × Wd} (G : GK K cX11_copy RX11 8 4) (M : Main K.ks) (hf : fX11_copy v1 v2 v3 v4 v5 w = some r) (hr : RI K .int r.1 r.2) : XW K 0 [some (.ref 0), some (.int v1), some (.int v2), some (.int v3), some (.int v4), some (.int v5), none, none] [] w := by
  unfold fX11_copy at hf
  refine x_iload_n G dX11_copy_0 rfl rfl ?_
  obtain ⟨v_1, hv_1, hf⟩ := bnd hf
  refine x_staI G (As := [.int v1]) (mX11_isTape G.2.2.2.2.2.2.1 M hv_1) ms_X11_146 rfl rfl rfl rfl rfl dX11_copy_1 ?_
  refine x_ifeqB G (tgt := 14) dX11_copy_4 (by decide) hf (fun c_2 hf => ?_) (fun c_2 hf => ?_)
  · refine x_iload_n G dX11_copy_7 rfl rfl ?_
    obtain ⟨v_3, hv_3, hf⟩ := bnd hf
    refine x_staI G (As := [.int v3]) (mX11_isTape G.2.2.2.2.2.2.1 M hv_3) ms_X11_146 rfl rfl rfl rfl rfl dX11_copy_8 ?_
    refine x_ifneB G (tgt := 16) dX11_copy_11 (by decide) hf (fun c_4 hf => ?_) (fun c_4 hf => ?_)
    · refine x_aload_n G dX11_copy_16 rfl rfl ?_
      refine x_getR G (kd0 M) 5 (b := 134) rfl cl11 rfl wf_X11_46 dX11_copy_17 ?_
      refine x_iload_n G dX11_copy_20 rfl rfl ?_
      refine x_aald G (kd134 M) (kn := 1) (by decide) dX11_copy_21 hf (fun hb_5 hf => ?_)
      refine x_astore G (lv' := [some (.ref 0), some (.int v1), some (.int v2), some (.int v3), some (.int v4), some (.int v5), some (.ref (135 + 2 * (v1).toNatClampNeg)), none]) dX11_copy_22 rfl rfl rfl ?_
      refine x_aload_n G dX11_copy_24 rfl rfl ?_
      refine x_getR G (kd0 M) 5 (b := 134) rfl cl11 rfl wf_X11_46 dX11_copy_25 ?_
      refine x_iload_n G dX11_copy_28 rfl rfl ?_
      refine x_aald G (kd134 M) (kn := 1) (by decide) dX11_copy_29 hf (fun hb_6 hf => ?_)
      refine x_astore G (lv' := [some (.ref 0), some (.int v1), some (.int v2), some (.int v3), some (.int v4), some (.int v5), some (.ref (135 + 2 * (v1).toNatClampNeg)), some (.ref (135 + 2 * (v3).toNatClampNeg))]) dX11_copy_30 rfl rfl rfl ?_
      refine x_aload G dX11_copy_32 rfl ?_
      refine x_getI G (tapeOk M hb_5).1 0 rfl cl8 rfl wf_X11_149 dX11_copy_34 ?_
      refine x_ifeq G (tgt := 48) dX11_copy_37 (by decide) hf (fun c_7 hf => ?_) (fun c_7 hf => ?_)
      · exact XW.sub (lv' := [some (.ref 0), none, none, none, none, none, none, none]) (And.intro rfl trivial) (xX11_copy_48 G M hf hr)
      · refine x_aload G dX11_copy_40 rfl ?_
        refine x_getI G (tapeOk M hb_6).1 0 rfl cl8 rfl wf_X11_149 dX11_copy_42 ?_
        refine x_ifne G (tgt := 55) dX11_copy_45 (by decide) hf (fun c_8 hf => ?_) (fun c_8 hf => ?_)
        · exact XW.sub (lv' := [some (.ref 0), none, none, none, none, none, none, none]) (And.intro rfl trivial) (xX11_copy_48 G M hf hr)
        · refine x_aload G dX11_copy_55 rfl ?_
          obtain ⟨v_9, hv_9, hf⟩ := bnd hf
          refine x_virI G (As := []) (mX8_holdsRow G.2.2.2.2.2.2.1 M (tapeOk M hb_5) hv_9) mv_X11_420 (tapeOk M hb_5).1 cl8 rfl rfl rfl rfl rfl dX11_copy_57 ?_
          refine x_ifeqB G (tgt := 76) dX11_copy_60 (by decide) hf (fun c_10 hf => ?_) (fun c_10 hf => ?_)
          · refine x_aload G dX11_copy_63 rfl ?_
            refine x_getI G (tapeOk M hb_5).1 0 rfl cl8 rfl wf_X11_149 dX11_copy_65 ?_
            refine x_aload G dX11_copy_68 rfl ?_
            refine x_getI G (tapeOk M hb_6).1 0 rfl cl8 rfl wf_X11_149 dX11_copy_70 ?_
            refine x_icmpeq G (tgt := 83) dX11_copy_73 (by decide) hf (fun c_11 hf => ?_) (fun c_11 hf => ?_)
            · refine x_iload G dX11_copy_83 rfl ?_
              refine x_iflt G (tgt := 122) dX11_copy_85 (by decide) hf (fun c_12 hf => ?_) (fun c_12 hf => ?_)
              · exact XW.sub (lv' := [some (.ref 0), none, none, none, none, none, none, none]) (And.intro rfl trivial) (xX11_copy_122 G M hf hr)
              · refine x_iload_n G dX11_copy_88 rfl rfl ?_
                refine x_iflt G (tgt := 122) dX11_copy_89 (by decide) hf (fun c_13 hf => ?_) (fun c_13 hf => ?_)
                · exact XW.sub (lv' := [some (.ref 0), none, none, none, none, none, none, none]) (And.intro rfl trivial) (xX11_copy_122 G M hf hr)
                · refine x_iload G dX11_copy_92 rfl ?_
                  refine x_iflt G (tgt := 122) dX11_copy_94 (by decide) hf (fun c_14 hf => ?_) (fun c_14 hf => ?_)
                  · exact XW.sub (lv' := [some (.ref 0), none, none, none, none, none, none, none]) (And.intro rfl trivial) (xX11_copy_122 G M hf hr)
                  · refine x_iload_n G dX11_copy_97 rfl rfl ?_
                    refine x_aload G dX11_copy_98 rfl ?_
                    refine x_getI G (tapeOk M hb_5).1 1 rfl cl8 rfl wf_X11_155 dX11_copy_100 ?_
                    refine x_iload G dX11_copy_103 rfl ?_
                    refine x_isub G dX11_copy_105 ?_
                    refine x_icmpgt G (tgt := 122) dX11_copy_106 (by decide) hf (fun c_15 hf => ?_) (fun c_15 hf => ?_)
                    · exact XW.sub (lv' := [some (.ref 0), none, none, none, none, none, none, none]) (And.intro rfl trivial) (xX11_copy_122 G M hf hr)
                    · refine x_iload G dX11_copy_109 rfl ?_
                      refine x_aload G dX11_copy_111 rfl ?_
                      refine x_getI G (tapeOk M hb_6).1 1 rfl cl8 rfl wf_X11_155 dX11_copy_113 ?_
                      refine x_iload G dX11_copy_116 rfl ?_
                      refine x_isub G dX11_copy_118 ?_
                      refine x_icmple G (tgt := 129) dX11_copy_119 (by decide) hf (fun c_16 hf => ?_) (fun c_16 hf => ?_)
                      · exact XW.sub (lv' := [some (.ref 0), none, none, none, none, none, none, none]) (And.intro rfl trivial) (xX11_copy_122 G M hf hr)
                      · refine x_aload G dX11_copy_129 rfl ?_
                        refine x_getR G (tapeOk M hb_5).1 2 (b := ((135 + 2 * (v1).toNatClampNeg) + 1)) rfl cl8 rfl wf_X11_392 dX11_copy_131 ?_
                        refine x_iload_n G dX11_copy_134 rfl rfl ?_
                        refine x_aload G dX11_copy_135 rfl ?_
                        refine x_getR G (tapeOk M hb_6).1 2 (b := ((135 + 2 * (v3).toNatClampNeg) + 1)) rfl cl8 rfl wf_X11_392 dX11_copy_137 ?_
                        refine x_iload G dX11_copy_140 rfl ?_
                        refine x_iload G dX11_copy_142 rfl ?_
                        refine x_cpyJ G (tapeOk M hb_5).2 (tapeOk M hb_6).2 wm_X11_426 dX11_copy_144 rfl rfl hf (fun hf => ?_)
                        refine nwr hf (fun w_17 hf => ?_)
                        refine x_iload G dX11_copy_147 rfl ?_
                        exact x_iretW G hf hr dX11_copy_149
            · exact XW.sub (lv' := [some (.ref 0), none, none, none, none, none, none, none]) (And.intro rfl trivial) (xX11_copy_76 G M hf hr)
          · exact XW.sub (lv' := [some (.ref 0), none, none, none, none, none, none, none]) (And.intro rfl trivial) (xX11_copy_76 G M hf hr)
    · refine x_iconst G (v := -1) dX11_copy_14 (by decide) ?_
      exact x_iretW G hf hr dX11_copy_15
  · refine x_iconst G (v := -1) dX11_copy_14 (by decide) ?_
    exact x_iretW G hf hr dX11_copy_15

theorem mX11_copy {l : Launch} {S : KS} {w : Wd} (hI : Inj S) (M : Main S) {v1 : Int32} {v2 : Int32} {v3 : Int32} {v4 : Int32} {v5 : Int32} {r : Int32 × Wd} (hf : fX11_copy v1 v2 v3 v4 v5 w = some r) : CI l yX11_copy cX11_copy 8 (some .int) 4 S [.ref 0, .int v1, .int v2, .int v3, .int v4, .int v5] w r.1 r.2 := by
  intro sz
  refine mk_entry rfl (by decide +kernel) hI 2 rfl rfl (fun K h1 h2 h3 h4 h5 h6 G => ?_)
  subst h2
  exact xX11_copy_e G M hf ⟨h3, by rw [h4, h6], h5⟩

set_option maxHeartbeats 4000000 in
set_option maxRecDepth 100000 in
theorem xX11_count_e {K : KT} {v1 : Int32} {w : Wd} {r : Int32} (G : GK K cX11_count RX11 2 3) (M : Main K.ks) (hf : fX11_count v1 w = some r) (hr : RI K .int r w) : XW K 0 [some (.ref 0), some (.int v1)] [] w := by
  unfold fX11_count at hf
  refine x_iload_n G dX11_count_0 rfl rfl ?_
  rcases ite_or hf with ⟨c_1, hf⟩ | ⟨c_1, hf⟩
  · refine x_swIn G (tgt := 92) (off := 91) (k := 0) dX11_count_1 c_1 (by decide) (by decide) (by decide) (by decide) ?_
    refine x_aload_n G dX11_count_92 rfl rfl ?_
    refine x_getR G (kd0 M) 0 (b := 1) rfl cl11 rfl wf_X11_10 dX11_count_93 ?_
    refine x_getI G (kd1 M) 6 rfl cl0 rfl wf_X11_337 dX11_count_96 ?_
    exact x_iretP G hf hr dX11_count_99
  rcases ite_or hf with ⟨c_2, hf⟩ | ⟨c_2, hf⟩
  · refine x_swIn G (tgt := 100) (off := 99) (k := 1) dX11_count_1 c_2 (by decide) (by decide) (by decide) (by decide) ?_
    refine x_aload_n G dX11_count_100 rfl rfl ?_
    refine x_getR G (kd0 M) 0 (b := 1) rfl cl11 rfl wf_X11_10 dX11_count_101 ?_
    refine x_getR G (kd1 M) 1 (b := 14) rfl cl0 rfl wf_X11_116 dX11_count_104 ?_
    refine x_getI G (kd14 M) 5 rfl cl10 rfl wf_X11_432 dX11_count_107 ?_
    exact x_iretP G hf hr dX11_count_110
  rcases ite_or hf with ⟨c_3, hf⟩ | ⟨c_3, hf⟩
  · refine x_swIn G (tgt := 111) (off := 110) (k := 2) dX11_count_1 c_3 (by decide) (by decide) (by decide) (by decide) ?_
    refine x_aload_n G dX11_count_111 rfl rfl ?_
    refine x_getR G (kd0 M) 0 (b := 1) rfl cl11 rfl wf_X11_10 dX11_count_112 ?_
    refine x_getR G (kd1 M) 1 (b := 14) rfl cl0 rfl wf_X11_116 dX11_count_115 ?_
    refine x_getI G (kd14 M) 6 rfl cl10 rfl wf_X11_435 dX11_count_118 ?_
    exact x_iretP G hf hr dX11_count_121
  rcases ite_or hf with ⟨c_4, hf⟩ | ⟨c_4, hf⟩
  · refine x_swIn G (tgt := 122) (off := 121) (k := 3) dX11_count_1 c_4 (by decide) (by decide) (by decide) (by decide) ?_
    refine x_aload_n G dX11_count_122 rfl rfl ?_
    refine x_getR G (kd0 M) 0 (b := 1) rfl cl11 rfl wf_X11_10 dX11_count_123 ?_
    refine x_getR G (kd1 M) 1 (b := 14) rfl cl0 rfl wf_X11_116 dX11_count_126 ?_
    refine x_getI G (kd14 M) 7 rfl cl10 rfl wf_X11_438 dX11_count_129 ?_
    exact x_iretP G hf hr dX11_count_132
  rcases ite_or hf with ⟨c_5, hf⟩ | ⟨c_5, hf⟩
  · refine x_swIn G (tgt := 133) (off := 132) (k := 4) dX11_count_1 c_5 (by decide) (by decide) (by decide) (by decide) ?_
    refine x_aload_n G dX11_count_133 rfl rfl ?_
    refine x_getR G (kd0 M) 0 (b := 1) rfl cl11 rfl wf_X11_10 dX11_count_134 ?_
    refine x_getR G (kd1 M) 1 (b := 14) rfl cl0 rfl wf_X11_116 dX11_count_137 ?_
    refine x_getI G (kd14 M) 8 rfl cl10 rfl wf_X11_441 dX11_count_140 ?_
    exact x_iretP G hf hr dX11_count_143
  rcases ite_or hf with ⟨c_6, hf⟩ | ⟨c_6, hf⟩
  · refine x_swIn G (tgt := 144) (off := 143) (k := 5) dX11_count_1 c_6 (by decide) (by decide) (by decide) (by decide) ?_
    refine x_aload_n G dX11_count_144 rfl rfl ?_
    refine x_getR G (kd0 M) 0 (b := 1) rfl cl11 rfl wf_X11_10 dX11_count_145 ?_
    refine x_getR G (kd1 M) 1 (b := 14) rfl cl0 rfl wf_X11_116 dX11_count_148 ?_
    refine x_getI G (kd14 M) 9 rfl cl10 rfl wf_X11_444 dX11_count_151 ?_
    exact x_iretP G hf hr dX11_count_154
  rcases ite_or hf with ⟨c_7, hf⟩ | ⟨c_7, hf⟩
  · refine x_swIn G (tgt := 155) (off := 154) (k := 6) dX11_count_1 c_7 (by decide) (by decide) (by decide) (by decide) ?_
    refine x_aload_n G dX11_count_155 rfl rfl ?_
    refine x_getR G (kd0 M) 0 (b := 1) rfl cl11 rfl wf_X11_10 dX11_count_156 ?_
    refine x_getR G (kd1 M) 1 (b := 14) rfl cl0 rfl wf_X11_116 dX11_count_159 ?_
    refine x_getI G (kd14 M) 10 rfl cl10 rfl wf_X11_447 dX11_count_162 ?_
    exact x_iretP G hf hr dX11_count_165
  rcases ite_or hf with ⟨c_9, hf⟩ | ⟨c_9, hf⟩
  · refine x_swIn G (tgt := 166) (off := 165) (k := 7) dX11_count_1 c_9 (by decide) (by decide) (by decide) (by decide) ?_
    refine x_aload_n G dX11_count_166 rfl rfl ?_
    refine x_getR G (kd0 M) 0 (b := 1) rfl cl11 rfl wf_X11_10 dX11_count_167 ?_
    obtain ⟨v_8, hv_8, hf⟩ := bnd hf
    refine x_virI G (As := []) (mX0_foulInAll G.2.2.2.2.2.2.1 M hv_8) mv_X11_450 (kd1 M) cl0 rfl rfl rfl rfl rfl dX11_count_170 ?_
    exact x_iretP G hf hr dX11_count_173
  rcases ite_or hf with ⟨c_11, hf⟩ | ⟨c_11, hf⟩
  · refine x_swIn G (tgt := 174) (off := 173) (k := 8) dX11_count_1 c_11 (by decide) (by decide) (by decide) (by decide) ?_
    refine x_aload_n G dX11_count_174 rfl rfl ?_
    refine x_getR G (kd0 M) 0 (b := 1) rfl cl11 rfl wf_X11_10 dX11_count_175 ?_
    obtain ⟨v_10, hv_10, hf⟩ := bnd hf
    refine x_virI G (As := []) (mX0_rainInAll G.2.2.2.2.2.2.1 M hv_10) mv_X11_453 (kd1 M) cl0 rfl rfl rfl rfl rfl dX11_count_178 ?_
    exact x_iretP G hf hr dX11_count_181
  rcases ite_or hf with ⟨c_12, hf⟩ | ⟨c_12, hf⟩
  · refine x_swIn G (tgt := 182) (off := 181) (k := 9) dX11_count_1 c_12 (by decide) (by decide) (by decide) (by decide) ?_
    refine x_aload_n G dX11_count_182 rfl rfl ?_
    refine x_getR G (kd0 M) 0 (b := 1) rfl cl11 rfl wf_X11_10 dX11_count_183 ?_
    refine x_getI G (kd1 M) 7 rfl cl0 rfl wf_X11_456 dX11_count_186 ?_
    exact x_iretP G hf hr dX11_count_189
  rcases ite_or hf with ⟨c_13, hf⟩ | ⟨c_13, hf⟩
  · refine x_swIn G (tgt := 190) (off := 189) (k := 10) dX11_count_1 c_13 (by decide) (by decide) (by decide) (by decide) ?_
    refine x_aload_n G dX11_count_190 rfl rfl ?_
    refine x_getR G (kd0 M) 0 (b := 1) rfl cl11 rfl wf_X11_10 dX11_count_191 ?_
    refine x_getI G (kd1 M) 10 rfl cl0 rfl wf_X11_459 dX11_count_194 ?_
    exact x_iretP G hf hr dX11_count_197
  rcases ite_or hf with ⟨c_14, hf⟩ | ⟨c_14, hf⟩
  · refine x_swIn G (tgt := 198) (off := 197) (k := 11) dX11_count_1 c_14 (by decide) (by decide) (by decide) (by decide) ?_
    refine x_aload_n G dX11_count_198 rfl rfl ?_
    refine x_getR G (kd0 M) 0 (b := 1) rfl cl11 rfl wf_X11_10 dX11_count_199 ?_
    refine x_getI G (kd1 M) 11 rfl cl0 rfl wf_X11_462 dX11_count_202 ?_
    exact x_iretP G hf hr dX11_count_205
  rcases ite_or hf with ⟨c_15, hf⟩ | ⟨c_15, hf⟩
  · refine x_swIn G (tgt := 206) (off := 205) (k := 12) dX11_count_1 c_15 (by decide) (by decide) (by decide) (by decide) ?_
    refine x_aload_n G dX11_count_206 rfl rfl ?_
    refine x_getR G (kd0 M) 0 (b := 1) rfl cl11 rfl wf_X11_10 dX11_count_207 ?_
    refine x_getI G (kd1 M) 12 rfl cl0 rfl wf_X11_465 dX11_count_210 ?_
    exact x_iretP G hf hr dX11_count_213
  rcases ite_or hf with ⟨c_17, hf⟩ | ⟨c_17, hf⟩
  · refine x_swIn G (tgt := 214) (off := 213) (k := 13) dX11_count_1 c_17 (by decide) (by decide) (by decide) (by decide) ?_
    refine x_aload_n G dX11_count_214 rfl rfl ?_
    refine x_getR G (kd0 M) 0 (b := 1) rfl cl11 rfl wf_X11_10 dX11_count_215 ?_
    refine x_getR G (kd1 M) 0 (b := 2) rfl cl0 rfl wf_X11_78 dX11_count_218 ?_
    refine x_getR G (kd2 M) 9 (b := 12) rfl cl2 rfl wf_X11_137 dX11_count_221 ?_
    obtain ⟨v_16, hv_16, hf⟩ := bnd hf
    refine x_staI G (As := [.ref 12]) (mX11_sumOf G.2.2.2.2.2.2.1 M (kd12 M) hv_16) ms_X11_468 rfl rfl rfl rfl rfl dX11_count_224 ?_
    exact x_iretP G hf hr dX11_count_227
  rcases ite_or hf with ⟨c_19, hf⟩ | ⟨c_19, hf⟩
  · refine x_swIn G (tgt := 228) (off := 227) (k := 14) dX11_count_1 c_19 (by decide) (by decide) (by decide) (by decide) ?_
    refine x_aload_n G dX11_count_228 rfl rfl ?_
    refine x_getR G (kd0 M) 0 (b := 1) rfl cl11 rfl wf_X11_10 dX11_count_229 ?_
    refine x_getR G (kd1 M) 0 (b := 2) rfl cl0 rfl wf_X11_78 dX11_count_232 ?_
    refine x_getR G (kd2 M) 10 (b := 13) rfl cl2 rfl wf_X11_143 dX11_count_235 ?_
    obtain ⟨v_18, hv_18, hf⟩ := bnd hf
    refine x_staI G (As := [.ref 13]) (mX11_sumOf G.2.2.2.2.2.2.1 M (kd13 M) hv_18) ms_X11_468 rfl rfl rfl rfl rfl dX11_count_238 ?_
    exact x_iretP G hf hr dX11_count_241
  rcases ite_or hf with ⟨c_20, hf⟩ | ⟨c_20, hf⟩
  · refine x_swIn G (tgt := 242) (off := 241) (k := 15) dX11_count_1 c_20 (by decide) (by decide) (by decide) (by decide) ?_
    refine x_aload_n G dX11_count_242 rfl rfl ?_
    refine x_getR G (kd0 M) 0 (b := 1) rfl cl11 rfl wf_X11_10 dX11_count_243 ?_
    refine x_getI G (kd1 M) 5 rfl cl0 rfl wf_X11_217 dX11_count_246 ?_
    exact x_iretP G hf hr dX11_count_249
  rcases ite_or hf with ⟨c_21, hf⟩ | ⟨c_21, hf⟩
  · refine x_swIn G (tgt := 250) (off := 249) (k := 16) dX11_count_1 c_21 (by decide) (by decide) (by decide) (by decide) ?_
    refine x_aload_n G dX11_count_250 rfl rfl ?_
    refine x_getR G (kd0 M) 4 (b := 106) rfl cl11 rfl wf_X11_40 dX11_count_251 ?_
    refine x_getI G (kd106 M) 0 rfl cl4 rfl wf_X11_75 dX11_count_254 ?_
    exact x_iretP G hf hr dX11_count_257
  rcases ite_or hf with ⟨c_22, hf⟩ | ⟨c_22, hf⟩
  · refine x_swIn G (tgt := 258) (off := 257) (k := 17) dX11_count_1 c_22 (by decide) (by decide) (by decide) (by decide) ?_
    refine x_aload_n G dX11_count_258 rfl rfl ?_
    refine x_getR G (kd0 M) 0 (b := 1) rfl cl11 rfl wf_X11_10 dX11_count_259 ?_
    refine x_getR G (kd1 M) 3 (b := 30) rfl cl0 rfl wf_X11_183 dX11_count_262 ?_
    refine x_getI G (kd30 M) 0 rfl cl6 rfl wf_X11_187 dX11_count_265 ?_
    exact x_iretP G hf hr dX11_count_268
  rcases ite_or hf with ⟨c_23, hf⟩ | ⟨c_23, hf⟩
  · refine x_swIn G (tgt := 269) (off := 268) (k := 18) dX11_count_1 c_23 (by decide) (by decide) (by decide) (by decide) ?_
    refine x_aload_n G dX11_count_269 rfl rfl ?_
    refine x_getI G (kd0 M) 7 rfl cl11 rfl wf_X11_54 dX11_count_270 ?_
    exact x_iretP G hf hr dX11_count_273
  refine x_swDef G (tgt := 274) dX11_count_1 (by decide) [0, 1, 2, 3, 4, 5, 6, 7, 8, 9, 10, 11, 12, 13, 14, 15, 16, 17, 18] (List.forall_mem_cons.mpr ⟨nek c_1 (by decide), (List.forall_mem_cons.mpr ⟨nek c_2 (by decide), (List.forall_mem_cons.mpr ⟨nek c_3 (by decide), (List.forall_mem_cons.mpr ⟨nek c_4 (by decide), (List.forall_mem_cons.mpr ⟨nek c_5 (by decide), (List.forall_mem_cons.mpr ⟨nek c_6 (by decide), (List.forall_mem_cons.mpr ⟨nek c_7 (by decide), (List.forall_mem_cons.mpr ⟨nek c_9 (by decide), (List.forall_mem_cons.mpr ⟨nek c_11 (by decide), (List.forall_mem_cons.mpr ⟨nek c_12 (by decide), (List.forall_mem_cons.mpr ⟨nek c_13 (by decide), (List.forall_mem_cons.mpr ⟨nek c_14 (by decide), (List.forall_mem_cons.mpr ⟨nek c_15 (by decide), (List.forall_mem_cons.mpr ⟨nek c_17 (by decide), (List.forall_mem_cons.mpr ⟨nek c_19 (by decide), (List.forall_mem_cons.mpr ⟨nek c_20 (by decide), (List.forall_mem_cons.mpr ⟨nek c_21 (by decide), (List.forall_mem_cons.mpr ⟨nek c_22 (by decide), (List.forall_mem_cons.mpr ⟨nek c_23 (by decide), (fun _ h => absurd h List.not_mem_nil)⟩)⟩)⟩)⟩)⟩)⟩)⟩)⟩)⟩)⟩)⟩)⟩)⟩)⟩)⟩)⟩)⟩)⟩)⟩) (by decide +kernel) ?_
  refine x_iconst G (v := -1) dX11_count_274 (by decide) ?_
  exact x_iretP G hf hr dX11_count_275

theorem mX11_count {l : Launch} {S : KS} {w : Wd} (hI : Inj S) (M : Main S) {v1 : Int32} {r : Int32} (hf : fX11_count v1 w = some r) : CI l yX11_count cX11_count 2 (some .int) 3 S [.ref 0, .int v1] w r w := by
  intro sz
  refine mk_entry rfl (by decide +kernel) hI 0 rfl rfl (fun K h1 h2 h3 h4 h5 h6 G => ?_)
  subst h2
  exact xX11_count_e G M hf ⟨h3, by rw [h4, h6], h5⟩

set_option maxHeartbeats 4000000 in
set_option maxRecDepth 100000 in
theorem xX11_cross_e {K : KT} {v1 : Int32} {v2 : Int32} {v3 : Int32} {w : Wd} {r : Int32} (G : GK K cX11_cross RX11 7 4) (M : Main K.ks) (hf : fX11_cross v1 v2 v3 w = some r) (hr : RI K .int r w) : XW K 0 [some (.ref 0), some (.int v1), some (.int v2), some (.int v3), none, none, none] [] w := by
  unfold fX11_cross at hf
  refine x_aload_n G dX11_cross_0 rfl rfl ?_
  refine x_iload_n G dX11_cross_1 rfl rfl ?_
  refine x_iload_n G dX11_cross_2 rfl rfl ?_
  obtain ⟨v_1, hv_1, hf⟩ := bnd hf
  refine x_virI G (As := [.int v1, .int v2]) (mX11_isOnLine G.2.2.2.2.2.2.1 M hv_1) mv_X11_235 (kd0 M) cl11 rfl rfl rfl rfl rfl dX11_cross_3 ?_
  refine x_ifeqB G (tgt := 20) dX11_cross_6 (by decide) hf (fun c_2 hf => ?_) (fun c_2 hf => ?_)
  · refine x_iload_n G dX11_cross_9 rfl rfl ?_
    refine x_iconst G (v := 0) dX11_cross_10 (by decide) ?_
    refine x_sipush G (v := 4999) dX11_cross_11 (by decide) ?_
    obtain ⟨v_3, hv_3, hf⟩ := bnd hf
    refine x_staI G (As := [.int v3, .int (0 : Int32), .int (4999 : Int32)]) (mX11_within G.2.2.2.2.2.2.1 M hv_3) ms_X11_96 rfl rfl rfl rfl rfl dX11_cross_14 ?_
    refine x_ifneB G (tgt := 22) dX11_cross_17 (by decide) hf (fun c_4 hf => ?_) (fun c_4 hf => ?_)
    · refine x_aload_n G dX11_cross_22 rfl rfl ?_
      refine x_getR G (kd0 M) 0 (b := 1) rfl cl11 rfl wf_X11_10 dX11_cross_23 ?_
      refine x_getR G (kd1 M) 4 (b := 35) rfl cl0 rfl wf_X11_220 dX11_cross_26 ?_
      refine x_iload_n G dX11_cross_29 rfl rfl ?_
      refine x_aald G (kd35 M) (kn := 0) (by decide) dX11_cross_30 hf (fun hb_5 hf => ?_)
      refine x_astore G (lv' := [some (.ref 0), some (.int v1), some (.int v2), some (.int v3), some (.ref (36 + 7 * (v1).toNatClampNeg)), none, none]) dX11_cross_31 rfl rfl rfl ?_
      refine x_aload_n G dX11_cross_33 rfl rfl ?_
      refine x_getR G (kd0 M) 0 (b := 1) rfl cl11 rfl wf_X11_10 dX11_cross_34 ?_
      refine x_getR G (kd1 M) 3 (b := 30) rfl cl0 rfl wf_X11_183 dX11_cross_37 ?_
      refine x_aload G dX11_cross_40 rfl ?_
      refine x_getR G (lineOkM M hb_5).1 5 (b := ((36 + 7 * (v1).toNatClampNeg) + 1)) rfl cl5 rfl wf_X11_240 dX11_cross_42 ?_
      refine x_iload_n G dX11_cross_45 rfl rfl ?_
      refine x_iald G (lineOkM M hb_5).2.1 dX11_cross_46 hf (fun hb_6 hf => ?_)
      refine x_iload_n G dX11_cross_47 rfl rfl ?_
      obtain ⟨v_7, hv_7, hf⟩ := bnd hf
      refine x_virI G (As := [.int (ri w ((36 + 7 * (v1).toNatClampNeg) + 1) v2), .int v3]) (mX6_latest G.2.2.2.2.2.2.1 M hv_7) mv_X11_198 (kd30 M) cl6 rfl rfl rfl rfl rfl dX11_cross_48 ?_
      refine x_istore G (lv' := [some (.ref 0), some (.int v1), some (.int v2), some (.int v3), some (.ref (36 + 7 * (v1).toNatClampNeg)), some (.int v_7), none]) dX11_cross_51 rfl rfl rfl ?_
      refine x_iload G dX11_cross_53 rfl ?_
      refine x_iflt G (tgt := 75) dX11_cross_55 (by decide) hf (fun c_8 hf => ?_) (fun c_8 hf => ?_)
      · refine x_iconst G (v := 0) dX11_cross_75 (by decide) ?_
        exact x_iretP G hf hr dX11_cross_76
      · refine x_aload_n G dX11_cross_58 rfl rfl ?_
        refine x_getR G (kd0 M) 0 (b := 1) rfl cl11 rfl wf_X11_10 dX11_cross_59 ?_
        refine x_getR G (kd1 M) 3 (b := 30) rfl cl0 rfl wf_X11_183 dX11_cross_62 ?_
        refine x_getR G (kd30 M) 2 (b := 32) rfl cl6 rfl wf_X11_201 dX11_cross_65 ?_
        refine x_iload G dX11_cross_68 rfl ?_
        refine x_iald G (kd32 M) dX11_cross_70 hf (fun hb_9 hf => ?_)
        refine x_iconst G (v := -1) dX11_cross_71 (by decide) ?_
        refine x_icmpne G (tgt := 77) dX11_cross_72 (by decide) hf (fun c_10 hf => ?_) (fun c_10 hf => ?_)
        · refine x_iconst G (v := 0) dX11_cross_75 (by decide) ?_
          exact x_iretP G hf hr dX11_cross_76
        · refine x_aload G dX11_cross_77 rfl ?_
          refine x_getR G (lineOkM M hb_5).1 6 (b := ((36 + 7 * (v1).toNatClampNeg) + 2)) rfl cl5 rfl wf_X11_241 dX11_cross_79 ?_
          refine x_iload_n G dX11_cross_82 rfl rfl ?_
          refine x_iald0 G (lineOkM M hb_5).2.2.1 dX11_cross_83 hb_6 ?_
          refine x_aload_n G dX11_cross_84 rfl rfl ?_
          refine x_getR G (kd0 M) 0 (b := 1) rfl cl11 rfl wf_X11_10 dX11_cross_85 ?_
          refine x_getR G (kd1 M) 3 (b := 30) rfl cl0 rfl wf_X11_183 dX11_cross_88 ?_
          refine x_getR G (kd30 M) 3 (b := 33) rfl cl6 rfl wf_X11_202 dX11_cross_91 ?_
          refine x_iload G dX11_cross_94 rfl ?_
          refine x_iald0 G (kd33 M) dX11_cross_96 hb_9 ?_
          refine x_isub G dX11_cross_97 ?_
          refine x_istore G (lv' := [some (.ref 0), some (.int v1), some (.int v2), some (.int v3), some (.ref (36 + 7 * (v1).toNatClampNeg)), some (.int v_7), some (.int ((ri w ((36 + 7 * (v1).toNatClampNeg) + 2) v2) - (ri w 33 v_7)))]) dX11_cross_98 rfl rfl rfl ?_
          refine x_iload G dX11_cross_100 rfl ?_
          refine x_iconst G (v := 3) dX11_cross_102 (by decide) ?_
          refine x_icmplt G (tgt := 108) dX11_cross_103 (by decide) hf (fun c_11 hf => ?_) (fun c_11 hf => ?_)
          · refine x_iload G dX11_cross_108 rfl ?_
            refine x_bipush G (v := -3) dX11_cross_110 (by decide) ?_
            refine x_icmpgt G (tgt := 119) dX11_cross_112 (by decide) hf (fun c_12 hf => ?_) (fun c_12 hf => ?_)
            · refine x_iconst G (v := 3) dX11_cross_119 (by decide) ?_
              exact x_iretP G hf hr dX11_cross_120
            · refine x_iconst G (v := 2) dX11_cross_115 (by decide) ?_
              refine x_goto G (tgt := 120) dX11_cross_116 (by decide) ?_
              exact x_iretP G hf hr dX11_cross_120
          · refine x_iconst G (v := 1) dX11_cross_106 (by decide) ?_
            exact x_iretP G hf hr dX11_cross_107
    · refine x_iconst G (v := -1) dX11_cross_20 (by decide) ?_
      exact x_iretP G hf hr dX11_cross_21
  · refine x_iconst G (v := -1) dX11_cross_20 (by decide) ?_
    exact x_iretP G hf hr dX11_cross_21

theorem mX11_cross {l : Launch} {S : KS} {w : Wd} (hI : Inj S) (M : Main S) {v1 : Int32} {v2 : Int32} {v3 : Int32} {r : Int32} (hf : fX11_cross v1 v2 v3 w = some r) : CI l yX11_cross cX11_cross 7 (some .int) 4 S [.ref 0, .int v1, .int v2, .int v3] w r w := by
  intro sz
  refine mk_entry rfl (by decide +kernel) hI 3 rfl rfl (fun K h1 h2 h3 h4 h5 h6 G => ?_)
  subst h2
  exact xX11_cross_e G M hf ⟨h3, by rw [h4, h6], h5⟩

set_option maxHeartbeats 4000000 in
set_option maxRecDepth 100000 in
theorem xX11_cut_88 {K : KT} {v1 : Int32} {v3 : Int32} {v4 : Int32} {w : Wd} {r : Int32 × Wd} (G : GK K cX11_cut RX11 6 3) (M : Main K.ks) (hf : fX11_cut_88 v1 v3 v4 w = some r) (hr : RI K .int r.1 r.2) : XW K 88 [some (.ref 0), some (.int v1), some (.ref 30), some (.int v3), some (.int v4), none] [] w := by
  unfold fX11_cut_88 at hf
  refine x_aload_n G dX11_cut_88 rfl rfl ?_
  refine x_getI G (kd30 M) 0 rfl cl6 rfl wf_X11_187 dX11_cut_89 ?_
  refine x_sipush G (v := 200) dX11_cut_92 (by decide) ?_
  refine x_icmplt G (tgt := 101) dX11_cut_95 (by decide) hf (fun c_1 hf => ?_) (fun c_1 hf => ?_)
  · refine x_aload_n G dX11_cut_101 rfl rfl ?_
    refine x_iload_n G dX11_cut_102 rfl rfl ?_
    refine x_iload_n G dX11_cut_103 rfl rfl ?_
    refine x_iload G dX11_cut_104 rfl ?_
    refine x_aload_n G dX11_cut_106 rfl rfl ?_
    refine x_getR G (kd0 M) 0 (b := 1) rfl cl11 rfl wf_X11_10 dX11_cut_107 ?_
    obtain ⟨v_2, hv_2, hf⟩ := bnd hf
    refine x_virI G (As := []) (mX0_today G.2.2.2.2.2.2.1 M hv_2) mv_X11_190 (kd1 M) cl0 rfl rfl rfl rfl rfl dX11_cut_110 ?_
    obtain ⟨v_3, hv_3, hf⟩ := bnd hf
    refine x_virV G (As := [.int v1, .int v3, .int v4, .int v_2]) (mX6_note G.2.2.2.2.2.2.1 M hv_3) mv_X11_194 (kd30 M) cl6 rfl rfl rfl rfl rfl dX11_cut_113 ?_
    refine x_iconst G (v := 1) dX11_cut_116 (by decide) ?_
    exact x_iretW G hf hr dX11_cut_117
  · refine x_bipush G (v := -2) dX11_cut_98 (by decide) ?_
    exact x_iretW G hf hr dX11_cut_100

set_option maxHeartbeats 4000000 in
set_option maxRecDepth 100000 in
theorem xX11_cut_e {K : KT} {v1 : Int32} {w : Wd} {r : Int32 × Wd} (G : GK K cX11_cut RX11 6 3) (M : Main K.ks) (hf : fX11_cut v1 w = some r) (hr : RI K .int r.1 r.2) : XW K 0 [some (.ref 0), some (.int v1), none, none, none, none] [] w := by
  unfold fX11_cut at hf
  refine x_iload_n G dX11_cut_0 rfl rfl ?_
  obtain ⟨v_1, hv_1, hf⟩ := bnd hf
  refine x_staI G (As := [.int v1]) (mX11_isCell G.2.2.2.2.2.2.1 M hv_1) ms_X11_88 rfl rfl rfl rfl rfl dX11_cut_1 ?_
  refine x_ifneB G (tgt := 9) dX11_cut_4 (by decide) hf (fun c_2 hf => ?_) (fun c_2 hf => ?_)
  · refine x_aload_n G dX11_cut_9 rfl rfl ?_
    refine x_getR G (kd0 M) 0 (b := 1) rfl cl11 rfl wf_X11_10 dX11_cut_10 ?_
    refine x_getR G (kd1 M) 3 (b := 30) rfl cl0 rfl wf_X11_183 dX11_cut_13 ?_
    refine x_astore_n G (lv' := [some (.ref 0), some (.int v1), some (.ref 30), none, none, none]) dX11_cut_16 rfl rfl rfl rfl ?_
    refine x_aload_n G dX11_cut_17 rfl rfl ?_
    refine x_getR G (kd0 M) 0 (b := 1) rfl cl11 rfl wf_X11_10 dX11_cut_18 ?_
    refine x_getR G (kd1 M) 0 (b := 2) rfl cl0 rfl wf_X11_78 dX11_cut_21 ?_
    refine x_getR G (kd2 M) 6 (b := 9) rfl cl2 rfl wf_X11_174 dX11_cut_24 ?_
    refine x_iload_n G dX11_cut_27 rfl rfl ?_
    refine x_iald G (kd9 M) dX11_cut_28 hf (fun hb_3 hf => ?_)
    refine x_istore_n G (lv' := [some (.ref 0), some (.int v1), some (.ref 30), some (.int (ri w 9 v1)), none, none]) dX11_cut_29 rfl rfl rfl rfl ?_
    refine x_aload_n G dX11_cut_30 rfl rfl ?_
    refine x_getR G (kd0 M) 0 (b := 1) rfl cl11 rfl wf_X11_10 dX11_cut_31 ?_
    refine x_getR G (kd1 M) 0 (b := 2) rfl cl0 rfl wf_X11_78 dX11_cut_34 ?_
    refine x_getR G (kd2 M) 7 (b := 10) rfl cl2 rfl wf_X11_177 dX11_cut_37 ?_
    refine x_iload_n G dX11_cut_40 rfl rfl ?_
    refine x_iald0 G (kd10 M) dX11_cut_41 hb_3 ?_
    refine x_istore G (lv' := [some (.ref 0), some (.int v1), some (.ref 30), some (.int (ri w 9 v1)), some (.int (ri w 10 v1)), none]) dX11_cut_42 rfl rfl rfl ?_
    refine x_aload_n G dX11_cut_44 rfl rfl ?_
    refine x_iload_n G dX11_cut_45 rfl rfl ?_
    refine x_aload_n G dX11_cut_46 rfl rfl ?_
    refine x_getR G (kd0 M) 0 (b := 1) rfl cl11 rfl wf_X11_10 dX11_cut_47 ?_
    obtain ⟨v_4, hv_4, hf⟩ := bnd hf
    refine x_virI G (As := []) (mX0_today G.2.2.2.2.2.2.1 M hv_4) mv_X11_190 (kd1 M) cl0 rfl rfl rfl rfl rfl dX11_cut_50 ?_
    obtain ⟨v_5, hv_5, hf⟩ := bnd hf
    refine x_virI G (As := [.int v1, .int v_4]) (mX6_latest G.2.2.2.2.2.2.1 M hv_5) mv_X11_198 (kd30 M) cl6 rfl rfl rfl rfl rfl dX11_cut_53 ?_
    refine x_istore G (lv' := [some (.ref 0), some (.int v1), some (.ref 30), some (.int (ri w 9 v1)), some (.int (ri w 10 v1)), some (.int v_5)]) dX11_cut_56 rfl rfl rfl ?_
    refine x_iload G dX11_cut_58 rfl ?_
    refine x_iflt G (tgt := 88) dX11_cut_60 (by decide) hf (fun c_6 hf => ?_) (fun c_6 hf => ?_)
    · exact XW.sub (lv' := [some (.ref 0), some (.int v1), some (.ref 30), some (.int (ri w 9 v1)), some (.int (ri w 10 v1)), none]) (And.intro rfl (And.intro rfl (And.intro rfl (And.intro rfl (And.intro rfl trivial))))) (xX11_cut_88 G M hf hr)
    · refine x_aload_n G dX11_cut_63 rfl rfl ?_
      refine x_getR G (kd30 M) 2 (b := 32) rfl cl6 rfl wf_X11_201 dX11_cut_64 ?_
      refine x_iload G dX11_cut_67 rfl ?_
      refine x_iald G (kd32 M) dX11_cut_69 hf (fun hb_7 hf => ?_)
      refine x_iload_n G dX11_cut_70 rfl rfl ?_
      refine x_icmpne G (tgt := 88) dX11_cut_71 (by decide) hf (fun c_8 hf => ?_) (fun c_8 hf => ?_)
      · refine x_aload_n G dX11_cut_74 rfl rfl ?_
        refine x_getR G (kd30 M) 3 (b := 33) rfl cl6 rfl wf_X11_202 dX11_cut_75 ?_
        refine x_iload G dX11_cut_78 rfl ?_
        refine x_iald0 G (kd33 M) dX11_cut_80 hb_7 ?_
        refine x_iload G dX11_cut_81 rfl ?_
        refine x_icmpne G (tgt := 88) dX11_cut_83 (by decide) hf (fun c_9 hf => ?_) (fun c_9 hf => ?_)
        · refine x_iconst G (v := 0) dX11_cut_86 (by decide) ?_
          exact x_iretW G hf hr dX11_cut_87
        · exact XW.sub (lv' := [some (.ref 0), some (.int v1), some (.ref 30), some (.int (ri w 9 v1)), some (.int (ri w 10 v1)), none]) (And.intro rfl (And.intro rfl (And.intro rfl (And.intro rfl (And.intro rfl trivial))))) (xX11_cut_88 G M hf hr)
      · exact XW.sub (lv' := [some (.ref 0), some (.int v1), some (.ref 30), some (.int (ri w 9 v1)), some (.int (ri w 10 v1)), none]) (And.intro rfl (And.intro rfl (And.intro rfl (And.intro rfl (And.intro rfl trivial))))) (xX11_cut_88 G M hf hr)
  · refine x_iconst G (v := -1) dX11_cut_7 (by decide) ?_
    exact x_iretW G hf hr dX11_cut_8

theorem mX11_cut {l : Launch} {S : KS} {w : Wd} (hI : Inj S) (M : Main S) {v1 : Int32} {r : Int32 × Wd} (hf : fX11_cut v1 w = some r) : CI l yX11_cut cX11_cut 6 (some .int) 3 S [.ref 0, .int v1] w r.1 r.2 := by
  intro sz
  refine mk_entry rfl (by decide +kernel) hI 4 rfl rfl (fun K h1 h2 h3 h4 h5 h6 G => ?_)
  subst h2
  exact xX11_cut_e G M hf ⟨h3, by rw [h4, h6], h5⟩

set_option maxHeartbeats 4000000 in
set_option maxRecDepth 100000 in
theorem xX11_cutOff_e {K : KT} {w : Wd} {r : Int32 × Wd} (G : GK K cX11_cutOff RX11 1 4) (M : Main K.ks) (hf : fX11_cutOff w = some r) (hr : RI K .int r.1 r.2) : XW K 0 [some (.ref 0)] [] w := by
  unfold fX11_cutOff at hf
  refine x_aload_n G dX11_cutOff_0 rfl rfl ?_
  refine x_getR G (kd0 M) 1 (b := 92) rfl cl11 rfl wf_X11_19 dX11_cutOff_1 ?_
  refine x_aload_n G dX11_cutOff_4 rfl rfl ?_
  refine x_getR G (kd0 M) 0 (b := 1) rfl cl11 rfl wf_X11_10 dX11_cutOff_5 ?_
  obtain ⟨v_1, hv_1, hf⟩ := bnd hf
  refine x_virI G (As := [.ref 1]) (mX1_cellsCutOff G.2.2.2.2.2.2.1 M hv_1) mv_X11_362 (kd92 M) cl1 rfl rfl rfl rfl rfl dX11_cutOff_8 ?_
  exact x_iretW G hf hr dX11_cutOff_11

theorem mX11_cutOff {l : Launch} {S : KS} {w : Wd} (hI : Inj S) (M : Main S) {r : Int32 × Wd} (hf : fX11_cutOff w = some r) : CI l yX11_cutOff cX11_cutOff 1 (some .int) 4 S [.ref 0] w r.1 r.2 := by
  intro sz
  refine mk_entry rfl (by decide +kernel) hI 0 rfl rfl (fun K h1 h2 h3 h4 h5 h6 G => ?_)
  subst h2
  exact xX11_cutOff_e G M hf ⟨h3, by rw [h4, h6], h5⟩

set_option maxHeartbeats 4000000 in
set_option maxRecDepth 100000 in
theorem xX11_gangs_e {K : KT} {v1 : Int32} {v2 : Int32} {w : Wd} {r : Int32 × Wd} (G : GK K cX11_gangs RX11 4 3) (M : Main K.ks) (hf : fX11_gangs v1 v2 w = some r) (hr : RI K .int r.1 r.2) : XW K 0 [some (.ref 0), some (.int v1), some (.int v2), none] [] w := by
  unfold fX11_gangs at hf
  refine x_aload_n G dX11_gangs_0 rfl rfl ?_
  refine x_iload_n G dX11_gangs_1 rfl rfl ?_
  obtain ⟨v_1, hv_1, hf⟩ := bnd hf
  refine x_virI G (As := [.int v1]) (mX11_isLine G.2.2.2.2.2.2.1 M hv_1) mv_X11_230 (kd0 M) cl11 rfl rfl rfl rfl rfl dX11_gangs_2 ?_
  refine x_ifeqB G (tgt := 17) dX11_gangs_5 (by decide) hf (fun c_2 hf => ?_) (fun c_2 hf => ?_)
  · refine x_iload_n G dX11_gangs_8 rfl rfl ?_
    refine x_iconst G (v := 0) dX11_gangs_9 (by decide) ?_
    refine x_iconst G (v := 4) dX11_gangs_10 (by decide) ?_
    obtain ⟨v_3, hv_3, hf⟩ := bnd hf
    refine x_staI G (As := [.int v2, .int (0 : Int32), .int (4 : Int32)]) (mX11_within G.2.2.2.2.2.2.1 M hv_3) ms_X11_96 rfl rfl rfl rfl rfl dX11_gangs_11 ?_
    refine x_ifneB G (tgt := 19) dX11_gangs_14 (by decide) hf (fun c_4 hf => ?_) (fun c_4 hf => ?_)
    · refine x_aload_n G dX11_gangs_19 rfl rfl ?_
      refine x_getR G (kd0 M) 0 (b := 1) rfl cl11 rfl wf_X11_10 dX11_gangs_20 ?_
      refine x_getR G (kd1 M) 4 (b := 35) rfl cl0 rfl wf_X11_220 dX11_gangs_23 ?_
      refine x_iload_n G dX11_gangs_26 rfl rfl ?_
      refine x_aald G (kd35 M) (kn := 0) (by decide) dX11_gangs_27 hf (fun hb_5 hf => ?_)
      refine x_getI G (lineOkM M hb_5).1 2 rfl cl5 rfl wf_X11_258 dX11_gangs_28 ?_
      refine x_istore_n G (lv' := [some (.ref 0), some (.int v1), some (.int v2), some (.int (w.1 (36 + 7 * (v1).toNatClampNeg) 2))]) dX11_gangs_31 rfl rfl rfl rfl ?_
      refine x_aload_n G dX11_gangs_32 rfl rfl ?_
      refine x_getR G (kd0 M) 0 (b := 1) rfl cl11 rfl wf_X11_10 dX11_gangs_33 ?_
      refine x_getR G (kd1 M) 4 (b := 35) rfl cl0 rfl wf_X11_220 dX11_gangs_36 ?_
      refine x_iload_n G dX11_gangs_39 rfl rfl ?_
      refine x_aald0 G (kd35 M) (kn := 0) (by decide) dX11_gangs_40 hb_5 ?_
      refine x_iload_n G dX11_gangs_41 rfl rfl ?_
      refine x_putI G (lineOkM M hb_5).1 2 rfl cl5 rfl wf_X11_258 rfl rfl rfl dX11_gangs_42 ?_
      refine nwr hf (fun w_6 hf => ?_)
      refine x_iload_n G dX11_gangs_45 rfl rfl ?_
      exact x_iretW G hf hr dX11_gangs_46
    · refine x_iconst G (v := -1) dX11_gangs_17 (by decide) ?_
      exact x_iretW G hf hr dX11_gangs_18
  · refine x_iconst G (v := -1) dX11_gangs_17 (by decide) ?_
    exact x_iretW G hf hr dX11_gangs_18

theorem mX11_gangs {l : Launch} {S : KS} {w : Wd} (hI : Inj S) (M : Main S) {v1 : Int32} {v2 : Int32} {r : Int32 × Wd} (hf : fX11_gangs v1 v2 w = some r) : CI l yX11_gangs cX11_gangs 4 (some .int) 3 S [.ref 0, .int v1, .int v2] w r.1 r.2 := by
  intro sz
  refine mk_entry rfl (by decide +kernel) hI 1 rfl rfl (fun K h1 h2 h3 h4 h5 h6 G => ?_)
  subst h2
  exact xX11_gangs_e G M hf ⟨h3, by rw [h4, h6], h5⟩

set_option maxHeartbeats 4000000 in
set_option maxRecDepth 100000 in
theorem xX11_holdNow_e {K : KT} {v1 : Int32} {w : Wd} {r : Int32 × Wd} (G : GK K cX11_holdNow RX11 2 4) (M : Main K.ks) (hf : fX11_holdNow v1 w = some r) (hr : RI K .int r.1 r.2) : XW K 0 [some (.ref 0), some (.int v1)] [] w := by
  unfold fX11_holdNow at hf
  refine x_aload_n G dX11_holdNow_0 rfl rfl ?_
  refine x_getR G (kd0 M) 1 (b := 92) rfl cl11 rfl wf_X11_19 dX11_holdNow_1 ?_
  refine x_aload_n G dX11_holdNow_4 rfl rfl ?_
  refine x_getR G (kd0 M) 0 (b := 1) rfl cl11 rfl wf_X11_10 dX11_holdNow_5 ?_
  refine x_aload_n G dX11_holdNow_8 rfl rfl ?_
  refine x_getR G (kd0 M) 0 (b := 1) rfl cl11 rfl wf_X11_10 dX11_holdNow_9 ?_
  obtain ⟨v_1, hv_1, hf⟩ := bnd hf
  refine x_virI G (As := []) (mX0_carryingLines G.2.2.2.2.2.2.1 M hv_1) mv_X11_340 (kd1 M) cl0 rfl rfl rfl rfl rfl dX11_holdNow_12 ?_
  obtain ⟨v_2, hv_2, hf⟩ := bnd hf
  refine x_virV G (As := [.ref 1, .int v_1]) (mX1_lead G.2.2.2.2.2.2.1 M hv_2) mv_X11_343 (kd92 M) cl1 rfl rfl rfl rfl rfl dX11_holdNow_15 ?_
  refine x_aload_n G dX11_holdNow_18 rfl rfl ?_
  refine x_getR G (kd0 M) 1 (b := 92) rfl cl11 rfl wf_X11_19 dX11_holdNow_19 ?_
  refine x_getR G (kd92 M) 2 (b := 95) rfl cl1 rfl wf_X11_472 dX11_holdNow_22 ?_
  refine x_iload_n G dX11_holdNow_25 rfl rfl ?_
  refine x_iald G (kd95 M) dX11_holdNow_26 hf (fun hb_3 hf => ?_)
  exact x_iretW G hf hr dX11_holdNow_27

theorem mX11_holdNow {l : Launch} {S : KS} {w : Wd} (hI : Inj S) (M : Main S) {v1 : Int32} {r : Int32 × Wd} (hf : fX11_holdNow v1 w = some r) : CI l yX11_holdNow cX11_holdNow 2 (some .int) 4 S [.ref 0, .int v1] w r.1 r.2 := by
  intro sz
  refine mk_entry rfl (by decide +kernel) hI 0 rfl rfl (fun K h1 h2 h3 h4 h5 h6 G => ?_)
  subst h2
  exact xX11_holdNow_e G M hf ⟨h3, by rw [h4, h6], h5⟩

set_option maxHeartbeats 4000000 in
set_option maxRecDepth 100000 in
theorem xX11_holds_e {K : KT} {v1 : Int32} {v2 : Int32} {w : Wd} {r : Int32 × Wd} (G : GK K cX11_holds RX11 3 6) (M : Main K.ks) (hf : fX11_holds v1 v2 w = some r) (hr : RI K .int r.1 r.2) : XW K 0 [some (.ref 0), some (.int v1), some (.int v2)] [] w := by
  unfold fX11_holds at hf
  refine x_iload_n G dX11_holds_0 rfl rfl ?_
  refine x_iconst G (v := 0) dX11_holds_1 (by decide) ?_
  refine x_iconst G (v := 2) dX11_holds_2 (by decide) ?_
  obtain ⟨v_1, hv_1, hf⟩ := bnd hf
  refine x_staI G (As := [.int v1, .int (0 : Int32), .int (2 : Int32)]) (mX11_within G.2.2.2.2.2.2.1 M hv_1) ms_X11_96 rfl rfl rfl rfl rfl dX11_holds_3 ?_
  refine x_ifeqB G (tgt := 16) dX11_holds_6 (by decide) hf (fun c_2 hf => ?_) (fun c_2 hf => ?_)
  · refine x_iload_n G dX11_holds_9 rfl rfl ?_
    obtain ⟨v_3, hv_3, hf⟩ := bnd hf
    refine x_staI G (As := [.int v2]) (mX11_isCell G.2.2.2.2.2.2.1 M hv_3) ms_X11_88 rfl rfl rfl rfl rfl dX11_holds_10 ?_
    refine x_ifneB G (tgt := 18) dX11_holds_13 (by decide) hf (fun c_4 hf => ?_) (fun c_4 hf => ?_)
    · refine x_aload_n G dX11_holds_18 rfl rfl ?_
      refine x_getR G (kd0 M) 4 (b := 106) rfl cl11 rfl wf_X11_40 dX11_holds_19 ?_
      refine x_iload_n G dX11_holds_22 rfl rfl ?_
      refine x_iload_n G dX11_holds_23 rfl rfl ?_
      refine x_aload_n G dX11_holds_24 rfl rfl ?_
      refine x_getR G (kd0 M) 0 (b := 1) rfl cl11 rfl wf_X11_10 dX11_holds_25 ?_
      refine x_aload_n G dX11_holds_28 rfl rfl ?_
      refine x_getR G (kd0 M) 2 (b := 100) rfl cl11 rfl wf_X11_26 dX11_holds_29 ?_
      obtain ⟨v_5, hv_5, hf⟩ := bnd hf
      refine x_virI G (As := [.int v1, .int v2, .ref 1, .ref 100]) (mX4_allow G.2.2.2.2.2.2.1 M hv_5) mv_X11_376 (kd106 M) cl4 rfl rfl rfl rfl rfl dX11_holds_32 ?_
      refine x_ifeqB G (tgt := 42) dX11_holds_35 (by decide) hf (fun c_6 hf => ?_) (fun c_6 hf => ?_)
      · refine x_iconst G (v := 1) dX11_holds_38 (by decide) ?_
        refine x_goto G (tgt := 43) dX11_holds_39 (by decide) ?_
        exact x_iretW G hf hr dX11_holds_43
      · refine x_iconst G (v := 0) dX11_holds_42 (by decide) ?_
        exact x_iretW G hf hr dX11_holds_43
    · refine x_iconst G (v := -1) dX11_holds_16 (by decide) ?_
      exact x_iretW G hf hr dX11_holds_17
  · refine x_iconst G (v := -1) dX11_holds_16 (by decide) ?_
    exact x_iretW G hf hr dX11_holds_17

theorem mX11_holds {l : Launch} {S : KS} {w : Wd} (hI : Inj S) (M : Main S) {v1 : Int32} {v2 : Int32} {r : Int32 × Wd} (hf : fX11_holds v1 v2 w = some r) : CI l yX11_holds cX11_holds 3 (some .int) 6 S [.ref 0, .int v1, .int v2] w r.1 r.2 := by
  intro sz
  refine mk_entry rfl (by decide +kernel) hI 0 rfl rfl (fun K h1 h2 h3 h4 h5 h6 G => ?_)
  subst h2
  exact xX11_holds_e G M hf ⟨h3, by rw [h4, h6], h5⟩

set_option maxHeartbeats 4000000 in
set_option maxRecDepth 100000 in
theorem xX11_hours_88 {K : KT} {v1 : Int32} {v2 : Int32} {v3 : Int32} {w : Wd} {r : Int32 × Wd} (G : GK K cX11_hours RX11 4 8) (M : Main K.ks) (k32 : Int32 → Int32 → Wd → Option (Int32 × Wd)) (hk32 : ∀ (v1 : Int32) (v2 : Int32) (w : Wd), k32 v1 v2 w = some r → XW K 32 [some (.ref 0), some (.int v1), some (.int v2), none] [] w) (hf : fX11_hours_88 k32 v1 v2 v3 w = some r) (hr : RI K .int r.1 r.2) : XW K 88 [some (.ref 0), some (.int v1), some (.int v2), some (.int v3)] [] w := by
  unfold fX11_hours_88 at hf
  refine x_aload_n G dX11_hours_88 rfl rfl ?_
  refine x_getR G (kd0 M) 1 (b := 92) rfl cl11 rfl wf_X11_19 dX11_hours_89 ?_
  refine x_aload_n G dX11_hours_92 rfl rfl ?_
  refine x_getR G (kd0 M) 0 (b := 1) rfl cl11 rfl wf_X11_10 dX11_hours_93 ?_
  refine x_aload_n G dX11_hours_96 rfl rfl ?_
  refine x_getR G (kd0 M) 4 (b := 106) rfl cl11 rfl wf_X11_40 dX11_hours_97 ?_
  refine x_aload_n G dX11_hours_100 rfl rfl ?_
  refine x_getR G (kd0 M) 2 (b := 100) rfl cl11 rfl wf_X11_26 dX11_hours_101 ?_
  obtain ⟨v_1, hv_1, hf⟩ := bnd hf
  refine x_virV G (As := [.ref 1, .ref 106, .ref 100]) (mX1_passHour G.2.2.2.2.2.2.1 M hv_1) mv_X11_347 (kd92 M) cl1 rfl rfl rfl rfl rfl dX11_hours_104 ?_
  refine x_iload_n G dX11_hours_107 rfl rfl ?_
  refine x_ifne G (tgt := 137) dX11_hours_108 (by decide) hf (fun c_2 hf => ?_) (fun c_2 hf => ?_)
  · refine x_aload_n G dX11_hours_111 rfl rfl ?_
    refine x_getR G (kd0 M) 0 (b := 1) rfl cl11 rfl wf_X11_10 dX11_hours_112 ?_
    refine x_aload_n G dX11_hours_115 rfl rfl ?_
    refine x_getR G (kd0 M) 4 (b := 106) rfl cl11 rfl wf_X11_40 dX11_hours_116 ?_
    refine x_aload_n G dX11_hours_119 rfl rfl ?_
    refine x_getR G (kd0 M) 2 (b := 100) rfl cl11 rfl wf_X11_26 dX11_hours_120 ?_
    obtain ⟨v_3, hv_3, hf⟩ := bnd hf
    refine x_virV G (As := [.ref 106, .ref 100]) (mX0_doDaysWork G.2.2.2.2.2.2.1 M hv_3) mv_X11_351 (kd1 M) cl0 rfl rfl rfl rfl rfl dX11_hours_123 ?_
    refine x_aload_n G dX11_hours_126 rfl rfl ?_
    refine x_getR G (kd0 M) 1 (b := 92) rfl cl11 rfl wf_X11_19 dX11_hours_127 ?_
    refine x_aload_n G dX11_hours_130 rfl rfl ?_
    refine x_getR G (kd0 M) 0 (b := 1) rfl cl11 rfl wf_X11_10 dX11_hours_131 ?_
    obtain ⟨v_4, hv_4, hf⟩ := bnd hf
    refine x_virV G (As := [.ref 1]) (mX1_drink G.2.2.2.2.2.2.1 M hv_4) mv_X11_355 (kd92 M) cl1 rfl rfl rfl rfl rfl dX11_hours_134 ?_
    refine x_iinc G (lv' := [some (.ref 0), some (.int v1), some (.int (v2 + (1 : Int32))), some (.int v3)]) (v := 1) dX11_hours_137 rfl (by decide) rfl rfl rfl ?_
    refine x_goto G (tgt := 32) dX11_hours_140 (by decide) ?_
    exact XW.sub (lv' := [some (.ref 0), some (.int v1), some (.int (v2 + (1 : Int32))), none]) (And.intro rfl (And.intro rfl (And.intro rfl trivial))) (hk32 _ _ _ hf)
  · refine x_iinc G (lv' := [some (.ref 0), some (.int v1), some (.int (v2 + (1 : Int32))), some (.int v3)]) (v := 1) dX11_hours_137 rfl (by decide) rfl rfl rfl ?_
    refine x_goto G (tgt := 32) dX11_hours_140 (by decide) ?_
    exact XW.sub (lv' := [some (.ref 0), some (.int v1), some (.int (v2 + (1 : Int32))), none]) (And.intro rfl (And.intro rfl (And.intro rfl trivial))) (hk32 _ _ _ hf)

set_option maxHeartbeats 4000000 in
set_option maxRecDepth 100000 in
theorem xX11_hours_70 {K : KT} {v1 : Int32} {v2 : Int32} {v3 : Int32} {w : Wd} {r : Int32 × Wd} (G : GK K cX11_hours RX11 4 8) (M : Main K.ks) (k32 : Int32 → Int32 → Wd → Option (Int32 × Wd)) (hk32 : ∀ (v1 : Int32) (v2 : Int32) (w : Wd), k32 v1 v2 w = some r → XW K 32 [some (.ref 0), some (.int v1), some (.int v2), none] [] w) (hf : fX11_hours_70 k32 v1 v2 v3 w = some r) (hr : RI K .int r.1 r.2) : XW K 70 [some (.ref 0), some (.int v1), some (.int v2), some (.int v3)] [] w := by
  unfold fX11_hours_70 at hf
  refine x_aload_n G dX11_hours_70 rfl rfl ?_
  refine x_getR G (kd0 M) 1 (b := 92) rfl cl11 rfl wf_X11_19 dX11_hours_71 ?_
  refine x_aload_n G dX11_hours_74 rfl rfl ?_
  refine x_getR G (kd0 M) 0 (b := 1) rfl cl11 rfl wf_X11_10 dX11_hours_75 ?_
  refine x_aload_n G dX11_hours_78 rfl rfl ?_
  refine x_getR G (kd0 M) 0 (b := 1) rfl cl11 rfl wf_X11_10 dX11_hours_79 ?_
  obtain ⟨v_1, hv_1, hf⟩ := bnd hf
  refine x_virI G (As := []) (mX0_carryingLines G.2.2.2.2.2.2.1 M hv_1) mv_X11_340 (kd1 M) cl0 rfl rfl rfl rfl rfl dX11_hours_82 ?_
  obtain ⟨v_2, hv_2, hf⟩ := bnd hf
  refine x_virV G (As := [.ref 1, .int v_1]) (mX1_lead G.2.2.2.2.2.2.1 M hv_2) mv_X11_343 (kd92 M) cl1 rfl rfl rfl rfl rfl dX11_hours_85 ?_
  exact (xX11_hours_88 G M k32 hk32 hf hr)

set_option maxHeartbeats 4000000 in
set_option maxRecDepth 100000 in
theorem xX11_hours_32 {K : KT} {r : Int32 × Wd} (G : GK K cX11_hours RX11 4 8) (M : Main K.ks) (hr : RI K .int r.1 r.2) : ∀ (n : Nat) (v1 : Int32) (v2 : Int32) (w : Wd), fX11_hours_32 n v1 v2 w = some r → XW K 32 [some (.ref 0), some (.int v1), some (.int v2), none] [] w := by
  intro n
  induction n with
  | zero =>
    intro v1 v2 w hf
    unfold fX11_hours_32 at hf
    cases hf
  | succ n ih =>
    intro v1 v2 w hf
    unfold fX11_hours_32 at hf
    refine x_iload_n G dX11_hours_32 rfl rfl ?_
    refine x_iload_n G dX11_hours_33 rfl rfl ?_
    refine x_icmpge G (tgt := 143) dX11_hours_34 (by decide) hf (fun c_1 hf => ?_) (fun c_1 hf => ?_)
    · refine x_aload_n G dX11_hours_37 rfl rfl ?_
      refine x_getR G (kd0 M) 0 (b := 1) rfl cl11 rfl wf_X11_10 dX11_hours_38 ?_
      refine x_dup G dX11_hours_41 rfl ?_
      refine x_getI G (kd1 M) 6 rfl cl0 rfl wf_X11_337 dX11_hours_42 ?_
      refine x_iconst G (v := 1) dX11_hours_45 (by decide) ?_
      refine x_iadd G dX11_hours_46 ?_
      refine x_putI G (kd1 M) 6 rfl cl0 rfl wf_X11_337 rfl rfl rfl dX11_hours_47 ?_
      refine nwr hf (fun w_2 hf => ?_)
      refine x_aload_n G dX11_hours_50 rfl rfl ?_
      refine x_getR G (kd0 M) 0 (b := 1) rfl cl11 rfl wf_X11_10 dX11_hours_51 ?_
      refine x_getI G (kd1 M) 6 rfl cl0 rfl wf_X11_337 dX11_hours_54 ?_
      refine x_bipush G (v := 24) dX11_hours_57 (by decide) ?_
      refine x_irem' G dX11_hours_59 (by decide) ?_
      refine x_istore_n G (lv' := [some (.ref 0), some (.int v1), some (.int v2), some (.int (jrm (w_2.1 1 6) (24 : Int32)))]) dX11_hours_60 rfl rfl rfl rfl ?_
      refine x_iload_n G dX11_hours_61 rfl rfl ?_
      refine x_ifeq G (tgt := 70) dX11_hours_62 (by decide) hf (fun c_3 hf => ?_) (fun c_3 hf => ?_)
      · exact XW.sub (lv' := [some (.ref 0), some (.int v1), some (.int v2), some (.int (jrm (w_2.1 1 6) (24 : Int32)))]) (And.intro rfl (And.intro rfl (And.intro rfl (And.intro rfl trivial)))) (xX11_hours_70 G M (fX11_hours_32 n) ih hf hr)
      · refine x_iload_n G dX11_hours_65 rfl rfl ?_
        refine x_iconst G (v := 2) dX11_hours_66 (by decide) ?_
        refine x_icmpge G (tgt := 88) dX11_hours_67 (by decide) hf (fun c_4 hf => ?_) (fun c_4 hf => ?_)
        · exact XW.sub (lv' := [some (.ref 0), some (.int v1), some (.int v2), some (.int (jrm (w_2.1 1 6) (24 : Int32)))]) (And.intro rfl (And.intro rfl (And.intro rfl (And.intro rfl trivial)))) (xX11_hours_70 G M (fX11_hours_32 n) ih hf hr)
        · exact XW.sub (lv' := [some (.ref 0), some (.int v1), some (.int v2), some (.int (jrm (w_2.1 1 6) (24 : Int32)))]) (And.intro rfl (And.intro rfl (And.intro rfl (And.intro rfl trivial)))) (xX11_hours_88 G M (fX11_hours_32 n) ih hf hr)
    · refine x_aload_n G dX11_hours_143 rfl rfl ?_
      refine x_getR G (kd0 M) 0 (b := 1) rfl cl11 rfl wf_X11_10 dX11_hours_144 ?_
      refine x_getI G (kd1 M) 6 rfl cl0 rfl wf_X11_337 dX11_hours_147 ?_
      exact x_iretW G hf hr dX11_hours_150

set_option maxHeartbeats 4000000 in
set_option maxRecDepth 100000 in
theorem xX11_hours_e {K : KT} {v1 : Int32} {w : Wd} {r : Int32 × Wd} (G : GK K cX11_hours RX11 4 8) (M : Main K.ks) (hf : fX11_hours v1 w = some r) (hr : RI K .int r.1 r.2) : XW K 0 [some (.ref 0), some (.int v1), none, none] [] w := by
  unfold fX11_hours at hf
  refine x_iload_n G dX11_hours_0 rfl rfl ?_
  refine x_iconst G (v := 1) dX11_hours_1 (by decide) ?_
  refine x_sipush G (v := 240) dX11_hours_2 (by decide) ?_
  obtain ⟨v_1, hv_1, hf⟩ := bnd hf
  refine x_staI G (As := [.int v1, .int (1 : Int32), .int (240 : Int32)]) (mX11_within G.2.2.2.2.2.2.1 M hv_1) ms_X11_96 rfl rfl rfl rfl rfl dX11_hours_5 ?_
  refine x_ifneB G (tgt := 13) dX11_hours_8 (by decide) hf (fun c_2 hf => ?_) (fun c_2 hf => ?_)
  · refine x_aload_n G dX11_hours_13 rfl rfl ?_
    refine x_getR G (kd0 M) 0 (b := 1) rfl cl11 rfl wf_X11_10 dX11_hours_14 ?_
    refine x_getI G (kd1 M) 6 rfl cl0 rfl wf_X11_337 dX11_hours_17 ?_
    refine x_iload_n G dX11_hours_20 rfl rfl ?_
    refine x_iadd G dX11_hours_21 ?_
    refine x_ldc G wc_X11_166 dX11_hours_22 ?_
    refine x_icmple G (tgt := 30) dX11_hours_24 (by decide) hf (fun c_3 hf => ?_) (fun c_3 hf => ?_)
    · refine x_bipush G (v := -2) dX11_hours_27 (by decide) ?_
      exact x_iretW G hf hr dX11_hours_29
    · refine x_iconst G (v := 0) dX11_hours_30 (by decide) ?_
      refine x_istore_n G (lv' := [some (.ref 0), some (.int v1), some (.int (0 : Int32)), none]) dX11_hours_31 rfl rfl rfl rfl ?_
      exact XW.sub (lv' := [some (.ref 0), some (.int v1), some (.int (0 : Int32)), none]) (And.intro rfl (And.intro rfl (And.intro rfl trivial))) (xX11_hours_32 G M hr FU _ _ _ hf)
  · refine x_iconst G (v := -1) dX11_hours_11 (by decide) ?_
    exact x_iretW G hf hr dX11_hours_12

theorem mX11_hours {l : Launch} {S : KS} {w : Wd} (hI : Inj S) (M : Main S) {v1 : Int32} {r : Int32 × Wd} (hf : fX11_hours v1 w = some r) : CI l yX11_hours cX11_hours 4 (some .int) 8 S [.ref 0, .int v1] w r.1 r.2 := by
  intro sz
  refine mk_entry rfl (by decide +kernel) hI 2 rfl rfl (fun K h1 h2 h3 h4 h5 h6 G => ?_)
  subst h2
  exact xX11_hours_e G M hf ⟨h3, by rw [h4, h6], h5⟩

set_option maxHeartbeats 4000000 in
set_option maxRecDepth 100000 in
theorem xX11_inForce_e {K : KT} {v1 : Int32} {v2 : Int32} {w : Wd} {r : Int32} (G : GK K cX11_inForce RX11 4 2) (M : Main K.ks) (hf : fX11_inForce v1 v2 w = some r) (hr : RI K .int r w) : XW K 0 [some (.ref 0), some (.int v1), some (.int v2), none] [] w := by
  unfold fX11_inForce at hf
  refine x_iload_n G dX11_inForce_0 rfl rfl ?_
  refine x_iconst G (v := 0) dX11_inForce_1 (by decide) ?_
  refine x_iconst G (v := 2) dX11_inForce_2 (by decide) ?_
  obtain ⟨v_1, hv_1, hf⟩ := bnd hf
  refine x_staI G (As := [.int v1, .int (0 : Int32), .int (2 : Int32)]) (mX11_within G.2.2.2.2.2.2.1 M hv_1) ms_X11_96 rfl rfl rfl rfl rfl dX11_inForce_3 ?_
  refine x_ifeqB G (tgt := 20) dX11_inForce_6 (by decide) hf (fun c_2 hf => ?_) (fun c_2 hf => ?_)
  · refine x_iload_n G dX11_inForce_9 rfl rfl ?_
    refine x_iconst G (v := 0) dX11_inForce_10 (by decide) ?_
    refine x_sipush G (v := 4999) dX11_inForce_11 (by decide) ?_
    obtain ⟨v_3, hv_3, hf⟩ := bnd hf
    refine x_staI G (As := [.int v2, .int (0 : Int32), .int (4999 : Int32)]) (mX11_within G.2.2.2.2.2.2.1 M hv_3) ms_X11_96 rfl rfl rfl rfl rfl dX11_inForce_14 ?_
    refine x_ifneB G (tgt := 22) dX11_inForce_17 (by decide) hf (fun c_4 hf => ?_) (fun c_4 hf => ?_)
    · refine x_aload_n G dX11_inForce_22 rfl rfl ?_
      refine x_getR G (kd0 M) 4 (b := 106) rfl cl11 rfl wf_X11_40 dX11_inForce_23 ?_
      refine x_iload_n G dX11_inForce_26 rfl rfl ?_
      refine x_iload_n G dX11_inForce_27 rfl rfl ?_
      obtain ⟨v_5, hv_5, hf⟩ := bnd hf
      refine x_virI G (As := [.int v1, .int v2]) (mX4_ruling G.2.2.2.2.2.2.1 M hv_5) mv_X11_373 (kd106 M) cl4 rfl rfl rfl rfl rfl dX11_inForce_28 ?_
      refine x_istore_n G (lv' := [some (.ref 0), some (.int v1), some (.int v2), some (.int v_5)]) dX11_inForce_31 rfl rfl rfl rfl ?_
      refine x_iload_n G dX11_inForce_32 rfl rfl ?_
      refine x_ifge G (tgt := 41) dX11_inForce_33 (by decide) hf (fun c_6 hf => ?_) (fun c_6 hf => ?_)
      · refine x_bipush G (v := -9) dX11_inForce_36 (by decide) ?_
        refine x_goto G (tgt := 42) dX11_inForce_38 (by decide) ?_
        exact x_iretP G hf hr dX11_inForce_42
      · refine x_iload_n G dX11_inForce_41 rfl rfl ?_
        exact x_iretP G hf hr dX11_inForce_42
    · refine x_iconst G (v := -1) dX11_inForce_20 (by decide) ?_
      exact x_iretP G hf hr dX11_inForce_21
  · refine x_iconst G (v := -1) dX11_inForce_20 (by decide) ?_
    exact x_iretP G hf hr dX11_inForce_21

theorem mX11_inForce {l : Launch} {S : KS} {w : Wd} (hI : Inj S) (M : Main S) {v1 : Int32} {v2 : Int32} {r : Int32} (hf : fX11_inForce v1 v2 w = some r) : CI l yX11_inForce cX11_inForce 4 (some .int) 2 S [.ref 0, .int v1, .int v2] w r w := by
  intro sz
  refine mk_entry rfl (by decide +kernel) hI 1 rfl rfl (fun K h1 h2 h3 h4 h5 h6 G => ?_)
  subst h2
  exact xX11_inForce_e G M hf ⟨h3, by rw [h4, h6], h5⟩

set_option maxHeartbeats 4000000 in
set_option maxRecDepth 100000 in
theorem xX11_isDown_e {K : KT} {v0 : Int32} {v1 : Int32} {w : Wd} {r : Bool} (G : GK K cX11_isDown RX11 2 3) (M : Main K.ks) (hf : fX11_isDown v0 v1 w = some r) (hr : RI K .boolean (bI r) w) : XW K 0 [some (.int v0), some (.int v1)] [] w := by
  unfold fX11_isDown at hf
  refine x_iload_n G dX11_isDown_0 rfl rfl ?_
  refine x_iconst G (v := -1) dX11_isDown_1 (by decide) ?_
  refine x_icmpeq G (tgt := 21) dX11_isDown_2 (by decide) hf (fun c_1 hf => ?_) (fun c_1 hf => ?_)
  · refine x_iconst G (v := 1) dX11_isDown_21 (by decide) ?_
    refine x_goto G (tgt := 26) dX11_isDown_22 (by decide) ?_
    exact x_zretP G hf hr dX11_isDown_26
  · refine x_iload_n G dX11_isDown_5 rfl rfl ?_
    obtain ⟨v_2, hv_2, hf⟩ := bnd hf
    refine x_staI G (As := [.int v1]) (mX11_isCell G.2.2.2.2.2.2.1 M hv_2) ms_X11_88 rfl rfl rfl rfl rfl dX11_isDown_6 ?_
    refine x_ifeqB G (tgt := 25) dX11_isDown_9 (by decide) hf (fun c_3 hf => ?_) (fun c_3 hf => ?_)
    · refine x_iload_n G dX11_isDown_12 rfl rfl ?_
      refine x_iload_n G dX11_isDown_13 rfl rfl ?_
      obtain ⟨v_4, hv_4, hf⟩ := bnd hf
      refine x_staI G (As := [.int v0, .int v1]) (mX11_near G.2.2.2.2.2.2.1 M hv_4) ms_X11_203 rfl rfl rfl rfl rfl dX11_isDown_14 ?_
      refine x_iconst G (v := 1) dX11_isDown_17 (by decide) ?_
      refine x_icmpne G (tgt := 25) dX11_isDown_18 (by decide) hf (fun c_5 hf => ?_) (fun c_5 hf => ?_)
      · refine x_iconst G (v := 1) dX11_isDown_21 (by decide) ?_
        refine x_goto G (tgt := 26) dX11_isDown_22 (by decide) ?_
        exact x_zretP G hf hr dX11_isDown_26
      · refine x_iconst G (v := 0) dX11_isDown_25 (by decide) ?_
        exact x_zretP G hf hr dX11_isDown_26
    · refine x_iconst G (v := 0) dX11_isDown_25 (by decide) ?_
      exact x_zretP G hf hr dX11_isDown_26

theorem mX11_isDown {l : Launch} {S : KS} {w : Wd} (hI : Inj S) (M : Main S) {v0 : Int32} {v1 : Int32} {r : Bool} (hf : fX11_isDown v0 v1 w = some r) : CI l yX11_isDown cX11_isDown 2 (some .boolean) 3 S [.int v0, .int v1] w (bI r) w := by
  intro sz
  refine mk_entry rfl (by decide +kernel) hI 0 rfl rfl (fun K h1 h2 h3 h4 h5 h6 G => ?_)
  subst h2
  exact xX11_isDown_e G M hf ⟨h3, by rw [h4, h6], h5⟩

set_option maxHeartbeats 4000000 in
set_option maxRecDepth 100000 in
theorem xX11_judge_150 {K : KT} {v3 : Nat} {v4 : Int32} {w : Wd} {r : Int32 × Wd} (G : GK K cX11_judge RX11 7 5) (M : Main K.ks) (hv3 : IsTape K.ks v3) (hf : fX11_judge_150 v3 v4 w = some r) (hr : RI K .int r.1 r.2) : XW K 150 [some (.ref 0), none, none, some (.ref v3), some (.int v4), none, none] [] w := by
  unfold fX11_judge_150 at hf
  refine x_aload_n G dX11_judge_150 rfl rfl ?_
  refine x_getI G hv3.1 1 rfl cl8 rfl wf_X11_155 dX11_judge_151 ?_
  refine x_aload_n G dX11_judge_154 rfl rfl ?_
  refine x_getR G (kd0 M) 0 (b := 1) rfl cl11 rfl wf_X11_10 dX11_judge_155 ?_
  refine x_getI G (kd1 M) 5 rfl cl0 rfl wf_X11_217 dX11_judge_158 ?_
  refine x_icmpge G (tgt := 171) dX11_judge_161 (by decide) hf (fun c_1 hf => ?_) (fun c_1 hf => ?_)
  · refine x_aload_n G dX11_judge_164 rfl rfl ?_
    refine x_bipush G (v := -13) dX11_judge_165 (by decide) ?_
    obtain ⟨v_2, hv_2, hf⟩ := bnd hf
    refine x_virI G (As := [.int (-13 : Int32)]) (mX11_refuse G.2.2.2.2.2.2.1 M hv_2) mv_X11_152 (kd0 M) cl11 rfl rfl rfl rfl rfl dX11_judge_167 ?_
    exact x_iretW G hf hr dX11_judge_170
  · refine x_aload_n G dX11_judge_171 rfl rfl ?_
    refine x_getR G (kd0 M) 1 (b := 92) rfl cl11 rfl wf_X11_19 dX11_judge_172 ?_
    refine x_aload_n G dX11_judge_175 rfl rfl ?_
    refine x_getR G (kd0 M) 0 (b := 1) rfl cl11 rfl wf_X11_10 dX11_judge_176 ?_
    refine x_iload G dX11_judge_179 rfl ?_
    obtain ⟨v_3, hv_3, hf⟩ := bnd hf
    refine x_virI G (As := [.ref 1, .int v4]) (mX1_peopleFouled G.2.2.2.2.2.2.1 M hv_3) mv_X11_388 (kd92 M) cl1 rfl rfl rfl rfl rfl dX11_judge_181 ?_
    exact x_iretW G hf hr dX11_judge_184

set_option maxHeartbeats 4000000 in
set_option maxRecDepth 100000 in
theorem xX11_judge_65 {K : KT} {r : Int32 × Wd} (G : GK K cX11_judge RX11 7 5) (M : Main K.ks) (hr : RI K .int r.1 r.2) : ∀ (n : Nat) (v2 : Int32) (v3 : Nat) (v4 : Int32) (v5 : Int32) (v6 : Int32) (w : Wd), IsTape K.ks v3 → fX11_judge_65 n v2 v3 v4 v5 v6 w = some r → XW K 65 [some (.ref 0), none, some (.int v2), some (.ref v3), some (.int v4), some (.int v5), some (.int v6)] [] w := by
  intro n
  induction n with
  | zero =>
    intro v2 v3 v4 v5 v6 w hv3 hf
    unfold fX11_judge_65 at hf
    cases hf
  | succ n ih =>
    intro v2 v3 v4 v5 v6 w hv3 hf
    unfold fX11_judge_65 at hf
    refine x_iload G dX11_judge_65 rfl ?_
    refine x_aload_n G dX11_judge_67 rfl rfl ?_
    refine x_getR G (kd0 M) 0 (b := 1) rfl cl11 rfl wf_X11_10 dX11_judge_68 ?_
    refine x_getI G (kd1 M) 5 rfl cl0 rfl wf_X11_217 dX11_judge_71 ?_
    refine x_icmpge G (tgt := 150) dX11_judge_74 (by decide) hf (fun c_1 hf => ?_) (fun c_1 hf => ?_)
    · refine x_iload G dX11_judge_77 rfl ?_
      refine x_aload_n G dX11_judge_79 rfl rfl ?_
      refine x_getI G hv3.1 1 rfl cl8 rfl wf_X11_155 dX11_judge_80 ?_
      refine x_icmpge G (tgt := 150) dX11_judge_83 (by decide) hf (fun c_2 hf => ?_) (fun c_2 hf => ?_)
      · refine x_aload_n G dX11_judge_86 rfl rfl ?_
        refine x_getR G hv3.1 2 (b := (v3 + 1)) rfl cl8 rfl wf_X11_392 dX11_judge_87 ?_
        refine x_iload G dX11_judge_90 rfl ?_
        refine x_lald G hv3.2 dX11_judge_92 hf (fun hb_3 hf => ?_)
        refine x_lconst G (v := 0) dX11_judge_93 (by decide) ?_
        refine x_lcmp G dX11_judge_94 ?_
        refine x_cne G (tgt := 101) dX11_judge_95 (by decide) hf (fun c_4 hf => ?_) (fun c_4 hf => ?_)
        · refine x_goto G (tgt := 144) dX11_judge_98 (by decide) ?_
          refine x_iinc G (lv' := [some (.ref 0), none, some (.int v2), some (.ref v3), some (.int v4), some (.int v5), some (.int (v6 + (1 : Int32)))]) (v := 1) dX11_judge_144 rfl (by decide) rfl rfl rfl ?_
          refine x_goto G (tgt := 65) dX11_judge_147 (by decide) ?_
          exact XW.sub (lv' := [some (.ref 0), none, some (.int v2), some (.ref v3), some (.int v4), some (.int v5), some (.int (v6 + (1 : Int32)))]) (And.intro rfl (And.intro rfl (And.intro rfl (And.intro rfl (And.intro rfl (And.intro rfl trivial)))))) (ih _ _ _ _ _ _ hv3 hf)
        · refine x_iload G dX11_judge_101 rfl ?_
          refine x_iconst G (v := 1) dX11_judge_103 (by decide) ?_
          refine x_iload G dX11_judge_104 rfl ?_
          refine x_ishl G dX11_judge_106 ?_
          refine x_ior G dX11_judge_107 ?_
          refine x_istore G (lv' := [some (.ref 0), none, some (.int v2), some (.ref v3), some (.int (v4 ||| ((1 : Int32) <<< (v6 &&& 31)))), some (.int v5), some (.int v6)]) dX11_judge_108 rfl rfl rfl ?_
          refine x_iload G dX11_judge_110 rfl ?_
          refine x_aload_n G dX11_judge_112 rfl rfl ?_
          refine x_getR G (kd0 M) 0 (b := 1) rfl cl11 rfl wf_X11_10 dX11_judge_113 ?_
          refine x_aload_n G dX11_judge_116 rfl rfl ?_
          refine x_getR G (kd0 M) 0 (b := 1) rfl cl11 rfl wf_X11_10 dX11_judge_117 ?_
          refine x_getR G (kd1 M) 4 (b := 35) rfl cl0 rfl wf_X11_220 dX11_judge_120 ?_
          refine x_iload G dX11_judge_123 rfl ?_
          refine x_aald G (kd35 M) (kn := 0) (by decide) dX11_judge_125 hf (fun hb_5 hf => ?_)
          obtain ⟨v_6, hv_6, hf⟩ := bnd hf
          refine x_virI G (As := [.ref (36 + 7 * (v6).toNatClampNeg)]) (mX0_costOf G.2.2.2.2.2.2.1 M (lineOkM M hb_5) hv_6) mv_X11_384 (kd1 M) cl0 rfl rfl rfl rfl rfl dX11_judge_126 ?_
          refine x_iadd G dX11_judge_129 ?_
          refine x_istore G (lv' := [some (.ref 0), none, some (.int v2), some (.ref v3), some (.int (v4 ||| ((1 : Int32) <<< (v6 &&& 31)))), some (.int (v5 + v_6)), some (.int v6)]) dX11_judge_130 rfl rfl rfl ?_
          refine x_iload G dX11_judge_132 rfl ?_
          refine x_iload_n G dX11_judge_134 rfl rfl ?_
          refine x_icmple G (tgt := 144) dX11_judge_135 (by decide) hf (fun c_7 hf => ?_) (fun c_7 hf => ?_)
          · refine x_bipush G (v := -100) dX11_judge_138 (by decide) ?_
            refine x_iload G dX11_judge_140 rfl ?_
            refine x_isub G dX11_judge_142 ?_
            exact x_iretW G hf hr dX11_judge_143
          · refine x_iinc G (lv' := [some (.ref 0), none, some (.int v2), some (.ref v3), some (.int (v4 ||| ((1 : Int32) <<< (v6 &&& 31)))), some (.int (v5 + v_6)), some (.int (v6 + (1 : Int32)))]) (v := 1) dX11_judge_144 rfl (by decide) rfl rfl rfl ?_
            refine x_goto G (tgt := 65) dX11_judge_147 (by decide) ?_
            exact XW.sub (lv' := [some (.ref 0), none, some (.int v2), some (.ref v3), some (.int (v4 ||| ((1 : Int32) <<< (v6 &&& 31)))), some (.int (v5 + v_6)), some (.int (v6 + (1 : Int32)))]) (And.intro rfl (And.intro rfl (And.intro rfl (And.intro rfl (And.intro rfl (And.intro rfl trivial)))))) (ih _ _ _ _ _ _ hv3 hf)
      · exact XW.sub (lv' := [some (.ref 0), none, none, some (.ref v3), some (.int v4), none, none]) (And.intro rfl (And.intro rfl (And.intro rfl trivial))) (xX11_judge_150 G M hv3 hf hr)
    · exact XW.sub (lv' := [some (.ref 0), none, none, some (.ref v3), some (.int v4), none, none]) (And.intro rfl (And.intro rfl (And.intro rfl trivial))) (xX11_judge_150 G M hv3 hf hr)

set_option maxHeartbeats 4000000 in
set_option maxRecDepth 100000 in
theorem xX11_judge_e {K : KT} {v1 : Int32} {v2 : Int32} {w : Wd} {r : Int32 × Wd} (G : GK K cX11_judge RX11 7 5) (M : Main K.ks) (hf : fX11_judge v1 v2 w = some r) (hr : RI K .int r.1 r.2) : XW K 0 [some (.ref 0), some (.int v1), some (.int v2), none, none, none, none] [] w := by
  unfold fX11_judge at hf
  refine x_iload_n G dX11_judge_0 rfl rfl ?_
  obtain ⟨v_1, hv_1, hf⟩ := bnd hf
  refine x_staI G (As := [.int v1]) (mX11_isTape G.2.2.2.2.2.2.1 M hv_1) ms_X11_146 rfl rfl rfl rfl rfl dX11_judge_1 ?_
  refine x_ifeqB G (tgt := 18) dX11_judge_4 (by decide) hf (fun c_2 hf => ?_) (fun c_2 hf => ?_)
  · refine x_iload_n G dX11_judge_7 rfl rfl ?_
    refine x_iconst G (v := 0) dX11_judge_8 (by decide) ?_
    refine x_ldcw G wc_X11_380 dX11_judge_9 ?_
    obtain ⟨v_3, hv_3, hf⟩ := bnd hf
    refine x_staI G (As := [.int v2, .int (0 : Int32), .int (9999999 : Int32)]) (mX11_within G.2.2.2.2.2.2.1 M hv_3) ms_X11_96 rfl rfl rfl rfl rfl dX11_judge_12 ?_
    refine x_ifneB G (tgt := 20) dX11_judge_15 (by decide) hf (fun c_4 hf => ?_) (fun c_4 hf => ?_)
    · refine x_aload_n G dX11_judge_20 rfl rfl ?_
      refine x_getR G (kd0 M) 5 (b := 134) rfl cl11 rfl wf_X11_46 dX11_judge_21 ?_
      refine x_iload_n G dX11_judge_24 rfl rfl ?_
      refine x_aald G (kd134 M) (kn := 1) (by decide) dX11_judge_25 hf (fun hb_5 hf => ?_)
      refine x_astore_n G (lv' := [some (.ref 0), some (.int v1), some (.int v2), some (.ref (135 + 2 * (v1).toNatClampNeg)), none, none, none]) dX11_judge_26 rfl rfl rfl rfl ?_
      refine x_aload_n G dX11_judge_27 rfl rfl ?_
      refine x_getI G (tapeOk M hb_5).1 0 rfl cl8 rfl wf_X11_149 dX11_judge_28 ?_
      refine x_ifne G (tgt := 41) dX11_judge_31 (by decide) hf (fun c_6 hf => ?_) (fun c_6 hf => ?_)
      · refine x_aload_n G dX11_judge_34 rfl rfl ?_
        refine x_bipush G (v := -11) dX11_judge_35 (by decide) ?_
        obtain ⟨v_7, hv_7, hf⟩ := bnd hf
        refine x_virI G (As := [.int (-11 : Int32)]) (mX11_refuse G.2.2.2.2.2.2.1 M hv_7) mv_X11_152 (kd0 M) cl11 rfl rfl rfl rfl rfl dX11_judge_37 ?_
        exact x_iretW G hf hr dX11_judge_40
      · refine x_aload_n G dX11_judge_41 rfl rfl ?_
        refine x_getI G (tapeOk M hb_5).1 0 rfl cl8 rfl wf_X11_149 dX11_judge_42 ?_
        refine x_iconst G (v := 5) dX11_judge_45 (by decide) ?_
        refine x_icmpeq G (tgt := 56) dX11_judge_46 (by decide) hf (fun c_8 hf => ?_) (fun c_8 hf => ?_)
        · refine x_iconst G (v := 0) dX11_judge_56 (by decide) ?_
          refine x_istore G (lv' := [some (.ref 0), some (.int v1), some (.int v2), some (.ref (135 + 2 * (v1).toNatClampNeg)), some (.int (0 : Int32)), none, none]) dX11_judge_57 rfl rfl rfl ?_
          refine x_iconst G (v := 0) dX11_judge_59 (by decide) ?_
          refine x_istore G (lv' := [some (.ref 0), some (.int v1), some (.int v2), some (.ref (135 + 2 * (v1).toNatClampNeg)), some (.int (0 : Int32)), some (.int (0 : Int32)), none]) dX11_judge_60 rfl rfl rfl ?_
          refine x_iconst G (v := 0) dX11_judge_62 (by decide) ?_
          refine x_istore G (lv' := [some (.ref 0), some (.int v1), some (.int v2), some (.ref (135 + 2 * (v1).toNatClampNeg)), some (.int (0 : Int32)), some (.int (0 : Int32)), some (.int (0 : Int32))]) dX11_judge_63 rfl rfl rfl ?_
          exact XW.sub (lv' := [some (.ref 0), none, some (.int v2), some (.ref (135 + 2 * (v1).toNatClampNeg)), some (.int (0 : Int32)), some (.int (0 : Int32)), some (.int (0 : Int32))]) (And.intro rfl (And.intro rfl (And.intro rfl (And.intro rfl (And.intro rfl (And.intro rfl trivial)))))) (xX11_judge_65 G M hr FU _ _ _ _ _ _ (tapeOk M hb_5) hf)
        · refine x_aload_n G dX11_judge_49 rfl rfl ?_
          refine x_bipush G (v := -12) dX11_judge_50 (by decide) ?_
          obtain ⟨v_9, hv_9, hf⟩ := bnd hf
          refine x_virI G (As := [.int (-12 : Int32)]) (mX11_refuse G.2.2.2.2.2.2.1 M hv_9) mv_X11_152 (kd0 M) cl11 rfl rfl rfl rfl rfl dX11_judge_52 ?_
          exact x_iretW G hf hr dX11_judge_55
    · refine x_iconst G (v := -1) dX11_judge_18 (by decide) ?_
      exact x_iretW G hf hr dX11_judge_19
  · refine x_iconst G (v := -1) dX11_judge_18 (by decide) ?_
    exact x_iretW G hf hr dX11_judge_19

theorem mX11_judge {l : Launch} {S : KS} {w : Wd} (hI : Inj S) (M : Main S) {v1 : Int32} {v2 : Int32} {r : Int32 × Wd} (hf : fX11_judge v1 v2 w = some r) : CI l yX11_judge cX11_judge 7 (some .int) 5 S [.ref 0, .int v1, .int v2] w r.1 r.2 := by
  intro sz
  refine mk_entry rfl (by decide +kernel) hI 4 rfl rfl (fun K h1 h2 h3 h4 h5 h6 G => ?_)
  subst h2
  exact xX11_judge_e G M hf ⟨h3, by rw [h4, h6], h5⟩

