theorem dX12_sum_0 : decode cX12_sum 0 = .ok (.aload_n 0, 1) := by decide +kernel
theorem dX12_sum_1 : decode cX12_sum 1 = .ok (.getfield 285, 3) := by decide +kernel
theorem dX12_sum_4 : decode cX12_sum 4 = .ok (.ifCond .eq 7, 3) := by decide +kernel
theorem dX12_sum_7 : decode cX12_sum 7 = .ok (.iconst 0, 1) := by decide +kernel
theorem dX12_sum_8 : decode cX12_sum 8 = .ok (.goto 7, 3) := by decide +kernel
theorem dX12_sum_11 : decode cX12_sum 11 = .ok (.aload_n 0, 1) := by decide +kernel
theorem dX12_sum_12 : decode cX12_sum 12 = .ok (.invokevirtual 308, 3) := by decide +kernel
theorem dX12_sum_15 : decode cX12_sum 15 = .ok (.istore_n 1, 1) := by decide +kernel
theorem dX12_sum_16 : decode cX12_sum 16 = .ok (.aload_n 0, 1) := by decide +kernel
theorem dX12_sum_17 : decode cX12_sum 17 = .ok (.getfield 285, 3) := by decide +kernel
theorem dX12_sum_20 : decode cX12_sum 20 = .ok (.ifCond .ne 122, 3) := by decide +kernel
theorem dX12_sum_23 : decode cX12_sum 23 = .ok (.aload_n 0, 1) := by decide +kernel
theorem dX12_sum_24 : decode cX12_sum 24 = .ok (.invokevirtual 289, 3) := by decide +kernel
theorem dX12_sum_27 : decode cX12_sum 27 = .ok (.bipush 43, 2) := by decide +kernel
theorem dX12_sum_29 : decode cX12_sum 29 = .ok (.if_icmp .eq 21, 3) := by decide +kernel
theorem dX12_sum_32 : decode cX12_sum 32 = .ok (.aload_n 0, 1) := by decide +kernel
theorem dX12_sum_33 : decode cX12_sum 33 = .ok (.invokevirtual 289, 3) := by decide +kernel
theorem dX12_sum_36 : decode cX12_sum 36 = .ok (.bipush 45, 2) := by decide +kernel
theorem dX12_sum_38 : decode cX12_sum 38 = .ok (.if_icmp .eq 12, 3) := by decide +kernel
theorem dX12_sum_41 : decode cX12_sum 41 = .ok (.aload_n 0, 1) := by decide +kernel
theorem dX12_sum_42 : decode cX12_sum 42 = .ok (.invokevirtual 289, 3) := by decide +kernel
theorem dX12_sum_45 : decode cX12_sum 45 = .ok (.bipush 42, 2) := by decide +kernel
theorem dX12_sum_47 : decode cX12_sum 47 = .ok (.if_icmp .ne 95, 3) := by decide +kernel
theorem dX12_sum_50 : decode cX12_sum 50 = .ok (.aload_n 0, 1) := by decide +kernel
theorem dX12_sum_51 : decode cX12_sum 51 = .ok (.invokevirtual 289, 3) := by decide +kernel
theorem dX12_sum_54 : decode cX12_sum 54 = .ok (.istore_n 2, 1) := by decide +kernel
theorem dX12_sum_55 : decode cX12_sum 55 = .ok (.aload_n 0, 1) := by decide +kernel
theorem dX12_sum_56 : decode cX12_sum 56 = .ok (.dup, 1) := by decide +kernel
theorem dX12_sum_57 : decode cX12_sum 57 = .ok (.getfield 279, 3) := by decide +kernel
theorem dX12_sum_60 : decode cX12_sum 60 = .ok (.iconst 1, 1) := by decide +kernel
theorem dX12_sum_61 : decode cX12_sum 61 = .ok (.iadd, 1) := by decide +kernel
theorem dX12_sum_62 : decode cX12_sum 62 = .ok (.putfield 279, 3) := by decide +kernel
theorem dX12_sum_65 : decode cX12_sum 65 = .ok (.aload_n 0, 1) := by decide +kernel
theorem dX12_sum_66 : decode cX12_sum 66 = .ok (.invokevirtual 308, 3) := by decide +kernel
theorem dX12_sum_69 : decode cX12_sum 69 = .ok (.istore_n 3, 1) := by decide +kernel
theorem dX12_sum_70 : decode cX12_sum 70 = .ok (.iload_n 2, 1) := by decide +kernel
theorem dX12_sum_71 : decode cX12_sum 71 = .ok (.bipush 43, 2) := by decide +kernel
theorem dX12_sum_73 : decode cX12_sum 73 = .ok (.if_icmp .ne 11, 3) := by decide +kernel
theorem dX12_sum_76 : decode cX12_sum 76 = .ok (.iload_n 1, 1) := by decide +kernel
theorem dX12_sum_77 : decode cX12_sum 77 = .ok (.i2l, 1) := by decide +kernel
theorem dX12_sum_78 : decode cX12_sum 78 = .ok (.iload_n 3, 1) := by decide +kernel
theorem dX12_sum_79 : decode cX12_sum 79 = .ok (.i2l, 1) := by decide +kernel
theorem dX12_sum_80 : decode cX12_sum 80 = .ok (.ladd, 1) := by decide +kernel
theorem dX12_sum_81 : decode cX12_sum 81 = .ok (.goto 22, 3) := by decide +kernel
theorem dX12_sum_84 : decode cX12_sum 84 = .ok (.iload_n 2, 1) := by decide +kernel
theorem dX12_sum_85 : decode cX12_sum 85 = .ok (.bipush 45, 2) := by decide +kernel
theorem dX12_sum_87 : decode cX12_sum 87 = .ok (.if_icmp .ne 11, 3) := by decide +kernel
theorem dX12_sum_90 : decode cX12_sum 90 = .ok (.iload_n 1, 1) := by decide +kernel
theorem dX12_sum_91 : decode cX12_sum 91 = .ok (.i2l, 1) := by decide +kernel
theorem dX12_sum_92 : decode cX12_sum 92 = .ok (.iload_n 3, 1) := by decide +kernel
theorem dX12_sum_93 : decode cX12_sum 93 = .ok (.i2l, 1) := by decide +kernel
theorem dX12_sum_94 : decode cX12_sum 94 = .ok (.lsub, 1) := by decide +kernel
theorem dX12_sum_95 : decode cX12_sum 95 = .ok (.goto 8, 3) := by decide +kernel
theorem dX12_sum_98 : decode cX12_sum 98 = .ok (.iload_n 1, 1) := by decide +kernel
theorem dX12_sum_99 : decode cX12_sum 99 = .ok (.i2l, 1) := by decide +kernel
theorem dX12_sum_100 : decode cX12_sum 100 = .ok (.iload_n 3, 1) := by decide +kernel
theorem dX12_sum_101 : decode cX12_sum 101 = .ok (.i2l, 1) := by decide +kernel
theorem dX12_sum_102 : decode cX12_sum 102 = .ok (.lmul, 1) := by decide +kernel
theorem dX12_sum_103 : decode cX12_sum 103 = .ok (.lstore 4, 2) := by decide +kernel
theorem dX12_sum_105 : decode cX12_sum 105 = .ok (.lload 4, 2) := by decide +kernel
theorem dX12_sum_107 : decode cX12_sum 107 = .ok (.ldc2_w 311, 3) := by decide +kernel
theorem dX12_sum_110 : decode cX12_sum 110 = .ok (.lcmp, 1) := by decide +kernel
theorem dX12_sum_111 : decode cX12_sum 111 = .ok (.ifCond .ge 9, 3) := by decide +kernel
theorem dX12_sum_114 : decode cX12_sum 114 = .ok (.ldc_w 313, 3) := by decide +kernel
theorem dX12_sum_117 : decode cX12_sum 117 = .ok (.goto 21, 3) := by decide +kernel
theorem dX12_sum_120 : decode cX12_sum 120 = .ok (.lload 4, 2) := by decide +kernel
theorem dX12_sum_122 : decode cX12_sum 122 = .ok (.ldc2_w 314, 3) := by decide +kernel
theorem dX12_sum_125 : decode cX12_sum 125 = .ok (.lcmp, 1) := by decide +kernel
theorem dX12_sum_126 : decode cX12_sum 126 = .ok (.ifCond .le 9, 3) := by decide +kernel
theorem dX12_sum_129 : decode cX12_sum 129 = .ok (.ldc_w 316, 3) := by decide +kernel
theorem dX12_sum_132 : decode cX12_sum 132 = .ok (.goto 6, 3) := by decide +kernel
theorem dX12_sum_135 : decode cX12_sum 135 = .ok (.lload 4, 2) := by decide +kernel
theorem dX12_sum_137 : decode cX12_sum 137 = .ok (.l2i, 1) := by decide +kernel
theorem dX12_sum_138 : decode cX12_sum 138 = .ok (.istore_n 1, 1) := by decide +kernel
theorem dX12_sum_139 : decode cX12_sum 139 = .ok (.goto (-123), 3) := by decide +kernel
theorem dX12_sum_142 : decode cX12_sum 142 = .ok (.iload_n 1, 1) := by decide +kernel
theorem dX12_sum_143 : decode cX12_sum 143 = .ok (.ireturn, 1) := by decide +kernel
theorem dX12_test_0 : decode cX12_test 0 = .ok (.aload_n 0, 1) := by decide +kernel
theorem dX12_test_1 : decode cX12_test 1 = .ok (.invokevirtual 289, 3) := by decide +kernel
theorem dX12_test_4 : decode cX12_test 4 = .ok (.bipush 33, 2) := by decide +kernel
theorem dX12_test_6 : decode cX12_test 6 = .ok (.if_icmp .ne 47, 3) := by decide +kernel
theorem dX12_test_9 : decode cX12_test 9 = .ok (.aload_n 0, 1) := by decide +kernel
theorem dX12_test_10 : decode cX12_test 10 = .ok (.invokevirtual 320, 3) := by decide +kernel
theorem dX12_test_13 : decode cX12_test 13 = .ok (.aload_n 0, 1) := by decide +kernel
theorem dX12_test_14 : decode cX12_test 14 = .ok (.getfield 285, 3) := by decide +kernel
theorem dX12_test_17 : decode cX12_test 17 = .ok (.ifCond .ne 14, 3) := by decide +kernel
theorem dX12_test_20 : decode cX12_test 20 = .ok (.aload_n 0, 1) := by decide +kernel
theorem dX12_test_21 : decode cX12_test 21 = .ok (.invokevirtual 323, 3) := by decide +kernel
theorem dX12_test_24 : decode cX12_test 24 = .ok (.ifCond .eq 7, 3) := by decide +kernel
theorem dX12_test_27 : decode cX12_test 27 = .ok (.iconst 1, 1) := by decide +kernel
theorem dX12_test_28 : decode cX12_test 28 = .ok (.goto 4, 3) := by decide +kernel
theorem dX12_test_31 : decode cX12_test 31 = .ok (.iconst 0, 1) := by decide +kernel
theorem dX12_test_32 : decode cX12_test 32 = .ok (.istore_n 1, 1) := by decide +kernel
theorem dX12_test_33 : decode cX12_test 33 = .ok (.aload_n 0, 1) := by decide +kernel
theorem dX12_test_34 : decode cX12_test 34 = .ok (.dup, 1) := by decide +kernel
theorem dX12_test_35 : decode cX12_test 35 = .ok (.getfield 317, 3) := by decide +kernel
theorem dX12_test_38 : decode cX12_test 38 = .ok (.iconst 1, 1) := by decide +kernel
theorem dX12_test_39 : decode cX12_test 39 = .ok (.isub, 1) := by decide +kernel
theorem dX12_test_40 : decode cX12_test 40 = .ok (.putfield 317, 3) := by decide +kernel
theorem dX12_test_43 : decode cX12_test 43 = .ok (.iload_n 1, 1) := by decide +kernel
theorem dX12_test_44 : decode cX12_test 44 = .ok (.ifCond .ne 7, 3) := by decide +kernel
theorem dX12_test_47 : decode cX12_test 47 = .ok (.iconst 1, 1) := by decide +kernel
theorem dX12_test_48 : decode cX12_test 48 = .ok (.goto 4, 3) := by decide +kernel
theorem dX12_test_51 : decode cX12_test 51 = .ok (.iconst 0, 1) := by decide +kernel
theorem dX12_test_52 : decode cX12_test 52 = .ok (.ireturn, 1) := by decide +kernel
theorem dX12_test_53 : decode cX12_test 53 = .ok (.aload_n 0, 1) := by decide +kernel
theorem dX12_test_54 : decode cX12_test 54 = .ok (.invokevirtual 289, 3) := by decide +kernel
theorem dX12_test_57 : decode cX12_test 57 = .ok (.bipush 40, 2) := by decide +kernel
theorem dX12_test_59 : decode cX12_test 59 = .ok (.if_icmp .ne 53, 3) := by decide +kernel
theorem dX12_test_62 : decode cX12_test 62 = .ok (.aload_n 0, 1) := by decide +kernel
theorem dX12_test_63 : decode cX12_test 63 = .ok (.invokevirtual 320, 3) := by decide +kernel
theorem dX12_test_66 : decode cX12_test 66 = .ok (.aload_n 0, 1) := by decide +kernel
theorem dX12_test_67 : decode cX12_test 67 = .ok (.getfield 285, 3) := by decide +kernel
theorem dX12_test_70 : decode cX12_test 70 = .ok (.ifCond .ne 14, 3) := by decide +kernel
theorem dX12_test_73 : decode cX12_test 73 = .ok (.aload_n 0, 1) := by decide +kernel
theorem dX12_test_74 : decode cX12_test 74 = .ok (.invokevirtual 327, 3) := by decide +kernel
theorem dX12_test_77 : decode cX12_test 77 = .ok (.ifCond .eq 7, 3) := by decide +kernel
theorem dX12_test_80 : decode cX12_test 80 = .ok (.iconst 1, 1) := by decide +kernel
theorem dX12_test_81 : decode cX12_test 81 = .ok (.goto 4, 3) := by decide +kernel
theorem dX12_test_84 : decode cX12_test 84 = .ok (.iconst 0, 1) := by decide +kernel
theorem dX12_test_85 : decode cX12_test 85 = .ok (.istore_n 1, 1) := by decide +kernel
theorem dX12_test_86 : decode cX12_test 86 = .ok (.aload_n 0, 1) := by decide +kernel
theorem dX12_test_87 : decode cX12_test 87 = .ok (.bipush 41, 2) := by decide +kernel
theorem dX12_test_89 : decode cX12_test 89 = .ok (.invokevirtual 330, 3) := by decide +kernel
theorem dX12_test_92 : decode cX12_test 92 = .ok (.ifCond .ne 8, 3) := by decide +kernel
theorem dX12_test_95 : decode cX12_test 95 = .ok (.aload_n 0, 1) := by decide +kernel
theorem dX12_test_96 : decode cX12_test 96 = .ok (.iconst 1, 1) := by decide +kernel
theorem dX12_test_97 : decode cX12_test 97 = .ok (.putfield 285, 3) := by decide +kernel
theorem dX12_test_100 : decode cX12_test 100 = .ok (.aload_n 0, 1) := by decide +kernel
theorem dX12_test_101 : decode cX12_test 101 = .ok (.dup, 1) := by decide +kernel
theorem dX12_test_102 : decode cX12_test 102 = .ok (.getfield 317, 3) := by decide +kernel
theorem dX12_test_105 : decode cX12_test 105 = .ok (.iconst 1, 1) := by decide +kernel
theorem dX12_test_106 : decode cX12_test 106 = .ok (.isub, 1) := by decide +kernel
theorem dX12_test_107 : decode cX12_test 107 = .ok (.putfield 317, 3) := by decide +kernel
theorem dX12_test_110 : decode cX12_test 110 = .ok (.iload_n 1, 1) := by decide +kernel
theorem dX12_test_111 : decode cX12_test 111 = .ok (.ireturn, 1) := by decide +kernel
theorem dX12_test_112 : decode cX12_test 112 = .ok (.aload_n 0, 1) := by decide +kernel
theorem dX12_test_113 : decode cX12_test 113 = .ok (.invokevirtual 333, 3) := by decide +kernel
theorem dX12_test_116 : decode cX12_test 116 = .ok (.istore_n 1, 1) := by decide +kernel
theorem dX12_test_117 : decode cX12_test 117 = .ok (.aload_n 0, 1) := by decide +kernel
theorem dX12_test_118 : decode cX12_test 118 = .ok (.invokevirtual 289, 3) := by decide +kernel
theorem dX12_test_121 : decode cX12_test 121 = .ok (.istore_n 2, 1) := by decide +kernel
theorem dX12_test_122 : decode cX12_test 122 = .ok (.aload_n 0, 1) := by decide +kernel
theorem dX12_test_123 : decode cX12_test 123 = .ok (.getfield 285, 3) := by decide +kernel
theorem dX12_test_126 : decode cX12_test 126 = .ok (.ifCond .ne 21, 3) := by decide +kernel
theorem dX12_test_129 : decode cX12_test 129 = .ok (.iload_n 2, 1) := by decide +kernel
theorem dX12_test_130 : decode cX12_test 130 = .ok (.bipush 60, 2) := by decide +kernel
theorem dX12_test_132 : decode cX12_test 132 = .ok (.if_icmp .eq 22, 3) := by decide +kernel
theorem dX12_test_135 : decode cX12_test 135 = .ok (.iload_n 2, 1) := by decide +kernel
theorem dX12_test_136 : decode cX12_test 136 = .ok (.bipush 61, 2) := by decide +kernel
theorem dX12_test_138 : decode cX12_test 138 = .ok (.if_icmp .eq 16, 3) := by decide +kernel
theorem dX12_test_141 : decode cX12_test 141 = .ok (.iload_n 2, 1) := by decide +kernel
theorem dX12_test_142 : decode cX12_test 142 = .ok (.bipush 62, 2) := by decide +kernel
theorem dX12_test_144 : decode cX12_test 144 = .ok (.if_icmp .eq 10, 3) := by decide +kernel
theorem dX12_test_147 : decode cX12_test 147 = .ok (.aload_n 0, 1) := by decide +kernel
theorem dX12_test_148 : decode cX12_test 148 = .ok (.iconst 1, 1) := by decide +kernel
theorem dX12_test_149 : decode cX12_test 149 = .ok (.putfield 285, 3) := by decide +kernel
theorem dX12_test_152 : decode cX12_test 152 = .ok (.iconst 0, 1) := by decide +kernel
theorem dX12_test_153 : decode cX12_test 153 = .ok (.ireturn, 1) := by decide +kernel
theorem dX12_test_154 : decode cX12_test 154 = .ok (.aload_n 0, 1) := by decide +kernel
theorem dX12_test_155 : decode cX12_test 155 = .ok (.dup, 1) := by decide +kernel
theorem dX12_test_156 : decode cX12_test 156 = .ok (.getfield 279, 3) := by decide +kernel
theorem dX12_test_159 : decode cX12_test 159 = .ok (.iconst 1, 1) := by decide +kernel
theorem dX12_test_160 : decode cX12_test 160 = .ok (.iadd, 1) := by decide +kernel
theorem dX12_test_161 : decode cX12_test 161 = .ok (.putfield 279, 3) := by decide +kernel
theorem dX12_test_164 : decode cX12_test 164 = .ok (.aload_n 0, 1) := by decide +kernel
theorem dX12_test_165 : decode cX12_test 165 = .ok (.invokevirtual 333, 3) := by decide +kernel
theorem dX12_test_168 : decode cX12_test 168 = .ok (.istore_n 3, 1) := by decide +kernel
theorem dX12_test_169 : decode cX12_test 169 = .ok (.iload_n 2, 1) := by decide +kernel
theorem dX12_test_170 : decode cX12_test 170 = .ok (.bipush 60, 2) := by decide +kernel
theorem dX12_test_172 : decode cX12_test 172 = .ok (.if_icmp .ne 16, 3) := by decide +kernel
theorem dX12_test_175 : decode cX12_test 175 = .ok (.iload_n 1, 1) := by decide +kernel
theorem dX12_test_176 : decode cX12_test 176 = .ok (.iload_n 3, 1) := by decide +kernel
theorem dX12_test_177 : decode cX12_test 177 = .ok (.if_icmp .ge 7, 3) := by decide +kernel
theorem dX12_test_180 : decode cX12_test 180 = .ok (.iconst 1, 1) := by decide +kernel
theorem dX12_test_181 : decode cX12_test 181 = .ok (.goto 36, 3) := by decide +kernel
theorem dX12_test_184 : decode cX12_test 184 = .ok (.iconst 0, 1) := by decide +kernel
theorem dX12_test_185 : decode cX12_test 185 = .ok (.goto 32, 3) := by decide +kernel
theorem dX12_test_188 : decode cX12_test 188 = .ok (.iload_n 2, 1) := by decide +kernel
theorem dX12_test_189 : decode cX12_test 189 = .ok (.bipush 61, 2) := by decide +kernel
theorem dX12_test_191 : decode cX12_test 191 = .ok (.if_icmp .ne 16, 3) := by decide +kernel
theorem dX12_test_194 : decode cX12_test 194 = .ok (.iload_n 1, 1) := by decide +kernel
theorem dX12_test_195 : decode cX12_test 195 = .ok (.iload_n 3, 1) := by decide +kernel
theorem dX12_test_196 : decode cX12_test 196 = .ok (.if_icmp .ne 7, 3) := by decide +kernel
theorem dX12_test_199 : decode cX12_test 199 = .ok (.iconst 1, 1) := by decide +kernel
theorem dX12_test_200 : decode cX12_test 200 = .ok (.goto 17, 3) := by decide +kernel
theorem dX12_test_203 : decode cX12_test 203 = .ok (.iconst 0, 1) := by decide +kernel
theorem dX12_test_204 : decode cX12_test 204 = .ok (.goto 13, 3) := by decide +kernel
theorem dX12_test_207 : decode cX12_test 207 = .ok (.iload_n 1, 1) := by decide +kernel
theorem dX12_test_208 : decode cX12_test 208 = .ok (.iload_n 3, 1) := by decide +kernel
theorem dX12_test_209 : decode cX12_test 209 = .ok (.if_icmp .le 7, 3) := by decide +kernel
theorem dX12_test_212 : decode cX12_test 212 = .ok (.iconst 1, 1) := by decide +kernel
theorem dX12_test_213 : decode cX12_test 213 = .ok (.goto 4, 3) := by decide +kernel
theorem dX12_test_216 : decode cX12_test 216 = .ok (.iconst 0, 1) := by decide +kernel
theorem dX12_test_217 : decode cX12_test 217 = .ok (.ireturn, 1) := by decide +kernel
theorem dX2_restart_0 : decode cX2_restart 0 = .ok (.aload_n 0, 1) := by decide +kernel
theorem dX2_restart_1 : decode cX2_restart 1 = .ok (.getfield 9, 3) := by decide +kernel
theorem dX2_restart_4 : decode cX2_restart 4 = .ok (.bipush 100, 2) := by decide +kernel
theorem dX2_restart_6 : decode cX2_restart 6 = .ok (.invokestatic 45, 3) := by decide +kernel
theorem dX2_restart_9 : decode cX2_restart 9 = .ok (.aload_n 0, 1) := by decide +kernel
theorem dX2_restart_10 : decode cX2_restart 10 = .ok (.getfield 15, 3) := by decide +kernel
theorem dX2_restart_13 : decode cX2_restart 13 = .ok (.iconst 0, 1) := by decide +kernel
theorem dX2_restart_14 : decode cX2_restart 14 = .ok (.invokestatic 45, 3) := by decide +kernel
theorem dX2_restart_17 : decode cX2_restart 17 = .ok (.aload_n 0, 1) := by decide +kernel
theorem dX2_restart_18 : decode cX2_restart 18 = .ok (.getfield 18, 3) := by decide +kernel
theorem dX2_restart_21 : decode cX2_restart 21 = .ok (.iconst 0, 1) := by decide +kernel
theorem dX2_restart_22 : decode cX2_restart 22 = .ok (.invokestatic 45, 3) := by decide +kernel
theorem dX2_restart_25 : decode cX2_restart 25 = .ok (.aload_n 0, 1) := by decide +kernel
theorem dX2_restart_26 : decode cX2_restart 26 = .ok (.getfield 21, 3) := by decide +kernel
theorem dX2_restart_29 : decode cX2_restart 29 = .ok (.bipush 50, 2) := by decide +kernel
theorem dX2_restart_31 : decode cX2_restart 31 = .ok (.invokestatic 45, 3) := by decide +kernel
theorem dX2_restart_34 : decode cX2_restart 34 = .ok (.aload_n 0, 1) := by decide +kernel
theorem dX2_restart_35 : decode cX2_restart 35 = .ok (.getfield 24, 3) := by decide +kernel
theorem dX2_restart_38 : decode cX2_restart 38 = .ok (.iconst 0, 1) := by decide +kernel
theorem dX2_restart_39 : decode cX2_restart 39 = .ok (.invokestatic 45, 3) := by decide +kernel
theorem dX2_restart_42 : decode cX2_restart 42 = .ok (.aload_n 0, 1) := by decide +kernel
theorem dX2_restart_43 : decode cX2_restart 43 = .ok (.getfield 27, 3) := by decide +kernel
theorem dX2_restart_46 : decode cX2_restart 46 = .ok (.iconst 0, 1) := by decide +kernel
theorem dX2_restart_47 : decode cX2_restart 47 = .ok (.invokestatic 45, 3) := by decide +kernel
theorem dX2_restart_50 : decode cX2_restart 50 = .ok (.aload_n 0, 1) := by decide +kernel
theorem dX2_restart_51 : decode cX2_restart 51 = .ok (.getfield 30, 3) := by decide +kernel
theorem dX2_restart_54 : decode cX2_restart 54 = .ok (.iconst (-1), 1) := by decide +kernel
theorem dX2_restart_55 : decode cX2_restart 55 = .ok (.invokestatic 45, 3) := by decide +kernel
theorem dX2_restart_58 : decode cX2_restart 58 = .ok (.aload_n 0, 1) := by decide +kernel
theorem dX2_restart_59 : decode cX2_restart 59 = .ok (.getfield 33, 3) := by decide +kernel
theorem dX2_restart_62 : decode cX2_restart 62 = .ok (.iconst 0, 1) := by decide +kernel
theorem dX2_restart_63 : decode cX2_restart 63 = .ok (.invokestatic 45, 3) := by decide +kernel
theorem dX2_restart_66 : decode cX2_restart 66 = .ok (.aload_n 0, 1) := by decide +kernel
theorem dX2_restart_67 : decode cX2_restart 67 = .ok (.getfield 36, 3) := by decide +kernel
theorem dX2_restart_70 : decode cX2_restart 70 = .ok (.iconst 0, 1) := by decide +kernel
theorem dX2_restart_71 : decode cX2_restart 71 = .ok (.invokestatic 45, 3) := by decide +kernel
theorem dX2_restart_74 : decode cX2_restart 74 = .ok (.aload_n 0, 1) := by decide +kernel
theorem dX2_restart_75 : decode cX2_restart 75 = .ok (.getfield 39, 3) := by decide +kernel
theorem dX2_restart_78 : decode cX2_restart 78 = .ok (.iconst 0, 1) := by decide +kernel
theorem dX2_restart_79 : decode cX2_restart 79 = .ok (.invokestatic 45, 3) := by decide +kernel
theorem dX2_restart_82 : decode cX2_restart 82 = .ok (.aload_n 0, 1) := by decide +kernel
theorem dX2_restart_83 : decode cX2_restart 83 = .ok (.getfield 42, 3) := by decide +kernel
theorem dX2_restart_86 : decode cX2_restart 86 = .ok (.iconst 0, 1) := by decide +kernel
theorem dX2_restart_87 : decode cX2_restart 87 = .ok (.invokestatic 45, 3) := by decide +kernel
theorem dX2_restart_90 : decode cX2_restart 90 = .ok (.return_, 1) := by decide +kernel
theorem dX11_copyRow_0 : decode cX11_copyRow 0 = .ok (.aload_n 0, 1) := by decide +kernel
theorem dX11_copyRow_1 : decode cX11_copyRow 1 = .ok (.iconst 0, 1) := by decide +kernel
theorem dX11_copyRow_2 : decode cX11_copyRow 2 = .ok (.aload_n 1, 1) := by decide +kernel
theorem dX11_copyRow_3 : decode cX11_copyRow 3 = .ok (.iconst 0, 1) := by decide +kernel
theorem dX11_copyRow_4 : decode cX11_copyRow 4 = .ok (.aload_n 0, 1) := by decide +kernel
theorem dX11_copyRow_5 : decode cX11_copyRow 5 = .ok (.arraylength, 1) := by decide +kernel
theorem dX11_copyRow_6 : decode cX11_copyRow 6 = .ok (.aload_n 1, 1) := by decide +kernel
theorem dX11_copyRow_7 : decode cX11_copyRow 7 = .ok (.arraylength, 1) := by decide +kernel
theorem dX11_copyRow_8 : decode cX11_copyRow 8 = .ok (.invokestatic 328, 3) := by decide +kernel
theorem dX11_copyRow_11 : decode cX11_copyRow 11 = .ok (.invokestatic 426, 3) := by decide +kernel
theorem dX11_copyRow_14 : decode cX11_copyRow 14 = .ok (.return_, 1) := by decide +kernel
theorem dX2_become_0 : decode cX2_become 0 = .ok (.aload_n 1, 1) := by decide +kernel
theorem dX2_become_1 : decode cX2_become 1 = .ok (.getfield 9, 3) := by decide +kernel
theorem dX2_become_4 : decode cX2_become 4 = .ok (.aload_n 0, 1) := by decide +kernel
theorem dX2_become_5 : decode cX2_become 5 = .ok (.getfield 9, 3) := by decide +kernel
theorem dX2_become_8 : decode cX2_become 8 = .ok (.invokestatic 51, 3) := by decide +kernel
theorem dX2_become_11 : decode cX2_become 11 = .ok (.aload_n 1, 1) := by decide +kernel
theorem dX2_become_12 : decode cX2_become 12 = .ok (.getfield 15, 3) := by decide +kernel
theorem dX2_become_15 : decode cX2_become 15 = .ok (.aload_n 0, 1) := by decide +kernel
theorem dX2_become_16 : decode cX2_become 16 = .ok (.getfield 15, 3) := by decide +kernel
theorem dX2_become_19 : decode cX2_become 19 = .ok (.invokestatic 51, 3) := by decide +kernel
theorem dX2_become_22 : decode cX2_become 22 = .ok (.aload_n 1, 1) := by decide +kernel
theorem dX2_become_23 : decode cX2_become 23 = .ok (.getfield 18, 3) := by decide +kernel
theorem dX2_become_26 : decode cX2_become 26 = .ok (.aload_n 0, 1) := by decide +kernel
theorem dX2_become_27 : decode cX2_become 27 = .ok (.getfield 18, 3) := by decide +kernel
theorem dX2_become_30 : decode cX2_become 30 = .ok (.invokestatic 51, 3) := by decide +kernel
theorem dX2_become_33 : decode cX2_become 33 = .ok (.aload_n 1, 1) := by decide +kernel
theorem dX2_become_34 : decode cX2_become 34 = .ok (.getfield 21, 3) := by decide +kernel
theorem dX2_become_37 : decode cX2_become 37 = .ok (.aload_n 0, 1) := by decide +kernel
theorem dX2_become_38 : decode cX2_become 38 = .ok (.getfield 21, 3) := by decide +kernel
theorem dX2_become_41 : decode cX2_become 41 = .ok (.invokestatic 51, 3) := by decide +kernel
theorem dX2_become_44 : decode cX2_become 44 = .ok (.aload_n 1, 1) := by decide +kernel
theorem dX2_become_45 : decode cX2_become 45 = .ok (.getfield 24, 3) := by decide +kernel
theorem dX2_become_48 : decode cX2_become 48 = .ok (.aload_n 0, 1) := by decide +kernel
theorem dX2_become_49 : decode cX2_become 49 = .ok (.getfield 24, 3) := by decide +kernel
theorem dX2_become_52 : decode cX2_become 52 = .ok (.invokestatic 51, 3) := by decide +kernel
theorem dX2_become_55 : decode cX2_become 55 = .ok (.aload_n 1, 1) := by decide +kernel
theorem dX2_become_56 : decode cX2_become 56 = .ok (.getfield 27, 3) := by decide +kernel
theorem dX2_become_59 : decode cX2_become 59 = .ok (.aload_n 0, 1) := by decide +kernel
theorem dX2_become_60 : decode cX2_become 60 = .ok (.getfield 27, 3) := by decide +kernel
theorem dX2_become_63 : decode cX2_become 63 = .ok (.invokestatic 51, 3) := by decide +kernel
theorem dX2_become_66 : decode cX2_become 66 = .ok (.aload_n 1, 1) := by decide +kernel
theorem dX2_become_67 : decode cX2_become 67 = .ok (.getfield 30, 3) := by decide +kernel
theorem dX2_become_70 : decode cX2_become 70 = .ok (.aload_n 0, 1) := by decide +kernel
theorem dX2_become_71 : decode cX2_become 71 = .ok (.getfield 30, 3) := by decide +kernel
theorem dX2_become_74 : decode cX2_become 74 = .ok (.invokestatic 51, 3) := by decide +kernel
theorem dX2_become_77 : decode cX2_become 77 = .ok (.aload_n 1, 1) := by decide +kernel
theorem dX2_become_78 : decode cX2_become 78 = .ok (.getfield 33, 3) := by decide +kernel
theorem dX2_become_81 : decode cX2_become 81 = .ok (.aload_n 0, 1) := by decide +kernel
theorem dX2_become_82 : decode cX2_become 82 = .ok (.getfield 33, 3) := by decide +kernel
theorem dX2_become_85 : decode cX2_become 85 = .ok (.invokestatic 51, 3) := by decide +kernel
theorem dX2_become_88 : decode cX2_become 88 = .ok (.aload_n 1, 1) := by decide +kernel
theorem dX2_become_89 : decode cX2_become 89 = .ok (.getfield 36, 3) := by decide +kernel
theorem dX2_become_92 : decode cX2_become 92 = .ok (.aload_n 0, 1) := by decide +kernel
theorem dX2_become_93 : decode cX2_become 93 = .ok (.getfield 36, 3) := by decide +kernel
theorem dX2_become_96 : decode cX2_become 96 = .ok (.invokestatic 51, 3) := by decide +kernel
theorem dX2_become_99 : decode cX2_become 99 = .ok (.aload_n 1, 1) := by decide +kernel
theorem dX2_become_100 : decode cX2_become 100 = .ok (.getfield 39, 3) := by decide +kernel
theorem dX2_become_103 : decode cX2_become 103 = .ok (.aload_n 0, 1) := by decide +kernel
theorem dX2_become_104 : decode cX2_become 104 = .ok (.getfield 39, 3) := by decide +kernel
theorem dX2_become_107 : decode cX2_become 107 = .ok (.invokestatic 51, 3) := by decide +kernel
theorem dX2_become_110 : decode cX2_become 110 = .ok (.aload_n 1, 1) := by decide +kernel
theorem dX2_become_111 : decode cX2_become 111 = .ok (.getfield 42, 3) := by decide +kernel
theorem dX2_become_114 : decode cX2_become 114 = .ok (.aload_n 0, 1) := by decide +kernel
theorem dX2_become_115 : decode cX2_become 115 = .ok (.getfield 42, 3) := by decide +kernel
theorem dX2_become_118 : decode cX2_become 118 = .ok (.invokestatic 51, 3) := by decide +kernel
theorem dX2_become_121 : decode cX2_become 121 = .ok (.return_, 1) := by decide +kernel
theorem dX3_become_0 : decode cX3_become 0 = .ok (.aload_n 1, 1) := by decide +kernel
theorem dX3_become_1 : decode cX3_become 1 = .ok (.getfield 9, 3) := by decide +kernel
theorem dX3_become_4 : decode cX3_become 4 = .ok (.aload_n 0, 1) := by decide +kernel
theorem dX3_become_5 : decode cX3_become 5 = .ok (.getfield 9, 3) := by decide +kernel
theorem dX3_become_8 : decode cX3_become 8 = .ok (.invokestatic 48, 3) := by decide +kernel
theorem dX3_become_11 : decode cX3_become 11 = .ok (.aload_n 1, 1) := by decide +kernel
theorem dX3_become_12 : decode cX3_become 12 = .ok (.getfield 15, 3) := by decide +kernel
theorem dX3_become_15 : decode cX3_become 15 = .ok (.aload_n 0, 1) := by decide +kernel
theorem dX3_become_16 : decode cX3_become 16 = .ok (.getfield 15, 3) := by decide +kernel
theorem dX3_become_19 : decode cX3_become 19 = .ok (.invokestatic 48, 3) := by decide +kernel
theorem dX3_become_22 : decode cX3_become 22 = .ok (.aload_n 1, 1) := by decide +kernel
theorem dX3_become_23 : decode cX3_become 23 = .ok (.getfield 18, 3) := by decide +kernel
theorem dX3_become_26 : decode cX3_become 26 = .ok (.aload_n 0, 1) := by decide +kernel
theorem dX3_become_27 : decode cX3_become 27 = .ok (.getfield 18, 3) := by decide +kernel
theorem dX3_become_30 : decode cX3_become 30 = .ok (.invokestatic 48, 3) := by decide +kernel
theorem dX3_become_33 : decode cX3_become 33 = .ok (.aload_n 1, 1) := by decide +kernel
theorem dX3_become_34 : decode cX3_become 34 = .ok (.getfield 21, 3) := by decide +kernel
theorem dX3_become_37 : decode cX3_become 37 = .ok (.aload_n 0, 1) := by decide +kernel
theorem dX3_become_38 : decode cX3_become 38 = .ok (.getfield 21, 3) := by decide +kernel
theorem dX3_become_41 : decode cX3_become 41 = .ok (.invokestatic 48, 3) := by decide +kernel
theorem dX3_become_44 : decode cX3_become 44 = .ok (.aload_n 1, 1) := by decide +kernel
theorem dX3_become_45 : decode cX3_become 45 = .ok (.getfield 24, 3) := by decide +kernel
theorem dX3_become_48 : decode cX3_become 48 = .ok (.aload_n 0, 1) := by decide +kernel
theorem dX3_become_49 : decode cX3_become 49 = .ok (.getfield 24, 3) := by decide +kernel
theorem dX3_become_52 : decode cX3_become 52 = .ok (.invokestatic 48, 3) := by decide +kernel
theorem dX3_become_55 : decode cX3_become 55 = .ok (.aload_n 1, 1) := by decide +kernel
theorem dX3_become_56 : decode cX3_become 56 = .ok (.getfield 27, 3) := by decide +kernel
theorem dX3_become_59 : decode cX3_become 59 = .ok (.aload_n 0, 1) := by decide +kernel
theorem dX3_become_60 : decode cX3_become 60 = .ok (.getfield 27, 3) := by decide +kernel
theorem dX3_become_63 : decode cX3_become 63 = .ok (.invokestatic 48, 3) := by decide +kernel
theorem dX3_become_66 : decode cX3_become 66 = .ok (.aload_n 1, 1) := by decide +kernel
theorem dX3_become_67 : decode cX3_become 67 = .ok (.getfield 30, 3) := by decide +kernel
theorem dX3_become_70 : decode cX3_become 70 = .ok (.aload_n 0, 1) := by decide +kernel
theorem dX3_become_71 : decode cX3_become 71 = .ok (.getfield 30, 3) := by decide +kernel
theorem dX3_become_74 : decode cX3_become 74 = .ok (.invokestatic 48, 3) := by decide +kernel
theorem dX3_become_77 : decode cX3_become 77 = .ok (.aload_n 1, 1) := by decide +kernel
theorem dX3_become_78 : decode cX3_become 78 = .ok (.getfield 33, 3) := by decide +kernel
theorem dX3_become_81 : decode cX3_become 81 = .ok (.aload_n 0, 1) := by decide +kernel
theorem dX3_become_82 : decode cX3_become 82 = .ok (.getfield 33, 3) := by decide +kernel
theorem dX3_become_85 : decode cX3_become 85 = .ok (.invokestatic 48, 3) := by decide +kernel
theorem dX3_become_88 : decode cX3_become 88 = .ok (.aload_n 1, 1) := by decide +kernel
theorem dX3_become_89 : decode cX3_become 89 = .ok (.getfield 36, 3) := by decide +kernel
theorem dX3_become_92 : decode cX3_become 92 = .ok (.aload_n 0, 1) := by decide +kernel
theorem dX3_become_93 : decode cX3_become 93 = .ok (.getfield 36, 3) := by decide +kernel
theorem dX3_become_96 : decode cX3_become 96 = .ok (.invokestatic 48, 3) := by decide +kernel
theorem dX3_become_99 : decode cX3_become 99 = .ok (.aload_n 1, 1) := by decide +kernel
theorem dX3_become_100 : decode cX3_become 100 = .ok (.getfield 39, 3) := by decide +kernel
theorem dX3_become_103 : decode cX3_become 103 = .ok (.aload_n 0, 1) := by decide +kernel
theorem dX3_become_104 : decode cX3_become 104 = .ok (.getfield 39, 3) := by decide +kernel
theorem dX3_become_107 : decode cX3_become 107 = .ok (.invokestatic 48, 3) := by decide +kernel
theorem dX3_become_110 : decode cX3_become 110 = .ok (.return_, 1) := by decide +kernel
theorem dX5_become_0 : decode cX5_become 0 = .ok (.aload_n 0, 1) := by decide +kernel
theorem dX5_become_1 : decode cX5_become 1 = .ok (.aload_n 1, 1) := by decide +kernel
theorem dX5_become_2 : decode cX5_become 2 = .ok (.getfield 9, 3) := by decide +kernel
theorem dX5_become_5 : decode cX5_become 5 = .ok (.putfield 9, 3) := by decide +kernel
theorem dX5_become_8 : decode cX5_become 8 = .ok (.aload_n 0, 1) := by decide +kernel
theorem dX5_become_9 : decode cX5_become 9 = .ok (.aload_n 1, 1) := by decide +kernel
theorem dX5_become_10 : decode cX5_become 10 = .ok (.getfield 15, 3) := by decide +kernel
theorem dX5_become_13 : decode cX5_become 13 = .ok (.putfield 15, 3) := by decide +kernel
theorem dX5_become_16 : decode cX5_become 16 = .ok (.aload_n 0, 1) := by decide +kernel
theorem dX5_become_17 : decode cX5_become 17 = .ok (.aload_n 1, 1) := by decide +kernel
theorem dX5_become_18 : decode cX5_become 18 = .ok (.getfield 18, 3) := by decide +kernel
theorem dX5_become_21 : decode cX5_become 21 = .ok (.putfield 18, 3) := by decide +kernel
theorem dX5_become_24 : decode cX5_become 24 = .ok (.aload_n 0, 1) := by decide +kernel
theorem dX5_become_25 : decode cX5_become 25 = .ok (.aload_n 1, 1) := by decide +kernel
theorem dX5_become_26 : decode cX5_become 26 = .ok (.getfield 21, 3) := by decide +kernel
theorem dX5_become_29 : decode cX5_become 29 = .ok (.putfield 21, 3) := by decide +kernel
theorem dX5_become_32 : decode cX5_become 32 = .ok (.aload_n 0, 1) := by decide +kernel
theorem dX5_become_33 : decode cX5_become 33 = .ok (.aload_n 1, 1) := by decide +kernel
theorem dX5_become_34 : decode cX5_become 34 = .ok (.getfield 24, 3) := by decide +kernel
theorem dX5_become_37 : decode cX5_become 37 = .ok (.putfield 24, 3) := by decide +kernel
theorem dX5_become_40 : decode cX5_become 40 = .ok (.aload_n 1, 1) := by decide +kernel
theorem dX5_become_41 : decode cX5_become 41 = .ok (.getfield 27, 3) := by decide +kernel
theorem dX5_become_44 : decode cX5_become 44 = .ok (.aload_n 0, 1) := by decide +kernel
theorem dX5_become_45 : decode cX5_become 45 = .ok (.getfield 27, 3) := by decide +kernel
theorem dX5_become_48 : decode cX5_become 48 = .ok (.invokestatic 50, 3) := by decide +kernel
theorem dX5_become_51 : decode cX5_become 51 = .ok (.aload_n 1, 1) := by decide +kernel
theorem dX5_become_52 : decode cX5_become 52 = .ok (.getfield 31, 3) := by decide +kernel
theorem dX5_become_55 : decode cX5_become 55 = .ok (.aload_n 0, 1) := by decide +kernel
theorem dX5_become_56 : decode cX5_become 56 = .ok (.getfield 31, 3) := by decide +kernel
theorem dX5_become_59 : decode cX5_become 59 = .ok (.invokestatic 50, 3) := by decide +kernel
theorem dX5_become_62 : decode cX5_become 62 = .ok (.aload_n 1, 1) := by decide +kernel
theorem dX5_become_63 : decode cX5_become 63 = .ok (.getfield 34, 3) := by decide +kernel
theorem dX5_become_66 : decode cX5_become 66 = .ok (.aload_n 0, 1) := by decide +kernel
theorem dX5_become_67 : decode cX5_become 67 = .ok (.getfield 34, 3) := by decide +kernel
theorem dX5_become_70 : decode cX5_become 70 = .ok (.invokestatic 50, 3) := by decide +kernel
theorem dX5_become_73 : decode cX5_become 73 = .ok (.aload_n 1, 1) := by decide +kernel
theorem dX5_become_74 : decode cX5_become 74 = .ok (.getfield 37, 3) := by decide +kernel
theorem dX5_become_77 : decode cX5_become 77 = .ok (.aload_n 0, 1) := by decide +kernel
theorem dX5_become_78 : decode cX5_become 78 = .ok (.getfield 37, 3) := by decide +kernel
theorem dX5_become_81 : decode cX5_become 81 = .ok (.invokestatic 50, 3) := by decide +kernel
theorem dX5_become_84 : decode cX5_become 84 = .ok (.aload_n 1, 1) := by decide +kernel
theorem dX5_become_85 : decode cX5_become 85 = .ok (.getfield 40, 3) := by decide +kernel
theorem dX5_become_88 : decode cX5_become 88 = .ok (.aload_n 0, 1) := by decide +kernel
theorem dX5_become_89 : decode cX5_become 89 = .ok (.getfield 40, 3) := by decide +kernel
theorem dX5_become_92 : decode cX5_become 92 = .ok (.invokestatic 50, 3) := by decide +kernel
theorem dX5_become_95 : decode cX5_become 95 = .ok (.aload_n 1, 1) := by decide +kernel
theorem dX5_become_96 : decode cX5_become 96 = .ok (.getfield 43, 3) := by decide +kernel
theorem dX5_become_99 : decode cX5_become 99 = .ok (.aload_n 0, 1) := by decide +kernel
theorem dX5_become_100 : decode cX5_become 100 = .ok (.getfield 43, 3) := by decide +kernel
theorem dX5_become_103 : decode cX5_become 103 = .ok (.invokestatic 50, 3) := by decide +kernel
theorem dX5_become_106 : decode cX5_become 106 = .ok (.return_, 1) := by decide +kernel
theorem dX6_become_0 : decode cX6_become 0 = .ok (.aload_n 0, 1) := by decide +kernel
theorem dX6_become_1 : decode cX6_become 1 = .ok (.aload_n 1, 1) := by decide +kernel
theorem dX6_become_2 : decode cX6_become 2 = .ok (.getfield 9, 3) := by decide +kernel
theorem dX6_become_5 : decode cX6_become 5 = .ok (.putfield 9, 3) := by decide +kernel
theorem dX6_become_8 : decode cX6_become 8 = .ok (.aload_n 1, 1) := by decide +kernel
theorem dX6_become_9 : decode cX6_become 9 = .ok (.getfield 15, 3) := by decide +kernel
theorem dX6_become_12 : decode cX6_become 12 = .ok (.aload_n 0, 1) := by decide +kernel
theorem dX6_become_13 : decode cX6_become 13 = .ok (.getfield 15, 3) := by decide +kernel
theorem dX6_become_16 : decode cX6_become 16 = .ok (.invokestatic 28, 3) := by decide +kernel
theorem dX6_become_19 : decode cX6_become 19 = .ok (.aload_n 1, 1) := by decide +kernel
theorem dX6_become_20 : decode cX6_become 20 = .ok (.getfield 19, 3) := by decide +kernel
theorem dX6_become_23 : decode cX6_become 23 = .ok (.aload_n 0, 1) := by decide +kernel
theorem dX6_become_24 : decode cX6_become 24 = .ok (.getfield 19, 3) := by decide +kernel
theorem dX6_become_27 : decode cX6_become 27 = .ok (.invokestatic 28, 3) := by decide +kernel
theorem dX6_become_30 : decode cX6_become 30 = .ok (.aload_n 1, 1) := by decide +kernel
theorem dX6_become_31 : decode cX6_become 31 = .ok (.getfield 22, 3) := by decide +kernel
theorem dX6_become_34 : decode cX6_become 34 = .ok (.aload_n 0, 1) := by decide +kernel
theorem dX6_become_35 : decode cX6_become 35 = .ok (.getfield 22, 3) := by decide +kernel
theorem dX6_become_38 : decode cX6_become 38 = .ok (.invokestatic 28, 3) := by decide +kernel
theorem dX6_become_41 : decode cX6_become 41 = .ok (.aload_n 1, 1) := by decide +kernel
theorem dX6_become_42 : decode cX6_become 42 = .ok (.getfield 25, 3) := by decide +kernel
theorem dX6_become_45 : decode cX6_become 45 = .ok (.aload_n 0, 1) := by decide +kernel
theorem dX6_become_46 : decode cX6_become 46 = .ok (.getfield 25, 3) := by decide +kernel
theorem dX6_become_49 : decode cX6_become 49 = .ok (.invokestatic 28, 3) := by decide +kernel
theorem dX6_become_52 : decode cX6_become 52 = .ok (.return_, 1) := by decide +kernel
theorem dX10_become_0 : decode cX10_become 0 = .ok (.aload_n 1, 1) := by decide +kernel
theorem dX10_become_1 : decode cX10_become 1 = .ok (.getfield 9, 3) := by decide +kernel
theorem dX10_become_4 : decode cX10_become 4 = .ok (.aload_n 0, 1) := by decide +kernel
theorem dX10_become_5 : decode cX10_become 5 = .ok (.getfield 9, 3) := by decide +kernel
theorem dX10_become_8 : decode cX10_become 8 = .ok (.invokestatic 52, 3) := by decide +kernel
theorem dX10_become_11 : decode cX10_become 11 = .ok (.aload_n 1, 1) := by decide +kernel
theorem dX10_become_12 : decode cX10_become 12 = .ok (.getfield 15, 3) := by decide +kernel
theorem dX10_become_15 : decode cX10_become 15 = .ok (.aload_n 0, 1) := by decide +kernel
theorem dX10_become_16 : decode cX10_become 16 = .ok (.getfield 15, 3) := by decide +kernel
theorem dX10_become_19 : decode cX10_become 19 = .ok (.invokestatic 52, 3) := by decide +kernel
theorem dX10_become_22 : decode cX10_become 22 = .ok (.aload_n 1, 1) := by decide +kernel
theorem dX10_become_23 : decode cX10_become 23 = .ok (.getfield 18, 3) := by decide +kernel
theorem dX10_become_26 : decode cX10_become 26 = .ok (.aload_n 0, 1) := by decide +kernel
theorem dX10_become_27 : decode cX10_become 27 = .ok (.getfield 18, 3) := by decide +kernel
theorem dX10_become_30 : decode cX10_become 30 = .ok (.invokestatic 52, 3) := by decide +kernel
theorem dX10_become_33 : decode cX10_become 33 = .ok (.aload_n 1, 1) := by decide +kernel
theorem dX10_become_34 : decode cX10_become 34 = .ok (.getfield 21, 3) := by decide +kernel
theorem dX10_become_37 : decode cX10_become 37 = .ok (.aload_n 0, 1) := by decide +kernel
theorem dX10_become_38 : decode cX10_become 38 = .ok (.getfield 21, 3) := by decide +kernel
theorem dX10_become_41 : decode cX10_become 41 = .ok (.invokestatic 52, 3) := by decide +kernel
theorem dX10_become_44 : decode cX10_become 44 = .ok (.aload_n 0, 1) := by decide +kernel
theorem dX10_become_45 : decode cX10_become 45 = .ok (.aload_n 1, 1) := by decide +kernel
theorem dX10_become_46 : decode cX10_become 46 = .ok (.getfield 24, 3) := by decide +kernel
theorem dX10_become_49 : decode cX10_become 49 = .ok (.putfield 24, 3) := by decide +kernel
theorem dX10_become_52 : decode cX10_become 52 = .ok (.aload_n 0, 1) := by decide +kernel
theorem dX10_become_53 : decode cX10_become 53 = .ok (.aload_n 1, 1) := by decide +kernel
theorem dX10_become_54 : decode cX10_become 54 = .ok (.getfield 28, 3) := by decide +kernel
theorem dX10_become_57 : decode cX10_become 57 = .ok (.putfield 28, 3) := by decide +kernel
theorem dX10_become_60 : decode cX10_become 60 = .ok (.aload_n 0, 1) := by decide +kernel
theorem dX10_become_61 : decode cX10_become 61 = .ok (.aload_n 1, 1) := by decide +kernel
theorem dX10_become_62 : decode cX10_become 62 = .ok (.getfield 31, 3) := by decide +kernel
theorem dX10_become_65 : decode cX10_become 65 = .ok (.putfield 31, 3) := by decide +kernel
theorem dX10_become_68 : decode cX10_become 68 = .ok (.aload_n 0, 1) := by decide +kernel
theorem dX10_become_69 : decode cX10_become 69 = .ok (.aload_n 1, 1) := by decide +kernel
theorem dX10_become_70 : decode cX10_become 70 = .ok (.getfield 34, 3) := by decide +kernel
theorem dX10_become_73 : decode cX10_become 73 = .ok (.putfield 34, 3) := by decide +kernel
theorem dX10_become_76 : decode cX10_become 76 = .ok (.aload_n 0, 1) := by decide +kernel
theorem dX10_become_77 : decode cX10_become 77 = .ok (.aload_n 1, 1) := by decide +kernel
theorem dX10_become_78 : decode cX10_become 78 = .ok (.getfield 37, 3) := by decide +kernel
theorem dX10_become_81 : decode cX10_become 81 = .ok (.putfield 37, 3) := by decide +kernel
theorem dX10_become_84 : decode cX10_become 84 = .ok (.aload_n 0, 1) := by decide +kernel
theorem dX10_become_85 : decode cX10_become 85 = .ok (.aload_n 1, 1) := by decide +kernel
theorem dX10_become_86 : decode cX10_become 86 = .ok (.getfield 40, 3) := by decide +kernel
theorem dX10_become_89 : decode cX10_become 89 = .ok (.putfield 40, 3) := by decide +kernel
theorem dX10_become_92 : decode cX10_become 92 = .ok (.aload_n 0, 1) := by decide +kernel
theorem dX10_become_93 : decode cX10_become 93 = .ok (.aload_n 1, 1) := by decide +kernel
theorem dX10_become_94 : decode cX10_become 94 = .ok (.getfield 43, 3) := by decide +kernel
theorem dX10_become_97 : decode cX10_become 97 = .ok (.putfield 43, 3) := by decide +kernel
theorem dX10_become_100 : decode cX10_become 100 = .ok (.return_, 1) := by decide +kernel
theorem dX0_become_0 : decode cX0_become 0 = .ok (.aload_n 0, 1) := by decide +kernel
theorem dX0_become_1 : decode cX0_become 1 = .ok (.getfield 12, 3) := by decide +kernel
theorem dX0_become_4 : decode cX0_become 4 = .ok (.aload_n 1, 1) := by decide +kernel
theorem dX0_become_5 : decode cX0_become 5 = .ok (.getfield 12, 3) := by decide +kernel
theorem dX0_become_8 : decode cX0_become 8 = .ok (.invokevirtual 79, 3) := by decide +kernel
theorem dX0_become_11 : decode cX0_become 11 = .ok (.aload_n 0, 1) := by decide +kernel
theorem dX0_become_12 : decode cX0_become 12 = .ok (.getfield 21, 3) := by decide +kernel
theorem dX0_become_15 : decode cX0_become 15 = .ok (.aload_n 1, 1) := by decide +kernel
theorem dX0_become_16 : decode cX0_become 16 = .ok (.getfield 21, 3) := by decide +kernel
theorem dX0_become_19 : decode cX0_become 19 = .ok (.invokevirtual 83, 3) := by decide +kernel
theorem dX0_become_22 : decode cX0_become 22 = .ok (.aload_n 0, 1) := by decide +kernel
theorem dX0_become_23 : decode cX0_become 23 = .ok (.getfield 28, 3) := by decide +kernel
theorem dX0_become_26 : decode cX0_become 26 = .ok (.aload_n 1, 1) := by decide +kernel
theorem dX0_become_27 : decode cX0_become 27 = .ok (.getfield 28, 3) := by decide +kernel
theorem dX0_become_30 : decode cX0_become 30 = .ok (.invokevirtual 86, 3) := by decide +kernel
theorem dX0_become_33 : decode cX0_become 33 = .ok (.aload_n 0, 1) := by decide +kernel
theorem dX0_become_34 : decode cX0_become 34 = .ok (.getfield 35, 3) := by decide +kernel
theorem dX0_become_37 : decode cX0_become 37 = .ok (.aload_n 1, 1) := by decide +kernel
theorem dX0_become_38 : decode cX0_become 38 = .ok (.getfield 35, 3) := by decide +kernel
theorem dX0_become_41 : decode cX0_become 41 = .ok (.invokevirtual 89, 3) := by decide +kernel
theorem dX0_become_44 : decode cX0_become 44 = .ok (.aload_n 0, 1) := by decide +kernel
theorem dX0_become_45 : decode cX0_become 45 = .ok (.aload_n 1, 1) := by decide +kernel
theorem dX0_become_46 : decode cX0_become 46 = .ok (.getfield 45, 3) := by decide +kernel
theorem dX0_become_49 : decode cX0_become 49 = .ok (.putfield 45, 3) := by decide +kernel
theorem dX0_become_52 : decode cX0_become 52 = .ok (.iconst 0, 1) := by decide +kernel
theorem dX0_become_53 : decode cX0_become 53 = .ok (.istore_n 2, 1) := by decide +kernel
theorem dX0_become_54 : decode cX0_become 54 = .ok (.iload_n 2, 1) := by decide +kernel
theorem dX0_become_55 : decode cX0_become 55 = .ok (.aload_n 0, 1) := by decide +kernel
theorem dX0_become_56 : decode cX0_become 56 = .ok (.getfield 45, 3) := by decide +kernel
theorem dX0_become_59 : decode cX0_become 59 = .ok (.if_icmp .ge 24, 3) := by decide +kernel
theorem dX0_become_62 : decode cX0_become 62 = .ok (.aload_n 0, 1) := by decide +kernel
theorem dX0_become_63 : decode cX0_become 63 = .ok (.getfield 41, 3) := by decide +kernel
theorem dX0_become_66 : decode cX0_become 66 = .ok (.iload_n 2, 1) := by decide +kernel
theorem dX0_become_67 : decode cX0_become 67 = .ok (.aaload, 1) := by decide +kernel
theorem dX0_become_68 : decode cX0_become 68 = .ok (.aload_n 1, 1) := by decide +kernel
theorem dX0_become_69 : decode cX0_become 69 = .ok (.getfield 41, 3) := by decide +kernel
theorem dX0_become_72 : decode cX0_become 72 = .ok (.iload_n 2, 1) := by decide +kernel
theorem dX0_become_73 : decode cX0_become 73 = .ok (.aaload, 1) := by decide +kernel
theorem dX0_become_74 : decode cX0_become 74 = .ok (.invokevirtual 92, 3) := by decide +kernel
theorem dX0_become_77 : decode cX0_become 77 = .ok (.iinc 2 1, 3) := by decide +kernel
theorem dX0_become_80 : decode cX0_become 80 = .ok (.goto (-26), 3) := by decide +kernel
theorem dX0_become_83 : decode cX0_become 83 = .ok (.aload_n 0, 1) := by decide +kernel
theorem dX0_become_84 : decode cX0_become 84 = .ok (.aload_n 1, 1) := by decide +kernel
theorem dX0_become_85 : decode cX0_become 85 = .ok (.getfield 49, 3) := by decide +kernel
theorem dX0_become_88 : decode cX0_become 88 = .ok (.putfield 49, 3) := by decide +kernel
theorem dX0_become_91 : decode cX0_become 91 = .ok (.aload_n 0, 1) := by decide +kernel
theorem dX0_become_92 : decode cX0_become 92 = .ok (.aload_n 1, 1) := by decide +kernel
theorem dX0_become_93 : decode cX0_become 93 = .ok (.getfield 52, 3) := by decide +kernel
theorem dX0_become_96 : decode cX0_become 96 = .ok (.putfield 52, 3) := by decide +kernel
theorem dX0_become_99 : decode cX0_become 99 = .ok (.aload_n 0, 1) := by decide +kernel
theorem dX0_become_100 : decode cX0_become 100 = .ok (.aload_n 1, 1) := by decide +kernel
theorem dX0_become_101 : decode cX0_become 101 = .ok (.getfield 55, 3) := by decide +kernel
theorem dX0_become_104 : decode cX0_become 104 = .ok (.putfield 55, 3) := by decide +kernel
theorem dX0_become_107 : decode cX0_become 107 = .ok (.aload_n 0, 1) := by decide +kernel
theorem dX0_become_108 : decode cX0_become 108 = .ok (.aload_n 1, 1) := by decide +kernel
theorem dX0_become_109 : decode cX0_become 109 = .ok (.getfield 58, 3) := by decide +kernel
theorem dX0_become_112 : decode cX0_become 112 = .ok (.putfield 58, 3) := by decide +kernel
theorem dX0_become_115 : decode cX0_become 115 = .ok (.aload_n 0, 1) := by decide +kernel
theorem dX0_become_116 : decode cX0_become 116 = .ok (.aload_n 1, 1) := by decide +kernel
theorem dX0_become_117 : decode cX0_become 117 = .ok (.getfield 61, 3) := by decide +kernel
theorem dX0_become_120 : decode cX0_become 120 = .ok (.putfield 61, 3) := by decide +kernel
theorem dX0_become_123 : decode cX0_become 123 = .ok (.aload_n 0, 1) := by decide +kernel
theorem dX0_become_124 : decode cX0_become 124 = .ok (.aload_n 1, 1) := by decide +kernel
theorem dX0_become_125 : decode cX0_become 125 = .ok (.getfield 64, 3) := by decide +kernel
theorem dX0_become_128 : decode cX0_become 128 = .ok (.putfield 64, 3) := by decide +kernel
theorem dX0_become_131 : decode cX0_become 131 = .ok (.aload_n 0, 1) := by decide +kernel
theorem dX0_become_132 : decode cX0_become 132 = .ok (.aload_n 1, 1) := by decide +kernel
theorem dX0_become_133 : decode cX0_become 133 = .ok (.getfield 67, 3) := by decide +kernel
theorem dX0_become_136 : decode cX0_become 136 = .ok (.putfield 67, 3) := by decide +kernel
theorem dX0_become_139 : decode cX0_become 139 = .ok (.return_, 1) := by decide +kernel
theorem dX0_depthOn_0 : decode cX0_depthOn 0 = .ok (.aload_n 0, 1) := by decide +kernel
theorem dX0_depthOn_1 : decode cX0_depthOn 1 = .ok (.getfield 12, 3) := by decide +kernel
theorem dX0_depthOn_4 : decode cX0_depthOn 4 = .ok (.getfield 95, 3) := by decide +kernel
theorem dX0_depthOn_7 : decode cX0_depthOn 7 = .ok (.aload_n 1, 1) := by decide +kernel
theorem dX0_depthOn_8 : decode cX0_depthOn 8 = .ok (.getfield 99, 3) := by decide +kernel
theorem dX0_depthOn_11 : decode cX0_depthOn 11 = .ok (.iload_n 2, 1) := by decide +kernel
theorem dX0_depthOn_12 : decode cX0_depthOn 12 = .ok (.iaload, 1) := by decide +kernel
theorem dX0_depthOn_13 : decode cX0_depthOn 13 = .ok (.iaload, 1) := by decide +kernel
theorem dX0_depthOn_14 : decode cX0_depthOn 14 = .ok (.aload_n 1, 1) := by decide +kernel
theorem dX0_depthOn_15 : decode cX0_depthOn 15 = .ok (.getfield 102, 3) := by decide +kernel
theorem dX0_depthOn_18 : decode cX0_depthOn 18 = .ok (.iload_n 2, 1) := by decide +kernel
theorem dX0_depthOn_19 : decode cX0_depthOn 19 = .ok (.iaload, 1) := by decide +kernel
theorem dX0_depthOn_20 : decode cX0_depthOn 20 = .ok (.isub, 1) := by decide +kernel
theorem dX0_depthOn_21 : decode cX0_depthOn 21 = .ok (.ireturn, 1) := by decide +kernel
theorem dX0_today_0 : decode cX0_today 0 = .ok (.aload_n 0, 1) := by decide +kernel
theorem dX0_today_1 : decode cX0_today 1 = .ok (.getfield 49, 3) := by decide +kernel
theorem dX0_today_4 : decode cX0_today 4 = .ok (.bipush 24, 2) := by decide +kernel
theorem dX0_today_6 : decode cX0_today 6 = .ok (.idiv, 1) := by decide +kernel
theorem dX0_today_7 : decode cX0_today 7 = .ok (.ireturn, 1) := by decide +kernel
theorem dX5_strength_0 : decode cX5_strength 0 = .ok (.aload_n 0, 1) := by decide +kernel
theorem dX5_strength_1 : decode cX5_strength 1 = .ok (.getfield 15, 3) := by decide +kernel
theorem dX5_strength_4 : decode cX5_strength 4 = .ok (.ifCond .ne 14, 3) := by decide +kernel
theorem dX5_strength_7 : decode cX5_strength 7 = .ok (.bipush 100, 2) := by decide +kernel
theorem dX5_strength_9 : decode cX5_strength 9 = .ok (.iconst 2, 1) := by decide +kernel
theorem dX5_strength_10 : decode cX5_strength 10 = .ok (.iload_n 2, 1) := by decide +kernel
theorem dX5_strength_11 : decode cX5_strength 11 = .ok (.imul, 1) := by decide +kernel
theorem dX5_strength_12 : decode cX5_strength 12 = .ok (.invokestatic 61, 3) := by decide +kernel
theorem dX5_strength_15 : decode cX5_strength 15 = .ok (.goto 16, 3) := by decide +kernel
theorem dX5_strength_18 : decode cX5_strength 18 = .ok (.sipush 300, 3) := by decide +kernel
theorem dX5_strength_21 : decode cX5_strength 21 = .ok (.bipush 10, 2) := by decide +kernel
theorem dX5_strength_23 : decode cX5_strength 23 = .ok (.bipush 6, 2) := by decide +kernel
theorem dX5_strength_25 : decode cX5_strength 25 = .ok (.iload_n 2, 1) := by decide +kernel
theorem dX5_strength_26 : decode cX5_strength 26 = .ok (.imul, 1) := by decide +kernel
theorem dX5_strength_27 : decode cX5_strength 27 = .ok (.iadd, 1) := by decide +kernel
theorem dX5_strength_28 : decode cX5_strength 28 = .ok (.invokestatic 61, 3) := by decide +kernel
theorem dX5_strength_31 : decode cX5_strength 31 = .ok (.istore_n 3, 1) := by decide +kernel
theorem dX5_strength_32 : decode cX5_strength 32 = .ok (.aload_n 0, 1) := by decide +kernel
theorem dX5_strength_33 : decode cX5_strength 33 = .ok (.getfield 15, 3) := by decide +kernel
theorem dX5_strength_36 : decode cX5_strength 36 = .ok (.ifCond .ne 17, 3) := by decide +kernel
theorem dX5_strength_39 : decode cX5_strength 39 = .ok (.aload_n 0, 1) := by decide +kernel
theorem dX5_strength_40 : decode cX5_strength 40 = .ok (.getfield 40, 3) := by decide +kernel
theorem dX5_strength_43 : decode cX5_strength 43 = .ok (.iload_n 1, 1) := by decide +kernel
theorem dX5_strength_44 : decode cX5_strength 44 = .ok (.iaload, 1) := by decide +kernel
theorem dX5_strength_45 : decode cX5_strength 45 = .ok (.iconst 1, 1) := by decide +kernel
theorem dX5_strength_46 : decode cX5_strength 46 = .ok (.if_icmp .ne 7, 3) := by decide +kernel
theorem dX5_strength_49 : decode cX5_strength 49 = .ok (.iload_n 3, 1) := by decide +kernel
theorem dX5_strength_50 : decode cX5_strength 50 = .ok (.iconst 2, 1) := by decide +kernel
theorem dX5_strength_51 : decode cX5_strength 51 = .ok (.idiv, 1) := by decide +kernel
theorem dX5_strength_52 : decode cX5_strength 52 = .ok (.istore_n 3, 1) := by decide +kernel
theorem dX5_strength_53 : decode cX5_strength 53 = .ok (.aload_n 0, 1) := by decide +kernel
theorem dX5_strength_54 : decode cX5_strength 54 = .ok (.getfield 43, 3) := by decide +kernel
theorem dX5_strength_57 : decode cX5_strength 57 = .ok (.iload_n 1, 1) := by decide +kernel
theorem dX5_strength_58 : decode cX5_strength 58 = .ok (.iaload, 1) := by decide +kernel
theorem dX5_strength_59 : decode cX5_strength 59 = .ok (.iconst 1, 1) := by decide +kernel
theorem dX5_strength_60 : decode cX5_strength 60 = .ok (.if_icmp .ne 9, 3) := by decide +kernel
theorem dX5_strength_63 : decode cX5_strength 63 = .ok (.iload_n 3, 1) := by decide +kernel
theorem dX5_strength_64 : decode cX5_strength 64 = .ok (.iconst 2, 1) := by decide +kernel
theorem dX5_strength_65 : decode cX5_strength 65 = .ok (.idiv, 1) := by decide +kernel
theorem dX5_strength_66 : decode cX5_strength 66 = .ok (.goto 4, 3) := by decide +kernel
theorem dX5_strength_69 : decode cX5_strength 69 = .ok (.iload_n 3, 1) := by decide +kernel
theorem dX5_strength_70 : decode cX5_strength 70 = .ok (.ireturn, 1) := by decide +kernel
theorem dX0_lineCarries_0 : decode cX0_lineCarries 0 = .ok (.aload_n 1, 1) := by decide +kernel
theorem dX0_lineCarries_1 : decode cX0_lineCarries 1 = .ok (.getfield 115, 3) := by decide +kernel
theorem dX0_lineCarries_4 : decode cX0_lineCarries 4 = .ok (.ifCond .le 5, 3) := by decide +kernel
theorem dX0_lineCarries_7 : decode cX0_lineCarries 7 = .ok (.iconst 0, 1) := by decide +kernel
theorem dX0_lineCarries_8 : decode cX0_lineCarries 8 = .ok (.ireturn, 1) := by decide +kernel
theorem dX0_lineCarries_9 : decode cX0_lineCarries 9 = .ok (.aload_n 0, 1) := by decide +kernel
theorem dX0_lineCarries_10 : decode cX0_lineCarries 10 = .ok (.invokevirtual 118, 3) := by decide +kernel
theorem dX0_lineCarries_13 : decode cX0_lineCarries 13 = .ok (.istore_n 2, 1) := by decide +kernel
theorem dX0_lineCarries_14 : decode cX0_lineCarries 14 = .ok (.iconst 0, 1) := by decide +kernel
theorem dX0_lineCarries_15 : decode cX0_lineCarries 15 = .ok (.istore_n 3, 1) := by decide +kernel
theorem dX0_lineCarries_16 : decode cX0_lineCarries 16 = .ok (.iload_n 3, 1) := by decide +kernel
theorem dX0_lineCarries_17 : decode cX0_lineCarries 17 = .ok (.aload_n 1, 1) := by decide +kernel
theorem dX0_lineCarries_18 : decode cX0_lineCarries 18 = .ok (.getfield 105, 3) := by decide +kernel
theorem dX0_lineCarries_21 : decode cX0_lineCarries 21 = .ok (.if_icmp .ge 33, 3) := by decide +kernel
theorem dX0_lineCarries_24 : decode cX0_lineCarries 24 = .ok (.aload_n 1, 1) := by decide +kernel
theorem dX0_lineCarries_25 : decode cX0_lineCarries 25 = .ok (.iload_n 3, 1) := by decide +kernel
theorem dX0_lineCarries_26 : decode cX0_lineCarries 26 = .ok (.iload_n 2, 1) := by decide +kernel
theorem dX0_lineCarries_27 : decode cX0_lineCarries 27 = .ok (.aload_n 1, 1) := by decide +kernel
theorem dX0_lineCarries_28 : decode cX0_lineCarries 28 = .ok (.getfield 122, 3) := by decide +kernel
theorem dX0_lineCarries_31 : decode cX0_lineCarries 31 = .ok (.iload_n 3, 1) := by decide +kernel
theorem dX0_lineCarries_32 : decode cX0_lineCarries 32 = .ok (.iaload, 1) := by decide +kernel
theorem dX0_lineCarries_33 : decode cX0_lineCarries 33 = .ok (.isub, 1) := by decide +kernel
theorem dX0_lineCarries_34 : decode cX0_lineCarries 34 = .ok (.invokevirtual 125, 3) := by decide +kernel
theorem dX0_lineCarries_37 : decode cX0_lineCarries 37 = .ok (.aload_n 0, 1) := by decide +kernel
theorem dX0_lineCarries_38 : decode cX0_lineCarries 38 = .ok (.aload_n 1, 1) := by decide +kernel
theorem dX0_lineCarries_39 : decode cX0_lineCarries 39 = .ok (.iload_n 3, 1) := by decide +kernel
theorem dX0_lineCarries_40 : decode cX0_lineCarries 40 = .ok (.invokevirtual 128, 3) := by decide +kernel
theorem dX0_lineCarries_43 : decode cX0_lineCarries 43 = .ok (.if_icmp .ge 5, 3) := by decide +kernel
theorem dX0_lineCarries_46 : decode cX0_lineCarries 46 = .ok (.iconst 0, 1) := by decide +kernel
theorem dX0_lineCarries_47 : decode cX0_lineCarries 47 = .ok (.ireturn, 1) := by decide +kernel
theorem dX0_lineCarries_48 : decode cX0_lineCarries 48 = .ok (.iinc 3 1, 3) := by decide +kernel
theorem dX0_lineCarries_51 : decode cX0_lineCarries 51 = .ok (.goto (-35), 3) := by decide +kernel
theorem dX0_lineCarries_54 : decode cX0_lineCarries 54 = .ok (.iconst 1, 1) := by decide +kernel
theorem dX0_lineCarries_55 : decode cX0_lineCarries 55 = .ok (.ireturn, 1) := by decide +kernel
theorem dX0_carryingLines_0 : decode cX0_carryingLines 0 = .ok (.iconst 0, 1) := by decide +kernel
theorem dX0_carryingLines_1 : decode cX0_carryingLines 1 = .ok (.istore_n 1, 1) := by decide +kernel
theorem dX0_carryingLines_2 : decode cX0_carryingLines 2 = .ok (.iconst 0, 1) := by decide +kernel
theorem dX0_carryingLines_3 : decode cX0_carryingLines 3 = .ok (.istore_n 2, 1) := by decide +kernel
theorem dX0_carryingLines_4 : decode cX0_carryingLines 4 = .ok (.iload_n 2, 1) := by decide +kernel
theorem dX0_carryingLines_5 : decode cX0_carryingLines 5 = .ok (.aload_n 0, 1) := by decide +kernel
theorem dX0_carryingLines_6 : decode cX0_carryingLines 6 = .ok (.getfield 45, 3) := by decide +kernel
theorem dX0_carryingLines_9 : decode cX0_carryingLines 9 = .ok (.if_icmp .ge 28, 3) := by decide +kernel
theorem dX0_carryingLines_12 : decode cX0_carryingLines 12 = .ok (.aload_n 0, 1) := by decide +kernel
theorem dX0_carryingLines_13 : decode cX0_carryingLines 13 = .ok (.aload_n 0, 1) := by decide +kernel
theorem dX0_carryingLines_14 : decode cX0_carryingLines 14 = .ok (.getfield 41, 3) := by decide +kernel
theorem dX0_carryingLines_17 : decode cX0_carryingLines 17 = .ok (.iload_n 2, 1) := by decide +kernel
theorem dX0_carryingLines_18 : decode cX0_carryingLines 18 = .ok (.aaload, 1) := by decide +kernel
theorem dX0_carryingLines_19 : decode cX0_carryingLines 19 = .ok (.invokevirtual 132, 3) := by decide +kernel
theorem dX0_carryingLines_22 : decode cX0_carryingLines 22 = .ok (.ifCond .eq 9, 3) := by decide +kernel
theorem dX0_carryingLines_25 : decode cX0_carryingLines 25 = .ok (.iload_n 1, 1) := by decide +kernel
theorem dX0_carryingLines_26 : decode cX0_carryingLines 26 = .ok (.iconst 1, 1) := by decide +kernel
theorem dX0_carryingLines_27 : decode cX0_carryingLines 27 = .ok (.iload_n 2, 1) := by decide +kernel
theorem dX0_carryingLines_28 : decode cX0_carryingLines 28 = .ok (.ishl, 1) := by decide +kernel
theorem dX0_carryingLines_29 : decode cX0_carryingLines 29 = .ok (.ior, 1) := by decide +kernel
theorem dX0_carryingLines_30 : decode cX0_carryingLines 30 = .ok (.istore_n 1, 1) := by decide +kernel
theorem dX0_carryingLines_31 : decode cX0_carryingLines 31 = .ok (.iinc 2 1, 3) := by decide +kernel
theorem dX0_carryingLines_34 : decode cX0_carryingLines 34 = .ok (.goto (-30), 3) := by decide +kernel
theorem dX0_carryingLines_37 : decode cX0_carryingLines 37 = .ok (.iload_n 1, 1) := by decide +kernel
theorem dX0_carryingLines_38 : decode cX0_carryingLines 38 = .ok (.ireturn, 1) := by decide +kernel
theorem dX2_digAt_0 : decode cX2_digAt 0 = .ok (.aload_n 0, 1) := by decide +kernel
theorem dX2_digAt_1 : decode cX2_digAt 1 = .ok (.getfield 9, 3) := by decide +kernel
theorem dX2_digAt_4 : decode cX2_digAt 4 = .ok (.iload_n 1, 1) := by decide +kernel
theorem dX2_digAt_5 : decode cX2_digAt 5 = .ok (.iaload, 1) := by decide +kernel
theorem dX2_digAt_6 : decode cX2_digAt 6 = .ok (.iload_n 2, 1) := by decide +kernel
theorem dX2_digAt_7 : decode cX2_digAt 7 = .ok (.isub, 1) := by decide +kernel
theorem dX2_digAt_8 : decode cX2_digAt 8 = .ok (.istore_n 3, 1) := by decide +kernel
theorem dX2_digAt_9 : decode cX2_digAt 9 = .ok (.iload_n 3, 1) := by decide +kernel
theorem dX2_digAt_10 : decode cX2_digAt 10 = .ok (.ifCond .le 16, 3) := by decide +kernel
theorem dX2_digAt_13 : decode cX2_digAt 13 = .ok (.iload_n 3, 1) := by decide +kernel
theorem dX2_digAt_14 : decode cX2_digAt 14 = .ok (.iconst 2, 1) := by decide +kernel
theorem dX2_digAt_15 : decode cX2_digAt 15 = .ok (.aload_n 0, 1) := by decide +kernel
theorem dX2_digAt_16 : decode cX2_digAt 16 = .ok (.getfield 15, 3) := by decide +kernel
theorem dX2_digAt_19 : decode cX2_digAt 19 = .ok (.iload_n 1, 1) := by decide +kernel
theorem dX2_digAt_20 : decode cX2_digAt 20 = .ok (.iaload, 1) := by decide +kernel
theorem dX2_digAt_21 : decode cX2_digAt 21 = .ok (.iadd, 1) := by decide +kernel
theorem dX2_digAt_22 : decode cX2_digAt 22 = .ok (.imul, 1) := by decide +kernel
theorem dX2_digAt_23 : decode cX2_digAt 23 = .ok (.goto 8, 3) := by decide +kernel
theorem dX2_digAt_26 : decode cX2_digAt 26 = .ok (.bipush 9, 2) := by decide +kernel
theorem dX2_digAt_28 : decode cX2_digAt 28 = .ok (.iload_n 3, 1) := by decide +kernel
theorem dX2_digAt_29 : decode cX2_digAt 29 = .ok (.ineg, 1) := by decide +kernel
theorem dX2_digAt_30 : decode cX2_digAt 30 = .ok (.imul, 1) := by decide +kernel
theorem dX2_digAt_31 : decode cX2_digAt 31 = .ok (.ireturn, 1) := by decide +kernel
theorem dX0_costOf_0 : decode cX0_costOf 0 = .ok (.iconst 0, 1) := by decide +kernel
theorem dX0_costOf_1 : decode cX0_costOf 1 = .ok (.istore_n 2, 1) := by decide +kernel
theorem dX0_costOf_2 : decode cX0_costOf 2 = .ok (.iconst 0, 1) := by decide +kernel
theorem dX0_costOf_3 : decode cX0_costOf 3 = .ok (.istore_n 3, 1) := by decide +kernel
theorem dX0_costOf_4 : decode cX0_costOf 4 = .ok (.iload_n 3, 1) := by decide +kernel
theorem dX0_costOf_5 : decode cX0_costOf 5 = .ok (.aload_n 1, 1) := by decide +kernel
theorem dX0_costOf_6 : decode cX0_costOf 6 = .ok (.getfield 105, 3) := by decide +kernel
theorem dX0_costOf_9 : decode cX0_costOf 9 = .ok (.if_icmp .ge 39, 3) := by decide +kernel
theorem dX0_costOf_12 : decode cX0_costOf 12 = .ok (.iload_n 2, 1) := by decide +kernel
theorem dX0_costOf_13 : decode cX0_costOf 13 = .ok (.aload_n 0, 1) := by decide +kernel
theorem dX0_costOf_14 : decode cX0_costOf 14 = .ok (.getfield 12, 3) := by decide +kernel
theorem dX0_costOf_17 : decode cX0_costOf 17 = .ok (.aload_n 1, 1) := by decide +kernel
theorem dX0_costOf_18 : decode cX0_costOf 18 = .ok (.getfield 99, 3) := by decide +kernel
theorem dX0_costOf_21 : decode cX0_costOf 21 = .ok (.iload_n 3, 1) := by decide +kernel
theorem dX0_costOf_22 : decode cX0_costOf 22 = .ok (.iaload, 1) := by decide +kernel
theorem dX0_costOf_23 : decode cX0_costOf 23 = .ok (.aload_n 1, 1) := by decide +kernel
theorem dX0_costOf_24 : decode cX0_costOf 24 = .ok (.getfield 102, 3) := by decide +kernel
theorem dX0_costOf_27 : decode cX0_costOf 27 = .ok (.iload_n 3, 1) := by decide +kernel
theorem dX0_costOf_28 : decode cX0_costOf 28 = .ok (.iaload, 1) := by decide +kernel
theorem dX0_costOf_29 : decode cX0_costOf 29 = .ok (.invokevirtual 108, 3) := by decide +kernel
theorem dX0_costOf_32 : decode cX0_costOf 32 = .ok (.bipush 10, 2) := by decide +kernel
theorem dX0_costOf_34 : decode cX0_costOf 34 = .ok (.aload_n 1, 1) := by decide +kernel
theorem dX0_costOf_35 : decode cX0_costOf 35 = .ok (.getfield 112, 3) := by decide +kernel
theorem dX0_costOf_38 : decode cX0_costOf 38 = .ok (.imul, 1) := by decide +kernel
theorem dX0_costOf_39 : decode cX0_costOf 39 = .ok (.iadd, 1) := by decide +kernel
theorem dX0_costOf_40 : decode cX0_costOf 40 = .ok (.iadd, 1) := by decide +kernel
theorem dX0_costOf_41 : decode cX0_costOf 41 = .ok (.istore_n 2, 1) := by decide +kernel
theorem dX0_costOf_42 : decode cX0_costOf 42 = .ok (.iinc 3 1, 3) := by decide +kernel
theorem dX0_costOf_45 : decode cX0_costOf 45 = .ok (.goto (-41), 3) := by decide +kernel
theorem dX0_costOf_48 : decode cX0_costOf 48 = .ok (.iload_n 2, 1) := by decide +kernel
theorem dX0_costOf_49 : decode cX0_costOf 49 = .ok (.ireturn, 1) := by decide +kernel
theorem dX5_placeOf_0 : decode cX5_placeOf 0 = .ok (.iconst 0, 1) := by decide +kernel
theorem dX5_placeOf_1 : decode cX5_placeOf 1 = .ok (.istore_n 2, 1) := by decide +kernel
theorem dX5_placeOf_2 : decode cX5_placeOf 2 = .ok (.iload_n 2, 1) := by decide +kernel
theorem dX5_placeOf_3 : decode cX5_placeOf 3 = .ok (.aload_n 0, 1) := by decide +kernel
theorem dX5_placeOf_4 : decode cX5_placeOf 4 = .ok (.getfield 21, 3) := by decide +kernel
theorem dX5_placeOf_7 : decode cX5_placeOf 7 = .ok (.if_icmp .ge 27, 3) := by decide +kernel
theorem dX5_placeOf_10 : decode cX5_placeOf 10 = .ok (.iload_n 2, 1) := by decide +kernel
theorem dX5_placeOf_11 : decode cX5_placeOf 11 = .ok (.bipush 19, 2) := by decide +kernel
theorem dX5_placeOf_13 : decode cX5_placeOf 13 = .ok (.if_icmp .ge 21, 3) := by decide +kernel
theorem dX5_placeOf_16 : decode cX5_placeOf 16 = .ok (.aload_n 0, 1) := by decide +kernel
theorem dX5_placeOf_17 : decode cX5_placeOf 17 = .ok (.getfield 27, 3) := by decide +kernel
theorem dX5_placeOf_20 : decode cX5_placeOf 20 = .ok (.iload_n 2, 1) := by decide +kernel
theorem dX5_placeOf_21 : decode cX5_placeOf 21 = .ok (.iaload, 1) := by decide +kernel
theorem dX5_placeOf_22 : decode cX5_placeOf 22 = .ok (.iload_n 1, 1) := by decide +kernel
theorem dX5_placeOf_23 : decode cX5_placeOf 23 = .ok (.if_icmp .ne 5, 3) := by decide +kernel
theorem dX5_placeOf_26 : decode cX5_placeOf 26 = .ok (.iload_n 2, 1) := by decide +kernel
theorem dX5_placeOf_27 : decode cX5_placeOf 27 = .ok (.ireturn, 1) := by decide +kernel
theorem dX5_placeOf_28 : decode cX5_placeOf 28 = .ok (.iinc 2 1, 3) := by decide +kernel
theorem dX5_placeOf_31 : decode cX5_placeOf 31 = .ok (.goto (-29), 3) := by decide +kernel
theorem dX5_placeOf_34 : decode cX5_placeOf 34 = .ok (.iconst (-1), 1) := by decide +kernel
theorem dX5_placeOf_35 : decode cX5_placeOf 35 = .ok (.ireturn, 1) := by decide +kernel
theorem dX0_deepest_0 : decode cX0_deepest 0 = .ok (.iconst 0, 1) := by decide +kernel
theorem dX0_deepest_1 : decode cX0_deepest 1 = .ok (.istore_n 2, 1) := by decide +kernel
theorem dX0_deepest_2 : decode cX0_deepest 2 = .ok (.iconst 0, 1) := by decide +kernel
theorem dX0_deepest_3 : decode cX0_deepest 3 = .ok (.istore_n 3, 1) := by decide +kernel
theorem dX0_deepest_4 : decode cX0_deepest 4 = .ok (.iconst 0, 1) := by decide +kernel
theorem dX0_deepest_5 : decode cX0_deepest 5 = .ok (.istore 4, 2) := by decide +kernel
theorem dX0_deepest_7 : decode cX0_deepest 7 = .ok (.iload 4, 2) := by decide +kernel
theorem dX0_deepest_9 : decode cX0_deepest 9 = .ok (.aload_n 0, 1) := by decide +kernel
theorem dX0_deepest_10 : decode cX0_deepest 10 = .ok (.getfield 45, 3) := by decide +kernel
theorem dX0_deepest_13 : decode cX0_deepest 13 = .ok (.if_icmp .ge 60, 3) := by decide +kernel
theorem dX0_deepest_16 : decode cX0_deepest 16 = .ok (.aload_n 0, 1) := by decide +kernel
theorem dX0_deepest_17 : decode cX0_deepest 17 = .ok (.getfield 41, 3) := by decide +kernel
theorem dX0_deepest_20 : decode cX0_deepest 20 = .ok (.iload 4, 2) := by decide +kernel
theorem dX0_deepest_22 : decode cX0_deepest 22 = .ok (.aaload, 1) := by decide +kernel
theorem dX0_deepest_23 : decode cX0_deepest 23 = .ok (.iload_n 1, 1) := by decide +kernel
theorem dX0_deepest_24 : decode cX0_deepest 24 = .ok (.invokevirtual 149, 3) := by decide +kernel
theorem dX0_deepest_27 : decode cX0_deepest 27 = .ok (.istore 5, 2) := by decide +kernel
theorem dX0_deepest_29 : decode cX0_deepest 29 = .ok (.iload 5, 2) := by decide +kernel
theorem dX0_deepest_31 : decode cX0_deepest 31 = .ok (.ifCond .ge 6, 3) := by decide +kernel
theorem dX0_deepest_34 : decode cX0_deepest 34 = .ok (.goto 33, 3) := by decide +kernel
theorem dX0_deepest_37 : decode cX0_deepest 37 = .ok (.aload_n 0, 1) := by decide +kernel
theorem dX0_deepest_38 : decode cX0_deepest 38 = .ok (.aload_n 0, 1) := by decide +kernel
theorem dX0_deepest_39 : decode cX0_deepest 39 = .ok (.getfield 41, 3) := by decide +kernel
theorem dX0_deepest_42 : decode cX0_deepest 42 = .ok (.iload 4, 2) := by decide +kernel
theorem dX0_deepest_44 : decode cX0_deepest 44 = .ok (.aaload, 1) := by decide +kernel
theorem dX0_deepest_45 : decode cX0_deepest 45 = .ok (.iload 5, 2) := by decide +kernel
theorem dX0_deepest_47 : decode cX0_deepest 47 = .ok (.invokevirtual 128, 3) := by decide +kernel
theorem dX0_deepest_50 : decode cX0_deepest 50 = .ok (.istore 6, 2) := by decide +kernel
theorem dX0_deepest_52 : decode cX0_deepest 52 = .ok (.iload_n 3, 1) := by decide +kernel
theorem dX0_deepest_53 : decode cX0_deepest 53 = .ok (.ifCond .eq 9, 3) := by decide +kernel
theorem dX0_deepest_56 : decode cX0_deepest 56 = .ok (.iload 6, 2) := by decide +kernel
theorem dX0_deepest_58 : decode cX0_deepest 58 = .ok (.iload_n 2, 1) := by decide +kernel
theorem dX0_deepest_59 : decode cX0_deepest 59 = .ok (.if_icmp .le 6, 3) := by decide +kernel
theorem dX0_deepest_62 : decode cX0_deepest 62 = .ok (.iload 6, 2) := by decide +kernel
theorem dX0_deepest_64 : decode cX0_deepest 64 = .ok (.istore_n 2, 1) := by decide +kernel
theorem dX0_deepest_65 : decode cX0_deepest 65 = .ok (.iconst 1, 1) := by decide +kernel
theorem dX0_deepest_66 : decode cX0_deepest 66 = .ok (.istore_n 3, 1) := by decide +kernel
theorem dX0_deepest_67 : decode cX0_deepest 67 = .ok (.iinc 4 1, 3) := by decide +kernel
theorem dX0_deepest_70 : decode cX0_deepest 70 = .ok (.goto (-63), 3) := by decide +kernel
theorem dX0_deepest_73 : decode cX0_deepest 73 = .ok (.iload_n 2, 1) := by decide +kernel
theorem dX0_deepest_74 : decode cX0_deepest 74 = .ok (.ireturn, 1) := by decide +kernel
theorem dX4_bounded_0 : decode cX4_bounded 0 = .ok (.ldc2_w 140, 3) := by decide +kernel
theorem dX4_bounded_3 : decode cX4_bounded 3 = .ok (.ldc2_w 142, 3) := by decide +kernel
theorem dX4_bounded_6 : decode cX4_bounded 6 = .ok (.lload_n 0, 1) := by decide +kernel
theorem dX4_bounded_7 : decode cX4_bounded 7 = .ok (.invokestatic 144, 3) := by decide +kernel
theorem dX4_bounded_10 : decode cX4_bounded 10 = .ok (.invokestatic 147, 3) := by decide +kernel
theorem dX4_bounded_13 : decode cX4_bounded 13 = .ok (.lreturn, 1) := by decide +kernel
theorem dX4_done_0 : decode cX4_done 0 = .ok (.iload_n 0, 1) := by decide +kernel
theorem dX4_done_1 : decode cX4_done 1 = .ok (.tableswitch 176 38 62 #[172, 176, 176, 176, 129, 115, 176, 122, 176, 176, 176, 176, 176, 176, 176, 176, 176, 176, 176, 176, 176, 176, 136, 148, 160], 115) := by decide +kernel
theorem dX4_done_116 : decode cX4_done 116 = .ok (.lload_n 1, 1) := by decide +kernel
theorem dX4_done_117 : decode cX4_done 117 = .ok (.lload_n 3, 1) := by decide +kernel
theorem dX4_done_118 : decode cX4_done 118 = .ok (.ladd, 1) := by decide +kernel
theorem dX4_done_119 : decode cX4_done 119 = .ok (.invokestatic 136, 3) := by decide +kernel
theorem dX4_done_122 : decode cX4_done 122 = .ok (.lreturn, 1) := by decide +kernel
theorem dX4_done_123 : decode cX4_done 123 = .ok (.lload_n 1, 1) := by decide +kernel
theorem dX4_done_124 : decode cX4_done 124 = .ok (.lload_n 3, 1) := by decide +kernel
theorem dX4_done_125 : decode cX4_done 125 = .ok (.lsub, 1) := by decide +kernel
theorem dX4_done_126 : decode cX4_done 126 = .ok (.invokestatic 136, 3) := by decide +kernel
theorem dX4_done_129 : decode cX4_done 129 = .ok (.lreturn, 1) := by decide +kernel
theorem dX4_done_130 : decode cX4_done 130 = .ok (.lload_n 1, 1) := by decide +kernel
theorem dX4_done_131 : decode cX4_done 131 = .ok (.lload_n 3, 1) := by decide +kernel
theorem dX4_done_132 : decode cX4_done 132 = .ok (.lmul, 1) := by decide +kernel
theorem dX4_done_133 : decode cX4_done 133 = .ok (.invokestatic 136, 3) := by decide +kernel
theorem dX4_done_136 : decode cX4_done 136 = .ok (.lreturn, 1) := by decide +kernel
theorem dX4_done_137 : decode cX4_done 137 = .ok (.lload_n 1, 1) := by decide +kernel
theorem dX4_done_138 : decode cX4_done 138 = .ok (.lload_n 3, 1) := by decide +kernel
theorem dX4_done_139 : decode cX4_done 139 = .ok (.lcmp, 1) := by decide +kernel
theorem dX4_done_140 : decode cX4_done 140 = .ok (.ifCond .ge 7, 3) := by decide +kernel
theorem dX4_done_143 : decode cX4_done 143 = .ok (.lconst 1, 1) := by decide +kernel
theorem dX4_done_144 : decode cX4_done 144 = .ok (.goto 4, 3) := by decide +kernel
theorem dX4_done_147 : decode cX4_done 147 = .ok (.lconst 0, 1) := by decide +kernel
theorem dX4_done_148 : decode cX4_done 148 = .ok (.lreturn, 1) := by decide +kernel
theorem dX4_done_149 : decode cX4_done 149 = .ok (.lload_n 1, 1) := by decide +kernel
theorem dX4_done_150 : decode cX4_done 150 = .ok (.lload_n 3, 1) := by decide +kernel
theorem dX4_done_151 : decode cX4_done 151 = .ok (.lcmp, 1) := by decide +kernel
theorem dX4_done_152 : decode cX4_done 152 = .ok (.ifCond .ne 7, 3) := by decide +kernel
theorem dX4_done_155 : decode cX4_done 155 = .ok (.lconst 1, 1) := by decide +kernel
theorem dX4_done_156 : decode cX4_done 156 = .ok (.goto 4, 3) := by decide +kernel
theorem dX4_done_159 : decode cX4_done 159 = .ok (.lconst 0, 1) := by decide +kernel
theorem dX4_done_160 : decode cX4_done 160 = .ok (.lreturn, 1) := by decide +kernel
theorem dX4_done_161 : decode cX4_done 161 = .ok (.lload_n 1, 1) := by decide +kernel
theorem dX4_done_162 : decode cX4_done 162 = .ok (.lload_n 3, 1) := by decide +kernel
theorem dX4_done_163 : decode cX4_done 163 = .ok (.lcmp, 1) := by decide +kernel
theorem dX4_done_164 : decode cX4_done 164 = .ok (.ifCond .le 7, 3) := by decide +kernel
theorem dX4_done_167 : decode cX4_done 167 = .ok (.lconst 1, 1) := by decide +kernel
theorem dX4_done_168 : decode cX4_done 168 = .ok (.goto 4, 3) := by decide +kernel
theorem dX4_done_171 : decode cX4_done 171 = .ok (.lconst 0, 1) := by decide +kernel
theorem dX4_done_172 : decode cX4_done 172 = .ok (.lreturn, 1) := by decide +kernel
theorem dX4_done_173 : decode cX4_done 173 = .ok (.lload_n 1, 1) := by decide +kernel
theorem dX4_done_174 : decode cX4_done 174 = .ok (.lload_n 3, 1) := by decide +kernel
theorem dX4_done_175 : decode cX4_done 175 = .ok (.land, 1) := by decide +kernel
theorem dX4_done_176 : decode cX4_done 176 = .ok (.lreturn, 1) := by decide +kernel
theorem dX4_done_177 : decode cX4_done 177 = .ok (.lload_n 1, 1) := by decide +kernel
theorem dX4_done_178 : decode cX4_done 178 = .ok (.lload_n 3, 1) := by decide +kernel
theorem dX4_done_179 : decode cX4_done 179 = .ok (.lor, 1) := by decide +kernel
theorem dX4_done_180 : decode cX4_done 180 = .ok (.lreturn, 1) := by decide +kernel
theorem dX5_inWork_0 : decode cX5_inWork 0 = .ok (.aload_n 0, 1) := by decide +kernel
theorem dX5_inWork_1 : decode cX5_inWork 1 = .ok (.getfield 24, 3) := by decide +kernel
theorem dX5_inWork_4 : decode cX5_inWork 4 = .ok (.bipush 19, 2) := by decide +kernel
theorem dX5_inWork_6 : decode cX5_inWork 6 = .ok (.if_icmp .gt 12, 3) := by decide +kernel
theorem dX5_inWork_9 : decode cX5_inWork 9 = .ok (.aload_n 0, 1) := by decide +kernel
theorem dX5_inWork_10 : decode cX5_inWork 10 = .ok (.getfield 24, 3) := by decide +kernel
theorem dX5_inWork_13 : decode cX5_inWork 13 = .ok (.iconst 1, 1) := by decide +kernel
theorem dX5_inWork_14 : decode cX5_inWork 14 = .ok (.isub, 1) := by decide +kernel
theorem dX5_inWork_15 : decode cX5_inWork 15 = .ok (.goto 4, 3) := by decide +kernel
theorem dX5_inWork_18 : decode cX5_inWork 18 = .ok (.iconst (-1), 1) := by decide +kernel
theorem dX5_inWork_19 : decode cX5_inWork 19 = .ok (.ireturn, 1) := by decide +kernel
theorem dX0_isShut_0 : decode cX0_isShut 0 = .ok (.iconst 0, 1) := by decide +kernel
theorem dX0_isShut_1 : decode cX0_isShut 1 = .ok (.istore_n 2, 1) := by decide +kernel
theorem dX0_isShut_2 : decode cX0_isShut 2 = .ok (.iload_n 2, 1) := by decide +kernel
theorem dX0_isShut_3 : decode cX0_isShut 3 = .ok (.aload_n 0, 1) := by decide +kernel
theorem dX0_isShut_4 : decode cX0_isShut 4 = .ok (.getfield 45, 3) := by decide +kernel
theorem dX0_isShut_7 : decode cX0_isShut 7 = .ok (.if_icmp .ge 47, 3) := by decide +kernel
theorem dX0_isShut_10 : decode cX0_isShut 10 = .ok (.aload_n 0, 1) := by decide +kernel
theorem dX0_isShut_11 : decode cX0_isShut 11 = .ok (.getfield 41, 3) := by decide +kernel
theorem dX0_isShut_14 : decode cX0_isShut 14 = .ok (.iload_n 2, 1) := by decide +kernel
theorem dX0_isShut_15 : decode cX0_isShut 15 = .ok (.aaload, 1) := by decide +kernel
theorem dX0_isShut_16 : decode cX0_isShut 16 = .ok (.astore_n 3, 1) := by decide +kernel
theorem dX0_isShut_17 : decode cX0_isShut 17 = .ok (.aload_n 3, 1) := by decide +kernel
theorem dX0_isShut_18 : decode cX0_isShut 18 = .ok (.invokevirtual 136, 3) := by decide +kernel
theorem dX0_isShut_21 : decode cX0_isShut 21 = .ok (.istore 4, 2) := by decide +kernel
theorem dX0_isShut_23 : decode cX0_isShut 23 = .ok (.aload_n 3, 1) := by decide +kernel
theorem dX0_isShut_24 : decode cX0_isShut 24 = .ok (.getfield 139, 3) := by decide +kernel
theorem dX0_isShut_27 : decode cX0_isShut 27 = .ok (.ifCond .le 21, 3) := by decide +kernel
theorem dX0_isShut_30 : decode cX0_isShut 30 = .ok (.iload 4, 2) := by decide +kernel
theorem dX0_isShut_32 : decode cX0_isShut 32 = .ok (.ifCond .lt 16, 3) := by decide +kernel
theorem dX0_isShut_35 : decode cX0_isShut 35 = .ok (.aload_n 3, 1) := by decide +kernel
theorem dX0_isShut_36 : decode cX0_isShut 36 = .ok (.getfield 99, 3) := by decide +kernel
theorem dX0_isShut_39 : decode cX0_isShut 39 = .ok (.iload 4, 2) := by decide +kernel
theorem dX0_isShut_41 : decode cX0_isShut 41 = .ok (.iaload, 1) := by decide +kernel
theorem dX0_isShut_42 : decode cX0_isShut 42 = .ok (.iload_n 1, 1) := by decide +kernel
theorem dX0_isShut_43 : decode cX0_isShut 43 = .ok (.if_icmp .ne 5, 3) := by decide +kernel
theorem dX0_isShut_46 : decode cX0_isShut 46 = .ok (.iconst 1, 1) := by decide +kernel
theorem dX0_isShut_47 : decode cX0_isShut 47 = .ok (.ireturn, 1) := by decide +kernel
theorem dX0_isShut_48 : decode cX0_isShut 48 = .ok (.iinc 2 1, 3) := by decide +kernel
theorem dX0_isShut_51 : decode cX0_isShut 51 = .ok (.goto (-49), 3) := by decide +kernel
theorem dX0_isShut_54 : decode cX0_isShut 54 = .ok (.iconst 0, 1) := by decide +kernel
theorem dX0_isShut_55 : decode cX0_isShut 55 = .ok (.ireturn, 1) := by decide +kernel
set_option maxHeartbeats 4000000 in
set_option maxRecDepth 100000 in
theorem xX12_sum_103 {K : KT} {s0 : Int64} {w : Wd} {r : Int32 × Wd} (G : GK K cX12_sum RX12 6 6) (M : Main K.ks) (k16 : Int32 → Wd → Option (Int32 × Wd)) (hk16 : ∀ (v1 : Int32) (w : Wd), k16 v1 w = some r → XW K 16 [some (.ref 148), some (.int v1), none, none, none, none] [] w) (hf : fX12_sum_103 k16 s0 w = some r) (hr : RI K .int r.1 r.2) : XW K 103 [some (.ref 148), none, none, none, none, none] [.long s0] w := by
  unfold fX12_sum_103 at hf
  refine x_lstore G (lv' := [some (.ref 148), none, none, none, some (.long s0), none]) dX12_sum_103 rfl rfl rfl ?_
  refine x_lload G dX12_sum_105 rfl ?_
  refine x_ldc2 G wl_X12_311 dX12_sum_107 ?_
  refine x_lcmp G dX12_sum_110 ?_
  refine x_cge G (tgt := 120) dX12_sum_111 (by decide) hf (fun c_1 hf => ?_) (fun c_1 hf => ?_)
  · refine x_ldcw G wc_X12_313 dX12_sum_114 ?_
    refine x_goto G (tgt := 138) dX12_sum_117 (by decide) ?_
    refine x_istore_n G (lv' := [some (.ref 148), some (.int (-1000000 : Int32)), none, none, some (.long s0), none]) dX12_sum_138 rfl rfl rfl rfl ?_
    refine x_goto G (tgt := 16) dX12_sum_139 (by decide) ?_
    exact XW.sub (lv' := [some (.ref 148), some (.int (-1000000 : Int32)), none, none, none, none]) (And.intro rfl (And.intro rfl trivial)) (hk16 _ _ hf)
  · refine x_lload G dX12_sum_120 rfl ?_
    refine x_ldc2 G wl_X12_314 dX12_sum_122 ?_
    refine x_lcmp G dX12_sum_125 ?_
    refine x_cle G (tgt := 135) dX12_sum_126 (by decide) hf (fun c_2 hf => ?_) (fun c_2 hf => ?_)
    · refine x_ldcw G wc_X12_316 dX12_sum_129 ?_
      refine x_goto G (tgt := 138) dX12_sum_132 (by decide) ?_
      refine x_istore_n G (lv' := [some (.ref 148), some (.int (1000000 : Int32)), none, none, some (.long s0), none]) dX12_sum_138 rfl rfl rfl rfl ?_
      refine x_goto G (tgt := 16) dX12_sum_139 (by decide) ?_
      exact XW.sub (lv' := [some (.ref 148), some (.int (1000000 : Int32)), none, none, none, none]) (And.intro rfl (And.intro rfl trivial)) (hk16 _ _ hf)
    · refine x_lload G dX12_sum_135 rfl ?_
      refine x_l2i G dX12_sum_137 ?_
      refine x_istore_n G (lv' := [some (.ref 148), some (.int s0.toInt32), none, none, some (.long s0), none]) dX12_sum_138 rfl rfl rfl rfl ?_
      refine x_goto G (tgt := 16) dX12_sum_139 (by decide) ?_
      exact XW.sub (lv' := [some (.ref 148), some (.int s0.toInt32), none, none, none, none]) (And.intro rfl (And.intro rfl trivial)) (hk16 _ _ hf)

set_option maxHeartbeats 4000000 in
set_option maxRecDepth 100000 in
theorem xX12_sum_50 {K : KT} {v1 : Int32} {w : Wd} {r : Int32 × Wd} (G : GK K cX12_sum RX12 6 6) (M : Main K.ks) (k16 : Int32 → Wd → Option (Int32 × Wd)) (hk16 : ∀ (v1 : Int32) (w : Wd), k16 v1 w = some r → XW K 16 [some (.ref 148), some (.int v1), none, none, none, none] [] w) (hf : fX12_sum_50 k16 v1 w = some r) (hr : RI K .int r.1 r.2) : XW K 50 [some (.ref 148), some (.int v1), none, none, none, none] [] w := by
  unfold fX12_sum_50 at hf
  refine x_aload_n G dX12_sum_50 rfl rfl ?_
  obtain ⟨v_1, hv_1, hf⟩ := bnd hf
  refine x_virI G (As := []) (mX12_here G.2.2.2.2.2.2.1 M hv_1) mv_X12_289 (kd148 M) cl12 rfl rfl rfl rfl rfl dX12_sum_51 ?_
  refine x_istore_n G (lv' := [some (.ref 148), some (.int v1), some (.int v_1), none, none, none]) dX12_sum_54 rfl rfl rfl rfl ?_
  refine x_aload_n G dX12_sum_55 rfl rfl ?_
  refine x_dup G dX12_sum_56 rfl ?_
  refine x_getI G (kd148 M) 24 rfl cl12 rfl wf_X12_279 dX12_sum_57 ?_
  refine x_iconst G (v := 1) dX12_sum_60 (by decide) ?_
  refine x_iadd G dX12_sum_61 ?_
  refine x_putI G (kd148 M) 24 rfl cl12 rfl wf_X12_279 rfl rfl rfl dX12_sum_62 ?_
  refine nwr hf (fun w_2 hf => ?_)
  refine x_aload_n G dX12_sum_65 rfl rfl ?_
  obtain ⟨v_3, hv_3, hf⟩ := bnd hf
  refine x_virI G (As := []) (mX12_unit G.2.2.2.2.2.2.1 M hv_3) mv_X12_308 (kd148 M) cl12 rfl rfl rfl rfl rfl dX12_sum_66 ?_
  refine x_istore_n G (lv' := [some (.ref 148), some (.int v1), some (.int v_1), some (.int v_3.1), none, none]) dX12_sum_69 rfl rfl rfl rfl ?_
  refine x_iload_n G dX12_sum_70 rfl rfl ?_
  refine x_bipush G (v := 43) dX12_sum_71 (by decide) ?_
  refine x_icmpne G (tgt := 84) dX12_sum_73 (by decide) hf (fun c_4 hf => ?_) (fun c_4 hf => ?_)
  · refine x_iload_n G dX12_sum_76 rfl rfl ?_
    refine x_i2l G dX12_sum_77 ?_
    refine x_iload_n G dX12_sum_78 rfl rfl ?_
    refine x_i2l G dX12_sum_79 ?_
    refine x_ladd G dX12_sum_80 ?_
    refine x_goto G (tgt := 103) dX12_sum_81 (by decide) ?_
    exact XW.sub (lv' := [some (.ref 148), none, none, none, none, none]) (And.intro rfl trivial) (xX12_sum_103 G M k16 hk16 hf hr)
  · refine x_iload_n G dX12_sum_84 rfl rfl ?_
    refine x_bipush G (v := 45) dX12_sum_85 (by decide) ?_
    refine x_icmpne G (tgt := 98) dX12_sum_87 (by decide) hf (fun c_5 hf => ?_) (fun c_5 hf => ?_)
    · refine x_iload_n G dX12_sum_90 rfl rfl ?_
      refine x_i2l G dX12_sum_91 ?_
      refine x_iload_n G dX12_sum_92 rfl rfl ?_
      refine x_i2l G dX12_sum_93 ?_
      refine x_lsub G dX12_sum_94 ?_
      refine x_goto G (tgt := 103) dX12_sum_95 (by decide) ?_
      exact XW.sub (lv' := [some (.ref 148), none, none, none, none, none]) (And.intro rfl trivial) (xX12_sum_103 G M k16 hk16 hf hr)
    · refine x_iload_n G dX12_sum_98 rfl rfl ?_
      refine x_i2l G dX12_sum_99 ?_
      refine x_iload_n G dX12_sum_100 rfl rfl ?_
      refine x_i2l G dX12_sum_101 ?_
      refine x_lmul G dX12_sum_102 ?_
      exact XW.sub (lv' := [some (.ref 148), none, none, none, none, none]) (And.intro rfl trivial) (xX12_sum_103 G M k16 hk16 hf hr)

set_option maxHeartbeats 4000000 in
set_option maxRecDepth 100000 in
theorem xX12_sum_16 {K : KT} {r : Int32 × Wd} (G : GK K cX12_sum RX12 6 6) (M : Main K.ks) (hr : RI K .int r.1 r.2) : ∀ (n : Nat) (v1 : Int32) (w : Wd), fX12_sum_16 n v1 w = some r → XW K 16 [some (.ref 148), some (.int v1), none, none, none, none] [] w := by
  intro n
  induction n with
  | zero =>
    intro v1 w hf
    unfold fX12_sum_16 at hf
    cases hf
  | succ n ih =>
    intro v1 w hf
    unfold fX12_sum_16 at hf
    refine x_aload_n G dX12_sum_16 rfl rfl ?_
    refine x_getI G (kd148 M) 26 rfl cl12 rfl wf_X12_285 dX12_sum_17 ?_
    refine x_ifne G (tgt := 142) dX12_sum_20 (by decide) hf (fun c_1 hf => ?_) (fun c_1 hf => ?_)
    · refine x_aload_n G dX12_sum_23 rfl rfl ?_
      obtain ⟨v_2, hv_2, hf⟩ := bnd hf
      refine x_virI G (As := []) (mX12_here G.2.2.2.2.2.2.1 M hv_2) mv_X12_289 (kd148 M) cl12 rfl rfl rfl rfl rfl dX12_sum_24 ?_
      refine x_bipush G (v := 43) dX12_sum_27 (by decide) ?_
      refine x_icmpeq G (tgt := 50) dX12_sum_29 (by decide) hf (fun c_3 hf => ?_) (fun c_3 hf => ?_)
      · exact (xX12_sum_50 G M (fX12_sum_16 n) ih hf hr)
      · refine x_aload_n G dX12_sum_32 rfl rfl ?_
        obtain ⟨v_4, hv_4, hf⟩ := bnd hf
        refine x_virI G (As := []) (mX12_here G.2.2.2.2.2.2.1 M hv_4) mv_X12_289 (kd148 M) cl12 rfl rfl rfl rfl rfl dX12_sum_33 ?_
        refine x_bipush G (v := 45) dX12_sum_36 (by decide) ?_
        refine x_icmpeq G (tgt := 50) dX12_sum_38 (by decide) hf (fun c_5 hf => ?_) (fun c_5 hf => ?_)
        · exact (xX12_sum_50 G M (fX12_sum_16 n) ih hf hr)
        · refine x_aload_n G dX12_sum_41 rfl rfl ?_
          obtain ⟨v_6, hv_6, hf⟩ := bnd hf
          refine x_virI G (As := []) (mX12_here G.2.2.2.2.2.2.1 M hv_6) mv_X12_289 (kd148 M) cl12 rfl rfl rfl rfl rfl dX12_sum_42 ?_
          refine x_bipush G (v := 42) dX12_sum_45 (by decide) ?_
          refine x_icmpne G (tgt := 142) dX12_sum_47 (by decide) hf (fun c_7 hf => ?_) (fun c_7 hf => ?_)
          · exact (xX12_sum_50 G M (fX12_sum_16 n) ih hf hr)
          · refine x_iload_n G dX12_sum_142 rfl rfl ?_
            exact x_iretW G hf hr dX12_sum_143
    · refine x_iload_n G dX12_sum_142 rfl rfl ?_
      exact x_iretW G hf hr dX12_sum_143

set_option maxHeartbeats 4000000 in
set_option maxRecDepth 100000 in
theorem xX12_sum_e {K : KT} {w : Wd} {r : Int32 × Wd} (G : GK K cX12_sum RX12 6 6) (M : Main K.ks) (hf : fX12_sum w = some r) (hr : RI K .int r.1 r.2) : XW K 0 [some (.ref 148), none, none, none, none, none] [] w := by
  unfold fX12_sum at hf
  refine x_aload_n G dX12_sum_0 rfl rfl ?_
  refine x_getI G (kd148 M) 26 rfl cl12 rfl wf_X12_285 dX12_sum_1 ?_
  refine x_ifeq G (tgt := 11) dX12_sum_4 (by decide) hf (fun c_1 hf => ?_) (fun c_1 hf => ?_)
  · refine x_aload_n G dX12_sum_11 rfl rfl ?_
    obtain ⟨v_2, hv_2, hf⟩ := bnd hf
    refine x_virI G (As := []) (mX12_unit G.2.2.2.2.2.2.1 M hv_2) mv_X12_308 (kd148 M) cl12 rfl rfl rfl rfl rfl dX12_sum_12 ?_
    refine x_istore_n G (lv' := [some (.ref 148), some (.int v_2.1), none, none, none, none]) dX12_sum_15 rfl rfl rfl rfl ?_
    exact XW.sub (lv' := [some (.ref 148), some (.int v_2.1), none, none, none, none]) (And.intro rfl (And.intro rfl trivial)) (xX12_sum_16 G M hr FU _ _ hf)
  · refine x_iconst G (v := 0) dX12_sum_7 (by decide) ?_
    refine x_goto G (tgt := 15) dX12_sum_8 (by decide) ?_
    refine x_istore_n G (lv' := [some (.ref 148), some (.int (0 : Int32)), none, none, none, none]) dX12_sum_15 rfl rfl rfl rfl ?_
    exact XW.sub (lv' := [some (.ref 148), some (.int (0 : Int32)), none, none, none, none]) (And.intro rfl (And.intro rfl trivial)) (xX12_sum_16 G M hr FU _ _ hf)

theorem mX12_sum {l : Launch} {S : KS} {w : Wd} (hI : Inj S) (M : Main S) {r : Int32 × Wd} (hf : fX12_sum w = some r) : CI l yX12_sum cX12_sum 6 (some .int) 6 S [.ref 148] w r.1 r.2 := by
  intro sz
  refine mk_entry rfl (by decide +kernel) hI 5 rfl rfl (fun K h1 h2 h3 h4 h5 h6 G => ?_)
  subst h2
  exact xX12_sum_e G M hf ⟨h3, by rw [h4, h6], h5⟩

set_option maxHeartbeats 4000000 in
set_option maxRecDepth 100000 in
theorem xX12_test_32 {K : KT} {dr : Nat} {s0 : Int32} {w : Wd} {r : Bool × Wd} (G : GK K cX12_test RX12 4 (dr + 30)) (M : Main K.ks) (c_ors :  Wd → Option (Bool × Wd)) (hc_ors : ∀ (w : Wd) (r : Bool × Wd), c_ors w = some r → CI K.l yX12_ors cX12_ors 3 (some .boolean) (dr + 20) K.ks [.ref 148] w (bI r.1) r.2) (c_test :  Wd → Option (Bool × Wd)) (hc_test : ∀ (w : Wd) (r : Bool × Wd), c_test w = some r → CI K.l yX12_test cX12_test 4 (some .boolean) (dr + 0) K.ks [.ref 148] w (bI r.1) r.2) (hf : fX12_test_32 c_ors c_test s0 w = some r) (hr : RI K .boolean (bI r.1) r.2) : XW K 32 [some (.ref 148), none, none, none] [.int s0] w := by
  unfold fX12_test_32 at hf
  refine x_istore_n G (lv' := [some (.ref 148), some (.int s0), none, none]) dX12_test_32 rfl rfl rfl rfl ?_
  refine x_aload_n G dX12_test_33 rfl rfl ?_
  refine x_dup G dX12_test_34 rfl ?_
  refine x_getI G (kd148 M) 25 rfl cl12 rfl wf_X12_317 dX12_test_35 ?_
  refine x_iconst G (v := 1) dX12_test_38 (by decide) ?_
  refine x_isub G dX12_test_39 ?_
  refine x_putI G (kd148 M) 25 rfl cl12 rfl wf_X12_317 rfl rfl rfl dX12_test_40 ?_
  refine nwr hf (fun w_1 hf => ?_)
  refine x_iload_n G dX12_test_43 rfl rfl ?_
  refine x_ifne G (tgt := 51) dX12_test_44 (by decide) hf (fun c_2 hf => ?_) (fun c_2 hf => ?_)
  · refine x_iconst G (v := 1) dX12_test_47 (by decide) ?_
    refine x_goto G (tgt := 52) dX12_test_48 (by decide) ?_
    exact x_zretW G hf hr dX12_test_52
  · refine x_iconst G (v := 0) dX12_test_51 (by decide) ?_
    exact x_zretW G hf hr dX12_test_52

set_option maxHeartbeats 4000000 in
set_option maxRecDepth 100000 in
theorem xX12_test_31 {K : KT} {dr : Nat} {w : Wd} {r : Bool × Wd} (G : GK K cX12_test RX12 4 (dr + 30)) (M : Main K.ks) (c_ors :  Wd → Option (Bool × Wd)) (hc_ors : ∀ (w : Wd) (r : Bool × Wd), c_ors w = some r → CI K.l yX12_ors cX12_ors 3 (some .boolean) (dr + 20) K.ks [.ref 148] w (bI r.1) r.2) (c_test :  Wd → Option (Bool × Wd)) (hc_test : ∀ (w : Wd) (r : Bool × Wd), c_test w = some r → CI K.l yX12_test cX12_test 4 (some .boolean) (dr + 0) K.ks [.ref 148] w (bI r.1) r.2) (hf : fX12_test_31 c_ors c_test w = some r) (hr : RI K .boolean (bI r.1) r.2) : XW K 31 [some (.ref 148), none, none, none] [] w := by
  unfold fX12_test_31 at hf
  refine x_iconst G (v := 0) dX12_test_31 (by decide) ?_
  exact (xX12_test_32 G M c_ors hc_ors c_test hc_test hf hr)

set_option maxHeartbeats 4000000 in
set_option maxRecDepth 100000 in
theorem xX12_test_100 {K : KT} {dr : Nat} {v1 : Int32} {w : Wd} {r : Bool × Wd} (G : GK K cX12_test RX12 4 (dr + 30)) (M : Main K.ks) (c_ors :  Wd → Option (Bool × Wd)) (hc_ors : ∀ (w : Wd) (r : Bool × Wd), c_ors w = some r → CI K.l yX12_ors cX12_ors 3 (some .boolean) (dr + 20) K.ks [.ref 148] w (bI r.1) r.2) (c_test :  Wd → Option (Bool × Wd)) (hc_test : ∀ (w : Wd) (r : Bool × Wd), c_test w = some r → CI K.l yX12_test cX12_test 4 (some .boolean) (dr + 0) K.ks [.ref 148] w (bI r.1) r.2) (hf : fX12_test_100 c_ors c_test v1 w = some r) (hr : RI K .boolean (bI r.1) r.2) : XW K 100 [some (.ref 148), some (.int v1), none, none] [] w := by
  unfold fX12_test_100 at hf
  refine x_aload_n G dX12_test_100 rfl rfl ?_
  refine x_dup G dX12_test_101 rfl ?_
  refine x_getI G (kd148 M) 25 rfl cl12 rfl wf_X12_317 dX12_test_102 ?_
  refine x_iconst G (v := 1) dX12_test_105 (by decide) ?_
  refine x_isub G dX12_test_106 ?_
  refine x_putI G (kd148 M) 25 rfl cl12 rfl wf_X12_317 rfl rfl rfl dX12_test_107 ?_
  refine nwr hf (fun w_1 hf => ?_)
  refine x_iload_n G dX12_test_110 rfl rfl ?_
  exact x_zretUW G hf hr dX12_test_111

set_option maxHeartbeats 4000000 in
set_option maxRecDepth 100000 in
theorem xX12_test_85 {K : KT} {dr : Nat} {s0 : Int32} {w : Wd} {r : Bool × Wd} (G : GK K cX12_test RX12 4 (dr + 30)) (M : Main K.ks) (c_ors :  Wd → Option (Bool × Wd)) (hc_ors : ∀ (w : Wd) (r : Bool × Wd), c_ors w = some r → CI K.l yX12_ors cX12_ors 3 (some .boolean) (dr + 20) K.ks [.ref 148] w (bI r.1) r.2) (c_test :  Wd → Option (Bool × Wd)) (hc_test : ∀ (w : Wd) (r : Bool × Wd), c_test w = some r → CI K.l yX12_test cX12_test 4 (some .boolean) (dr + 0) K.ks [.ref 148] w (bI r.1) r.2) (hf : fX12_test_85 c_ors c_test s0 w = some r) (hr : RI K .boolean (bI r.1) r.2) : XW K 85 [some (.ref 148), none, none, none] [.int s0] w := by
  unfold fX12_test_85 at hf
  refine x_istore_n G (lv' := [some (.ref 148), some (.int s0), none, none]) dX12_test_85 rfl rfl rfl rfl ?_
  refine x_aload_n G dX12_test_86 rfl rfl ?_
  refine x_bipush G (v := 41) dX12_test_87 (by decide) ?_
  obtain ⟨v_1, hv_1, hf⟩ := bnd hf
  refine x_virI G (As := [.int (41 : Int32)]) (mX12_sign G.2.2.2.2.2.2.1 M hv_1) mv_X12_330 (kd148 M) cl12 rfl rfl (blt_k (by decide)) rfl rfl dX12_test_89 ?_
  refine x_ifneB G (tgt := 100) dX12_test_92 (by decide) hf (fun c_2 hf => ?_) (fun c_2 hf => ?_)
  · exact XW.sub (lv' := [some (.ref 148), some (.int s0), none, none]) (And.intro rfl (And.intro rfl trivial)) (xX12_test_100 G M c_ors hc_ors c_test hc_test hf hr)
  · refine x_aload_n G dX12_test_95 rfl rfl ?_
    refine x_iconst G (v := 1) dX12_test_96 (by decide) ?_
    refine x_putI G (kd148 M) 26 rfl cl12 rfl wf_X12_285 rfl (by decide +kernel) (by decide +kernel) dX12_test_97 ?_
    refine nwr hf (fun w_3 hf => ?_)
    exact XW.sub (lv' := [some (.ref 148), some (.int s0), none, none]) (And.intro rfl (And.intro rfl trivial)) (xX12_test_100 G M c_ors hc_ors c_test hc_test hf hr)

set_option maxHeartbeats 4000000 in
set_option maxRecDepth 100000 in
theorem xX12_test_84 {K : KT} {dr : Nat} {w : Wd} {r : Bool × Wd} (G : GK K cX12_test RX12 4 (dr + 30)) (M : Main K.ks) (c_ors :  Wd → Option (Bool × Wd)) (hc_ors : ∀ (w : Wd) (r : Bool × Wd), c_ors w = some r → CI K.l yX12_ors cX12_ors 3 (some .boolean) (dr + 20) K.ks [.ref 148] w (bI r.1) r.2) (c_test :  Wd → Option (Bool × Wd)) (hc_test : ∀ (w : Wd) (r : Bool × Wd), c_test w = some r → CI K.l yX12_test cX12_test 4 (some .boolean) (dr + 0) K.ks [.ref 148] w (bI r.1) r.2) (hf : fX12_test_84 c_ors c_test w = some r) (hr : RI K .boolean (bI r.1) r.2) : XW K 84 [some (.ref 148), none, none, none] [] w := by
  unfold fX12_test_84 at hf
  refine x_iconst G (v := 0) dX12_test_84 (by decide) ?_
  exact (xX12_test_85 G M c_ors hc_ors c_test hc_test hf hr)

set_option maxHeartbeats 4000000 in
set_option maxRecDepth 100000 in
theorem xX12_test_154 {K : KT} {dr : Nat} {v1 : Int32} {v2 : Int32} {w : Wd} {r : Bool × Wd} (G : GK K cX12_test RX12 4 (dr + 30)) (M : Main K.ks) (c_ors :  Wd → Option (Bool × Wd)) (hc_ors : ∀ (w : Wd) (r : Bool × Wd), c_ors w = some r → CI K.l yX12_ors cX12_ors 3 (some .boolean) (dr + 20) K.ks [.ref 148] w (bI r.1) r.2) (c_test :  Wd → Option (Bool × Wd)) (hc_test : ∀ (w : Wd) (r : Bool × Wd), c_test w = some r → CI K.l yX12_test cX12_test 4 (some .boolean) (dr + 0) K.ks [.ref 148] w (bI r.1) r.2) (hf : fX12_test_154 c_ors c_test v1 v2 w = some r) (hr : RI K .boolean (bI r.1) r.2) : XW K 154 [some (.ref 148), some (.int v1), some (.int v2), none] [] w := by
  unfold fX12_test_154 at hf
  refine x_aload_n G dX12_test_154 rfl rfl ?_
  refine x_dup G dX12_test_155 rfl ?_
  refine x_getI G (kd148 M) 24 rfl cl12 rfl wf_X12_279 dX12_test_156 ?_
  refine x_iconst G (v := 1) dX12_test_159 (by decide) ?_
  refine x_iadd G dX12_test_160 ?_
  refine x_putI G (kd148 M) 24 rfl cl12 rfl wf_X12_279 rfl rfl rfl dX12_test_161 ?_
  refine nwr hf (fun w_1 hf => ?_)
  refine x_aload_n G dX12_test_164 rfl rfl ?_
  obtain ⟨v_2, hv_2, hf⟩ := bnd hf
  refine x_virI G (As := []) (mX12_sum G.2.2.2.2.2.2.1 M hv_2) mv_X12_333 (kd148 M) cl12 rfl rfl (blt_k (by decide)) rfl rfl dX12_test_165 ?_
  refine x_istore_n G (lv' := [some (.ref 148), some (.int v1), some (.int v2), some (.int v_2.1)]) dX12_test_168 rfl rfl rfl rfl ?_
  refine x_iload_n G dX12_test_169 rfl rfl ?_
  refine x_bipush G (v := 60) dX12_test_170 (by decide) ?_
  refine x_icmpne G (tgt := 188) dX12_test_172 (by decide) hf (fun c_3 hf => ?_) (fun c_3 hf => ?_)
  · refine x_iload_n G dX12_test_175 rfl rfl ?_
    refine x_iload_n G dX12_test_176 rfl rfl ?_
    refine x_icmpge G (tgt := 184) dX12_test_177 (by decide) hf (fun c_4 hf => ?_) (fun c_4 hf => ?_)
    · refine x_iconst G (v := 1) dX12_test_180 (by decide) ?_
      refine x_goto G (tgt := 217) dX12_test_181 (by decide) ?_
      exact x_zretW G hf hr dX12_test_217
    · refine x_iconst G (v := 0) dX12_test_184 (by decide) ?_
      refine x_goto G (tgt := 217) dX12_test_185 (by decide) ?_
      exact x_zretW G hf hr dX12_test_217
  · refine x_iload_n G dX12_test_188 rfl rfl ?_
    refine x_bipush G (v := 61) dX12_test_189 (by decide) ?_
    refine x_icmpne G (tgt := 207) dX12_test_191 (by decide) hf (fun c_5 hf => ?_) (fun c_5 hf => ?_)
    · refine x_iload_n G dX12_test_194 rfl rfl ?_
      refine x_iload_n G dX12_test_195 rfl rfl ?_
      refine x_icmpne G (tgt := 203) dX12_test_196 (by decide) hf (fun c_6 hf => ?_) (fun c_6 hf => ?_)
      · refine x_iconst G (v := 1) dX12_test_199 (by decide) ?_
        refine x_goto G (tgt := 217) dX12_test_200 (by decide) ?_
        exact x_zretW G hf hr dX12_test_217
      · refine x_iconst G (v := 0) dX12_test_203 (by decide) ?_
        refine x_goto G (tgt := 217) dX12_test_204 (by decide) ?_
        exact x_zretW G hf hr dX12_test_217
    · refine x_iload_n G dX12_test_207 rfl rfl ?_
      refine x_iload_n G dX12_test_208 rfl rfl ?_
      refine x_icmple G (tgt := 216) dX12_test_209 (by decide) hf (fun c_7 hf => ?_) (fun c_7 hf => ?_)
      · refine x_iconst G (v := 1) dX12_test_212 (by decide) ?_
        refine x_goto G (tgt := 217) dX12_test_213 (by decide) ?_
        exact x_zretW G hf hr dX12_test_217
      · refine x_iconst G (v := 0) dX12_test_216 (by decide) ?_
        exact x_zretW G hf hr dX12_test_217

set_option maxHeartbeats 4000000 in
set_option maxRecDepth 100000 in
theorem xX12_test_147 {K : KT} {dr : Nat} {w : Wd} {r : Bool × Wd} (G : GK K cX12_test RX12 4 (dr + 30)) (M : Main K.ks) (c_ors :  Wd → Option (Bool × Wd)) (hc_ors : ∀ (w : Wd) (r : Bool × Wd), c_ors w = some r → CI K.l yX12_ors cX12_ors 3 (some .boolean) (dr + 20) K.ks [.ref 148] w (bI r.1) r.2) (c_test :  Wd → Option (Bool × Wd)) (hc_test : ∀ (w : Wd) (r : Bool × Wd), c_test w = some r → CI K.l yX12_test cX12_test 4 (some .boolean) (dr + 0) K.ks [.ref 148] w (bI r.1) r.2) (hf : fX12_test_147 c_ors c_test w = some r) (hr : RI K .boolean (bI r.1) r.2) : XW K 147 [some (.ref 148), none, none, none] [] w := by
  unfold fX12_test_147 at hf
  refine x_aload_n G dX12_test_147 rfl rfl ?_
  refine x_iconst G (v := 1) dX12_test_148 (by decide) ?_
  refine x_putI G (kd148 M) 26 rfl cl12 rfl wf_X12_285 rfl (by decide +kernel) (by decide +kernel) dX12_test_149 ?_
  refine nwr hf (fun w_1 hf => ?_)
  refine x_iconst G (v := 0) dX12_test_152 (by decide) ?_
  exact x_zretW G hf hr dX12_test_153

set_option maxHeartbeats 4000000 in
set_option maxRecDepth 100000 in
theorem xX12_test_e {K : KT} {dr : Nat} {w : Wd} {r : Bool × Wd} (G : GK K cX12_test RX12 4 (dr + 30)) (M : Main K.ks) (c_ors :  Wd → Option (Bool × Wd)) (hc_ors : ∀ (w : Wd) (r : Bool × Wd), c_ors w = some r → CI K.l yX12_ors cX12_ors 3 (some .boolean) (dr + 20) K.ks [.ref 148] w (bI r.1) r.2) (c_test :  Wd → Option (Bool × Wd)) (hc_test : ∀ (w : Wd) (r : Bool × Wd), c_test w = some r → CI K.l yX12_test cX12_test 4 (some .boolean) (dr + 0) K.ks [.ref 148] w (bI r.1) r.2) (hf : fX12_test c_ors c_test w = some r) (hr : RI K .boolean (bI r.1) r.2) : XW K 0 [some (.ref 148), none, none, none] [] w := by
  unfold fX12_test at hf
  refine x_aload_n G dX12_test_0 rfl rfl ?_
  obtain ⟨v_1, hv_1, hf⟩ := bnd hf
  refine x_virI G (As := []) (mX12_here G.2.2.2.2.2.2.1 M hv_1) mv_X12_289 (kd148 M) cl12 rfl rfl (blt_k (by decide)) rfl rfl dX12_test_1 ?_
  refine x_bipush G (v := 33) dX12_test_4 (by decide) ?_
  refine x_icmpne G (tgt := 53) dX12_test_6 (by decide) hf (fun c_2 hf => ?_) (fun c_2 hf => ?_)
  · refine x_aload_n G dX12_test_9 rfl rfl ?_
    obtain ⟨v_3, hv_3, hf⟩ := bnd hf
    refine x_virV G (As := []) (mX12_opens G.2.2.2.2.2.2.1 M hv_3) mv_X12_320 (kd148 M) cl12 rfl rfl (blt_k (by decide)) rfl rfl dX12_test_10 ?_
    refine x_aload_n G dX12_test_13 rfl rfl ?_
    refine x_getI G (kd148 M) 26 rfl cl12 rfl wf_X12_285 dX12_test_14 ?_
    refine x_ifne G (tgt := 31) dX12_test_17 (by decide) hf (fun c_4 hf => ?_) (fun c_4 hf => ?_)
    · refine x_aload_n G dX12_test_20 rfl rfl ?_
      obtain ⟨v_5, hv_5, hf⟩ := bnd hf
      refine x_virI G (As := []) (hc_test _ _ hv_5) mv_X12_323 (kd148 M) cl12 rfl rfl (blt_o (by decide)) rfl rfl dX12_test_21 ?_
      refine x_ifeqB G (tgt := 31) dX12_test_24 (by decide) hf (fun c_6 hf => ?_) (fun c_6 hf => ?_)
      · refine x_iconst G (v := 1) dX12_test_27 (by decide) ?_
        refine x_goto G (tgt := 32) dX12_test_28 (by decide) ?_
        exact (xX12_test_32 G M c_ors hc_ors c_test hc_test hf hr)
      · exact (xX12_test_31 G M c_ors hc_ors c_test hc_test hf hr)
    · exact (xX12_test_31 G M c_ors hc_ors c_test hc_test hf hr)
  · refine x_aload_n G dX12_test_53 rfl rfl ?_
    obtain ⟨v_7, hv_7, hf⟩ := bnd hf
    refine x_virI G (As := []) (mX12_here G.2.2.2.2.2.2.1 M hv_7) mv_X12_289 (kd148 M) cl12 rfl rfl (blt_k (by decide)) rfl rfl dX12_test_54 ?_
    refine x_bipush G (v := 40) dX12_test_57 (by decide) ?_
    refine x_icmpne G (tgt := 112) dX12_test_59 (by decide) hf (fun c_8 hf => ?_) (fun c_8 hf => ?_)
    · refine x_aload_n G dX12_test_62 rfl rfl ?_
      obtain ⟨v_9, hv_9, hf⟩ := bnd hf
      refine x_virV G (As := []) (mX12_opens G.2.2.2.2.2.2.1 M hv_9) mv_X12_320 (kd148 M) cl12 rfl rfl (blt_k (by decide)) rfl rfl dX12_test_63 ?_
      refine x_aload_n G dX12_test_66 rfl rfl ?_
      refine x_getI G (kd148 M) 26 rfl cl12 rfl wf_X12_285 dX12_test_67 ?_
      refine x_ifne G (tgt := 84) dX12_test_70 (by decide) hf (fun c_10 hf => ?_) (fun c_10 hf => ?_)
      · refine x_aload_n G dX12_test_73 rfl rfl ?_
        obtain ⟨v_11, hv_11, hf⟩ := bnd hf
        refine x_virI G (As := []) (hc_ors _ _ hv_11) mv_X12_327 (kd148 M) cl12 rfl rfl (blt_o (by decide)) rfl rfl dX12_test_74 ?_
        refine x_ifeqB G (tgt := 84) dX12_test_77 (by decide) hf (fun c_12 hf => ?_) (fun c_12 hf => ?_)
        · refine x_iconst G (v := 1) dX12_test_80 (by decide) ?_
          refine x_goto G (tgt := 85) dX12_test_81 (by decide) ?_
          exact (xX12_test_85 G M c_ors hc_ors c_test hc_test hf hr)
        · exact (xX12_test_84 G M c_ors hc_ors c_test hc_test hf hr)
      · exact (xX12_test_84 G M c_ors hc_ors c_test hc_test hf hr)
    · refine x_aload_n G dX12_test_112 rfl rfl ?_
      obtain ⟨v_13, hv_13, hf⟩ := bnd hf
      refine x_virI G (As := []) (mX12_sum G.2.2.2.2.2.2.1 M hv_13) mv_X12_333 (kd148 M) cl12 rfl rfl (blt_k (by decide)) rfl rfl dX12_test_113 ?_
      refine x_istore_n G (lv' := [some (.ref 148), some (.int v_13.1), none, none]) dX12_test_116 rfl rfl rfl rfl ?_
      refine x_aload_n G dX12_test_117 rfl rfl ?_
      obtain ⟨v_14, hv_14, hf⟩ := bnd hf
      refine x_virI G (As := []) (mX12_here G.2.2.2.2.2.2.1 M hv_14) mv_X12_289 (kd148 M) cl12 rfl rfl (blt_k (by decide)) rfl rfl dX12_test_118 ?_
      refine x_istore_n G (lv' := [some (.ref 148), some (.int v_13.1), some (.int v_14), none]) dX12_test_121 rfl rfl rfl rfl ?_
      refine x_aload_n G dX12_test_122 rfl rfl ?_
      refine x_getI G (kd148 M) 26 rfl cl12 rfl wf_X12_285 dX12_test_123 ?_
      refine x_ifne G (tgt := 147) dX12_test_126 (by decide) hf (fun c_15 hf => ?_) (fun c_15 hf => ?_)
      · refine x_iload_n G dX12_test_129 rfl rfl ?_
        refine x_bipush G (v := 60) dX12_test_130 (by decide) ?_
        refine x_icmpeq G (tgt := 154) dX12_test_132 (by decide) hf (fun c_16 hf => ?_) (fun c_16 hf => ?_)
        · exact XW.sub (lv' := [some (.ref 148), some (.int v_13.1), some (.int v_14), none]) (And.intro rfl (And.intro rfl (And.intro rfl trivial))) (xX12_test_154 G M c_ors hc_ors c_test hc_test hf hr)
        · refine x_iload_n G dX12_test_135 rfl rfl ?_
          refine x_bipush G (v := 61) dX12_test_136 (by decide) ?_
          refine x_icmpeq G (tgt := 154) dX12_test_138 (by decide) hf (fun c_17 hf => ?_) (fun c_17 hf => ?_)
          · exact XW.sub (lv' := [some (.ref 148), some (.int v_13.1), some (.int v_14), none]) (And.intro rfl (And.intro rfl (And.intro rfl trivial))) (xX12_test_154 G M c_ors hc_ors c_test hc_test hf hr)
          · refine x_iload_n G dX12_test_141 rfl rfl ?_
            refine x_bipush G (v := 62) dX12_test_142 (by decide) ?_
            refine x_icmpeq G (tgt := 154) dX12_test_144 (by decide) hf (fun c_18 hf => ?_) (fun c_18 hf => ?_)
            · exact XW.sub (lv' := [some (.ref 148), some (.int v_13.1), some (.int v_14), none]) (And.intro rfl (And.intro rfl (And.intro rfl trivial))) (xX12_test_154 G M c_ors hc_ors c_test hc_test hf hr)
            · exact XW.sub (lv' := [some (.ref 148), none, none, none]) (And.intro rfl trivial) (xX12_test_147 G M c_ors hc_ors c_test hc_test hf hr)
      · exact XW.sub (lv' := [some (.ref 148), none, none, none]) (And.intro rfl trivial) (xX12_test_147 G M c_ors hc_ors c_test hc_test hf hr)

theorem mX12_test {l : Launch} {S : KS} {dr : Nat} {w : Wd} (hI : Inj S) (M : Main S) (c_ors :  Wd → Option (Bool × Wd)) (hc_ors : ∀ (w : Wd) (r : Bool × Wd), c_ors w = some r → CI l yX12_ors cX12_ors 3 (some .boolean) (dr + 20) S [.ref 148] w (bI r.1) r.2) (c_test :  Wd → Option (Bool × Wd)) (hc_test : ∀ (w : Wd) (r : Bool × Wd), c_test w = some r → CI l yX12_test cX12_test 4 (some .boolean) (dr + 0) S [.ref 148] w (bI r.1) r.2) {r : Bool × Wd} (hf : fX12_test c_ors c_test w = some r) : CI l yX12_test cX12_test 4 (some .boolean) (dr + 30) S [.ref 148] w (bI r.1) r.2 := by
  intro sz
  refine mk_entry rfl (by decide +kernel) hI 3 rfl rfl (fun K h1 h2 h3 h4 h5 h6 G => ?_)
  subst h2
  subst h1
  exact xX12_test_e G M c_ors hc_ors c_test hc_test hf ⟨h3, by rw [h4, h6], h5⟩

theorem mKMT {l : Launch} {S : KS} (hI : Inj S) (M : Main S) : ∀ (n : Nat) (w : Wd) (r : Bool × Wd), kMT n w = some r → CI l yX12_test cX12_test 4 (some .boolean) (30 * n) S [.ref 148] w (bI r.1) r.2
  | 0, w, r, h => by cases h
  | n + 1, w, r, h => by
    have ih := mKMT (l := l) hI M n
    exact mX12_test (dr := 30 * n) hI M (fX12_ors (kMT n)) (fun w r h => mX12_ors (dr := 30 * n) hI M (kMT n) ih h) (kMT n) ih h
theorem mKMO {l : Launch} {S : KS} (hI : Inj S) (M : Main S) {w : Wd} {r : Bool × Wd} (h : kMO w = some r) : CI l yX12_ors cX12_ors 3 (some .boolean) 200 S [.ref 148] w (bI r.1) r.2 := mX12_ors (dr := 180) hI M (kMT 6) (mKMT hI M 6) h

set_option maxHeartbeats 4000000 in
set_option maxRecDepth 100000 in
theorem xX2_restart_e {K : KT} {z : Nat} {w : Wd} {r : Wd} (G : GK K cX2_restart RX2 1 4) (M : Main K.ks) (hz : IsCity K.ks z) (hf : fX2_restart z w = some r) (hr : RV K r) : XW K 0 [some (.ref (z + 2))] [] w := by
  unfold fX2_restart at hf
  refine x_aload_n G dX2_restart_0 rfl rfl ?_
  refine x_getR G (ic2 hz) 0 (b := (z + 3)) rfl cl2 rfl wf_X2_9 dX2_restart_1 ?_
  refine x_bipush G (v := 100) dX2_restart_4 (by decide) ?_
  refine x_staV G (As := [.ref (z + 3), .int (100 : Int32)]) (mFillI G.2.2.2.2.2.2.1 (ic3 hz)) ms_X2_45 rfl rfl rfl rfl rfl dX2_restart_6 ?_
  refine nwr hf (fun w_1 hf => ?_)
  refine x_aload_n G dX2_restart_9 rfl rfl ?_
  refine x_getR G (ic2 hz) 1 (b := (z + 4)) rfl cl2 rfl wf_X2_15 dX2_restart_10 ?_
  refine x_iconst G (v := 0) dX2_restart_13 (by decide) ?_
  refine x_staV G (As := [.ref (z + 4), .int (0 : Int32)]) (mFillI G.2.2.2.2.2.2.1 (ic4 hz)) ms_X2_45 rfl rfl rfl rfl rfl dX2_restart_14 ?_
  refine nwr hf (fun w_2 hf => ?_)
  refine x_aload_n G dX2_restart_17 rfl rfl ?_
  refine x_getR G (ic2 hz) 2 (b := (z + 5)) rfl cl2 rfl wf_X2_18 dX2_restart_18 ?_
  refine x_iconst G (v := 0) dX2_restart_21 (by decide) ?_
  refine x_staV G (As := [.ref (z + 5), .int (0 : Int32)]) (mFillI G.2.2.2.2.2.2.1 (ic5 hz)) ms_X2_45 rfl rfl rfl rfl rfl dX2_restart_22 ?_
  refine nwr hf (fun w_3 hf => ?_)
  refine x_aload_n G dX2_restart_25 rfl rfl ?_
  refine x_getR G (ic2 hz) 3 (b := (z + 6)) rfl cl2 rfl wf_X2_21 dX2_restart_26 ?_
  refine x_bipush G (v := 50) dX2_restart_29 (by decide) ?_
  refine x_staV G (As := [.ref (z + 6), .int (50 : Int32)]) (mFillI G.2.2.2.2.2.2.1 (ic6 hz)) ms_X2_45 rfl rfl rfl rfl rfl dX2_restart_31 ?_
  refine nwr hf (fun w_4 hf => ?_)
  refine x_aload_n G dX2_restart_34 rfl rfl ?_
  refine x_getR G (ic2 hz) 4 (b := (z + 7)) rfl cl2 rfl wf_X2_24 dX2_restart_35 ?_
  refine x_iconst G (v := 0) dX2_restart_38 (by decide) ?_
  refine x_staV G (As := [.ref (z + 7), .int (0 : Int32)]) (mFillI G.2.2.2.2.2.2.1 (ic7 hz)) ms_X2_45 rfl rfl rfl rfl rfl dX2_restart_39 ?_
  refine nwr hf (fun w_5 hf => ?_)
  refine x_aload_n G dX2_restart_42 rfl rfl ?_
  refine x_getR G (ic2 hz) 5 (b := (z + 8)) rfl cl2 rfl wf_X2_27 dX2_restart_43 ?_
  refine x_iconst G (v := 0) dX2_restart_46 (by decide) ?_
  refine x_staV G (As := [.ref (z + 8), .int (0 : Int32)]) (mFillI G.2.2.2.2.2.2.1 (ic8 hz)) ms_X2_45 rfl rfl rfl rfl rfl dX2_restart_47 ?_
  refine nwr hf (fun w_6 hf => ?_)
  refine x_aload_n G dX2_restart_50 rfl rfl ?_
  refine x_getR G (ic2 hz) 6 (b := (z + 9)) rfl cl2 rfl wf_X2_30 dX2_restart_51 ?_
  refine x_iconst G (v := -1) dX2_restart_54 (by decide) ?_
  refine x_staV G (As := [.ref (z + 9), .int (-1 : Int32)]) (mFillI G.2.2.2.2.2.2.1 (ic9 hz)) ms_X2_45 rfl rfl rfl rfl rfl dX2_restart_55 ?_
  refine nwr hf (fun w_7 hf => ?_)
  refine x_aload_n G dX2_restart_58 rfl rfl ?_
  refine x_getR G (ic2 hz) 7 (b := (z + 10)) rfl cl2 rfl wf_X2_33 dX2_restart_59 ?_
  refine x_iconst G (v := 0) dX2_restart_62 (by decide) ?_
  refine x_staV G (As := [.ref (z + 10), .int (0 : Int32)]) (mFillI G.2.2.2.2.2.2.1 (ic10 hz)) ms_X2_45 rfl rfl rfl rfl rfl dX2_restart_63 ?_
  refine nwr hf (fun w_8 hf => ?_)
  refine x_aload_n G dX2_restart_66 rfl rfl ?_
  refine x_getR G (ic2 hz) 8 (b := (z + 11)) rfl cl2 rfl wf_X2_36 dX2_restart_67 ?_
  refine x_iconst G (v := 0) dX2_restart_70 (by decide) ?_
  refine x_staV G (As := [.ref (z + 11), .int (0 : Int32)]) (mFillI G.2.2.2.2.2.2.1 (ic11 hz)) ms_X2_45 rfl rfl rfl rfl rfl dX2_restart_71 ?_
  refine nwr hf (fun w_9 hf => ?_)
  refine x_aload_n G dX2_restart_74 rfl rfl ?_
  refine x_getR G (ic2 hz) 9 (b := (z + 12)) rfl cl2 rfl wf_X2_39 dX2_restart_75 ?_
  refine x_iconst G (v := 0) dX2_restart_78 (by decide) ?_
  refine x_staV G (As := [.ref (z + 12), .int (0 : Int32)]) (mFillI G.2.2.2.2.2.2.1 (ic12 hz)) ms_X2_45 rfl rfl rfl rfl rfl dX2_restart_79 ?_
  refine nwr hf (fun w_10 hf => ?_)
  refine x_aload_n G dX2_restart_82 rfl rfl ?_
  refine x_getR G (ic2 hz) 10 (b := (z + 13)) rfl cl2 rfl wf_X2_42 dX2_restart_83 ?_
  refine x_iconst G (v := 0) dX2_restart_86 (by decide) ?_
  refine x_staV G (As := [.ref (z + 13), .int (0 : Int32)]) (mFillI G.2.2.2.2.2.2.1 (ic13 hz)) ms_X2_45 rfl rfl rfl rfl rfl dX2_restart_87 ?_
  refine nwr hf (fun w_11 hf => ?_)
  exact x_vretW G hf hr dX2_restart_90

theorem mX2_restart {l : Launch} {S : KS} {w : Wd} (hI : Inj S) (M : Main S) {z : Nat} (hz : IsCity S z) {r : Wd} (hf : fX2_restart z w = some r) : CV l yX2_restart cX2_restart 1 none 4 S [.ref (z + 2)] w r := by
  intro sz
  refine mk_entry rfl (by decide +kernel) hI 0 rfl rfl (fun K h1 h2 h3 h4 h5 h6 G => ?_)
  subst h2
  exact xX2_restart_e G M hz hf ⟨h3, by rw [h4, h6], h5⟩

set_option maxHeartbeats 4000000 in
set_option maxRecDepth 100000 in
theorem xX11_copyRow_e {K : KT} {v0 : Nat} {n0 : Nat} {v1 : Nat} {n1 : Nat} {w : Wd} {r : Wd} (G : GK K cX11_copyRow RX11 2 4) (M : Main K.ks) (hv0 : KD K.ks v0 (.inr (0, n0, nt))) (hv1 : KD K.ks v1 (.inr (0, n1, nt))) (hf : fX11_copyRow v0 n0 v1 n1 w = some r) (hr : RV K r) : XW K 0 [some (.ref v0), some (.ref v1)] [] w := by
  unfold fX11_copyRow at hf
  refine x_aload_n G dX11_copyRow_0 rfl rfl ?_
  refine x_iconst G (v := 0) dX11_copyRow_1 (by decide) ?_
  refine x_aload_n G dX11_copyRow_2 rfl rfl ?_
  refine x_iconst G (v := 0) dX11_copyRow_3 (by decide) ?_
  refine x_aload_n G dX11_copyRow_4 rfl rfl ?_
  refine x_alenI G hv0 dX11_copyRow_5 rfl ?_
  refine x_aload_n G dX11_copyRow_6 rfl rfl ?_
  refine x_alenI G hv1 dX11_copyRow_7 rfl ?_
  refine x_min G wm_X11_328 wmin_1 wmin_2 wmin_3 rfl rfl dX11_copyRow_8 ?_
  refine x_cpyI G hv0 hv1 wm_X11_426 dX11_copyRow_11 rfl rfl hf (fun hf => ?_)
  refine nwr hf (fun w_1 hf => ?_)
  exact x_vretW G hf hr dX11_copyRow_14

theorem mX11_copyRow {l : Launch} {S : KS} {w : Wd} (hI : Inj S) (M : Main S) {v0 : Nat} {n0 : Nat} {v1 : Nat} {n1 : Nat} (hv0 : KD S v0 (.inr (0, n0, nt))) (hv1 : KD S v1 (.inr (0, n1, nt))) {r : Wd} (hf : fX11_copyRow v0 n0 v1 n1 w = some r) : CV l yX11_copyRow cX11_copyRow 2 none 4 S [.ref v0, .ref v1] w r := by
  intro sz
  refine mk_entry rfl (by decide +kernel) hI 0 rfl rfl (fun K h1 h2 h3 h4 h5 h6 G => ?_)
  subst h2
  exact xX11_copyRow_e G M hv0 hv1 hf ⟨h3, by rw [h4, h6], h5⟩

set_option maxHeartbeats 4000000 in
set_option maxRecDepth 100000 in
theorem xX2_become_e {K : KT} {z : Nat} {y : Nat} {w : Wd} {r : Wd} (G : GK K cX2_become RX2 2 5) (M : Main K.ks) (hz : IsCity K.ks z) (hy : IsCity K.ks y) (hf : fX2_become z y w = some r) (hr : RV K r) : XW K 0 [some (.ref (z + 2)), some (.ref (y + 2))] [] w := by
  unfold fX2_become at hf
  refine x_aload_n G dX2_become_0 rfl rfl ?_
  refine x_getR G (ic2 hy) 0 (b := (y + 3)) rfl cl2 rfl wf_X2_9 dX2_become_1 ?_
  refine x_aload_n G dX2_become_4 rfl rfl ?_
  refine x_getR G (ic2 hz) 0 (b := (z + 3)) rfl cl2 rfl wf_X2_9 dX2_become_5 ?_
  obtain ⟨v_1, hv_1, hf⟩ := bnd hf
  refine x_nesV G (As := [.ref (y + 3), .ref (z + 3)]) (mX11_copyRow G.2.2.2.2.2.2.1 M (ic3 hy) (ic3 hz) hv_1) mn_X2_51 rfl rfl rfl rfl rfl dX2_become_8 ?_
  refine x_aload_n G dX2_become_11 rfl rfl ?_
  refine x_getR G (ic2 hy) 1 (b := (y + 4)) rfl cl2 rfl wf_X2_15 dX2_become_12 ?_
  refine x_aload_n G dX2_become_15 rfl rfl ?_
  refine x_getR G (ic2 hz) 1 (b := (z + 4)) rfl cl2 rfl wf_X2_15 dX2_become_16 ?_
  obtain ⟨v_2, hv_2, hf⟩ := bnd hf
  refine x_nesV G (As := [.ref (y + 4), .ref (z + 4)]) (mX11_copyRow G.2.2.2.2.2.2.1 M (ic4 hy) (ic4 hz) hv_2) mn_X2_51 rfl rfl rfl rfl rfl dX2_become_19 ?_
  refine x_aload_n G dX2_become_22 rfl rfl ?_
  refine x_getR G (ic2 hy) 2 (b := (y + 5)) rfl cl2 rfl wf_X2_18 dX2_become_23 ?_
  refine x_aload_n G dX2_become_26 rfl rfl ?_
  refine x_getR G (ic2 hz) 2 (b := (z + 5)) rfl cl2 rfl wf_X2_18 dX2_become_27 ?_
  obtain ⟨v_3, hv_3, hf⟩ := bnd hf
  refine x_nesV G (As := [.ref (y + 5), .ref (z + 5)]) (mX11_copyRow G.2.2.2.2.2.2.1 M (ic5 hy) (ic5 hz) hv_3) mn_X2_51 rfl rfl rfl rfl rfl dX2_become_30 ?_
  refine x_aload_n G dX2_become_33 rfl rfl ?_
  refine x_getR G (ic2 hy) 3 (b := (y + 6)) rfl cl2 rfl wf_X2_21 dX2_become_34 ?_
  refine x_aload_n G dX2_become_37 rfl rfl ?_
  refine x_getR G (ic2 hz) 3 (b := (z + 6)) rfl cl2 rfl wf_X2_21 dX2_become_38 ?_
  obtain ⟨v_4, hv_4, hf⟩ := bnd hf
  refine x_nesV G (As := [.ref (y + 6), .ref (z + 6)]) (mX11_copyRow G.2.2.2.2.2.2.1 M (ic6 hy) (ic6 hz) hv_4) mn_X2_51 rfl rfl rfl rfl rfl dX2_become_41 ?_
  refine x_aload_n G dX2_become_44 rfl rfl ?_
  refine x_getR G (ic2 hy) 4 (b := (y + 7)) rfl cl2 rfl wf_X2_24 dX2_become_45 ?_
  refine x_aload_n G dX2_become_48 rfl rfl ?_
  refine x_getR G (ic2 hz) 4 (b := (z + 7)) rfl cl2 rfl wf_X2_24 dX2_become_49 ?_
  obtain ⟨v_5, hv_5, hf⟩ := bnd hf
  refine x_nesV G (As := [.ref (y + 7), .ref (z + 7)]) (mX11_copyRow G.2.2.2.2.2.2.1 M (ic7 hy) (ic7 hz) hv_5) mn_X2_51 rfl rfl rfl rfl rfl dX2_become_52 ?_
  refine x_aload_n G dX2_become_55 rfl rfl ?_
  refine x_getR G (ic2 hy) 5 (b := (y + 8)) rfl cl2 rfl wf_X2_27 dX2_become_56 ?_
  refine x_aload_n G dX2_become_59 rfl rfl ?_
  refine x_getR G (ic2 hz) 5 (b := (z + 8)) rfl cl2 rfl wf_X2_27 dX2_become_60 ?_
  obtain ⟨v_6, hv_6, hf⟩ := bnd hf
  refine x_nesV G (As := [.ref (y + 8), .ref (z + 8)]) (mX11_copyRow G.2.2.2.2.2.2.1 M (ic8 hy) (ic8 hz) hv_6) mn_X2_51 rfl rfl rfl rfl rfl dX2_become_63 ?_
  refine x_aload_n G dX2_become_66 rfl rfl ?_
  refine x_getR G (ic2 hy) 6 (b := (y + 9)) rfl cl2 rfl wf_X2_30 dX2_become_67 ?_
  refine x_aload_n G dX2_become_70 rfl rfl ?_
  refine x_getR G (ic2 hz) 6 (b := (z + 9)) rfl cl2 rfl wf_X2_30 dX2_become_71 ?_
  obtain ⟨v_7, hv_7, hf⟩ := bnd hf
  refine x_nesV G (As := [.ref (y + 9), .ref (z + 9)]) (mX11_copyRow G.2.2.2.2.2.2.1 M (ic9 hy) (ic9 hz) hv_7) mn_X2_51 rfl rfl rfl rfl rfl dX2_become_74 ?_
  refine x_aload_n G dX2_become_77 rfl rfl ?_
  refine x_getR G (ic2 hy) 7 (b := (y + 10)) rfl cl2 rfl wf_X2_33 dX2_become_78 ?_
  refine x_aload_n G dX2_become_81 rfl rfl ?_
  refine x_getR G (ic2 hz) 7 (b := (z + 10)) rfl cl2 rfl wf_X2_33 dX2_become_82 ?_
  obtain ⟨v_8, hv_8, hf⟩ := bnd hf
  refine x_nesV G (As := [.ref (y + 10), .ref (z + 10)]) (mX11_copyRow G.2.2.2.2.2.2.1 M (ic10 hy) (ic10 hz) hv_8) mn_X2_51 rfl rfl rfl rfl rfl dX2_become_85 ?_
  refine x_aload_n G dX2_become_88 rfl rfl ?_
  refine x_getR G (ic2 hy) 8 (b := (y + 11)) rfl cl2 rfl wf_X2_36 dX2_become_89 ?_
  refine x_aload_n G dX2_become_92 rfl rfl ?_
  refine x_getR G (ic2 hz) 8 (b := (z + 11)) rfl cl2 rfl wf_X2_36 dX2_become_93 ?_
  obtain ⟨v_9, hv_9, hf⟩ := bnd hf
  refine x_nesV G (As := [.ref (y + 11), .ref (z + 11)]) (mX11_copyRow G.2.2.2.2.2.2.1 M (ic11 hy) (ic11 hz) hv_9) mn_X2_51 rfl rfl rfl rfl rfl dX2_become_96 ?_
  refine x_aload_n G dX2_become_99 rfl rfl ?_
  refine x_getR G (ic2 hy) 9 (b := (y + 12)) rfl cl2 rfl wf_X2_39 dX2_become_100 ?_
  refine x_aload_n G dX2_become_103 rfl rfl ?_
  refine x_getR G (ic2 hz) 9 (b := (z + 12)) rfl cl2 rfl wf_X2_39 dX2_become_104 ?_
  obtain ⟨v_10, hv_10, hf⟩ := bnd hf
  refine x_nesV G (As := [.ref (y + 12), .ref (z + 12)]) (mX11_copyRow G.2.2.2.2.2.2.1 M (ic12 hy) (ic12 hz) hv_10) mn_X2_51 rfl rfl rfl rfl rfl dX2_become_107 ?_
  refine x_aload_n G dX2_become_110 rfl rfl ?_
  refine x_getR G (ic2 hy) 10 (b := (y + 13)) rfl cl2 rfl wf_X2_42 dX2_become_111 ?_
  refine x_aload_n G dX2_become_114 rfl rfl ?_
  refine x_getR G (ic2 hz) 10 (b := (z + 13)) rfl cl2 rfl wf_X2_42 dX2_become_115 ?_
  obtain ⟨v_11, hv_11, hf⟩ := bnd hf
  refine x_nesV G (As := [.ref (y + 13), .ref (z + 13)]) (mX11_copyRow G.2.2.2.2.2.2.1 M (ic13 hy) (ic13 hz) hv_11) mn_X2_51 rfl rfl rfl rfl rfl dX2_become_118 ?_
  exact x_vretW G hf hr dX2_become_121

theorem mX2_become {l : Launch} {S : KS} {w : Wd} (hI : Inj S) (M : Main S) {z : Nat} {y : Nat} (hz : IsCity S z) (hy : IsCity S y) {r : Wd} (hf : fX2_become z y w = some r) : CV l yX2_become cX2_become 2 none 5 S [.ref (z + 2), .ref (y + 2)] w r := by
  intro sz
  refine mk_entry rfl (by decide +kernel) hI 0 rfl rfl (fun K h1 h2 h3 h4 h5 h6 G => ?_)
  subst h2
  exact xX2_become_e G M hz hy hf ⟨h3, by rw [h4, h6], h5⟩

set_option maxHeartbeats 4000000 in
set_option maxRecDepth 100000 in
theorem xX3_become_e {K : KT} {z : Nat} {y : Nat} {w : Wd} {r : Wd} (G : GK K cX3_become RX3 2 5) (M : Main K.ks) (hz : IsCity K.ks z) (hy : IsCity K.ks y) (hf : fX3_become z y w = some r) (hr : RV K r) : XW K 0 [some (.ref (z + 19)), some (.ref (y + 19))] [] w := by
  unfold fX3_become at hf
  refine x_aload_n G dX3_become_0 rfl rfl ?_
  refine x_getR G (ic19 hy) 0 (b := (y + 20)) rfl cl3 rfl wf_X3_9 dX3_become_1 ?_
  refine x_aload_n G dX3_become_4 rfl rfl ?_
  refine x_getR G (ic19 hz) 0 (b := (z + 20)) rfl cl3 rfl wf_X3_9 dX3_become_5 ?_
  obtain ⟨v_1, hv_1, hf⟩ := bnd hf
  refine x_nesV G (As := [.ref (y + 20), .ref (z + 20)]) (mX11_copyRow G.2.2.2.2.2.2.1 M (ic20 hy) (ic20 hz) hv_1) mn_X3_48 rfl rfl rfl rfl rfl dX3_become_8 ?_
  refine x_aload_n G dX3_become_11 rfl rfl ?_
  refine x_getR G (ic19 hy) 1 (b := (y + 21)) rfl cl3 rfl wf_X3_15 dX3_become_12 ?_
  refine x_aload_n G dX3_become_15 rfl rfl ?_
  refine x_getR G (ic19 hz) 1 (b := (z + 21)) rfl cl3 rfl wf_X3_15 dX3_become_16 ?_
  obtain ⟨v_2, hv_2, hf⟩ := bnd hf
  refine x_nesV G (As := [.ref (y + 21), .ref (z + 21)]) (mX11_copyRow G.2.2.2.2.2.2.1 M (ic21 hy) (ic21 hz) hv_2) mn_X3_48 rfl rfl rfl rfl rfl dX3_become_19 ?_
  refine x_aload_n G dX3_become_22 rfl rfl ?_
  refine x_getR G (ic19 hy) 2 (b := (y + 22)) rfl cl3 rfl wf_X3_18 dX3_become_23 ?_
  refine x_aload_n G dX3_become_26 rfl rfl ?_
  refine x_getR G (ic19 hz) 2 (b := (z + 22)) rfl cl3 rfl wf_X3_18 dX3_become_27 ?_
  obtain ⟨v_3, hv_3, hf⟩ := bnd hf
  refine x_nesV G (As := [.ref (y + 22), .ref (z + 22)]) (mX11_copyRow G.2.2.2.2.2.2.1 M (ic22 hy) (ic22 hz) hv_3) mn_X3_48 rfl rfl rfl rfl rfl dX3_become_30 ?_
  refine x_aload_n G dX3_become_33 rfl rfl ?_
  refine x_getR G (ic19 hy) 3 (b := (y + 23)) rfl cl3 rfl wf_X3_21 dX3_become_34 ?_
  refine x_aload_n G dX3_become_37 rfl rfl ?_
  refine x_getR G (ic19 hz) 3 (b := (z + 23)) rfl cl3 rfl wf_X3_21 dX3_become_38 ?_
  obtain ⟨v_4, hv_4, hf⟩ := bnd hf
  refine x_nesV G (As := [.ref (y + 23), .ref (z + 23)]) (mX11_copyRow G.2.2.2.2.2.2.1 M (ic23 hy) (ic23 hz) hv_4) mn_X3_48 rfl rfl rfl rfl rfl dX3_become_41 ?_
  refine x_aload_n G dX3_become_44 rfl rfl ?_
  refine x_getR G (ic19 hy) 4 (b := (y + 24)) rfl cl3 rfl wf_X3_24 dX3_become_45 ?_
  refine x_aload_n G dX3_become_48 rfl rfl ?_
  refine x_getR G (ic19 hz) 4 (b := (z + 24)) rfl cl3 rfl wf_X3_24 dX3_become_49 ?_
  obtain ⟨v_5, hv_5, hf⟩ := bnd hf
  refine x_nesV G (As := [.ref (y + 24), .ref (z + 24)]) (mX11_copyRow G.2.2.2.2.2.2.1 M (ic24 hy) (ic24 hz) hv_5) mn_X3_48 rfl rfl rfl rfl rfl dX3_become_52 ?_
  refine x_aload_n G dX3_become_55 rfl rfl ?_
  refine x_getR G (ic19 hy) 5 (b := (y + 25)) rfl cl3 rfl wf_X3_27 dX3_become_56 ?_
  refine x_aload_n G dX3_become_59 rfl rfl ?_
  refine x_getR G (ic19 hz) 5 (b := (z + 25)) rfl cl3 rfl wf_X3_27 dX3_become_60 ?_
  obtain ⟨v_6, hv_6, hf⟩ := bnd hf
  refine x_nesV G (As := [.ref (y + 25), .ref (z + 25)]) (mX11_copyRow G.2.2.2.2.2.2.1 M (ic25 hy) (ic25 hz) hv_6) mn_X3_48 rfl rfl rfl rfl rfl dX3_become_63 ?_
  refine x_aload_n G dX3_become_66 rfl rfl ?_
  refine x_getR G (ic19 hy) 6 (b := (y + 26)) rfl cl3 rfl wf_X3_30 dX3_become_67 ?_
  refine x_aload_n G dX3_become_70 rfl rfl ?_
  refine x_getR G (ic19 hz) 6 (b := (z + 26)) rfl cl3 rfl wf_X3_30 dX3_become_71 ?_
  obtain ⟨v_7, hv_7, hf⟩ := bnd hf
  refine x_nesV G (As := [.ref (y + 26), .ref (z + 26)]) (mX11_copyRow G.2.2.2.2.2.2.1 M (ic26 hy) (ic26 hz) hv_7) mn_X3_48 rfl rfl rfl rfl rfl dX3_become_74 ?_
  refine x_aload_n G dX3_become_77 rfl rfl ?_
  refine x_getR G (ic19 hy) 7 (b := (y + 27)) rfl cl3 rfl wf_X3_33 dX3_become_78 ?_
  refine x_aload_n G dX3_become_81 rfl rfl ?_
  refine x_getR G (ic19 hz) 7 (b := (z + 27)) rfl cl3 rfl wf_X3_33 dX3_become_82 ?_
  obtain ⟨v_8, hv_8, hf⟩ := bnd hf
  refine x_nesV G (As := [.ref (y + 27), .ref (z + 27)]) (mX11_copyRow G.2.2.2.2.2.2.1 M (ic27 hy) (ic27 hz) hv_8) mn_X3_48 rfl rfl rfl rfl rfl dX3_become_85 ?_
  refine x_aload_n G dX3_become_88 rfl rfl ?_
  refine x_getR G (ic19 hy) 8 (b := (y + 28)) rfl cl3 rfl wf_X3_36 dX3_become_89 ?_
  refine x_aload_n G dX3_become_92 rfl rfl ?_
  refine x_getR G (ic19 hz) 8 (b := (z + 28)) rfl cl3 rfl wf_X3_36 dX3_become_93 ?_
  obtain ⟨v_9, hv_9, hf⟩ := bnd hf
  refine x_nesV G (As := [.ref (y + 28), .ref (z + 28)]) (mX11_copyRow G.2.2.2.2.2.2.1 M (ic28 hy) (ic28 hz) hv_9) mn_X3_48 rfl rfl rfl rfl rfl dX3_become_96 ?_
  refine x_aload_n G dX3_become_99 rfl rfl ?_
  refine x_getR G (ic19 hy) 9 (b := (y + 29)) rfl cl3 rfl wf_X3_39 dX3_become_100 ?_
  refine x_aload_n G dX3_become_103 rfl rfl ?_
  refine x_getR G (ic19 hz) 9 (b := (z + 29)) rfl cl3 rfl wf_X3_39 dX3_become_104 ?_
  obtain ⟨v_10, hv_10, hf⟩ := bnd hf
  refine x_nesV G (As := [.ref (y + 29), .ref (z + 29)]) (mX11_copyRow G.2.2.2.2.2.2.1 M (ic29 hy) (ic29 hz) hv_10) mn_X3_48 rfl rfl rfl rfl rfl dX3_become_107 ?_
  exact x_vretW G hf hr dX3_become_110

theorem mX3_become {l : Launch} {S : KS} {w : Wd} (hI : Inj S) (M : Main S) {z : Nat} {y : Nat} (hz : IsCity S z) (hy : IsCity S y) {r : Wd} (hf : fX3_become z y w = some r) : CV l yX3_become cX3_become 2 none 5 S [.ref (z + 19), .ref (y + 19)] w r := by
  intro sz
  refine mk_entry rfl (by decide +kernel) hI 0 rfl rfl (fun K h1 h2 h3 h4 h5 h6 G => ?_)
  subst h2
  exact xX3_become_e G M hz hy hf ⟨h3, by rw [h4, h6], h5⟩

set_option maxHeartbeats 4000000 in
set_option maxRecDepth 100000 in
theorem xX5_become_e {K : KT} {v0 : Nat} {v1 : Nat} {w : Wd} {r : Wd} (G : GK K cX5_become RX5 2 5) (M : Main K.ks) (hv0 : IsLine K.ks v0) (hv1 : IsLine K.ks v1) (hf : fX5_become v0 v1 w = some r) (hr : RV K r) : XW K 0 [some (.ref v0), some (.ref v1)] [] w := by
  unfold fX5_become at hf
  refine x_aload_n G dX5_become_0 rfl rfl ?_
  refine x_aload_n G dX5_become_1 rfl rfl ?_
  refine x_getI G hv1.1 0 rfl cl5 rfl wf_X5_9 dX5_become_2 ?_
  refine x_putI G hv0.1 0 rfl cl5 rfl wf_X5_9 rfl rfl rfl dX5_become_5 ?_
  refine nwr hf (fun w_1 hf => ?_)
  refine x_aload_n G dX5_become_8 rfl rfl ?_
  refine x_aload_n G dX5_become_9 rfl rfl ?_
  refine x_getI G hv1.1 1 rfl cl5 rfl wf_X5_15 dX5_become_10 ?_
  refine x_putI G hv0.1 1 rfl cl5 rfl wf_X5_15 rfl rfl rfl dX5_become_13 ?_
  refine nwr hf (fun w_2 hf => ?_)
  refine x_aload_n G dX5_become_16 rfl rfl ?_
  refine x_aload_n G dX5_become_17 rfl rfl ?_
  refine x_getI G hv1.1 2 rfl cl5 rfl wf_X5_18 dX5_become_18 ?_
  refine x_putI G hv0.1 2 rfl cl5 rfl wf_X5_18 rfl rfl rfl dX5_become_21 ?_
  refine nwr hf (fun w_3 hf => ?_)
  refine x_aload_n G dX5_become_24 rfl rfl ?_
  refine x_aload_n G dX5_become_25 rfl rfl ?_
  refine x_getI G hv1.1 3 rfl cl5 rfl wf_X5_21 dX5_become_26 ?_
  refine x_putI G hv0.1 3 rfl cl5 rfl wf_X5_21 rfl rfl rfl dX5_become_29 ?_
  refine nwr hf (fun w_4 hf => ?_)
  refine x_aload_n G dX5_become_32 rfl rfl ?_
  refine x_aload_n G dX5_become_33 rfl rfl ?_
  refine x_getI G hv1.1 4 rfl cl5 rfl wf_X5_24 dX5_become_34 ?_
  refine x_putI G hv0.1 4 rfl cl5 rfl wf_X5_24 rfl rfl rfl dX5_become_37 ?_
  refine nwr hf (fun w_5 hf => ?_)
  refine x_aload_n G dX5_become_40 rfl rfl ?_
  refine x_getR G hv1.1 5 (b := (v1 + 1)) rfl cl5 rfl wf_X5_27 dX5_become_41 ?_
  refine x_aload_n G dX5_become_44 rfl rfl ?_
  refine x_getR G hv0.1 5 (b := (v0 + 1)) rfl cl5 rfl wf_X5_27 dX5_become_45 ?_
  obtain ⟨v_6, hv_6, hf⟩ := bnd hf
  refine x_nesV G (As := [.ref (v1 + 1), .ref (v0 + 1)]) (mX11_copyRow G.2.2.2.2.2.2.1 M hv1.2.1 hv0.2.1 hv_6) mn_X5_50 rfl rfl rfl rfl rfl dX5_become_48 ?_
  refine x_aload_n G dX5_become_51 rfl rfl ?_
  refine x_getR G hv1.1 6 (b := (v1 + 2)) rfl cl5 rfl wf_X5_31 dX5_become_52 ?_
  refine x_aload_n G dX5_become_55 rfl rfl ?_
  refine x_getR G hv0.1 6 (b := (v0 + 2)) rfl cl5 rfl wf_X5_31 dX5_become_56 ?_
  obtain ⟨v_7, hv_7, hf⟩ := bnd hf
  refine x_nesV G (As := [.ref (v1 + 2), .ref (v0 + 2)]) (mX11_copyRow G.2.2.2.2.2.2.1 M hv1.2.2.1 hv0.2.2.1 hv_7) mn_X5_50 rfl rfl rfl rfl rfl dX5_become_59 ?_
  refine x_aload_n G dX5_become_62 rfl rfl ?_
  refine x_getR G hv1.1 7 (b := (v1 + 3)) rfl cl5 rfl wf_X5_34 dX5_become_63 ?_
  refine x_aload_n G dX5_become_66 rfl rfl ?_
  refine x_getR G hv0.1 7 (b := (v0 + 3)) rfl cl5 rfl wf_X5_34 dX5_become_67 ?_
  obtain ⟨v_8, hv_8, hf⟩ := bnd hf
  refine x_nesV G (As := [.ref (v1 + 3), .ref (v0 + 3)]) (mX11_copyRow G.2.2.2.2.2.2.1 M hv1.2.2.2.1 hv0.2.2.2.1 hv_8) mn_X5_50 rfl rfl rfl rfl rfl dX5_become_70 ?_
  refine x_aload_n G dX5_become_73 rfl rfl ?_
  refine x_getR G hv1.1 8 (b := (v1 + 4)) rfl cl5 rfl wf_X5_37 dX5_become_74 ?_
  refine x_aload_n G dX5_become_77 rfl rfl ?_
  refine x_getR G hv0.1 8 (b := (v0 + 4)) rfl cl5 rfl wf_X5_37 dX5_become_78 ?_
  obtain ⟨v_9, hv_9, hf⟩ := bnd hf
  refine x_nesV G (As := [.ref (v1 + 4), .ref (v0 + 4)]) (mX11_copyRow G.2.2.2.2.2.2.1 M hv1.2.2.2.2.1 hv0.2.2.2.2.1 hv_9) mn_X5_50 rfl rfl rfl rfl rfl dX5_become_81 ?_
  refine x_aload_n G dX5_become_84 rfl rfl ?_
  refine x_getR G hv1.1 9 (b := (v1 + 5)) rfl cl5 rfl wf_X5_40 dX5_become_85 ?_
  refine x_aload_n G dX5_become_88 rfl rfl ?_
  refine x_getR G hv0.1 9 (b := (v0 + 5)) rfl cl5 rfl wf_X5_40 dX5_become_89 ?_
  obtain ⟨v_10, hv_10, hf⟩ := bnd hf
  refine x_nesV G (As := [.ref (v1 + 5), .ref (v0 + 5)]) (mX11_copyRow G.2.2.2.2.2.2.1 M hv1.2.2.2.2.2.1 hv0.2.2.2.2.2.1 hv_10) mn_X5_50 rfl rfl rfl rfl rfl dX5_become_92 ?_
  refine x_aload_n G dX5_become_95 rfl rfl ?_
  refine x_getR G hv1.1 10 (b := (v1 + 6)) rfl cl5 rfl wf_X5_43 dX5_become_96 ?_
  refine x_aload_n G dX5_become_99 rfl rfl ?_
  refine x_getR G hv0.1 10 (b := (v0 + 6)) rfl cl5 rfl wf_X5_43 dX5_become_100 ?_
  obtain ⟨v_11, hv_11, hf⟩ := bnd hf
  refine x_nesV G (As := [.ref (v1 + 6), .ref (v0 + 6)]) (mX11_copyRow G.2.2.2.2.2.2.1 M hv1.2.2.2.2.2.2 hv0.2.2.2.2.2.2 hv_11) mn_X5_50 rfl rfl rfl rfl rfl dX5_become_103 ?_
  exact x_vretW G hf hr dX5_become_106

theorem mX5_become {l : Launch} {S : KS} {w : Wd} (hI : Inj S) (M : Main S) {v0 : Nat} {v1 : Nat} (hv0 : IsLine S v0) (hv1 : IsLine S v1) {r : Wd} (hf : fX5_become v0 v1 w = some r) : CV l yX5_become cX5_become 2 none 5 S [.ref v0, .ref v1] w r := by
  intro sz
  refine mk_entry rfl (by decide +kernel) hI 0 rfl rfl (fun K h1 h2 h3 h4 h5 h6 G => ?_)
  subst h2
  exact xX5_become_e G M hv0 hv1 hf ⟨h3, by rw [h4, h6], h5⟩

set_option maxHeartbeats 4000000 in
set_option maxRecDepth 100000 in
theorem xX6_become_e {K : KT} {z : Nat} {y : Nat} {w : Wd} {r : Wd} (G : GK K cX6_become RX6 2 5) (M : Main K.ks) (hz : IsCity K.ks z) (hy : IsCity K.ks y) (hf : fX6_become z y w = some r) (hr : RV K r) : XW K 0 [some (.ref (z + 30)), some (.ref (y + 30))] [] w := by
  unfold fX6_become at hf
  refine x_aload_n G dX6_become_0 rfl rfl ?_
  refine x_aload_n G dX6_become_1 rfl rfl ?_
  refine x_getI G (ic30 hy) 0 rfl cl6 rfl wf_X6_9 dX6_become_2 ?_
  refine x_putI G (ic30 hz) 0 rfl cl6 rfl wf_X6_9 rfl rfl rfl dX6_become_5 ?_
  refine nwr hf (fun w_1 hf => ?_)
  refine x_aload_n G dX6_become_8 rfl rfl ?_
  refine x_getR G (ic30 hy) 1 (b := (y + 31)) rfl cl6 rfl wf_X6_15 dX6_become_9 ?_
  refine x_aload_n G dX6_become_12 rfl rfl ?_
  refine x_getR G (ic30 hz) 1 (b := (z + 31)) rfl cl6 rfl wf_X6_15 dX6_become_13 ?_
  obtain ⟨v_2, hv_2, hf⟩ := bnd hf
  refine x_nesV G (As := [.ref (y + 31), .ref (z + 31)]) (mX11_copyRow G.2.2.2.2.2.2.1 M (ic31 hy) (ic31 hz) hv_2) mn_X6_28 rfl rfl rfl rfl rfl dX6_become_16 ?_
  refine x_aload_n G dX6_become_19 rfl rfl ?_
  refine x_getR G (ic30 hy) 2 (b := (y + 32)) rfl cl6 rfl wf_X6_19 dX6_become_20 ?_
  refine x_aload_n G dX6_become_23 rfl rfl ?_
  refine x_getR G (ic30 hz) 2 (b := (z + 32)) rfl cl6 rfl wf_X6_19 dX6_become_24 ?_
  obtain ⟨v_3, hv_3, hf⟩ := bnd hf
  refine x_nesV G (As := [.ref (y + 32), .ref (z + 32)]) (mX11_copyRow G.2.2.2.2.2.2.1 M (ic32 hy) (ic32 hz) hv_3) mn_X6_28 rfl rfl rfl rfl rfl dX6_become_27 ?_
  refine x_aload_n G dX6_become_30 rfl rfl ?_
  refine x_getR G (ic30 hy) 3 (b := (y + 33)) rfl cl6 rfl wf_X6_22 dX6_become_31 ?_
  refine x_aload_n G dX6_become_34 rfl rfl ?_
  refine x_getR G (ic30 hz) 3 (b := (z + 33)) rfl cl6 rfl wf_X6_22 dX6_become_35 ?_
  obtain ⟨v_4, hv_4, hf⟩ := bnd hf
  refine x_nesV G (As := [.ref (y + 33), .ref (z + 33)]) (mX11_copyRow G.2.2.2.2.2.2.1 M (ic33 hy) (ic33 hz) hv_4) mn_X6_28 rfl rfl rfl rfl rfl dX6_become_38 ?_
  refine x_aload_n G dX6_become_41 rfl rfl ?_
  refine x_getR G (ic30 hy) 4 (b := (y + 34)) rfl cl6 rfl wf_X6_25 dX6_become_42 ?_
  refine x_aload_n G dX6_become_45 rfl rfl ?_
  refine x_getR G (ic30 hz) 4 (b := (z + 34)) rfl cl6 rfl wf_X6_25 dX6_become_46 ?_
  obtain ⟨v_5, hv_5, hf⟩ := bnd hf
  refine x_nesV G (As := [.ref (y + 34), .ref (z + 34)]) (mX11_copyRow G.2.2.2.2.2.2.1 M (ic34 hy) (ic34 hz) hv_5) mn_X6_28 rfl rfl rfl rfl rfl dX6_become_49 ?_
  exact x_vretW G hf hr dX6_become_52

theorem mX6_become {l : Launch} {S : KS} {w : Wd} (hI : Inj S) (M : Main S) {z : Nat} {y : Nat} (hz : IsCity S z) (hy : IsCity S y) {r : Wd} (hf : fX6_become z y w = some r) : CV l yX6_become cX6_become 2 none 5 S [.ref (z + 30), .ref (y + 30)] w r := by
  intro sz
  refine mk_entry rfl (by decide +kernel) hI 0 rfl rfl (fun K h1 h2 h3 h4 h5 h6 G => ?_)
  subst h2
  exact xX6_become_e G M hz hy hf ⟨h3, by rw [h4, h6], h5⟩

set_option maxHeartbeats 4000000 in
set_option maxRecDepth 100000 in
theorem xX10_become_e {K : KT} {z : Nat} {y : Nat} {w : Wd} {r : Wd} (G : GK K cX10_become RX10 2 5) (M : Main K.ks) (hz : IsCity K.ks z) (hy : IsCity K.ks y) (hf : fX10_become z y w = some r) (hr : RV K r) : XW K 0 [some (.ref (z + 14)), some (.ref (y + 14))] [] w := by
  unfold fX10_become at hf
  refine x_aload_n G dX10_become_0 rfl rfl ?_
  refine x_getR G (ic14 hy) 0 (b := (y + 15)) rfl cl10 rfl wf_X10_9 dX10_become_1 ?_
  refine x_aload_n G dX10_become_4 rfl rfl ?_
  refine x_getR G (ic14 hz) 0 (b := (z + 15)) rfl cl10 rfl wf_X10_9 dX10_become_5 ?_
  obtain ⟨v_1, hv_1, hf⟩ := bnd hf
  refine x_nesV G (As := [.ref (y + 15), .ref (z + 15)]) (mX11_copyRow G.2.2.2.2.2.2.1 M (ic15 hy) (ic15 hz) hv_1) mn_X10_52 rfl rfl rfl rfl rfl dX10_become_8 ?_
  refine x_aload_n G dX10_become_11 rfl rfl ?_
  refine x_getR G (ic14 hy) 1 (b := (y + 16)) rfl cl10 rfl wf_X10_15 dX10_become_12 ?_
  refine x_aload_n G dX10_become_15 rfl rfl ?_
  refine x_getR G (ic14 hz) 1 (b := (z + 16)) rfl cl10 rfl wf_X10_15 dX10_become_16 ?_
  obtain ⟨v_2, hv_2, hf⟩ := bnd hf
  refine x_nesV G (As := [.ref (y + 16), .ref (z + 16)]) (mX11_copyRow G.2.2.2.2.2.2.1 M (ic16 hy) (ic16 hz) hv_2) mn_X10_52 rfl rfl rfl rfl rfl dX10_become_19 ?_
  refine x_aload_n G dX10_become_22 rfl rfl ?_
  refine x_getR G (ic14 hy) 2 (b := (y + 17)) rfl cl10 rfl wf_X10_18 dX10_become_23 ?_
  refine x_aload_n G dX10_become_26 rfl rfl ?_
  refine x_getR G (ic14 hz) 2 (b := (z + 17)) rfl cl10 rfl wf_X10_18 dX10_become_27 ?_
  obtain ⟨v_3, hv_3, hf⟩ := bnd hf
  refine x_nesV G (As := [.ref (y + 17), .ref (z + 17)]) (mX11_copyRow G.2.2.2.2.2.2.1 M (ic17 hy) (ic17 hz) hv_3) mn_X10_52 rfl rfl rfl rfl rfl dX10_become_30 ?_
  refine x_aload_n G dX10_become_33 rfl rfl ?_
  refine x_getR G (ic14 hy) 3 (b := (y + 18)) rfl cl10 rfl wf_X10_21 dX10_become_34 ?_
  refine x_aload_n G dX10_become_37 rfl rfl ?_
  refine x_getR G (ic14 hz) 3 (b := (z + 18)) rfl cl10 rfl wf_X10_21 dX10_become_38 ?_
  obtain ⟨v_4, hv_4, hf⟩ := bnd hf
  refine x_nesV G (As := [.ref (y + 18), .ref (z + 18)]) (mX11_copyRow G.2.2.2.2.2.2.1 M (ic18 hy) (ic18 hz) hv_4) mn_X10_52 rfl rfl rfl rfl rfl dX10_become_41 ?_
  refine x_aload_n G dX10_become_44 rfl rfl ?_
  refine x_aload_n G dX10_become_45 rfl rfl ?_
  refine x_getI G (ic14 hy) 4 rfl cl10 rfl wf_X10_24 dX10_become_46 ?_
  refine x_putI G (ic14 hz) 4 rfl cl10 rfl wf_X10_24 rfl rfl rfl dX10_become_49 ?_
  refine nwr hf (fun w_5 hf => ?_)
  refine x_aload_n G dX10_become_52 rfl rfl ?_
  refine x_aload_n G dX10_become_53 rfl rfl ?_
  refine x_getI G (ic14 hy) 5 rfl cl10 rfl wf_X10_28 dX10_become_54 ?_
  refine x_putI G (ic14 hz) 5 rfl cl10 rfl wf_X10_28 rfl rfl rfl dX10_become_57 ?_
  refine nwr hf (fun w_6 hf => ?_)
  refine x_aload_n G dX10_become_60 rfl rfl ?_
  refine x_aload_n G dX10_become_61 rfl rfl ?_
  refine x_getI G (ic14 hy) 6 rfl cl10 rfl wf_X10_31 dX10_become_62 ?_
  refine x_putI G (ic14 hz) 6 rfl cl10 rfl wf_X10_31 rfl rfl rfl dX10_become_65 ?_
  refine nwr hf (fun w_7 hf => ?_)
  refine x_aload_n G dX10_become_68 rfl rfl ?_
  refine x_aload_n G dX10_become_69 rfl rfl ?_
  refine x_getI G (ic14 hy) 7 rfl cl10 rfl wf_X10_34 dX10_become_70 ?_
  refine x_putI G (ic14 hz) 7 rfl cl10 rfl wf_X10_34 rfl rfl rfl dX10_become_73 ?_
  refine nwr hf (fun w_8 hf => ?_)
  refine x_aload_n G dX10_become_76 rfl rfl ?_
  refine x_aload_n G dX10_become_77 rfl rfl ?_
  refine x_getI G (ic14 hy) 8 rfl cl10 rfl wf_X10_37 dX10_become_78 ?_
  refine x_putI G (ic14 hz) 8 rfl cl10 rfl wf_X10_37 rfl rfl rfl dX10_become_81 ?_
  refine nwr hf (fun w_9 hf => ?_)
  refine x_aload_n G dX10_become_84 rfl rfl ?_
  refine x_aload_n G dX10_become_85 rfl rfl ?_
  refine x_getI G (ic14 hy) 9 rfl cl10 rfl wf_X10_40 dX10_become_86 ?_
  refine x_putI G (ic14 hz) 9 rfl cl10 rfl wf_X10_40 rfl rfl rfl dX10_become_89 ?_
  refine nwr hf (fun w_10 hf => ?_)
  refine x_aload_n G dX10_become_92 rfl rfl ?_
  refine x_aload_n G dX10_become_93 rfl rfl ?_
  refine x_getI G (ic14 hy) 10 rfl cl10 rfl wf_X10_43 dX10_become_94 ?_
  refine x_putI G (ic14 hz) 10 rfl cl10 rfl wf_X10_43 rfl rfl rfl dX10_become_97 ?_
  refine nwr hf (fun w_11 hf => ?_)
  exact x_vretW G hf hr dX10_become_100

theorem mX10_become {l : Launch} {S : KS} {w : Wd} (hI : Inj S) (M : Main S) {z : Nat} {y : Nat} (hz : IsCity S z) (hy : IsCity S y) {r : Wd} (hf : fX10_become z y w = some r) : CV l yX10_become cX10_become 2 none 5 S [.ref (z + 14), .ref (y + 14)] w r := by
  intro sz
  refine mk_entry rfl (by decide +kernel) hI 0 rfl rfl (fun K h1 h2 h3 h4 h5 h6 G => ?_)
  subst h2
  exact xX10_become_e G M hz hy hf ⟨h3, by rw [h4, h6], h5⟩

set_option maxHeartbeats 4000000 in
set_option maxRecDepth 100000 in
theorem xX0_become_54 {K : KT} {z : Nat} {y : Nat} {r : Wd} (G : GK K cX0_become RX0 3 6) (M : Main K.ks) (hz : IsCity K.ks z) (hy : IsCity K.ks y) (hr : RV K r) : ∀ (n : Nat) (v2 : Int32) (w : Wd), fX0_become_54 z y n v2 w = some r → XW K 54 [some (.ref (z + 1)), some (.ref (y + 1)), some (.int v2)] [] w := by
  intro n
  induction n with
  | zero =>
    intro v2 w hf
    unfold fX0_become_54 at hf
    cases hf
  | succ n ih =>
    intro v2 w hf
    unfold fX0_become_54 at hf
    refine x_iload_n G dX0_become_54 rfl rfl ?_
    refine x_aload_n G dX0_become_55 rfl rfl ?_
    refine x_getI G (ic1 hz) 5 rfl cl0 rfl wf_X0_45 dX0_become_56 ?_
    refine x_icmpge G (tgt := 83) dX0_become_59 (by decide) hf (fun c_1 hf => ?_) (fun c_1 hf => ?_)
    · refine x_aload_n G dX0_become_62 rfl rfl ?_
      refine x_getR G (ic1 hz) 4 (b := (z + 35)) rfl cl0 rfl wf_X0_41 dX0_become_63 ?_
      refine x_iload_n G dX0_become_66 rfl rfl ?_
      refine x_aald G (ic35 hz) (kn := 0) (by decide) dX0_become_67 hf (fun hb_2 hf => ?_)
      refine x_aload_n G dX0_become_68 rfl rfl ?_
      refine x_getR G (ic1 hy) 4 (b := (y + 35)) rfl cl0 rfl wf_X0_41 dX0_become_69 ?_
      refine x_iload_n G dX0_become_72 rfl rfl ?_
      refine x_aald0 G (ic35 hy) (kn := 0) (by decide) dX0_become_73 hb_2 ?_
      obtain ⟨v_3, hv_3, hf⟩ := bnd hf
      refine x_virV G (As := [.ref (y + 36 + 7 * (v2).toNatClampNeg)]) (mX5_become G.2.2.2.2.2.2.1 M (lineOk hz hb_2) (lineOk hy hb_2) hv_3) mv_X0_92 (lineOk hz hb_2).1 cl5 rfl rfl rfl rfl rfl dX0_become_74 ?_
      refine x_iinc G (lv' := [some (.ref (z + 1)), some (.ref (y + 1)), some (.int (v2 + (1 : Int32)))]) (v := 1) dX0_become_77 rfl (by decide) rfl rfl rfl ?_
      refine x_goto G (tgt := 54) dX0_become_80 (by decide) ?_
      exact XW.sub (lv' := [some (.ref (z + 1)), some (.ref (y + 1)), some (.int (v2 + (1 : Int32)))]) (And.intro rfl (And.intro rfl (And.intro rfl trivial))) (ih _ _ hf)
    · refine x_aload_n G dX0_become_83 rfl rfl ?_
      refine x_aload_n G dX0_become_84 rfl rfl ?_
      refine x_getI G (ic1 hy) 6 rfl cl0 rfl wf_X0_49 dX0_become_85 ?_
      refine x_putI G (ic1 hz) 6 rfl cl0 rfl wf_X0_49 rfl rfl rfl dX0_become_88 ?_
      refine nwr hf (fun w_4 hf => ?_)
      refine x_aload_n G dX0_become_91 rfl rfl ?_
      refine x_aload_n G dX0_become_92 rfl rfl ?_
      refine x_getI G (ic1 hy) 7 rfl cl0 rfl wf_X0_52 dX0_become_93 ?_
      refine x_putI G (ic1 hz) 7 rfl cl0 rfl wf_X0_52 rfl rfl rfl dX0_become_96 ?_
      refine nwr hf (fun w_5 hf => ?_)
      refine x_aload_n G dX0_become_99 rfl rfl ?_
      refine x_aload_n G dX0_become_100 rfl rfl ?_
      refine x_getI G (ic1 hy) 8 rfl cl0 rfl wf_X0_55 dX0_become_101 ?_
      refine x_putI G (ic1 hz) 8 rfl cl0 rfl wf_X0_55 rfl rfl rfl dX0_become_104 ?_
      refine nwr hf (fun w_6 hf => ?_)
      refine x_aload_n G dX0_become_107 rfl rfl ?_
      refine x_aload_n G dX0_become_108 rfl rfl ?_
      refine x_getI G (ic1 hy) 9 rfl cl0 rfl wf_X0_58 dX0_become_109 ?_
      refine x_putI G (ic1 hz) 9 rfl cl0 rfl wf_X0_58 rfl rfl rfl dX0_become_112 ?_
      refine nwr hf (fun w_7 hf => ?_)
      refine x_aload_n G dX0_become_115 rfl rfl ?_
      refine x_aload_n G dX0_become_116 rfl rfl ?_
      refine x_getI G (ic1 hy) 10 rfl cl0 rfl wf_X0_61 dX0_become_117 ?_
      refine x_putI G (ic1 hz) 10 rfl cl0 rfl wf_X0_61 rfl rfl rfl dX0_become_120 ?_
      refine nwr hf (fun w_8 hf => ?_)
      refine x_aload_n G dX0_become_123 rfl rfl ?_
      refine x_aload_n G dX0_become_124 rfl rfl ?_
      refine x_getI G (ic1 hy) 11 rfl cl0 rfl wf_X0_64 dX0_become_125 ?_
      refine x_putI G (ic1 hz) 11 rfl cl0 rfl wf_X0_64 rfl rfl rfl dX0_become_128 ?_
      refine nwr hf (fun w_9 hf => ?_)
      refine x_aload_n G dX0_become_131 rfl rfl ?_
      refine x_aload_n G dX0_become_132 rfl rfl ?_
      refine x_getI G (ic1 hy) 12 rfl cl0 rfl wf_X0_67 dX0_become_133 ?_
      refine x_putI G (ic1 hz) 12 rfl cl0 rfl wf_X0_67 rfl rfl rfl dX0_become_136 ?_
      refine nwr hf (fun w_10 hf => ?_)
      exact x_vretW G hf hr dX0_become_139

set_option maxHeartbeats 4000000 in
set_option maxRecDepth 100000 in
theorem xX0_become_e {K : KT} {z : Nat} {y : Nat} {w : Wd} {r : Wd} (G : GK K cX0_become RX0 3 6) (M : Main K.ks) (hz : IsCity K.ks z) (hy : IsCity K.ks y) (hf : fX0_become z y w = some r) (hr : RV K r) : XW K 0 [some (.ref (z + 1)), some (.ref (y + 1)), none] [] w := by
  unfold fX0_become at hf
  refine x_aload_n G dX0_become_0 rfl rfl ?_
  refine x_getR G (ic1 hz) 0 (b := (z + 2)) rfl cl0 rfl wf_X0_12 dX0_become_1 ?_
  refine x_aload_n G dX0_become_4 rfl rfl ?_
  refine x_getR G (ic1 hy) 0 (b := (y + 2)) rfl cl0 rfl wf_X0_12 dX0_become_5 ?_
  obtain ⟨v_1, hv_1, hf⟩ := bnd hf
  refine x_virV G (As := [.ref (y + 2)]) (mX2_become G.2.2.2.2.2.2.1 M hz hy hv_1) mv_X0_79 (ic2 hz) cl2 rfl rfl rfl rfl rfl dX0_become_8 ?_
  refine x_aload_n G dX0_become_11 rfl rfl ?_
  refine x_getR G (ic1 hz) 1 (b := (z + 14)) rfl cl0 rfl wf_X0_21 dX0_become_12 ?_
  refine x_aload_n G dX0_become_15 rfl rfl ?_
  refine x_getR G (ic1 hy) 1 (b := (y + 14)) rfl cl0 rfl wf_X0_21 dX0_become_16 ?_
  obtain ⟨v_2, hv_2, hf⟩ := bnd hf
  refine x_virV G (As := [.ref (y + 14)]) (mX10_become G.2.2.2.2.2.2.1 M hz hy hv_2) mv_X0_83 (ic14 hz) cl10 rfl rfl rfl rfl rfl dX0_become_19 ?_
  refine x_aload_n G dX0_become_22 rfl rfl ?_
  refine x_getR G (ic1 hz) 2 (b := (z + 19)) rfl cl0 rfl wf_X0_28 dX0_become_23 ?_
  refine x_aload_n G dX0_become_26 rfl rfl ?_
  refine x_getR G (ic1 hy) 2 (b := (y + 19)) rfl cl0 rfl wf_X0_28 dX0_become_27 ?_
  obtain ⟨v_3, hv_3, hf⟩ := bnd hf
  refine x_virV G (As := [.ref (y + 19)]) (mX3_become G.2.2.2.2.2.2.1 M hz hy hv_3) mv_X0_86 (ic19 hz) cl3 rfl rfl rfl rfl rfl dX0_become_30 ?_
  refine x_aload_n G dX0_become_33 rfl rfl ?_
  refine x_getR G (ic1 hz) 3 (b := (z + 30)) rfl cl0 rfl wf_X0_35 dX0_become_34 ?_
  refine x_aload_n G dX0_become_37 rfl rfl ?_
  refine x_getR G (ic1 hy) 3 (b := (y + 30)) rfl cl0 rfl wf_X0_35 dX0_become_38 ?_
  obtain ⟨v_4, hv_4, hf⟩ := bnd hf
  refine x_virV G (As := [.ref (y + 30)]) (mX6_become G.2.2.2.2.2.2.1 M hz hy hv_4) mv_X0_89 (ic30 hz) cl6 rfl rfl rfl rfl rfl dX0_become_41 ?_
  refine x_aload_n G dX0_become_44 rfl rfl ?_
  refine x_aload_n G dX0_become_45 rfl rfl ?_
  refine x_getI G (ic1 hy) 5 rfl cl0 rfl wf_X0_45 dX0_become_46 ?_
  refine x_putI G (ic1 hz) 5 rfl cl0 rfl wf_X0_45 rfl rfl rfl dX0_become_49 ?_
  refine nwr hf (fun w_5 hf => ?_)
  refine x_iconst G (v := 0) dX0_become_52 (by decide) ?_
  refine x_istore_n G (lv' := [some (.ref (z + 1)), some (.ref (y + 1)), some (.int (0 : Int32))]) dX0_become_53 rfl rfl rfl rfl ?_
  exact XW.sub (lv' := [some (.ref (z + 1)), some (.ref (y + 1)), some (.int (0 : Int32))]) (And.intro rfl (And.intro rfl (And.intro rfl trivial))) (xX0_become_54 G M hz hy hr FU _ _ hf)

theorem mX0_become {l : Launch} {S : KS} {w : Wd} (hI : Inj S) (M : Main S) {z : Nat} {y : Nat} (hz : IsCity S z) (hy : IsCity S y) {r : Wd} (hf : fX0_become z y w = some r) : CV l yX0_become cX0_become 3 none 6 S [.ref (z + 1), .ref (y + 1)] w r := by
  intro sz
  refine mk_entry rfl (by decide +kernel) hI 1 rfl rfl (fun K h1 h2 h3 h4 h5 h6 G => ?_)
  subst h2
  exact xX0_become_e G M hz hy hf ⟨h3, by rw [h4, h6], h5⟩

set_option maxHeartbeats 4000000 in
set_option maxRecDepth 100000 in
theorem xX0_depthOn_e {K : KT} {v1 : Nat} {v2 : Int32} {w : Wd} {r : Int32} (G : GK K cX0_depthOn RX0 3 1) (M : Main K.ks) (hv1 : IsLine K.ks v1) (hf : fX0_depthOn v1 v2 w = some r) (hr : RI K .int r w) : XW K 0 [some (.ref 1), some (.ref v1), some (.int v2)] [] w := by
  unfold fX0_depthOn at hf
  refine x_aload_n G dX0_depthOn_0 rfl rfl ?_
  refine x_getR G (kd1 M) 0 (b := 2) rfl cl0 rfl wf_X0_12 dX0_depthOn_1 ?_
  refine x_getR G (kd2 M) 0 (b := 3) rfl cl2 rfl wf_X0_95 dX0_depthOn_4 ?_
  refine x_aload_n G dX0_depthOn_7 rfl rfl ?_
  refine x_getR G hv1.1 5 (b := (v1 + 1)) rfl cl5 rfl wf_X0_99 dX0_depthOn_8 ?_
  refine x_iload_n G dX0_depthOn_11 rfl rfl ?_
  refine x_iald G hv1.2.1 dX0_depthOn_12 hf (fun hb_1 hf => ?_)
  refine x_iald G (kd3 M) dX0_depthOn_13 hf (fun hb_2 hf => ?_)
  refine x_aload_n G dX0_depthOn_14 rfl rfl ?_
  refine x_getR G hv1.1 6 (b := (v1 + 2)) rfl cl5 rfl wf_X0_102 dX0_depthOn_15 ?_
  refine x_iload_n G dX0_depthOn_18 rfl rfl ?_
  refine x_iald0 G hv1.2.2.1 dX0_depthOn_19 hb_1 ?_
  refine x_isub G dX0_depthOn_20 ?_
  exact x_iretP G hf hr dX0_depthOn_21

theorem mX0_depthOn {l : Launch} {S : KS} {w : Wd} (hI : Inj S) (M : Main S) {v1 : Nat} {v2 : Int32} (hv1 : IsLine S v1) {r : Int32} (hf : fX0_depthOn v1 v2 w = some r) : CI l yX0_depthOn cX0_depthOn 3 (some .int) 1 S [.ref 1, .ref v1, .int v2] w r w := by
  intro sz
  refine mk_entry rfl (by decide +kernel) hI 0 rfl rfl (fun K h1 h2 h3 h4 h5 h6 G => ?_)
  subst h2
  exact xX0_depthOn_e G M hv1 hf ⟨h3, by rw [h4, h6], h5⟩

set_option maxHeartbeats 4000000 in
set_option maxRecDepth 100000 in
theorem xX0_today_e {K : KT} {w : Wd} {r : Int32} (G : GK K cX0_today RX0 1 1) (M : Main K.ks) (hf : fX0_today w = some r) (hr : RI K .int r w) : XW K 0 [some (.ref 1)] [] w := by
  unfold fX0_today at hf
  refine x_aload_n G dX0_today_0 rfl rfl ?_
  refine x_getI G (kd1 M) 6 rfl cl0 rfl wf_X0_49 dX0_today_1 ?_
  refine x_bipush G (v := 24) dX0_today_4 (by decide) ?_
  refine x_idiv G dX0_today_6 (by decide) ?_
  exact x_iretP G hf hr dX0_today_7

theorem mX0_today {l : Launch} {S : KS} {w : Wd} (hI : Inj S) (M : Main S) {r : Int32} (hf : fX0_today w = some r) : CI l yX0_today cX0_today 1 (some .int) 1 S [.ref 1] w r w := by
  intro sz
  refine mk_entry rfl (by decide +kernel) hI 0 rfl rfl (fun K h1 h2 h3 h4 h5 h6 G => ?_)
  subst h2
  exact xX0_today_e G M hf ⟨h3, by rw [h4, h6], h5⟩

set_option maxHeartbeats 4000000 in
set_option maxRecDepth 100000 in
theorem xX5_strength_53 {K : KT} {v0 : Nat} {v1 : Int32} {v3 : Int32} {w : Wd} {r : Int32} (G : GK K cX5_strength RX5 4 1) (M : Main K.ks) (hv0 : IsLine K.ks v0) (hf : fX5_strength_53 v0 v1 v3 w = some r) (hr : RI K .int r w) : XW K 53 [some (.ref v0), some (.int v1), none, some (.int v3)] [] w := by
  unfold fX5_strength_53 at hf
  refine x_aload_n G dX5_strength_53 rfl rfl ?_
  refine x_getR G hv0.1 10 (b := (v0 + 6)) rfl cl5 rfl wf_X5_43 dX5_strength_54 ?_
  refine x_iload_n G dX5_strength_57 rfl rfl ?_
  refine x_iald G hv0.2.2.2.2.2.2 dX5_strength_58 hf (fun hb_1 hf => ?_)
  refine x_iconst G (v := 1) dX5_strength_59 (by decide) ?_
  refine x_icmpne G (tgt := 69) dX5_strength_60 (by decide) hf (fun c_2 hf => ?_) (fun c_2 hf => ?_)
  · refine x_iload_n G dX5_strength_63 rfl rfl ?_
    refine x_iconst G (v := 2) dX5_strength_64 (by decide) ?_
    refine x_idiv G dX5_strength_65 (by decide) ?_
    refine x_goto G (tgt := 70) dX5_strength_66 (by decide) ?_
    exact x_iretP G hf hr dX5_strength_70
  · refine x_iload_n G dX5_strength_69 rfl rfl ?_
    exact x_iretP G hf hr dX5_strength_70

set_option maxHeartbeats 4000000 in
set_option maxRecDepth 100000 in
theorem xX5_strength_31 {K : KT} {v0 : Nat} {v1 : Int32} {s0 : Int32} {w : Wd} {r : Int32} (G : GK K cX5_strength RX5 4 1) (M : Main K.ks) (hv0 : IsLine K.ks v0) (hf : fX5_strength_31 v0 v1 s0 w = some r) (hr : RI K .int r w) : XW K 31 [some (.ref v0), some (.int v1), none, none] [.int s0] w := by
  unfold fX5_strength_31 at hf
  refine x_istore_n G (lv' := [some (.ref v0), some (.int v1), none, some (.int s0)]) dX5_strength_31 rfl rfl rfl rfl ?_
  refine x_aload_n G dX5_strength_32 rfl rfl ?_
  refine x_getI G hv0.1 1 rfl cl5 rfl wf_X5_15 dX5_strength_33 ?_
  refine x_ifne G (tgt := 53) dX5_strength_36 (by decide) hf (fun c_1 hf => ?_) (fun c_1 hf => ?_)
  · refine x_aload_n G dX5_strength_39 rfl rfl ?_
    refine x_getR G hv0.1 9 (b := (v0 + 5)) rfl cl5 rfl wf_X5_40 dX5_strength_40 ?_
    refine x_iload_n G dX5_strength_43 rfl rfl ?_
    refine x_iald G hv0.2.2.2.2.2.1 dX5_strength_44 hf (fun hb_2 hf => ?_)
    refine x_iconst G (v := 1) dX5_strength_45 (by decide) ?_
    refine x_icmpne G (tgt := 53) dX5_strength_46 (by decide) hf (fun c_3 hf => ?_) (fun c_3 hf => ?_)
    · refine x_iload_n G dX5_strength_49 rfl rfl ?_
      refine x_iconst G (v := 2) dX5_strength_50 (by decide) ?_
      refine x_idiv G dX5_strength_51 (by decide) ?_
      refine x_istore_n G (lv' := [some (.ref v0), some (.int v1), none, some (.int (s0 / (2 : Int32)))]) dX5_strength_52 rfl rfl rfl rfl ?_
      exact XW.sub (lv' := [some (.ref v0), some (.int v1), none, some (.int (s0 / (2 : Int32)))]) (And.intro rfl (And.intro rfl (And.intro rfl trivial))) (xX5_strength_53 G M hv0 hf hr)
    · exact XW.sub (lv' := [some (.ref v0), some (.int v1), none, some (.int s0)]) (And.intro rfl (And.intro rfl (And.intro rfl trivial))) (xX5_strength_53 G M hv0 hf hr)
  · exact XW.sub (lv' := [some (.ref v0), some (.int v1), none, some (.int s0)]) (And.intro rfl (And.intro rfl (And.intro rfl trivial))) (xX5_strength_53 G M hv0 hf hr)

set_option maxHeartbeats 4000000 in
set_option maxRecDepth 100000 in
theorem xX5_strength_e {K : KT} {v0 : Nat} {v1 : Int32} {v2 : Int32} {w : Wd} {r : Int32} (G : GK K cX5_strength RX5 4 1) (M : Main K.ks) (hv0 : IsLine K.ks v0) (hf : fX5_strength v0 v1 v2 w = some r) (hr : RI K .int r w) : XW K 0 [some (.ref v0), some (.int v1), some (.int v2), none] [] w := by
  unfold fX5_strength at hf
  refine x_aload_n G dX5_strength_0 rfl rfl ?_
  refine x_getI G hv0.1 1 rfl cl5 rfl wf_X5_15 dX5_strength_1 ?_
  refine x_ifne G (tgt := 18) dX5_strength_4 (by decide) hf (fun c_1 hf => ?_) (fun c_1 hf => ?_)
  · refine x_bipush G (v := 100) dX5_strength_7 (by decide) ?_
    refine x_iconst G (v := 2) dX5_strength_9 (by decide) ?_
    refine x_iload_n G dX5_strength_10 rfl rfl ?_
    refine x_imul G dX5_strength_11 ?_
    refine x_min G wm_X5_61 wmin_1 wmin_2 wmin_3 rfl rfl dX5_strength_12 ?_
    refine x_goto G (tgt := 31) dX5_strength_15 (by decide) ?_
    exact XW.sub (lv' := [some (.ref v0), some (.int v1), none, none]) (And.intro rfl (And.intro rfl trivial)) (xX5_strength_31 G M hv0 hf hr)
  · refine x_sipush G (v := 300) dX5_strength_18 (by decide) ?_
    refine x_bipush G (v := 10) dX5_strength_21 (by decide) ?_
    refine x_bipush G (v := 6) dX5_strength_23 (by decide) ?_
    refine x_iload_n G dX5_strength_25 rfl rfl ?_
    refine x_imul G dX5_strength_26 ?_
    refine x_iadd G dX5_strength_27 ?_
    refine x_min G wm_X5_61 wmin_1 wmin_2 wmin_3 rfl rfl dX5_strength_28 ?_
    exact XW.sub (lv' := [some (.ref v0), some (.int v1), none, none]) (And.intro rfl (And.intro rfl trivial)) (xX5_strength_31 G M hv0 hf hr)

theorem mX5_strength {l : Launch} {S : KS} {w : Wd} (hI : Inj S) (M : Main S) {v0 : Nat} {v1 : Int32} {v2 : Int32} (hv0 : IsLine S v0) {r : Int32} (hf : fX5_strength v0 v1 v2 w = some r) : CI l yX5_strength cX5_strength 4 (some .int) 1 S [.ref v0, .int v1, .int v2] w r w := by
  intro sz
  refine mk_entry rfl (by decide +kernel) hI 1 rfl rfl (fun K h1 h2 h3 h4 h5 h6 G => ?_)
  subst h2
  exact xX5_strength_e G M hv0 hf ⟨h3, by rw [h4, h6], h5⟩

set_option maxHeartbeats 4000000 in
set_option maxRecDepth 100000 in
theorem xX0_lineCarries_16 {K : KT} {w : Wd} {r : Bool} (G : GK K cX0_lineCarries RX0 4 2) (M : Main K.ks) (hr : RI K .boolean (bI r) w) : ∀ (n : Nat) (v1 : Nat) (v2 : Int32) (v3 : Int32), IsLine K.ks v1 → fX0_lineCarries_16 w n v1 v2 v3 = some r → XW K 16 [some (.ref 1), some (.ref v1), some (.int v2), some (.int v3)] [] w := by
  intro n
  induction n with
  | zero =>
    intro v1 v2 v3 hv1 hf
    unfold fX0_lineCarries_16 at hf
    cases hf
  | succ n ih =>
    intro v1 v2 v3 hv1 hf
    unfold fX0_lineCarries_16 at hf
    refine x_iload_n G dX0_lineCarries_16 rfl rfl ?_
    refine x_aload_n G dX0_lineCarries_17 rfl rfl ?_
    refine x_getI G hv1.1 3 rfl cl5 rfl wf_X0_105 dX0_lineCarries_18 ?_
    refine x_icmpge G (tgt := 54) dX0_lineCarries_21 (by decide) hf (fun c_1 hf => ?_) (fun c_1 hf => ?_)
    · refine x_aload_n G dX0_lineCarries_24 rfl rfl ?_
      refine x_iload_n G dX0_lineCarries_25 rfl rfl ?_
      refine x_iload_n G dX0_lineCarries_26 rfl rfl ?_
      refine x_aload_n G dX0_lineCarries_27 rfl rfl ?_
      refine x_getR G hv1.1 8 (b := (v1 + 4)) rfl cl5 rfl wf_X0_122 dX0_lineCarries_28 ?_
      refine x_iload_n G dX0_lineCarries_31 rfl rfl ?_
      refine x_iald G hv1.2.2.2.2.1 dX0_lineCarries_32 hf (fun hb_2 hf => ?_)
      refine x_isub G dX0_lineCarries_33 ?_
      obtain ⟨v_3, hv_3, hf⟩ := bnd hf
      refine x_virI G (As := [.int v3, .int (v2 - (ri w (v1 + 4) v3))]) (mX5_strength G.2.2.2.2.2.2.1 M hv1 hv_3) mv_X0_125 hv1.1 cl5 rfl rfl rfl rfl rfl dX0_lineCarries_34 ?_
      refine x_aload_n G dX0_lineCarries_37 rfl rfl ?_
      refine x_aload_n G dX0_lineCarries_38 rfl rfl ?_
      refine x_iload_n G dX0_lineCarries_39 rfl rfl ?_
      obtain ⟨v_4, hv_4, hf⟩ := bnd hf
      refine x_virI G (As := [.ref v1, .int v3]) (mX0_depthOn G.2.2.2.2.2.2.1 M hv1 hv_4) mv_X0_128 (kd1 M) cl0 rfl rfl rfl rfl rfl dX0_lineCarries_40 ?_
      refine x_icmpge G (tgt := 48) dX0_lineCarries_43 (by decide) hf (fun c_5 hf => ?_) (fun c_5 hf => ?_)
      · refine x_iconst G (v := 0) dX0_lineCarries_46 (by decide) ?_
        exact x_zretP G hf hr dX0_lineCarries_47
      · refine x_iinc G (lv' := [some (.ref 1), some (.ref v1), some (.int v2), some (.int (v3 + (1 : Int32)))]) (v := 1) dX0_lineCarries_48 rfl (by decide) rfl rfl rfl ?_
        refine x_goto G (tgt := 16) dX0_lineCarries_51 (by decide) ?_
        exact XW.sub (lv' := [some (.ref 1), some (.ref v1), some (.int v2), some (.int (v3 + (1 : Int32)))]) (And.intro rfl (And.intro rfl (And.intro rfl (And.intro rfl trivial)))) (ih _ _ _ hv1 hf)
    · refine x_iconst G (v := 1) dX0_lineCarries_54 (by decide) ?_
      exact x_zretP G hf hr dX0_lineCarries_55

set_option maxHeartbeats 4000000 in
set_option maxRecDepth 100000 in
theorem xX0_lineCarries_e {K : KT} {v1 : Nat} {w : Wd} {r : Bool} (G : GK K cX0_lineCarries RX0 4 2) (M : Main K.ks) (hv1 : IsLine K.ks v1) (hf : fX0_lineCarries v1 w = some r) (hr : RI K .boolean (bI r) w) : XW K 0 [some (.ref 1), some (.ref v1), none, none] [] w := by
  unfold fX0_lineCarries at hf
  refine x_aload_n G dX0_lineCarries_0 rfl rfl ?_
  refine x_getI G hv1.1 4 rfl cl5 rfl wf_X0_115 dX0_lineCarries_1 ?_
  refine x_ifle G (tgt := 9) dX0_lineCarries_4 (by decide) hf (fun c_1 hf => ?_) (fun c_1 hf => ?_)
  · refine x_iconst G (v := 0) dX0_lineCarries_7 (by decide) ?_
    exact x_zretP G hf hr dX0_lineCarries_8
  · refine x_aload_n G dX0_lineCarries_9 rfl rfl ?_
    obtain ⟨v_2, hv_2, hf⟩ := bnd hf
    refine x_virI G (As := []) (mX0_today G.2.2.2.2.2.2.1 M hv_2) mv_X0_118 (kd1 M) cl0 rfl rfl rfl rfl rfl dX0_lineCarries_10 ?_
    refine x_istore_n G (lv' := [some (.ref 1), some (.ref v1), some (.int v_2), none]) dX0_lineCarries_13 rfl rfl rfl rfl ?_
    refine x_iconst G (v := 0) dX0_lineCarries_14 (by decide) ?_
    refine x_istore_n G (lv' := [some (.ref 1), some (.ref v1), some (.int v_2), some (.int (0 : Int32))]) dX0_lineCarries_15 rfl rfl rfl rfl ?_
    exact XW.sub (lv' := [some (.ref 1), some (.ref v1), some (.int v_2), some (.int (0 : Int32))]) (And.intro rfl (And.intro rfl (And.intro rfl (And.intro rfl trivial)))) (xX0_lineCarries_16 G M hr FU _ _ _ hv1 hf)

theorem mX0_lineCarries {l : Launch} {S : KS} {w : Wd} (hI : Inj S) (M : Main S) {v1 : Nat} (hv1 : IsLine S v1) {r : Bool} (hf : fX0_lineCarries v1 w = some r) : CI l yX0_lineCarries cX0_lineCarries 4 (some .boolean) 2 S [.ref 1, .ref v1] w (bI r) w := by
  intro sz
  refine mk_entry rfl (by decide +kernel) hI 2 rfl rfl (fun K h1 h2 h3 h4 h5 h6 G => ?_)
  subst h2
  exact xX0_lineCarries_e G M hv1 hf ⟨h3, by rw [h4, h6], h5⟩

set_option maxHeartbeats 4000000 in
set_option maxRecDepth 100000 in
theorem xX0_carryingLines_4 {K : KT} {w : Wd} {r : Int32} (G : GK K cX0_carryingLines RX0 3 3) (M : Main K.ks) (hr : RI K .int r w) : ∀ (n : Nat) (v1 : Int32) (v2 : Int32), fX0_carryingLines_4 w n v1 v2 = some r → XW K 4 [some (.ref 1), some (.int v1), some (.int v2)] [] w := by
  intro n
  induction n with
  | zero =>
    intro v1 v2 hf
    unfold fX0_carryingLines_4 at hf
    cases hf
  | succ n ih =>
    intro v1 v2 hf
    unfold fX0_carryingLines_4 at hf
    refine x_iload_n G dX0_carryingLines_4 rfl rfl ?_
    refine x_aload_n G dX0_carryingLines_5 rfl rfl ?_
    refine x_getI G (kd1 M) 5 rfl cl0 rfl wf_X0_45 dX0_carryingLines_6 ?_
    refine x_icmpge G (tgt := 37) dX0_carryingLines_9 (by decide) hf (fun c_1 hf => ?_) (fun c_1 hf => ?_)
    · refine x_aload_n G dX0_carryingLines_12 rfl rfl ?_
      refine x_aload_n G dX0_carryingLines_13 rfl rfl ?_
      refine x_getR G (kd1 M) 4 (b := 35) rfl cl0 rfl wf_X0_41 dX0_carryingLines_14 ?_
      refine x_iload_n G dX0_carryingLines_17 rfl rfl ?_
      refine x_aald G (kd35 M) (kn := 0) (by decide) dX0_carryingLines_18 hf (fun hb_2 hf => ?_)
      obtain ⟨v_3, hv_3, hf⟩ := bnd hf
      refine x_virI G (As := [.ref (36 + 7 * (v2).toNatClampNeg)]) (mX0_lineCarries G.2.2.2.2.2.2.1 M (lineOkM M hb_2) hv_3) mv_X0_132 (kd1 M) cl0 rfl rfl rfl rfl rfl dX0_carryingLines_19 ?_
      refine x_ifeqB G (tgt := 31) dX0_carryingLines_22 (by decide) hf (fun c_4 hf => ?_) (fun c_4 hf => ?_)
      · refine x_iload_n G dX0_carryingLines_25 rfl rfl ?_
        refine x_iconst G (v := 1) dX0_carryingLines_26 (by decide) ?_
        refine x_iload_n G dX0_carryingLines_27 rfl rfl ?_
        refine x_ishl G dX0_carryingLines_28 ?_
        refine x_ior G dX0_carryingLines_29 ?_
        refine x_istore_n G (lv' := [some (.ref 1), some (.int (v1 ||| ((1 : Int32) <<< (v2 &&& 31)))), some (.int v2)]) dX0_carryingLines_30 rfl rfl rfl rfl ?_
        refine x_iinc G (lv' := [some (.ref 1), some (.int (v1 ||| ((1 : Int32) <<< (v2 &&& 31)))), some (.int (v2 + (1 : Int32)))]) (v := 1) dX0_carryingLines_31 rfl (by decide) rfl rfl rfl ?_
        refine x_goto G (tgt := 4) dX0_carryingLines_34 (by decide) ?_
        exact XW.sub (lv' := [some (.ref 1), some (.int (v1 ||| ((1 : Int32) <<< (v2 &&& 31)))), some (.int (v2 + (1 : Int32)))]) (And.intro rfl (And.intro rfl (And.intro rfl trivial))) (ih _ _ hf)
      · refine x_iinc G (lv' := [some (.ref 1), some (.int v1), some (.int (v2 + (1 : Int32)))]) (v := 1) dX0_carryingLines_31 rfl (by decide) rfl rfl rfl ?_
        refine x_goto G (tgt := 4) dX0_carryingLines_34 (by decide) ?_
        exact XW.sub (lv' := [some (.ref 1), some (.int v1), some (.int (v2 + (1 : Int32)))]) (And.intro rfl (And.intro rfl (And.intro rfl trivial))) (ih _ _ hf)
    · refine x_iload_n G dX0_carryingLines_37 rfl rfl ?_
      exact x_iretP G hf hr dX0_carryingLines_38

set_option maxHeartbeats 4000000 in
set_option maxRecDepth 100000 in
theorem xX0_carryingLines_e {K : KT} {w : Wd} {r : Int32} (G : GK K cX0_carryingLines RX0 3 3) (M : Main K.ks) (hf : fX0_carryingLines w = some r) (hr : RI K .int r w) : XW K 0 [some (.ref 1), none, none] [] w := by
  unfold fX0_carryingLines at hf
  refine x_iconst G (v := 0) dX0_carryingLines_0 (by decide) ?_
  refine x_istore_n G (lv' := [some (.ref 1), some (.int (0 : Int32)), none]) dX0_carryingLines_1 rfl rfl rfl rfl ?_
  refine x_iconst G (v := 0) dX0_carryingLines_2 (by decide) ?_
  refine x_istore_n G (lv' := [some (.ref 1), some (.int (0 : Int32)), some (.int (0 : Int32))]) dX0_carryingLines_3 rfl rfl rfl rfl ?_
  exact XW.sub (lv' := [some (.ref 1), some (.int (0 : Int32)), some (.int (0 : Int32))]) (And.intro rfl (And.intro rfl (And.intro rfl trivial))) (xX0_carryingLines_4 G M hr FU _ _ hf)

theorem mX0_carryingLines {l : Launch} {S : KS} {w : Wd} (hI : Inj S) (M : Main S) {r : Int32} (hf : fX0_carryingLines w = some r) : CI l yX0_carryingLines cX0_carryingLines 3 (some .int) 3 S [.ref 1] w r w := by
  intro sz
  refine mk_entry rfl (by decide +kernel) hI 2 rfl rfl (fun K h1 h2 h3 h4 h5 h6 G => ?_)
  subst h2
  exact xX0_carryingLines_e G M hf ⟨h3, by rw [h4, h6], h5⟩

set_option maxHeartbeats 4000000 in
set_option maxRecDepth 100000 in
theorem xX2_digAt_e {K : KT} {v1 : Int32} {v2 : Int32} {w : Wd} {r : Int32} (G : GK K cX2_digAt RX2 4 1) (M : Main K.ks) (hf : fX2_digAt v1 v2 w = some r) (hr : RI K .int r w) : XW K 0 [some (.ref 2), some (.int v1), some (.int v2), none] [] w := by
  unfold fX2_digAt at hf
  refine x_aload_n G dX2_digAt_0 rfl rfl ?_
  refine x_getR G (kd2 M) 0 (b := 3) rfl cl2 rfl wf_X2_9 dX2_digAt_1 ?_
  refine x_iload_n G dX2_digAt_4 rfl rfl ?_
  refine x_iald G (kd3 M) dX2_digAt_5 hf (fun hb_1 hf => ?_)
  refine x_iload_n G dX2_digAt_6 rfl rfl ?_
  refine x_isub G dX2_digAt_7 ?_
  refine x_istore_n G (lv' := [some (.ref 2), some (.int v1), some (.int v2), some (.int ((ri w 3 v1) - v2))]) dX2_digAt_8 rfl rfl rfl rfl ?_
  refine x_iload_n G dX2_digAt_9 rfl rfl ?_
  refine x_ifle G (tgt := 26) dX2_digAt_10 (by decide) hf (fun c_2 hf => ?_) (fun c_2 hf => ?_)
  · refine x_iload_n G dX2_digAt_13 rfl rfl ?_
    refine x_iconst G (v := 2) dX2_digAt_14 (by decide) ?_
    refine x_aload_n G dX2_digAt_15 rfl rfl ?_
    refine x_getR G (kd2 M) 1 (b := 4) rfl cl2 rfl wf_X2_15 dX2_digAt_16 ?_
    refine x_iload_n G dX2_digAt_19 rfl rfl ?_
    refine x_iald0 G (kd4 M) dX2_digAt_20 hb_1 ?_
    refine x_iadd G dX2_digAt_21 ?_
    refine x_imul G dX2_digAt_22 ?_
    refine x_goto G (tgt := 31) dX2_digAt_23 (by decide) ?_
    exact x_iretP G hf hr dX2_digAt_31
  · refine x_bipush G (v := 9) dX2_digAt_26 (by decide) ?_
    refine x_iload_n G dX2_digAt_28 rfl rfl ?_
    refine x_ineg G dX2_digAt_29 ?_
    refine x_imul G dX2_digAt_30 ?_
    exact x_iretP G hf hr dX2_digAt_31

theorem mX2_digAt {l : Launch} {S : KS} {w : Wd} (hI : Inj S) (M : Main S) {v1 : Int32} {v2 : Int32} {r : Int32} (hf : fX2_digAt v1 v2 w = some r) : CI l yX2_digAt cX2_digAt 4 (some .int) 1 S [.ref 2, .int v1, .int v2] w r w := by
  intro sz
  refine mk_entry rfl (by decide +kernel) hI 1 rfl rfl (fun K h1 h2 h3 h4 h5 h6 G => ?_)
  subst h2
  exact xX2_digAt_e G M hf ⟨h3, by rw [h4, h6], h5⟩

set_option maxHeartbeats 4000000 in
set_option maxRecDepth 100000 in
theorem xX0_costOf_4 {K : KT} {w : Wd} {r : Int32} (G : GK K cX0_costOf RX0 4 2) (M : Main K.ks) (hr : RI K .int r w) : ∀ (n : Nat) (v1 : Nat) (v2 : Int32) (v3 : Int32), IsLine K.ks v1 → fX0_costOf_4 w n v1 v2 v3 = some r → XW K 4 [some (.ref 1), some (.ref v1), some (.int v2), some (.int v3)] [] w := by
  intro n
  induction n with
  | zero =>
    intro v1 v2 v3 hv1 hf
    unfold fX0_costOf_4 at hf
    cases hf
  | succ n ih =>
    intro v1 v2 v3 hv1 hf
    unfold fX0_costOf_4 at hf
    refine x_iload_n G dX0_costOf_4 rfl rfl ?_
    refine x_aload_n G dX0_costOf_5 rfl rfl ?_
    refine x_getI G hv1.1 3 rfl cl5 rfl wf_X0_105 dX0_costOf_6 ?_
    refine x_icmpge G (tgt := 48) dX0_costOf_9 (by decide) hf (fun c_1 hf => ?_) (fun c_1 hf => ?_)
    · refine x_iload_n G dX0_costOf_12 rfl rfl ?_
      refine x_aload_n G dX0_costOf_13 rfl rfl ?_
      refine x_getR G (kd1 M) 0 (b := 2) rfl cl0 rfl wf_X0_12 dX0_costOf_14 ?_
      refine x_aload_n G dX0_costOf_17 rfl rfl ?_
      refine x_getR G hv1.1 5 (b := (v1 + 1)) rfl cl5 rfl wf_X0_99 dX0_costOf_18 ?_
      refine x_iload_n G dX0_costOf_21 rfl rfl ?_
      refine x_iald G hv1.2.1 dX0_costOf_22 hf (fun hb_2 hf => ?_)
      refine x_aload_n G dX0_costOf_23 rfl rfl ?_
      refine x_getR G hv1.1 6 (b := (v1 + 2)) rfl cl5 rfl wf_X0_102 dX0_costOf_24 ?_
      refine x_iload_n G dX0_costOf_27 rfl rfl ?_
      refine x_iald0 G hv1.2.2.1 dX0_costOf_28 hb_2 ?_
      obtain ⟨v_3, hv_3, hf⟩ := bnd hf
      refine x_virI G (As := [.int (ri w (v1 + 1) v3), .int (ri w (v1 + 2) v3)]) (mX2_digAt G.2.2.2.2.2.2.1 M hv_3) mv_X0_108 (kd2 M) cl2 rfl rfl rfl rfl rfl dX0_costOf_29 ?_
      refine x_bipush G (v := 10) dX0_costOf_32 (by decide) ?_
      refine x_aload_n G dX0_costOf_34 rfl rfl ?_
      refine x_getI G hv1.1 0 rfl cl5 rfl wf_X0_112 dX0_costOf_35 ?_
      refine x_imul G dX0_costOf_38 ?_
      refine x_iadd G dX0_costOf_39 ?_
      refine x_iadd G dX0_costOf_40 ?_
      refine x_istore_n G (lv' := [some (.ref 1), some (.ref v1), some (.int (v2 + (v_3 + ((10 : Int32) * (w.1 v1 0))))), some (.int v3)]) dX0_costOf_41 rfl rfl rfl rfl ?_
      refine x_iinc G (lv' := [some (.ref 1), some (.ref v1), some (.int (v2 + (v_3 + ((10 : Int32) * (w.1 v1 0))))), some (.int (v3 + (1 : Int32)))]) (v := 1) dX0_costOf_42 rfl (by decide) rfl rfl rfl ?_
      refine x_goto G (tgt := 4) dX0_costOf_45 (by decide) ?_
      exact XW.sub (lv' := [some (.ref 1), some (.ref v1), some (.int (v2 + (v_3 + ((10 : Int32) * (w.1 v1 0))))), some (.int (v3 + (1 : Int32)))]) (And.intro rfl (And.intro rfl (And.intro rfl (And.intro rfl trivial)))) (ih _ _ _ hv1 hf)
    · refine x_iload_n G dX0_costOf_48 rfl rfl ?_
      exact x_iretP G hf hr dX0_costOf_49

set_option maxHeartbeats 4000000 in
set_option maxRecDepth 100000 in
theorem xX0_costOf_e {K : KT} {v1 : Nat} {w : Wd} {r : Int32} (G : GK K cX0_costOf RX0 4 2) (M : Main K.ks) (hv1 : IsLine K.ks v1) (hf : fX0_costOf v1 w = some r) (hr : RI K .int r w) : XW K 0 [some (.ref 1), some (.ref v1), none, none] [] w := by
  unfold fX0_costOf at hf
  refine x_iconst G (v := 0) dX0_costOf_0 (by decide) ?_
  refine x_istore_n G (lv' := [some (.ref 1), some (.ref v1), some (.int (0 : Int32)), none]) dX0_costOf_1 rfl rfl rfl rfl ?_
  refine x_iconst G (v := 0) dX0_costOf_2 (by decide) ?_
  refine x_istore_n G (lv' := [some (.ref 1), some (.ref v1), some (.int (0 : Int32)), some (.int (0 : Int32))]) dX0_costOf_3 rfl rfl rfl rfl ?_
  exact XW.sub (lv' := [some (.ref 1), some (.ref v1), some (.int (0 : Int32)), some (.int (0 : Int32))]) (And.intro rfl (And.intro rfl (And.intro rfl (And.intro rfl trivial)))) (xX0_costOf_4 G M hr FU _ _ _ hv1 hf)

theorem mX0_costOf {l : Launch} {S : KS} {w : Wd} (hI : Inj S) (M : Main S) {v1 : Nat} (hv1 : IsLine S v1) {r : Int32} (hf : fX0_costOf v1 w = some r) : CI l yX0_costOf cX0_costOf 4 (some .int) 2 S [.ref 1, .ref v1] w r w := by
  intro sz
  refine mk_entry rfl (by decide +kernel) hI 2 rfl rfl (fun K h1 h2 h3 h4 h5 h6 G => ?_)
  subst h2
  exact xX0_costOf_e G M hv1 hf ⟨h3, by rw [h4, h6], h5⟩

set_option maxHeartbeats 4000000 in
set_option maxRecDepth 100000 in
theorem xX5_placeOf_2 {K : KT} {w : Wd} {r : Int32} (G : GK K cX5_placeOf RX5 3 1) (M : Main K.ks) (hr : RI K .int r w) : ∀ (n : Nat) (v0 : Nat) (v1 : Int32) (v2 : Int32), IsLine K.ks v0 → fX5_placeOf_2 w n v0 v1 v2 = some r → XW K 2 [some (.ref v0), some (.int v1), some (.int v2)] [] w := by
  intro n
  induction n with
  | zero =>
    intro v0 v1 v2 hv0 hf
    unfold fX5_placeOf_2 at hf
    cases hf
  | succ n ih =>
    intro v0 v1 v2 hv0 hf
    unfold fX5_placeOf_2 at hf
    refine x_iload_n G dX5_placeOf_2 rfl rfl ?_
    refine x_aload_n G dX5_placeOf_3 rfl rfl ?_
    refine x_getI G hv0.1 3 rfl cl5 rfl wf_X5_21 dX5_placeOf_4 ?_
    refine x_icmpge G (tgt := 34) dX5_placeOf_7 (by decide) hf (fun c_1 hf => ?_) (fun c_1 hf => ?_)
    · refine x_iload_n G dX5_placeOf_10 rfl rfl ?_
      refine x_bipush G (v := 19) dX5_placeOf_11 (by decide) ?_
      refine x_icmpge G (tgt := 34) dX5_placeOf_13 (by decide) hf (fun c_2 hf => ?_) (fun c_2 hf => ?_)
      · refine x_aload_n G dX5_placeOf_16 rfl rfl ?_
        refine x_getR G hv0.1 5 (b := (v0 + 1)) rfl cl5 rfl wf_X5_27 dX5_placeOf_17 ?_
        refine x_iload_n G dX5_placeOf_20 rfl rfl ?_
        refine x_iald G hv0.2.1 dX5_placeOf_21 hf (fun hb_3 hf => ?_)
        refine x_iload_n G dX5_placeOf_22 rfl rfl ?_
        refine x_icmpne G (tgt := 28) dX5_placeOf_23 (by decide) hf (fun c_4 hf => ?_) (fun c_4 hf => ?_)
        · refine x_iload_n G dX5_placeOf_26 rfl rfl ?_
          exact x_iretP G hf hr dX5_placeOf_27
        · refine x_iinc G (lv' := [some (.ref v0), some (.int v1), some (.int (v2 + (1 : Int32)))]) (v := 1) dX5_placeOf_28 rfl (by decide) rfl rfl rfl ?_
          refine x_goto G (tgt := 2) dX5_placeOf_31 (by decide) ?_
          exact XW.sub (lv' := [some (.ref v0), some (.int v1), some (.int (v2 + (1 : Int32)))]) (And.intro rfl (And.intro rfl (And.intro rfl trivial))) (ih _ _ _ hv0 hf)
      · refine x_iconst G (v := -1) dX5_placeOf_34 (by decide) ?_
        exact x_iretP G hf hr dX5_placeOf_35
    · refine x_iconst G (v := -1) dX5_placeOf_34 (by decide) ?_
      exact x_iretP G hf hr dX5_placeOf_35

set_option maxHeartbeats 4000000 in
set_option maxRecDepth 100000 in
theorem xX5_placeOf_e {K : KT} {v0 : Nat} {v1 : Int32} {w : Wd} {r : Int32} (G : GK K cX5_placeOf RX5 3 1) (M : Main K.ks) (hv0 : IsLine K.ks v0) (hf : fX5_placeOf v0 v1 w = some r) (hr : RI K .int r w) : XW K 0 [some (.ref v0), some (.int v1), none] [] w := by
  unfold fX5_placeOf at hf
  refine x_iconst G (v := 0) dX5_placeOf_0 (by decide) ?_
  refine x_istore_n G (lv' := [some (.ref v0), some (.int v1), some (.int (0 : Int32))]) dX5_placeOf_1 rfl rfl rfl rfl ?_
  exact XW.sub (lv' := [some (.ref v0), some (.int v1), some (.int (0 : Int32))]) (And.intro rfl (And.intro rfl (And.intro rfl trivial))) (xX5_placeOf_2 G M hr FU _ _ _ hv0 hf)

theorem mX5_placeOf {l : Launch} {S : KS} {w : Wd} (hI : Inj S) (M : Main S) {v0 : Nat} {v1 : Int32} (hv0 : IsLine S v0) {r : Int32} (hf : fX5_placeOf v0 v1 w = some r) : CI l yX5_placeOf cX5_placeOf 3 (some .int) 1 S [.ref v0, .int v1] w r w := by
  intro sz
  refine mk_entry rfl (by decide +kernel) hI 1 rfl rfl (fun K h1 h2 h3 h4 h5 h6 G => ?_)
  subst h2
  exact xX5_placeOf_e G M hv0 hf ⟨h3, by rw [h4, h6], h5⟩

set_option maxHeartbeats 4000000 in
set_option maxRecDepth 100000 in
theorem xX0_deepest_62 {K : KT} {v1 : Int32} {v4 : Int32} {v6 : Int32} {w : Wd} {r : Int32} (G : GK K cX0_deepest RX0 7 2) (M : Main K.ks) (k7 : Int32 → Int32 → Int32 → Int32 → Option Int32) (hk7 : ∀ (v1 : Int32) (v2 : Int32) (v3 : Int32) (v4 : Int32), k7 v1 v2 v3 v4 = some r → XW K 7 [some (.ref 1), some (.int v1), some (.int v2), some (.int v3), some (.int v4), none, none] [] w) (hf : fX0_deepest_62 k7 v1 v4 v6 w = some r) (hr : RI K .int r w) : XW K 62 [some (.ref 1), some (.int v1), none, none, some (.int v4), none, some (.int v6)] [] w := by
  unfold fX0_deepest_62 at hf
  refine x_iload G dX0_deepest_62 rfl ?_
  refine x_istore_n G (lv' := [some (.ref 1), some (.int v1), some (.int v6), none, some (.int v4), none, some (.int v6)]) dX0_deepest_64 rfl rfl rfl rfl ?_
  refine x_iconst G (v := 1) dX0_deepest_65 (by decide) ?_
  refine x_istore_n G (lv' := [some (.ref 1), some (.int v1), some (.int v6), some (.int (1 : Int32)), some (.int v4), none, some (.int v6)]) dX0_deepest_66 rfl rfl rfl rfl ?_
  refine x_iinc G (lv' := [some (.ref 1), some (.int v1), some (.int v6), some (.int (1 : Int32)), some (.int (v4 + (1 : Int32))), none, some (.int v6)]) (v := 1) dX0_deepest_67 rfl (by decide) rfl rfl rfl ?_
  refine x_goto G (tgt := 7) dX0_deepest_70 (by decide) ?_
  exact XW.sub (lv' := [some (.ref 1), some (.int v1), some (.int v6), some (.int (1 : Int32)), some (.int (v4 + (1 : Int32))), none, none]) (And.intro rfl (And.intro rfl (And.intro rfl (And.intro rfl (And.intro rfl trivial))))) (hk7 _ _ _ _ hf)

set_option maxHeartbeats 4000000 in
set_option maxRecDepth 100000 in
theorem xX0_deepest_7 {K : KT} {w : Wd} {r : Int32} (G : GK K cX0_deepest RX0 7 2) (M : Main K.ks) (hr : RI K .int r w) : ∀ (n : Nat) (v1 : Int32) (v2 : Int32) (v3 : Int32) (v4 : Int32), fX0_deepest_7 w n v1 v2 v3 v4 = some r → XW K 7 [some (.ref 1), some (.int v1), some (.int v2), some (.int v3), some (.int v4), none, none] [] w := by
  intro n
  induction n with
  | zero =>
    intro v1 v2 v3 v4 hf
    unfold fX0_deepest_7 at hf
    cases hf
  | succ n ih =>
    intro v1 v2 v3 v4 hf
    unfold fX0_deepest_7 at hf
    refine x_iload G dX0_deepest_7 rfl ?_
    refine x_aload_n G dX0_deepest_9 rfl rfl ?_
    refine x_getI G (kd1 M) 5 rfl cl0 rfl wf_X0_45 dX0_deepest_10 ?_
    refine x_icmpge G (tgt := 73) dX0_deepest_13 (by decide) hf (fun c_1 hf => ?_) (fun c_1 hf => ?_)
    · refine x_aload_n G dX0_deepest_16 rfl rfl ?_
      refine x_getR G (kd1 M) 4 (b := 35) rfl cl0 rfl wf_X0_41 dX0_deepest_17 ?_
      refine x_iload G dX0_deepest_20 rfl ?_
      refine x_aald G (kd35 M) (kn := 0) (by decide) dX0_deepest_22 hf (fun hb_2 hf => ?_)
      refine x_iload_n G dX0_deepest_23 rfl rfl ?_
      obtain ⟨v_3, hv_3, hf⟩ := bnd hf
      refine x_virI G (As := [.int v1]) (mX5_placeOf G.2.2.2.2.2.2.1 M (lineOkM M hb_2) hv_3) mv_X0_149 (lineOkM M hb_2).1 cl5 rfl rfl rfl rfl rfl dX0_deepest_24 ?_
      refine x_istore G (lv' := [some (.ref 1), some (.int v1), some (.int v2), some (.int v3), some (.int v4), some (.int v_3), none]) dX0_deepest_27 rfl rfl rfl ?_
      refine x_iload G dX0_deepest_29 rfl ?_
      refine x_ifge G (tgt := 37) dX0_deepest_31 (by decide) hf (fun c_4 hf => ?_) (fun c_4 hf => ?_)
      · refine x_goto G (tgt := 67) dX0_deepest_34 (by decide) ?_
        refine x_iinc G (lv' := [some (.ref 1), some (.int v1), some (.int v2), some (.int v3), some (.int (v4 + (1 : Int32))), some (.int v_3), none]) (v := 1) dX0_deepest_67 rfl (by decide) rfl rfl rfl ?_
        refine x_goto G (tgt := 7) dX0_deepest_70 (by decide) ?_
        exact XW.sub (lv' := [some (.ref 1), some (.int v1), some (.int v2), some (.int v3), some (.int (v4 + (1 : Int32))), none, none]) (And.intro rfl (And.intro rfl (And.intro rfl (And.intro rfl (And.intro rfl trivial))))) (ih _ _ _ _ hf)
      · refine x_aload_n G dX0_deepest_37 rfl rfl ?_
        refine x_aload_n G dX0_deepest_38 rfl rfl ?_
        refine x_getR G (kd1 M) 4 (b := 35) rfl cl0 rfl wf_X0_41 dX0_deepest_39 ?_
        refine x_iload G dX0_deepest_42 rfl ?_
        refine x_aald0 G (kd35 M) (kn := 0) (by decide) dX0_deepest_44 hb_2 ?_
        refine x_iload G dX0_deepest_45 rfl ?_
        obtain ⟨v_5, hv_5, hf⟩ := bnd hf
        refine x_virI G (As := [.ref (36 + 7 * (v4).toNatClampNeg), .int v_3]) (mX0_depthOn G.2.2.2.2.2.2.1 M (lineOkM M hb_2) hv_5) mv_X0_128 (kd1 M) cl0 rfl rfl rfl rfl rfl dX0_deepest_47 ?_
        refine x_istore G (lv' := [some (.ref 1), some (.int v1), some (.int v2), some (.int v3), some (.int v4), some (.int v_3), some (.int v_5)]) dX0_deepest_50 rfl rfl rfl ?_
        refine x_iload_n G dX0_deepest_52 rfl rfl ?_
        refine x_ifeq G (tgt := 62) dX0_deepest_53 (by decide) hf (fun c_6 hf => ?_) (fun c_6 hf => ?_)
        · exact XW.sub (lv' := [some (.ref 1), some (.int v1), none, none, some (.int v4), none, some (.int v_5)]) (And.intro rfl (And.intro rfl (And.intro rfl (And.intro rfl trivial)))) (xX0_deepest_62 G M (fX0_deepest_7 w n) ih hf hr)
        · refine x_iload G dX0_deepest_56 rfl ?_
          refine x_iload_n G dX0_deepest_58 rfl rfl ?_
          refine x_icmple G (tgt := 65) dX0_deepest_59 (by decide) hf (fun c_7 hf => ?_) (fun c_7 hf => ?_)
          · exact XW.sub (lv' := [some (.ref 1), some (.int v1), none, none, some (.int v4), none, some (.int v_5)]) (And.intro rfl (And.intro rfl (And.intro rfl (And.intro rfl trivial)))) (xX0_deepest_62 G M (fX0_deepest_7 w n) ih hf hr)
          · refine x_iconst G (v := 1) dX0_deepest_65 (by decide) ?_
            refine x_istore_n G (lv' := [some (.ref 1), some (.int v1), some (.int v2), some (.int (1 : Int32)), some (.int v4), some (.int v_3), some (.int v_5)]) dX0_deepest_66 rfl rfl rfl rfl ?_
            refine x_iinc G (lv' := [some (.ref 1), some (.int v1), some (.int v2), some (.int (1 : Int32)), some (.int (v4 + (1 : Int32))), some (.int v_3), some (.int v_5)]) (v := 1) dX0_deepest_67 rfl (by decide) rfl rfl rfl ?_
            refine x_goto G (tgt := 7) dX0_deepest_70 (by decide) ?_
            exact XW.sub (lv' := [some (.ref 1), some (.int v1), some (.int v2), some (.int (1 : Int32)), some (.int (v4 + (1 : Int32))), none, none]) (And.intro rfl (And.intro rfl (And.intro rfl (And.intro rfl (And.intro rfl trivial))))) (ih _ _ _ _ hf)
    · refine x_iload_n G dX0_deepest_73 rfl rfl ?_
      exact x_iretP G hf hr dX0_deepest_74

set_option maxHeartbeats 4000000 in
set_option maxRecDepth 100000 in
theorem xX0_deepest_e {K : KT} {v1 : Int32} {w : Wd} {r : Int32} (G : GK K cX0_deepest RX0 7 2) (M : Main K.ks) (hf : fX0_deepest v1 w = some r) (hr : RI K .int r w) : XW K 0 [some (.ref 1), some (.int v1), none, none, none, none, none] [] w := by
  unfold fX0_deepest at hf
  refine x_iconst G (v := 0) dX0_deepest_0 (by decide) ?_
  refine x_istore_n G (lv' := [some (.ref 1), some (.int v1), some (.int (0 : Int32)), none, none, none, none]) dX0_deepest_1 rfl rfl rfl rfl ?_
  refine x_iconst G (v := 0) dX0_deepest_2 (by decide) ?_
  refine x_istore_n G (lv' := [some (.ref 1), some (.int v1), some (.int (0 : Int32)), some (.int (0 : Int32)), none, none, none]) dX0_deepest_3 rfl rfl rfl rfl ?_
  refine x_iconst G (v := 0) dX0_deepest_4 (by decide) ?_
  refine x_istore G (lv' := [some (.ref 1), some (.int v1), some (.int (0 : Int32)), some (.int (0 : Int32)), some (.int (0 : Int32)), none, none]) dX0_deepest_5 rfl rfl rfl ?_
  exact XW.sub (lv' := [some (.ref 1), some (.int v1), some (.int (0 : Int32)), some (.int (0 : Int32)), some (.int (0 : Int32)), none, none]) (And.intro rfl (And.intro rfl (And.intro rfl (And.intro rfl (And.intro rfl trivial))))) (xX0_deepest_7 G M hr FU _ _ _ _ hf)

theorem mX0_deepest {l : Launch} {S : KS} {w : Wd} (hI : Inj S) (M : Main S) {v1 : Int32} {r : Int32} (hf : fX0_deepest v1 w = some r) : CI l yX0_deepest cX0_deepest 7 (some .int) 2 S [.ref 1, .int v1] w r w := by
  intro sz
  refine mk_entry rfl (by decide +kernel) hI 5 rfl rfl (fun K h1 h2 h3 h4 h5 h6 G => ?_)
  subst h2
  exact xX0_deepest_e G M hf ⟨h3, by rw [h4, h6], h5⟩

set_option maxHeartbeats 4000000 in
set_option maxRecDepth 100000 in
theorem xX4_bounded_e {K : KT} {v0 : Int64} {w : Wd} {r : Int64} (G : GK K cX4_bounded RX4 2 1) (M : Main K.ks) (hf : fX4_bounded v0 w = some r) (hr : RJ K .long r w) : XW K 0 [some (.long v0), none] [] w := by
  unfold fX4_bounded at hf
  refine x_ldc2 G wl_X4_140 dX4_bounded_0 ?_
  refine x_ldc2 G wl_X4_142 dX4_bounded_3 ?_
  refine x_lload_n G dX4_bounded_6 rfl rfl ?_
  refine x_minL G wm_X4_144 wminL_1 wminL_2 wminL_3 rfl rfl dX4_bounded_7 ?_
  refine x_maxL G wm_X4_147 wmaxL_1 wmaxL_2 wmaxL_3 rfl rfl dX4_bounded_10 ?_
  exact x_lretP G hf hr dX4_bounded_13

theorem mX4_bounded {l : Launch} {S : KS} {w : Wd} (hI : Inj S) (M : Main S) {v0 : Int64} {r : Int64} (hf : fX4_bounded v0 w = some r) : CJ l yX4_bounded cX4_bounded 2 (some .long) 1 S [.long v0] w r w := by
  intro sz
  refine mk_entry rfl (by decide +kernel) hI 0 rfl rfl (fun K h1 h2 h3 h4 h5 h6 G => ?_)
  subst h2
  exact xX4_bounded_e G M hf ⟨h3, by rw [h4, h6], h5⟩

set_option maxHeartbeats 4000000 in
set_option maxRecDepth 100000 in
theorem xX4_done_e {K : KT} {v0 : Int32} {v1 : Int64} {v3 : Int64} {w : Wd} {r : Int64} (G : GK K cX4_done RX4 5 2) (M : Main K.ks) (hf : fX4_done v0 v1 v3 w = some r) (hr : RJ K .long r w) : XW K 0 [some (.int v0), some (.long v1), none, some (.long v3), none] [] w := by
  unfold fX4_done at hf
  refine x_iload_n G dX4_done_0 rfl rfl ?_
  rcases ite_or hf with ⟨c_1, hf⟩ | ⟨c_1, hf⟩
  · refine x_swIn G (tgt := 173) (off := 172) (k := 38) dX4_done_1 c_1 (by decide) (by decide) (by decide) (by decide) ?_
    refine x_lload_n G dX4_done_173 rfl rfl ?_
    refine x_lload_n G dX4_done_174 rfl rfl ?_
    refine x_land G dX4_done_175 ?_
    exact x_lretP G hf hr dX4_done_176
  rcases ite_or hf with ⟨c_3, hf⟩ | ⟨c_3, hf⟩
  · refine x_swIn G (tgt := 130) (off := 129) (k := 42) dX4_done_1 c_3 (by decide) (by decide) (by decide) (by decide) ?_
    refine x_lload_n G dX4_done_130 rfl rfl ?_
    refine x_lload_n G dX4_done_131 rfl rfl ?_
    refine x_lmul G dX4_done_132 ?_
    obtain ⟨v_2, hv_2, hf⟩ := bnd hf
    refine x_staJ G (As := [.long (v1 * v3)]) (mX4_bounded G.2.2.2.2.2.2.1 M hv_2) ms_X4_136 rfl rfl rfl rfl rfl dX4_done_133 ?_
    exact x_lretP G hf hr dX4_done_136
  rcases ite_or hf with ⟨c_5, hf⟩ | ⟨c_5, hf⟩
  · refine x_swIn G (tgt := 116) (off := 115) (k := 43) dX4_done_1 c_5 (by decide) (by decide) (by decide) (by decide) ?_
    refine x_lload_n G dX4_done_116 rfl rfl ?_
    refine x_lload_n G dX4_done_117 rfl rfl ?_
    refine x_ladd G dX4_done_118 ?_
    obtain ⟨v_4, hv_4, hf⟩ := bnd hf
    refine x_staJ G (As := [.long (v1 + v3)]) (mX4_bounded G.2.2.2.2.2.2.1 M hv_4) ms_X4_136 rfl rfl rfl rfl rfl dX4_done_119 ?_
    exact x_lretP G hf hr dX4_done_122
  rcases ite_or hf with ⟨c_7, hf⟩ | ⟨c_7, hf⟩
  · refine x_swIn G (tgt := 123) (off := 122) (k := 45) dX4_done_1 c_7 (by decide) (by decide) (by decide) (by decide) ?_
    refine x_lload_n G dX4_done_123 rfl rfl ?_
    refine x_lload_n G dX4_done_124 rfl rfl ?_
    refine x_lsub G dX4_done_125 ?_
    obtain ⟨v_6, hv_6, hf⟩ := bnd hf
    refine x_staJ G (As := [.long (v1 - v3)]) (mX4_bounded G.2.2.2.2.2.2.1 M hv_6) ms_X4_136 rfl rfl rfl rfl rfl dX4_done_126 ?_
    exact x_lretP G hf hr dX4_done_129
  rcases ite_or hf with ⟨c_9, hf⟩ | ⟨c_9, hf⟩
  · refine x_swIn G (tgt := 137) (off := 136) (k := 60) dX4_done_1 c_9 (by decide) (by decide) (by decide) (by decide) ?_
    refine x_lload_n G dX4_done_137 rfl rfl ?_
    refine x_lload_n G dX4_done_138 rfl rfl ?_
    refine x_lcmp G dX4_done_139 ?_
    refine x_cge G (tgt := 147) dX4_done_140 (by decide) hf (fun c_8 hf => ?_) (fun c_8 hf => ?_)
    · refine x_lconst G (v := 1) dX4_done_143 (by decide) ?_
      refine x_goto G (tgt := 148) dX4_done_144 (by decide) ?_
      exact x_lretP G hf hr dX4_done_148
    · refine x_lconst G (v := 0) dX4_done_147 (by decide) ?_
      exact x_lretP G hf hr dX4_done_148
  rcases ite_or hf with ⟨c_11, hf⟩ | ⟨c_11, hf⟩
  · refine x_swIn G (tgt := 149) (off := 148) (k := 61) dX4_done_1 c_11 (by decide) (by decide) (by decide) (by decide) ?_
    refine x_lload_n G dX4_done_149 rfl rfl ?_
    refine x_lload_n G dX4_done_150 rfl rfl ?_
    refine x_lcmp G dX4_done_151 ?_
    refine x_cne G (tgt := 159) dX4_done_152 (by decide) hf (fun c_10 hf => ?_) (fun c_10 hf => ?_)
    · refine x_lconst G (v := 1) dX4_done_155 (by decide) ?_
      refine x_goto G (tgt := 160) dX4_done_156 (by decide) ?_
      exact x_lretP G hf hr dX4_done_160
    · refine x_lconst G (v := 0) dX4_done_159 (by decide) ?_
      exact x_lretP G hf hr dX4_done_160
  rcases ite_or hf with ⟨c_13, hf⟩ | ⟨c_13, hf⟩
  · refine x_swIn G (tgt := 161) (off := 160) (k := 62) dX4_done_1 c_13 (by decide) (by decide) (by decide) (by decide) ?_
    refine x_lload_n G dX4_done_161 rfl rfl ?_
    refine x_lload_n G dX4_done_162 rfl rfl ?_
    refine x_lcmp G dX4_done_163 ?_
    refine x_cle G (tgt := 171) dX4_done_164 (by decide) hf (fun c_12 hf => ?_) (fun c_12 hf => ?_)
    · refine x_lconst G (v := 1) dX4_done_167 (by decide) ?_
      refine x_goto G (tgt := 172) dX4_done_168 (by decide) ?_
      exact x_lretP G hf hr dX4_done_172
    · refine x_lconst G (v := 0) dX4_done_171 (by decide) ?_
      exact x_lretP G hf hr dX4_done_172
  refine x_swDef G (tgt := 177) dX4_done_1 (by decide) [38, 42, 43, 45, 60, 61, 62] (List.forall_mem_cons.mpr ⟨nek c_1 (by decide), (List.forall_mem_cons.mpr ⟨nek c_3 (by decide), (List.forall_mem_cons.mpr ⟨nek c_5 (by decide), (List.forall_mem_cons.mpr ⟨nek c_7 (by decide), (List.forall_mem_cons.mpr ⟨nek c_9 (by decide), (List.forall_mem_cons.mpr ⟨nek c_11 (by decide), (List.forall_mem_cons.mpr ⟨nek c_13 (by decide), (fun _ h => absurd h List.not_mem_nil)⟩)⟩)⟩)⟩)⟩)⟩)⟩) (by decide +kernel) ?_
  refine x_lload_n G dX4_done_177 rfl rfl ?_
  refine x_lload_n G dX4_done_178 rfl rfl ?_
  refine x_lor G dX4_done_179 ?_
  exact x_lretP G hf hr dX4_done_180

theorem mX4_done {l : Launch} {S : KS} {w : Wd} (hI : Inj S) (M : Main S) {v0 : Int32} {v1 : Int64} {v3 : Int64} {r : Int64} (hf : fX4_done v0 v1 v3 w = some r) : CJ l yX4_done cX4_done 5 (some .long) 2 S [.int v0, .long v1, .long v3] w r w := by
  intro sz
  refine mk_entry rfl (by decide +kernel) hI 0 rfl rfl (fun K h1 h2 h3 h4 h5 h6 G => ?_)
  subst h2
  exact xX4_done_e G M hf ⟨h3, by rw [h4, h6], h5⟩

set_option maxHeartbeats 4000000 in
set_option maxRecDepth 100000 in
theorem xX5_inWork_e {K : KT} {v0 : Nat} {w : Wd} {r : Int32} (G : GK K cX5_inWork RX5 1 1) (M : Main K.ks) (hv0 : IsLine K.ks v0) (hf : fX5_inWork v0 w = some r) (hr : RI K .int r w) : XW K 0 [some (.ref v0)] [] w := by
  unfold fX5_inWork at hf
  refine x_aload_n G dX5_inWork_0 rfl rfl ?_
  refine x_getI G hv0.1 4 rfl cl5 rfl wf_X5_24 dX5_inWork_1 ?_
  refine x_bipush G (v := 19) dX5_inWork_4 (by decide) ?_
  refine x_icmpgt G (tgt := 18) dX5_inWork_6 (by decide) hf (fun c_1 hf => ?_) (fun c_1 hf => ?_)
  · refine x_iconst G (v := -1) dX5_inWork_18 (by decide) ?_
    exact x_iretP G hf hr dX5_inWork_19
  · refine x_aload_n G dX5_inWork_9 rfl rfl ?_
    refine x_getI G hv0.1 4 rfl cl5 rfl wf_X5_24 dX5_inWork_10 ?_
    refine x_iconst G (v := 1) dX5_inWork_13 (by decide) ?_
    refine x_isub G dX5_inWork_14 ?_
    refine x_goto G (tgt := 19) dX5_inWork_15 (by decide) ?_
    exact x_iretP G hf hr dX5_inWork_19

theorem mX5_inWork {l : Launch} {S : KS} {w : Wd} (hI : Inj S) (M : Main S) {v0 : Nat} (hv0 : IsLine S v0) {r : Int32} (hf : fX5_inWork v0 w = some r) : CI l yX5_inWork cX5_inWork 1 (some .int) 1 S [.ref v0] w r w := by
  intro sz
  refine mk_entry rfl (by decide +kernel) hI 0 rfl rfl (fun K h1 h2 h3 h4 h5 h6 G => ?_)
  subst h2
  exact xX5_inWork_e G M hv0 hf ⟨h3, by rw [h4, h6], h5⟩

set_option maxHeartbeats 4000000 in
set_option maxRecDepth 100000 in
theorem xX0_isShut_2 {K : KT} {w : Wd} {r : Bool} (G : GK K cX0_isShut RX0 5 2) (M : Main K.ks) (hr : RI K .boolean (bI r) w) : ∀ (n : Nat) (v1 : Int32) (v2 : Int32), fX0_isShut_2 w n v1 v2 = some r → XW K 2 [some (.ref 1), some (.int v1), some (.int v2), none, none] [] w := by
  intro n
  induction n with
  | zero =>
    intro v1 v2 hf
    unfold fX0_isShut_2 at hf
    cases hf
  | succ n ih =>
    intro v1 v2 hf
    unfold fX0_isShut_2 at hf
    refine x_iload_n G dX0_isShut_2 rfl rfl ?_
    refine x_aload_n G dX0_isShut_3 rfl rfl ?_
    refine x_getI G (kd1 M) 5 rfl cl0 rfl wf_X0_45 dX0_isShut_4 ?_
    refine x_icmpge G (tgt := 54) dX0_isShut_7 (by decide) hf (fun c_1 hf => ?_) (fun c_1 hf => ?_)
    · refine x_aload_n G dX0_isShut_10 rfl rfl ?_
      refine x_getR G (kd1 M) 4 (b := 35) rfl cl0 rfl wf_X0_41 dX0_isShut_11 ?_
      refine x_iload_n G dX0_isShut_14 rfl rfl ?_
      refine x_aald G (kd35 M) (kn := 0) (by decide) dX0_isShut_15 hf (fun hb_2 hf => ?_)
      refine x_astore_n G (lv' := [some (.ref 1), some (.int v1), some (.int v2), some (.ref (36 + 7 * (v2).toNatClampNeg)), none]) dX0_isShut_16 rfl rfl rfl rfl ?_
      refine x_aload_n G dX0_isShut_17 rfl rfl ?_
      obtain ⟨v_3, hv_3, hf⟩ := bnd hf
      refine x_virI G (As := []) (mX5_inWork G.2.2.2.2.2.2.1 M (lineOkM M hb_2) hv_3) mv_X0_136 (lineOkM M hb_2).1 cl5 rfl rfl rfl rfl rfl dX0_isShut_18 ?_
      refine x_istore G (lv' := [some (.ref 1), some (.int v1), some (.int v2), some (.ref (36 + 7 * (v2).toNatClampNeg)), some (.int v_3)]) dX0_isShut_21 rfl rfl rfl ?_
      refine x_aload_n G dX0_isShut_23 rfl rfl ?_
      refine x_getI G (lineOkM M hb_2).1 2 rfl cl5 rfl wf_X0_139 dX0_isShut_24 ?_
      refine x_ifle G (tgt := 48) dX0_isShut_27 (by decide) hf (fun c_4 hf => ?_) (fun c_4 hf => ?_)
      · refine x_iload G dX0_isShut_30 rfl ?_
        refine x_iflt G (tgt := 48) dX0_isShut_32 (by decide) hf (fun c_5 hf => ?_) (fun c_5 hf => ?_)
        · refine x_iinc G (lv' := [some (.ref 1), some (.int v1), some (.int (v2 + (1 : Int32))), some (.ref (36 + 7 * (v2).toNatClampNeg)), some (.int v_3)]) (v := 1) dX0_isShut_48 rfl (by decide) rfl rfl rfl ?_
          refine x_goto G (tgt := 2) dX0_isShut_51 (by decide) ?_
          exact XW.sub (lv' := [some (.ref 1), some (.int v1), some (.int (v2 + (1 : Int32))), none, none]) (And.intro rfl (And.intro rfl (And.intro rfl trivial))) (ih _ _ hf)
        · refine x_aload_n G dX0_isShut_35 rfl rfl ?_
          refine x_getR G (lineOkM M hb_2).1 5 (b := ((36 + 7 * (v2).toNatClampNeg) + 1)) rfl cl5 rfl wf_X0_99 dX0_isShut_36 ?_
          refine x_iload G dX0_isShut_39 rfl ?_
          refine x_iald G (lineOkM M hb_2).2.1 dX0_isShut_41 hf (fun hb_6 hf => ?_)
          refine x_iload_n G dX0_isShut_42 rfl rfl ?_
          refine x_icmpne G (tgt := 48) dX0_isShut_43 (by decide) hf (fun c_7 hf => ?_) (fun c_7 hf => ?_)
          · refine x_iconst G (v := 1) dX0_isShut_46 (by decide) ?_
            exact x_zretP G hf hr dX0_isShut_47
          · refine x_iinc G (lv' := [some (.ref 1), some (.int v1), some (.int (v2 + (1 : Int32))), some (.ref (36 + 7 * (v2).toNatClampNeg)), some (.int v_3)]) (v := 1) dX0_isShut_48 rfl (by decide) rfl rfl rfl ?_
            refine x_goto G (tgt := 2) dX0_isShut_51 (by decide) ?_
            exact XW.sub (lv' := [some (.ref 1), some (.int v1), some (.int (v2 + (1 : Int32))), none, none]) (And.intro rfl (And.intro rfl (And.intro rfl trivial))) (ih _ _ hf)
      · refine x_iinc G (lv' := [some (.ref 1), some (.int v1), some (.int (v2 + (1 : Int32))), some (.ref (36 + 7 * (v2).toNatClampNeg)), some (.int v_3)]) (v := 1) dX0_isShut_48 rfl (by decide) rfl rfl rfl ?_
        refine x_goto G (tgt := 2) dX0_isShut_51 (by decide) ?_
        exact XW.sub (lv' := [some (.ref 1), some (.int v1), some (.int (v2 + (1 : Int32))), none, none]) (And.intro rfl (And.intro rfl (And.intro rfl trivial))) (ih _ _ hf)
    · refine x_iconst G (v := 0) dX0_isShut_54 (by decide) ?_
      exact x_zretP G hf hr dX0_isShut_55

set_option maxHeartbeats 4000000 in
set_option maxRecDepth 100000 in
theorem xX0_isShut_e {K : KT} {v1 : Int32} {w : Wd} {r : Bool} (G : GK K cX0_isShut RX0 5 2) (M : Main K.ks) (hf : fX0_isShut v1 w = some r) (hr : RI K .boolean (bI r) w) : XW K 0 [some (.ref 1), some (.int v1), none, none, none] [] w := by
  unfold fX0_isShut at hf
  refine x_iconst G (v := 0) dX0_isShut_0 (by decide) ?_
  refine x_istore_n G (lv' := [some (.ref 1), some (.int v1), some (.int (0 : Int32)), none, none]) dX0_isShut_1 rfl rfl rfl rfl ?_
  exact XW.sub (lv' := [some (.ref 1), some (.int v1), some (.int (0 : Int32)), none, none]) (And.intro rfl (And.intro rfl (And.intro rfl trivial))) (xX0_isShut_2 G M hr FU _ _ hf)

theorem mX0_isShut {l : Launch} {S : KS} {w : Wd} (hI : Inj S) (M : Main S) {v1 : Int32} {r : Bool} (hf : fX0_isShut v1 w = some r) : CI l yX0_isShut cX0_isShut 5 (some .boolean) 2 S [.ref 1, .int v1] w (bI r) w := by
  intro sz
  refine mk_entry rfl (by decide +kernel) hI 3 rfl rfl (fun K h1 h2 h3 h4 h5 h6 G => ?_)
  subst h2
  exact xX0_isShut_e G M hf ⟨h3, by rw [h4, h6], h5⟩

