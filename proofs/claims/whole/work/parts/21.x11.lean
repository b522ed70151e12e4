theorem dX12_law_0 : decode cX12_law 0 = .ok (.aload_n 0, 1) := by decide +kernel
theorem dX12_law_1 : decode cX12_law 1 = .ok (.iconst 0, 1) := by decide +kernel
theorem dX12_law_2 : decode cX12_law 2 = .ok (.putfield 1, 3) := by decide +kernel
theorem dX12_law_5 : decode cX12_law 5 = .ok (.iload_n 1, 1) := by decide +kernel
theorem dX12_law_6 : decode cX12_law 6 = .ok (.i2l, 1) := by decide +kernel
theorem dX12_law_7 : decode cX12_law 7 = .ok (.lconst 0, 1) := by decide +kernel
theorem dX12_law_8 : decode cX12_law 8 = .ok (.ldc2_w 339, 3) := by decide +kernel
theorem dX12_law_11 : decode cX12_law 11 = .ok (.invokestatic 93, 3) := by decide +kernel
theorem dX12_law_14 : decode cX12_law 14 = .ok (.ifCond .eq 22, 3) := by decide +kernel
theorem dX12_law_17 : decode cX12_law 17 = .ok (.iload_n 2, 1) := by decide +kernel
theorem dX12_law_18 : decode cX12_law 18 = .ok (.i2l, 1) := by decide +kernel
theorem dX12_law_19 : decode cX12_law 19 = .ok (.lconst 0, 1) := by decide +kernel
theorem dX12_law_20 : decode cX12_law 20 = .ok (.ldc2_w 170, 3) := by decide +kernel
theorem dX12_law_23 : decode cX12_law 23 = .ok (.invokestatic 93, 3) := by decide +kernel
theorem dX12_law_26 : decode cX12_law 26 = .ok (.ifCond .eq 10, 3) := by decide +kernel
theorem dX12_law_29 : decode cX12_law 29 = .ok (.iload_n 3, 1) := by decide +kernel
theorem dX12_law_30 : decode cX12_law 30 = .ok (.invokestatic 128, 3) := by decide +kernel
theorem dX12_law_33 : decode cX12_law 33 = .ok (.ifCond .ne 5, 3) := by decide +kernel
theorem dX12_law_36 : decode cX12_law 36 = .ok (.iconst (-1), 1) := by decide +kernel
theorem dX12_law_37 : decode cX12_law 37 = .ok (.ireturn, 1) := by decide +kernel
theorem dX12_law_38 : decode cX12_law 38 = .ok (.iload_n 2, 1) := by decide +kernel
theorem dX12_law_39 : decode cX12_law 39 = .ok (.aload_n 0, 1) := by decide +kernel
theorem dX12_law_40 : decode cX12_law 40 = .ok (.invokevirtual 159, 3) := by decide +kernel
theorem dX12_law_43 : decode cX12_law 43 = .ok (.if_icmp .ge 6, 3) := by decide +kernel
theorem dX12_law_46 : decode cX12_law 46 = .ok (.bipush (-4), 2) := by decide +kernel
theorem dX12_law_48 : decode cX12_law 48 = .ok (.ireturn, 1) := by decide +kernel
theorem dX12_law_49 : decode cX12_law 49 = .ok (.aload_n 0, 1) := by decide +kernel
theorem dX12_law_50 : decode cX12_law 50 = .ok (.getfield 63, 3) := by decide +kernel
theorem dX12_law_53 : decode cX12_law 53 = .ok (.iload_n 3, 1) := by decide +kernel
theorem dX12_law_54 : decode cX12_law 54 = .ok (.iaload, 1) := by decide +kernel
theorem dX12_law_55 : decode cX12_law 55 = .ok (.ifCond .ne 10, 3) := by decide +kernel
theorem dX12_law_58 : decode cX12_law 58 = .ok (.aload_n 0, 1) := by decide +kernel
theorem dX12_law_59 : decode cX12_law 59 = .ok (.bipush (-11), 2) := by decide +kernel
theorem dX12_law_61 : decode cX12_law 61 = .ok (.invokevirtual 131, 3) := by decide +kernel
theorem dX12_law_64 : decode cX12_law 64 = .ok (.ireturn, 1) := by decide +kernel
theorem dX12_law_65 : decode cX12_law 65 = .ok (.aload_n 0, 1) := by decide +kernel
theorem dX12_law_66 : decode cX12_law 66 = .ok (.getfield 63, 3) := by decide +kernel
theorem dX12_law_69 : decode cX12_law 69 = .ok (.iload_n 3, 1) := by decide +kernel
theorem dX12_law_70 : decode cX12_law 70 = .ok (.iaload, 1) := by decide +kernel
theorem dX12_law_71 : decode cX12_law 71 = .ok (.iconst 1, 1) := by decide +kernel
theorem dX12_law_72 : decode cX12_law 72 = .ok (.if_icmp .eq 10, 3) := by decide +kernel
theorem dX12_law_75 : decode cX12_law 75 = .ok (.aload_n 0, 1) := by decide +kernel
theorem dX12_law_76 : decode cX12_law 76 = .ok (.bipush (-12), 2) := by decide +kernel
theorem dX12_law_78 : decode cX12_law 78 = .ok (.invokevirtual 131, 3) := by decide +kernel
theorem dX12_law_81 : decode cX12_law 81 = .ok (.ireturn, 1) := by decide +kernel
theorem dX12_law_82 : decode cX12_law 82 = .ok (.aload_n 0, 1) := by decide +kernel
theorem dX12_law_83 : decode cX12_law 83 = .ok (.aload_n 0, 1) := by decide +kernel
theorem dX12_law_84 : decode cX12_law 84 = .ok (.getfield 66, 3) := by decide +kernel
theorem dX12_law_87 : decode cX12_law 87 = .ok (.iload_n 3, 1) := by decide +kernel
theorem dX12_law_88 : decode cX12_law 88 = .ok (.iaload, 1) := by decide +kernel
theorem dX12_law_89 : decode cX12_law 89 = .ok (.putfield 282, 3) := by decide +kernel
theorem dX12_law_92 : decode cX12_law 92 = .ok (.iconst 0, 1) := by decide +kernel
theorem dX12_law_93 : decode cX12_law 93 = .ok (.istore 4, 2) := by decide +kernel
theorem dX12_law_95 : decode cX12_law 95 = .ok (.iload 4, 2) := by decide +kernel
theorem dX12_law_97 : decode cX12_law 97 = .ok (.aload_n 0, 1) := by decide +kernel
theorem dX12_law_98 : decode cX12_law 98 = .ok (.getfield 282, 3) := by decide +kernel
theorem dX12_law_101 : decode cX12_law 101 = .ok (.if_icmp .ge 29, 3) := by decide +kernel
theorem dX12_law_104 : decode cX12_law 104 = .ok (.aload_n 0, 1) := by decide +kernel
theorem dX12_law_105 : decode cX12_law 105 = .ok (.getfield 57, 3) := by decide +kernel
theorem dX12_law_108 : decode cX12_law 108 = .ok (.iload 4, 2) := by decide +kernel
theorem dX12_law_110 : decode cX12_law 110 = .ok (.aload_n 0, 1) := by decide +kernel
theorem dX12_law_111 : decode cX12_law 111 = .ok (.getfield 69, 3) := by decide +kernel
theorem dX12_law_114 : decode cX12_law 114 = .ok (.bipush 100, 2) := by decide +kernel
theorem dX12_law_116 : decode cX12_law 116 = .ok (.iload_n 3, 1) := by decide +kernel
theorem dX12_law_117 : decode cX12_law 117 = .ok (.imul, 1) := by decide +kernel
theorem dX12_law_118 : decode cX12_law 118 = .ok (.iload 4, 2) := by decide +kernel
theorem dX12_law_120 : decode cX12_law 120 = .ok (.iadd, 1) := by decide +kernel
theorem dX12_law_121 : decode cX12_law 121 = .ok (.laload, 1) := by decide +kernel
theorem dX12_law_122 : decode cX12_law 122 = .ok (.l2i, 1) := by decide +kernel
theorem dX12_law_123 : decode cX12_law 123 = .ok (.iastore, 1) := by decide +kernel
theorem dX12_law_124 : decode cX12_law 124 = .ok (.iinc 4 1, 3) := by decide +kernel
theorem dX12_law_127 : decode cX12_law 127 = .ok (.goto (-32), 3) := by decide +kernel
theorem dX12_law_130 : decode cX12_law 130 = .ok (.aload_n 0, 1) := by decide +kernel
theorem dX12_law_131 : decode cX12_law 131 = .ok (.iconst 0, 1) := by decide +kernel
theorem dX12_law_132 : decode cX12_law 132 = .ok (.putfield 292, 3) := by decide +kernel
theorem dX12_law_135 : decode cX12_law 135 = .ok (.aload_n 0, 1) := by decide +kernel
theorem dX12_law_136 : decode cX12_law 136 = .ok (.invokevirtual 341, 3) := by decide +kernel
theorem dX12_law_139 : decode cX12_law 139 = .ok (.istore 4, 2) := by decide +kernel
theorem dX12_law_141 : decode cX12_law 141 = .ok (.aload_n 0, 1) := by decide +kernel
theorem dX12_law_142 : decode cX12_law 142 = .ok (.getfield 285, 3) := by decide +kernel
theorem dX12_law_145 : decode cX12_law 145 = .ok (.ifCond .eq 11, 3) := by decide +kernel
theorem dX12_law_148 : decode cX12_law 148 = .ok (.bipush (-100), 2) := by decide +kernel
theorem dX12_law_150 : decode cX12_law 150 = .ok (.aload_n 0, 1) := by decide +kernel
theorem dX12_law_151 : decode cX12_law 151 = .ok (.getfield 279, 3) := by decide +kernel
theorem dX12_law_154 : decode cX12_law 154 = .ok (.isub, 1) := by decide +kernel
theorem dX12_law_155 : decode cX12_law 155 = .ok (.ireturn, 1) := by decide +kernel
theorem dX12_law_156 : decode cX12_law 156 = .ok (.aload_n 0, 1) := by decide +kernel
theorem dX12_law_157 : decode cX12_law 157 = .ok (.getfield 79, 3) := by decide +kernel
theorem dX12_law_160 : decode cX12_law 160 = .ok (.bipush 20, 2) := by decide +kernel
theorem dX12_law_162 : decode cX12_law 162 = .ok (.if_icmp .eq 12, 3) := by decide +kernel
theorem dX12_law_165 : decode cX12_law 165 = .ok (.aload_n 0, 1) := by decide +kernel
theorem dX12_law_166 : decode cX12_law 166 = .ok (.getfield 282, 3) := by decide +kernel
theorem dX12_law_169 : decode cX12_law 169 = .ok (.bipush 60, 2) := by decide +kernel
theorem dX12_law_171 : decode cX12_law 171 = .ok (.if_icmp .le 6, 3) := by decide +kernel
theorem dX12_law_174 : decode cX12_law 174 = .ok (.bipush (-2), 2) := by decide +kernel
theorem dX12_law_176 : decode cX12_law 176 = .ok (.ireturn, 1) := by decide +kernel
theorem dX12_law_177 : decode cX12_law 177 = .ok (.aload_n 0, 1) := by decide +kernel
theorem dX12_law_178 : decode cX12_law 178 = .ok (.getfield 45, 3) := by decide +kernel
theorem dX12_law_181 : decode cX12_law 181 = .ok (.aload_n 0, 1) := by decide +kernel
theorem dX12_law_182 : decode cX12_law 182 = .ok (.getfield 79, 3) := by decide +kernel
theorem dX12_law_185 : decode cX12_law 185 = .ok (.iload_n 1, 1) := by decide +kernel
theorem dX12_law_186 : decode cX12_law 186 = .ok (.iastore, 1) := by decide +kernel
theorem dX12_law_187 : decode cX12_law 187 = .ok (.aload_n 0, 1) := by decide +kernel
theorem dX12_law_188 : decode cX12_law 188 = .ok (.getfield 48, 3) := by decide +kernel
theorem dX12_law_191 : decode cX12_law 191 = .ok (.aload_n 0, 1) := by decide +kernel
theorem dX12_law_192 : decode cX12_law 192 = .ok (.getfield 79, 3) := by decide +kernel
theorem dX12_law_195 : decode cX12_law 195 = .ok (.iload_n 2, 1) := by decide +kernel
theorem dX12_law_196 : decode cX12_law 196 = .ok (.iastore, 1) := by decide +kernel
theorem dX12_law_197 : decode cX12_law 197 = .ok (.aload_n 0, 1) := by decide +kernel
theorem dX12_law_198 : decode cX12_law 198 = .ok (.getfield 51, 3) := by decide +kernel
theorem dX12_law_201 : decode cX12_law 201 = .ok (.aload_n 0, 1) := by decide +kernel
theorem dX12_law_202 : decode cX12_law 202 = .ok (.getfield 79, 3) := by decide +kernel
theorem dX12_law_205 : decode cX12_law 205 = .ok (.aload_n 0, 1) := by decide +kernel
theorem dX12_law_206 : decode cX12_law 206 = .ok (.getfield 282, 3) := by decide +kernel
theorem dX12_law_209 : decode cX12_law 209 = .ok (.iastore, 1) := by decide +kernel
theorem dX12_law_210 : decode cX12_law 210 = .ok (.iconst 0, 1) := by decide +kernel
theorem dX12_law_211 : decode cX12_law 211 = .ok (.istore 5, 2) := by decide +kernel
theorem dX12_law_213 : decode cX12_law 213 = .ok (.iload 5, 2) := by decide +kernel
theorem dX12_law_215 : decode cX12_law 215 = .ok (.aload_n 0, 1) := by decide +kernel
theorem dX12_law_216 : decode cX12_law 216 = .ok (.getfield 282, 3) := by decide +kernel
theorem dX12_law_219 : decode cX12_law 219 = .ok (.if_icmp .ge 31, 3) := by decide +kernel
theorem dX12_law_222 : decode cX12_law 222 = .ok (.aload_n 0, 1) := by decide +kernel
theorem dX12_law_223 : decode cX12_law 223 = .ok (.getfield 54, 3) := by decide +kernel
theorem dX12_law_226 : decode cX12_law 226 = .ok (.bipush 60, 2) := by decide +kernel
theorem dX12_law_228 : decode cX12_law 228 = .ok (.aload_n 0, 1) := by decide +kernel
theorem dX12_law_229 : decode cX12_law 229 = .ok (.getfield 79, 3) := by decide +kernel
theorem dX12_law_232 : decode cX12_law 232 = .ok (.imul, 1) := by decide +kernel
theorem dX12_law_233 : decode cX12_law 233 = .ok (.iload 5, 2) := by decide +kernel
theorem dX12_law_235 : decode cX12_law 235 = .ok (.iadd, 1) := by decide +kernel
theorem dX12_law_236 : decode cX12_law 236 = .ok (.aload_n 0, 1) := by decide +kernel
theorem dX12_law_237 : decode cX12_law 237 = .ok (.getfield 57, 3) := by decide +kernel
theorem dX12_law_240 : decode cX12_law 240 = .ok (.iload 5, 2) := by decide +kernel
theorem dX12_law_242 : decode cX12_law 242 = .ok (.iaload, 1) := by decide +kernel
theorem dX12_law_243 : decode cX12_law 243 = .ok (.iastore, 1) := by decide +kernel
theorem dX12_law_244 : decode cX12_law 244 = .ok (.iinc 5 1, 3) := by decide +kernel
theorem dX12_law_247 : decode cX12_law 247 = .ok (.goto (-34), 3) := by decide +kernel
theorem dX12_law_250 : decode cX12_law 250 = .ok (.aload_n 0, 1) := by decide +kernel
theorem dX12_law_251 : decode cX12_law 251 = .ok (.dup, 1) := by decide +kernel
theorem dX12_law_252 : decode cX12_law 252 = .ok (.getfield 79, 3) := by decide +kernel
theorem dX12_law_255 : decode cX12_law 255 = .ok (.iconst 1, 1) := by decide +kernel
theorem dX12_law_256 : decode cX12_law 256 = .ok (.iadd, 1) := by decide +kernel
theorem dX12_law_257 : decode cX12_law 257 = .ok (.putfield 79, 3) := by decide +kernel
theorem dX12_law_260 : decode cX12_law 260 = .ok (.aload_n 0, 1) := by decide +kernel
theorem dX12_law_261 : decode cX12_law 261 = .ok (.getfield 79, 3) := by decide +kernel
theorem dX12_law_264 : decode cX12_law 264 = .ok (.iconst 1, 1) := by decide +kernel
theorem dX12_law_265 : decode cX12_law 265 = .ok (.isub, 1) := by decide +kernel
theorem dX12_law_266 : decode cX12_law 266 = .ok (.ireturn, 1) := by decide +kernel
theorem dX12_level_0 : decode cX12_level 0 = .ok (.aload_n 0, 1) := by decide +kernel
theorem dX12_level_1 : decode cX12_level 1 = .ok (.iconst 0, 1) := by decide +kernel
theorem dX12_level_2 : decode cX12_level 2 = .ok (.putfield 1, 3) := by decide +kernel
theorem dX12_level_5 : decode cX12_level 5 = .ok (.iload_n 1, 1) := by decide +kernel
theorem dX12_level_6 : decode cX12_level 6 = .ok (.i2l, 1) := by decide +kernel
theorem dX12_level_7 : decode cX12_level 7 = .ok (.lconst 0, 1) := by decide +kernel
theorem dX12_level_8 : decode cX12_level 8 = .ok (.ldc2_w 136, 3) := by decide +kernel
theorem dX12_level_11 : decode cX12_level 11 = .ok (.invokestatic 93, 3) := by decide +kernel
theorem dX12_level_14 : decode cX12_level 14 = .ok (.ifCond .ne 10, 3) := by decide +kernel
theorem dX12_level_17 : decode cX12_level 17 = .ok (.aload_n 0, 1) := by decide +kernel
theorem dX12_level_18 : decode cX12_level 18 = .ok (.iconst 1, 1) := by decide +kernel
theorem dX12_level_19 : decode cX12_level 19 = .ok (.putfield 1, 3) := by decide +kernel
theorem dX12_level_22 : decode cX12_level 22 = .ok (.iconst 0, 1) := by decide +kernel
theorem dX12_level_23 : decode cX12_level 23 = .ok (.ireturn, 1) := by decide +kernel
theorem dX12_level_24 : decode cX12_level 24 = .ok (.aload_n 0, 1) := by decide +kernel
theorem dX12_level_25 : decode cX12_level 25 = .ok (.iload_n 1, 1) := by decide +kernel
theorem dX12_level_26 : decode cX12_level 26 = .ok (.invokevirtual 138, 3) := by decide +kernel
theorem dX12_level_29 : decode cX12_level 29 = .ok (.ireturn, 1) := by decide +kernel
theorem dX12_lift_0 : decode cX12_lift 0 = .ok (.aload_n 0, 1) := by decide +kernel
theorem dX12_lift_1 : decode cX12_lift 1 = .ok (.iconst 0, 1) := by decide +kernel
theorem dX12_lift_2 : decode cX12_lift 2 = .ok (.putfield 1, 3) := by decide +kernel
theorem dX12_lift_5 : decode cX12_lift 5 = .ok (.iload_n 1, 1) := by decide +kernel
theorem dX12_lift_6 : decode cX12_lift 6 = .ok (.invokestatic 105, 3) := by decide +kernel
theorem dX12_lift_9 : decode cX12_lift 9 = .ok (.ifCond .eq 40, 3) := by decide +kernel
theorem dX12_lift_12 : decode cX12_lift 12 = .ok (.iload_n 2, 1) := by decide +kernel
theorem dX12_lift_13 : decode cX12_lift 13 = .ok (.invokestatic 105, 3) := by decide +kernel
theorem dX12_lift_16 : decode cX12_lift 16 = .ok (.ifCond .eq 33, 3) := by decide +kernel
theorem dX12_lift_19 : decode cX12_lift 19 = .ok (.iload_n 3, 1) := by decide +kernel
theorem dX12_lift_20 : decode cX12_lift 20 = .ok (.i2l, 1) := by decide +kernel
theorem dX12_lift_21 : decode cX12_lift 21 = .ok (.lconst 1, 1) := by decide +kernel
theorem dX12_lift_22 : decode cX12_lift 22 = .ok (.ldc2_w 115, 3) := by decide +kernel
theorem dX12_lift_25 : decode cX12_lift 25 = .ok (.invokestatic 93, 3) := by decide +kernel
theorem dX12_lift_28 : decode cX12_lift 28 = .ok (.ifCond .eq 21, 3) := by decide +kernel
theorem dX12_lift_31 : decode cX12_lift 31 = .ok (.iload 4, 2) := by decide +kernel
theorem dX12_lift_33 : decode cX12_lift 33 = .ok (.i2l, 1) := by decide +kernel
theorem dX12_lift_34 : decode cX12_lift 34 = .ok (.lconst 0, 1) := by decide +kernel
theorem dX12_lift_35 : decode cX12_lift 35 = .ok (.ldc2_w 115, 3) := by decide +kernel
theorem dX12_lift_38 : decode cX12_lift 38 = .ok (.invokestatic 93, 3) := by decide +kernel
theorem dX12_lift_41 : decode cX12_lift 41 = .ok (.ifCond .eq 8, 3) := by decide +kernel
theorem dX12_lift_44 : decode cX12_lift 44 = .ok (.iload_n 2, 1) := by decide +kernel
theorem dX12_lift_45 : decode cX12_lift 45 = .ok (.iload_n 1, 1) := by decide +kernel
theorem dX12_lift_46 : decode cX12_lift 46 = .ok (.if_icmp .ne 5, 3) := by decide +kernel
theorem dX12_lift_49 : decode cX12_lift 49 = .ok (.iconst (-1), 1) := by decide +kernel
theorem dX12_lift_50 : decode cX12_lift 50 = .ok (.ireturn, 1) := by decide +kernel
theorem dX12_lift_51 : decode cX12_lift 51 = .ok (.aload_n 0, 1) := by decide +kernel
theorem dX12_lift_52 : decode cX12_lift 52 = .ok (.iload_n 1, 1) := by decide +kernel
theorem dX12_lift_53 : decode cX12_lift 53 = .ok (.iconst 0, 1) := by decide +kernel
theorem dX12_lift_54 : decode cX12_lift 54 = .ok (.invokevirtual 226, 3) := by decide +kernel
theorem dX12_lift_57 : decode cX12_lift 57 = .ok (.iconst 2, 1) := by decide +kernel
theorem dX12_lift_58 : decode cX12_lift 58 = .ok (.if_icmp .ne 6, 3) := by decide +kernel
theorem dX12_lift_61 : decode cX12_lift 61 = .ok (.bipush (-3), 2) := by decide +kernel
theorem dX12_lift_63 : decode cX12_lift 63 = .ok (.ireturn, 1) := by decide +kernel
theorem dX12_lift_64 : decode cX12_lift 64 = .ok (.aload_n 0, 1) := by decide +kernel
theorem dX12_lift_65 : decode cX12_lift 65 = .ok (.iload_n 1, 1) := by decide +kernel
theorem dX12_lift_66 : decode cX12_lift 66 = .ok (.iconst 0, 1) := by decide +kernel
theorem dX12_lift_67 : decode cX12_lift 67 = .ok (.invokevirtual 226, 3) := by decide +kernel
theorem dX12_lift_70 : decode cX12_lift 70 = .ok (.ifCond .ne 29, 3) := by decide +kernel
theorem dX12_lift_73 : decode cX12_lift 73 = .ok (.aload_n 0, 1) := by decide +kernel
theorem dX12_lift_74 : decode cX12_lift 74 = .ok (.bipush 17, 2) := by decide +kernel
theorem dX12_lift_76 : decode cX12_lift 76 = .ok (.invokevirtual 101, 3) := by decide +kernel
theorem dX12_lift_79 : decode cX12_lift 79 = .ok (.bipush 12, 2) := by decide +kernel
theorem dX12_lift_81 : decode cX12_lift 81 = .ok (.if_icmp .ne 6, 3) := by decide +kernel
theorem dX12_lift_84 : decode cX12_lift 84 = .ok (.bipush (-2), 2) := by decide +kernel
theorem dX12_lift_86 : decode cX12_lift 86 = .ok (.ireturn, 1) := by decide +kernel
theorem dX12_lift_87 : decode cX12_lift 87 = .ok (.aload_n 0, 1) := by decide +kernel
theorem dX12_lift_88 : decode cX12_lift 88 = .ok (.getfield 13, 3) := by decide +kernel
theorem dX12_lift_91 : decode cX12_lift 91 = .ok (.sipush 4317, 3) := by decide +kernel
theorem dX12_lift_94 : decode cX12_lift 94 = .ok (.dup2, 1) := by decide +kernel
theorem dX12_lift_95 : decode cX12_lift 95 = .ok (.iaload, 1) := by decide +kernel
theorem dX12_lift_96 : decode cX12_lift 96 = .ok (.iconst 1, 1) := by decide +kernel
theorem dX12_lift_97 : decode cX12_lift 97 = .ok (.iadd, 1) := by decide +kernel
theorem dX12_lift_98 : decode cX12_lift 98 = .ok (.iastore, 1) := by decide +kernel
theorem dX12_lift_99 : decode cX12_lift 99 = .ok (.sipush 1500, 3) := by decide +kernel
theorem dX12_lift_102 : decode cX12_lift 102 = .ok (.bipush 10, 2) := by decide +kernel
theorem dX12_lift_104 : decode cX12_lift 104 = .ok (.iload_n 1, 1) := by decide +kernel
theorem dX12_lift_105 : decode cX12_lift 105 = .ok (.imul, 1) := by decide +kernel
theorem dX12_lift_106 : decode cX12_lift 106 = .ok (.iadd, 1) := by decide +kernel
theorem dX12_lift_107 : decode cX12_lift 107 = .ok (.istore 5, 2) := by decide +kernel
theorem dX12_lift_109 : decode cX12_lift 109 = .ok (.aload_n 0, 1) := by decide +kernel
theorem dX12_lift_110 : decode cX12_lift 110 = .ok (.getfield 13, 3) := by decide +kernel
theorem dX12_lift_113 : decode cX12_lift 113 = .ok (.iload 5, 2) := by decide +kernel
theorem dX12_lift_115 : decode cX12_lift 115 = .ok (.iconst 0, 1) := by decide +kernel
theorem dX12_lift_116 : decode cX12_lift 116 = .ok (.iadd, 1) := by decide +kernel
theorem dX12_lift_117 : decode cX12_lift 117 = .ok (.iconst 1, 1) := by decide +kernel
theorem dX12_lift_118 : decode cX12_lift 118 = .ok (.iastore, 1) := by decide +kernel
theorem dX12_lift_119 : decode cX12_lift 119 = .ok (.aload_n 0, 1) := by decide +kernel
theorem dX12_lift_120 : decode cX12_lift 120 = .ok (.getfield 13, 3) := by decide +kernel
theorem dX12_lift_123 : decode cX12_lift 123 = .ok (.iload 5, 2) := by decide +kernel
theorem dX12_lift_125 : decode cX12_lift 125 = .ok (.iconst 1, 1) := by decide +kernel
theorem dX12_lift_126 : decode cX12_lift 126 = .ok (.iadd, 1) := by decide +kernel
theorem dX12_lift_127 : decode cX12_lift 127 = .ok (.iload_n 2, 1) := by decide +kernel
theorem dX12_lift_128 : decode cX12_lift 128 = .ok (.iastore, 1) := by decide +kernel
theorem dX12_lift_129 : decode cX12_lift 129 = .ok (.aload_n 0, 1) := by decide +kernel
theorem dX12_lift_130 : decode cX12_lift 130 = .ok (.getfield 13, 3) := by decide +kernel
theorem dX12_lift_133 : decode cX12_lift 133 = .ok (.iload 5, 2) := by decide +kernel
theorem dX12_lift_135 : decode cX12_lift 135 = .ok (.iconst 2, 1) := by decide +kernel
theorem dX12_lift_136 : decode cX12_lift 136 = .ok (.iadd, 1) := by decide +kernel
theorem dX12_lift_137 : decode cX12_lift 137 = .ok (.iload_n 3, 1) := by decide +kernel
theorem dX12_lift_138 : decode cX12_lift 138 = .ok (.iastore, 1) := by decide +kernel
theorem dX12_lift_139 : decode cX12_lift 139 = .ok (.aload_n 0, 1) := by decide +kernel
theorem dX12_lift_140 : decode cX12_lift 140 = .ok (.getfield 13, 3) := by decide +kernel
theorem dX12_lift_143 : decode cX12_lift 143 = .ok (.iload 5, 2) := by decide +kernel
theorem dX12_lift_145 : decode cX12_lift 145 = .ok (.iconst 3, 1) := by decide +kernel
theorem dX12_lift_146 : decode cX12_lift 146 = .ok (.iadd, 1) := by decide +kernel
theorem dX12_lift_147 : decode cX12_lift 147 = .ok (.iload 4, 2) := by decide +kernel
theorem dX12_lift_149 : decode cX12_lift 149 = .ok (.iastore, 1) := by decide +kernel
theorem dX12_lift_150 : decode cX12_lift 150 = .ok (.aload_n 0, 1) := by decide +kernel
theorem dX12_lift_151 : decode cX12_lift 151 = .ok (.getfield 13, 3) := by decide +kernel
theorem dX12_lift_154 : decode cX12_lift 154 = .ok (.iload 5, 2) := by decide +kernel
theorem dX12_lift_156 : decode cX12_lift 156 = .ok (.iconst 4, 1) := by decide +kernel
theorem dX12_lift_157 : decode cX12_lift 157 = .ok (.iadd, 1) := by decide +kernel
theorem dX12_lift_158 : decode cX12_lift 158 = .ok (.iconst 0, 1) := by decide +kernel
theorem dX12_lift_159 : decode cX12_lift 159 = .ok (.iastore, 1) := by decide +kernel
theorem dX12_lift_160 : decode cX12_lift 160 = .ok (.iconst 0, 1) := by decide +kernel
theorem dX12_lift_161 : decode cX12_lift 161 = .ok (.ireturn, 1) := by decide +kernel
theorem dX12_lineOf_0 : decode cX12_lineOf 0 = .ok (.aload_n 0, 1) := by decide +kernel
theorem dX12_lineOf_1 : decode cX12_lineOf 1 = .ok (.iconst 0, 1) := by decide +kernel
theorem dX12_lineOf_2 : decode cX12_lineOf 2 = .ok (.putfield 1, 3) := by decide +kernel
theorem dX12_lineOf_5 : decode cX12_lineOf 5 = .ok (.aload_n 0, 1) := by decide +kernel
theorem dX12_lineOf_6 : decode cX12_lineOf 6 = .ok (.iload_n 1, 1) := by decide +kernel
theorem dX12_lineOf_7 : decode cX12_lineOf 7 = .ok (.invokevirtual 188, 3) := by decide +kernel
theorem dX12_lineOf_10 : decode cX12_lineOf 10 = .ok (.ifCond .eq 15, 3) := by decide +kernel
theorem dX12_lineOf_13 : decode cX12_lineOf 13 = .ok (.iload_n 3, 1) := by decide +kernel
theorem dX12_lineOf_14 : decode cX12_lineOf 14 = .ok (.i2l, 1) := by decide +kernel
theorem dX12_lineOf_15 : decode cX12_lineOf 15 = .ok (.lconst 0, 1) := by decide +kernel
theorem dX12_lineOf_16 : decode cX12_lineOf 16 = .ok (.ldc2_w 191, 3) := by decide +kernel
theorem dX12_lineOf_19 : decode cX12_lineOf 19 = .ok (.invokestatic 93, 3) := by decide +kernel
theorem dX12_lineOf_22 : decode cX12_lineOf 22 = .ok (.ifCond .ne 10, 3) := by decide +kernel
theorem dX12_lineOf_25 : decode cX12_lineOf 25 = .ok (.aload_n 0, 1) := by decide +kernel
theorem dX12_lineOf_26 : decode cX12_lineOf 26 = .ok (.iconst 1, 1) := by decide +kernel
theorem dX12_lineOf_27 : decode cX12_lineOf 27 = .ok (.putfield 1, 3) := by decide +kernel
theorem dX12_lineOf_30 : decode cX12_lineOf 30 = .ok (.iconst 0, 1) := by decide +kernel
theorem dX12_lineOf_31 : decode cX12_lineOf 31 = .ok (.ireturn, 1) := by decide +kernel
theorem dX12_lineOf_32 : decode cX12_lineOf 32 = .ok (.iload_n 2, 1) := by decide +kernel
theorem dX12_lineOf_33 : decode cX12_lineOf 33 = .ok (.i2l, 1) := by decide +kernel
theorem dX12_lineOf_34 : decode cX12_lineOf 34 = .ok (.lconst 0, 1) := by decide +kernel
theorem dX12_lineOf_35 : decode cX12_lineOf 35 = .ok (.aload_n 0, 1) := by decide +kernel
theorem dX12_lineOf_36 : decode cX12_lineOf 36 = .ok (.iload_n 1, 1) := by decide +kernel
theorem dX12_lineOf_37 : decode cX12_lineOf 37 = .ok (.iconst 0, 1) := by decide +kernel
theorem dX12_lineOf_38 : decode cX12_lineOf 38 = .ok (.invokevirtual 193, 3) := by decide +kernel
theorem dX12_lineOf_41 : decode cX12_lineOf 41 = .ok (.iconst 1, 1) := by decide +kernel
theorem dX12_lineOf_42 : decode cX12_lineOf 42 = .ok (.isub, 1) := by decide +kernel
theorem dX12_lineOf_43 : decode cX12_lineOf 43 = .ok (.i2l, 1) := by decide +kernel
theorem dX12_lineOf_44 : decode cX12_lineOf 44 = .ok (.invokestatic 93, 3) := by decide +kernel
theorem dX12_lineOf_47 : decode cX12_lineOf 47 = .ok (.ifCond .ne 10, 3) := by decide +kernel
theorem dX12_lineOf_50 : decode cX12_lineOf 50 = .ok (.aload_n 0, 1) := by decide +kernel
theorem dX12_lineOf_51 : decode cX12_lineOf 51 = .ok (.iconst 2, 1) := by decide +kernel
theorem dX12_lineOf_52 : decode cX12_lineOf 52 = .ok (.putfield 1, 3) := by decide +kernel
theorem dX12_lineOf_55 : decode cX12_lineOf 55 = .ok (.iconst 0, 1) := by decide +kernel
theorem dX12_lineOf_56 : decode cX12_lineOf 56 = .ok (.ireturn, 1) := by decide +kernel
theorem dX12_lineOf_57 : decode cX12_lineOf 57 = .ok (.aload_n 0, 1) := by decide +kernel
theorem dX12_lineOf_58 : decode cX12_lineOf 58 = .ok (.iload_n 1, 1) := by decide +kernel
theorem dX12_lineOf_59 : decode cX12_lineOf 59 = .ok (.iload_n 2, 1) := by decide +kernel
theorem dX12_lineOf_60 : decode cX12_lineOf 60 = .ok (.invokevirtual 185, 3) := by decide +kernel
theorem dX12_lineOf_63 : decode cX12_lineOf 63 = .ok (.istore 4, 2) := by decide +kernel
theorem dX12_lineOf_65 : decode cX12_lineOf 65 = .ok (.iload_n 3, 1) := by decide +kernel
theorem dX12_lineOf_66 : decode cX12_lineOf 66 = .ok (.iconst 2, 1) := by decide +kernel
theorem dX12_lineOf_67 : decode cX12_lineOf 67 = .ok (.if_icmp .ge 15, 3) := by decide +kernel
theorem dX12_lineOf_70 : decode cX12_lineOf 70 = .ok (.aload_n 0, 1) := by decide +kernel
theorem dX12_lineOf_71 : decode cX12_lineOf 71 = .ok (.getfield 13, 3) := by decide +kernel
theorem dX12_lineOf_74 : decode cX12_lineOf 74 = .ok (.iload 4, 2) := by decide +kernel
theorem dX12_lineOf_76 : decode cX12_lineOf 76 = .ok (.iload_n 3, 1) := by decide +kernel
theorem dX12_lineOf_77 : decode cX12_lineOf 77 = .ok (.iadd, 1) := by decide +kernel
theorem dX12_lineOf_78 : decode cX12_lineOf 78 = .ok (.iaload, 1) := by decide +kernel
theorem dX12_lineOf_79 : decode cX12_lineOf 79 = .ok (.goto 28, 3) := by decide +kernel
theorem dX12_lineOf_82 : decode cX12_lineOf 82 = .ok (.iload_n 3, 1) := by decide +kernel
theorem dX12_lineOf_83 : decode cX12_lineOf 83 = .ok (.iconst 2, 1) := by decide +kernel
theorem dX12_lineOf_84 : decode cX12_lineOf 84 = .ok (.if_icmp .ne 12, 3) := by decide +kernel
theorem dX12_lineOf_87 : decode cX12_lineOf 87 = .ok (.aload_n 0, 1) := by decide +kernel
theorem dX12_lineOf_88 : decode cX12_lineOf 88 = .ok (.iload 4, 2) := by decide +kernel
theorem dX12_lineOf_90 : decode cX12_lineOf 90 = .ok (.invokevirtual 196, 3) := by decide +kernel
theorem dX12_lineOf_93 : decode cX12_lineOf 93 = .ok (.goto 14, 3) := by decide +kernel
theorem dX12_lineOf_96 : decode cX12_lineOf 96 = .ok (.aload_n 0, 1) := by decide +kernel
theorem dX12_lineOf_97 : decode cX12_lineOf 97 = .ok (.getfield 13, 3) := by decide +kernel
theorem dX12_lineOf_100 : decode cX12_lineOf 100 = .ok (.iload 4, 2) := by decide +kernel
theorem dX12_lineOf_102 : decode cX12_lineOf 102 = .ok (.iload_n 3, 1) := by decide +kernel
theorem dX12_lineOf_103 : decode cX12_lineOf 103 = .ok (.iadd, 1) := by decide +kernel
theorem dX12_lineOf_104 : decode cX12_lineOf 104 = .ok (.iconst 1, 1) := by decide +kernel
theorem dX12_lineOf_105 : decode cX12_lineOf 105 = .ok (.isub, 1) := by decide +kernel
theorem dX12_lineOf_106 : decode cX12_lineOf 106 = .ok (.iaload, 1) := by decide +kernel
theorem dX12_lineOf_107 : decode cX12_lineOf 107 = .ok (.ireturn, 1) := by decide +kernel
theorem dX12_isBeside_0 : decode cX12_isBeside 0 = .ok (.iload_n 1, 1) := by decide +kernel
theorem dX12_isBeside_1 : decode cX12_isBeside 1 = .ok (.invokestatic 105, 3) := by decide +kernel
theorem dX12_isBeside_4 : decode cX12_isBeside 4 = .ok (.ifCond .eq 16, 3) := by decide +kernel
theorem dX12_isBeside_7 : decode cX12_isBeside 7 = .ok (.iload_n 0, 1) := by decide +kernel
theorem dX12_isBeside_8 : decode cX12_isBeside 8 = .ok (.iload_n 1, 1) := by decide +kernel
theorem dX12_isBeside_9 : decode cX12_isBeside 9 = .ok (.invokestatic 150, 3) := by decide +kernel
theorem dX12_isBeside_12 : decode cX12_isBeside 12 = .ok (.iconst 1, 1) := by decide +kernel
theorem dX12_isBeside_13 : decode cX12_isBeside 13 = .ok (.if_icmp .ne 7, 3) := by decide +kernel
theorem dX12_isBeside_16 : decode cX12_isBeside 16 = .ok (.iconst 1, 1) := by decide +kernel
theorem dX12_isBeside_17 : decode cX12_isBeside 17 = .ok (.goto 4, 3) := by decide +kernel
theorem dX12_isBeside_20 : decode cX12_isBeside 20 = .ok (.iconst 0, 1) := by decide +kernel
theorem dX12_isBeside_21 : decode cX12_isBeside 21 = .ok (.ireturn, 1) := by decide +kernel
theorem dX12_map_0 : decode cX12_map 0 = .ok (.aload_n 0, 1) := by decide +kernel
theorem dX12_map_1 : decode cX12_map 1 = .ok (.iconst 0, 1) := by decide +kernel
theorem dX12_map_2 : decode cX12_map 2 = .ok (.putfield 1, 3) := by decide +kernel
theorem dX12_map_5 : decode cX12_map 5 = .ok (.iload_n 1, 1) := by decide +kernel
theorem dX12_map_6 : decode cX12_map 6 = .ok (.invokestatic 105, 3) := by decide +kernel
theorem dX12_map_9 : decode cX12_map 9 = .ok (.ifCond .eq 28, 3) := by decide +kernel
theorem dX12_map_12 : decode cX12_map 12 = .ok (.iload_n 2, 1) := by decide +kernel
theorem dX12_map_13 : decode cX12_map 13 = .ok (.iconst (-1), 1) := by decide +kernel
theorem dX12_map_14 : decode cX12_map 14 = .ok (.if_icmp .eq 11, 3) := by decide +kernel
theorem dX12_map_17 : decode cX12_map 17 = .ok (.iload_n 1, 1) := by decide +kernel
theorem dX12_map_18 : decode cX12_map 18 = .ok (.iload_n 2, 1) := by decide +kernel
theorem dX12_map_19 : decode cX12_map 19 = .ok (.invokestatic 153, 3) := by decide +kernel
theorem dX12_map_22 : decode cX12_map 22 = .ok (.ifCond .eq 15, 3) := by decide +kernel
theorem dX12_map_25 : decode cX12_map 25 = .ok (.iload_n 3, 1) := by decide +kernel
theorem dX12_map_26 : decode cX12_map 26 = .ok (.i2l, 1) := by decide +kernel
theorem dX12_map_27 : decode cX12_map 27 = .ok (.lconst 0, 1) := by decide +kernel
theorem dX12_map_28 : decode cX12_map 28 = .ok (.ldc2_w 111, 3) := by decide +kernel
theorem dX12_map_31 : decode cX12_map 31 = .ok (.invokestatic 93, 3) := by decide +kernel
theorem dX12_map_34 : decode cX12_map 34 = .ok (.ifCond .ne 5, 3) := by decide +kernel
theorem dX12_map_37 : decode cX12_map 37 = .ok (.iconst (-1), 1) := by decide +kernel
theorem dX12_map_38 : decode cX12_map 38 = .ok (.ireturn, 1) := by decide +kernel
theorem dX12_map_39 : decode cX12_map 39 = .ok (.aload_n 0, 1) := by decide +kernel
theorem dX12_map_40 : decode cX12_map 40 = .ok (.bipush 16, 2) := by decide +kernel
theorem dX12_map_42 : decode cX12_map 42 = .ok (.invokevirtual 101, 3) := by decide +kernel
theorem dX12_map_45 : decode cX12_map 45 = .ok (.sipush 200, 3) := by decide +kernel
theorem dX12_map_48 : decode cX12_map 48 = .ok (.if_icmp .ne 8, 3) := by decide +kernel
theorem dX12_map_51 : decode cX12_map 51 = .ok (.bipush (-2), 2) := by decide +kernel
theorem dX12_map_53 : decode cX12_map 53 = .ok (.goto 10, 3) := by decide +kernel
theorem dX12_map_56 : decode cX12_map 56 = .ok (.aload_n 0, 1) := by decide +kernel
theorem dX12_map_57 : decode cX12_map 57 = .ok (.iload_n 1, 1) := by decide +kernel
theorem dX12_map_58 : decode cX12_map 58 = .ok (.iload_n 2, 1) := by decide +kernel
theorem dX12_map_59 : decode cX12_map 59 = .ok (.iload_n 3, 1) := by decide +kernel
theorem dX12_map_60 : decode cX12_map 60 = .ok (.invokevirtual 163, 3) := by decide +kernel
theorem dX12_map_63 : decode cX12_map 63 = .ok (.ireturn, 1) := by decide +kernel
theorem dX12_mapOf_0 : decode cX12_mapOf 0 = .ok (.aload_n 0, 1) := by decide +kernel
theorem dX12_mapOf_1 : decode cX12_mapOf 1 = .ok (.iconst 0, 1) := by decide +kernel
theorem dX12_mapOf_2 : decode cX12_mapOf 2 = .ok (.putfield 1, 3) := by decide +kernel
theorem dX12_mapOf_5 : decode cX12_mapOf 5 = .ok (.iload_n 1, 1) := by decide +kernel
theorem dX12_mapOf_6 : decode cX12_mapOf 6 = .ok (.invokestatic 105, 3) := by decide +kernel
theorem dX12_mapOf_9 : decode cX12_mapOf 9 = .ok (.ifCond .eq 25, 3) := by decide +kernel
theorem dX12_mapOf_12 : decode cX12_mapOf 12 = .ok (.iload_n 2, 1) := by decide +kernel
theorem dX12_mapOf_13 : decode cX12_mapOf 13 = .ok (.i2l, 1) := by decide +kernel
theorem dX12_mapOf_14 : decode cX12_mapOf 14 = .ok (.lconst 0, 1) := by decide +kernel
theorem dX12_mapOf_15 : decode cX12_mapOf 15 = .ok (.lconst 1, 1) := by decide +kernel
theorem dX12_mapOf_16 : decode cX12_mapOf 16 = .ok (.invokestatic 93, 3) := by decide +kernel
theorem dX12_mapOf_19 : decode cX12_mapOf 19 = .ok (.ifCond .eq 15, 3) := by decide +kernel
theorem dX12_mapOf_22 : decode cX12_mapOf 22 = .ok (.iload_n 3, 1) := by decide +kernel
theorem dX12_mapOf_23 : decode cX12_mapOf 23 = .ok (.i2l, 1) := by decide +kernel
theorem dX12_mapOf_24 : decode cX12_mapOf 24 = .ok (.lconst 0, 1) := by decide +kernel
theorem dX12_mapOf_25 : decode cX12_mapOf 25 = .ok (.ldc2_w 170, 3) := by decide +kernel
theorem dX12_mapOf_28 : decode cX12_mapOf 28 = .ok (.invokestatic 93, 3) := by decide +kernel
theorem dX12_mapOf_31 : decode cX12_mapOf 31 = .ok (.ifCond .ne 5, 3) := by decide +kernel
theorem dX12_mapOf_34 : decode cX12_mapOf 34 = .ok (.iconst (-1), 1) := by decide +kernel
theorem dX12_mapOf_35 : decode cX12_mapOf 35 = .ok (.ireturn, 1) := by decide +kernel
theorem dX12_mapOf_36 : decode cX12_mapOf 36 = .ok (.aload_n 0, 1) := by decide +kernel
theorem dX12_mapOf_37 : decode cX12_mapOf 37 = .ok (.iload_n 1, 1) := by decide +kernel
theorem dX12_mapOf_38 : decode cX12_mapOf 38 = .ok (.iload_n 3, 1) := by decide +kernel
theorem dX12_mapOf_39 : decode cX12_mapOf 39 = .ok (.invokevirtual 167, 3) := by decide +kernel
theorem dX12_mapOf_42 : decode cX12_mapOf 42 = .ok (.istore 4, 2) := by decide +kernel
theorem dX12_mapOf_44 : decode cX12_mapOf 44 = .ok (.iload 4, 2) := by decide +kernel
theorem dX12_mapOf_46 : decode cX12_mapOf 46 = .ok (.iconst (-1), 1) := by decide +kernel
theorem dX12_mapOf_47 : decode cX12_mapOf 47 = .ok (.if_icmp .ne 8, 3) := by decide +kernel
theorem dX12_mapOf_50 : decode cX12_mapOf 50 = .ok (.bipush (-9), 2) := by decide +kernel
theorem dX12_mapOf_52 : decode cX12_mapOf 52 = .ok (.goto 14, 3) := by decide +kernel
theorem dX12_mapOf_55 : decode cX12_mapOf 55 = .ok (.aload_n 0, 1) := by decide +kernel
theorem dX12_mapOf_56 : decode cX12_mapOf 56 = .ok (.getfield 13, 3) := by decide +kernel
theorem dX12_mapOf_59 : decode cX12_mapOf 59 = .ok (.iload 4, 2) := by decide +kernel
theorem dX12_mapOf_61 : decode cX12_mapOf 61 = .ok (.iconst 1, 1) := by decide +kernel
theorem dX12_mapOf_62 : decode cX12_mapOf 62 = .ok (.iadd, 1) := by decide +kernel
theorem dX12_mapOf_63 : decode cX12_mapOf 63 = .ok (.iload_n 2, 1) := by decide +kernel
theorem dX12_mapOf_64 : decode cX12_mapOf 64 = .ok (.iadd, 1) := by decide +kernel
theorem dX12_mapOf_65 : decode cX12_mapOf 65 = .ok (.iaload, 1) := by decide +kernel
theorem dX12_mapOf_66 : decode cX12_mapOf 66 = .ok (.ireturn, 1) := by decide +kernel
theorem dX12_of_0 : decode cX12_of 0 = .ok (.aload_n 0, 1) := by decide +kernel
theorem dX12_of_1 : decode cX12_of 1 = .ok (.iconst 0, 1) := by decide +kernel
theorem dX12_of_2 : decode cX12_of 2 = .ok (.putfield 1, 3) := by decide +kernel
theorem dX12_of_5 : decode cX12_of 5 = .ok (.iload_n 1, 1) := by decide +kernel
theorem dX12_of_6 : decode cX12_of 6 = .ok (.invokestatic 105, 3) := by decide +kernel
theorem dX12_of_9 : decode cX12_of 9 = .ok (.ifCond .ne 10, 3) := by decide +kernel
theorem dX12_of_12 : decode cX12_of 12 = .ok (.aload_n 0, 1) := by decide +kernel
theorem dX12_of_13 : decode cX12_of 13 = .ok (.iconst 1, 1) := by decide +kernel
theorem dX12_of_14 : decode cX12_of 14 = .ok (.putfield 1, 3) := by decide +kernel
theorem dX12_of_17 : decode cX12_of 17 = .ok (.iconst 0, 1) := by decide +kernel
theorem dX12_of_18 : decode cX12_of 18 = .ok (.ireturn, 1) := by decide +kernel
theorem dX12_of_19 : decode cX12_of 19 = .ok (.iload_n 2, 1) := by decide +kernel
theorem dX12_of_20 : decode cX12_of 20 = .ok (.i2l, 1) := by decide +kernel
theorem dX12_of_21 : decode cX12_of 21 = .ok (.lconst 0, 1) := by decide +kernel
theorem dX12_of_22 : decode cX12_of 22 = .ok (.ldc2_w 120, 3) := by decide +kernel
theorem dX12_of_25 : decode cX12_of 25 = .ok (.invokestatic 93, 3) := by decide +kernel
theorem dX12_of_28 : decode cX12_of 28 = .ok (.ifCond .ne 10, 3) := by decide +kernel
theorem dX12_of_31 : decode cX12_of 31 = .ok (.aload_n 0, 1) := by decide +kernel
theorem dX12_of_32 : decode cX12_of 32 = .ok (.iconst 2, 1) := by decide +kernel
theorem dX12_of_33 : decode cX12_of 33 = .ok (.putfield 1, 3) := by decide +kernel
theorem dX12_of_36 : decode cX12_of 36 = .ok (.iconst 0, 1) := by decide +kernel
theorem dX12_of_37 : decode cX12_of 37 = .ok (.ireturn, 1) := by decide +kernel
theorem dX12_of_38 : decode cX12_of 38 = .ok (.iload_n 2, 1) := by decide +kernel
theorem dX12_of_39 : decode cX12_of 39 = .ok (.bipush 13, 2) := by decide +kernel
theorem dX12_of_41 : decode cX12_of 41 = .ok (.if_icmp .ge 10, 3) := by decide +kernel
theorem dX12_of_44 : decode cX12_of 44 = .ok (.aload_n 0, 1) := by decide +kernel
theorem dX12_of_45 : decode cX12_of 45 = .ok (.iload_n 1, 1) := by decide +kernel
theorem dX12_of_46 : decode cX12_of 46 = .ok (.iload_n 2, 1) := by decide +kernel
theorem dX12_of_47 : decode cX12_of 47 = .ok (.invokevirtual 117, 3) := by decide +kernel
theorem dX12_of_50 : decode cX12_of 50 = .ok (.ireturn, 1) := by decide +kernel
theorem dX12_of_51 : decode cX12_of 51 = .ok (.iload_n 2, 1) := by decide +kernel
theorem dX12_of_52 : decode cX12_of 52 = .ok (.bipush 13, 2) := by decide +kernel
theorem dX12_of_54 : decode cX12_of 54 = .ok (.if_icmp .ne 11, 3) := by decide +kernel
theorem dX12_of_57 : decode cX12_of 57 = .ok (.aload_n 0, 1) := by decide +kernel
theorem dX12_of_58 : decode cX12_of 58 = .ok (.iload_n 1, 1) := by decide +kernel
theorem dX12_of_59 : decode cX12_of 59 = .ok (.invokevirtual 122, 3) := by decide +kernel
theorem dX12_of_62 : decode cX12_of 62 = .ok (.goto 48, 3) := by decide +kernel
theorem dX12_of_65 : decode cX12_of 65 = .ok (.iload_n 2, 1) := by decide +kernel
theorem dX12_of_66 : decode cX12_of 66 = .ok (.bipush 14, 2) := by decide +kernel
theorem dX12_of_68 : decode cX12_of 68 = .ok (.if_icmp .ne 13, 3) := by decide +kernel
theorem dX12_of_71 : decode cX12_of 71 = .ok (.aload_n 0, 1) := by decide +kernel
theorem dX12_of_72 : decode cX12_of 72 = .ok (.iload_n 1, 1) := by decide +kernel
theorem dX12_of_73 : decode cX12_of 73 = .ok (.bipush 13, 2) := by decide +kernel
theorem dX12_of_75 : decode cX12_of 75 = .ok (.invokevirtual 117, 3) := by decide +kernel
theorem dX12_of_78 : decode cX12_of 78 = .ok (.goto 32, 3) := by decide +kernel
theorem dX12_of_81 : decode cX12_of 81 = .ok (.iload_n 2, 1) := by decide +kernel
theorem dX12_of_82 : decode cX12_of 82 = .ok (.bipush 15, 2) := by decide +kernel
theorem dX12_of_84 : decode cX12_of 84 = .ok (.if_icmp .ne 19, 3) := by decide +kernel
theorem dX12_of_87 : decode cX12_of 87 = .ok (.aload_n 0, 1) := by decide +kernel
theorem dX12_of_88 : decode cX12_of 88 = .ok (.iload_n 1, 1) := by decide +kernel
theorem dX12_of_89 : decode cX12_of 89 = .ok (.invokevirtual 125, 3) := by decide +kernel
theorem dX12_of_92 : decode cX12_of 92 = .ok (.ifCond .eq 7, 3) := by decide +kernel
theorem dX12_of_95 : decode cX12_of 95 = .ok (.iconst 1, 1) := by decide +kernel
theorem dX12_of_96 : decode cX12_of 96 = .ok (.goto 14, 3) := by decide +kernel
theorem dX12_of_99 : decode cX12_of 99 = .ok (.iconst 0, 1) := by decide +kernel
theorem dX12_of_100 : decode cX12_of 100 = .ok (.goto 10, 3) := by decide +kernel
theorem dX12_of_103 : decode cX12_of 103 = .ok (.aload_n 0, 1) := by decide +kernel
theorem dX12_of_104 : decode cX12_of 104 = .ok (.iload_n 1, 1) := by decide +kernel
theorem dX12_of_105 : decode cX12_of 105 = .ok (.bipush 14, 2) := by decide +kernel
theorem dX12_of_107 : decode cX12_of 107 = .ok (.invokevirtual 117, 3) := by decide +kernel
theorem dX12_of_110 : decode cX12_of 110 = .ok (.ireturn, 1) := by decide +kernel
theorem dX12_old_0 : decode cX12_old 0 = .ok (.aload_n 0, 1) := by decide +kernel
theorem dX12_old_1 : decode cX12_old 1 = .ok (.iconst 0, 1) := by decide +kernel
theorem dX12_old_2 : decode cX12_old 2 = .ok (.putfield 1, 3) := by decide +kernel
theorem dX12_old_5 : decode cX12_old 5 = .ok (.iload_n 1, 1) := by decide +kernel
theorem dX12_old_6 : decode cX12_old 6 = .ok (.invokestatic 105, 3) := by decide +kernel
theorem dX12_old_9 : decode cX12_old 9 = .ok (.ifCond .eq 41, 3) := by decide +kernel
theorem dX12_old_12 : decode cX12_old 12 = .ok (.iload_n 2, 1) := by decide +kernel
theorem dX12_old_13 : decode cX12_old 13 = .ok (.iconst (-1), 1) := by decide +kernel
theorem dX12_old_14 : decode cX12_old 14 = .ok (.if_icmp .eq 11, 3) := by decide +kernel
theorem dX12_old_17 : decode cX12_old 17 = .ok (.iload_n 1, 1) := by decide +kernel
theorem dX12_old_18 : decode cX12_old 18 = .ok (.iload_n 2, 1) := by decide +kernel
theorem dX12_old_19 : decode cX12_old 19 = .ok (.invokestatic 153, 3) := by decide +kernel
theorem dX12_old_22 : decode cX12_old 22 = .ok (.ifCond .eq 28, 3) := by decide +kernel
theorem dX12_old_25 : decode cX12_old 25 = .ok (.iload_n 3, 1) := by decide +kernel
theorem dX12_old_26 : decode cX12_old 26 = .ok (.i2l, 1) := by decide +kernel
theorem dX12_old_27 : decode cX12_old 27 = .ok (.lconst 0, 1) := by decide +kernel
theorem dX12_old_28 : decode cX12_old 28 = .ok (.ldc2_w 111, 3) := by decide +kernel
theorem dX12_old_31 : decode cX12_old 31 = .ok (.invokestatic 93, 3) := by decide +kernel
theorem dX12_old_34 : decode cX12_old 34 = .ok (.ifCond .eq 16, 3) := by decide +kernel
theorem dX12_old_37 : decode cX12_old 37 = .ok (.iload 4, 2) := by decide +kernel
theorem dX12_old_39 : decode cX12_old 39 = .ok (.i2l, 1) := by decide +kernel
theorem dX12_old_40 : decode cX12_old 40 = .ok (.lconst 0, 1) := by decide +kernel
theorem dX12_old_41 : decode cX12_old 41 = .ok (.ldc2_w 157, 3) := by decide +kernel
theorem dX12_old_44 : decode cX12_old 44 = .ok (.invokestatic 93, 3) := by decide +kernel
theorem dX12_old_47 : decode cX12_old 47 = .ok (.ifCond .ne 5, 3) := by decide +kernel
theorem dX12_old_50 : decode cX12_old 50 = .ok (.iconst (-1), 1) := by decide +kernel
theorem dX12_old_51 : decode cX12_old 51 = .ok (.ireturn, 1) := by decide +kernel
theorem dX12_old_52 : decode cX12_old 52 = .ok (.aload_n 0, 1) := by decide +kernel
theorem dX12_old_53 : decode cX12_old 53 = .ok (.getfield 13, 3) := by decide +kernel
theorem dX12_old_56 : decode cX12_old 56 = .ok (.bipush 15, 2) := by decide +kernel
theorem dX12_old_58 : decode cX12_old 58 = .ok (.iload_n 1, 1) := by decide +kernel
theorem dX12_old_59 : decode cX12_old 59 = .ok (.imul, 1) := by decide +kernel
theorem dX12_old_60 : decode cX12_old 60 = .ok (.bipush 6, 2) := by decide +kernel
theorem dX12_old_62 : decode cX12_old 62 = .ok (.iadd, 1) := by decide +kernel
theorem dX12_old_63 : decode cX12_old 63 = .ok (.iload_n 2, 1) := by decide +kernel
theorem dX12_old_64 : decode cX12_old 64 = .ok (.iastore, 1) := by decide +kernel
theorem dX12_old_65 : decode cX12_old 65 = .ok (.aload_n 0, 1) := by decide +kernel
theorem dX12_old_66 : decode cX12_old 66 = .ok (.getfield 13, 3) := by decide +kernel
theorem dX12_old_69 : decode cX12_old 69 = .ok (.bipush 15, 2) := by decide +kernel
theorem dX12_old_71 : decode cX12_old 71 = .ok (.iload_n 1, 1) := by decide +kernel
theorem dX12_old_72 : decode cX12_old 72 = .ok (.imul, 1) := by decide +kernel
theorem dX12_old_73 : decode cX12_old 73 = .ok (.bipush 7, 2) := by decide +kernel
theorem dX12_old_75 : decode cX12_old 75 = .ok (.iadd, 1) := by decide +kernel
theorem dX12_old_76 : decode cX12_old 76 = .ok (.iload_n 3, 1) := by decide +kernel
theorem dX12_old_77 : decode cX12_old 77 = .ok (.iastore, 1) := by decide +kernel
theorem dX12_old_78 : decode cX12_old 78 = .ok (.aload_n 0, 1) := by decide +kernel
theorem dX12_old_79 : decode cX12_old 79 = .ok (.getfield 13, 3) := by decide +kernel
theorem dX12_old_82 : decode cX12_old 82 = .ok (.bipush 15, 2) := by decide +kernel
theorem dX12_old_84 : decode cX12_old 84 = .ok (.iload_n 1, 1) := by decide +kernel
theorem dX12_old_85 : decode cX12_old 85 = .ok (.imul, 1) := by decide +kernel
theorem dX12_old_86 : decode cX12_old 86 = .ok (.bipush 8, 2) := by decide +kernel
theorem dX12_old_88 : decode cX12_old 88 = .ok (.iadd, 1) := by decide +kernel
theorem dX12_old_89 : decode cX12_old 89 = .ok (.iload 4, 2) := by decide +kernel
theorem dX12_old_91 : decode cX12_old 91 = .ok (.iastore, 1) := by decide +kernel
theorem dX12_old_92 : decode cX12_old 92 = .ok (.iconst 0, 1) := by decide +kernel
theorem dX12_old_93 : decode cX12_old 93 = .ok (.ireturn, 1) := by decide +kernel
theorem dX12_out_0 : decode cX12_out 0 = .ok (.aload_n 0, 1) := by decide +kernel
theorem dX12_out_1 : decode cX12_out 1 = .ok (.iconst 0, 1) := by decide +kernel
theorem dX12_out_2 : decode cX12_out 2 = .ok (.putfield 1, 3) := by decide +kernel
theorem dX12_out_5 : decode cX12_out 5 = .ok (.iload_n 1, 1) := by decide +kernel
theorem dX12_out_6 : decode cX12_out 6 = .ok (.invokestatic 105, 3) := by decide +kernel
theorem dX12_out_9 : decode cX12_out 9 = .ok (.ifCond .eq 42, 3) := by decide +kernel
theorem dX12_out_12 : decode cX12_out 12 = .ok (.iload_n 2, 1) := by decide +kernel
theorem dX12_out_13 : decode cX12_out 13 = .ok (.i2l, 1) := by decide +kernel
theorem dX12_out_14 : decode cX12_out 14 = .ok (.lconst 1, 1) := by decide +kernel
theorem dX12_out_15 : decode cX12_out 15 = .ok (.ldc2_w 115, 3) := by decide +kernel
theorem dX12_out_18 : decode cX12_out 18 = .ok (.invokestatic 93, 3) := by decide +kernel
theorem dX12_out_21 : decode cX12_out 21 = .ok (.ifCond .eq 30, 3) := by decide +kernel
theorem dX12_out_24 : decode cX12_out 24 = .ok (.iload_n 3, 1) := by decide +kernel
theorem dX12_out_25 : decode cX12_out 25 = .ok (.i2l, 1) := by decide +kernel
theorem dX12_out_26 : decode cX12_out 26 = .ok (.lconst 1, 1) := by decide +kernel
theorem dX12_out_27 : decode cX12_out 27 = .ok (.ldc2_w 115, 3) := by decide +kernel
theorem dX12_out_30 : decode cX12_out 30 = .ok (.invokestatic 93, 3) := by decide +kernel
theorem dX12_out_33 : decode cX12_out 33 = .ok (.ifCond .eq 18, 3) := by decide +kernel
theorem dX12_out_36 : decode cX12_out 36 = .ok (.iload 4, 2) := by decide +kernel
theorem dX12_out_38 : decode cX12_out 38 = .ok (.i2l, 1) := by decide +kernel
theorem dX12_out_39 : decode cX12_out 39 = .ok (.ldc2_w 146, 3) := by decide +kernel
theorem dX12_out_42 : decode cX12_out 42 = .ok (.ldc2_w 148, 3) := by decide +kernel
theorem dX12_out_45 : decode cX12_out 45 = .ok (.invokestatic 93, 3) := by decide +kernel
theorem dX12_out_48 : decode cX12_out 48 = .ok (.ifCond .ne 5, 3) := by decide +kernel
theorem dX12_out_51 : decode cX12_out 51 = .ok (.iconst (-1), 1) := by decide +kernel
theorem dX12_out_52 : decode cX12_out 52 = .ok (.ireturn, 1) := by decide +kernel
theorem dX12_out_53 : decode cX12_out 53 = .ok (.aload_n 0, 1) := by decide +kernel
theorem dX12_out_54 : decode cX12_out 54 = .ok (.iload_n 1, 1) := by decide +kernel
theorem dX12_out_55 : decode cX12_out 55 = .ok (.iconst 0, 1) := by decide +kernel
theorem dX12_out_56 : decode cX12_out 56 = .ok (.invokevirtual 226, 3) := by decide +kernel
theorem dX12_out_59 : decode cX12_out 59 = .ok (.iconst 1, 1) := by decide +kernel
theorem dX12_out_60 : decode cX12_out 60 = .ok (.if_icmp .ne 6, 3) := by decide +kernel
theorem dX12_out_63 : decode cX12_out 63 = .ok (.bipush (-3), 2) := by decide +kernel
theorem dX12_out_65 : decode cX12_out 65 = .ok (.ireturn, 1) := by decide +kernel
theorem dX12_out_66 : decode cX12_out 66 = .ok (.aload_n 0, 1) := by decide +kernel
theorem dX12_out_67 : decode cX12_out 67 = .ok (.iload_n 1, 1) := by decide +kernel
theorem dX12_out_68 : decode cX12_out 68 = .ok (.iconst 0, 1) := by decide +kernel
theorem dX12_out_69 : decode cX12_out 69 = .ok (.invokevirtual 226, 3) := by decide +kernel
theorem dX12_out_72 : decode cX12_out 72 = .ok (.ifCond .ne 29, 3) := by decide +kernel
theorem dX12_out_75 : decode cX12_out 75 = .ok (.aload_n 0, 1) := by decide +kernel
theorem dX12_out_76 : decode cX12_out 76 = .ok (.bipush 17, 2) := by decide +kernel
theorem dX12_out_78 : decode cX12_out 78 = .ok (.invokevirtual 101, 3) := by decide +kernel
theorem dX12_out_81 : decode cX12_out 81 = .ok (.bipush 12, 2) := by decide +kernel
theorem dX12_out_83 : decode cX12_out 83 = .ok (.if_icmp .ne 6, 3) := by decide +kernel
theorem dX12_out_86 : decode cX12_out 86 = .ok (.bipush (-2), 2) := by decide +kernel
theorem dX12_out_88 : decode cX12_out 88 = .ok (.ireturn, 1) := by decide +kernel
theorem dX12_out_89 : decode cX12_out 89 = .ok (.aload_n 0, 1) := by decide +kernel
theorem dX12_out_90 : decode cX12_out 90 = .ok (.getfield 13, 3) := by decide +kernel
theorem dX12_out_93 : decode cX12_out 93 = .ok (.sipush 4317, 3) := by decide +kernel
theorem dX12_out_96 : decode cX12_out 96 = .ok (.dup2, 1) := by decide +kernel
theorem dX12_out_97 : decode cX12_out 97 = .ok (.iaload, 1) := by decide +kernel
theorem dX12_out_98 : decode cX12_out 98 = .ok (.iconst 1, 1) := by decide +kernel
theorem dX12_out_99 : decode cX12_out 99 = .ok (.iadd, 1) := by decide +kernel
theorem dX12_out_100 : decode cX12_out 100 = .ok (.iastore, 1) := by decide +kernel
theorem dX12_out_101 : decode cX12_out 101 = .ok (.sipush 1500, 3) := by decide +kernel
theorem dX12_out_104 : decode cX12_out 104 = .ok (.bipush 10, 2) := by decide +kernel
theorem dX12_out_106 : decode cX12_out 106 = .ok (.iload_n 1, 1) := by decide +kernel
theorem dX12_out_107 : decode cX12_out 107 = .ok (.imul, 1) := by decide +kernel
theorem dX12_out_108 : decode cX12_out 108 = .ok (.iadd, 1) := by decide +kernel
theorem dX12_out_109 : decode cX12_out 109 = .ok (.istore 5, 2) := by decide +kernel
theorem dX12_out_111 : decode cX12_out 111 = .ok (.aload_n 0, 1) := by decide +kernel
theorem dX12_out_112 : decode cX12_out 112 = .ok (.getfield 13, 3) := by decide +kernel
theorem dX12_out_115 : decode cX12_out 115 = .ok (.iload 5, 2) := by decide +kernel
theorem dX12_out_117 : decode cX12_out 117 = .ok (.iconst 0, 1) := by decide +kernel
theorem dX12_out_118 : decode cX12_out 118 = .ok (.iadd, 1) := by decide +kernel
theorem dX12_out_119 : decode cX12_out 119 = .ok (.iconst 2, 1) := by decide +kernel
theorem dX12_out_120 : decode cX12_out 120 = .ok (.iastore, 1) := by decide +kernel
theorem dX12_out_121 : decode cX12_out 121 = .ok (.aload_n 0, 1) := by decide +kernel
theorem dX12_out_122 : decode cX12_out 122 = .ok (.getfield 13, 3) := by decide +kernel
theorem dX12_out_125 : decode cX12_out 125 = .ok (.iload 5, 2) := by decide +kernel
theorem dX12_out_127 : decode cX12_out 127 = .ok (.iconst 5, 1) := by decide +kernel
theorem dX12_out_128 : decode cX12_out 128 = .ok (.iadd, 1) := by decide +kernel
theorem dX12_out_129 : decode cX12_out 129 = .ok (.iload_n 2, 1) := by decide +kernel
theorem dX12_out_130 : decode cX12_out 130 = .ok (.iastore, 1) := by decide +kernel
theorem dX12_out_131 : decode cX12_out 131 = .ok (.aload_n 0, 1) := by decide +kernel
theorem dX12_out_132 : decode cX12_out 132 = .ok (.getfield 13, 3) := by decide +kernel
theorem dX12_out_135 : decode cX12_out 135 = .ok (.iload 5, 2) := by decide +kernel
theorem dX12_out_137 : decode cX12_out 137 = .ok (.bipush 6, 2) := by decide +kernel
theorem dX12_out_139 : decode cX12_out 139 = .ok (.iadd, 1) := by decide +kernel
theorem dX12_out_140 : decode cX12_out 140 = .ok (.iload_n 3, 1) := by decide +kernel
theorem dX12_out_141 : decode cX12_out 141 = .ok (.iastore, 1) := by decide +kernel
theorem dX12_out_142 : decode cX12_out 142 = .ok (.aload_n 0, 1) := by decide +kernel
theorem dX12_out_143 : decode cX12_out 143 = .ok (.getfield 13, 3) := by decide +kernel
theorem dX12_out_146 : decode cX12_out 146 = .ok (.iload 5, 2) := by decide +kernel
theorem dX12_out_148 : decode cX12_out 148 = .ok (.bipush 7, 2) := by decide +kernel
theorem dX12_out_150 : decode cX12_out 150 = .ok (.iadd, 1) := by decide +kernel
theorem dX12_out_151 : decode cX12_out 151 = .ok (.iload 4, 2) := by decide +kernel
theorem dX12_out_153 : decode cX12_out 153 = .ok (.iastore, 1) := by decide +kernel
theorem dX12_out_154 : decode cX12_out 154 = .ok (.aload_n 0, 1) := by decide +kernel
theorem dX12_out_155 : decode cX12_out 155 = .ok (.getfield 13, 3) := by decide +kernel
theorem dX12_out_158 : decode cX12_out 158 = .ok (.iload 5, 2) := by decide +kernel
theorem dX12_out_160 : decode cX12_out 160 = .ok (.bipush 8, 2) := by decide +kernel
theorem dX12_out_162 : decode cX12_out 162 = .ok (.iadd, 1) := by decide +kernel
theorem dX12_out_163 : decode cX12_out 163 = .ok (.iaload, 1) := by decide +kernel
theorem dX12_out_164 : decode cX12_out 164 = .ok (.aload_n 0, 1) := by decide +kernel
theorem dX12_out_165 : decode cX12_out 165 = .ok (.getfield 13, 3) := by decide +kernel
theorem dX12_out_168 : decode cX12_out 168 = .ok (.iload 5, 2) := by decide +kernel
theorem dX12_out_170 : decode cX12_out 170 = .ok (.bipush 9, 2) := by decide +kernel
theorem dX12_out_172 : decode cX12_out 172 = .ok (.iadd, 1) := by decide +kernel
theorem dX12_out_173 : decode cX12_out 173 = .ok (.iaload, 1) := by decide +kernel
theorem dX12_out_174 : decode cX12_out 174 = .ok (.iadd, 1) := by decide +kernel
theorem dX12_out_175 : decode cX12_out 175 = .ok (.iload_n 2, 1) := by decide +kernel
theorem dX12_out_176 : decode cX12_out 176 = .ok (.isub, 1) := by decide +kernel
theorem dX12_out_177 : decode cX12_out 177 = .ok (.istore 6, 2) := by decide +kernel
theorem dX12_out_179 : decode cX12_out 179 = .ok (.iload 6, 2) := by decide +kernel
theorem dX12_out_181 : decode cX12_out 181 = .ok (.ifCond .ge 7, 3) := by decide +kernel
theorem dX12_out_184 : decode cX12_out 184 = .ok (.iconst 0, 1) := by decide +kernel
theorem dX12_out_185 : decode cX12_out 185 = .ok (.goto 33, 3) := by decide +kernel
theorem dX12_out_188 : decode cX12_out 188 = .ok (.iload 6, 2) := by decide +kernel
theorem dX12_out_190 : decode cX12_out 190 = .ok (.aload_n 0, 1) := by decide +kernel
theorem dX12_out_191 : decode cX12_out 191 = .ok (.getfield 13, 3) := by decide +kernel
theorem dX12_out_194 : decode cX12_out 194 = .ok (.iload 5, 2) := by decide +kernel
theorem dX12_out_196 : decode cX12_out 196 = .ok (.bipush 9, 2) := by decide +kernel
theorem dX12_out_198 : decode cX12_out 198 = .ok (.iadd, 1) := by decide +kernel
theorem dX12_out_199 : decode cX12_out 199 = .ok (.iaload, 1) := by decide +kernel
theorem dX12_out_200 : decode cX12_out 200 = .ok (.if_icmp .ge 8, 3) := by decide +kernel
theorem dX12_out_203 : decode cX12_out 203 = .ok (.iload 6, 2) := by decide +kernel
theorem dX12_out_205 : decode cX12_out 205 = .ok (.goto 13, 3) := by decide +kernel
theorem dX12_out_208 : decode cX12_out 208 = .ok (.aload_n 0, 1) := by decide +kernel
theorem dX12_out_209 : decode cX12_out 209 = .ok (.getfield 13, 3) := by decide +kernel
theorem dX12_out_212 : decode cX12_out 212 = .ok (.iload 5, 2) := by decide +kernel
theorem dX12_out_214 : decode cX12_out 214 = .ok (.bipush 9, 2) := by decide +kernel
theorem dX12_out_216 : decode cX12_out 216 = .ok (.iadd, 1) := by decide +kernel
theorem dX12_out_217 : decode cX12_out 217 = .ok (.iaload, 1) := by decide +kernel
theorem dX12_out_218 : decode cX12_out 218 = .ok (.istore 7, 2) := by decide +kernel
theorem dX12_out_220 : decode cX12_out 220 = .ok (.iload 6, 2) := by decide +kernel
theorem dX12_out_222 : decode cX12_out 222 = .ok (.iload 7, 2) := by decide +kernel
theorem dX12_out_224 : decode cX12_out 224 = .ok (.isub, 1) := by decide +kernel
theorem dX12_out_225 : decode cX12_out 225 = .ok (.ifCond .ge 7, 3) := by decide +kernel
theorem dX12_out_228 : decode cX12_out 228 = .ok (.iconst 0, 1) := by decide +kernel
theorem dX12_out_229 : decode cX12_out 229 = .ok (.goto 8, 3) := by decide +kernel
theorem dX12_out_232 : decode cX12_out 232 = .ok (.iload 6, 2) := by decide +kernel
theorem dX12_out_234 : decode cX12_out 234 = .ok (.iload 7, 2) := by decide +kernel
theorem dX12_out_236 : decode cX12_out 236 = .ok (.isub, 1) := by decide +kernel
theorem dX12_out_237 : decode cX12_out 237 = .ok (.istore 8, 2) := by decide +kernel
theorem dX12_out_239 : decode cX12_out 239 = .ok (.aload_n 0, 1) := by decide +kernel
theorem dX12_out_240 : decode cX12_out 240 = .ok (.getfield 13, 3) := by decide +kernel
theorem dX12_out_243 : decode cX12_out 243 = .ok (.iload 5, 2) := by decide +kernel
theorem dX12_out_245 : decode cX12_out 245 = .ok (.bipush 9, 2) := by decide +kernel
theorem dX12_out_247 : decode cX12_out 247 = .ok (.iadd, 1) := by decide +kernel
theorem dX12_out_248 : decode cX12_out 248 = .ok (.dup2, 1) := by decide +kernel
theorem dX12_out_249 : decode cX12_out 249 = .ok (.iaload, 1) := by decide +kernel
theorem dX12_out_250 : decode cX12_out 250 = .ok (.iload 7, 2) := by decide +kernel
theorem dX12_out_252 : decode cX12_out 252 = .ok (.isub, 1) := by decide +kernel
theorem dX12_out_253 : decode cX12_out 253 = .ok (.iastore, 1) := by decide +kernel
theorem dX12_out_254 : decode cX12_out 254 = .ok (.aload_n 0, 1) := by decide +kernel
theorem dX12_out_255 : decode cX12_out 255 = .ok (.getfield 13, 3) := by decide +kernel
theorem dX12_out_258 : decode cX12_out 258 = .ok (.iload 5, 2) := by decide +kernel
theorem dX12_out_260 : decode cX12_out 260 = .ok (.bipush 8, 2) := by decide +kernel
theorem dX12_out_262 : decode cX12_out 262 = .ok (.iadd, 1) := by decide +kernel
theorem dX12_out_263 : decode cX12_out 263 = .ok (.dup2, 1) := by decide +kernel
theorem dX12_out_264 : decode cX12_out 264 = .ok (.iaload, 1) := by decide +kernel
theorem dX12_out_265 : decode cX12_out 265 = .ok (.iload 8, 2) := by decide +kernel
theorem dX12_out_267 : decode cX12_out 267 = .ok (.isub, 1) := by decide +kernel
theorem dX12_out_268 : decode cX12_out 268 = .ok (.iastore, 1) := by decide +kernel
theorem dX12_out_269 : decode cX12_out 269 = .ok (.aload_n 0, 1) := by decide +kernel
theorem dX12_out_270 : decode cX12_out 270 = .ok (.getfield 13, 3) := by decide +kernel
theorem dX12_out_273 : decode cX12_out 273 = .ok (.bipush 15, 2) := by decide +kernel
theorem dX12_out_275 : decode cX12_out 275 = .ok (.iload_n 1, 1) := by decide +kernel
theorem dX12_out_276 : decode cX12_out 276 = .ok (.imul, 1) := by decide +kernel
theorem dX12_out_277 : decode cX12_out 277 = .ok (.bipush 10, 2) := by decide +kernel
theorem dX12_out_279 : decode cX12_out 279 = .ok (.iadd, 1) := by decide +kernel
theorem dX12_out_280 : decode cX12_out 280 = .ok (.dup2, 1) := by decide +kernel
theorem dX12_out_281 : decode cX12_out 281 = .ok (.iaload, 1) := by decide +kernel
theorem dX12_out_282 : decode cX12_out 282 = .ok (.iload 7, 2) := by decide +kernel
theorem dX12_out_284 : decode cX12_out 284 = .ok (.iadd, 1) := by decide +kernel
theorem dX12_out_285 : decode cX12_out 285 = .ok (.iastore, 1) := by decide +kernel
theorem dX12_out_286 : decode cX12_out 286 = .ok (.aload_n 0, 1) := by decide +kernel
theorem dX12_out_287 : decode cX12_out 287 = .ok (.getfield 13, 3) := by decide +kernel
theorem dX12_out_290 : decode cX12_out 290 = .ok (.bipush 15, 2) := by decide +kernel
theorem dX12_out_292 : decode cX12_out 292 = .ok (.iload_n 1, 1) := by decide +kernel
theorem dX12_out_293 : decode cX12_out 293 = .ok (.imul, 1) := by decide +kernel
theorem dX12_out_294 : decode cX12_out 294 = .ok (.bipush 9, 2) := by decide +kernel
theorem dX12_out_296 : decode cX12_out 296 = .ok (.iadd, 1) := by decide +kernel
theorem dX12_out_297 : decode cX12_out 297 = .ok (.dup2, 1) := by decide +kernel
theorem dX12_out_298 : decode cX12_out 298 = .ok (.iaload, 1) := by decide +kernel
theorem dX12_out_299 : decode cX12_out 299 = .ok (.iload 8, 2) := by decide +kernel
theorem dX12_out_301 : decode cX12_out 301 = .ok (.iadd, 1) := by decide +kernel
theorem dX12_out_302 : decode cX12_out 302 = .ok (.iastore, 1) := by decide +kernel
theorem dX12_out_303 : decode cX12_out 303 = .ok (.iconst 0, 1) := by decide +kernel
theorem dX12_out_304 : decode cX12_out 304 = .ok (.ireturn, 1) := by decide +kernel
theorem dX12_put_0 : decode cX12_put 0 = .ok (.aload_n 0, 1) := by decide +kernel
theorem dX12_put_1 : decode cX12_put 1 = .ok (.iconst 0, 1) := by decide +kernel
theorem dX12_put_2 : decode cX12_put 2 = .ok (.putfield 1, 3) := by decide +kernel
theorem dX12_put_5 : decode cX12_put 5 = .ok (.iload_n 1, 1) := by decide +kernel
theorem dX12_put_6 : decode cX12_put 6 = .ok (.invokestatic 128, 3) := by decide +kernel
theorem dX12_put_9 : decode cX12_put 9 = .ok (.ifCond .ne 5, 3) := by decide +kernel
theorem dX12_put_12 : decode cX12_put 12 = .ok (.iconst (-1), 1) := by decide +kernel
theorem dX12_put_13 : decode cX12_put 13 = .ok (.ireturn, 1) := by decide +kernel
theorem dX12_put_14 : decode cX12_put 14 = .ok (.aload_n 0, 1) := by decide +kernel
theorem dX12_put_15 : decode cX12_put 15 = .ok (.getfield 63, 3) := by decide +kernel
theorem dX12_put_18 : decode cX12_put 18 = .ok (.iload_n 1, 1) := by decide +kernel
theorem dX12_put_19 : decode cX12_put 19 = .ok (.iaload, 1) := by decide +kernel
theorem dX12_put_20 : decode cX12_put 20 = .ok (.ifCond .ne 10, 3) := by decide +kernel
theorem dX12_put_23 : decode cX12_put 23 = .ok (.aload_n 0, 1) := by decide +kernel
theorem dX12_put_24 : decode cX12_put 24 = .ok (.bipush (-11), 2) := by decide +kernel
theorem dX12_put_26 : decode cX12_put 26 = .ok (.invokevirtual 131, 3) := by decide +kernel
theorem dX12_put_29 : decode cX12_put 29 = .ok (.ireturn, 1) := by decide +kernel
theorem dX12_put_30 : decode cX12_put 30 = .ok (.aload_n 0, 1) := by decide +kernel
theorem dX12_put_31 : decode cX12_put 31 = .ok (.getfield 63, 3) := by decide +kernel
theorem dX12_put_34 : decode cX12_put 34 = .ok (.iload_n 1, 1) := by decide +kernel
theorem dX12_put_35 : decode cX12_put 35 = .ok (.iaload, 1) := by decide +kernel
theorem dX12_put_36 : decode cX12_put 36 = .ok (.bipush 6, 2) := by decide +kernel
theorem dX12_put_38 : decode cX12_put 38 = .ok (.if_icmp .ne 10, 3) := by decide +kernel
theorem dX12_put_41 : decode cX12_put 41 = .ok (.aload_n 0, 1) := by decide +kernel
theorem dX12_put_42 : decode cX12_put 42 = .ok (.bipush (-12), 2) := by decide +kernel
theorem dX12_put_44 : decode cX12_put 44 = .ok (.invokevirtual 131, 3) := by decide +kernel
theorem dX12_put_47 : decode cX12_put 47 = .ok (.ireturn, 1) := by decide +kernel
theorem dX12_put_48 : decode cX12_put 48 = .ok (.iload_n 2, 1) := by decide +kernel
theorem dX12_put_49 : decode cX12_put 49 = .ok (.i2l, 1) := by decide +kernel
theorem dX12_put_50 : decode cX12_put 50 = .ok (.lconst 0, 1) := by decide +kernel
theorem dX12_put_51 : decode cX12_put 51 = .ok (.aload_n 0, 1) := by decide +kernel
theorem dX12_put_52 : decode cX12_put 52 = .ok (.getfield 66, 3) := by decide +kernel
theorem dX12_put_55 : decode cX12_put 55 = .ok (.iload_n 1, 1) := by decide +kernel
theorem dX12_put_56 : decode cX12_put 56 = .ok (.iaload, 1) := by decide +kernel
theorem dX12_put_57 : decode cX12_put 57 = .ok (.iconst 1, 1) := by decide +kernel
theorem dX12_put_58 : decode cX12_put 58 = .ok (.isub, 1) := by decide +kernel
theorem dX12_put_59 : decode cX12_put 59 = .ok (.i2l, 1) := by decide +kernel
theorem dX12_put_60 : decode cX12_put 60 = .ok (.invokestatic 93, 3) := by decide +kernel
theorem dX12_put_63 : decode cX12_put 63 = .ok (.ifCond .ne 10, 3) := by decide +kernel
theorem dX12_put_66 : decode cX12_put 66 = .ok (.aload_n 0, 1) := by decide +kernel
theorem dX12_put_67 : decode cX12_put 67 = .ok (.bipush (-13), 2) := by decide +kernel
theorem dX12_put_69 : decode cX12_put 69 = .ok (.invokevirtual 131, 3) := by decide +kernel
theorem dX12_put_72 : decode cX12_put 72 = .ok (.ireturn, 1) := by decide +kernel
theorem dX12_put_73 : decode cX12_put 73 = .ok (.aload_n 0, 1) := by decide +kernel
theorem dX12_put_74 : decode cX12_put 74 = .ok (.getfield 63, 3) := by decide +kernel
theorem dX12_put_77 : decode cX12_put 77 = .ok (.iload_n 1, 1) := by decide +kernel
theorem dX12_put_78 : decode cX12_put 78 = .ok (.iaload, 1) := by decide +kernel
theorem dX12_put_79 : decode cX12_put 79 = .ok (.istore 5, 2) := by decide +kernel
theorem dX12_put_81 : decode cX12_put 81 = .ok (.aload_n 0, 1) := by decide +kernel
theorem dX12_put_82 : decode cX12_put 82 = .ok (.getfield 69, 3) := by decide +kernel
theorem dX12_put_85 : decode cX12_put 85 = .ok (.bipush 100, 2) := by decide +kernel
theorem dX12_put_87 : decode cX12_put 87 = .ok (.iload_n 1, 1) := by decide +kernel
theorem dX12_put_88 : decode cX12_put 88 = .ok (.imul, 1) := by decide +kernel
theorem dX12_put_89 : decode cX12_put 89 = .ok (.iload_n 2, 1) := by decide +kernel
theorem dX12_put_90 : decode cX12_put 90 = .ok (.iadd, 1) := by decide +kernel
theorem dX12_put_91 : decode cX12_put 91 = .ok (.iload 5, 2) := by decide +kernel
theorem dX12_put_93 : decode cX12_put 93 = .ok (.iconst 1, 1) := by decide +kernel
theorem dX12_put_94 : decode cX12_put 94 = .ok (.if_icmp .ne 10, 3) := by decide +kernel
theorem dX12_put_97 : decode cX12_put 97 = .ok (.lload_n 3, 1) := by decide +kernel
theorem dX12_put_98 : decode cX12_put 98 = .ok (.l2i, 1) := by decide +kernel
theorem dX12_put_99 : decode cX12_put 99 = .ok (.i2b, 1) := by decide +kernel
theorem dX12_put_100 : decode cX12_put 100 = .ok (.i2l, 1) := by decide +kernel
theorem dX12_put_101 : decode cX12_put 101 = .ok (.goto 49, 3) := by decide +kernel
theorem dX12_put_104 : decode cX12_put 104 = .ok (.iload 5, 2) := by decide +kernel
theorem dX12_put_106 : decode cX12_put 106 = .ok (.iconst 2, 1) := by decide +kernel
theorem dX12_put_107 : decode cX12_put 107 = .ok (.if_icmp .ne 10, 3) := by decide +kernel
theorem dX12_put_110 : decode cX12_put 110 = .ok (.lload_n 3, 1) := by decide +kernel
theorem dX12_put_111 : decode cX12_put 111 = .ok (.l2i, 1) := by decide +kernel
theorem dX12_put_112 : decode cX12_put 112 = .ok (.i2s, 1) := by decide +kernel
theorem dX12_put_113 : decode cX12_put 113 = .ok (.i2l, 1) := by decide +kernel
theorem dX12_put_114 : decode cX12_put 114 = .ok (.goto 36, 3) := by decide +kernel
theorem dX12_put_117 : decode cX12_put 117 = .ok (.iload 5, 2) := by decide +kernel
theorem dX12_put_119 : decode cX12_put 119 = .ok (.iconst 3, 1) := by decide +kernel
theorem dX12_put_120 : decode cX12_put 120 = .ok (.if_icmp .ne 9, 3) := by decide +kernel
theorem dX12_put_123 : decode cX12_put 123 = .ok (.lload_n 3, 1) := by decide +kernel
theorem dX12_put_124 : decode cX12_put 124 = .ok (.l2i, 1) := by decide +kernel
theorem dX12_put_125 : decode cX12_put 125 = .ok (.i2l, 1) := by decide +kernel
theorem dX12_put_126 : decode cX12_put 126 = .ok (.goto 24, 3) := by decide +kernel
theorem dX12_put_129 : decode cX12_put 129 = .ok (.iload 5, 2) := by decide +kernel
theorem dX12_put_131 : decode cX12_put 131 = .ok (.iconst 4, 1) := by decide +kernel
theorem dX12_put_132 : decode cX12_put 132 = .ok (.if_icmp .ne 7, 3) := by decide +kernel
theorem dX12_put_135 : decode cX12_put 135 = .ok (.lload_n 3, 1) := by decide +kernel
theorem dX12_put_136 : decode cX12_put 136 = .ok (.goto 14, 3) := by decide +kernel
theorem dX12_put_139 : decode cX12_put 139 = .ok (.lload_n 3, 1) := by decide +kernel
theorem dX12_put_140 : decode cX12_put 140 = .ok (.lconst 0, 1) := by decide +kernel
theorem dX12_put_141 : decode cX12_put 141 = .ok (.lcmp, 1) := by decide +kernel
theorem dX12_put_142 : decode cX12_put 142 = .ok (.ifCond .eq 7, 3) := by decide +kernel
theorem dX12_put_145 : decode cX12_put 145 = .ok (.lconst 1, 1) := by decide +kernel
theorem dX12_put_146 : decode cX12_put 146 = .ok (.goto 4, 3) := by decide +kernel
theorem dX12_put_149 : decode cX12_put 149 = .ok (.lconst 0, 1) := by decide +kernel
theorem dX12_put_150 : decode cX12_put 150 = .ok (.lastore, 1) := by decide +kernel
theorem dX12_put_151 : decode cX12_put 151 = .ok (.iconst 1, 1) := by decide +kernel
theorem dX12_put_152 : decode cX12_put 152 = .ok (.ireturn, 1) := by decide +kernel
theorem dX12_rain_0 : decode cX12_rain 0 = .ok (.aload_n 0, 1) := by decide +kernel
theorem dX12_rain_1 : decode cX12_rain 1 = .ok (.iconst 0, 1) := by decide +kernel
theorem dX12_rain_2 : decode cX12_rain 2 = .ok (.putfield 1, 3) := by decide +kernel
theorem dX12_rain_5 : decode cX12_rain 5 = .ok (.iload_n 1, 1) := by decide +kernel
theorem dX12_rain_6 : decode cX12_rain 6 = .ok (.i2l, 1) := by decide +kernel
theorem dX12_rain_7 : decode cX12_rain 7 = .ok (.lconst 0, 1) := by decide +kernel
theorem dX12_rain_8 : decode cX12_rain 8 = .ok (.ldc2_w 224, 3) := by decide +kernel
theorem dX12_rain_11 : decode cX12_rain 11 = .ok (.invokestatic 93, 3) := by decide +kernel
theorem dX12_rain_14 : decode cX12_rain 14 = .ok (.ifCond .ne 5, 3) := by decide +kernel
theorem dX12_rain_17 : decode cX12_rain 17 = .ok (.iconst (-1), 1) := by decide +kernel
theorem dX12_rain_18 : decode cX12_rain 18 = .ok (.ireturn, 1) := by decide +kernel
theorem dX12_rain_19 : decode cX12_rain 19 = .ok (.aload_n 0, 1) := by decide +kernel
theorem dX12_rain_20 : decode cX12_rain 20 = .ok (.iconst 3, 1) := by decide +kernel
theorem dX12_rain_21 : decode cX12_rain 21 = .ok (.invokevirtual 101, 3) := by decide +kernel
theorem dX12_rain_24 : decode cX12_rain 24 = .ok (.istore_n 2, 1) := by decide +kernel
theorem dX12_rain_25 : decode cX12_rain 25 = .ok (.aload_n 0, 1) := by decide +kernel
theorem dX12_rain_26 : decode cX12_rain 26 = .ok (.getfield 13, 3) := by decide +kernel
theorem dX12_rain_29 : decode cX12_rain 29 = .ok (.sipush 4303, 3) := by decide +kernel
theorem dX12_rain_32 : decode cX12_rain 32 = .ok (.iload_n 1, 1) := by decide +kernel
theorem dX12_rain_33 : decode cX12_rain 33 = .ok (.iastore, 1) := by decide +kernel
theorem dX12_rain_34 : decode cX12_rain 34 = .ok (.iload_n 2, 1) := by decide +kernel
theorem dX12_rain_35 : decode cX12_rain 35 = .ok (.ireturn, 1) := by decide +kernel
set_option maxHeartbeats 4000000 in
set_option maxRecDepth 100000 in
theorem xX12_law_213 {K : KT} {r : Int32 × Wd} (G : GK K cX12_law RX12 6 202) (M : Main K.ks) (hr : RI K .int r.1 r.2) : ∀ (n : Nat) (v5 : Int32) (w : Wd), fX12_law_213 n v5 w = some r → XW K 213 [some (.ref 148), none, none, none, none, some (.int v5)] [] w := by
  intro n
  induction n with
  | zero =>
    intro v5 w hf
    unfold fX12_law_213 at hf
    cases hf
  | succ n ih =>
    intro v5 w hf
    unfold fX12_law_213 at hf
    refine x_iload G dX12_law_213 rfl ?_
    refine x_aload_n G dX12_law_215 rfl rfl ?_
    refine x_getI G (kd148 M) 23 rfl cl12 rfl wf_X12_282 dX12_law_216 ?_
    refine x_icmpge G (tgt := 250) dX12_law_219 (by decide) hf (fun c_1 hf => ?_) (fun c_1 hf => ?_)
    · refine x_aload_n G dX12_law_222 rfl rfl ?_
      refine x_getR G (kd148 M) 20 (b := 162) rfl cl12 rfl wf_X12_54 dX12_law_223 ?_
      refine x_bipush G (v := 60) dX12_law_226 (by decide) ?_
      refine x_aload_n G dX12_law_228 rfl rfl ?_
      refine x_getI G (kd148 M) 21 rfl cl12 rfl wf_X12_79 dX12_law_229 ?_
      refine x_imul G dX12_law_232 ?_
      refine x_iload G dX12_law_233 rfl ?_
      refine x_iadd G dX12_law_235 ?_
      refine x_aload_n G dX12_law_236 rfl rfl ?_
      refine x_getR G (kd148 M) 22 (b := 163) rfl cl12 rfl wf_X12_57 dX12_law_237 ?_
      refine x_iload G dX12_law_240 rfl ?_
      refine x_iald G (kd163 M) dX12_law_242 hf (fun hb_2 hf => ?_)
      refine x_iast G (kd162 M) dX12_law_243 hf (fun hb_3 hf => ?_)
      refine nwr hf (fun w_4 hf => ?_)
      refine x_iinc G (lv' := [some (.ref 148), none, none, none, none, some (.int (v5 + (1 : Int32)))]) (v := 1) dX12_law_244 rfl (by decide) rfl rfl rfl ?_
      refine x_goto G (tgt := 213) dX12_law_247 (by decide) ?_
      exact XW.sub (lv' := [some (.ref 148), none, none, none, none, some (.int (v5 + (1 : Int32)))]) (And.intro rfl (And.intro rfl trivial)) (ih _ _ hf)
    · refine x_aload_n G dX12_law_250 rfl rfl ?_
      refine x_dup G dX12_law_251 rfl ?_
      refine x_getI G (kd148 M) 21 rfl cl12 rfl wf_X12_79 dX12_law_252 ?_
      refine x_iconst G (v := 1) dX12_law_255 (by decide) ?_
      refine x_iadd G dX12_law_256 ?_
      refine x_putI G (kd148 M) 21 rfl cl12 rfl wf_X12_79 rfl rfl rfl dX12_law_257 ?_
      refine nwr hf (fun w_5 hf => ?_)
      refine x_aload_n G dX12_law_260 rfl rfl ?_
      refine x_getI G (kd148 M) 21 rfl cl12 rfl wf_X12_79 dX12_law_261 ?_
      refine x_iconst G (v := 1) dX12_law_264 (by decide) ?_
      refine x_isub G dX12_law_265 ?_
      exact x_iretW G hf hr dX12_law_266

set_option maxHeartbeats 4000000 in
set_option maxRecDepth 100000 in
theorem xX12_law_95 {K : KT} {r : Int32 × Wd} (G : GK K cX12_law RX12 6 202) (M : Main K.ks) (hr : RI K .int r.1 r.2) : ∀ (n : Nat) (v1 : Int32) (v2 : Int32) (v3 : Int32) (v4 : Int32) (w : Wd), fX12_law_95 n v1 v2 v3 v4 w = some r → XW K 95 [some (.ref 148), some (.int v1), some (.int v2), some (.int v3), some (.int v4), none] [] w := by
  intro n
  induction n with
  | zero =>
    intro v1 v2 v3 v4 w hf
    unfold fX12_law_95 at hf
    cases hf
  | succ n ih =>
    intro v1 v2 v3 v4 w hf
    unfold fX12_law_95 at hf
    refine x_iload G dX12_law_95 rfl ?_
    refine x_aload_n G dX12_law_97 rfl rfl ?_
    refine x_getI G (kd148 M) 23 rfl cl12 rfl wf_X12_282 dX12_law_98 ?_
    refine x_icmpge G (tgt := 130) dX12_law_101 (by decide) hf (fun c_1 hf => ?_) (fun c_1 hf => ?_)
    · refine x_aload_n G dX12_law_104 rfl rfl ?_
      refine x_getR G (kd148 M) 22 (b := 163) rfl cl12 rfl wf_X12_57 dX12_law_105 ?_
      refine x_iload G dX12_law_108 rfl ?_
      refine x_aload_n G dX12_law_110 rfl rfl ?_
      refine x_getR G (kd148 M) 31 (b := 167) rfl cl12 rfl wf_X12_69 dX12_law_111 ?_
      refine x_bipush G (v := 100) dX12_law_114 (by decide) ?_
      refine x_iload_n G dX12_law_116 rfl rfl ?_
      refine x_imul G dX12_law_117 ?_
      refine x_iload G dX12_law_118 rfl ?_
      refine x_iadd G dX12_law_120 ?_
      refine x_lald G (kd167 M) dX12_law_121 hf (fun hb_2 hf => ?_)
      refine x_l2i G dX12_law_122 ?_
      refine x_iast G (kd163 M) dX12_law_123 hf (fun hb_3 hf => ?_)
      refine nwr hf (fun w_4 hf => ?_)
      refine x_iinc G (lv' := [some (.ref 148), some (.int v1), some (.int v2), some (.int v3), some (.int (v4 + (1 : Int32))), none]) (v := 1) dX12_law_124 rfl (by decide) rfl rfl rfl ?_
      refine x_goto G (tgt := 95) dX12_law_127 (by decide) ?_
      exact XW.sub (lv' := [some (.ref 148), some (.int v1), some (.int v2), some (.int v3), some (.int (v4 + (1 : Int32))), none]) (And.intro rfl (And.intro rfl (And.intro rfl (And.intro rfl (And.intro rfl trivial))))) (ih _ _ _ _ _ hf)
    · refine x_aload_n G dX12_law_130 rfl rfl ?_
      refine x_iconst G (v := 0) dX12_law_131 (by decide) ?_
      refine x_putI G (kd148 M) 27 rfl cl12 rfl wf_X12_292 rfl rfl rfl dX12_law_132 ?_
      refine nwr hf (fun w_5 hf => ?_)
      refine x_aload_n G dX12_law_135 rfl rfl ?_
      obtain ⟨v_6, hv_6, hf⟩ := bnd hf
      refine x_virI G (As := []) (mX12_reads G.2.2.2.2.2.2.1 M hv_6) mv_X12_341 (kd148 M) cl12 rfl rfl rfl rfl rfl dX12_law_136 ?_
      refine x_istore G (lv' := [some (.ref 148), some (.int v1), some (.int v2), some (.int v3), some (.int (bI v_6.1)), none]) dX12_law_139 rfl rfl rfl ?_
      refine x_aload_n G dX12_law_141 rfl rfl ?_
      refine x_getI G (kd148 M) 26 rfl cl12 rfl wf_X12_285 dX12_law_142 ?_
      refine x_ifeq G (tgt := 156) dX12_law_145 (by decide) hf (fun c_7 hf => ?_) (fun c_7 hf => ?_)
      · refine x_aload_n G dX12_law_156 rfl rfl ?_
        refine x_getI G (kd148 M) 21 rfl cl12 rfl wf_X12_79 dX12_law_157 ?_
        refine x_bipush G (v := 20) dX12_law_160 (by decide) ?_
        refine x_icmpeq G (tgt := 174) dX12_law_162 (by decide) hf (fun c_8 hf => ?_) (fun c_8 hf => ?_)
        · refine x_bipush G (v := -2) dX12_law_174 (by decide) ?_
          exact x_iretW G hf hr dX12_law_176
        · refine x_aload_n G dX12_law_165 rfl rfl ?_
          refine x_getI G (kd148 M) 23 rfl cl12 rfl wf_X12_282 dX12_law_166 ?_
          refine x_bipush G (v := 60) dX12_law_169 (by decide) ?_
          refine x_icmple G (tgt := 177) dX12_law_171 (by decide) hf (fun c_9 hf => ?_) (fun c_9 hf => ?_)
          · refine x_bipush G (v := -2) dX12_law_174 (by decide) ?_
            exact x_iretW G hf hr dX12_law_176
          · refine x_aload_n G dX12_law_177 rfl rfl ?_
            refine x_getR G (kd148 M) 17 (b := 159) rfl cl12 rfl wf_X12_45 dX12_law_178 ?_
            refine x_aload_n G dX12_law_181 rfl rfl ?_
            refine x_getI G (kd148 M) 21 rfl cl12 rfl wf_X12_79 dX12_law_182 ?_
            refine x_iload_n G dX12_law_185 rfl rfl ?_
            refine x_iast G (kd159 M) dX12_law_186 hf (fun hb_10 hf => ?_)
            refine nwr hf (fun w_11 hf => ?_)
            refine x_aload_n G dX12_law_187 rfl rfl ?_
            refine x_getR G (kd148 M) 18 (b := 160) rfl cl12 rfl wf_X12_48 dX12_law_188 ?_
            refine x_aload_n G dX12_law_191 rfl rfl ?_
            refine x_getI G (kd148 M) 21 rfl cl12 rfl wf_X12_79 dX12_law_192 ?_
            refine x_iload_n G dX12_law_195 rfl rfl ?_
            refine x_iast G (kd160 M) dX12_law_196 hf (fun hb_12 hf => ?_)
            refine nwr hf (fun w_13 hf => ?_)
            refine x_aload_n G dX12_law_197 rfl rfl ?_
            refine x_getR G (kd148 M) 19 (b := 161) rfl cl12 rfl wf_X12_51 dX12_law_198 ?_
            refine x_aload_n G dX12_law_201 rfl rfl ?_
            refine x_getI G (kd148 M) 21 rfl cl12 rfl wf_X12_79 dX12_law_202 ?_
            refine x_aload_n G dX12_law_205 rfl rfl ?_
            refine x_getI G (kd148 M) 23 rfl cl12 rfl wf_X12_282 dX12_law_206 ?_
            refine x_iast G (kd161 M) dX12_law_209 hf (fun hb_14 hf => ?_)
            refine nwr hf (fun w_15 hf => ?_)
            refine x_iconst G (v := 0) dX12_law_210 (by decide) ?_
            refine x_istore G (lv' := [some (.ref 148), some (.int v1), some (.int v2), some (.int v3), some (.int (bI v_6.1)), some (.int (0 : Int32))]) dX12_law_211 rfl rfl rfl ?_
            exact XW.sub (lv' := [some (.ref 148), none, none, none, none, some (.int (0 : Int32))]) (And.intro rfl (And.intro rfl trivial)) (xX12_law_213 G M hr FU _ _ hf)
      · refine x_bipush G (v := -100) dX12_law_148 (by decide) ?_
        refine x_aload_n G dX12_law_150 rfl rfl ?_
        refine x_getI G (kd148 M) 24 rfl cl12 rfl wf_X12_279 dX12_law_151 ?_
        refine x_isub G dX12_law_154 ?_
        exact x_iretW G hf hr dX12_law_155

set_option maxHeartbeats 4000000 in
set_option maxRecDepth 100000 in
theorem xX12_law_e {K : KT} {v1 : Int32} {v2 : Int32} {v3 : Int32} {w : Wd} {r : Int32 × Wd} (G : GK K cX12_law RX12 6 202) (M : Main K.ks) (hf : fX12_law v1 v2 v3 w = some r) (hr : RI K .int r.1 r.2) : XW K 0 [some (.ref 148), some (.int v1), some (.int v2), some (.int v3), none, none] [] w := by
  unfold fX12_law at hf
  refine x_aload_n G dX12_law_0 rfl rfl ?_
  refine x_iconst G (v := 0) dX12_law_1 (by decide) ?_
  refine x_putI G (kd148 M) 0 rfl cl12 rfl wf_X12_1 rfl rfl rfl dX12_law_2 ?_
  refine nwr hf (fun w_1 hf => ?_)
  refine x_iload_n G dX12_law_5 rfl rfl ?_
  refine x_i2l G dX12_law_6 ?_
  refine x_lconst G (v := 0) dX12_law_7 (by decide) ?_
  refine x_ldc2 G wl_X12_339 dX12_law_8 ?_
  obtain ⟨v_2, hv_2, hf⟩ := bnd hf
  refine x_staI G (As := [.long v1.toInt64, .long (0 : Int64), .long (2 : Int64)]) (mX12_in G.2.2.2.2.2.2.1 M hv_2) ms_X12_93 rfl rfl rfl rfl rfl dX12_law_11 ?_
  refine x_ifeqB G (tgt := 36) dX12_law_14 (by decide) hf (fun c_3 hf => ?_) (fun c_3 hf => ?_)
  · refine x_iload_n G dX12_law_17 rfl rfl ?_
    refine x_i2l G dX12_law_18 ?_
    refine x_lconst G (v := 0) dX12_law_19 (by decide) ?_
    refine x_ldc2 G wl_X12_170 dX12_law_20 ?_
    obtain ⟨v_4, hv_4, hf⟩ := bnd hf
    refine x_staI G (As := [.long v2.toInt64, .long (0 : Int64), .long (4999 : Int64)]) (mX12_in G.2.2.2.2.2.2.1 M hv_4) ms_X12_93 rfl rfl rfl rfl rfl dX12_law_23 ?_
    refine x_ifeqB G (tgt := 36) dX12_law_26 (by decide) hf (fun c_5 hf => ?_) (fun c_5 hf => ?_)
    · refine x_iload_n G dX12_law_29 rfl rfl ?_
      obtain ⟨v_6, hv_6, hf⟩ := bnd hf
      refine x_staI G (As := [.int v3]) (mX12_isTape G.2.2.2.2.2.2.1 M hv_6) ms_X12_128 rfl rfl rfl rfl rfl dX12_law_30 ?_
      refine x_ifneB G (tgt := 38) dX12_law_33 (by decide) hf (fun c_7 hf => ?_) (fun c_7 hf => ?_)
      · refine x_iload_n G dX12_law_38 rfl rfl ?_
        refine x_aload_n G dX12_law_39 rfl rfl ?_
        obtain ⟨v_8, hv_8, hf⟩ := bnd hf
        refine x_virI G (As := []) (mX12_day G.2.2.2.2.2.2.1 M hv_8) mv_X12_159 (kd148 M) cl12 rfl rfl rfl rfl rfl dX12_law_40 ?_
        refine x_icmpge G (tgt := 49) dX12_law_43 (by decide) hf (fun c_9 hf => ?_) (fun c_9 hf => ?_)
        · refine x_bipush G (v := -4) dX12_law_46 (by decide) ?_
          exact x_iretW G hf hr dX12_law_48
        · refine x_aload_n G dX12_law_49 rfl rfl ?_
          refine x_getR G (kd148 M) 29 (b := 165) rfl cl12 rfl wf_X12_63 dX12_law_50 ?_
          refine x_iload_n G dX12_law_53 rfl rfl ?_
          refine x_iald G (kd165 M) dX12_law_54 hf (fun hb_10 hf => ?_)
          refine x_ifne G (tgt := 65) dX12_law_55 (by decide) hf (fun c_11 hf => ?_) (fun c_11 hf => ?_)
          · refine x_aload_n G dX12_law_58 rfl rfl ?_
            refine x_bipush G (v := -11) dX12_law_59 (by decide) ?_
            obtain ⟨v_12, hv_12, hf⟩ := bnd hf
            refine x_virI G (As := [.int (-11 : Int32)]) (mX12_host G.2.2.2.2.2.2.1 M hv_12) mv_X12_131 (kd148 M) cl12 rfl rfl rfl rfl rfl dX12_law_61 ?_
            exact x_iretW G hf hr dX12_law_64
          · refine x_aload_n G dX12_law_65 rfl rfl ?_
            refine x_getR G (kd148 M) 29 (b := 165) rfl cl12 rfl wf_X12_63 dX12_law_66 ?_
            refine x_iload_n G dX12_law_69 rfl rfl ?_
            refine x_iald0 G (kd165 M) dX12_law_70 hb_10 ?_
            refine x_iconst G (v := 1) dX12_law_71 (by decide) ?_
            refine x_icmpeq G (tgt := 82) dX12_law_72 (by decide) hf (fun c_13 hf => ?_) (fun c_13 hf => ?_)
            · refine x_aload_n G dX12_law_82 rfl rfl ?_
              refine x_aload_n G dX12_law_83 rfl rfl ?_
              refine x_getR G (kd148 M) 30 (b := 166) rfl cl12 rfl wf_X12_66 dX12_law_84 ?_
              refine x_iload_n G dX12_law_87 rfl rfl ?_
              refine x_iald0 G (kd166 M) dX12_law_88 hb_10 ?_
              refine x_putI G (kd148 M) 23 rfl cl12 rfl wf_X12_282 rfl rfl rfl dX12_law_89 ?_
              refine nwr hf (fun w_14 hf => ?_)
              refine x_iconst G (v := 0) dX12_law_92 (by decide) ?_
              refine x_istore G (lv' := [some (.ref 148), some (.int v1), some (.int v2), some (.int v3), some (.int (0 : Int32)), none]) dX12_law_93 rfl rfl rfl ?_
              exact XW.sub (lv' := [some (.ref 148), some (.int v1), some (.int v2), some (.int v3), some (.int (0 : Int32)), none]) (And.intro rfl (And.intro rfl (And.intro rfl (And.intro rfl (And.intro rfl trivial))))) (xX12_law_95 G M hr FU _ _ _ _ _ hf)
            · refine x_aload_n G dX12_law_75 rfl rfl ?_
              refine x_bipush G (v := -12) dX12_law_76 (by decide) ?_
              obtain ⟨v_15, hv_15, hf⟩ := bnd hf
              refine x_virI G (As := [.int (-12 : Int32)]) (mX12_host G.2.2.2.2.2.2.1 M hv_15) mv_X12_131 (kd148 M) cl12 rfl rfl rfl rfl rfl dX12_law_78 ?_
              exact x_iretW G hf hr dX12_law_81
      · refine x_iconst G (v := -1) dX12_law_36 (by decide) ?_
        exact x_iretW G hf hr dX12_law_37
    · refine x_iconst G (v := -1) dX12_law_36 (by decide) ?_
      exact x_iretW G hf hr dX12_law_37
  · refine x_iconst G (v := -1) dX12_law_36 (by decide) ?_
    exact x_iretW G hf hr dX12_law_37

theorem mX12_law {l : Launch} {S : KS} {w : Wd} (hI : Inj S) (M : Main S) {v1 : Int32} {v2 : Int32} {v3 : Int32} {r : Int32 × Wd} (hf : fX12_law v1 v2 v3 w = some r) : CI l yX12_law cX12_law 6 (some .int) 202 S [.ref 148, .int v1, .int v2, .int v3] w r.1 r.2 := by
  intro sz
  refine mk_entry rfl (by decide +kernel) hI 2 rfl rfl (fun K h1 h2 h3 h4 h5 h6 G => ?_)
  subst h2
  exact xX12_law_e G M hf ⟨h3, by rw [h4, h6], h5⟩

set_option maxHeartbeats 4000000 in
set_option maxRecDepth 100000 in
theorem xX12_level_e {K : KT} {v1 : Int32} {w : Wd} {r : Int32 × Wd} (G : GK K cX12_level RX12 2 2) (M : Main K.ks) (hf : fX12_level v1 w = some r) (hr : RI K .int r.1 r.2) : XW K 0 [some (.ref 148), some (.int v1)] [] w := by
  unfold fX12_level at hf
  refine x_aload_n G dX12_level_0 rfl rfl ?_
  refine x_iconst G (v := 0) dX12_level_1 (by decide) ?_
  refine x_putI G (kd148 M) 0 rfl cl12 rfl wf_X12_1 rfl rfl rfl dX12_level_2 ?_
  refine nwr hf (fun w_1 hf => ?_)
  refine x_iload_n G dX12_level_5 rfl rfl ?_
  refine x_i2l G dX12_level_6 ?_
  refine x_lconst G (v := 0) dX12_level_7 (by decide) ?_
  refine x_ldc2 G wl_X12_136 dX12_level_8 ?_
  obtain ⟨v_2, hv_2, hf⟩ := bnd hf
  refine x_staI G (As := [.long v1.toInt64, .long (0 : Int64), .long (100000 : Int64)]) (mX12_in G.2.2.2.2.2.2.1 M hv_2) ms_X12_93 rfl rfl rfl rfl rfl dX12_level_11 ?_
  refine x_ifneB G (tgt := 24) dX12_level_14 (by decide) hf (fun c_3 hf => ?_) (fun c_3 hf => ?_)
  · refine x_aload_n G dX12_level_24 rfl rfl ?_
    refine x_iload_n G dX12_level_25 rfl rfl ?_
    obtain ⟨v_4, hv_4, hf⟩ := bnd hf
    refine x_virI G (As := [.int v1]) (mX12_levelAt G.2.2.2.2.2.2.1 M hv_4) mv_X12_138 (kd148 M) cl12 rfl rfl rfl rfl rfl dX12_level_26 ?_
    exact x_iretW G hf hr dX12_level_29
  · refine x_aload_n G dX12_level_17 rfl rfl ?_
    refine x_iconst G (v := 1) dX12_level_18 (by decide) ?_
    refine x_putI G (kd148 M) 0 rfl cl12 rfl wf_X12_1 rfl rfl rfl dX12_level_19 ?_
    refine nwr hf (fun w_5 hf => ?_)
    refine x_iconst G (v := 0) dX12_level_22 (by decide) ?_
    exact x_iretW G hf hr dX12_level_23

theorem mX12_level {l : Launch} {S : KS} {w : Wd} (hI : Inj S) (M : Main S) {v1 : Int32} {r : Int32 × Wd} (hf : fX12_level v1 w = some r) : CI l yX12_level cX12_level 2 (some .int) 2 S [.ref 148, .int v1] w r.1 r.2 := by
  intro sz
  refine mk_entry rfl (by decide +kernel) hI 0 rfl rfl (fun K h1 h2 h3 h4 h5 h6 G => ?_)
  subst h2
  exact xX12_level_e G M hf ⟨h3, by rw [h4, h6], h5⟩

set_option maxHeartbeats 4000000 in
set_option maxRecDepth 100000 in
theorem xX12_lift_99 {K : KT} {v1 : Int32} {v2 : Int32} {v3 : Int32} {v4 : Int32} {w : Wd} {r : Int32 × Wd} (G : GK K cX12_lift RX12 6 3) (M : Main K.ks) (hf : fX12_lift_99 v1 v2 v3 v4 w = some r) (hr : RI K .int r.1 r.2) : XW K 99 [some (.ref 148), some (.int v1), some (.int v2), some (.int v3), some (.int v4), none] [] w := by
  unfold fX12_lift_99 at hf
  refine x_sipush G (v := 1500) dX12_lift_99 (by decide) ?_
  refine x_bipush G (v := 10) dX12_lift_102 (by decide) ?_
  refine x_iload_n G dX12_lift_104 rfl rfl ?_
  refine x_imul G dX12_lift_105 ?_
  refine x_iadd G dX12_lift_106 ?_
  refine x_istore G (lv' := [some (.ref 148), some (.int v1), some (.int v2), some (.int v3), some (.int v4), some (.int ((1500 : Int32) + ((10 : Int32) * v1)))]) dX12_lift_107 rfl rfl rfl ?_
  refine x_aload_n G dX12_lift_109 rfl rfl ?_
  refine x_getR G (kd148 M) 1 (b := 149) rfl cl12 rfl wf_X12_13 dX12_lift_110 ?_
  refine x_iload G dX12_lift_113 rfl ?_
  refine x_iconst G (v := 0) dX12_lift_115 (by decide) ?_
  refine x_iadd G dX12_lift_116 ?_
  refine x_iconst G (v := 1) dX12_lift_117 (by decide) ?_
  refine x_iast G (kd149 M) dX12_lift_118 hf (fun hb_1 hf => ?_)
  refine nwr hf (fun w_2 hf => ?_)
  refine x_aload_n G dX12_lift_119 rfl rfl ?_
  refine x_getR G (kd148 M) 1 (b := 149) rfl cl12 rfl wf_X12_13 dX12_lift_120 ?_
  refine x_iload G dX12_lift_123 rfl ?_
  refine x_iconst G (v := 1) dX12_lift_125 (by decide) ?_
  refine x_iadd G dX12_lift_126 ?_
  refine x_iload_n G dX12_lift_127 rfl rfl ?_
  refine x_iast G (kd149 M) dX12_lift_128 hf (fun hb_3 hf => ?_)
  refine nwr hf (fun w_4 hf => ?_)
  refine x_aload_n G dX12_lift_129 rfl rfl ?_
  refine x_getR G (kd148 M) 1 (b := 149) rfl cl12 rfl wf_X12_13 dX12_lift_130 ?_
  refine x_iload G dX12_lift_133 rfl ?_
  refine x_iconst G (v := 2) dX12_lift_135 (by decide) ?_
  refine x_iadd G dX12_lift_136 ?_
  refine x_iload_n G dX12_lift_137 rfl rfl ?_
  refine x_iast G (kd149 M) dX12_lift_138 hf (fun hb_5 hf => ?_)
  refine nwr hf (fun w_6 hf => ?_)
  refine x_aload_n G dX12_lift_139 rfl rfl ?_
  refine x_getR G (kd148 M) 1 (b := 149) rfl cl12 rfl wf_X12_13 dX12_lift_140 ?_
  refine x_iload G dX12_lift_143 rfl ?_
  refine x_iconst G (v := 3) dX12_lift_145 (by decide) ?_
  refine x_iadd G dX12_lift_146 ?_
  refine x_iload G dX12_lift_147 rfl ?_
  refine x_iast G (kd149 M) dX12_lift_149 hf (fun hb_7 hf => ?_)
  refine nwr hf (fun w_8 hf => ?_)
  refine x_aload_n G dX12_lift_150 rfl rfl ?_
  refine x_getR G (kd148 M) 1 (b := 149) rfl cl12 rfl wf_X12_13 dX12_lift_151 ?_
  refine x_iload G dX12_lift_154 rfl ?_
  refine x_iconst G (v := 4) dX12_lift_156 (by decide) ?_
  refine x_iadd G dX12_lift_157 ?_
  refine x_iconst G (v := 0) dX12_lift_158 (by decide) ?_
  refine x_iast G (kd149 M) dX12_lift_159 hf (fun hb_9 hf => ?_)
  refine nwr hf (fun w_10 hf => ?_)
  refine x_iconst G (v := 0) dX12_lift_160 (by decide) ?_
  exact x_iretW G hf hr dX12_lift_161

set_option maxHeartbeats 4000000 in
set_option maxRecDepth 100000 in
theorem xX12_lift_e {K : KT} {v1 : Int32} {v2 : Int32} {v3 : Int32} {v4 : Int32} {w : Wd} {r : Int32 × Wd} (G : GK K cX12_lift RX12 6 3) (M : Main K.ks) (hf : fX12_lift v1 v2 v3 v4 w = some r) (hr : RI K .int r.1 r.2) : XW K 0 [some (.ref 148), some (.int v1), some (.int v2), some (.int v3), some (.int v4), none] [] w := by
  unfold fX12_lift at hf
  refine x_aload_n G dX12_lift_0 rfl rfl ?_
  refine x_iconst G (v := 0) dX12_lift_1 (by decide) ?_
  refine x_putI G (kd148 M) 0 rfl cl12 rfl wf_X12_1 rfl rfl rfl dX12_lift_2 ?_
  refine nwr hf (fun w_1 hf => ?_)
  refine x_iload_n G dX12_lift_5 rfl rfl ?_
  obtain ⟨v_2, hv_2, hf⟩ := bnd hf
  refine x_staI G (As := [.int v1]) (mX12_isCell G.2.2.2.2.2.2.1 M hv_2) ms_X12_105 rfl rfl rfl rfl rfl dX12_lift_6 ?_
  refine x_ifeqB G (tgt := 49) dX12_lift_9 (by decide) hf (fun c_3 hf => ?_) (fun c_3 hf => ?_)
  · refine x_iload_n G dX12_lift_12 rfl rfl ?_
    obtain ⟨v_4, hv_4, hf⟩ := bnd hf
    refine x_staI G (As := [.int v2]) (mX12_isCell G.2.2.2.2.2.2.1 M hv_4) ms_X12_105 rfl rfl rfl rfl rfl dX12_lift_13 ?_
    refine x_ifeqB G (tgt := 49) dX12_lift_16 (by decide) hf (fun c_5 hf => ?_) (fun c_5 hf => ?_)
    · refine x_iload_n G dX12_lift_19 rfl rfl ?_
      refine x_i2l G dX12_lift_20 ?_
      refine x_lconst G (v := 1) dX12_lift_21 (by decide) ?_
      refine x_ldc2 G wl_X12_115 dX12_lift_22 ?_
      obtain ⟨v_6, hv_6, hf⟩ := bnd hf
      refine x_staI G (As := [.long v3.toInt64, .long (1 : Int64), .long (9999 : Int64)]) (mX12_in G.2.2.2.2.2.2.1 M hv_6) ms_X12_93 rfl rfl rfl rfl rfl dX12_lift_25 ?_
      refine x_ifeqB G (tgt := 49) dX12_lift_28 (by decide) hf (fun c_7 hf => ?_) (fun c_7 hf => ?_)
      · refine x_iload G dX12_lift_31 rfl ?_
        refine x_i2l G dX12_lift_33 ?_
        refine x_lconst G (v := 0) dX12_lift_34 (by decide) ?_
        refine x_ldc2 G wl_X12_115 dX12_lift_35 ?_
        obtain ⟨v_8, hv_8, hf⟩ := bnd hf
        refine x_staI G (As := [.long v4.toInt64, .long (0 : Int64), .long (9999 : Int64)]) (mX12_in G.2.2.2.2.2.2.1 M hv_8) ms_X12_93 rfl rfl rfl rfl rfl dX12_lift_38 ?_
        refine x_ifeqB G (tgt := 49) dX12_lift_41 (by decide) hf (fun c_9 hf => ?_) (fun c_9 hf => ?_)
        · refine x_iload_n G dX12_lift_44 rfl rfl ?_
          refine x_iload_n G dX12_lift_45 rfl rfl ?_
          refine x_icmpne G (tgt := 51) dX12_lift_46 (by decide) hf (fun c_10 hf => ?_) (fun c_10 hf => ?_)
          · refine x_iconst G (v := -1) dX12_lift_49 (by decide) ?_
            exact x_iretW G hf hr dX12_lift_50
          · refine x_aload_n G dX12_lift_51 rfl rfl ?_
            refine x_iload_n G dX12_lift_52 rfl rfl ?_
            refine x_iconst G (v := 0) dX12_lift_53 (by decide) ?_
            obtain ⟨v_11, hv_11, hf⟩ := bnd hf
            refine x_virI G (As := [.int v1, .int (0 : Int32)]) (mX12_h G.2.2.2.2.2.2.1 M hv_11) mv_X12_226 (kd148 M) cl12 rfl rfl rfl rfl rfl dX12_lift_54 ?_
            refine x_iconst G (v := 2) dX12_lift_57 (by decide) ?_
            refine x_icmpne G (tgt := 64) dX12_lift_58 (by decide) hf (fun c_12 hf => ?_) (fun c_12 hf => ?_)
            · refine x_bipush G (v := -3) dX12_lift_61 (by decide) ?_
              exact x_iretW G hf hr dX12_lift_63
            · refine x_aload_n G dX12_lift_64 rfl rfl ?_
              refine x_iload_n G dX12_lift_65 rfl rfl ?_
              refine x_iconst G (v := 0) dX12_lift_66 (by decide) ?_
              obtain ⟨v_13, hv_13, hf⟩ := bnd hf
              refine x_virI G (As := [.int v1, .int (0 : Int32)]) (mX12_h G.2.2.2.2.2.2.1 M hv_13) mv_X12_226 (kd148 M) cl12 rfl rfl rfl rfl rfl dX12_lift_67 ?_
              refine x_ifne G (tgt := 99) dX12_lift_70 (by decide) hf (fun c_14 hf => ?_) (fun c_14 hf => ?_)
              · refine x_aload_n G dX12_lift_73 rfl rfl ?_
                refine x_bipush G (v := 17) dX12_lift_74 (by decide) ?_
                obtain ⟨v_15, hv_15, hf⟩ := bnd hf
                refine x_virI G (As := [.int (17 : Int32)]) (mX12_g G.2.2.2.2.2.2.1 M hv_15) mv_X12_101 (kd148 M) cl12 rfl rfl rfl rfl rfl dX12_lift_76 ?_
                refine x_bipush G (v := 12) dX12_lift_79 (by decide) ?_
                refine x_icmpne G (tgt := 87) dX12_lift_81 (by decide) hf (fun c_16 hf => ?_) (fun c_16 hf => ?_)
                · refine x_bipush G (v := -2) dX12_lift_84 (by decide) ?_
                  exact x_iretW G hf hr dX12_lift_86
                · refine x_aload_n G dX12_lift_87 rfl rfl ?_
                  refine x_getR G (kd148 M) 1 (b := 149) rfl cl12 rfl wf_X12_13 dX12_lift_88 ?_
                  refine x_sipush G (v := 4317) dX12_lift_91 (by decide) ?_
                  refine x_dup2 G dX12_lift_94 rfl rfl ?_
                  refine x_iald0 G (kd149 M) dX12_lift_95 (by decide) ?_
                  refine x_iconst G (v := 1) dX12_lift_96 (by decide) ?_
                  refine x_iadd G dX12_lift_97 ?_
                  refine x_iast0 G (kd149 M) dX12_lift_98 (by decide) ?_
                  refine nwr hf (fun w_17 hf => ?_)
                  exact (xX12_lift_99 G M hf hr)
              · exact (xX12_lift_99 G M hf hr)
        · refine x_iconst G (v := -1) dX12_lift_49 (by decide) ?_
          exact x_iretW G hf hr dX12_lift_50
      · refine x_iconst G (v := -1) dX12_lift_49 (by decide) ?_
        exact x_iretW G hf hr dX12_lift_50
    · refine x_iconst G (v := -1) dX12_lift_49 (by decide) ?_
      exact x_iretW G hf hr dX12_lift_50
  · refine x_iconst G (v := -1) dX12_lift_49 (by decide) ?_
    exact x_iretW G hf hr dX12_lift_50

theorem mX12_lift {l : Launch} {S : KS} {w : Wd} (hI : Inj S) (M : Main S) {v1 : Int32} {v2 : Int32} {v3 : Int32} {v4 : Int32} {r : Int32 × Wd} (hf : fX12_lift v1 v2 v3 v4 w = some r) : CI l yX12_lift cX12_lift 6 (some .int) 3 S [.ref 148, .int v1, .int v2, .int v3, .int v4] w r.1 r.2 := by
  intro sz
  refine mk_entry rfl (by decide +kernel) hI 1 rfl rfl (fun K h1 h2 h3 h4 h5 h6 G => ?_)
  subst h2
  exact xX12_lift_e G M hf ⟨h3, by rw [h4, h6], h5⟩

set_option maxHeartbeats 4000000 in
set_option maxRecDepth 100000 in
theorem xX12_lineOf_25 {K : KT} {w : Wd} {r : Int32 × Wd} (G : GK K cX12_lineOf RX12 5 4) (M : Main K.ks) (hf : fX12_lineOf_25 w = some r) (hr : RI K .int r.1 r.2) : XW K 25 [some (.ref 148), none, none, none, none] [] w := by
  unfold fX12_lineOf_25 at hf
  refine x_aload_n G dX12_lineOf_25 rfl rfl ?_
  refine x_iconst G (v := 1) dX12_lineOf_26 (by decide) ?_
  refine x_putI G (kd148 M) 0 rfl cl12 rfl wf_X12_1 rfl rfl rfl dX12_lineOf_27 ?_
  refine nwr hf (fun w_1 hf => ?_)
  refine x_iconst G (v := 0) dX12_lineOf_30 (by decide) ?_
  exact x_iretW G hf hr dX12_lineOf_31

set_option maxHeartbeats 4000000 in
set_option maxRecDepth 100000 in
theorem xX12_lineOf_e {K : KT} {v1 : Int32} {v2 : Int32} {v3 : Int32} {w : Wd} {r : Int32 × Wd} (G : GK K cX12_lineOf RX12 5 4) (M : Main K.ks) (hf : fX12_lineOf v1 v2 v3 w = some r) (hr : RI K .int r.1 r.2) : XW K 0 [some (.ref 148), some (.int v1), some (.int v2), some (.int v3), none] [] w := by
  unfold fX12_lineOf at hf
  refine x_aload_n G dX12_lineOf_0 rfl rfl ?_
  refine x_iconst G (v := 0) dX12_lineOf_1 (by decide) ?_
  refine x_putI G (kd148 M) 0 rfl cl12 rfl wf_X12_1 rfl rfl rfl dX12_lineOf_2 ?_
  refine nwr hf (fun w_1 hf => ?_)
  refine x_aload_n G dX12_lineOf_5 rfl rfl ?_
  refine x_iload_n G dX12_lineOf_6 rfl rfl ?_
  obtain ⟨v_2, hv_2, hf⟩ := bnd hf
  refine x_virI G (As := [.int v1]) (mX12_isLine G.2.2.2.2.2.2.1 M hv_2) mv_X12_188 (kd148 M) cl12 rfl rfl rfl rfl rfl dX12_lineOf_7 ?_
  refine x_ifeqB G (tgt := 25) dX12_lineOf_10 (by decide) hf (fun c_3 hf => ?_) (fun c_3 hf => ?_)
  · refine x_iload_n G dX12_lineOf_13 rfl rfl ?_
    refine x_i2l G dX12_lineOf_14 ?_
    refine x_lconst G (v := 0) dX12_lineOf_15 (by decide) ?_
    refine x_ldc2 G wl_X12_191 dX12_lineOf_16 ?_
    obtain ⟨v_4, hv_4, hf⟩ := bnd hf
    refine x_staI G (As := [.long v3.toInt64, .long (0 : Int64), .long (6 : Int64)]) (mX12_in G.2.2.2.2.2.2.1 M hv_4) ms_X12_93 rfl rfl rfl rfl rfl dX12_lineOf_19 ?_
    refine x_ifneB G (tgt := 32) dX12_lineOf_22 (by decide) hf (fun c_5 hf => ?_) (fun c_5 hf => ?_)
    · refine x_iload_n G dX12_lineOf_32 rfl rfl ?_
      refine x_i2l G dX12_lineOf_33 ?_
      refine x_lconst G (v := 0) dX12_lineOf_34 (by decide) ?_
      refine x_aload_n G dX12_lineOf_35 rfl rfl ?_
      refine x_iload_n G dX12_lineOf_36 rfl rfl ?_
      refine x_iconst G (v := 0) dX12_lineOf_37 (by decide) ?_
      obtain ⟨v_6, hv_6, hf⟩ := bnd hf
      refine x_virI G (As := [.int v1, .int (0 : Int32)]) (mX12_l G.2.2.2.2.2.2.1 M hv_6) mv_X12_193 (kd148 M) cl12 rfl rfl rfl rfl rfl dX12_lineOf_38 ?_
      refine x_iconst G (v := 1) dX12_lineOf_41 (by decide) ?_
      refine x_isub G dX12_lineOf_42 ?_
      refine x_i2l G dX12_lineOf_43 ?_
      obtain ⟨v_7, hv_7, hf⟩ := bnd hf
      refine x_staI G (As := [.long v2.toInt64, .long (0 : Int64), .long ((v_6 - (1 : Int32)).toInt64)]) (mX12_in G.2.2.2.2.2.2.1 M hv_7) ms_X12_93 rfl rfl rfl rfl rfl dX12_lineOf_44 ?_
      refine x_ifneB G (tgt := 57) dX12_lineOf_47 (by decide) hf (fun c_8 hf => ?_) (fun c_8 hf => ?_)
      · refine x_aload_n G dX12_lineOf_57 rfl rfl ?_
        refine x_iload_n G dX12_lineOf_58 rfl rfl ?_
        refine x_iload_n G dX12_lineOf_59 rfl rfl ?_
        obtain ⟨v_9, hv_9, hf⟩ := bnd hf
        refine x_virI G (As := [.int v1, .int v2]) (mX12_spot G.2.2.2.2.2.2.1 M hv_9) mv_X12_185 (kd148 M) cl12 rfl rfl rfl rfl rfl dX12_lineOf_60 ?_
        refine x_istore G (lv' := [some (.ref 148), some (.int v1), some (.int v2), some (.int v3), some (.int v_9)]) dX12_lineOf_63 rfl rfl rfl ?_
        refine x_iload_n G dX12_lineOf_65 rfl rfl ?_
        refine x_iconst G (v := 2) dX12_lineOf_66 (by decide) ?_
        refine x_icmpge G (tgt := 82) dX12_lineOf_67 (by decide) hf (fun c_10 hf => ?_) (fun c_10 hf => ?_)
        · refine x_aload_n G dX12_lineOf_70 rfl rfl ?_
          refine x_getR G (kd148 M) 1 (b := 149) rfl cl12 rfl wf_X12_13 dX12_lineOf_71 ?_
          refine x_iload G dX12_lineOf_74 rfl ?_
          refine x_iload_n G dX12_lineOf_76 rfl rfl ?_
          refine x_iadd G dX12_lineOf_77 ?_
          refine x_iald G (kd149 M) dX12_lineOf_78 hf (fun hb_11 hf => ?_)
          refine x_goto G (tgt := 107) dX12_lineOf_79 (by decide) ?_
          exact x_iretW G hf hr dX12_lineOf_107
        · refine x_iload_n G dX12_lineOf_82 rfl rfl ?_
          refine x_iconst G (v := 2) dX12_lineOf_83 (by decide) ?_
          refine x_icmpne G (tgt := 96) dX12_lineOf_84 (by decide) hf (fun c_12 hf => ?_) (fun c_12 hf => ?_)
          · refine x_aload_n G dX12_lineOf_87 rfl rfl ?_
            refine x_iload G dX12_lineOf_88 rfl ?_
            obtain ⟨v_13, hv_13, hf⟩ := bnd hf
            refine x_virI G (As := [.int v_9]) (mX12_digAt G.2.2.2.2.2.2.1 M hv_13) mv_X12_196 (kd148 M) cl12 rfl rfl rfl rfl rfl dX12_lineOf_90 ?_
            refine x_goto G (tgt := 107) dX12_lineOf_93 (by decide) ?_
            exact x_iretW G hf hr dX12_lineOf_107
          · refine x_aload_n G dX12_lineOf_96 rfl rfl ?_
            refine x_getR G (kd148 M) 1 (b := 149) rfl cl12 rfl wf_X12_13 dX12_lineOf_97 ?_
            refine x_iload G dX12_lineOf_100 rfl ?_
            refine x_iload_n G dX12_lineOf_102 rfl rfl ?_
            refine x_iadd G dX12_lineOf_103 ?_
            refine x_iconst G (v := 1) dX12_lineOf_104 (by decide) ?_
            refine x_isub G dX12_lineOf_105 ?_
            refine x_iald G (kd149 M) dX12_lineOf_106 hf (fun hb_14 hf => ?_)
            exact x_iretW G hf hr dX12_lineOf_107
      · refine x_aload_n G dX12_lineOf_50 rfl rfl ?_
        refine x_iconst G (v := 2) dX12_lineOf_51 (by decide) ?_
        refine x_putI G (kd148 M) 0 rfl cl12 rfl wf_X12_1 rfl rfl rfl dX12_lineOf_52 ?_
        refine nwr hf (fun w_15 hf => ?_)
        refine x_iconst G (v := 0) dX12_lineOf_55 (by decide) ?_
        exact x_iretW G hf hr dX12_lineOf_56
    · exact XW.sub (lv' := [some (.ref 148), none, none, none, none]) (And.intro rfl trivial) (xX12_lineOf_25 G M hf hr)
  · exact XW.sub (lv' := [some (.ref 148), none, none, none, none]) (And.intro rfl trivial) (xX12_lineOf_25 G M hf hr)

theorem mX12_lineOf {l : Launch} {S : KS} {w : Wd} (hI : Inj S) (M : Main S) {v1 : Int32} {v2 : Int32} {v3 : Int32} {r : Int32 × Wd} (hf : fX12_lineOf v1 v2 v3 w = some r) : CI l yX12_lineOf cX12_lineOf 5 (some .int) 4 S [.ref 148, .int v1, .int v2, .int v3] w r.1 r.2 := by
  intro sz
  refine mk_entry rfl (by decide +kernel) hI 1 rfl rfl (fun K h1 h2 h3 h4 h5 h6 G => ?_)
  subst h2
  exact xX12_lineOf_e G M hf ⟨h3, by rw [h4, h6], h5⟩

set_option maxHeartbeats 4000000 in
set_option maxRecDepth 100000 in
theorem xX12_isBeside_e {K : KT} {v0 : Int32} {v1 : Int32} {w : Wd} {r : Bool} (G : GK K cX12_isBeside RX12 2 3) (M : Main K.ks) (hf : fX12_isBeside v0 v1 w = some r) (hr : RI K .boolean (bI r) w) : XW K 0 [some (.int v0), some (.int v1)] [] w := by
  unfold fX12_isBeside at hf
  refine x_iload_n G dX12_isBeside_0 rfl rfl ?_
  obtain ⟨v_1, hv_1, hf⟩ := bnd hf
  refine x_staI G (As := [.int v1]) (mX12_isCell G.2.2.2.2.2.2.1 M hv_1) ms_X12_105 rfl rfl rfl rfl rfl dX12_isBeside_1 ?_
  refine x_ifeqB G (tgt := 20) dX12_isBeside_4 (by decide) hf (fun c_2 hf => ?_) (fun c_2 hf => ?_)
  · refine x_iload_n G dX12_isBeside_7 rfl rfl ?_
    refine x_iload_n G dX12_isBeside_8 rfl rfl ?_
    obtain ⟨v_3, hv_3, hf⟩ := bnd hf
    refine x_staI G (As := [.int v0, .int v1]) (mX12_near G.2.2.2.2.2.2.1 M hv_3) ms_X12_150 rfl rfl rfl rfl rfl dX12_isBeside_9 ?_
    refine x_iconst G (v := 1) dX12_isBeside_12 (by decide) ?_
    refine x_icmpne G (tgt := 20) dX12_isBeside_13 (by decide) hf (fun c_4 hf => ?_) (fun c_4 hf => ?_)
    · refine x_iconst G (v := 1) dX12_isBeside_16 (by decide) ?_
      refine x_goto G (tgt := 21) dX12_isBeside_17 (by decide) ?_
      exact x_zretP G hf hr dX12_isBeside_21
    · refine x_iconst G (v := 0) dX12_isBeside_20 (by decide) ?_
      exact x_zretP G hf hr dX12_isBeside_21
  · refine x_iconst G (v := 0) dX12_isBeside_20 (by decide) ?_
    exact x_zretP G hf hr dX12_isBeside_21

theorem mX12_isBeside {l : Launch} {S : KS} {w : Wd} (hI : Inj S) (M : Main S) {v0 : Int32} {v1 : Int32} {r : Bool} (hf : fX12_isBeside v0 v1 w = some r) : CI l yX12_isBeside cX12_isBeside 2 (some .boolean) 3 S [.int v0, .int v1] w (bI r) w := by
  intro sz
  refine mk_entry rfl (by decide +kernel) hI 0 rfl rfl (fun K h1 h2 h3 h4 h5 h6 G => ?_)
  subst h2
  exact xX12_isBeside_e G M hf ⟨h3, by rw [h4, h6], h5⟩

set_option maxHeartbeats 4000000 in
set_option maxRecDepth 100000 in
theorem xX12_map_25 {K : KT} {v1 : Int32} {v2 : Int32} {v3 : Int32} {w : Wd} {r : Int32 × Wd} (G : GK K cX12_map RX12 4 4) (M : Main K.ks) (hf : fX12_map_25 v1 v2 v3 w = some r) (hr : RI K .int r.1 r.2) : XW K 25 [some (.ref 148), some (.int v1), some (.int v2), some (.int v3)] [] w := by
  unfold fX12_map_25 at hf
  refine x_iload_n G dX12_map_25 rfl rfl ?_
  refine x_i2l G dX12_map_26 ?_
  refine x_lconst G (v := 0) dX12_map_27 (by decide) ?_
  refine x_ldc2 G wl_X12_111 dX12_map_28 ?_
  obtain ⟨v_1, hv_1, hf⟩ := bnd hf
  refine x_staI G (As := [.long v3.toInt64, .long (0 : Int64), .long (300 : Int64)]) (mX12_in G.2.2.2.2.2.2.1 M hv_1) ms_X12_93 rfl rfl rfl rfl rfl dX12_map_31 ?_
  refine x_ifneB G (tgt := 39) dX12_map_34 (by decide) hf (fun c_2 hf => ?_) (fun c_2 hf => ?_)
  · refine x_aload_n G dX12_map_39 rfl rfl ?_
    refine x_bipush G (v := 16) dX12_map_40 (by decide) ?_
    obtain ⟨v_3, hv_3, hf⟩ := bnd hf
    refine x_virI G (As := [.int (16 : Int32)]) (mX12_g G.2.2.2.2.2.2.1 M hv_3) mv_X12_101 (kd148 M) cl12 rfl rfl rfl rfl rfl dX12_map_42 ?_
    refine x_sipush G (v := 200) dX12_map_45 (by decide) ?_
    refine x_icmpne G (tgt := 56) dX12_map_48 (by decide) hf (fun c_4 hf => ?_) (fun c_4 hf => ?_)
    · refine x_bipush G (v := -2) dX12_map_51 (by decide) ?_
      refine x_goto G (tgt := 63) dX12_map_53 (by decide) ?_
      exact x_iretW G hf hr dX12_map_63
    · refine x_aload_n G dX12_map_56 rfl rfl ?_
      refine x_iload_n G dX12_map_57 rfl rfl ?_
      refine x_iload_n G dX12_map_58 rfl rfl ?_
      refine x_iload_n G dX12_map_59 rfl rfl ?_
      obtain ⟨v_5, hv_5, hf⟩ := bnd hf
      refine x_virI G (As := [.int v1, .int v2, .int v3]) (mX12_tells G.2.2.2.2.2.2.1 M hv_5) mv_X12_163 (kd148 M) cl12 rfl rfl rfl rfl rfl dX12_map_60 ?_
      exact x_iretW G hf hr dX12_map_63
  · refine x_iconst G (v := -1) dX12_map_37 (by decide) ?_
    exact x_iretW G hf hr dX12_map_38

set_option maxHeartbeats 4000000 in
set_option maxRecDepth 100000 in
theorem xX12_map_e {K : KT} {v1 : Int32} {v2 : Int32} {v3 : Int32} {w : Wd} {r : Int32 × Wd} (G : GK K cX12_map RX12 4 4) (M : Main K.ks) (hf : fX12_map v1 v2 v3 w = some r) (hr : RI K .int r.1 r.2) : XW K 0 [some (.ref 148), some (.int v1), some (.int v2), some (.int v3)] [] w := by
  unfold fX12_map at hf
  refine x_aload_n G dX12_map_0 rfl rfl ?_
  refine x_iconst G (v := 0) dX12_map_1 (by decide) ?_
  refine x_putI G (kd148 M) 0 rfl cl12 rfl wf_X12_1 rfl rfl rfl dX12_map_2 ?_
  refine nwr hf (fun w_1 hf => ?_)
  refine x_iload_n G dX12_map_5 rfl rfl ?_
  obtain ⟨v_2, hv_2, hf⟩ := bnd hf
  refine x_staI G (As := [.int v1]) (mX12_isCell G.2.2.2.2.2.2.1 M hv_2) ms_X12_105 rfl rfl rfl rfl rfl dX12_map_6 ?_
  refine x_ifeqB G (tgt := 37) dX12_map_9 (by decide) hf (fun c_3 hf => ?_) (fun c_3 hf => ?_)
  · refine x_iload_n G dX12_map_12 rfl rfl ?_
    refine x_iconst G (v := -1) dX12_map_13 (by decide) ?_
    refine x_icmpeq G (tgt := 25) dX12_map_14 (by decide) hf (fun c_4 hf => ?_) (fun c_4 hf => ?_)
    · exact (xX12_map_25 G M hf hr)
    · refine x_iload_n G dX12_map_17 rfl rfl ?_
      refine x_iload_n G dX12_map_18 rfl rfl ?_
      obtain ⟨v_5, hv_5, hf⟩ := bnd hf
      refine x_staI G (As := [.int v1, .int v2]) (mX12_isBeside G.2.2.2.2.2.2.1 M hv_5) ms_X12_153 rfl rfl rfl rfl rfl dX12_map_19 ?_
      refine x_ifeqB G (tgt := 37) dX12_map_22 (by decide) hf (fun c_6 hf => ?_) (fun c_6 hf => ?_)
      · exact (xX12_map_25 G M hf hr)
      · refine x_iconst G (v := -1) dX12_map_37 (by decide) ?_
        exact x_iretW G hf hr dX12_map_38
  · refine x_iconst G (v := -1) dX12_map_37 (by decide) ?_
    exact x_iretW G hf hr dX12_map_38

theorem mX12_map {l : Launch} {S : KS} {w : Wd} (hI : Inj S) (M : Main S) {v1 : Int32} {v2 : Int32} {v3 : Int32} {r : Int32 × Wd} (hf : fX12_map v1 v2 v3 w = some r) : CI l yX12_map cX12_map 4 (some .int) 4 S [.ref 148, .int v1, .int v2, .int v3] w r.1 r.2 := by
  intro sz
  refine mk_entry rfl (by decide +kernel) hI 0 rfl rfl (fun K h1 h2 h3 h4 h5 h6 G => ?_)
  subst h2
  exact xX12_map_e G M hf ⟨h3, by rw [h4, h6], h5⟩

set_option maxHeartbeats 4000000 in
set_option maxRecDepth 100000 in
theorem xX12_mapOf_e {K : KT} {v1 : Int32} {v2 : Int32} {v3 : Int32} {w : Wd} {r : Int32 × Wd} (G : GK K cX12_mapOf RX12 5 3) (M : Main K.ks) (hf : fX12_mapOf v1 v2 v3 w = some r) (hr : RI K .int r.1 r.2) : XW K 0 [some (.ref 148), some (.int v1), some (.int v2), some (.int v3), none] [] w := by
  unfold fX12_mapOf at hf
  refine x_aload_n G dX12_mapOf_0 rfl rfl ?_
  refine x_iconst G (v := 0) dX12_mapOf_1 (by decide) ?_
  refine x_putI G (kd148 M) 0 rfl cl12 rfl wf_X12_1 rfl rfl rfl dX12_mapOf_2 ?_
  refine nwr hf (fun w_1 hf => ?_)
  refine x_iload_n G dX12_mapOf_5 rfl rfl ?_
  obtain ⟨v_2, hv_2, hf⟩ := bnd hf
  refine x_staI G (As := [.int v1]) (mX12_isCell G.2.2.2.2.2.2.1 M hv_2) ms_X12_105 rfl rfl rfl rfl rfl dX12_mapOf_6 ?_
  refine x_ifeqB G (tgt := 34) dX12_mapOf_9 (by decide) hf (fun c_3 hf => ?_) (fun c_3 hf => ?_)
  · refine x_iload_n G dX12_mapOf_12 rfl rfl ?_
    refine x_i2l G dX12_mapOf_13 ?_
    refine x_lconst G (v := 0) dX12_mapOf_14 (by decide) ?_
    refine x_lconst G (v := 1) dX12_mapOf_15 (by decide) ?_
    obtain ⟨v_4, hv_4, hf⟩ := bnd hf
    refine x_staI G (As := [.long v2.toInt64, .long (0 : Int64), .long (1 : Int64)]) (mX12_in G.2.2.2.2.2.2.1 M hv_4) ms_X12_93 rfl rfl rfl rfl rfl dX12_mapOf_16 ?_
    refine x_ifeqB G (tgt := 34) dX12_mapOf_19 (by decide) hf (fun c_5 hf => ?_) (fun c_5 hf => ?_)
    · refine x_iload_n G dX12_mapOf_22 rfl rfl ?_
      refine x_i2l G dX12_mapOf_23 ?_
      refine x_lconst G (v := 0) dX12_mapOf_24 (by decide) ?_
      refine x_ldc2 G wl_X12_170 dX12_mapOf_25 ?_
      obtain ⟨v_6, hv_6, hf⟩ := bnd hf
      refine x_staI G (As := [.long v3.toInt64, .long (0 : Int64), .long (4999 : Int64)]) (mX12_in G.2.2.2.2.2.2.1 M hv_6) ms_X12_93 rfl rfl rfl rfl rfl dX12_mapOf_28 ?_
      refine x_ifneB G (tgt := 36) dX12_mapOf_31 (by decide) hf (fun c_7 hf => ?_) (fun c_7 hf => ?_)
      · refine x_aload_n G dX12_mapOf_36 rfl rfl ?_
        refine x_iload_n G dX12_mapOf_37 rfl rfl ?_
        refine x_iload_n G dX12_mapOf_38 rfl rfl ?_
        obtain ⟨v_8, hv_8, hf⟩ := bnd hf
        refine x_virI G (As := [.int v1, .int v3]) (mX12_telling G.2.2.2.2.2.2.1 M hv_8) mv_X12_167 (kd148 M) cl12 rfl rfl rfl rfl rfl dX12_mapOf_39 ?_
        refine x_istore G (lv' := [some (.ref 148), some (.int v1), some (.int v2), some (.int v3), some (.int v_8)]) dX12_mapOf_42 rfl rfl rfl ?_
        refine x_iload G dX12_mapOf_44 rfl ?_
        refine x_iconst G (v := -1) dX12_mapOf_46 (by decide) ?_
        refine x_icmpne G (tgt := 55) dX12_mapOf_47 (by decide) hf (fun c_9 hf => ?_) (fun c_9 hf => ?_)
        · refine x_bipush G (v := -9) dX12_mapOf_50 (by decide) ?_
          refine x_goto G (tgt := 66) dX12_mapOf_52 (by decide) ?_
          exact x_iretW G hf hr dX12_mapOf_66
        · refine x_aload_n G dX12_mapOf_55 rfl rfl ?_
          refine x_getR G (kd148 M) 1 (b := 149) rfl cl12 rfl wf_X12_13 dX12_mapOf_56 ?_
          refine x_iload G dX12_mapOf_59 rfl ?_
          refine x_iconst G (v := 1) dX12_mapOf_61 (by decide) ?_
          refine x_iadd G dX12_mapOf_62 ?_
          refine x_iload_n G dX12_mapOf_63 rfl rfl ?_
          refine x_iadd G dX12_mapOf_64 ?_
          refine x_iald G (kd149 M) dX12_mapOf_65 hf (fun hb_10 hf => ?_)
          exact x_iretW G hf hr dX12_mapOf_66
      · refine x_iconst G (v := -1) dX12_mapOf_34 (by decide) ?_
        exact x_iretW G hf hr dX12_mapOf_35
    · refine x_iconst G (v := -1) dX12_mapOf_34 (by decide) ?_
      exact x_iretW G hf hr dX12_mapOf_35
  · refine x_iconst G (v := -1) dX12_mapOf_34 (by decide) ?_
    exact x_iretW G hf hr dX12_mapOf_35

theorem mX12_mapOf {l : Launch} {S : KS} {w : Wd} (hI : Inj S) (M : Main S) {v1 : Int32} {v2 : Int32} {v3 : Int32} {r : Int32 × Wd} (hf : fX12_mapOf v1 v2 v3 w = some r) : CI l yX12_mapOf cX12_mapOf 5 (some .int) 3 S [.ref 148, .int v1, .int v2, .int v3] w r.1 r.2 := by
  intro sz
  refine mk_entry rfl (by decide +kernel) hI 1 rfl rfl (fun K h1 h2 h3 h4 h5 h6 G => ?_)
  subst h2
  exact xX12_mapOf_e G M hf ⟨h3, by rw [h4, h6], h5⟩

set_option maxHeartbeats 4000000 in
set_option maxRecDepth 100000 in
theorem xX12_of_e {K : KT} {v1 : Int32} {v2 : Int32} {w : Wd} {r : Int32 × Wd} (G : GK K cX12_of RX12 3 7) (M : Main K.ks) (hf : fX12_of v1 v2 w = some r) (hr : RI K .int r.1 r.2) : XW K 0 [some (.ref 148), some (.int v1), some (.int v2)] [] w := by
  unfold fX12_of at hf
  refine x_aload_n G dX12_of_0 rfl rfl ?_
  refine x_iconst G (v := 0) dX12_of_1 (by decide) ?_
  refine x_putI G (kd148 M) 0 rfl cl12 rfl wf_X12_1 rfl rfl rfl dX12_of_2 ?_
  refine nwr hf (fun w_1 hf => ?_)
  refine x_iload_n G dX12_of_5 rfl rfl ?_
  obtain ⟨v_2, hv_2, hf⟩ := bnd hf
  refine x_staI G (As := [.int v1]) (mX12_isCell G.2.2.2.2.2.2.1 M hv_2) ms_X12_105 rfl rfl rfl rfl rfl dX12_of_6 ?_
  refine x_ifneB G (tgt := 19) dX12_of_9 (by decide) hf (fun c_3 hf => ?_) (fun c_3 hf => ?_)
  · refine x_iload_n G dX12_of_19 rfl rfl ?_
    refine x_i2l G dX12_of_20 ?_
    refine x_lconst G (v := 0) dX12_of_21 (by decide) ?_
    refine x_ldc2 G wl_X12_120 dX12_of_22 ?_
    obtain ⟨v_4, hv_4, hf⟩ := bnd hf
    refine x_staI G (As := [.long v2.toInt64, .long (0 : Int64), .long (16 : Int64)]) (mX12_in G.2.2.2.2.2.2.1 M hv_4) ms_X12_93 rfl rfl rfl rfl rfl dX12_of_25 ?_
    refine x_ifneB G (tgt := 38) dX12_of_28 (by decide) hf (fun c_5 hf => ?_) (fun c_5 hf => ?_)
    · refine x_iload_n G dX12_of_38 rfl rfl ?_
      refine x_bipush G (v := 13) dX12_of_39 (by decide) ?_
      refine x_icmpge G (tgt := 51) dX12_of_41 (by decide) hf (fun c_6 hf => ?_) (fun c_6 hf => ?_)
      · refine x_aload_n G dX12_of_44 rfl rfl ?_
        refine x_iload_n G dX12_of_45 rfl rfl ?_
        refine x_iload_n G dX12_of_46 rfl rfl ?_
        obtain ⟨v_7, hv_7, hf⟩ := bnd hf
        refine x_virI G (As := [.int v1, .int v2]) (mX12_c G.2.2.2.2.2.2.1 M hv_7) mv_X12_117 (kd148 M) cl12 rfl rfl rfl rfl rfl dX12_of_47 ?_
        exact x_iretW G hf hr dX12_of_50
      · refine x_iload_n G dX12_of_51 rfl rfl ?_
        refine x_bipush G (v := 13) dX12_of_52 (by decide) ?_
        refine x_icmpne G (tgt := 65) dX12_of_54 (by decide) hf (fun c_8 hf => ?_) (fun c_8 hf => ?_)
        · refine x_aload_n G dX12_of_57 rfl rfl ?_
          refine x_iload_n G dX12_of_58 rfl rfl ?_
          obtain ⟨v_9, hv_9, hf⟩ := bnd hf
          refine x_virI G (As := [.int v1]) (mX12_holdOf G.2.2.2.2.2.2.1 M hv_9) mv_X12_122 (kd148 M) cl12 rfl rfl rfl rfl rfl dX12_of_59 ?_
          refine x_goto G (tgt := 110) dX12_of_62 (by decide) ?_
          exact x_iretW G hf hr dX12_of_110
        · refine x_iload_n G dX12_of_65 rfl rfl ?_
          refine x_bipush G (v := 14) dX12_of_66 (by decide) ?_
          refine x_icmpne G (tgt := 81) dX12_of_68 (by decide) hf (fun c_10 hf => ?_) (fun c_10 hf => ?_)
          · refine x_aload_n G dX12_of_71 rfl rfl ?_
            refine x_iload_n G dX12_of_72 rfl rfl ?_
            refine x_bipush G (v := 13) dX12_of_73 (by decide) ?_
            obtain ⟨v_11, hv_11, hf⟩ := bnd hf
            refine x_virI G (As := [.int v1, .int (13 : Int32)]) (mX12_c G.2.2.2.2.2.2.1 M hv_11) mv_X12_117 (kd148 M) cl12 rfl rfl rfl rfl rfl dX12_of_75 ?_
            refine x_goto G (tgt := 110) dX12_of_78 (by decide) ?_
            exact x_iretW G hf hr dX12_of_110
          · refine x_iload_n G dX12_of_81 rfl rfl ?_
            refine x_bipush G (v := 15) dX12_of_82 (by decide) ?_
            refine x_icmpne G (tgt := 103) dX12_of_84 (by decide) hf (fun c_12 hf => ?_) (fun c_12 hf => ?_)
            · refine x_aload_n G dX12_of_87 rfl rfl ?_
              refine x_iload_n G dX12_of_88 rfl rfl ?_
              obtain ⟨v_13, hv_13, hf⟩ := bnd hf
              refine x_virI G (As := [.int v1]) (mX12_isShut G.2.2.2.2.2.2.1 M hv_13) mv_X12_125 (kd148 M) cl12 rfl rfl rfl rfl rfl dX12_of_89 ?_
              refine x_ifeqB G (tgt := 99) dX12_of_92 (by decide) hf (fun c_14 hf => ?_) (fun c_14 hf => ?_)
              · refine x_iconst G (v := 1) dX12_of_95 (by decide) ?_
                refine x_goto G (tgt := 110) dX12_of_96 (by decide) ?_
                exact x_iretW G hf hr dX12_of_110
              · refine x_iconst G (v := 0) dX12_of_99 (by decide) ?_
                refine x_goto G (tgt := 110) dX12_of_100 (by decide) ?_
                exact x_iretW G hf hr dX12_of_110
            · refine x_aload_n G dX12_of_103 rfl rfl ?_
              refine x_iload_n G dX12_of_104 rfl rfl ?_
              refine x_bipush G (v := 14) dX12_of_105 (by decide) ?_
              obtain ⟨v_15, hv_15, hf⟩ := bnd hf
              refine x_virI G (As := [.int v1, .int (14 : Int32)]) (mX12_c G.2.2.2.2.2.2.1 M hv_15) mv_X12_117 (kd148 M) cl12 rfl rfl rfl rfl rfl dX12_of_107 ?_
              exact x_iretW G hf hr dX12_of_110
    · refine x_aload_n G dX12_of_31 rfl rfl ?_
      refine x_iconst G (v := 2) dX12_of_32 (by decide) ?_
      refine x_putI G (kd148 M) 0 rfl cl12 rfl wf_X12_1 rfl rfl rfl dX12_of_33 ?_
      refine nwr hf (fun w_16 hf => ?_)
      refine x_iconst G (v := 0) dX12_of_36 (by decide) ?_
      exact x_iretW G hf hr dX12_of_37
  · refine x_aload_n G dX12_of_12 rfl rfl ?_
    refine x_iconst G (v := 1) dX12_of_13 (by decide) ?_
    refine x_putI G (kd148 M) 0 rfl cl12 rfl wf_X12_1 rfl rfl rfl dX12_of_14 ?_
    refine nwr hf (fun w_17 hf => ?_)
    refine x_iconst G (v := 0) dX12_of_17 (by decide) ?_
    exact x_iretW G hf hr dX12_of_18

theorem mX12_of {l : Launch} {S : KS} {w : Wd} (hI : Inj S) (M : Main S) {v1 : Int32} {v2 : Int32} {r : Int32 × Wd} (hf : fX12_of v1 v2 w = some r) : CI l yX12_of cX12_of 3 (some .int) 7 S [.ref 148, .int v1, .int v2] w r.1 r.2 := by
  intro sz
  refine mk_entry rfl (by decide +kernel) hI 0 rfl rfl (fun K h1 h2 h3 h4 h5 h6 G => ?_)
  subst h2
  exact xX12_of_e G M hf ⟨h3, by rw [h4, h6], h5⟩

set_option maxHeartbeats 4000000 in
set_option maxRecDepth 100000 in
theorem xX12_old_25 {K : KT} {v1 : Int32} {v2 : Int32} {v3 : Int32} {v4 : Int32} {w : Wd} {r : Int32 × Wd} (G : GK K cX12_old RX12 5 4) (M : Main K.ks) (hf : fX12_old_25 v1 v2 v3 v4 w = some r) (hr : RI K .int r.1 r.2) : XW K 25 [some (.ref 148), some (.int v1), some (.int v2), some (.int v3), some (.int v4)] [] w := by
  unfold fX12_old_25 at hf
  refine x_iload_n G dX12_old_25 rfl rfl ?_
  refine x_i2l G dX12_old_26 ?_
  refine x_lconst G (v := 0) dX12_old_27 (by decide) ?_
  refine x_ldc2 G wl_X12_111 dX12_old_28 ?_
  obtain ⟨v_1, hv_1, hf⟩ := bnd hf
  refine x_staI G (As := [.long v3.toInt64, .long (0 : Int64), .long (300 : Int64)]) (mX12_in G.2.2.2.2.2.2.1 M hv_1) ms_X12_93 rfl rfl rfl rfl rfl dX12_old_31 ?_
  refine x_ifeqB G (tgt := 50) dX12_old_34 (by decide) hf (fun c_2 hf => ?_) (fun c_2 hf => ?_)
  · refine x_iload G dX12_old_37 rfl ?_
    refine x_i2l G dX12_old_39 ?_
    refine x_lconst G (v := 0) dX12_old_40 (by decide) ?_
    refine x_ldc2 G wl_X12_157 dX12_old_41 ?_
    obtain ⟨v_3, hv_3, hf⟩ := bnd hf
    refine x_staI G (As := [.long v4.toInt64, .long (0 : Int64), .long (9 : Int64)]) (mX12_in G.2.2.2.2.2.2.1 M hv_3) ms_X12_93 rfl rfl rfl rfl rfl dX12_old_44 ?_
    refine x_ifneB G (tgt := 52) dX12_old_47 (by decide) hf (fun c_4 hf => ?_) (fun c_4 hf => ?_)
    · refine x_aload_n G dX12_old_52 rfl rfl ?_
      refine x_getR G (kd148 M) 1 (b := 149) rfl cl12 rfl wf_X12_13 dX12_old_53 ?_
      refine x_bipush G (v := 15) dX12_old_56 (by decide) ?_
      refine x_iload_n G dX12_old_58 rfl rfl ?_
      refine x_imul G dX12_old_59 ?_
      refine x_bipush G (v := 6) dX12_old_60 (by decide) ?_
      refine x_iadd G dX12_old_62 ?_
      refine x_iload_n G dX12_old_63 rfl rfl ?_
      refine x_iast G (kd149 M) dX12_old_64 hf (fun hb_5 hf => ?_)
      refine nwr hf (fun w_6 hf => ?_)
      refine x_aload_n G dX12_old_65 rfl rfl ?_
      refine x_getR G (kd148 M) 1 (b := 149) rfl cl12 rfl wf_X12_13 dX12_old_66 ?_
      refine x_bipush G (v := 15) dX12_old_69 (by decide) ?_
      refine x_iload_n G dX12_old_71 rfl rfl ?_
      refine x_imul G dX12_old_72 ?_
      refine x_bipush G (v := 7) dX12_old_73 (by decide) ?_
      refine x_iadd G dX12_old_75 ?_
      refine x_iload_n G dX12_old_76 rfl rfl ?_
      refine x_iast G (kd149 M) dX12_old_77 hf (fun hb_7 hf => ?_)
      refine nwr hf (fun w_8 hf => ?_)
      refine x_aload_n G dX12_old_78 rfl rfl ?_
      refine x_getR G (kd148 M) 1 (b := 149) rfl cl12 rfl wf_X12_13 dX12_old_79 ?_
      refine x_bipush G (v := 15) dX12_old_82 (by decide) ?_
      refine x_iload_n G dX12_old_84 rfl rfl ?_
      refine x_imul G dX12_old_85 ?_
      refine x_bipush G (v := 8) dX12_old_86 (by decide) ?_
      refine x_iadd G dX12_old_88 ?_
      refine x_iload G dX12_old_89 rfl ?_
      refine x_iast G (kd149 M) dX12_old_91 hf (fun hb_9 hf => ?_)
      refine nwr hf (fun w_10 hf => ?_)
      refine x_iconst G (v := 0) dX12_old_92 (by decide) ?_
      exact x_iretW G hf hr dX12_old_93
    · refine x_iconst G (v := -1) dX12_old_50 (by decide) ?_
      exact x_iretW G hf hr dX12_old_51
  · refine x_iconst G (v := -1) dX12_old_50 (by decide) ?_
    exact x_iretW G hf hr dX12_old_51

set_option maxHeartbeats 4000000 in
set_option maxRecDepth 100000 in
theorem xX12_old_e {K : KT} {v1 : Int32} {v2 : Int32} {v3 : Int32} {v4 : Int32} {w : Wd} {r : Int32 × Wd} (G : GK K cX12_old RX12 5 4) (M : Main K.ks) (hf : fX12_old v1 v2 v3 v4 w = some r) (hr : RI K .int r.1 r.2) : XW K 0 [some (.ref 148), some (.int v1), some (.int v2), some (.int v3), some (.int v4)] [] w := by
  unfold fX12_old at hf
  refine x_aload_n G dX12_old_0 rfl rfl ?_
  refine x_iconst G (v := 0) dX12_old_1 (by decide) ?_
  refine x_putI G (kd148 M) 0 rfl cl12 rfl wf_X12_1 rfl rfl rfl dX12_old_2 ?_
  refine nwr hf (fun w_1 hf => ?_)
  refine x_iload_n G dX12_old_5 rfl rfl ?_
  obtain ⟨v_2, hv_2, hf⟩ := bnd hf
  refine x_staI G (As := [.int v1]) (mX12_isCell G.2.2.2.2.2.2.1 M hv_2) ms_X12_105 rfl rfl rfl rfl rfl dX12_old_6 ?_
  refine x_ifeqB G (tgt := 50) dX12_old_9 (by decide) hf (fun c_3 hf => ?_) (fun c_3 hf => ?_)
  · refine x_iload_n G dX12_old_12 rfl rfl ?_
    refine x_iconst G (v := -1) dX12_old_13 (by decide) ?_
    refine x_icmpeq G (tgt := 25) dX12_old_14 (by decide) hf (fun c_4 hf => ?_) (fun c_4 hf => ?_)
    · exact (xX12_old_25 G M hf hr)
    · refine x_iload_n G dX12_old_17 rfl rfl ?_
      refine x_iload_n G dX12_old_18 rfl rfl ?_
      obtain ⟨v_5, hv_5, hf⟩ := bnd hf
      refine x_staI G (As := [.int v1, .int v2]) (mX12_isBeside G.2.2.2.2.2.2.1 M hv_5) ms_X12_153 rfl rfl rfl rfl rfl dX12_old_19 ?_
      refine x_ifeqB G (tgt := 50) dX12_old_22 (by decide) hf (fun c_6 hf => ?_) (fun c_6 hf => ?_)
      · exact (xX12_old_25 G M hf hr)
      · refine x_iconst G (v := -1) dX12_old_50 (by decide) ?_
        exact x_iretW G hf hr dX12_old_51
  · refine x_iconst G (v := -1) dX12_old_50 (by decide) ?_
    exact x_iretW G hf hr dX12_old_51

theorem mX12_old {l : Launch} {S : KS} {w : Wd} (hI : Inj S) (M : Main S) {v1 : Int32} {v2 : Int32} {v3 : Int32} {v4 : Int32} {r : Int32 × Wd} (hf : fX12_old v1 v2 v3 v4 w = some r) : CI l yX12_old cX12_old 5 (some .int) 4 S [.ref 148, .int v1, .int v2, .int v3, .int v4] w r.1 r.2 := by
  intro sz
  refine mk_entry rfl (by decide +kernel) hI 0 rfl rfl (fun K h1 h2 h3 h4 h5 h6 G => ?_)
  subst h2
  exact xX12_old_e G M hf ⟨h3, by rw [h4, h6], h5⟩

set_option maxHeartbeats 4000000 in
set_option maxRecDepth 100000 in
theorem xX12_out_237 {K : KT} {v1 : Int32} {v5 : Int32} {v7 : Int32} {s0 : Int32} {w : Wd} {r : Int32 × Wd} (G : GK K cX12_out RX12 9 3) (M : Main K.ks) (hf : fX12_out_237 v1 v5 v7 s0 w = some r) (hr : RI K .int r.1 r.2) : XW K 237 [some (.ref 148), some (.int v1), none, none, none, some (.int v5), none, some (.int v7), none] [.int s0] w := by
  unfold fX12_out_237 at hf
  refine x_istore G (lv' := [some (.ref 148), some (.int v1), none, none, none, some (.int v5), none, some (.int v7), some (.int s0)]) dX12_out_237 rfl rfl rfl ?_
  refine x_aload_n G dX12_out_239 rfl rfl ?_
  refine x_getR G (kd148 M) 1 (b := 149) rfl cl12 rfl wf_X12_13 dX12_out_240 ?_
  refine x_iload G dX12_out_243 rfl ?_
  refine x_bipush G (v := 9) dX12_out_245 (by decide) ?_
  refine x_iadd G dX12_out_247 ?_
  refine x_dup2 G dX12_out_248 rfl rfl ?_
  refine x_iald G (kd149 M) dX12_out_249 hf (fun hb_1 hf => ?_)
  refine x_iload G dX12_out_250 rfl ?_
  refine x_isub G dX12_out_252 ?_
  refine x_iast0 G (kd149 M) dX12_out_253 hb_1 ?_
  refine nwr hf (fun w_2 hf => ?_)
  refine x_aload_n G dX12_out_254 rfl rfl ?_
  refine x_getR G (kd148 M) 1 (b := 149) rfl cl12 rfl wf_X12_13 dX12_out_255 ?_
  refine x_iload G dX12_out_258 rfl ?_
  refine x_bipush G (v := 8) dX12_out_260 (by decide) ?_
  refine x_iadd G dX12_out_262 ?_
  refine x_dup2 G dX12_out_263 rfl rfl ?_
  refine x_iald G (kd149 M) dX12_out_264 hf (fun hb_3 hf => ?_)
  refine x_iload G dX12_out_265 rfl ?_
  refine x_isub G dX12_out_267 ?_
  refine x_iast0 G (kd149 M) dX12_out_268 hb_3 ?_
  refine nwr hf (fun w_4 hf => ?_)
  refine x_aload_n G dX12_out_269 rfl rfl ?_
  refine x_getR G (kd148 M) 1 (b := 149) rfl cl12 rfl wf_X12_13 dX12_out_270 ?_
  refine x_bipush G (v := 15) dX12_out_273 (by decide) ?_
  refine x_iload_n G dX12_out_275 rfl rfl ?_
  refine x_imul G dX12_out_276 ?_
  refine x_bipush G (v := 10) dX12_out_277 (by decide) ?_
  refine x_iadd G dX12_out_279 ?_
  refine x_dup2 G dX12_out_280 rfl rfl ?_
  refine x_iald G (kd149 M) dX12_out_281 hf (fun hb_5 hf => ?_)
  refine x_iload G dX12_out_282 rfl ?_
  refine x_iadd G dX12_out_284 ?_
  refine x_iast0 G (kd149 M) dX12_out_285 hb_5 ?_
  refine nwr hf (fun w_6 hf => ?_)
  refine x_aload_n G dX12_out_286 rfl rfl ?_
  refine x_getR G (kd148 M) 1 (b := 149) rfl cl12 rfl wf_X12_13 dX12_out_287 ?_
  refine x_bipush G (v := 15) dX12_out_290 (by decide) ?_
  refine x_iload_n G dX12_out_292 rfl rfl ?_
  refine x_imul G dX12_out_293 ?_
  refine x_bipush G (v := 9) dX12_out_294 (by decide) ?_
  refine x_iadd G dX12_out_296 ?_
  refine x_dup2 G dX12_out_297 rfl rfl ?_
  refine x_iald G (kd149 M) dX12_out_298 hf (fun hb_7 hf => ?_)
  refine x_iload G dX12_out_299 rfl ?_
  refine x_iadd G dX12_out_301 ?_
  refine x_iast0 G (kd149 M) dX12_out_302 hb_7 ?_
  refine nwr hf (fun w_8 hf => ?_)
  refine x_iconst G (v := 0) dX12_out_303 (by decide) ?_
  exact x_iretW G hf hr dX12_out_304

set_option maxHeartbeats 4000000 in
set_option maxRecDepth 100000 in
theorem xX12_out_218 {K : KT} {v1 : Int32} {v5 : Int32} {v6 : Int32} {s0 : Int32} {w : Wd} {r : Int32 × Wd} (G : GK K cX12_out RX12 9 3) (M : Main K.ks) (hf : fX12_out_218 v1 v5 v6 s0 w = some r) (hr : RI K .int r.1 r.2) : XW K 218 [some (.ref 148), some (.int v1), none, none, none, some (.int v5), some (.int v6), none, none] [.int s0] w := by
  unfold fX12_out_218 at hf
  refine x_istore G (lv' := [some (.ref 148), some (.int v1), none, none, none, some (.int v5), some (.int v6), some (.int s0), none]) dX12_out_218 rfl rfl rfl ?_
  refine x_iload G dX12_out_220 rfl ?_
  refine x_iload G dX12_out_222 rfl ?_
  refine x_isub G dX12_out_224 ?_
  refine x_ifge G (tgt := 232) dX12_out_225 (by decide) hf (fun c_1 hf => ?_) (fun c_1 hf => ?_)
  · refine x_iconst G (v := 0) dX12_out_228 (by decide) ?_
    refine x_goto G (tgt := 237) dX12_out_229 (by decide) ?_
    exact XW.sub (lv' := [some (.ref 148), some (.int v1), none, none, none, some (.int v5), none, some (.int s0), none]) (And.intro rfl (And.intro rfl (And.intro rfl (And.intro rfl trivial)))) (xX12_out_237 G M hf hr)
  · refine x_iload G dX12_out_232 rfl ?_
    refine x_iload G dX12_out_234 rfl ?_
    refine x_isub G dX12_out_236 ?_
    exact XW.sub (lv' := [some (.ref 148), some (.int v1), none, none, none, some (.int v5), none, some (.int s0), none]) (And.intro rfl (And.intro rfl (And.intro rfl (And.intro rfl trivial)))) (xX12_out_237 G M hf hr)

set_option maxHeartbeats 4000000 in
set_option maxRecDepth 100000 in
theorem xX12_out_101 {K : KT} {v1 : Int32} {v2 : Int32} {v3 : Int32} {v4 : Int32} {w : Wd} {r : Int32 × Wd} (G : GK K cX12_out RX12 9 3) (M : Main K.ks) (hf : fX12_out_101 v1 v2 v3 v4 w = some r) (hr : RI K .int r.1 r.2) : XW K 101 [some (.ref 148), some (.int v1), some (.int v2), some (.int v3), some (.int v4), none, none, none, none] [] w := by
  unfold fX12_out_101 at hf
  refine x_sipush G (v := 1500) dX12_out_101 (by decide) ?_
  refine x_bipush G (v := 10) dX12_out_104 (by decide) ?_
  refine x_iload_n G dX12_out_106 rfl rfl ?_
  refine x_imul G dX12_out_107 ?_
  refine x_iadd G dX12_out_108 ?_
  refine x_istore G (lv' := [some (.ref 148), some (.int v1), some (.int v2), some (.int v3), some (.int v4), some (.int ((1500 : Int32) + ((10 : Int32) * v1))), none, none, none]) dX12_out_109 rfl rfl rfl ?_
  refine x_aload_n G dX12_out_111 rfl rfl ?_
  refine x_getR G (kd148 M) 1 (b := 149) rfl cl12 rfl wf_X12_13 dX12_out_112 ?_
  refine x_iload G dX12_out_115 rfl ?_
  refine x_iconst G (v := 0) dX12_out_117 (by decide) ?_
  refine x_iadd G dX12_out_118 ?_
  refine x_iconst G (v := 2) dX12_out_119 (by decide) ?_
  refine x_iast G (kd149 M) dX12_out_120 hf (fun hb_1 hf => ?_)
  refine nwr hf (fun w_2 hf => ?_)
  refine x_aload_n G dX12_out_121 rfl rfl ?_
  refine x_getR G (kd148 M) 1 (b := 149) rfl cl12 rfl wf_X12_13 dX12_out_122 ?_
  refine x_iload G dX12_out_125 rfl ?_
  refine x_iconst G (v := 5) dX12_out_127 (by decide) ?_
  refine x_iadd G dX12_out_128 ?_
  refine x_iload_n G dX12_out_129 rfl rfl ?_
  refine x_iast G (kd149 M) dX12_out_130 hf (fun hb_3 hf => ?_)
  refine nwr hf (fun w_4 hf => ?_)
  refine x_aload_n G dX12_out_131 rfl rfl ?_
  refine x_getR G (kd148 M) 1 (b := 149) rfl cl12 rfl wf_X12_13 dX12_out_132 ?_
  refine x_iload G dX12_out_135 rfl ?_
  refine x_bipush G (v := 6) dX12_out_137 (by decide) ?_
  refine x_iadd G dX12_out_139 ?_
  refine x_iload_n G dX12_out_140 rfl rfl ?_
  refine x_iast G (kd149 M) dX12_out_141 hf (fun hb_5 hf => ?_)
  refine nwr hf (fun w_6 hf => ?_)
  refine x_aload_n G dX12_out_142 rfl rfl ?_
  refine x_getR G (kd148 M) 1 (b := 149) rfl cl12 rfl wf_X12_13 dX12_out_143 ?_
  refine x_iload G dX12_out_146 rfl ?_
  refine x_bipush G (v := 7) dX12_out_148 (by decide) ?_
  refine x_iadd G dX12_out_150 ?_
  refine x_iload G dX12_out_151 rfl ?_
  refine x_iast G (kd149 M) dX12_out_153 hf (fun hb_7 hf => ?_)
  refine nwr hf (fun w_8 hf => ?_)
  refine x_aload_n G dX12_out_154 rfl rfl ?_
  refine x_getR G (kd148 M) 1 (b := 149) rfl cl12 rfl wf_X12_13 dX12_out_155 ?_
  refine x_iload G dX12_out_158 rfl ?_
  refine x_bipush G (v := 8) dX12_out_160 (by decide) ?_
  refine x_iadd G dX12_out_162 ?_
  refine x_iald G (kd149 M) dX12_out_163 hf (fun hb_9 hf => ?_)
  refine x_aload_n G dX12_out_164 rfl rfl ?_
  refine x_getR G (kd148 M) 1 (b := 149) rfl cl12 rfl wf_X12_13 dX12_out_165 ?_
  refine x_iload G dX12_out_168 rfl ?_
  refine x_bipush G (v := 9) dX12_out_170 (by decide) ?_
  refine x_iadd G dX12_out_172 ?_
  refine x_iald G (kd149 M) dX12_out_173 hf (fun hb_10 hf => ?_)
  refine x_iadd G dX12_out_174 ?_
  refine x_iload_n G dX12_out_175 rfl rfl ?_
  refine x_isub G dX12_out_176 ?_
  refine x_istore G (lv' := [some (.ref 148), some (.int v1), some (.int v2), some (.int v3), some (.int v4), some (.int ((1500 : Int32) + ((10 : Int32) * v1))), some (.int (((ri w_8 149 (((1500 : Int32) + ((10 : Int32) * v1)) + (8 : Int32))) + (ri w_8 149 (((1500 : Int32) + ((10 : Int32) * v1)) + (9 : Int32)))) - v2)), none, none]) dX12_out_177 rfl rfl rfl ?_
  refine x_iload G dX12_out_179 rfl ?_
  refine x_ifge G (tgt := 188) dX12_out_181 (by decide) hf (fun c_11 hf => ?_) (fun c_11 hf => ?_)
  · refine x_iconst G (v := 0) dX12_out_184 (by decide) ?_
    refine x_goto G (tgt := 218) dX12_out_185 (by decide) ?_
    exact XW.sub (lv' := [some (.ref 148), some (.int v1), none, none, none, some (.int ((1500 : Int32) + ((10 : Int32) * v1))), some (.int (((ri w_8 149 (((1500 : Int32) + ((10 : Int32) * v1)) + (8 : Int32))) + (ri w_8 149 (((1500 : Int32) + ((10 : Int32) * v1)) + (9 : Int32)))) - v2)), none, none]) (And.intro rfl (And.intro rfl (And.intro rfl (And.intro rfl trivial)))) (xX12_out_218 G M hf hr)
  · refine x_iload G dX12_out_188 rfl ?_
    refine x_aload_n G dX12_out_190 rfl rfl ?_
    refine x_getR G (kd148 M) 1 (b := 149) rfl cl12 rfl wf_X12_13 dX12_out_191 ?_
    refine x_iload G dX12_out_194 rfl ?_
    refine x_bipush G (v := 9) dX12_out_196 (by decide) ?_
    refine x_iadd G dX12_out_198 ?_
    refine x_iald0 G (kd149 M) dX12_out_199 hb_10 ?_
    refine x_icmpge G (tgt := 208) dX12_out_200 (by decide) hf (fun c_12 hf => ?_) (fun c_12 hf => ?_)
    · refine x_iload G dX12_out_203 rfl ?_
      refine x_goto G (tgt := 218) dX12_out_205 (by decide) ?_
      exact XW.sub (lv' := [some (.ref 148), some (.int v1), none, none, none, some (.int ((1500 : Int32) + ((10 : Int32) * v1))), some (.int (((ri w_8 149 (((1500 : Int32) + ((10 : Int32) * v1)) + (8 : Int32))) + (ri w_8 149 (((1500 : Int32) + ((10 : Int32) * v1)) + (9 : Int32)))) - v2)), none, none]) (And.intro rfl (And.intro rfl (And.intro rfl (And.intro rfl trivial)))) (xX12_out_218 G M hf hr)
    · refine x_aload_n G dX12_out_208 rfl rfl ?_
      refine x_getR G (kd148 M) 1 (b := 149) rfl cl12 rfl wf_X12_13 dX12_out_209 ?_
      refine x_iload G dX12_out_212 rfl ?_
      refine x_bipush G (v := 9) dX12_out_214 (by decide) ?_
      refine x_iadd G dX12_out_216 ?_
      refine x_iald0 G (kd149 M) dX12_out_217 hb_10 ?_
      exact XW.sub (lv' := [some (.ref 148), some (.int v1), none, none, none, some (.int ((1500 : Int32) + ((10 : Int32) * v1))), some (.int (((ri w_8 149 (((1500 : Int32) + ((10 : Int32) * v1)) + (8 : Int32))) + (ri w_8 149 (((1500 : Int32) + ((10 : Int32) * v1)) + (9 : Int32)))) - v2)), none, none]) (And.intro rfl (And.intro rfl (And.intro rfl (And.intro rfl trivial)))) (xX12_out_218 G M hf hr)

set_option maxHeartbeats 4000000 in
set_option maxRecDepth 100000 in
theorem xX12_out_e {K : KT} {v1 : Int32} {v2 : Int32} {v3 : Int32} {v4 : Int32} {w : Wd} {r : Int32 × Wd} (G : GK K cX12_out RX12 9 3) (M : Main K.ks) (hf : fX12_out v1 v2 v3 v4 w = some r) (hr : RI K .int r.1 r.2) : XW K 0 [some (.ref 148), some (.int v1), some (.int v2), some (.int v3), some (.int v4), none, none, none, none] [] w := by
  unfold fX12_out at hf
  refine x_aload_n G dX12_out_0 rfl rfl ?_
  refine x_iconst G (v := 0) dX12_out_1 (by decide) ?_
  refine x_putI G (kd148 M) 0 rfl cl12 rfl wf_X12_1 rfl rfl rfl dX12_out_2 ?_
  refine nwr hf (fun w_1 hf => ?_)
  refine x_iload_n G dX12_out_5 rfl rfl ?_
  obtain ⟨v_2, hv_2, hf⟩ := bnd hf
  refine x_staI G (As := [.int v1]) (mX12_isCell G.2.2.2.2.2.2.1 M hv_2) ms_X12_105 rfl rfl rfl rfl rfl dX12_out_6 ?_
  refine x_ifeqB G (tgt := 51) dX12_out_9 (by decide) hf (fun c_3 hf => ?_) (fun c_3 hf => ?_)
  · refine x_iload_n G dX12_out_12 rfl rfl ?_
    refine x_i2l G dX12_out_13 ?_
    refine x_lconst G (v := 1) dX12_out_14 (by decide) ?_
    refine x_ldc2 G wl_X12_115 dX12_out_15 ?_
    obtain ⟨v_4, hv_4, hf⟩ := bnd hf
    refine x_staI G (As := [.long v2.toInt64, .long (1 : Int64), .long (9999 : Int64)]) (mX12_in G.2.2.2.2.2.2.1 M hv_4) ms_X12_93 rfl rfl rfl rfl rfl dX12_out_18 ?_
    refine x_ifeqB G (tgt := 51) dX12_out_21 (by decide) hf (fun c_5 hf => ?_) (fun c_5 hf => ?_)
    · refine x_iload_n G dX12_out_24 rfl rfl ?_
      refine x_i2l G dX12_out_25 ?_
      refine x_lconst G (v := 1) dX12_out_26 (by decide) ?_
      refine x_ldc2 G wl_X12_115 dX12_out_27 ?_
      obtain ⟨v_6, hv_6, hf⟩ := bnd hf
      refine x_staI G (As := [.long v3.toInt64, .long (1 : Int64), .long (9999 : Int64)]) (mX12_in G.2.2.2.2.2.2.1 M hv_6) ms_X12_93 rfl rfl rfl rfl rfl dX12_out_30 ?_
      refine x_ifeqB G (tgt := 51) dX12_out_33 (by decide) hf (fun c_7 hf => ?_) (fun c_7 hf => ?_)
      · refine x_iload G dX12_out_36 rfl ?_
        refine x_i2l G dX12_out_38 ?_
        refine x_ldc2 G wl_X12_146 dX12_out_39 ?_
        refine x_ldc2 G wl_X12_148 dX12_out_42 ?_
        obtain ⟨v_8, hv_8, hf⟩ := bnd hf
        refine x_staI G (As := [.long v4.toInt64, .long (-128 : Int64), .long (127 : Int64)]) (mX12_in G.2.2.2.2.2.2.1 M hv_8) ms_X12_93 rfl rfl rfl rfl rfl dX12_out_45 ?_
        refine x_ifneB G (tgt := 53) dX12_out_48 (by decide) hf (fun c_9 hf => ?_) (fun c_9 hf => ?_)
        · refine x_aload_n G dX12_out_53 rfl rfl ?_
          refine x_iload_n G dX12_out_54 rfl rfl ?_
          refine x_iconst G (v := 0) dX12_out_55 (by decide) ?_
          obtain ⟨v_10, hv_10, hf⟩ := bnd hf
          refine x_virI G (As := [.int v1, .int (0 : Int32)]) (mX12_h G.2.2.2.2.2.2.1 M hv_10) mv_X12_226 (kd148 M) cl12 rfl rfl rfl rfl rfl dX12_out_56 ?_
          refine x_iconst G (v := 1) dX12_out_59 (by decide) ?_
          refine x_icmpne G (tgt := 66) dX12_out_60 (by decide) hf (fun c_11 hf => ?_) (fun c_11 hf => ?_)
          · refine x_bipush G (v := -3) dX12_out_63 (by decide) ?_
            exact x_iretW G hf hr dX12_out_65
          · refine x_aload_n G dX12_out_66 rfl rfl ?_
            refine x_iload_n G dX12_out_67 rfl rfl ?_
            refine x_iconst G (v := 0) dX12_out_68 (by decide) ?_
            obtain ⟨v_12, hv_12, hf⟩ := bnd hf
            refine x_virI G (As := [.int v1, .int (0 : Int32)]) (mX12_h G.2.2.2.2.2.2.1 M hv_12) mv_X12_226 (kd148 M) cl12 rfl rfl rfl rfl rfl dX12_out_69 ?_
            refine x_ifne G (tgt := 101) dX12_out_72 (by decide) hf (fun c_13 hf => ?_) (fun c_13 hf => ?_)
            · refine x_aload_n G dX12_out_75 rfl rfl ?_
              refine x_bipush G (v := 17) dX12_out_76 (by decide) ?_
              obtain ⟨v_14, hv_14, hf⟩ := bnd hf
              refine x_virI G (As := [.int (17 : Int32)]) (mX12_g G.2.2.2.2.2.2.1 M hv_14) mv_X12_101 (kd148 M) cl12 rfl rfl rfl rfl rfl dX12_out_78 ?_
              refine x_bipush G (v := 12) dX12_out_81 (by decide) ?_
              refine x_icmpne G (tgt := 89) dX12_out_83 (by decide) hf (fun c_15 hf => ?_) (fun c_15 hf => ?_)
              · refine x_bipush G (v := -2) dX12_out_86 (by decide) ?_
                exact x_iretW G hf hr dX12_out_88
              · refine x_aload_n G dX12_out_89 rfl rfl ?_
                refine x_getR G (kd148 M) 1 (b := 149) rfl cl12 rfl wf_X12_13 dX12_out_90 ?_
                refine x_sipush G (v := 4317) dX12_out_93 (by decide) ?_
                refine x_dup2 G dX12_out_96 rfl rfl ?_
                refine x_iald0 G (kd149 M) dX12_out_97 (by decide) ?_
                refine x_iconst G (v := 1) dX12_out_98 (by decide) ?_
                refine x_iadd G dX12_out_99 ?_
                refine x_iast0 G (kd149 M) dX12_out_100 (by decide) ?_
                refine nwr hf (fun w_16 hf => ?_)
                exact (xX12_out_101 G M hf hr)
            · exact (xX12_out_101 G M hf hr)
        · refine x_iconst G (v := -1) dX12_out_51 (by decide) ?_
          exact x_iretW G hf hr dX12_out_52
      · refine x_iconst G (v := -1) dX12_out_51 (by decide) ?_
        exact x_iretW G hf hr dX12_out_52
    · refine x_iconst G (v := -1) dX12_out_51 (by decide) ?_
      exact x_iretW G hf hr dX12_out_52
  · refine x_iconst G (v := -1) dX12_out_51 (by decide) ?_
    exact x_iretW G hf hr dX12_out_52

theorem mX12_out {l : Launch} {S : KS} {w : Wd} (hI : Inj S) (M : Main S) {v1 : Int32} {v2 : Int32} {v3 : Int32} {v4 : Int32} {r : Int32 × Wd} (hf : fX12_out v1 v2 v3 v4 w = some r) : CI l yX12_out cX12_out 9 (some .int) 3 S [.ref 148, .int v1, .int v2, .int v3, .int v4] w r.1 r.2 := by
  intro sz
  refine mk_entry rfl (by decide +kernel) hI 4 rfl rfl (fun K h1 h2 h3 h4 h5 h6 G => ?_)
  subst h2
  exact xX12_out_e G M hf ⟨h3, by rw [h4, h6], h5⟩

set_option maxHeartbeats 4000000 in
set_option maxRecDepth 100000 in
theorem xX12_put_150 {K : KT} {s1 : Int32} {s2 : Int64} {w : Wd} {r : Int32 × Wd} (G : GK K cX12_put RX12 6 3) (M : Main K.ks) (hf : fX12_put_150 s1 s2 w = some r) (hr : RI K .int r.1 r.2) : XW K 150 [none, none, none, none, none, none] [.long s2, .int s1, .ref 167] w := by
  unfold fX12_put_150 at hf
  refine x_last G (kd167 M) dX12_put_150 hf (fun hb_1 hf => ?_)
  refine nwr hf (fun w_2 hf => ?_)
  refine x_iconst G (v := 1) dX12_put_151 (by decide) ?_
  exact x_iretW G hf hr dX12_put_152

set_option maxHeartbeats 4000000 in
set_option maxRecDepth 100000 in
theorem xX12_put_e {K : KT} {v1 : Int32} {v2 : Int32} {v3 : Int64} {w : Wd} {r : Int32 × Wd} (G : GK K cX12_put RX12 6 3) (M : Main K.ks) (hf : fX12_put v1 v2 v3 w = some r) (hr : RI K .int r.1 r.2) : XW K 0 [some (.ref 148), some (.int v1), some (.int v2), some (.long v3), none, none] [] w := by
  unfold fX12_put at hf
  refine x_aload_n G dX12_put_0 rfl rfl ?_
  refine x_iconst G (v := 0) dX12_put_1 (by decide) ?_
  refine x_putI G (kd148 M) 0 rfl cl12 rfl wf_X12_1 rfl rfl rfl dX12_put_2 ?_
  refine nwr hf (fun w_1 hf => ?_)
  refine x_iload_n G dX12_put_5 rfl rfl ?_
  obtain ⟨v_2, hv_2, hf⟩ := bnd hf
  refine x_staI G (As := [.int v1]) (mX12_isTape G.2.2.2.2.2.2.1 M hv_2) ms_X12_128 rfl rfl rfl rfl rfl dX12_put_6 ?_
  refine x_ifneB G (tgt := 14) dX12_put_9 (by decide) hf (fun c_3 hf => ?_) (fun c_3 hf => ?_)
  · refine x_aload_n G dX12_put_14 rfl rfl ?_
    refine x_getR G (kd148 M) 29 (b := 165) rfl cl12 rfl wf_X12_63 dX12_put_15 ?_
    refine x_iload_n G dX12_put_18 rfl rfl ?_
    refine x_iald G (kd165 M) dX12_put_19 hf (fun hb_4 hf => ?_)
    refine x_ifne G (tgt := 30) dX12_put_20 (by decide) hf (fun c_5 hf => ?_) (fun c_5 hf => ?_)
    · refine x_aload_n G dX12_put_23 rfl rfl ?_
      refine x_bipush G (v := -11) dX12_put_24 (by decide) ?_
      obtain ⟨v_6, hv_6, hf⟩ := bnd hf
      refine x_virI G (As := [.int (-11 : Int32)]) (mX12_host G.2.2.2.2.2.2.1 M hv_6) mv_X12_131 (kd148 M) cl12 rfl rfl rfl rfl rfl dX12_put_26 ?_
      exact x_iretW G hf hr dX12_put_29
    · refine x_aload_n G dX12_put_30 rfl rfl ?_
      refine x_getR G (kd148 M) 29 (b := 165) rfl cl12 rfl wf_X12_63 dX12_put_31 ?_
      refine x_iload_n G dX12_put_34 rfl rfl ?_
      refine x_iald0 G (kd165 M) dX12_put_35 hb_4 ?_
      refine x_bipush G (v := 6) dX12_put_36 (by decide) ?_
      refine x_icmpne G (tgt := 48) dX12_put_38 (by decide) hf (fun c_7 hf => ?_) (fun c_7 hf => ?_)
      · refine x_aload_n G dX12_put_41 rfl rfl ?_
        refine x_bipush G (v := -12) dX12_put_42 (by decide) ?_
        obtain ⟨v_8, hv_8, hf⟩ := bnd hf
        refine x_virI G (As := [.int (-12 : Int32)]) (mX12_host G.2.2.2.2.2.2.1 M hv_8) mv_X12_131 (kd148 M) cl12 rfl rfl rfl rfl rfl dX12_put_44 ?_
        exact x_iretW G hf hr dX12_put_47
      · refine x_iload_n G dX12_put_48 rfl rfl ?_
        refine x_i2l G dX12_put_49 ?_
        refine x_lconst G (v := 0) dX12_put_50 (by decide) ?_
        refine x_aload_n G dX12_put_51 rfl rfl ?_
        refine x_getR G (kd148 M) 30 (b := 166) rfl cl12 rfl wf_X12_66 dX12_put_52 ?_
        refine x_iload_n G dX12_put_55 rfl rfl ?_
        refine x_iald0 G (kd166 M) dX12_put_56 hb_4 ?_
        refine x_iconst G (v := 1) dX12_put_57 (by decide) ?_
        refine x_isub G dX12_put_58 ?_
        refine x_i2l G dX12_put_59 ?_
        obtain ⟨v_9, hv_9, hf⟩ := bnd hf
        refine x_staI G (As := [.long v2.toInt64, .long (0 : Int64), .long (((ri w_1 166 v1) - (1 : Int32)).toInt64)]) (mX12_in G.2.2.2.2.2.2.1 M hv_9) ms_X12_93 rfl rfl rfl rfl rfl dX12_put_60 ?_
        refine x_ifneB G (tgt := 73) dX12_put_63 (by decide) hf (fun c_10 hf => ?_) (fun c_10 hf => ?_)
        · refine x_aload_n G dX12_put_73 rfl rfl ?_
          refine x_getR G (kd148 M) 29 (b := 165) rfl cl12 rfl wf_X12_63 dX12_put_74 ?_
          refine x_iload_n G dX12_put_77 rfl rfl ?_
          refine x_iald0 G (kd165 M) dX12_put_78 hb_4 ?_
          refine x_istore G (lv' := [some (.ref 148), some (.int v1), some (.int v2), some (.long v3), none, some (.int (ri w_1 165 v1))]) dX12_put_79 rfl rfl rfl ?_
          refine x_aload_n G dX12_put_81 rfl rfl ?_
          refine x_getR G (kd148 M) 31 (b := 167) rfl cl12 rfl wf_X12_69 dX12_put_82 ?_
          refine x_bipush G (v := 100) dX12_put_85 (by decide) ?_
          refine x_iload_n G dX12_put_87 rfl rfl ?_
          refine x_imul G dX12_put_88 ?_
          refine x_iload_n G dX12_put_89 rfl rfl ?_
          refine x_iadd G dX12_put_90 ?_
          refine x_iload G dX12_put_91 rfl ?_
          refine x_iconst G (v := 1) dX12_put_93 (by decide) ?_
          refine x_icmpne G (tgt := 104) dX12_put_94 (by decide) hf (fun c_11 hf => ?_) (fun c_11 hf => ?_)
          · refine x_lload_n G dX12_put_97 rfl rfl ?_
            refine x_l2i G dX12_put_98 ?_
            refine x_i2b G dX12_put_99 ?_
            refine x_i2l G dX12_put_100 ?_
            refine x_goto G (tgt := 150) dX12_put_101 (by decide) ?_
            exact XW.sub (lv' := [none, none, none, none, none, none]) trivial (xX12_put_150 G M hf hr)
          · refine x_iload G dX12_put_104 rfl ?_
            refine x_iconst G (v := 2) dX12_put_106 (by decide) ?_
            refine x_icmpne G (tgt := 117) dX12_put_107 (by decide) hf (fun c_12 hf => ?_) (fun c_12 hf => ?_)
            · refine x_lload_n G dX12_put_110 rfl rfl ?_
              refine x_l2i G dX12_put_111 ?_
              refine x_i2s G dX12_put_112 ?_
              refine x_i2l G dX12_put_113 ?_
              refine x_goto G (tgt := 150) dX12_put_114 (by decide) ?_
              exact XW.sub (lv' := [none, none, none, none, none, none]) trivial (xX12_put_150 G M hf hr)
            · refine x_iload G dX12_put_117 rfl ?_
              refine x_iconst G (v := 3) dX12_put_119 (by decide) ?_
              refine x_icmpne G (tgt := 129) dX12_put_120 (by decide) hf (fun c_13 hf => ?_) (fun c_13 hf => ?_)
              · refine x_lload_n G dX12_put_123 rfl rfl ?_
                refine x_l2i G dX12_put_124 ?_
                refine x_i2l G dX12_put_125 ?_
                refine x_goto G (tgt := 150) dX12_put_126 (by decide) ?_
                exact XW.sub (lv' := [none, none, none, none, none, none]) trivial (xX12_put_150 G M hf hr)
              · refine x_iload G dX12_put_129 rfl ?_
                refine x_iconst G (v := 4) dX12_put_131 (by decide) ?_
                refine x_icmpne G (tgt := 139) dX12_put_132 (by decide) hf (fun c_14 hf => ?_) (fun c_14 hf => ?_)
                · refine x_lload_n G dX12_put_135 rfl rfl ?_
                  refine x_goto G (tgt := 150) dX12_put_136 (by decide) ?_
                  exact XW.sub (lv' := [none, none, none, none, none, none]) trivial (xX12_put_150 G M hf hr)
                · refine x_lload_n G dX12_put_139 rfl rfl ?_
                  refine x_lconst G (v := 0) dX12_put_140 (by decide) ?_
                  refine x_lcmp G dX12_put_141 ?_
                  refine x_ceq G (tgt := 149) dX12_put_142 (by decide) hf (fun c_15 hf => ?_) (fun c_15 hf => ?_)
                  · refine x_lconst G (v := 0) dX12_put_149 (by decide) ?_
                    exact XW.sub (lv' := [none, none, none, none, none, none]) trivial (xX12_put_150 G M hf hr)
                  · refine x_lconst G (v := 1) dX12_put_145 (by decide) ?_
                    refine x_goto G (tgt := 150) dX12_put_146 (by decide) ?_
                    exact XW.sub (lv' := [none, none, none, none, none, none]) trivial (xX12_put_150 G M hf hr)
        · refine x_aload_n G dX12_put_66 rfl rfl ?_
          refine x_bipush G (v := -13) dX12_put_67 (by decide) ?_
          obtain ⟨v_16, hv_16, hf⟩ := bnd hf
          refine x_virI G (As := [.int (-13 : Int32)]) (mX12_host G.2.2.2.2.2.2.1 M hv_16) mv_X12_131 (kd148 M) cl12 rfl rfl rfl rfl rfl dX12_put_69 ?_
          exact x_iretW G hf hr dX12_put_72
  · refine x_iconst G (v := -1) dX12_put_12 (by decide) ?_
    exact x_iretW G hf hr dX12_put_13

theorem mX12_put {l : Launch} {S : KS} {w : Wd} (hI : Inj S) (M : Main S) {v1 : Int32} {v2 : Int32} {v3 : Int64} {r : Int32 × Wd} (hf : fX12_put v1 v2 v3 w = some r) : CI l yX12_put cX12_put 6 (some .int) 3 S [.ref 148, .int v1, .int v2, .long v3] w r.1 r.2 := by
  intro sz
  refine mk_entry rfl (by decide +kernel) hI 1 rfl rfl (fun K h1 h2 h3 h4 h5 h6 G => ?_)
  subst h2
  exact xX12_put_e G M hf ⟨h3, by rw [h4, h6], h5⟩

set_option maxHeartbeats 4000000 in
set_option maxRecDepth 100000 in
theorem xX12_rain_e {K : KT} {v1 : Int32} {w : Wd} {r : Int32 × Wd} (G : GK K cX12_rain RX12 3 2) (M : Main K.ks) (hf : fX12_rain v1 w = some r) (hr : RI K .int r.1 r.2) : XW K 0 [some (.ref 148), some (.int v1), none] [] w := by
  unfold fX12_rain at hf
  refine x_aload_n G dX12_rain_0 rfl rfl ?_
  refine x_iconst G (v := 0) dX12_rain_1 (by decide) ?_
  refine x_putI G (kd148 M) 0 rfl cl12 rfl wf_X12_1 rfl rfl rfl dX12_rain_2 ?_
  refine nwr hf (fun w_1 hf => ?_)
  refine x_iload_n G dX12_rain_5 rfl rfl ?_
  refine x_i2l G dX12_rain_6 ?_
  refine x_lconst G (v := 0) dX12_rain_7 (by decide) ?_
  refine x_ldc2 G wl_X12_224 dX12_rain_8 ?_
  obtain ⟨v_2, hv_2, hf⟩ := bnd hf
  refine x_staI G (As := [.long v1.toInt64, .long (0 : Int64), .long (200 : Int64)]) (mX12_in G.2.2.2.2.2.2.1 M hv_2) ms_X12_93 rfl rfl rfl rfl rfl dX12_rain_11 ?_
  refine x_ifneB G (tgt := 19) dX12_rain_14 (by decide) hf (fun c_3 hf => ?_) (fun c_3 hf => ?_)
  · refine x_aload_n G dX12_rain_19 rfl rfl ?_
    refine x_iconst G (v := 3) dX12_rain_20 (by decide) ?_
    obtain ⟨v_4, hv_4, hf⟩ := bnd hf
    refine x_virI G (As := [.int (3 : Int32)]) (mX12_g G.2.2.2.2.2.2.1 M hv_4) mv_X12_101 (kd148 M) cl12 rfl rfl rfl rfl rfl dX12_rain_21 ?_
    refine x_istore_n G (lv' := [some (.ref 148), some (.int v1), some (.int v_4)]) dX12_rain_24 rfl rfl rfl rfl ?_
    refine x_aload_n G dX12_rain_25 rfl rfl ?_
    refine x_getR G (kd148 M) 1 (b := 149) rfl cl12 rfl wf_X12_13 dX12_rain_26 ?_
    refine x_sipush G (v := 4303) dX12_rain_29 (by decide) ?_
    refine x_iload_n G dX12_rain_32 rfl rfl ?_
    refine x_iast0 G (kd149 M) dX12_rain_33 (by decide) ?_
    refine nwr hf (fun w_5 hf => ?_)
    refine x_iload_n G dX12_rain_34 rfl rfl ?_
    exact x_iretW G hf hr dX12_rain_35
  · refine x_iconst G (v := -1) dX12_rain_17 (by decide) ?_
    exact x_iretW G hf hr dX12_rain_18

theorem mX12_rain {l : Launch} {S : KS} {w : Wd} (hI : Inj S) (M : Main S) {v1 : Int32} {r : Int32 × Wd} (hf : fX12_rain v1 w = some r) : CI l yX12_rain cX12_rain 3 (some .int) 2 S [.ref 148, .int v1] w r.1 r.2 := by
  intro sz
  refine mk_entry rfl (by decide +kernel) hI 1 rfl rfl (fun K h1 h2 h3 h4 h5 h6 G => ?_)
  subst h2
  exact xX12_rain_e G M hf ⟨h3, by rw [h4, h6], h5⟩

