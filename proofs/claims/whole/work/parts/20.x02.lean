theorem dX11_beside_0 : decode cX11_beside 0 = .ok (.iload_n 1, 1) := by decide +kernel
theorem dX11_beside_1 : decode cX11_beside 1 = .ok (.tableswitch 74 0 2 #[27, 42, 57], 27) := by decide +kernel
theorem dX11_beside_28 : decode cX11_beside 28 = .ok (.iload_n 0, 1) := by decide +kernel
theorem dX11_beside_29 : decode cX11_beside 29 = .ok (.bipush 10, 2) := by decide +kernel
theorem dX11_beside_31 : decode cX11_beside 31 = .ok (.if_icmp .lt 10, 3) := by decide +kernel
theorem dX11_beside_34 : decode cX11_beside 34 = .ok (.iload_n 0, 1) := by decide +kernel
theorem dX11_beside_35 : decode cX11_beside 35 = .ok (.bipush 10, 2) := by decide +kernel
theorem dX11_beside_37 : decode cX11_beside 37 = .ok (.isub, 1) := by decide +kernel
theorem dX11_beside_38 : decode cX11_beside 38 = .ok (.goto 4, 3) := by decide +kernel
theorem dX11_beside_41 : decode cX11_beside 41 = .ok (.iconst (-1), 1) := by decide +kernel
theorem dX11_beside_42 : decode cX11_beside 42 = .ok (.ireturn, 1) := by decide +kernel
theorem dX11_beside_43 : decode cX11_beside 43 = .ok (.iload_n 0, 1) := by decide +kernel
theorem dX11_beside_44 : decode cX11_beside 44 = .ok (.bipush 10, 2) := by decide +kernel
theorem dX11_beside_46 : decode cX11_beside 46 = .ok (.irem, 1) := by decide +kernel
theorem dX11_beside_47 : decode cX11_beside 47 = .ok (.ifCond .le 9, 3) := by decide +kernel
theorem dX11_beside_50 : decode cX11_beside 50 = .ok (.iload_n 0, 1) := by decide +kernel
theorem dX11_beside_51 : decode cX11_beside 51 = .ok (.iconst 1, 1) := by decide +kernel
theorem dX11_beside_52 : decode cX11_beside 52 = .ok (.isub, 1) := by decide +kernel
theorem dX11_beside_53 : decode cX11_beside 53 = .ok (.goto 4, 3) := by decide +kernel
theorem dX11_beside_56 : decode cX11_beside 56 = .ok (.iconst (-1), 1) := by decide +kernel
theorem dX11_beside_57 : decode cX11_beside 57 = .ok (.ireturn, 1) := by decide +kernel
theorem dX11_beside_58 : decode cX11_beside 58 = .ok (.iload_n 0, 1) := by decide +kernel
theorem dX11_beside_59 : decode cX11_beside 59 = .ok (.bipush 10, 2) := by decide +kernel
theorem dX11_beside_61 : decode cX11_beside 61 = .ok (.irem, 1) := by decide +kernel
theorem dX11_beside_62 : decode cX11_beside 62 = .ok (.bipush 9, 2) := by decide +kernel
theorem dX11_beside_64 : decode cX11_beside 64 = .ok (.if_icmp .ge 9, 3) := by decide +kernel
theorem dX11_beside_67 : decode cX11_beside 67 = .ok (.iload_n 0, 1) := by decide +kernel
theorem dX11_beside_68 : decode cX11_beside 68 = .ok (.iconst 1, 1) := by decide +kernel
theorem dX11_beside_69 : decode cX11_beside 69 = .ok (.iadd, 1) := by decide +kernel
theorem dX11_beside_70 : decode cX11_beside 70 = .ok (.goto 4, 3) := by decide +kernel
theorem dX11_beside_73 : decode cX11_beside 73 = .ok (.iconst (-1), 1) := by decide +kernel
theorem dX11_beside_74 : decode cX11_beside 74 = .ok (.ireturn, 1) := by decide +kernel
theorem dX11_beside_75 : decode cX11_beside 75 = .ok (.iload_n 0, 1) := by decide +kernel
theorem dX11_beside_76 : decode cX11_beside 76 = .ok (.bipush 90, 2) := by decide +kernel
theorem dX11_beside_78 : decode cX11_beside 78 = .ok (.if_icmp .ge 10, 3) := by decide +kernel
theorem dX11_beside_81 : decode cX11_beside 81 = .ok (.iload_n 0, 1) := by decide +kernel
theorem dX11_beside_82 : decode cX11_beside 82 = .ok (.bipush 10, 2) := by decide +kernel
theorem dX11_beside_84 : decode cX11_beside 84 = .ok (.iadd, 1) := by decide +kernel
theorem dX11_beside_85 : decode cX11_beside 85 = .ok (.goto 4, 3) := by decide +kernel
theorem dX11_beside_88 : decode cX11_beside 88 = .ok (.iconst (-1), 1) := by decide +kernel
theorem dX11_beside_89 : decode cX11_beside 89 = .ok (.ireturn, 1) := by decide +kernel
theorem dX0_shutBeside_0 : decode cX0_shutBeside 0 = .ok (.iconst 0, 1) := by decide +kernel
theorem dX0_shutBeside_1 : decode cX0_shutBeside 1 = .ok (.istore_n 2, 1) := by decide +kernel
theorem dX0_shutBeside_2 : decode cX0_shutBeside 2 = .ok (.iconst 0, 1) := by decide +kernel
theorem dX0_shutBeside_3 : decode cX0_shutBeside 3 = .ok (.istore_n 3, 1) := by decide +kernel
theorem dX0_shutBeside_4 : decode cX0_shutBeside 4 = .ok (.iload_n 3, 1) := by decide +kernel
theorem dX0_shutBeside_5 : decode cX0_shutBeside 5 = .ok (.iconst 4, 1) := by decide +kernel
theorem dX0_shutBeside_6 : decode cX0_shutBeside 6 = .ok (.if_icmp .ge 34, 3) := by decide +kernel
theorem dX0_shutBeside_9 : decode cX0_shutBeside 9 = .ok (.iload_n 1, 1) := by decide +kernel
theorem dX0_shutBeside_10 : decode cX0_shutBeside 10 = .ok (.iload_n 3, 1) := by decide +kernel
theorem dX0_shutBeside_11 : decode cX0_shutBeside 11 = .ok (.invokestatic 142, 3) := by decide +kernel
theorem dX0_shutBeside_14 : decode cX0_shutBeside 14 = .ok (.istore 4, 2) := by decide +kernel
theorem dX0_shutBeside_16 : decode cX0_shutBeside 16 = .ok (.iload 4, 2) := by decide +kernel
theorem dX0_shutBeside_18 : decode cX0_shutBeside 18 = .ok (.iconst (-1), 1) := by decide +kernel
theorem dX0_shutBeside_19 : decode cX0_shutBeside 19 = .ok (.if_icmp .eq 15, 3) := by decide +kernel
theorem dX0_shutBeside_22 : decode cX0_shutBeside 22 = .ok (.aload_n 0, 1) := by decide +kernel
theorem dX0_shutBeside_23 : decode cX0_shutBeside 23 = .ok (.iload 4, 2) := by decide +kernel
theorem dX0_shutBeside_25 : decode cX0_shutBeside 25 = .ok (.invokevirtual 145, 3) := by decide +kernel
theorem dX0_shutBeside_28 : decode cX0_shutBeside 28 = .ok (.ifCond .eq 6, 3) := by decide +kernel
theorem dX0_shutBeside_31 : decode cX0_shutBeside 31 = .ok (.iinc 2 1, 3) := by decide +kernel
theorem dX0_shutBeside_34 : decode cX0_shutBeside 34 = .ok (.iinc 3 1, 3) := by decide +kernel
theorem dX0_shutBeside_37 : decode cX0_shutBeside 37 = .ok (.goto (-33), 3) := by decide +kernel
theorem dX0_shutBeside_40 : decode cX0_shutBeside 40 = .ok (.iload_n 2, 1) := by decide +kernel
theorem dX0_shutBeside_41 : decode cX0_shutBeside 41 = .ok (.ireturn, 1) := by decide +kernel
theorem dX6_tellingsOf_0 : decode cX6_tellingsOf 0 = .ok (.iconst 0, 1) := by decide +kernel
theorem dX6_tellingsOf_1 : decode cX6_tellingsOf 1 = .ok (.istore_n 2, 1) := by decide +kernel
theorem dX6_tellingsOf_2 : decode cX6_tellingsOf 2 = .ok (.iconst 0, 1) := by decide +kernel
theorem dX6_tellingsOf_3 : decode cX6_tellingsOf 3 = .ok (.istore_n 3, 1) := by decide +kernel
theorem dX6_tellingsOf_4 : decode cX6_tellingsOf 4 = .ok (.iload_n 3, 1) := by decide +kernel
theorem dX6_tellingsOf_5 : decode cX6_tellingsOf 5 = .ok (.aload_n 0, 1) := by decide +kernel
theorem dX6_tellingsOf_6 : decode cX6_tellingsOf 6 = .ok (.getfield 9, 3) := by decide +kernel
theorem dX6_tellingsOf_9 : decode cX6_tellingsOf 9 = .ok (.if_icmp .ge 22, 3) := by decide +kernel
theorem dX6_tellingsOf_12 : decode cX6_tellingsOf 12 = .ok (.aload_n 0, 1) := by decide +kernel
theorem dX6_tellingsOf_13 : decode cX6_tellingsOf 13 = .ok (.getfield 15, 3) := by decide +kernel
theorem dX6_tellingsOf_16 : decode cX6_tellingsOf 16 = .ok (.iload_n 3, 1) := by decide +kernel
theorem dX6_tellingsOf_17 : decode cX6_tellingsOf 17 = .ok (.iaload, 1) := by decide +kernel
theorem dX6_tellingsOf_18 : decode cX6_tellingsOf 18 = .ok (.iload_n 1, 1) := by decide +kernel
theorem dX6_tellingsOf_19 : decode cX6_tellingsOf 19 = .ok (.if_icmp .ne 6, 3) := by decide +kernel
theorem dX6_tellingsOf_22 : decode cX6_tellingsOf 22 = .ok (.iinc 2 1, 3) := by decide +kernel
theorem dX6_tellingsOf_25 : decode cX6_tellingsOf 25 = .ok (.iinc 3 1, 3) := by decide +kernel
theorem dX6_tellingsOf_28 : decode cX6_tellingsOf 28 = .ok (.goto (-24), 3) := by decide +kernel
theorem dX6_tellingsOf_31 : decode cX6_tellingsOf 31 = .ok (.iload_n 2, 1) := by decide +kernel
theorem dX6_tellingsOf_32 : decode cX6_tellingsOf 32 = .ok (.ireturn, 1) := by decide +kernel
theorem dX9_levelAt_0 : decode cX9_levelAt 0 = .ok (.aload_n 0, 1) := by decide +kernel
theorem dX9_levelAt_1 : decode cX9_levelAt 1 = .ok (.getfield 9, 3) := by decide +kernel
theorem dX9_levelAt_4 : decode cX9_levelAt 4 = .ok (.ifCond .le 21, 3) := by decide +kernel
theorem dX9_levelAt_7 : decode cX9_levelAt 7 = .ok (.iload_n 1, 1) := by decide +kernel
theorem dX9_levelAt_8 : decode cX9_levelAt 8 = .ok (.ifCond .lt 17, 3) := by decide +kernel
theorem dX9_levelAt_11 : decode cX9_levelAt 11 = .ok (.aload_n 0, 1) := by decide +kernel
theorem dX9_levelAt_12 : decode cX9_levelAt 12 = .ok (.getfield 15, 3) := by decide +kernel
theorem dX9_levelAt_15 : decode cX9_levelAt 15 = .ok (.iload_n 1, 1) := by decide +kernel
theorem dX9_levelAt_16 : decode cX9_levelAt 16 = .ok (.aload_n 0, 1) := by decide +kernel
theorem dX9_levelAt_17 : decode cX9_levelAt 17 = .ok (.getfield 9, 3) := by decide +kernel
theorem dX9_levelAt_20 : decode cX9_levelAt 20 = .ok (.irem, 1) := by decide +kernel
theorem dX9_levelAt_21 : decode cX9_levelAt 21 = .ok (.iaload, 1) := by decide +kernel
theorem dX9_levelAt_22 : decode cX9_levelAt 22 = .ok (.goto 4, 3) := by decide +kernel
theorem dX9_levelAt_25 : decode cX9_levelAt 25 = .ok (.iconst 0, 1) := by decide +kernel
theorem dX9_levelAt_26 : decode cX9_levelAt 26 = .ok (.ireturn, 1) := by decide +kernel
theorem dX10_inCellars_0 : decode cX10_inCellars 0 = .ok (.aload_n 0, 1) := by decide +kernel
theorem dX10_inCellars_1 : decode cX10_inCellars 1 = .ok (.getfield 18, 3) := by decide +kernel
theorem dX10_inCellars_4 : decode cX10_inCellars 4 = .ok (.iload_n 1, 1) := by decide +kernel
theorem dX10_inCellars_5 : decode cX10_inCellars 5 = .ok (.iaload, 1) := by decide +kernel
theorem dX10_inCellars_6 : decode cX10_inCellars 6 = .ok (.i2l, 1) := by decide +kernel
theorem dX10_inCellars_7 : decode cX10_inCellars 7 = .ok (.aload_n 0, 1) := by decide +kernel
theorem dX10_inCellars_8 : decode cX10_inCellars 8 = .ok (.getfield 21, 3) := by decide +kernel
theorem dX10_inCellars_11 : decode cX10_inCellars 11 = .ok (.iload_n 1, 1) := by decide +kernel
theorem dX10_inCellars_12 : decode cX10_inCellars 12 = .ok (.iaload, 1) := by decide +kernel
theorem dX10_inCellars_13 : decode cX10_inCellars 13 = .ok (.i2l, 1) := by decide +kernel
theorem dX10_inCellars_14 : decode cX10_inCellars 14 = .ok (.ladd, 1) := by decide +kernel
theorem dX10_inCellars_15 : decode cX10_inCellars 15 = .ok (.lreturn, 1) := by decide +kernel
theorem dX4_factAt_0 : decode cX4_factAt 0 = .ok (.iload_n 1, 1) := by decide +kernel
theorem dX4_factAt_1 : decode cX4_factAt 1 = .ok (.tableswitch 206 99 119 #[187, 143, 206, 176, 206, 99, 206, 206, 150, 206, 196, 206, 156, 121, 206, 206, 110, 132, 206, 206, 165], 99) := by decide +kernel
theorem dX4_factAt_100 : decode cX4_factAt 100 = .ok (.aload_n 3, 1) := by decide +kernel
theorem dX4_factAt_101 : decode cX4_factAt 101 = .ok (.getfield 81, 3) := by decide +kernel
theorem dX4_factAt_104 : decode cX4_factAt 104 = .ok (.getfield 85, 3) := by decide +kernel
theorem dX4_factAt_107 : decode cX4_factAt 107 = .ok (.iload_n 2, 1) := by decide +kernel
theorem dX4_factAt_108 : decode cX4_factAt 108 = .ok (.iaload, 1) := by decide +kernel
theorem dX4_factAt_109 : decode cX4_factAt 109 = .ok (.i2l, 1) := by decide +kernel
theorem dX4_factAt_110 : decode cX4_factAt 110 = .ok (.lreturn, 1) := by decide +kernel
theorem dX4_factAt_111 : decode cX4_factAt 111 = .ok (.aload_n 3, 1) := by decide +kernel
theorem dX4_factAt_112 : decode cX4_factAt 112 = .ok (.getfield 81, 3) := by decide +kernel
theorem dX4_factAt_115 : decode cX4_factAt 115 = .ok (.getfield 90, 3) := by decide +kernel
theorem dX4_factAt_118 : decode cX4_factAt 118 = .ok (.iload_n 2, 1) := by decide +kernel
theorem dX4_factAt_119 : decode cX4_factAt 119 = .ok (.iaload, 1) := by decide +kernel
theorem dX4_factAt_120 : decode cX4_factAt 120 = .ok (.i2l, 1) := by decide +kernel
theorem dX4_factAt_121 : decode cX4_factAt 121 = .ok (.lreturn, 1) := by decide +kernel
theorem dX4_factAt_122 : decode cX4_factAt 122 = .ok (.aload_n 3, 1) := by decide +kernel
theorem dX4_factAt_123 : decode cX4_factAt 123 = .ok (.getfield 81, 3) := by decide +kernel
theorem dX4_factAt_126 : decode cX4_factAt 126 = .ok (.getfield 93, 3) := by decide +kernel
theorem dX4_factAt_129 : decode cX4_factAt 129 = .ok (.iload_n 2, 1) := by decide +kernel
theorem dX4_factAt_130 : decode cX4_factAt 130 = .ok (.iaload, 1) := by decide +kernel
theorem dX4_factAt_131 : decode cX4_factAt 131 = .ok (.i2l, 1) := by decide +kernel
theorem dX4_factAt_132 : decode cX4_factAt 132 = .ok (.lreturn, 1) := by decide +kernel
theorem dX4_factAt_133 : decode cX4_factAt 133 = .ok (.aload_n 3, 1) := by decide +kernel
theorem dX4_factAt_134 : decode cX4_factAt 134 = .ok (.getfield 81, 3) := by decide +kernel
theorem dX4_factAt_137 : decode cX4_factAt 137 = .ok (.getfield 96, 3) := by decide +kernel
theorem dX4_factAt_140 : decode cX4_factAt 140 = .ok (.iload_n 2, 1) := by decide +kernel
theorem dX4_factAt_141 : decode cX4_factAt 141 = .ok (.iaload, 1) := by decide +kernel
theorem dX4_factAt_142 : decode cX4_factAt 142 = .ok (.i2l, 1) := by decide +kernel
theorem dX4_factAt_143 : decode cX4_factAt 143 = .ok (.lreturn, 1) := by decide +kernel
theorem dX4_factAt_144 : decode cX4_factAt 144 = .ok (.aload_n 3, 1) := by decide +kernel
theorem dX4_factAt_145 : decode cX4_factAt 145 = .ok (.iload_n 2, 1) := by decide +kernel
theorem dX4_factAt_146 : decode cX4_factAt 146 = .ok (.invokevirtual 99, 3) := by decide +kernel
theorem dX4_factAt_149 : decode cX4_factAt 149 = .ok (.i2l, 1) := by decide +kernel
theorem dX4_factAt_150 : decode cX4_factAt 150 = .ok (.lreturn, 1) := by decide +kernel
theorem dX4_factAt_151 : decode cX4_factAt 151 = .ok (.aload_n 3, 1) := by decide +kernel
theorem dX4_factAt_152 : decode cX4_factAt 152 = .ok (.invokevirtual 64, 3) := by decide +kernel
theorem dX4_factAt_155 : decode cX4_factAt 155 = .ok (.i2l, 1) := by decide +kernel
theorem dX4_factAt_156 : decode cX4_factAt 156 = .ok (.lreturn, 1) := by decide +kernel
theorem dX4_factAt_157 : decode cX4_factAt 157 = .ok (.aload_n 3, 1) := by decide +kernel
theorem dX4_factAt_158 : decode cX4_factAt 158 = .ok (.getfield 103, 3) := by decide +kernel
theorem dX4_factAt_161 : decode cX4_factAt 161 = .ok (.bipush 24, 2) := by decide +kernel
theorem dX4_factAt_163 : decode cX4_factAt 163 = .ok (.irem, 1) := by decide +kernel
theorem dX4_factAt_164 : decode cX4_factAt 164 = .ok (.i2l, 1) := by decide +kernel
theorem dX4_factAt_165 : decode cX4_factAt 165 = .ok (.lreturn, 1) := by decide +kernel
theorem dX4_factAt_166 : decode cX4_factAt 166 = .ok (.aload 4, 2) := by decide +kernel
theorem dX4_factAt_168 : decode cX4_factAt 168 = .ok (.aload_n 3, 1) := by decide +kernel
theorem dX4_factAt_169 : decode cX4_factAt 169 = .ok (.getfield 103, 3) := by decide +kernel
theorem dX4_factAt_172 : decode cX4_factAt 172 = .ok (.invokevirtual 106, 3) := by decide +kernel
theorem dX4_factAt_175 : decode cX4_factAt 175 = .ok (.i2l, 1) := by decide +kernel
theorem dX4_factAt_176 : decode cX4_factAt 176 = .ok (.lreturn, 1) := by decide +kernel
theorem dX4_factAt_177 : decode cX4_factAt 177 = .ok (.aload_n 3, 1) := by decide +kernel
theorem dX4_factAt_178 : decode cX4_factAt 178 = .ok (.getfield 111, 3) := by decide +kernel
theorem dX4_factAt_181 : decode cX4_factAt 181 = .ok (.getfield 115, 3) := by decide +kernel
theorem dX4_factAt_184 : decode cX4_factAt 184 = .ok (.iload_n 2, 1) := by decide +kernel
theorem dX4_factAt_185 : decode cX4_factAt 185 = .ok (.iaload, 1) := by decide +kernel
theorem dX4_factAt_186 : decode cX4_factAt 186 = .ok (.i2l, 1) := by decide +kernel
theorem dX4_factAt_187 : decode cX4_factAt 187 = .ok (.lreturn, 1) := by decide +kernel
theorem dX4_factAt_188 : decode cX4_factAt 188 = .ok (.aload_n 3, 1) := by decide +kernel
theorem dX4_factAt_189 : decode cX4_factAt 189 = .ok (.getfield 111, 3) := by decide +kernel
theorem dX4_factAt_192 : decode cX4_factAt 192 = .ok (.iload_n 2, 1) := by decide +kernel
theorem dX4_factAt_193 : decode cX4_factAt 193 = .ok (.invokevirtual 120, 3) := by decide +kernel
theorem dX4_factAt_196 : decode cX4_factAt 196 = .ok (.lreturn, 1) := by decide +kernel
theorem dX4_factAt_197 : decode cX4_factAt 197 = .ok (.aload_n 3, 1) := by decide +kernel
theorem dX4_factAt_198 : decode cX4_factAt 198 = .ok (.getfield 124, 3) := by decide +kernel
theorem dX4_factAt_201 : decode cX4_factAt 201 = .ok (.iload_n 2, 1) := by decide +kernel
theorem dX4_factAt_202 : decode cX4_factAt 202 = .ok (.invokevirtual 128, 3) := by decide +kernel
theorem dX4_factAt_205 : decode cX4_factAt 205 = .ok (.i2l, 1) := by decide +kernel
theorem dX4_factAt_206 : decode cX4_factAt 206 = .ok (.lreturn, 1) := by decide +kernel
theorem dX4_factAt_207 : decode cX4_factAt 207 = .ok (.aload_n 3, 1) := by decide +kernel
theorem dX4_factAt_208 : decode cX4_factAt 208 = .ok (.iload_n 2, 1) := by decide +kernel
theorem dX4_factAt_209 : decode cX4_factAt 209 = .ok (.invokevirtual 133, 3) := by decide +kernel
theorem dX4_factAt_212 : decode cX4_factAt 212 = .ok (.i2l, 1) := by decide +kernel
theorem dX4_factAt_213 : decode cX4_factAt 213 = .ok (.lreturn, 1) := by decide +kernel
theorem dX4_ruling_0 : decode cX4_ruling 0 = .ok (.iconst (-1), 1) := by decide +kernel
theorem dX4_ruling_1 : decode cX4_ruling 1 = .ok (.istore_n 3, 1) := by decide +kernel
theorem dX4_ruling_2 : decode cX4_ruling 2 = .ok (.iconst 0, 1) := by decide +kernel
theorem dX4_ruling_3 : decode cX4_ruling 3 = .ok (.istore 4, 2) := by decide +kernel
theorem dX4_ruling_5 : decode cX4_ruling 5 = .ok (.iload 4, 2) := by decide +kernel
theorem dX4_ruling_7 : decode cX4_ruling 7 = .ok (.aload_n 0, 1) := by decide +kernel
theorem dX4_ruling_8 : decode cX4_ruling 8 = .ok (.getfield 9, 3) := by decide +kernel
theorem dX4_ruling_11 : decode cX4_ruling 11 = .ok (.if_icmp .ge 57, 3) := by decide +kernel
theorem dX4_ruling_14 : decode cX4_ruling 14 = .ok (.aload_n 0, 1) := by decide +kernel
theorem dX4_ruling_15 : decode cX4_ruling 15 = .ok (.getfield 15, 3) := by decide +kernel
theorem dX4_ruling_18 : decode cX4_ruling 18 = .ok (.iload 4, 2) := by decide +kernel
theorem dX4_ruling_20 : decode cX4_ruling 20 = .ok (.iaload, 1) := by decide +kernel
theorem dX4_ruling_21 : decode cX4_ruling 21 = .ok (.iload_n 1, 1) := by decide +kernel
theorem dX4_ruling_22 : decode cX4_ruling 22 = .ok (.if_icmp .ne 40, 3) := by decide +kernel
theorem dX4_ruling_25 : decode cX4_ruling 25 = .ok (.aload_n 0, 1) := by decide +kernel
theorem dX4_ruling_26 : decode cX4_ruling 26 = .ok (.getfield 19, 3) := by decide +kernel
theorem dX4_ruling_29 : decode cX4_ruling 29 = .ok (.iload 4, 2) := by decide +kernel
theorem dX4_ruling_31 : decode cX4_ruling 31 = .ok (.iaload, 1) := by decide +kernel
theorem dX4_ruling_32 : decode cX4_ruling 32 = .ok (.iload_n 2, 1) := by decide +kernel
theorem dX4_ruling_33 : decode cX4_ruling 33 = .ok (.if_icmp .le 6, 3) := by decide +kernel
theorem dX4_ruling_36 : decode cX4_ruling 36 = .ok (.goto 26, 3) := by decide +kernel
theorem dX4_ruling_39 : decode cX4_ruling 39 = .ok (.iload_n 3, 1) := by decide +kernel
theorem dX4_ruling_40 : decode cX4_ruling 40 = .ok (.ifCond .lt 19, 3) := by decide +kernel
theorem dX4_ruling_43 : decode cX4_ruling 43 = .ok (.aload_n 0, 1) := by decide +kernel
theorem dX4_ruling_44 : decode cX4_ruling 44 = .ok (.getfield 19, 3) := by decide +kernel
theorem dX4_ruling_47 : decode cX4_ruling 47 = .ok (.iload 4, 2) := by decide +kernel
theorem dX4_ruling_49 : decode cX4_ruling 49 = .ok (.iaload, 1) := by decide +kernel
theorem dX4_ruling_50 : decode cX4_ruling 50 = .ok (.aload_n 0, 1) := by decide +kernel
theorem dX4_ruling_51 : decode cX4_ruling 51 = .ok (.getfield 19, 3) := by decide +kernel
theorem dX4_ruling_54 : decode cX4_ruling 54 = .ok (.iload_n 3, 1) := by decide +kernel
theorem dX4_ruling_55 : decode cX4_ruling 55 = .ok (.iaload, 1) := by decide +kernel
theorem dX4_ruling_56 : decode cX4_ruling 56 = .ok (.if_icmp .lt 6, 3) := by decide +kernel
theorem dX4_ruling_59 : decode cX4_ruling 59 = .ok (.iload 4, 2) := by decide +kernel
theorem dX4_ruling_61 : decode cX4_ruling 61 = .ok (.istore_n 3, 1) := by decide +kernel
theorem dX4_ruling_62 : decode cX4_ruling 62 = .ok (.iinc 4 1, 3) := by decide +kernel
theorem dX4_ruling_65 : decode cX4_ruling 65 = .ok (.goto (-60), 3) := by decide +kernel
theorem dX4_ruling_68 : decode cX4_ruling 68 = .ok (.iload_n 3, 1) := by decide +kernel
theorem dX4_ruling_69 : decode cX4_ruling 69 = .ok (.ireturn, 1) := by decide +kernel
theorem dX4_allow_0 : decode cX4_allow 0 = .ok (.aload_n 0, 1) := by decide +kernel
theorem dX4_allow_1 : decode cX4_allow 1 = .ok (.iload_n 1, 1) := by decide +kernel
theorem dX4_allow_2 : decode cX4_allow 2 = .ok (.aload_n 3, 1) := by decide +kernel
theorem dX4_allow_3 : decode cX4_allow 3 = .ok (.invokevirtual 64, 3) := by decide +kernel
theorem dX4_allow_6 : decode cX4_allow 6 = .ok (.invokevirtual 70, 3) := by decide +kernel
theorem dX4_allow_9 : decode cX4_allow 9 = .ok (.istore 5, 2) := by decide +kernel
theorem dX4_allow_11 : decode cX4_allow 11 = .ok (.iload 5, 2) := by decide +kernel
theorem dX4_allow_13 : decode cX4_allow 13 = .ok (.ifCond .ge 14, 3) := by decide +kernel
theorem dX4_allow_16 : decode cX4_allow 16 = .ok (.iload_n 1, 1) := by decide +kernel
theorem dX4_allow_17 : decode cX4_allow 17 = .ok (.iconst 1, 1) := by decide +kernel
theorem dX4_allow_18 : decode cX4_allow 18 = .ok (.if_icmp .eq 7, 3) := by decide +kernel
theorem dX4_allow_21 : decode cX4_allow 21 = .ok (.iconst 1, 1) := by decide +kernel
theorem dX4_allow_22 : decode cX4_allow 22 = .ok (.goto 4, 3) := by decide +kernel
theorem dX4_allow_25 : decode cX4_allow 25 = .ok (.iconst 0, 1) := by decide +kernel
theorem dX4_allow_26 : decode cX4_allow 26 = .ok (.ireturn, 1) := by decide +kernel
theorem dX4_allow_27 : decode cX4_allow 27 = .ok (.iconst 0, 1) := by decide +kernel
theorem dX4_allow_28 : decode cX4_allow 28 = .ok (.istore 6, 2) := by decide +kernel
theorem dX4_allow_30 : decode cX4_allow 30 = .ok (.iconst 0, 1) := by decide +kernel
theorem dX4_allow_31 : decode cX4_allow 31 = .ok (.istore 7, 2) := by decide +kernel
theorem dX4_allow_33 : decode cX4_allow 33 = .ok (.iload 7, 2) := by decide +kernel
theorem dX4_allow_35 : decode cX4_allow 35 = .ok (.aload_n 0, 1) := by decide +kernel
theorem dX4_allow_36 : decode cX4_allow 36 = .ok (.getfield 22, 3) := by decide +kernel
theorem dX4_allow_39 : decode cX4_allow 39 = .ok (.iload 5, 2) := by decide +kernel
theorem dX4_allow_41 : decode cX4_allow 41 = .ok (.iaload, 1) := by decide +kernel
theorem dX4_allow_42 : decode cX4_allow 42 = .ok (.if_icmp .ge 149, 3) := by decide +kernel
theorem dX4_allow_45 : decode cX4_allow 45 = .ok (.aload_n 0, 1) := by decide +kernel
theorem dX4_allow_46 : decode cX4_allow 46 = .ok (.getfield 27, 3) := by decide +kernel
theorem dX4_allow_49 : decode cX4_allow 49 = .ok (.iload 5, 2) := by decide +kernel
theorem dX4_allow_51 : decode cX4_allow 51 = .ok (.aaload, 1) := by decide +kernel
theorem dX4_allow_52 : decode cX4_allow 52 = .ok (.iload 7, 2) := by decide +kernel
theorem dX4_allow_54 : decode cX4_allow 54 = .ok (.iaload, 1) := by decide +kernel
theorem dX4_allow_55 : decode cX4_allow 55 = .ok (.istore 8, 2) := by decide +kernel
theorem dX4_allow_57 : decode cX4_allow 57 = .ok (.iload 8, 2) := by decide +kernel
theorem dX4_allow_59 : decode cX4_allow 59 = .ok (.sipush 20000, 3) := by decide +kernel
theorem dX4_allow_62 : decode cX4_allow 62 = .ok (.if_icmp .ge 44, 3) := by decide +kernel
theorem dX4_allow_65 : decode cX4_allow 65 = .ok (.aload_n 0, 1) := by decide +kernel
theorem dX4_allow_66 : decode cX4_allow 66 = .ok (.getfield 33, 3) := by decide +kernel
theorem dX4_allow_69 : decode cX4_allow 69 = .ok (.iload 6, 2) := by decide +kernel
theorem dX4_allow_71 : decode cX4_allow 71 = .ok (.iload 8, 2) := by decide +kernel
theorem dX4_allow_73 : decode cX4_allow 73 = .ok (.sipush 10000, 3) := by decide +kernel
theorem dX4_allow_76 : decode cX4_allow 76 = .ok (.if_icmp .ge 9, 3) := by decide +kernel
theorem dX4_allow_79 : decode cX4_allow 79 = .ok (.iload 8, 2) := by decide +kernel
theorem dX4_allow_81 : decode cX4_allow 81 = .ok (.i2l, 1) := by decide +kernel
theorem dX4_allow_82 : decode cX4_allow 82 = .ok (.goto 17, 3) := by decide +kernel
theorem dX4_allow_85 : decode cX4_allow 85 = .ok (.aload_n 0, 1) := by decide +kernel
theorem dX4_allow_86 : decode cX4_allow 86 = .ok (.iload 8, 2) := by decide +kernel
theorem dX4_allow_88 : decode cX4_allow 88 = .ok (.sipush 10000, 3) := by decide +kernel
theorem dX4_allow_91 : decode cX4_allow 91 = .ok (.isub, 1) := by decide +kernel
theorem dX4_allow_92 : decode cX4_allow 92 = .ok (.iload_n 2, 1) := by decide +kernel
theorem dX4_allow_93 : decode cX4_allow 93 = .ok (.aload_n 3, 1) := by decide +kernel
theorem dX4_allow_94 : decode cX4_allow 94 = .ok (.aload 4, 2) := by decide +kernel
theorem dX4_allow_96 : decode cX4_allow 96 = .ok (.invokevirtual 73, 3) := by decide +kernel
theorem dX4_allow_99 : decode cX4_allow 99 = .ok (.lastore, 1) := by decide +kernel
theorem dX4_allow_100 : decode cX4_allow 100 = .ok (.iinc 6 1, 3) := by decide +kernel
theorem dX4_allow_103 : decode cX4_allow 103 = .ok (.goto 82, 3) := by decide +kernel
theorem dX4_allow_106 : decode cX4_allow 106 = .ok (.iload 8, 2) := by decide +kernel
theorem dX4_allow_108 : decode cX4_allow 108 = .ok (.sipush 20033, 3) := by decide +kernel
theorem dX4_allow_111 : decode cX4_allow 111 = .ok (.if_icmp .ne 31, 3) := by decide +kernel
theorem dX4_allow_114 : decode cX4_allow 114 = .ok (.iload 6, 2) := by decide +kernel
theorem dX4_allow_116 : decode cX4_allow 116 = .ok (.ifCond .le 69, 3) := by decide +kernel
theorem dX4_allow_119 : decode cX4_allow 119 = .ok (.aload_n 0, 1) := by decide +kernel
theorem dX4_allow_120 : decode cX4_allow 120 = .ok (.getfield 33, 3) := by decide +kernel
theorem dX4_allow_123 : decode cX4_allow 123 = .ok (.iload 6, 2) := by decide +kernel
theorem dX4_allow_125 : decode cX4_allow 125 = .ok (.iconst 1, 1) := by decide +kernel
theorem dX4_allow_126 : decode cX4_allow 126 = .ok (.isub, 1) := by decide +kernel
theorem dX4_allow_127 : decode cX4_allow 127 = .ok (.lconst 1, 1) := by decide +kernel
theorem dX4_allow_128 : decode cX4_allow 128 = .ok (.aload_n 0, 1) := by decide +kernel
theorem dX4_allow_129 : decode cX4_allow 129 = .ok (.getfield 33, 3) := by decide +kernel
theorem dX4_allow_132 : decode cX4_allow 132 = .ok (.iload 6, 2) := by decide +kernel
theorem dX4_allow_134 : decode cX4_allow 134 = .ok (.iconst 1, 1) := by decide +kernel
theorem dX4_allow_135 : decode cX4_allow 135 = .ok (.isub, 1) := by decide +kernel
theorem dX4_allow_136 : decode cX4_allow 136 = .ok (.laload, 1) := by decide +kernel
theorem dX4_allow_137 : decode cX4_allow 137 = .ok (.lsub, 1) := by decide +kernel
theorem dX4_allow_138 : decode cX4_allow 138 = .ok (.lastore, 1) := by decide +kernel
theorem dX4_allow_139 : decode cX4_allow 139 = .ok (.goto 46, 3) := by decide +kernel
theorem dX4_allow_142 : decode cX4_allow 142 = .ok (.iload 6, 2) := by decide +kernel
theorem dX4_allow_144 : decode cX4_allow 144 = .ok (.iconst 1, 1) := by decide +kernel
theorem dX4_allow_145 : decode cX4_allow 145 = .ok (.if_icmp .le 40, 3) := by decide +kernel
theorem dX4_allow_148 : decode cX4_allow 148 = .ok (.iinc 6 (-1), 3) := by decide +kernel
theorem dX4_allow_151 : decode cX4_allow 151 = .ok (.aload_n 0, 1) := by decide +kernel
theorem dX4_allow_152 : decode cX4_allow 152 = .ok (.getfield 33, 3) := by decide +kernel
theorem dX4_allow_155 : decode cX4_allow 155 = .ok (.iload 6, 2) := by decide +kernel
theorem dX4_allow_157 : decode cX4_allow 157 = .ok (.iconst 1, 1) := by decide +kernel
theorem dX4_allow_158 : decode cX4_allow 158 = .ok (.isub, 1) := by decide +kernel
theorem dX4_allow_159 : decode cX4_allow 159 = .ok (.iload 8, 2) := by decide +kernel
theorem dX4_allow_161 : decode cX4_allow 161 = .ok (.sipush 20000, 3) := by decide +kernel
theorem dX4_allow_164 : decode cX4_allow 164 = .ok (.isub, 1) := by decide +kernel
theorem dX4_allow_165 : decode cX4_allow 165 = .ok (.aload_n 0, 1) := by decide +kernel
theorem dX4_allow_166 : decode cX4_allow 166 = .ok (.getfield 33, 3) := by decide +kernel
theorem dX4_allow_169 : decode cX4_allow 169 = .ok (.iload 6, 2) := by decide +kernel
theorem dX4_allow_171 : decode cX4_allow 171 = .ok (.iconst 1, 1) := by decide +kernel
theorem dX4_allow_172 : decode cX4_allow 172 = .ok (.isub, 1) := by decide +kernel
theorem dX4_allow_173 : decode cX4_allow 173 = .ok (.laload, 1) := by decide +kernel
theorem dX4_allow_174 : decode cX4_allow 174 = .ok (.aload_n 0, 1) := by decide +kernel
theorem dX4_allow_175 : decode cX4_allow 175 = .ok (.getfield 33, 3) := by decide +kernel
theorem dX4_allow_178 : decode cX4_allow 178 = .ok (.iload 6, 2) := by decide +kernel
theorem dX4_allow_180 : decode cX4_allow 180 = .ok (.laload, 1) := by decide +kernel
theorem dX4_allow_181 : decode cX4_allow 181 = .ok (.invokestatic 77, 3) := by decide +kernel
theorem dX4_allow_184 : decode cX4_allow 184 = .ok (.lastore, 1) := by decide +kernel
theorem dX4_allow_185 : decode cX4_allow 185 = .ok (.iinc 7 1, 3) := by decide +kernel
theorem dX4_allow_188 : decode cX4_allow 188 = .ok (.goto (-155), 3) := by decide +kernel
theorem dX4_allow_191 : decode cX4_allow 191 = .ok (.aload_n 0, 1) := by decide +kernel
theorem dX4_allow_192 : decode cX4_allow 192 = .ok (.getfield 33, 3) := by decide +kernel
theorem dX4_allow_195 : decode cX4_allow 195 = .ok (.iconst 0, 1) := by decide +kernel
theorem dX4_allow_196 : decode cX4_allow 196 = .ok (.laload, 1) := by decide +kernel
theorem dX4_allow_197 : decode cX4_allow 197 = .ok (.lconst 0, 1) := by decide +kernel
theorem dX4_allow_198 : decode cX4_allow 198 = .ok (.lcmp, 1) := by decide +kernel
theorem dX4_allow_199 : decode cX4_allow 199 = .ok (.ifCond .eq 7, 3) := by decide +kernel
theorem dX4_allow_202 : decode cX4_allow 202 = .ok (.iconst 1, 1) := by decide +kernel
theorem dX4_allow_203 : decode cX4_allow 203 = .ok (.goto 4, 3) := by decide +kernel
theorem dX4_allow_206 : decode cX4_allow 206 = .ok (.iconst 0, 1) := by decide +kernel
theorem dX4_allow_207 : decode cX4_allow 207 = .ok (.ireturn, 1) := by decide +kernel
theorem dX0_pullWalls_0 : decode cX0_pullWalls 0 = .ok (.iload_n 2, 1) := by decide +kernel
theorem dX0_pullWalls_1 : decode cX0_pullWalls 1 = .ok (.iconst 1, 1) := by decide +kernel
theorem dX0_pullWalls_2 : decode cX0_pullWalls 2 = .ok (.aload_n 0, 1) := by decide +kernel
theorem dX0_pullWalls_3 : decode cX0_pullWalls 3 = .ok (.getfield 12, 3) := by decide +kernel
theorem dX0_pullWalls_6 : decode cX0_pullWalls 6 = .ok (.getfield 195, 3) := by decide +kernel
theorem dX0_pullWalls_9 : decode cX0_pullWalls 9 = .ok (.iload_n 1, 1) := by decide +kernel
theorem dX0_pullWalls_10 : decode cX0_pullWalls 10 = .ok (.iaload, 1) := by decide +kernel
theorem dX0_pullWalls_11 : decode cX0_pullWalls 11 = .ok (.iadd, 1) := by decide +kernel
theorem dX0_pullWalls_12 : decode cX0_pullWalls 12 = .ok (.imul, 1) := by decide +kernel
theorem dX0_pullWalls_13 : decode cX0_pullWalls 13 = .ok (.istore 5, 2) := by decide +kernel
theorem dX0_pullWalls_15 : decode cX0_pullWalls 15 = .ok (.iconst (-1), 1) := by decide +kernel
theorem dX0_pullWalls_16 : decode cX0_pullWalls 16 = .ok (.istore 6, 2) := by decide +kernel
theorem dX0_pullWalls_18 : decode cX0_pullWalls 18 = .ok (.iload 6, 2) := by decide +kernel
theorem dX0_pullWalls_20 : decode cX0_pullWalls 20 = .ok (.iconst 4, 1) := by decide +kernel
theorem dX0_pullWalls_21 : decode cX0_pullWalls 21 = .ok (.if_icmp .ge 160, 3) := by decide +kernel
theorem dX0_pullWalls_24 : decode cX0_pullWalls 24 = .ok (.iload 6, 2) := by decide +kernel
theorem dX0_pullWalls_26 : decode cX0_pullWalls 26 = .ok (.ifCond .ge 7, 3) := by decide +kernel
theorem dX0_pullWalls_29 : decode cX0_pullWalls 29 = .ok (.iload_n 1, 1) := by decide +kernel
theorem dX0_pullWalls_30 : decode cX0_pullWalls 30 = .ok (.goto 9, 3) := by decide +kernel
theorem dX0_pullWalls_33 : decode cX0_pullWalls 33 = .ok (.iload_n 1, 1) := by decide +kernel
theorem dX0_pullWalls_34 : decode cX0_pullWalls 34 = .ok (.iload 6, 2) := by decide +kernel
theorem dX0_pullWalls_36 : decode cX0_pullWalls 36 = .ok (.invokestatic 142, 3) := by decide +kernel
theorem dX0_pullWalls_39 : decode cX0_pullWalls 39 = .ok (.istore 7, 2) := by decide +kernel
theorem dX0_pullWalls_41 : decode cX0_pullWalls 41 = .ok (.iload 7, 2) := by decide +kernel
theorem dX0_pullWalls_43 : decode cX0_pullWalls 43 = .ok (.iconst (-1), 1) := by decide +kernel
theorem dX0_pullWalls_44 : decode cX0_pullWalls 44 = .ok (.if_icmp .eq 131, 3) := by decide +kernel
theorem dX0_pullWalls_47 : decode cX0_pullWalls 47 = .ok (.aload_n 0, 1) := by decide +kernel
theorem dX0_pullWalls_48 : decode cX0_pullWalls 48 = .ok (.getfield 12, 3) := by decide +kernel
theorem dX0_pullWalls_51 : decode cX0_pullWalls 51 = .ok (.getfield 198, 3) := by decide +kernel
theorem dX0_pullWalls_54 : decode cX0_pullWalls 54 = .ok (.iload 7, 2) := by decide +kernel
theorem dX0_pullWalls_56 : decode cX0_pullWalls 56 = .ok (.iaload, 1) := by decide +kernel
theorem dX0_pullWalls_57 : decode cX0_pullWalls 57 = .ok (.iconst 1, 1) := by decide +kernel
theorem dX0_pullWalls_58 : decode cX0_pullWalls 58 = .ok (.if_icmp .eq 117, 3) := by decide +kernel
theorem dX0_pullWalls_61 : decode cX0_pullWalls 61 = .ok (.aload_n 0, 1) := by decide +kernel
theorem dX0_pullWalls_62 : decode cX0_pullWalls 62 = .ok (.getfield 12, 3) := by decide +kernel
theorem dX0_pullWalls_65 : decode cX0_pullWalls 65 = .ok (.getfield 201, 3) := by decide +kernel
theorem dX0_pullWalls_68 : decode cX0_pullWalls 68 = .ok (.iload 7, 2) := by decide +kernel
theorem dX0_pullWalls_70 : decode cX0_pullWalls 70 = .ok (.iaload, 1) := by decide +kernel
theorem dX0_pullWalls_71 : decode cX0_pullWalls 71 = .ok (.ifCond .ne 6, 3) := by decide +kernel
theorem dX0_pullWalls_74 : decode cX0_pullWalls 74 = .ok (.goto 101, 3) := by decide +kernel
theorem dX0_pullWalls_77 : decode cX0_pullWalls 77 = .ok (.iload 5, 2) := by decide +kernel
theorem dX0_pullWalls_79 : decode cX0_pullWalls 79 = .ok (.iload 6, 2) := by decide +kernel
theorem dX0_pullWalls_81 : decode cX0_pullWalls 81 = .ok (.ifCond .ge 7, 3) := by decide +kernel
theorem dX0_pullWalls_84 : decode cX0_pullWalls 84 = .ok (.iconst 2, 1) := by decide +kernel
theorem dX0_pullWalls_85 : decode cX0_pullWalls 85 = .ok (.goto 4, 3) := by decide +kernel
theorem dX0_pullWalls_88 : decode cX0_pullWalls 88 = .ok (.iconst 4, 1) := by decide +kernel
theorem dX0_pullWalls_89 : decode cX0_pullWalls 89 = .ok (.idiv, 1) := by decide +kernel
theorem dX0_pullWalls_90 : decode cX0_pullWalls 90 = .ok (.aload_n 0, 1) := by decide +kernel
theorem dX0_pullWalls_91 : decode cX0_pullWalls 91 = .ok (.getfield 12, 3) := by decide +kernel
theorem dX0_pullWalls_94 : decode cX0_pullWalls 94 = .ok (.getfield 204, 3) := by decide +kernel
theorem dX0_pullWalls_97 : decode cX0_pullWalls 97 = .ok (.iload 7, 2) := by decide +kernel
theorem dX0_pullWalls_99 : decode cX0_pullWalls 99 = .ok (.iaload, 1) := by decide +kernel
theorem dX0_pullWalls_100 : decode cX0_pullWalls 100 = .ok (.isub, 1) := by decide +kernel
theorem dX0_pullWalls_101 : decode cX0_pullWalls 101 = .ok (.istore 8, 2) := by decide +kernel
theorem dX0_pullWalls_103 : decode cX0_pullWalls 103 = .ok (.iload 8, 2) := by decide +kernel
theorem dX0_pullWalls_105 : decode cX0_pullWalls 105 = .ok (.ifCond .gt 6, 3) := by decide +kernel
theorem dX0_pullWalls_108 : decode cX0_pullWalls 108 = .ok (.goto 67, 3) := by decide +kernel
theorem dX0_pullWalls_111 : decode cX0_pullWalls 111 = .ok (.aload_n 0, 1) := by decide +kernel
theorem dX0_pullWalls_112 : decode cX0_pullWalls 112 = .ok (.getfield 12, 3) := by decide +kernel
theorem dX0_pullWalls_115 : decode cX0_pullWalls 115 = .ok (.getfield 198, 3) := by decide +kernel
theorem dX0_pullWalls_118 : decode cX0_pullWalls 118 = .ok (.iload 7, 2) := by decide +kernel
theorem dX0_pullWalls_120 : decode cX0_pullWalls 120 = .ok (.iconst 1, 1) := by decide +kernel
theorem dX0_pullWalls_121 : decode cX0_pullWalls 121 = .ok (.iastore, 1) := by decide +kernel
theorem dX0_pullWalls_122 : decode cX0_pullWalls 122 = .ok (.aload_n 0, 1) := by decide +kernel
theorem dX0_pullWalls_123 : decode cX0_pullWalls 123 = .ok (.getfield 12, 3) := by decide +kernel
theorem dX0_pullWalls_126 : decode cX0_pullWalls 126 = .ok (.getfield 201, 3) := by decide +kernel
theorem dX0_pullWalls_129 : decode cX0_pullWalls 129 = .ok (.iload 7, 2) := by decide +kernel
theorem dX0_pullWalls_131 : decode cX0_pullWalls 131 = .ok (.iaload, 1) := by decide +kernel
theorem dX0_pullWalls_132 : decode cX0_pullWalls 132 = .ok (.iload 8, 2) := by decide +kernel
theorem dX0_pullWalls_134 : decode cX0_pullWalls 134 = .ok (.imul, 1) := by decide +kernel
theorem dX0_pullWalls_135 : decode cX0_pullWalls 135 = .ok (.istore 9, 2) := by decide +kernel
theorem dX0_pullWalls_137 : decode cX0_pullWalls 137 = .ok (.aload_n 3, 1) := by decide +kernel
theorem dX0_pullWalls_138 : decode cX0_pullWalls 138 = .ok (.iconst 1, 1) := by decide +kernel
theorem dX0_pullWalls_139 : decode cX0_pullWalls 139 = .ok (.iload 7, 2) := by decide +kernel
theorem dX0_pullWalls_141 : decode cX0_pullWalls 141 = .ok (.aload_n 0, 1) := by decide +kernel
theorem dX0_pullWalls_142 : decode cX0_pullWalls 142 = .ok (.aload 4, 2) := by decide +kernel
theorem dX0_pullWalls_144 : decode cX0_pullWalls 144 = .ok (.invokevirtual 175, 3) := by decide +kernel
theorem dX0_pullWalls_147 : decode cX0_pullWalls 147 = .ok (.ifCond .eq 17, 3) := by decide +kernel
theorem dX0_pullWalls_150 : decode cX0_pullWalls 150 = .ok (.aload_n 0, 1) := by decide +kernel
theorem dX0_pullWalls_151 : decode cX0_pullWalls 151 = .ok (.dup, 1) := by decide +kernel
theorem dX0_pullWalls_152 : decode cX0_pullWalls 152 = .ok (.getfield 64, 3) := by decide +kernel
theorem dX0_pullWalls_155 : decode cX0_pullWalls 155 = .ok (.iload 9, 2) := by decide +kernel
theorem dX0_pullWalls_157 : decode cX0_pullWalls 157 = .ok (.iadd, 1) := by decide +kernel
theorem dX0_pullWalls_158 : decode cX0_pullWalls 158 = .ok (.putfield 64, 3) := by decide +kernel
theorem dX0_pullWalls_161 : decode cX0_pullWalls 161 = .ok (.goto 14, 3) := by decide +kernel
theorem dX0_pullWalls_164 : decode cX0_pullWalls 164 = .ok (.aload_n 0, 1) := by decide +kernel
theorem dX0_pullWalls_165 : decode cX0_pullWalls 165 = .ok (.dup, 1) := by decide +kernel
theorem dX0_pullWalls_166 : decode cX0_pullWalls 166 = .ok (.getfield 67, 3) := by decide +kernel
theorem dX0_pullWalls_169 : decode cX0_pullWalls 169 = .ok (.iload 9, 2) := by decide +kernel
theorem dX0_pullWalls_171 : decode cX0_pullWalls 171 = .ok (.iadd, 1) := by decide +kernel
theorem dX0_pullWalls_172 : decode cX0_pullWalls 172 = .ok (.putfield 67, 3) := by decide +kernel
theorem dX0_pullWalls_175 : decode cX0_pullWalls 175 = .ok (.iinc 6 1, 3) := by decide +kernel
theorem dX0_pullWalls_178 : decode cX0_pullWalls 178 = .ok (.goto (-160), 3) := by decide +kernel
theorem dX0_pullWalls_181 : decode cX0_pullWalls 181 = .ok (.return_, 1) := by decide +kernel
theorem dX10_inDrain_0 : decode cX10_inDrain 0 = .ok (.aload_n 0, 1) := by decide +kernel
theorem dX10_inDrain_1 : decode cX10_inDrain 1 = .ok (.getfield 9, 3) := by decide +kernel
theorem dX10_inDrain_4 : decode cX10_inDrain 4 = .ok (.iload_n 1, 1) := by decide +kernel
theorem dX10_inDrain_5 : decode cX10_inDrain 5 = .ok (.iaload, 1) := by decide +kernel
theorem dX10_inDrain_6 : decode cX10_inDrain 6 = .ok (.i2l, 1) := by decide +kernel
theorem dX10_inDrain_7 : decode cX10_inDrain 7 = .ok (.aload_n 0, 1) := by decide +kernel
theorem dX10_inDrain_8 : decode cX10_inDrain 8 = .ok (.getfield 15, 3) := by decide +kernel
theorem dX10_inDrain_11 : decode cX10_inDrain 11 = .ok (.iload_n 1, 1) := by decide +kernel
theorem dX10_inDrain_12 : decode cX10_inDrain 12 = .ok (.iaload, 1) := by decide +kernel
theorem dX10_inDrain_13 : decode cX10_inDrain 13 = .ok (.i2l, 1) := by decide +kernel
theorem dX10_inDrain_14 : decode cX10_inDrain 14 = .ok (.ladd, 1) := by decide +kernel
theorem dX10_inDrain_15 : decode cX10_inDrain 15 = .ok (.lreturn, 1) := by decide +kernel
theorem dX0_doDaysWork_0 : decode cX0_doDaysWork 0 = .ok (.aload_n 0, 1) := by decide +kernel
theorem dX0_doDaysWork_1 : decode cX0_doDaysWork 1 = .ok (.dup, 1) := by decide +kernel
theorem dX0_doDaysWork_2 : decode cX0_doDaysWork 2 = .ok (.getfield 52, 3) := by decide +kernel
theorem dX0_doDaysWork_5 : decode cX0_doDaysWork 5 = .ok (.aload_n 0, 1) := by decide +kernel
theorem dX0_doDaysWork_6 : decode cX0_doDaysWork 6 = .ok (.getfield 55, 3) := by decide +kernel
theorem dX0_doDaysWork_9 : decode cX0_doDaysWork 9 = .ok (.iadd, 1) := by decide +kernel
theorem dX0_doDaysWork_10 : decode cX0_doDaysWork 10 = .ok (.putfield 52, 3) := by decide +kernel
theorem dX0_doDaysWork_13 : decode cX0_doDaysWork 13 = .ok (.iconst 0, 1) := by decide +kernel
theorem dX0_doDaysWork_14 : decode cX0_doDaysWork 14 = .ok (.istore_n 3, 1) := by decide +kernel
theorem dX0_doDaysWork_15 : decode cX0_doDaysWork 15 = .ok (.iload_n 3, 1) := by decide +kernel
theorem dX0_doDaysWork_16 : decode cX0_doDaysWork 16 = .ok (.aload_n 0, 1) := by decide +kernel
theorem dX0_doDaysWork_17 : decode cX0_doDaysWork 17 = .ok (.getfield 45, 3) := by decide +kernel
theorem dX0_doDaysWork_20 : decode cX0_doDaysWork 20 = .ok (.if_icmp .ge 261, 3) := by decide +kernel
theorem dX0_doDaysWork_23 : decode cX0_doDaysWork 23 = .ok (.aload_n 0, 1) := by decide +kernel
theorem dX0_doDaysWork_24 : decode cX0_doDaysWork 24 = .ok (.getfield 41, 3) := by decide +kernel
theorem dX0_doDaysWork_27 : decode cX0_doDaysWork 27 = .ok (.iload_n 3, 1) := by decide +kernel
theorem dX0_doDaysWork_28 : decode cX0_doDaysWork 28 = .ok (.aaload, 1) := by decide +kernel
theorem dX0_doDaysWork_29 : decode cX0_doDaysWork 29 = .ok (.astore 4, 2) := by decide +kernel
theorem dX0_doDaysWork_31 : decode cX0_doDaysWork 31 = .ok (.aload 4, 2) := by decide +kernel
theorem dX0_doDaysWork_33 : decode cX0_doDaysWork 33 = .ok (.invokevirtual 136, 3) := by decide +kernel
theorem dX0_doDaysWork_36 : decode cX0_doDaysWork 36 = .ok (.istore 5, 2) := by decide +kernel
theorem dX0_doDaysWork_38 : decode cX0_doDaysWork 38 = .ok (.aload 4, 2) := by decide +kernel
theorem dX0_doDaysWork_40 : decode cX0_doDaysWork 40 = .ok (.getfield 139, 3) := by decide +kernel
theorem dX0_doDaysWork_43 : decode cX0_doDaysWork 43 = .ok (.ifCond .eq 232, 3) := by decide +kernel
theorem dX0_doDaysWork_46 : decode cX0_doDaysWork 46 = .ok (.iload 5, 2) := by decide +kernel
theorem dX0_doDaysWork_48 : decode cX0_doDaysWork 48 = .ok (.ifCond .ge 6, 3) := by decide +kernel
theorem dX0_doDaysWork_51 : decode cX0_doDaysWork 51 = .ok (.goto 224, 3) := by decide +kernel
theorem dX0_doDaysWork_54 : decode cX0_doDaysWork 54 = .ok (.aload 4, 2) := by decide +kernel
theorem dX0_doDaysWork_56 : decode cX0_doDaysWork 56 = .ok (.getfield 99, 3) := by decide +kernel
theorem dX0_doDaysWork_59 : decode cX0_doDaysWork 59 = .ok (.iload 5, 2) := by decide +kernel
theorem dX0_doDaysWork_61 : decode cX0_doDaysWork 61 = .ok (.iaload, 1) := by decide +kernel
theorem dX0_doDaysWork_62 : decode cX0_doDaysWork 62 = .ok (.istore 6, 2) := by decide +kernel
theorem dX0_doDaysWork_64 : decode cX0_doDaysWork 64 = .ok (.aload_n 0, 1) := by decide +kernel
theorem dX0_doDaysWork_65 : decode cX0_doDaysWork 65 = .ok (.getfield 12, 3) := by decide +kernel
theorem dX0_doDaysWork_68 : decode cX0_doDaysWork 68 = .ok (.iload 6, 2) := by decide +kernel
theorem dX0_doDaysWork_70 : decode cX0_doDaysWork 70 = .ok (.aload 4, 2) := by decide +kernel
theorem dX0_doDaysWork_72 : decode cX0_doDaysWork 72 = .ok (.getfield 102, 3) := by decide +kernel
theorem dX0_doDaysWork_75 : decode cX0_doDaysWork 75 = .ok (.iload 5, 2) := by decide +kernel
theorem dX0_doDaysWork_77 : decode cX0_doDaysWork 77 = .ok (.iaload, 1) := by decide +kernel
theorem dX0_doDaysWork_78 : decode cX0_doDaysWork 78 = .ok (.invokevirtual 108, 3) := by decide +kernel
theorem dX0_doDaysWork_81 : decode cX0_doDaysWork 81 = .ok (.istore 7, 2) := by decide +kernel
theorem dX0_doDaysWork_83 : decode cX0_doDaysWork 83 = .ok (.aload_n 1, 1) := by decide +kernel
theorem dX0_doDaysWork_84 : decode cX0_doDaysWork 84 = .ok (.iconst 0, 1) := by decide +kernel
theorem dX0_doDaysWork_85 : decode cX0_doDaysWork 85 = .ok (.iload 6, 2) := by decide +kernel
theorem dX0_doDaysWork_87 : decode cX0_doDaysWork 87 = .ok (.aload_n 0, 1) := by decide +kernel
theorem dX0_doDaysWork_88 : decode cX0_doDaysWork 88 = .ok (.aload_n 2, 1) := by decide +kernel
theorem dX0_doDaysWork_89 : decode cX0_doDaysWork 89 = .ok (.invokevirtual 175, 3) := by decide +kernel
theorem dX0_doDaysWork_92 : decode cX0_doDaysWork 92 = .ok (.ifCond .ne 20, 3) := by decide +kernel
theorem dX0_doDaysWork_95 : decode cX0_doDaysWork 95 = .ok (.aload_n 0, 1) := by decide +kernel
theorem dX0_doDaysWork_96 : decode cX0_doDaysWork 96 = .ok (.dup, 1) := by decide +kernel
theorem dX0_doDaysWork_97 : decode cX0_doDaysWork 97 = .ok (.getfield 61, 3) := by decide +kernel
theorem dX0_doDaysWork_100 : decode cX0_doDaysWork 100 = .ok (.aload 4, 2) := by decide +kernel
theorem dX0_doDaysWork_102 : decode cX0_doDaysWork 102 = .ok (.getfield 139, 3) := by decide +kernel
theorem dX0_doDaysWork_105 : decode cX0_doDaysWork 105 = .ok (.iadd, 1) := by decide +kernel
theorem dX0_doDaysWork_106 : decode cX0_doDaysWork 106 = .ok (.putfield 61, 3) := by decide +kernel
theorem dX0_doDaysWork_109 : decode cX0_doDaysWork 109 = .ok (.goto 166, 3) := by decide +kernel
theorem dX0_doDaysWork_112 : decode cX0_doDaysWork 112 = .ok (.aload 4, 2) := by decide +kernel
theorem dX0_doDaysWork_114 : decode cX0_doDaysWork 114 = .ok (.getfield 181, 3) := by decide +kernel
theorem dX0_doDaysWork_117 : decode cX0_doDaysWork 117 = .ok (.iload 5, 2) := by decide +kernel
theorem dX0_doDaysWork_119 : decode cX0_doDaysWork 119 = .ok (.iaload, 1) := by decide +kernel
theorem dX0_doDaysWork_120 : decode cX0_doDaysWork 120 = .ok (.iload 7, 2) := by decide +kernel
theorem dX0_doDaysWork_122 : decode cX0_doDaysWork 122 = .ok (.if_icmp .ge 54, 3) := by decide +kernel
theorem dX0_doDaysWork_125 : decode cX0_doDaysWork 125 = .ok (.aload 4, 2) := by decide +kernel
theorem dX0_doDaysWork_127 : decode cX0_doDaysWork 127 = .ok (.getfield 181, 3) := by decide +kernel
theorem dX0_doDaysWork_130 : decode cX0_doDaysWork 130 = .ok (.iload 5, 2) := by decide +kernel
theorem dX0_doDaysWork_132 : decode cX0_doDaysWork 132 = .ok (.dup2, 1) := by decide +kernel
theorem dX0_doDaysWork_133 : decode cX0_doDaysWork 133 = .ok (.iaload, 1) := by decide +kernel
theorem dX0_doDaysWork_134 : decode cX0_doDaysWork 134 = .ok (.bipush 40, 2) := by decide +kernel
theorem dX0_doDaysWork_136 : decode cX0_doDaysWork 136 = .ok (.aload 4, 2) := by decide +kernel
theorem dX0_doDaysWork_138 : decode cX0_doDaysWork 138 = .ok (.getfield 139, 3) := by decide +kernel
theorem dX0_doDaysWork_141 : decode cX0_doDaysWork 141 = .ok (.imul, 1) := by decide +kernel
theorem dX0_doDaysWork_142 : decode cX0_doDaysWork 142 = .ok (.iadd, 1) := by decide +kernel
theorem dX0_doDaysWork_143 : decode cX0_doDaysWork 143 = .ok (.iastore, 1) := by decide +kernel
theorem dX0_doDaysWork_144 : decode cX0_doDaysWork 144 = .ok (.aload 4, 2) := by decide +kernel
theorem dX0_doDaysWork_146 : decode cX0_doDaysWork 146 = .ok (.getfield 181, 3) := by decide +kernel
theorem dX0_doDaysWork_149 : decode cX0_doDaysWork 149 = .ok (.iload 5, 2) := by decide +kernel
theorem dX0_doDaysWork_151 : decode cX0_doDaysWork 151 = .ok (.iaload, 1) := by decide +kernel
theorem dX0_doDaysWork_152 : decode cX0_doDaysWork 152 = .ok (.iload 7, 2) := by decide +kernel
theorem dX0_doDaysWork_154 : decode cX0_doDaysWork 154 = .ok (.if_icmp .lt 121, 3) := by decide +kernel
theorem dX0_doDaysWork_157 : decode cX0_doDaysWork 157 = .ok (.aload_n 0, 1) := by decide +kernel
theorem dX0_doDaysWork_158 : decode cX0_doDaysWork 158 = .ok (.iload 6, 2) := by decide +kernel
theorem dX0_doDaysWork_160 : decode cX0_doDaysWork 160 = .ok (.aload_n 0, 1) := by decide +kernel
theorem dX0_doDaysWork_161 : decode cX0_doDaysWork 161 = .ok (.aload 4, 2) := by decide +kernel
theorem dX0_doDaysWork_163 : decode cX0_doDaysWork 163 = .ok (.iload 5, 2) := by decide +kernel
theorem dX0_doDaysWork_165 : decode cX0_doDaysWork 165 = .ok (.invokevirtual 128, 3) := by decide +kernel
theorem dX0_doDaysWork_168 : decode cX0_doDaysWork 168 = .ok (.aload_n 1, 1) := by decide +kernel
theorem dX0_doDaysWork_169 : decode cX0_doDaysWork 169 = .ok (.aload_n 2, 1) := by decide +kernel
theorem dX0_doDaysWork_170 : decode cX0_doDaysWork 170 = .ok (.invokevirtual 184, 3) := by decide +kernel
theorem dX0_doDaysWork_173 : decode cX0_doDaysWork 173 = .ok (.goto 102, 3) := by decide +kernel
theorem dX0_doDaysWork_176 : decode cX0_doDaysWork 176 = .ok (.aload_n 0, 1) := by decide +kernel
theorem dX0_doDaysWork_177 : decode cX0_doDaysWork 177 = .ok (.getfield 52, 3) := by decide +kernel
theorem dX0_doDaysWork_180 : decode cX0_doDaysWork 180 = .ok (.bipush 100, 2) := by decide +kernel
theorem dX0_doDaysWork_182 : decode cX0_doDaysWork 182 = .ok (.aload 4, 2) := by decide +kernel
theorem dX0_doDaysWork_184 : decode cX0_doDaysWork 184 = .ok (.getfield 112, 3) := by decide +kernel
theorem dX0_doDaysWork_187 : decode cX0_doDaysWork 187 = .ok (.imul, 1) := by decide +kernel
theorem dX0_doDaysWork_188 : decode cX0_doDaysWork 188 = .ok (.if_icmp .lt 73, 3) := by decide +kernel
theorem dX0_doDaysWork_191 : decode cX0_doDaysWork 191 = .ok (.aload_n 0, 1) := by decide +kernel
theorem dX0_doDaysWork_192 : decode cX0_doDaysWork 192 = .ok (.dup, 1) := by decide +kernel
theorem dX0_doDaysWork_193 : decode cX0_doDaysWork 193 = .ok (.getfield 52, 3) := by decide +kernel
theorem dX0_doDaysWork_196 : decode cX0_doDaysWork 196 = .ok (.bipush 100, 2) := by decide +kernel
theorem dX0_doDaysWork_198 : decode cX0_doDaysWork 198 = .ok (.aload 4, 2) := by decide +kernel
theorem dX0_doDaysWork_200 : decode cX0_doDaysWork 200 = .ok (.getfield 112, 3) := by decide +kernel
theorem dX0_doDaysWork_203 : decode cX0_doDaysWork 203 = .ok (.imul, 1) := by decide +kernel
theorem dX0_doDaysWork_204 : decode cX0_doDaysWork 204 = .ok (.isub, 1) := by decide +kernel
theorem dX0_doDaysWork_205 : decode cX0_doDaysWork 205 = .ok (.putfield 52, 3) := by decide +kernel
theorem dX0_doDaysWork_208 : decode cX0_doDaysWork 208 = .ok (.aload 4, 2) := by decide +kernel
theorem dX0_doDaysWork_210 : decode cX0_doDaysWork 210 = .ok (.getfield 122, 3) := by decide +kernel
theorem dX0_doDaysWork_213 : decode cX0_doDaysWork 213 = .ok (.iload 5, 2) := by decide +kernel
theorem dX0_doDaysWork_215 : decode cX0_doDaysWork 215 = .ok (.aload_n 0, 1) := by decide +kernel
theorem dX0_doDaysWork_216 : decode cX0_doDaysWork 216 = .ok (.invokevirtual 118, 3) := by decide +kernel
theorem dX0_doDaysWork_219 : decode cX0_doDaysWork 219 = .ok (.iastore, 1) := by decide +kernel
theorem dX0_doDaysWork_220 : decode cX0_doDaysWork 220 = .ok (.aload 4, 2) := by decide +kernel
theorem dX0_doDaysWork_222 : decode cX0_doDaysWork 222 = .ok (.getfield 188, 3) := by decide +kernel
theorem dX0_doDaysWork_225 : decode cX0_doDaysWork 225 = .ok (.iload 5, 2) := by decide +kernel
theorem dX0_doDaysWork_227 : decode cX0_doDaysWork 227 = .ok (.aload_n 0, 1) := by decide +kernel
theorem dX0_doDaysWork_228 : decode cX0_doDaysWork 228 = .ok (.getfield 21, 3) := by decide +kernel
theorem dX0_doDaysWork_231 : decode cX0_doDaysWork 231 = .ok (.iload 6, 2) := by decide +kernel
theorem dX0_doDaysWork_233 : decode cX0_doDaysWork 233 = .ok (.invokevirtual 191, 3) := by decide +kernel
theorem dX0_doDaysWork_236 : decode cX0_doDaysWork 236 = .ok (.lconst 0, 1) := by decide +kernel
theorem dX0_doDaysWork_237 : decode cX0_doDaysWork 237 = .ok (.lcmp, 1) := by decide +kernel
theorem dX0_doDaysWork_238 : decode cX0_doDaysWork 238 = .ok (.ifCond .le 7, 3) := by decide +kernel
theorem dX0_doDaysWork_241 : decode cX0_doDaysWork 241 = .ok (.iconst 1, 1) := by decide +kernel
theorem dX0_doDaysWork_242 : decode cX0_doDaysWork 242 = .ok (.goto 4, 3) := by decide +kernel
theorem dX0_doDaysWork_245 : decode cX0_doDaysWork 245 = .ok (.iconst 0, 1) := by decide +kernel
theorem dX0_doDaysWork_246 : decode cX0_doDaysWork 246 = .ok (.iastore, 1) := by decide +kernel
theorem dX0_doDaysWork_247 : decode cX0_doDaysWork 247 = .ok (.aload 4, 2) := by decide +kernel
theorem dX0_doDaysWork_249 : decode cX0_doDaysWork 249 = .ok (.dup, 1) := by decide +kernel
theorem dX0_doDaysWork_250 : decode cX0_doDaysWork 250 = .ok (.getfield 115, 3) := by decide +kernel
theorem dX0_doDaysWork_253 : decode cX0_doDaysWork 253 = .ok (.iconst 1, 1) := by decide +kernel
theorem dX0_doDaysWork_254 : decode cX0_doDaysWork 254 = .ok (.isub, 1) := by decide +kernel
theorem dX0_doDaysWork_255 : decode cX0_doDaysWork 255 = .ok (.putfield 115, 3) := by decide +kernel
theorem dX0_doDaysWork_258 : decode cX0_doDaysWork 258 = .ok (.goto 17, 3) := by decide +kernel
theorem dX0_doDaysWork_261 : decode cX0_doDaysWork 261 = .ok (.aload_n 0, 1) := by decide +kernel
theorem dX0_doDaysWork_262 : decode cX0_doDaysWork 262 = .ok (.dup, 1) := by decide +kernel
theorem dX0_doDaysWork_263 : decode cX0_doDaysWork 263 = .ok (.getfield 61, 3) := by decide +kernel
theorem dX0_doDaysWork_266 : decode cX0_doDaysWork 266 = .ok (.aload 4, 2) := by decide +kernel
theorem dX0_doDaysWork_268 : decode cX0_doDaysWork 268 = .ok (.getfield 139, 3) := by decide +kernel
theorem dX0_doDaysWork_271 : decode cX0_doDaysWork 271 = .ok (.iadd, 1) := by decide +kernel
theorem dX0_doDaysWork_272 : decode cX0_doDaysWork 272 = .ok (.putfield 61, 3) := by decide +kernel
theorem dX0_doDaysWork_275 : decode cX0_doDaysWork 275 = .ok (.iinc 3 1, 3) := by decide +kernel
theorem dX0_doDaysWork_278 : decode cX0_doDaysWork 278 = .ok (.goto (-263), 3) := by decide +kernel
theorem dX0_doDaysWork_281 : decode cX0_doDaysWork 281 = .ok (.return_, 1) := by decide +kernel
theorem dX11_sumOf_0 : decode cX11_sumOf 0 = .ok (.iconst 0, 1) := by decide +kernel
theorem dX11_sumOf_1 : decode cX11_sumOf 1 = .ok (.istore_n 1, 1) := by decide +kernel
theorem dX11_sumOf_2 : decode cX11_sumOf 2 = .ok (.aload_n 0, 1) := by decide +kernel
theorem dX11_sumOf_3 : decode cX11_sumOf 3 = .ok (.astore_n 2, 1) := by decide +kernel
theorem dX11_sumOf_4 : decode cX11_sumOf 4 = .ok (.aload_n 2, 1) := by decide +kernel
theorem dX11_sumOf_5 : decode cX11_sumOf 5 = .ok (.arraylength, 1) := by decide +kernel
theorem dX11_sumOf_6 : decode cX11_sumOf 6 = .ok (.istore_n 3, 1) := by decide +kernel
theorem dX11_sumOf_7 : decode cX11_sumOf 7 = .ok (.iconst 0, 1) := by decide +kernel
theorem dX11_sumOf_8 : decode cX11_sumOf 8 = .ok (.istore 4, 2) := by decide +kernel
theorem dX11_sumOf_10 : decode cX11_sumOf 10 = .ok (.iload 4, 2) := by decide +kernel
theorem dX11_sumOf_12 : decode cX11_sumOf 12 = .ok (.iload_n 3, 1) := by decide +kernel
theorem dX11_sumOf_13 : decode cX11_sumOf 13 = .ok (.if_icmp .ge 20, 3) := by decide +kernel
theorem dX11_sumOf_16 : decode cX11_sumOf 16 = .ok (.aload_n 2, 1) := by decide +kernel
theorem dX11_sumOf_17 : decode cX11_sumOf 17 = .ok (.iload 4, 2) := by decide +kernel
theorem dX11_sumOf_19 : decode cX11_sumOf 19 = .ok (.iaload, 1) := by decide +kernel
theorem dX11_sumOf_20 : decode cX11_sumOf 20 = .ok (.istore 5, 2) := by decide +kernel
theorem dX11_sumOf_22 : decode cX11_sumOf 22 = .ok (.iload_n 1, 1) := by decide +kernel
theorem dX11_sumOf_23 : decode cX11_sumOf 23 = .ok (.iload 5, 2) := by decide +kernel
theorem dX11_sumOf_25 : decode cX11_sumOf 25 = .ok (.iadd, 1) := by decide +kernel
theorem dX11_sumOf_26 : decode cX11_sumOf 26 = .ok (.istore_n 1, 1) := by decide +kernel
theorem dX11_sumOf_27 : decode cX11_sumOf 27 = .ok (.iinc 4 1, 3) := by decide +kernel
theorem dX11_sumOf_30 : decode cX11_sumOf 30 = .ok (.goto (-20), 3) := by decide +kernel
theorem dX11_sumOf_33 : decode cX11_sumOf 33 = .ok (.iload_n 1, 1) := by decide +kernel
theorem dX11_sumOf_34 : decode cX11_sumOf 34 = .ok (.ireturn, 1) := by decide +kernel
theorem dX0_foulInAll_0 : decode cX0_foulInAll 0 = .ok (.aload_n 0, 1) := by decide +kernel
theorem dX0_foulInAll_1 : decode cX0_foulInAll 1 = .ok (.getfield 21, 3) := by decide +kernel
theorem dX0_foulInAll_4 : decode cX0_foulInAll 4 = .ok (.getfield 153, 3) := by decide +kernel
theorem dX0_foulInAll_7 : decode cX0_foulInAll 7 = .ok (.invokestatic 156, 3) := by decide +kernel
theorem dX0_foulInAll_10 : decode cX0_foulInAll 10 = .ok (.aload_n 0, 1) := by decide +kernel
theorem dX0_foulInAll_11 : decode cX0_foulInAll 11 = .ok (.getfield 21, 3) := by decide +kernel
theorem dX0_foulInAll_14 : decode cX0_foulInAll 14 = .ok (.getfield 160, 3) := by decide +kernel
theorem dX0_foulInAll_17 : decode cX0_foulInAll 17 = .ok (.invokestatic 156, 3) := by decide +kernel
theorem dX0_foulInAll_20 : decode cX0_foulInAll 20 = .ok (.iadd, 1) := by decide +kernel
theorem dX0_foulInAll_21 : decode cX0_foulInAll 21 = .ok (.aload_n 0, 1) := by decide +kernel
theorem dX0_foulInAll_22 : decode cX0_foulInAll 22 = .ok (.getfield 28, 3) := by decide +kernel
theorem dX0_foulInAll_25 : decode cX0_foulInAll 25 = .ok (.getfield 163, 3) := by decide +kernel
theorem dX0_foulInAll_28 : decode cX0_foulInAll 28 = .ok (.invokestatic 156, 3) := by decide +kernel
theorem dX0_foulInAll_31 : decode cX0_foulInAll 31 = .ok (.iadd, 1) := by decide +kernel
theorem dX0_foulInAll_32 : decode cX0_foulInAll 32 = .ok (.ireturn, 1) := by decide +kernel
theorem dX0_rainInAll_0 : decode cX0_rainInAll 0 = .ok (.aload_n 0, 1) := by decide +kernel
theorem dX0_rainInAll_1 : decode cX0_rainInAll 1 = .ok (.getfield 21, 3) := by decide +kernel
theorem dX0_rainInAll_4 : decode cX0_rainInAll 4 = .ok (.getfield 166, 3) := by decide +kernel
theorem dX0_rainInAll_7 : decode cX0_rainInAll 7 = .ok (.invokestatic 156, 3) := by decide +kernel
theorem dX0_rainInAll_10 : decode cX0_rainInAll 10 = .ok (.aload_n 0, 1) := by decide +kernel
theorem dX0_rainInAll_11 : decode cX0_rainInAll 11 = .ok (.getfield 21, 3) := by decide +kernel
theorem dX0_rainInAll_14 : decode cX0_rainInAll 14 = .ok (.getfield 169, 3) := by decide +kernel
theorem dX0_rainInAll_17 : decode cX0_rainInAll 17 = .ok (.invokestatic 156, 3) := by decide +kernel
theorem dX0_rainInAll_20 : decode cX0_rainInAll 20 = .ok (.iadd, 1) := by decide +kernel
theorem dX0_rainInAll_21 : decode cX0_rainInAll 21 = .ok (.aload_n 0, 1) := by decide +kernel
theorem dX0_rainInAll_22 : decode cX0_rainInAll 22 = .ok (.getfield 28, 3) := by decide +kernel
theorem dX0_rainInAll_25 : decode cX0_rainInAll 25 = .ok (.getfield 172, 3) := by decide +kernel
theorem dX0_rainInAll_28 : decode cX0_rainInAll 28 = .ok (.invokestatic 156, 3) := by decide +kernel
theorem dX0_rainInAll_31 : decode cX0_rainInAll 31 = .ok (.iadd, 1) := by decide +kernel
theorem dX0_rainInAll_32 : decode cX0_rainInAll 32 = .ok (.ireturn, 1) := by decide +kernel
theorem dX3_restart_0 : decode cX3_restart 0 = .ok (.aload_n 0, 1) := by decide +kernel
theorem dX3_restart_1 : decode cX3_restart 1 = .ok (.getfield 9, 3) := by decide +kernel
theorem dX3_restart_4 : decode cX3_restart 4 = .ok (.iconst 0, 1) := by decide +kernel
theorem dX3_restart_5 : decode cX3_restart 5 = .ok (.invokestatic 42, 3) := by decide +kernel
theorem dX3_restart_8 : decode cX3_restart 8 = .ok (.aload_n 0, 1) := by decide +kernel
theorem dX3_restart_9 : decode cX3_restart 9 = .ok (.getfield 36, 3) := by decide +kernel
theorem dX3_restart_12 : decode cX3_restart 12 = .ok (.iconst 0, 1) := by decide +kernel
theorem dX3_restart_13 : decode cX3_restart 13 = .ok (.invokestatic 42, 3) := by decide +kernel
theorem dX3_restart_16 : decode cX3_restart 16 = .ok (.aload_n 0, 1) := by decide +kernel
theorem dX3_restart_17 : decode cX3_restart 17 = .ok (.getfield 39, 3) := by decide +kernel
theorem dX3_restart_20 : decode cX3_restart 20 = .ok (.iconst 0, 1) := by decide +kernel
theorem dX3_restart_21 : decode cX3_restart 21 = .ok (.invokestatic 42, 3) := by decide +kernel
theorem dX3_restart_24 : decode cX3_restart 24 = .ok (.return_, 1) := by decide +kernel
theorem dX10_restart_0 : decode cX10_restart 0 = .ok (.aload_n 0, 1) := by decide +kernel
theorem dX10_restart_1 : decode cX10_restart 1 = .ok (.getfield 9, 3) := by decide +kernel
theorem dX10_restart_4 : decode cX10_restart 4 = .ok (.iconst 0, 1) := by decide +kernel
theorem dX10_restart_5 : decode cX10_restart 5 = .ok (.invokestatic 46, 3) := by decide +kernel
theorem dX10_restart_8 : decode cX10_restart 8 = .ok (.aload_n 0, 1) := by decide +kernel
theorem dX10_restart_9 : decode cX10_restart 9 = .ok (.getfield 15, 3) := by decide +kernel
theorem dX10_restart_12 : decode cX10_restart 12 = .ok (.iconst 0, 1) := by decide +kernel
theorem dX10_restart_13 : decode cX10_restart 13 = .ok (.invokestatic 46, 3) := by decide +kernel
theorem dX10_restart_16 : decode cX10_restart 16 = .ok (.aload_n 0, 1) := by decide +kernel
theorem dX10_restart_17 : decode cX10_restart 17 = .ok (.getfield 18, 3) := by decide +kernel
theorem dX10_restart_20 : decode cX10_restart 20 = .ok (.iconst 0, 1) := by decide +kernel
theorem dX10_restart_21 : decode cX10_restart 21 = .ok (.invokestatic 46, 3) := by decide +kernel
theorem dX10_restart_24 : decode cX10_restart 24 = .ok (.aload_n 0, 1) := by decide +kernel
theorem dX10_restart_25 : decode cX10_restart 25 = .ok (.getfield 21, 3) := by decide +kernel
theorem dX10_restart_28 : decode cX10_restart 28 = .ok (.iconst 0, 1) := by decide +kernel
theorem dX10_restart_29 : decode cX10_restart 29 = .ok (.invokestatic 46, 3) := by decide +kernel
theorem dX10_restart_32 : decode cX10_restart 32 = .ok (.aload_n 0, 1) := by decide +kernel
theorem dX10_restart_33 : decode cX10_restart 33 = .ok (.iconst 0, 1) := by decide +kernel
theorem dX10_restart_34 : decode cX10_restart 34 = .ok (.putfield 24, 3) := by decide +kernel
theorem dX10_restart_37 : decode cX10_restart 37 = .ok (.aload_n 0, 1) := by decide +kernel
theorem dX10_restart_38 : decode cX10_restart 38 = .ok (.iconst 0, 1) := by decide +kernel
theorem dX10_restart_39 : decode cX10_restart 39 = .ok (.putfield 28, 3) := by decide +kernel
theorem dX10_restart_42 : decode cX10_restart 42 = .ok (.aload_n 0, 1) := by decide +kernel
theorem dX10_restart_43 : decode cX10_restart 43 = .ok (.iconst 0, 1) := by decide +kernel
theorem dX10_restart_44 : decode cX10_restart 44 = .ok (.putfield 31, 3) := by decide +kernel
theorem dX10_restart_47 : decode cX10_restart 47 = .ok (.aload_n 0, 1) := by decide +kernel
theorem dX10_restart_48 : decode cX10_restart 48 = .ok (.iconst 0, 1) := by decide +kernel
theorem dX10_restart_49 : decode cX10_restart 49 = .ok (.putfield 34, 3) := by decide +kernel
theorem dX10_restart_52 : decode cX10_restart 52 = .ok (.aload_n 0, 1) := by decide +kernel
theorem dX10_restart_53 : decode cX10_restart 53 = .ok (.iconst 0, 1) := by decide +kernel
theorem dX10_restart_54 : decode cX10_restart 54 = .ok (.putfield 37, 3) := by decide +kernel
theorem dX10_restart_57 : decode cX10_restart 57 = .ok (.aload_n 0, 1) := by decide +kernel
theorem dX10_restart_58 : decode cX10_restart 58 = .ok (.iconst 0, 1) := by decide +kernel
theorem dX10_restart_59 : decode cX10_restart 59 = .ok (.putfield 40, 3) := by decide +kernel
theorem dX10_restart_62 : decode cX10_restart 62 = .ok (.aload_n 0, 1) := by decide +kernel
theorem dX10_restart_63 : decode cX10_restart 63 = .ok (.iconst 0, 1) := by decide +kernel
theorem dX10_restart_64 : decode cX10_restart 64 = .ok (.putfield 43, 3) := by decide +kernel
theorem dX10_restart_67 : decode cX10_restart 67 = .ok (.return_, 1) := by decide +kernel
theorem dX0_restart_0 : decode cX0_restart 0 = .ok (.aload_n 0, 1) := by decide +kernel
theorem dX0_restart_1 : decode cX0_restart 1 = .ok (.getfield 12, 3) := by decide +kernel
theorem dX0_restart_4 : decode cX0_restart 4 = .ok (.invokevirtual 71, 3) := by decide +kernel
theorem dX0_restart_7 : decode cX0_restart 7 = .ok (.aload_n 0, 1) := by decide +kernel
theorem dX0_restart_8 : decode cX0_restart 8 = .ok (.getfield 21, 3) := by decide +kernel
theorem dX0_restart_11 : decode cX0_restart 11 = .ok (.invokevirtual 74, 3) := by decide +kernel
theorem dX0_restart_14 : decode cX0_restart 14 = .ok (.aload_n 0, 1) := by decide +kernel
theorem dX0_restart_15 : decode cX0_restart 15 = .ok (.getfield 28, 3) := by decide +kernel
theorem dX0_restart_18 : decode cX0_restart 18 = .ok (.invokevirtual 75, 3) := by decide +kernel
theorem dX0_restart_21 : decode cX0_restart 21 = .ok (.aload_n 0, 1) := by decide +kernel
theorem dX0_restart_22 : decode cX0_restart 22 = .ok (.getfield 35, 3) := by decide +kernel
theorem dX0_restart_25 : decode cX0_restart 25 = .ok (.iconst 0, 1) := by decide +kernel
theorem dX0_restart_26 : decode cX0_restart 26 = .ok (.putfield 76, 3) := by decide +kernel
theorem dX0_restart_29 : decode cX0_restart 29 = .ok (.aload_n 0, 1) := by decide +kernel
theorem dX0_restart_30 : decode cX0_restart 30 = .ok (.iconst 0, 1) := by decide +kernel
theorem dX0_restart_31 : decode cX0_restart 31 = .ok (.putfield 45, 3) := by decide +kernel
theorem dX0_restart_34 : decode cX0_restart 34 = .ok (.aload_n 0, 1) := by decide +kernel
theorem dX0_restart_35 : decode cX0_restart 35 = .ok (.iconst 0, 1) := by decide +kernel
theorem dX0_restart_36 : decode cX0_restart 36 = .ok (.putfield 49, 3) := by decide +kernel
theorem dX0_restart_39 : decode cX0_restart 39 = .ok (.aload_n 0, 1) := by decide +kernel
theorem dX0_restart_40 : decode cX0_restart 40 = .ok (.iconst 0, 1) := by decide +kernel
theorem dX0_restart_41 : decode cX0_restart 41 = .ok (.putfield 52, 3) := by decide +kernel
theorem dX0_restart_44 : decode cX0_restart 44 = .ok (.aload_n 0, 1) := by decide +kernel
theorem dX0_restart_45 : decode cX0_restart 45 = .ok (.iconst 0, 1) := by decide +kernel
theorem dX0_restart_46 : decode cX0_restart 46 = .ok (.putfield 55, 3) := by decide +kernel
theorem dX0_restart_49 : decode cX0_restart 49 = .ok (.aload_n 0, 1) := by decide +kernel
theorem dX0_restart_50 : decode cX0_restart 50 = .ok (.iconst 0, 1) := by decide +kernel
theorem dX0_restart_51 : decode cX0_restart 51 = .ok (.putfield 58, 3) := by decide +kernel
theorem dX0_restart_54 : decode cX0_restart 54 = .ok (.aload_n 0, 1) := by decide +kernel
theorem dX0_restart_55 : decode cX0_restart 55 = .ok (.iconst 0, 1) := by decide +kernel
theorem dX0_restart_56 : decode cX0_restart 56 = .ok (.putfield 61, 3) := by decide +kernel
theorem dX0_restart_59 : decode cX0_restart 59 = .ok (.aload_n 0, 1) := by decide +kernel
theorem dX0_restart_60 : decode cX0_restart 60 = .ok (.iconst 0, 1) := by decide +kernel
theorem dX0_restart_61 : decode cX0_restart 61 = .ok (.putfield 64, 3) := by decide +kernel
theorem dX0_restart_64 : decode cX0_restart 64 = .ok (.aload_n 0, 1) := by decide +kernel
theorem dX0_restart_65 : decode cX0_restart 65 = .ok (.iconst 0, 1) := by decide +kernel
theorem dX0_restart_66 : decode cX0_restart 66 = .ok (.putfield 67, 3) := by decide +kernel
theorem dX0_restart_69 : decode cX0_restart 69 = .ok (.return_, 1) := by decide +kernel
theorem dX1_cellsCutOff_0 : decode cX1_cellsCutOff 0 = .ok (.aload_n 1, 1) := by decide +kernel
theorem dX1_cellsCutOff_1 : decode cX1_cellsCutOff 1 = .ok (.getfield 33, 3) := by decide +kernel
theorem dX1_cellsCutOff_4 : decode cX1_cellsCutOff 4 = .ok (.astore_n 2, 1) := by decide +kernel
theorem dX1_cellsCutOff_5 : decode cX1_cellsCutOff 5 = .ok (.iconst 0, 1) := by decide +kernel
theorem dX1_cellsCutOff_6 : decode cX1_cellsCutOff 6 = .ok (.istore_n 3, 1) := by decide +kernel
theorem dX1_cellsCutOff_7 : decode cX1_cellsCutOff 7 = .ok (.iload_n 3, 1) := by decide +kernel
theorem dX1_cellsCutOff_8 : decode cX1_cellsCutOff 8 = .ok (.bipush 100, 2) := by decide +kernel
theorem dX1_cellsCutOff_10 : decode cX1_cellsCutOff 10 = .ok (.if_icmp .ge 38, 3) := by decide +kernel
theorem dX1_cellsCutOff_13 : decode cX1_cellsCutOff 13 = .ok (.aload_n 0, 1) := by decide +kernel
theorem dX1_cellsCutOff_14 : decode cX1_cellsCutOff 14 = .ok (.getfield 27, 3) := by decide +kernel
theorem dX1_cellsCutOff_17 : decode cX1_cellsCutOff 17 = .ok (.iload_n 3, 1) := by decide +kernel
theorem dX1_cellsCutOff_18 : decode cX1_cellsCutOff 18 = .ok (.aload_n 2, 1) := by decide +kernel
theorem dX1_cellsCutOff_19 : decode cX1_cellsCutOff 19 = .ok (.getfield 92, 3) := by decide +kernel
theorem dX1_cellsCutOff_22 : decode cX1_cellsCutOff 22 = .ok (.iload_n 3, 1) := by decide +kernel
theorem dX1_cellsCutOff_23 : decode cX1_cellsCutOff 23 = .ok (.iaload, 1) := by decide +kernel
theorem dX1_cellsCutOff_24 : decode cX1_cellsCutOff 24 = .ok (.iconst 1, 1) := by decide +kernel
theorem dX1_cellsCutOff_25 : decode cX1_cellsCutOff 25 = .ok (.if_icmp .eq 11, 3) := by decide +kernel
theorem dX1_cellsCutOff_28 : decode cX1_cellsCutOff 28 = .ok (.aload_n 1, 1) := by decide +kernel
theorem dX1_cellsCutOff_29 : decode cX1_cellsCutOff 29 = .ok (.iload_n 3, 1) := by decide +kernel
theorem dX1_cellsCutOff_30 : decode cX1_cellsCutOff 30 = .ok (.invokevirtual 231, 3) := by decide +kernel
theorem dX1_cellsCutOff_33 : decode cX1_cellsCutOff 33 = .ok (.ifCond .eq 7, 3) := by decide +kernel
theorem dX1_cellsCutOff_36 : decode cX1_cellsCutOff 36 = .ok (.iconst 1, 1) := by decide +kernel
theorem dX1_cellsCutOff_37 : decode cX1_cellsCutOff 37 = .ok (.goto 4, 3) := by decide +kernel
theorem dX1_cellsCutOff_40 : decode cX1_cellsCutOff 40 = .ok (.iconst 0, 1) := by decide +kernel
theorem dX1_cellsCutOff_41 : decode cX1_cellsCutOff 41 = .ok (.iastore, 1) := by decide +kernel
theorem dX1_cellsCutOff_42 : decode cX1_cellsCutOff 42 = .ok (.iinc 3 1, 3) := by decide +kernel
theorem dX1_cellsCutOff_45 : decode cX1_cellsCutOff 45 = .ok (.goto (-38), 3) := by decide +kernel
theorem dX1_cellsCutOff_48 : decode cX1_cellsCutOff 48 = .ok (.iconst 0, 1) := by decide +kernel
theorem dX1_cellsCutOff_49 : decode cX1_cellsCutOff 49 = .ok (.istore_n 3, 1) := by decide +kernel
theorem dX1_cellsCutOff_50 : decode cX1_cellsCutOff 50 = .ok (.aload_n 0, 1) := by decide +kernel
theorem dX1_cellsCutOff_51 : decode cX1_cellsCutOff 51 = .ok (.getfield 27, 3) := by decide +kernel
theorem dX1_cellsCutOff_54 : decode cX1_cellsCutOff 54 = .ok (.aload_n 1, 1) := by decide +kernel
theorem dX1_cellsCutOff_55 : decode cX1_cellsCutOff 55 = .ok (.getfield 234, 3) := by decide +kernel
theorem dX1_cellsCutOff_58 : decode cX1_cellsCutOff 58 = .ok (.iaload, 1) := by decide +kernel
theorem dX1_cellsCutOff_59 : decode cX1_cellsCutOff 59 = .ok (.ifCond .ne 26, 3) := by decide +kernel
theorem dX1_cellsCutOff_62 : decode cX1_cellsCutOff 62 = .ok (.aload_n 0, 1) := by decide +kernel
theorem dX1_cellsCutOff_63 : decode cX1_cellsCutOff 63 = .ok (.getfield 27, 3) := by decide +kernel
theorem dX1_cellsCutOff_66 : decode cX1_cellsCutOff 66 = .ok (.aload_n 1, 1) := by decide +kernel
theorem dX1_cellsCutOff_67 : decode cX1_cellsCutOff 67 = .ok (.getfield 234, 3) := by decide +kernel
theorem dX1_cellsCutOff_70 : decode cX1_cellsCutOff 70 = .ok (.iconst 2, 1) := by decide +kernel
theorem dX1_cellsCutOff_71 : decode cX1_cellsCutOff 71 = .ok (.iastore, 1) := by decide +kernel
theorem dX1_cellsCutOff_72 : decode cX1_cellsCutOff 72 = .ok (.aload_n 0, 1) := by decide +kernel
theorem dX1_cellsCutOff_73 : decode cX1_cellsCutOff 73 = .ok (.getfield 30, 3) := by decide +kernel
theorem dX1_cellsCutOff_76 : decode cX1_cellsCutOff 76 = .ok (.iload_n 3, 1) := by decide +kernel
theorem dX1_cellsCutOff_77 : decode cX1_cellsCutOff 77 = .ok (.aload_n 1, 1) := by decide +kernel
theorem dX1_cellsCutOff_78 : decode cX1_cellsCutOff 78 = .ok (.getfield 234, 3) := by decide +kernel
theorem dX1_cellsCutOff_81 : decode cX1_cellsCutOff 81 = .ok (.iastore, 1) := by decide +kernel
theorem dX1_cellsCutOff_82 : decode cX1_cellsCutOff 82 = .ok (.iinc 3 1, 3) := by decide +kernel
theorem dX1_cellsCutOff_85 : decode cX1_cellsCutOff 85 = .ok (.iconst 0, 1) := by decide +kernel
theorem dX1_cellsCutOff_86 : decode cX1_cellsCutOff 86 = .ok (.istore 4, 2) := by decide +kernel
theorem dX1_cellsCutOff_88 : decode cX1_cellsCutOff 88 = .ok (.iload 4, 2) := by decide +kernel
theorem dX1_cellsCutOff_90 : decode cX1_cellsCutOff 90 = .ok (.iload_n 3, 1) := by decide +kernel
theorem dX1_cellsCutOff_91 : decode cX1_cellsCutOff 91 = .ok (.if_icmp .ge 82, 3) := by decide +kernel
theorem dX1_cellsCutOff_94 : decode cX1_cellsCutOff 94 = .ok (.iconst 0, 1) := by decide +kernel
theorem dX1_cellsCutOff_95 : decode cX1_cellsCutOff 95 = .ok (.istore 5, 2) := by decide +kernel
theorem dX1_cellsCutOff_97 : decode cX1_cellsCutOff 97 = .ok (.iload 5, 2) := by decide +kernel
theorem dX1_cellsCutOff_99 : decode cX1_cellsCutOff 99 = .ok (.iconst 4, 1) := by decide +kernel
theorem dX1_cellsCutOff_100 : decode cX1_cellsCutOff 100 = .ok (.if_icmp .ge 67, 3) := by decide +kernel
theorem dX1_cellsCutOff_103 : decode cX1_cellsCutOff 103 = .ok (.aload_n 0, 1) := by decide +kernel
theorem dX1_cellsCutOff_104 : decode cX1_cellsCutOff 104 = .ok (.getfield 30, 3) := by decide +kernel
theorem dX1_cellsCutOff_107 : decode cX1_cellsCutOff 107 = .ok (.iload 4, 2) := by decide +kernel
theorem dX1_cellsCutOff_109 : decode cX1_cellsCutOff 109 = .ok (.iaload, 1) := by decide +kernel
theorem dX1_cellsCutOff_110 : decode cX1_cellsCutOff 110 = .ok (.iload 5, 2) := by decide +kernel
theorem dX1_cellsCutOff_112 : decode cX1_cellsCutOff 112 = .ok (.invokestatic 228, 3) := by decide +kernel
theorem dX1_cellsCutOff_115 : decode cX1_cellsCutOff 115 = .ok (.istore 6, 2) := by decide +kernel
theorem dX1_cellsCutOff_117 : decode cX1_cellsCutOff 117 = .ok (.iload 6, 2) := by decide +kernel
theorem dX1_cellsCutOff_119 : decode cX1_cellsCutOff 119 = .ok (.iconst (-1), 1) := by decide +kernel
theorem dX1_cellsCutOff_120 : decode cX1_cellsCutOff 120 = .ok (.if_icmp .eq 41, 3) := by decide +kernel
theorem dX1_cellsCutOff_123 : decode cX1_cellsCutOff 123 = .ok (.aload_n 0, 1) := by decide +kernel
theorem dX1_cellsCutOff_124 : decode cX1_cellsCutOff 124 = .ok (.getfield 27, 3) := by decide +kernel
theorem dX1_cellsCutOff_127 : decode cX1_cellsCutOff 127 = .ok (.iload 6, 2) := by decide +kernel
theorem dX1_cellsCutOff_129 : decode cX1_cellsCutOff 129 = .ok (.iaload, 1) := by decide +kernel
theorem dX1_cellsCutOff_130 : decode cX1_cellsCutOff 130 = .ok (.ifCond .ne 31, 3) := by decide +kernel
theorem dX1_cellsCutOff_133 : decode cX1_cellsCutOff 133 = .ok (.iload_n 3, 1) := by decide +kernel
theorem dX1_cellsCutOff_134 : decode cX1_cellsCutOff 134 = .ok (.bipush 100, 2) := by decide +kernel
theorem dX1_cellsCutOff_136 : decode cX1_cellsCutOff 136 = .ok (.if_icmp .lt 6, 3) := by decide +kernel
theorem dX1_cellsCutOff_139 : decode cX1_cellsCutOff 139 = .ok (.goto 22, 3) := by decide +kernel
theorem dX1_cellsCutOff_142 : decode cX1_cellsCutOff 142 = .ok (.aload_n 0, 1) := by decide +kernel
theorem dX1_cellsCutOff_143 : decode cX1_cellsCutOff 143 = .ok (.getfield 27, 3) := by decide +kernel
theorem dX1_cellsCutOff_146 : decode cX1_cellsCutOff 146 = .ok (.iload 6, 2) := by decide +kernel
theorem dX1_cellsCutOff_148 : decode cX1_cellsCutOff 148 = .ok (.iconst 2, 1) := by decide +kernel
theorem dX1_cellsCutOff_149 : decode cX1_cellsCutOff 149 = .ok (.iastore, 1) := by decide +kernel
theorem dX1_cellsCutOff_150 : decode cX1_cellsCutOff 150 = .ok (.aload_n 0, 1) := by decide +kernel
theorem dX1_cellsCutOff_151 : decode cX1_cellsCutOff 151 = .ok (.getfield 30, 3) := by decide +kernel
theorem dX1_cellsCutOff_154 : decode cX1_cellsCutOff 154 = .ok (.iload_n 3, 1) := by decide +kernel
theorem dX1_cellsCutOff_155 : decode cX1_cellsCutOff 155 = .ok (.iload 6, 2) := by decide +kernel
theorem dX1_cellsCutOff_157 : decode cX1_cellsCutOff 157 = .ok (.iastore, 1) := by decide +kernel
theorem dX1_cellsCutOff_158 : decode cX1_cellsCutOff 158 = .ok (.iinc 3 1, 3) := by decide +kernel
theorem dX1_cellsCutOff_161 : decode cX1_cellsCutOff 161 = .ok (.iinc 5 1, 3) := by decide +kernel
theorem dX1_cellsCutOff_164 : decode cX1_cellsCutOff 164 = .ok (.goto (-67), 3) := by decide +kernel
theorem dX1_cellsCutOff_167 : decode cX1_cellsCutOff 167 = .ok (.iinc 4 1, 3) := by decide +kernel
theorem dX1_cellsCutOff_170 : decode cX1_cellsCutOff 170 = .ok (.goto (-82), 3) := by decide +kernel
theorem dX1_cellsCutOff_173 : decode cX1_cellsCutOff 173 = .ok (.iconst 0, 1) := by decide +kernel
theorem dX1_cellsCutOff_174 : decode cX1_cellsCutOff 174 = .ok (.istore 4, 2) := by decide +kernel
theorem dX1_cellsCutOff_176 : decode cX1_cellsCutOff 176 = .ok (.iconst 0, 1) := by decide +kernel
theorem dX1_cellsCutOff_177 : decode cX1_cellsCutOff 177 = .ok (.istore 5, 2) := by decide +kernel
theorem dX1_cellsCutOff_179 : decode cX1_cellsCutOff 179 = .ok (.iload 5, 2) := by decide +kernel
theorem dX1_cellsCutOff_181 : decode cX1_cellsCutOff 181 = .ok (.bipush 100, 2) := by decide +kernel
theorem dX1_cellsCutOff_183 : decode cX1_cellsCutOff 183 = .ok (.if_icmp .ge 43, 3) := by decide +kernel
theorem dX1_cellsCutOff_186 : decode cX1_cellsCutOff 186 = .ok (.aload_n 2, 1) := by decide +kernel
theorem dX1_cellsCutOff_187 : decode cX1_cellsCutOff 187 = .ok (.getfield 95, 3) := by decide +kernel
theorem dX1_cellsCutOff_190 : decode cX1_cellsCutOff 190 = .ok (.iload 5, 2) := by decide +kernel
theorem dX1_cellsCutOff_192 : decode cX1_cellsCutOff 192 = .ok (.iaload, 1) := by decide +kernel
theorem dX1_cellsCutOff_193 : decode cX1_cellsCutOff 193 = .ok (.ifCond .le 27, 3) := by decide +kernel
theorem dX1_cellsCutOff_196 : decode cX1_cellsCutOff 196 = .ok (.aload_n 2, 1) := by decide +kernel
theorem dX1_cellsCutOff_197 : decode cX1_cellsCutOff 197 = .ok (.getfield 92, 3) := by decide +kernel
theorem dX1_cellsCutOff_200 : decode cX1_cellsCutOff 200 = .ok (.iload 5, 2) := by decide +kernel
theorem dX1_cellsCutOff_202 : decode cX1_cellsCutOff 202 = .ok (.iaload, 1) := by decide +kernel
theorem dX1_cellsCutOff_203 : decode cX1_cellsCutOff 203 = .ok (.ifCond .ne 17, 3) := by decide +kernel
theorem dX1_cellsCutOff_206 : decode cX1_cellsCutOff 206 = .ok (.aload_n 0, 1) := by decide +kernel
theorem dX1_cellsCutOff_207 : decode cX1_cellsCutOff 207 = .ok (.getfield 27, 3) := by decide +kernel
theorem dX1_cellsCutOff_210 : decode cX1_cellsCutOff 210 = .ok (.iload 5, 2) := by decide +kernel
theorem dX1_cellsCutOff_212 : decode cX1_cellsCutOff 212 = .ok (.iaload, 1) := by decide +kernel
theorem dX1_cellsCutOff_213 : decode cX1_cellsCutOff 213 = .ok (.iconst 2, 1) := by decide +kernel
theorem dX1_cellsCutOff_214 : decode cX1_cellsCutOff 214 = .ok (.if_icmp .eq 6, 3) := by decide +kernel
theorem dX1_cellsCutOff_217 : decode cX1_cellsCutOff 217 = .ok (.iinc 4 1, 3) := by decide +kernel
theorem dX1_cellsCutOff_220 : decode cX1_cellsCutOff 220 = .ok (.iinc 5 1, 3) := by decide +kernel
theorem dX1_cellsCutOff_223 : decode cX1_cellsCutOff 223 = .ok (.goto (-44), 3) := by decide +kernel
theorem dX1_cellsCutOff_226 : decode cX1_cellsCutOff 226 = .ok (.iload 4, 2) := by decide +kernel
theorem dX1_cellsCutOff_228 : decode cX1_cellsCutOff 228 = .ok (.ireturn, 1) := by decide +kernel
theorem dX1_isBadPump_0 : decode cX1_isBadPump 0 = .ok (.aload_n 1, 1) := by decide +kernel
theorem dX1_isBadPump_1 : decode cX1_isBadPump 1 = .ok (.getfield 209, 3) := by decide +kernel
theorem dX1_isBadPump_4 : decode cX1_isBadPump 4 = .ok (.iload_n 2, 1) := by decide +kernel
theorem dX1_isBadPump_5 : decode cX1_isBadPump 5 = .ok (.iaload, 1) := by decide +kernel
theorem dX1_isBadPump_6 : decode cX1_isBadPump 6 = .ok (.ifCond .le 5, 3) := by decide +kernel
theorem dX1_isBadPump_9 : decode cX1_isBadPump 9 = .ok (.iconst 1, 1) := by decide +kernel
theorem dX1_isBadPump_10 : decode cX1_isBadPump 10 = .ok (.ireturn, 1) := by decide +kernel
theorem dX1_isBadPump_11 : decode cX1_isBadPump 11 = .ok (.iconst 0, 1) := by decide +kernel
theorem dX1_isBadPump_12 : decode cX1_isBadPump 12 = .ok (.istore_n 3, 1) := by decide +kernel
theorem dX1_isBadPump_13 : decode cX1_isBadPump 13 = .ok (.iload_n 3, 1) := by decide +kernel
theorem dX1_isBadPump_14 : decode cX1_isBadPump 14 = .ok (.iconst 4, 1) := by decide +kernel
theorem dX1_isBadPump_15 : decode cX1_isBadPump 15 = .ok (.if_icmp .ge 34, 3) := by decide +kernel
theorem dX1_isBadPump_18 : decode cX1_isBadPump 18 = .ok (.iload_n 2, 1) := by decide +kernel
theorem dX1_isBadPump_19 : decode cX1_isBadPump 19 = .ok (.iload_n 3, 1) := by decide +kernel
theorem dX1_isBadPump_20 : decode cX1_isBadPump 20 = .ok (.invokestatic 228, 3) := by decide +kernel
theorem dX1_isBadPump_23 : decode cX1_isBadPump 23 = .ok (.istore 4, 2) := by decide +kernel
theorem dX1_isBadPump_25 : decode cX1_isBadPump 25 = .ok (.iload 4, 2) := by decide +kernel
theorem dX1_isBadPump_27 : decode cX1_isBadPump 27 = .ok (.iconst (-1), 1) := by decide +kernel
theorem dX1_isBadPump_28 : decode cX1_isBadPump 28 = .ok (.if_icmp .eq 15, 3) := by decide +kernel
theorem dX1_isBadPump_31 : decode cX1_isBadPump 31 = .ok (.aload_n 1, 1) := by decide +kernel
theorem dX1_isBadPump_32 : decode cX1_isBadPump 32 = .ok (.getfield 209, 3) := by decide +kernel
theorem dX1_isBadPump_35 : decode cX1_isBadPump 35 = .ok (.iload 4, 2) := by decide +kernel
theorem dX1_isBadPump_37 : decode cX1_isBadPump 37 = .ok (.iaload, 1) := by decide +kernel
theorem dX1_isBadPump_38 : decode cX1_isBadPump 38 = .ok (.ifCond .le 5, 3) := by decide +kernel
theorem dX1_isBadPump_41 : decode cX1_isBadPump 41 = .ok (.iconst 1, 1) := by decide +kernel
theorem dX1_isBadPump_42 : decode cX1_isBadPump 42 = .ok (.ireturn, 1) := by decide +kernel
theorem dX1_isBadPump_43 : decode cX1_isBadPump 43 = .ok (.iinc 3 1, 3) := by decide +kernel
theorem dX1_isBadPump_46 : decode cX1_isBadPump 46 = .ok (.goto (-33), 3) := by decide +kernel
theorem dX1_isBadPump_49 : decode cX1_isBadPump 49 = .ok (.iconst 0, 1) := by decide +kernel
theorem dX1_isBadPump_50 : decode cX1_isBadPump 50 = .ok (.ireturn, 1) := by decide +kernel
theorem dX11_near_0 : decode cX11_near 0 = .ok (.iload_n 0, 1) := by decide +kernel
theorem dX11_near_1 : decode cX11_near 1 = .ok (.bipush 10, 2) := by decide +kernel
theorem dX11_near_3 : decode cX11_near 3 = .ok (.irem, 1) := by decide +kernel
theorem dX11_near_4 : decode cX11_near 4 = .ok (.iload_n 1, 1) := by decide +kernel
theorem dX11_near_5 : decode cX11_near 5 = .ok (.bipush 10, 2) := by decide +kernel
theorem dX11_near_7 : decode cX11_near 7 = .ok (.irem, 1) := by decide +kernel
theorem dX11_near_8 : decode cX11_near 8 = .ok (.isub, 1) := by decide +kernel
theorem dX11_near_9 : decode cX11_near 9 = .ok (.invokestatic 475, 3) := by decide +kernel
theorem dX11_near_12 : decode cX11_near 12 = .ok (.iload_n 0, 1) := by decide +kernel
theorem dX11_near_13 : decode cX11_near 13 = .ok (.bipush 10, 2) := by decide +kernel
theorem dX11_near_15 : decode cX11_near 15 = .ok (.idiv, 1) := by decide +kernel
theorem dX11_near_16 : decode cX11_near 16 = .ok (.iload_n 1, 1) := by decide +kernel
theorem dX11_near_17 : decode cX11_near 17 = .ok (.bipush 10, 2) := by decide +kernel
theorem dX11_near_19 : decode cX11_near 19 = .ok (.idiv, 1) := by decide +kernel
theorem dX11_near_20 : decode cX11_near 20 = .ok (.isub, 1) := by decide +kernel
theorem dX11_near_21 : decode cX11_near 21 = .ok (.invokestatic 475, 3) := by decide +kernel
theorem dX11_near_24 : decode cX11_near 24 = .ok (.iadd, 1) := by decide +kernel
theorem dX11_near_25 : decode cX11_near 25 = .ok (.ireturn, 1) := by decide +kernel
set_option maxHeartbeats 4000000 in
set_option maxRecDepth 100000 in
theorem xX11_beside_e {K : KT} {v0 : Int32} {v1 : Int32} {w : Wd} {r : Int32} (G : GK K cX11_beside RX11 2 1) (M : Main K.ks) (hf : fX11_beside v0 v1 w = some r) (hr : RI K .int r w) : XW K 0 [some (.int v0), some (.int v1)] [] w := by
  unfold fX11_beside at hf
  refine x_iload_n G dX11_beside_0 rfl rfl ?_
  rcases ite_or hf with ⟨c_2, hf⟩ | ⟨c_2, hf⟩
  · refine x_swIn G (tgt := 28) (off := 27) (k := 0) dX11_beside_1 c_2 (by decide) (by decide) (by decide) (by decide) ?_
    refine x_iload_n G dX11_beside_28 rfl rfl ?_
    refine x_bipush G (v := 10) dX11_beside_29 (by decide) ?_
    refine x_icmplt G (tgt := 41) dX11_beside_31 (by decide) hf (fun c_1 hf => ?_) (fun c_1 hf => ?_)
    · refine x_iconst G (v := -1) dX11_beside_41 (by decide) ?_
      exact x_iretP G hf hr dX11_beside_42
    · refine x_iload_n G dX11_beside_34 rfl rfl ?_
      refine x_bipush G (v := 10) dX11_beside_35 (by decide) ?_
      refine x_isub G dX11_beside_37 ?_
      refine x_goto G (tgt := 42) dX11_beside_38 (by decide) ?_
      exact x_iretP G hf hr dX11_beside_42
  rcases ite_or hf with ⟨c_4, hf⟩ | ⟨c_4, hf⟩
  · refine x_swIn G (tgt := 43) (off := 42) (k := 1) dX11_beside_1 c_4 (by decide) (by decide) (by decide) (by decide) ?_
    refine x_iload_n G dX11_beside_43 rfl rfl ?_
    refine x_bipush G (v := 10) dX11_beside_44 (by decide) ?_
    refine x_irem' G dX11_beside_46 (by decide) ?_
    refine x_ifle G (tgt := 56) dX11_beside_47 (by decide) hf (fun c_3 hf => ?_) (fun c_3 hf => ?_)
    · refine x_iload_n G dX11_beside_50 rfl rfl ?_
      refine x_iconst G (v := 1) dX11_beside_51 (by decide) ?_
      refine x_isub G dX11_beside_52 ?_
      refine x_goto G (tgt := 57) dX11_beside_53 (by decide) ?_
      exact x_iretP G hf hr dX11_beside_57
    · refine x_iconst G (v := -1) dX11_beside_56 (by decide) ?_
      exact x_iretP G hf hr dX11_beside_57
  rcases ite_or hf with ⟨c_6, hf⟩ | ⟨c_6, hf⟩
  · refine x_swIn G (tgt := 58) (off := 57) (k := 2) dX11_beside_1 c_6 (by decide) (by decide) (by decide) (by decide) ?_
    refine x_iload_n G dX11_beside_58 rfl rfl ?_
    refine x_bipush G (v := 10) dX11_beside_59 (by decide) ?_
    refine x_irem' G dX11_beside_61 (by decide) ?_
    refine x_bipush G (v := 9) dX11_beside_62 (by decide) ?_
    refine x_icmpge G (tgt := 73) dX11_beside_64 (by decide) hf (fun c_5 hf => ?_) (fun c_5 hf => ?_)
    · refine x_iload_n G dX11_beside_67 rfl rfl ?_
      refine x_iconst G (v := 1) dX11_beside_68 (by decide) ?_
      refine x_iadd G dX11_beside_69 ?_
      refine x_goto G (tgt := 74) dX11_beside_70 (by decide) ?_
      exact x_iretP G hf hr dX11_beside_74
    · refine x_iconst G (v := -1) dX11_beside_73 (by decide) ?_
      exact x_iretP G hf hr dX11_beside_74
  refine x_swDef G (tgt := 75) dX11_beside_1 (by decide) [0, 1, 2] (List.forall_mem_cons.mpr ⟨nek c_2 (by decide), (List.forall_mem_cons.mpr ⟨nek c_4 (by decide), (List.forall_mem_cons.mpr ⟨nek c_6 (by decide), (fun _ h => absurd h List.not_mem_nil)⟩)⟩)⟩) (by decide +kernel) ?_
  refine x_iload_n G dX11_beside_75 rfl rfl ?_
  refine x_bipush G (v := 90) dX11_beside_76 (by decide) ?_
  refine x_icmpge G (tgt := 88) dX11_beside_78 (by decide) hf (fun c_7 hf => ?_) (fun c_7 hf => ?_)
  · refine x_iload_n G dX11_beside_81 rfl rfl ?_
    refine x_bipush G (v := 10) dX11_beside_82 (by decide) ?_
    refine x_iadd G dX11_beside_84 ?_
    refine x_goto G (tgt := 89) dX11_beside_85 (by decide) ?_
    exact x_iretP G hf hr dX11_beside_89
  · refine x_iconst G (v := -1) dX11_beside_88 (by decide) ?_
    exact x_iretP G hf hr dX11_beside_89

theorem mX11_beside {l : Launch} {S : KS} {w : Wd} (hI : Inj S) (M : Main S) {v0 : Int32} {v1 : Int32} {r : Int32} (hf : fX11_beside v0 v1 w = some r) : CI l yX11_beside cX11_beside 2 (some .int) 1 S [.int v0, .int v1] w r w := by
  intro sz
  refine mk_entry rfl (by decide +kernel) hI 0 rfl rfl (fun K h1 h2 h3 h4 h5 h6 G => ?_)
  subst h2
  exact xX11_beside_e G M hf ⟨h3, by rw [h4, h6], h5⟩

set_option maxHeartbeats 4000000 in
set_option maxRecDepth 100000 in
theorem xX0_shutBeside_4 {K : KT} {w : Wd} {r : Int32} (G : GK K cX0_shutBeside RX0 5 3) (M : Main K.ks) (hr : RI K .int r w) : ∀ (n : Nat) (v1 : Int32) (v2 : Int32) (v3 : Int32), fX0_shutBeside_4 w n v1 v2 v3 = some r → XW K 4 [some (.ref 1), some (.int v1), some (.int v2), some (.int v3), none] [] w := by
  intro n
  induction n with
  | zero =>
    intro v1 v2 v3 hf
    unfold fX0_shutBeside_4 at hf
    cases hf
  | succ n ih =>
    intro v1 v2 v3 hf
    unfold fX0_shutBeside_4 at hf
    refine x_iload_n G dX0_shutBeside_4 rfl rfl ?_
    refine x_iconst G (v := 4) dX0_shutBeside_5 (by decide) ?_
    refine x_icmpge G (tgt := 40) dX0_shutBeside_6 (by decide) hf (fun c_1 hf => ?_) (fun c_1 hf => ?_)
    · refine x_iload_n G dX0_shutBeside_9 rfl rfl ?_
      refine x_iload_n G dX0_shutBeside_10 rfl rfl ?_
      obtain ⟨v_2, hv_2, hf⟩ := bnd hf
      refine x_nesI G (As := [.int v1, .int v3]) (mX11_beside G.2.2.2.2.2.2.1 M hv_2) mn_X0_142 rfl rfl rfl rfl rfl dX0_shutBeside_11 ?_
      refine x_istore G (lv' := [some (.ref 1), some (.int v1), some (.int v2), some (.int v3), some (.int v_2)]) dX0_shutBeside_14 rfl rfl rfl ?_
      refine x_iload G dX0_shutBeside_16 rfl ?_
      refine x_iconst G (v := -1) dX0_shutBeside_18 (by decide) ?_
      refine x_icmpeq G (tgt := 34) dX0_shutBeside_19 (by decide) hf (fun c_3 hf => ?_) (fun c_3 hf => ?_)
      · refine x_iinc G (lv' := [some (.ref 1), some (.int v1), some (.int v2), some (.int (v3 + (1 : Int32))), some (.int v_2)]) (v := 1) dX0_shutBeside_34 rfl (by decide) rfl rfl rfl ?_
        refine x_goto G (tgt := 4) dX0_shutBeside_37 (by decide) ?_
        exact XW.sub (lv' := [some (.ref 1), some (.int v1), some (.int v2), some (.int (v3 + (1 : Int32))), none]) (And.intro rfl (And.intro rfl (And.intro rfl (And.intro rfl trivial)))) (ih _ _ _ hf)
      · refine x_aload_n G dX0_shutBeside_22 rfl rfl ?_
        refine x_iload G dX0_shutBeside_23 rfl ?_
        obtain ⟨v_4, hv_4, hf⟩ := bnd hf
        refine x_virI G (As := [.int v_2]) (mX0_isShut G.2.2.2.2.2.2.1 M hv_4) mv_X0_145 (kd1 M) cl0 rfl rfl rfl rfl rfl dX0_shutBeside_25 ?_
        refine x_ifeqB G (tgt := 34) dX0_shutBeside_28 (by decide) hf (fun c_5 hf => ?_) (fun c_5 hf => ?_)
        · refine x_iinc G (lv' := [some (.ref 1), some (.int v1), some (.int (v2 + (1 : Int32))), some (.int v3), some (.int v_2)]) (v := 1) dX0_shutBeside_31 rfl (by decide) rfl rfl rfl ?_
          refine x_iinc G (lv' := [some (.ref 1), some (.int v1), some (.int (v2 + (1 : Int32))), some (.int (v3 + (1 : Int32))), some (.int v_2)]) (v := 1) dX0_shutBeside_34 rfl (by decide) rfl rfl rfl ?_
          refine x_goto G (tgt := 4) dX0_shutBeside_37 (by decide) ?_
          exact XW.sub (lv' := [some (.ref 1), some (.int v1), some (.int (v2 + (1 : Int32))), some (.int (v3 + (1 : Int32))), none]) (And.intro rfl (And.intro rfl (And.intro rfl (And.intro rfl trivial)))) (ih _ _ _ hf)
        · refine x_iinc G (lv' := [some (.ref 1), some (.int v1), some (.int v2), some (.int (v3 + (1 : Int32))), some (.int v_2)]) (v := 1) dX0_shutBeside_34 rfl (by decide) rfl rfl rfl ?_
          refine x_goto G (tgt := 4) dX0_shutBeside_37 (by decide) ?_
          exact XW.sub (lv' := [some (.ref 1), some (.int v1), some (.int v2), some (.int (v3 + (1 : Int32))), none]) (And.intro rfl (And.intro rfl (And.intro rfl (And.intro rfl trivial)))) (ih _ _ _ hf)
    · refine x_iload_n G dX0_shutBeside_40 rfl rfl ?_
      exact x_iretP G hf hr dX0_shutBeside_41

set_option maxHeartbeats 4000000 in
set_option maxRecDepth 100000 in
theorem xX0_shutBeside_e {K : KT} {v1 : Int32} {w : Wd} {r : Int32} (G : GK K cX0_shutBeside RX0 5 3) (M : Main K.ks) (hf : fX0_shutBeside v1 w = some r) (hr : RI K .int r w) : XW K 0 [some (.ref 1), some (.int v1), none, none, none] [] w := by
  unfold fX0_shutBeside at hf
  refine x_iconst G (v := 0) dX0_shutBeside_0 (by decide) ?_
  refine x_istore_n G (lv' := [some (.ref 1), some (.int v1), some (.int (0 : Int32)), none, none]) dX0_shutBeside_1 rfl rfl rfl rfl ?_
  refine x_iconst G (v := 0) dX0_shutBeside_2 (by decide) ?_
  refine x_istore_n G (lv' := [some (.ref 1), some (.int v1), some (.int (0 : Int32)), some (.int (0 : Int32)), none]) dX0_shutBeside_3 rfl rfl rfl rfl ?_
  exact XW.sub (lv' := [some (.ref 1), some (.int v1), some (.int (0 : Int32)), some (.int (0 : Int32)), none]) (And.intro rfl (And.intro rfl (And.intro rfl (And.intro rfl trivial)))) (xX0_shutBeside_4 G M hr FU _ _ _ hf)

theorem mX0_shutBeside {l : Launch} {S : KS} {w : Wd} (hI : Inj S) (M : Main S) {v1 : Int32} {r : Int32} (hf : fX0_shutBeside v1 w = some r) : CI l yX0_shutBeside cX0_shutBeside 5 (some .int) 3 S [.ref 1, .int v1] w r w := by
  intro sz
  refine mk_entry rfl (by decide +kernel) hI 3 rfl rfl (fun K h1 h2 h3 h4 h5 h6 G => ?_)
  subst h2
  exact xX0_shutBeside_e G M hf ⟨h3, by rw [h4, h6], h5⟩

set_option maxHeartbeats 4000000 in
set_option maxRecDepth 100000 in
theorem xX6_tellingsOf_4 {K : KT} {w : Wd} {r : Int32} (G : GK K cX6_tellingsOf RX6 4 1) (M : Main K.ks) (hr : RI K .int r w) : ∀ (n : Nat) (v1 : Int32) (v2 : Int32) (v3 : Int32), fX6_tellingsOf_4 w n v1 v2 v3 = some r → XW K 4 [some (.ref 30), some (.int v1), some (.int v2), some (.int v3)] [] w := by
  intro n
  induction n with
  | zero =>
    intro v1 v2 v3 hf
    unfold fX6_tellingsOf_4 at hf
    cases hf
  | succ n ih =>
    intro v1 v2 v3 hf
    unfold fX6_tellingsOf_4 at hf
    refine x_iload_n G dX6_tellingsOf_4 rfl rfl ?_
    refine x_aload_n G dX6_tellingsOf_5 rfl rfl ?_
    refine x_getI G (kd30 M) 0 rfl cl6 rfl wf_X6_9 dX6_tellingsOf_6 ?_
    refine x_icmpge G (tgt := 31) dX6_tellingsOf_9 (by decide) hf (fun c_1 hf => ?_) (fun c_1 hf => ?_)
    · refine x_aload_n G dX6_tellingsOf_12 rfl rfl ?_
      refine x_getR G (kd30 M) 1 (b := 31) rfl cl6 rfl wf_X6_15 dX6_tellingsOf_13 ?_
      refine x_iload_n G dX6_tellingsOf_16 rfl rfl ?_
      refine x_iald G (kd31 M) dX6_tellingsOf_17 hf (fun hb_2 hf => ?_)
      refine x_iload_n G dX6_tellingsOf_18 rfl rfl ?_
      refine x_icmpne G (tgt := 25) dX6_tellingsOf_19 (by decide) hf (fun c_3 hf => ?_) (fun c_3 hf => ?_)
      · refine x_iinc G (lv' := [some (.ref 30), some (.int v1), some (.int (v2 + (1 : Int32))), some (.int v3)]) (v := 1) dX6_tellingsOf_22 rfl (by decide) rfl rfl rfl ?_
        refine x_iinc G (lv' := [some (.ref 30), some (.int v1), some (.int (v2 + (1 : Int32))), some (.int (v3 + (1 : Int32)))]) (v := 1) dX6_tellingsOf_25 rfl (by decide) rfl rfl rfl ?_
        refine x_goto G (tgt := 4) dX6_tellingsOf_28 (by decide) ?_
        exact XW.sub (lv' := [some (.ref 30), some (.int v1), some (.int (v2 + (1 : Int32))), some (.int (v3 + (1 : Int32)))]) (And.intro rfl (And.intro rfl (And.intro rfl (And.intro rfl trivial)))) (ih _ _ _ hf)
      · refine x_iinc G (lv' := [some (.ref 30), some (.int v1), some (.int v2), some (.int (v3 + (1 : Int32)))]) (v := 1) dX6_tellingsOf_25 rfl (by decide) rfl rfl rfl ?_
        refine x_goto G (tgt := 4) dX6_tellingsOf_28 (by decide) ?_
        exact XW.sub (lv' := [some (.ref 30), some (.int v1), some (.int v2), some (.int (v3 + (1 : Int32)))]) (And.intro rfl (And.intro rfl (And.intro rfl (And.intro rfl trivial)))) (ih _ _ _ hf)
    · refine x_iload_n G dX6_tellingsOf_31 rfl rfl ?_
      exact x_iretP G hf hr dX6_tellingsOf_32

set_option maxHeartbeats 4000000 in
set_option maxRecDepth 100000 in
theorem xX6_tellingsOf_e {K : KT} {v1 : Int32} {w : Wd} {r : Int32} (G : GK K cX6_tellingsOf RX6 4 1) (M : Main K.ks) (hf : fX6_tellingsOf v1 w = some r) (hr : RI K .int r w) : XW K 0 [some (.ref 30), some (.int v1), none, none] [] w := by
  unfold fX6_tellingsOf at hf
  refine x_iconst G (v := 0) dX6_tellingsOf_0 (by decide) ?_
  refine x_istore_n G (lv' := [some (.ref 30), some (.int v1), some (.int (0 : Int32)), none]) dX6_tellingsOf_1 rfl rfl rfl rfl ?_
  refine x_iconst G (v := 0) dX6_tellingsOf_2 (by decide) ?_
  refine x_istore_n G (lv' := [some (.ref 30), some (.int v1), some (.int (0 : Int32)), some (.int (0 : Int32))]) dX6_tellingsOf_3 rfl rfl rfl rfl ?_
  exact XW.sub (lv' := [some (.ref 30), some (.int v1), some (.int (0 : Int32)), some (.int (0 : Int32))]) (And.intro rfl (And.intro rfl (And.intro rfl (And.intro rfl trivial)))) (xX6_tellingsOf_4 G M hr FU _ _ _ hf)

theorem mX6_tellingsOf {l : Launch} {S : KS} {w : Wd} (hI : Inj S) (M : Main S) {v1 : Int32} {r : Int32} (hf : fX6_tellingsOf v1 w = some r) : CI l yX6_tellingsOf cX6_tellingsOf 4 (some .int) 1 S [.ref 30, .int v1] w r w := by
  intro sz
  refine mk_entry rfl (by decide +kernel) hI 2 rfl rfl (fun K h1 h2 h3 h4 h5 h6 G => ?_)
  subst h2
  exact xX6_tellingsOf_e G M hf ⟨h3, by rw [h4, h6], h5⟩

set_option maxHeartbeats 4000000 in
set_option maxRecDepth 100000 in
theorem xX9_levelAt_e {K : KT} {v1 : Int32} {w : Wd} {r : Int32} (G : GK K cX9_levelAt RX9 2 1) (M : Main K.ks) (hf : fX9_levelAt v1 w = some r) (hr : RI K .int r w) : XW K 0 [some (.ref 100), some (.int v1)] [] w := by
  unfold fX9_levelAt at hf
  refine x_aload_n G dX9_levelAt_0 rfl rfl ?_
  refine x_getI G (kd100 M) 0 rfl cl9 rfl wf_X9_9 dX9_levelAt_1 ?_
  refine x_ifle G (tgt := 25) dX9_levelAt_4 (by decide) hf (fun c_1 hf => ?_) (fun c_1 hf => ?_)
  · refine x_iload_n G dX9_levelAt_7 rfl rfl ?_
    refine x_iflt G (tgt := 25) dX9_levelAt_8 (by decide) hf (fun c_2 hf => ?_) (fun c_2 hf => ?_)
    · refine x_iconst G (v := 0) dX9_levelAt_25 (by decide) ?_
      exact x_iretP G hf hr dX9_levelAt_26
    · refine x_aload_n G dX9_levelAt_11 rfl rfl ?_
      refine x_getR G (kd100 M) 1 (b := 101) rfl cl9 rfl wf_X9_15 dX9_levelAt_12 ?_
      refine x_iload_n G dX9_levelAt_15 rfl rfl ?_
      refine x_aload_n G dX9_levelAt_16 rfl rfl ?_
      refine x_getI G (kd100 M) 0 rfl cl9 rfl wf_X9_9 dX9_levelAt_17 ?_
      refine x_iremC G dX9_levelAt_20 hf (fun hf => ?_)
      refine x_iald G (kd101 M) dX9_levelAt_21 hf (fun hb_3 hf => ?_)
      refine x_goto G (tgt := 26) dX9_levelAt_22 (by decide) ?_
      exact x_iretP G hf hr dX9_levelAt_26
  · refine x_iconst G (v := 0) dX9_levelAt_25 (by decide) ?_
    exact x_iretP G hf hr dX9_levelAt_26

theorem mX9_levelAt {l : Launch} {S : KS} {w : Wd} (hI : Inj S) (M : Main S) {v1 : Int32} {r : Int32} (hf : fX9_levelAt v1 w = some r) : CI l yX9_levelAt cX9_levelAt 2 (some .int) 1 S [.ref 100, .int v1] w r w := by
  intro sz
  refine mk_entry rfl (by decide +kernel) hI 0 rfl rfl (fun K h1 h2 h3 h4 h5 h6 G => ?_)
  subst h2
  exact xX9_levelAt_e G M hf ⟨h3, by rw [h4, h6], h5⟩

set_option maxHeartbeats 4000000 in
set_option maxRecDepth 100000 in
theorem xX10_inCellars_e {K : KT} {v1 : Int32} {w : Wd} {r : Int64} (G : GK K cX10_inCellars RX10 2 1) (M : Main K.ks) (hf : fX10_inCellars v1 w = some r) (hr : RJ K .long r w) : XW K 0 [some (.ref 14), some (.int v1)] [] w := by
  unfold fX10_inCellars at hf
  refine x_aload_n G dX10_inCellars_0 rfl rfl ?_
  refine x_getR G (kd14 M) 2 (b := 17) rfl cl10 rfl wf_X10_18 dX10_inCellars_1 ?_
  refine x_iload_n G dX10_inCellars_4 rfl rfl ?_
  refine x_iald G (kd17 M) dX10_inCellars_5 hf (fun hb_1 hf => ?_)
  refine x_i2l G dX10_inCellars_6 ?_
  refine x_aload_n G dX10_inCellars_7 rfl rfl ?_
  refine x_getR G (kd14 M) 3 (b := 18) rfl cl10 rfl wf_X10_21 dX10_inCellars_8 ?_
  refine x_iload_n G dX10_inCellars_11 rfl rfl ?_
  refine x_iald0 G (kd18 M) dX10_inCellars_12 hb_1 ?_
  refine x_i2l G dX10_inCellars_13 ?_
  refine x_ladd G dX10_inCellars_14 ?_
  exact x_lretP G hf hr dX10_inCellars_15

theorem mX10_inCellars {l : Launch} {S : KS} {w : Wd} (hI : Inj S) (M : Main S) {v1 : Int32} {r : Int64} (hf : fX10_inCellars v1 w = some r) : CJ l yX10_inCellars cX10_inCellars 2 (some .long) 1 S [.ref 14, .int v1] w r w := by
  intro sz
  refine mk_entry rfl (by decide +kernel) hI 0 rfl rfl (fun K h1 h2 h3 h4 h5 h6 G => ?_)
  subst h2
  exact xX10_inCellars_e G M hf ⟨h3, by rw [h4, h6], h5⟩

set_option maxHeartbeats 4000000 in
set_option maxRecDepth 100000 in
theorem xX4_factAt_207 {K : KT} {v2 : Int32} {w : Wd} {r : Int64} (G : GK K cX4_factAt RX4 5 4) (M : Main K.ks) (hf : fX4_factAt_207 v2 w = some r) (hr : RJ K .long r w) : XW K 207 [none, none, some (.int v2), some (.ref 1), none] [] w := by
  unfold fX4_factAt_207 at hf
  refine x_aload_n G dX4_factAt_207 rfl rfl ?_
  refine x_iload_n G dX4_factAt_208 rfl rfl ?_
  obtain ⟨v_1, hv_1, hf⟩ := bnd hf
  refine x_virI G (As := [.int v2]) (mX0_shutBeside G.2.2.2.2.2.2.1 M hv_1) mv_X4_133 (kd1 M) cl0 rfl rfl rfl rfl rfl dX4_factAt_209 ?_
  refine x_i2l G dX4_factAt_212 ?_
  exact x_lretP G hf hr dX4_factAt_213

set_option maxHeartbeats 4000000 in
set_option maxRecDepth 100000 in
theorem xX4_factAt_e {K : KT} {v1 : Int32} {v2 : Int32} {w : Wd} {r : Int64} (G : GK K cX4_factAt RX4 5 4) (M : Main K.ks) (hf : fX4_factAt v1 v2 w = some r) (hr : RJ K .long r w) : XW K 0 [some (.ref 106), some (.int v1), some (.int v2), some (.ref 1), some (.ref 100)] [] w := by
  unfold fX4_factAt at hf
  refine x_iload_n G dX4_factAt_0 rfl rfl ?_
  rcases ite_or hf with ⟨c_2, hf⟩ | ⟨c_2, hf⟩
  · refine x_swIn G (tgt := 188) (off := 187) (k := 99) dX4_factAt_1 c_2 (by decide) (by decide) (by decide) (by decide) ?_
    refine x_aload_n G dX4_factAt_188 rfl rfl ?_
    refine x_getR G (kd1 M) 1 (b := 14) rfl cl0 rfl wf_X4_111 dX4_factAt_189 ?_
    refine x_iload_n G dX4_factAt_192 rfl rfl ?_
    obtain ⟨v_1, hv_1, hf⟩ := bnd hf
    refine x_virJ G (As := [.int v2]) (mX10_inCellars G.2.2.2.2.2.2.1 M hv_1) mv_X4_120 (kd14 M) cl10 rfl rfl rfl rfl rfl dX4_factAt_193 ?_
    exact x_lretP G hf hr dX4_factAt_196
  rcases ite_or hf with ⟨c_4, hf⟩ | ⟨c_4, hf⟩
  · refine x_swIn G (tgt := 144) (off := 143) (k := 100) dX4_factAt_1 c_4 (by decide) (by decide) (by decide) (by decide) ?_
    refine x_aload_n G dX4_factAt_144 rfl rfl ?_
    refine x_iload_n G dX4_factAt_145 rfl rfl ?_
    obtain ⟨v_3, hv_3, hf⟩ := bnd hf
    refine x_virI G (As := [.int v2]) (mX0_deepest G.2.2.2.2.2.2.1 M hv_3) mv_X4_99 (kd1 M) cl0 rfl rfl rfl rfl rfl dX4_factAt_146 ?_
    refine x_i2l G dX4_factAt_149 ?_
    exact x_lretP G hf hr dX4_factAt_150
  rcases ite_or hf with ⟨c_6, hf⟩ | ⟨c_6, hf⟩
  · refine x_swIn G (tgt := 177) (off := 176) (k := 102) dX4_factAt_1 c_6 (by decide) (by decide) (by decide) (by decide) ?_
    refine x_aload_n G dX4_factAt_177 rfl rfl ?_
    refine x_getR G (kd1 M) 1 (b := 14) rfl cl0 rfl wf_X4_111 dX4_factAt_178 ?_
    refine x_getR G (kd14 M) 0 (b := 15) rfl cl10 rfl wf_X4_115 dX4_factAt_181 ?_
    refine x_iload_n G dX4_factAt_184 rfl rfl ?_
    refine x_iald G (kd15 M) dX4_factAt_185 hf (fun hb_5 hf => ?_)
    refine x_i2l G dX4_factAt_186 ?_
    exact x_lretP G hf hr dX4_factAt_187
  rcases ite_or hf with ⟨c_8, hf⟩ | ⟨c_8, hf⟩
  · refine x_swIn G (tgt := 100) (off := 99) (k := 104) dX4_factAt_1 c_8 (by decide) (by decide) (by decide) (by decide) ?_
    refine x_aload_n G dX4_factAt_100 rfl rfl ?_
    refine x_getR G (kd1 M) 0 (b := 2) rfl cl0 rfl wf_X4_81 dX4_factAt_101 ?_
    refine x_getR G (kd2 M) 0 (b := 3) rfl cl2 rfl wf_X4_85 dX4_factAt_104 ?_
    refine x_iload_n G dX4_factAt_107 rfl rfl ?_
    refine x_iald G (kd3 M) dX4_factAt_108 hf (fun hb_7 hf => ?_)
    refine x_i2l G dX4_factAt_109 ?_
    exact x_lretP G hf hr dX4_factAt_110
  rcases ite_or hf with ⟨c_10, hf⟩ | ⟨c_10, hf⟩
  · refine x_swIn G (tgt := 151) (off := 150) (k := 107) dX4_factAt_1 c_10 (by decide) (by decide) (by decide) (by decide) ?_
    refine x_aload_n G dX4_factAt_151 rfl rfl ?_
    obtain ⟨v_9, hv_9, hf⟩ := bnd hf
    refine x_virI G (As := []) (mX0_today G.2.2.2.2.2.2.1 M hv_9) mv_X4_64 (kd1 M) cl0 rfl rfl rfl rfl rfl dX4_factAt_152 ?_
    refine x_i2l G dX4_factAt_155 ?_
    exact x_lretP G hf hr dX4_factAt_156
  rcases ite_or hf with ⟨c_12, hf⟩ | ⟨c_12, hf⟩
  · refine x_swIn G (tgt := 197) (off := 196) (k := 109) dX4_factAt_1 c_12 (by decide) (by decide) (by decide) (by decide) ?_
    refine x_aload_n G dX4_factAt_197 rfl rfl ?_
    refine x_getR G (kd1 M) 3 (b := 30) rfl cl0 rfl wf_X4_124 dX4_factAt_198 ?_
    refine x_iload_n G dX4_factAt_201 rfl rfl ?_
    obtain ⟨v_11, hv_11, hf⟩ := bnd hf
    refine x_virI G (As := [.int v2]) (mX6_tellingsOf G.2.2.2.2.2.2.1 M hv_11) mv_X4_128 (kd30 M) cl6 rfl rfl rfl rfl rfl dX4_factAt_202 ?_
    refine x_i2l G dX4_factAt_205 ?_
    exact x_lretP G hf hr dX4_factAt_206
  rcases ite_or hf with ⟨c_13, hf⟩ | ⟨c_13, hf⟩
  · refine x_swIn G (tgt := 157) (off := 156) (k := 111) dX4_factAt_1 c_13 (by decide) (by decide) (by decide) (by decide) ?_
    refine x_aload_n G dX4_factAt_157 rfl rfl ?_
    refine x_getI G (kd1 M) 6 rfl cl0 rfl wf_X4_103 dX4_factAt_158 ?_
    refine x_bipush G (v := 24) dX4_factAt_161 (by decide) ?_
    refine x_irem' G dX4_factAt_163 (by decide) ?_
    refine x_i2l G dX4_factAt_164 ?_
    exact x_lretP G hf hr dX4_factAt_165
  rcases ite_or hf with ⟨c_15, hf⟩ | ⟨c_15, hf⟩
  · refine x_swIn G (tgt := 122) (off := 121) (k := 112) dX4_factAt_1 c_15 (by decide) (by decide) (by decide) (by decide) ?_
    refine x_aload_n G dX4_factAt_122 rfl rfl ?_
    refine x_getR G (kd1 M) 0 (b := 2) rfl cl0 rfl wf_X4_81 dX4_factAt_123 ?_
    refine x_getR G (kd2 M) 2 (b := 5) rfl cl2 rfl wf_X4_93 dX4_factAt_126 ?_
    refine x_iload_n G dX4_factAt_129 rfl rfl ?_
    refine x_iald G (kd5 M) dX4_factAt_130 hf (fun hb_14 hf => ?_)
    refine x_i2l G dX4_factAt_131 ?_
    exact x_lretP G hf hr dX4_factAt_132
  rcases ite_or hf with ⟨c_17, hf⟩ | ⟨c_17, hf⟩
  · refine x_swIn G (tgt := 111) (off := 110) (k := 115) dX4_factAt_1 c_17 (by decide) (by decide) (by decide) (by decide) ?_
    refine x_aload_n G dX4_factAt_111 rfl rfl ?_
    refine x_getR G (kd1 M) 0 (b := 2) rfl cl0 rfl wf_X4_81 dX4_factAt_112 ?_
    refine x_getR G (kd2 M) 1 (b := 4) rfl cl2 rfl wf_X4_90 dX4_factAt_115 ?_
    refine x_iload_n G dX4_factAt_118 rfl rfl ?_
    refine x_iald G (kd4 M) dX4_factAt_119 hf (fun hb_16 hf => ?_)
    refine x_i2l G dX4_factAt_120 ?_
    exact x_lretP G hf hr dX4_factAt_121
  rcases ite_or hf with ⟨c_19, hf⟩ | ⟨c_19, hf⟩
  · refine x_swIn G (tgt := 133) (off := 132) (k := 116) dX4_factAt_1 c_19 (by decide) (by decide) (by decide) (by decide) ?_
    refine x_aload_n G dX4_factAt_133 rfl rfl ?_
    refine x_getR G (kd1 M) 0 (b := 2) rfl cl0 rfl wf_X4_81 dX4_factAt_134 ?_
    refine x_getR G (kd2 M) 3 (b := 6) rfl cl2 rfl wf_X4_96 dX4_factAt_137 ?_
    refine x_iload_n G dX4_factAt_140 rfl rfl ?_
    refine x_iald G (kd6 M) dX4_factAt_141 hf (fun hb_18 hf => ?_)
    refine x_i2l G dX4_factAt_142 ?_
    exact x_lretP G hf hr dX4_factAt_143
  rcases ite_or hf with ⟨c_21, hf⟩ | ⟨c_21, hf⟩
  · refine x_swIn G (tgt := 166) (off := 165) (k := 119) dX4_factAt_1 c_21 (by decide) (by decide) (by decide) (by decide) ?_
    refine x_aload G dX4_factAt_166 rfl ?_
    refine x_aload_n G dX4_factAt_168 rfl rfl ?_
    refine x_getI G (kd1 M) 6 rfl cl0 rfl wf_X4_103 dX4_factAt_169 ?_
    obtain ⟨v_20, hv_20, hf⟩ := bnd hf
    refine x_virI G (As := [.int (w.1 1 6)]) (mX9_levelAt G.2.2.2.2.2.2.1 M hv_20) mv_X4_106 (kd100 M) cl9 rfl rfl rfl rfl rfl dX4_factAt_172 ?_
    refine x_i2l G dX4_factAt_175 ?_
    exact x_lretP G hf hr dX4_factAt_176
  refine x_swDef G (tgt := 207) dX4_factAt_1 (by decide) [99, 100, 102, 104, 107, 109, 111, 112, 115, 116, 119] (List.forall_mem_cons.mpr ⟨nek c_2 (by decide), (List.forall_mem_cons.mpr ⟨nek c_4 (by decide), (List.forall_mem_cons.mpr ⟨nek c_6 (by decide), (List.forall_mem_cons.mpr ⟨nek c_8 (by decide), (List.forall_mem_cons.mpr ⟨nek c_10 (by decide), (List.forall_mem_cons.mpr ⟨nek c_12 (by decide), (List.forall_mem_cons.mpr ⟨nek c_13 (by decide), (List.forall_mem_cons.mpr ⟨nek c_15 (by decide), (List.forall_mem_cons.mpr ⟨nek c_17 (by decide), (List.forall_mem_cons.mpr ⟨nek c_19 (by decide), (List.forall_mem_cons.mpr ⟨nek c_21 (by decide), (fun _ h => absurd h List.not_mem_nil)⟩)⟩)⟩)⟩)⟩)⟩)⟩)⟩)⟩)⟩)⟩) (by decide +kernel) ?_
  exact XW.sub (lv' := [none, none, some (.int v2), some (.ref 1), none]) (And.intro rfl (And.intro rfl trivial)) (xX4_factAt_207 G M hf hr)

theorem mX4_factAt {l : Launch} {S : KS} {w : Wd} (hI : Inj S) (M : Main S) {v1 : Int32} {v2 : Int32} {r : Int64} (hf : fX4_factAt v1 v2 w = some r) : CJ l yX4_factAt cX4_factAt 5 (some .long) 4 S [.ref 106, .int v1, .int v2, .ref 1, .ref 100] w r w := by
  intro sz
  refine mk_entry rfl (by decide +kernel) hI 0 rfl rfl (fun K h1 h2 h3 h4 h5 h6 G => ?_)
  subst h2
  exact xX4_factAt_e G M hf ⟨h3, by rw [h4, h6], h5⟩

set_option maxHeartbeats 4000000 in
set_option maxRecDepth 100000 in
theorem xX4_ruling_5 {K : KT} {w : Wd} {r : Int32} (G : GK K cX4_ruling RX4 5 1) (M : Main K.ks) (hr : RI K .int r w) : ∀ (n : Nat) (v1 : Int32) (v2 : Int32) (v3 : Int32) (v4 : Int32), fX4_ruling_5 w n v1 v2 v3 v4 = some r → XW K 5 [some (.ref 106), some (.int v1), some (.int v2), some (.int v3), some (.int v4)] [] w := by
  intro n
  induction n with
  | zero =>
    intro v1 v2 v3 v4 hf
    unfold fX4_ruling_5 at hf
    cases hf
  | succ n ih =>
    intro v1 v2 v3 v4 hf
    unfold fX4_ruling_5 at hf
    refine x_iload G dX4_ruling_5 rfl ?_
    refine x_aload_n G dX4_ruling_7 rfl rfl ?_
    refine x_getI G (kd106 M) 0 rfl cl4 rfl wf_X4_9 dX4_ruling_8 ?_
    refine x_icmpge G (tgt := 68) dX4_ruling_11 (by decide) hf (fun c_1 hf => ?_) (fun c_1 hf => ?_)
    · refine x_aload_n G dX4_ruling_14 rfl rfl ?_
      refine x_getR G (kd106 M) 1 (b := 107) rfl cl4 rfl wf_X4_15 dX4_ruling_15 ?_
      refine x_iload G dX4_ruling_18 rfl ?_
      refine x_iald G (kd107 M) dX4_ruling_20 hf (fun hb_2 hf => ?_)
      refine x_iload_n G dX4_ruling_21 rfl rfl ?_
      refine x_icmpne G (tgt := 62) dX4_ruling_22 (by decide) hf (fun c_3 hf => ?_) (fun c_3 hf => ?_)
      · refine x_aload_n G dX4_ruling_25 rfl rfl ?_
        refine x_getR G (kd106 M) 2 (b := 108) rfl cl4 rfl wf_X4_19 dX4_ruling_26 ?_
        refine x_iload G dX4_ruling_29 rfl ?_
        refine x_iald0 G (kd108 M) dX4_ruling_31 hb_2 ?_
        refine x_iload_n G dX4_ruling_32 rfl rfl ?_
        refine x_icmple G (tgt := 39) dX4_ruling_33 (by decide) hf (fun c_4 hf => ?_) (fun c_4 hf => ?_)
        · refine x_goto G (tgt := 62) dX4_ruling_36 (by decide) ?_
          refine x_iinc G (lv' := [some (.ref 106), some (.int v1), some (.int v2), some (.int v3), some (.int (v4 + (1 : Int32)))]) (v := 1) dX4_ruling_62 rfl (by decide) rfl rfl rfl ?_
          refine x_goto G (tgt := 5) dX4_ruling_65 (by decide) ?_
          exact XW.sub (lv' := [some (.ref 106), some (.int v1), some (.int v2), some (.int v3), some (.int (v4 + (1 : Int32)))]) (And.intro rfl (And.intro rfl (And.intro rfl (And.intro rfl (And.intro rfl trivial))))) (ih _ _ _ _ hf)
        · refine x_iload_n G dX4_ruling_39 rfl rfl ?_
          refine x_iflt G (tgt := 59) dX4_ruling_40 (by decide) hf (fun c_5 hf => ?_) (fun c_5 hf => ?_)
          · refine x_iload G dX4_ruling_59 rfl ?_
            refine x_istore_n G (lv' := [some (.ref 106), some (.int v1), some (.int v2), some (.int v4), some (.int v4)]) dX4_ruling_61 rfl rfl rfl rfl ?_
            refine x_iinc G (lv' := [some (.ref 106), some (.int v1), some (.int v2), some (.int v4), some (.int (v4 + (1 : Int32)))]) (v := 1) dX4_ruling_62 rfl (by decide) rfl rfl rfl ?_
            refine x_goto G (tgt := 5) dX4_ruling_65 (by decide) ?_
            exact XW.sub (lv' := [some (.ref 106), some (.int v1), some (.int v2), some (.int v4), some (.int (v4 + (1 : Int32)))]) (And.intro rfl (And.intro rfl (And.intro rfl (And.intro rfl (And.intro rfl trivial))))) (ih _ _ _ _ hf)
          · refine x_aload_n G dX4_ruling_43 rfl rfl ?_
            refine x_getR G (kd106 M) 2 (b := 108) rfl cl4 rfl wf_X4_19 dX4_ruling_44 ?_
            refine x_iload G dX4_ruling_47 rfl ?_
            refine x_iald0 G (kd108 M) dX4_ruling_49 hb_2 ?_
            refine x_aload_n G dX4_ruling_50 rfl rfl ?_
            refine x_getR G (kd106 M) 2 (b := 108) rfl cl4 rfl wf_X4_19 dX4_ruling_51 ?_
            refine x_iload_n G dX4_ruling_54 rfl rfl ?_
            refine x_iald G (kd108 M) dX4_ruling_55 hf (fun hb_6 hf => ?_)
            refine x_icmplt G (tgt := 62) dX4_ruling_56 (by decide) hf (fun c_7 hf => ?_) (fun c_7 hf => ?_)
            · refine x_iinc G (lv' := [some (.ref 106), some (.int v1), some (.int v2), some (.int v3), some (.int (v4 + (1 : Int32)))]) (v := 1) dX4_ruling_62 rfl (by decide) rfl rfl rfl ?_
              refine x_goto G (tgt := 5) dX4_ruling_65 (by decide) ?_
              exact XW.sub (lv' := [some (.ref 106), some (.int v1), some (.int v2), some (.int v3), some (.int (v4 + (1 : Int32)))]) (And.intro rfl (And.intro rfl (And.intro rfl (And.intro rfl (And.intro rfl trivial))))) (ih _ _ _ _ hf)
            · refine x_iload G dX4_ruling_59 rfl ?_
              refine x_istore_n G (lv' := [some (.ref 106), some (.int v1), some (.int v2), some (.int v4), some (.int v4)]) dX4_ruling_61 rfl rfl rfl rfl ?_
              refine x_iinc G (lv' := [some (.ref 106), some (.int v1), some (.int v2), some (.int v4), some (.int (v4 + (1 : Int32)))]) (v := 1) dX4_ruling_62 rfl (by decide) rfl rfl rfl ?_
              refine x_goto G (tgt := 5) dX4_ruling_65 (by decide) ?_
              exact XW.sub (lv' := [some (.ref 106), some (.int v1), some (.int v2), some (.int v4), some (.int (v4 + (1 : Int32)))]) (And.intro rfl (And.intro rfl (And.intro rfl (And.intro rfl (And.intro rfl trivial))))) (ih _ _ _ _ hf)
      · refine x_iinc G (lv' := [some (.ref 106), some (.int v1), some (.int v2), some (.int v3), some (.int (v4 + (1 : Int32)))]) (v := 1) dX4_ruling_62 rfl (by decide) rfl rfl rfl ?_
        refine x_goto G (tgt := 5) dX4_ruling_65 (by decide) ?_
        exact XW.sub (lv' := [some (.ref 106), some (.int v1), some (.int v2), some (.int v3), some (.int (v4 + (1 : Int32)))]) (And.intro rfl (And.intro rfl (And.intro rfl (And.intro rfl (And.intro rfl trivial))))) (ih _ _ _ _ hf)
    · refine x_iload_n G dX4_ruling_68 rfl rfl ?_
      exact x_iretP G hf hr dX4_ruling_69

set_option maxHeartbeats 4000000 in
set_option maxRecDepth 100000 in
theorem xX4_ruling_e {K : KT} {v1 : Int32} {v2 : Int32} {w : Wd} {r : Int32} (G : GK K cX4_ruling RX4 5 1) (M : Main K.ks) (hf : fX4_ruling v1 v2 w = some r) (hr : RI K .int r w) : XW K 0 [some (.ref 106), some (.int v1), some (.int v2), none, none] [] w := by
  unfold fX4_ruling at hf
  refine x_iconst G (v := -1) dX4_ruling_0 (by decide) ?_
  refine x_istore_n G (lv' := [some (.ref 106), some (.int v1), some (.int v2), some (.int (-1 : Int32)), none]) dX4_ruling_1 rfl rfl rfl rfl ?_
  refine x_iconst G (v := 0) dX4_ruling_2 (by decide) ?_
  refine x_istore G (lv' := [some (.ref 106), some (.int v1), some (.int v2), some (.int (-1 : Int32)), some (.int (0 : Int32))]) dX4_ruling_3 rfl rfl rfl ?_
  exact XW.sub (lv' := [some (.ref 106), some (.int v1), some (.int v2), some (.int (-1 : Int32)), some (.int (0 : Int32))]) (And.intro rfl (And.intro rfl (And.intro rfl (And.intro rfl (And.intro rfl trivial))))) (xX4_ruling_5 G M hr FU _ _ _ _ hf)

theorem mX4_ruling {l : Launch} {S : KS} {w : Wd} (hI : Inj S) (M : Main S) {v1 : Int32} {v2 : Int32} {r : Int32} (hf : fX4_ruling v1 v2 w = some r) : CI l yX4_ruling cX4_ruling 5 (some .int) 1 S [.ref 106, .int v1, .int v2] w r w := by
  intro sz
  refine mk_entry rfl (by decide +kernel) hI 2 rfl rfl (fun K h1 h2 h3 h4 h5 h6 G => ?_)
  subst h2
  exact xX4_ruling_e G M hf ⟨h3, by rw [h4, h6], h5⟩

set_option maxHeartbeats 4000000 in
set_option maxRecDepth 100000 in
theorem xX4_allow_99 {K : KT} {v2 : Int32} {v5 : Int32} {v6 : Int32} {v7 : Int32} {s1 : Int32} {s2 : Int64} {w : Wd} {r : Bool × Wd} (G : GK K cX4_allow RX4 9 5) (M : Main K.ks) (k33 : Int32 → Int32 → Int32 → Int32 → Wd → Option (Bool × Wd)) (hk33 : ∀ (v2 : Int32) (v5 : Int32) (v6 : Int32) (v7 : Int32) (w : Wd), k33 v2 v5 v6 v7 w = some r → XW K 33 [some (.ref 106), none, some (.int v2), some (.ref 1), some (.ref 100), some (.int v5), some (.int v6), some (.int v7), none] [] w) (hf : fX4_allow_99 k33 v2 v5 v6 v7 s1 s2 w = some r) (hr : RI K .boolean (bI r.1) r.2) : XW K 99 [some (.ref 106), none, some (.int v2), some (.ref 1), some (.ref 100), some (.int v5), some (.int v6), some (.int v7), none] [.long s2, .int s1, .ref 112] w := by
  unfold fX4_allow_99 at hf
  refine x_last G (kd112 M) dX4_allow_99 hf (fun hb_1 hf => ?_)
  refine nwr hf (fun w_2 hf => ?_)
  refine x_iinc G (lv' := [some (.ref 106), none, some (.int v2), some (.ref 1), some (.ref 100), some (.int v5), some (.int (v6 + (1 : Int32))), some (.int v7), none]) (v := 1) dX4_allow_100 rfl (by decide) rfl rfl rfl ?_
  refine x_goto G (tgt := 185) dX4_allow_103 (by decide) ?_
  refine x_iinc G (lv' := [some (.ref 106), none, some (.int v2), some (.ref 1), some (.ref 100), some (.int v5), some (.int (v6 + (1 : Int32))), some (.int (v7 + (1 : Int32))), none]) (v := 1) dX4_allow_185 rfl (by decide) rfl rfl rfl ?_
  refine x_goto G (tgt := 33) dX4_allow_188 (by decide) ?_
  exact XW.sub (lv' := [some (.ref 106), none, some (.int v2), some (.ref 1), some (.ref 100), some (.int v5), some (.int (v6 + (1 : Int32))), some (.int (v7 + (1 : Int32))), none]) (And.intro rfl (And.intro rfl (And.intro rfl (And.intro rfl (And.intro rfl (And.intro rfl (And.intro rfl trivial))))))) (hk33 _ _ _ _ _ hf)

set_option maxHeartbeats 4000000 in
set_option maxRecDepth 100000 in
theorem xX4_allow_33 {K : KT} {r : Bool × Wd} (G : GK K cX4_allow RX4 9 5) (M : Main K.ks) (hr : RI K .boolean (bI r.1) r.2) : ∀ (n : Nat) (v2 : Int32) (v5 : Int32) (v6 : Int32) (v7 : Int32) (w : Wd), fX4_allow_33 n v2 v5 v6 v7 w = some r → XW K 33 [some (.ref 106), none, some (.int v2), some (.ref 1), some (.ref 100), some (.int v5), some (.int v6), some (.int v7), none] [] w := by
  intro n
  induction n with
  | zero =>
    intro v2 v5 v6 v7 w hf
    unfold fX4_allow_33 at hf
    cases hf
  | succ n ih =>
    intro v2 v5 v6 v7 w hf
    unfold fX4_allow_33 at hf
    refine x_iload G dX4_allow_33 rfl ?_
    refine x_aload_n G dX4_allow_35 rfl rfl ?_
    refine x_getR G (kd106 M) 3 (b := 109) rfl cl4 rfl wf_X4_22 dX4_allow_36 ?_
    refine x_iload G dX4_allow_39 rfl ?_
    refine x_iald G (kd109 M) dX4_allow_41 hf (fun hb_1 hf => ?_)
    refine x_icmpge G (tgt := 191) dX4_allow_42 (by decide) hf (fun c_2 hf => ?_) (fun c_2 hf => ?_)
    · refine x_aload_n G dX4_allow_45 rfl rfl ?_
      refine x_getR G (kd106 M) 4 (b := 110) rfl cl4 rfl wf_X4_27 dX4_allow_46 ?_
      refine x_iload G dX4_allow_49 rfl ?_
      refine x_aald0 G (kd110 M) (kn := 2) (by decide) dX4_allow_51 hb_1 ?_
      refine x_iload G dX4_allow_52 rfl ?_
      refine x_iald G (stepOk M hb_1) dX4_allow_54 hf (fun hb_3 hf => ?_)
      refine x_istore G (lv' := [some (.ref 106), none, some (.int v2), some (.ref 1), some (.ref 100), some (.int v5), some (.int v6), some (.int v7), some (.int (ri w (114 + (v5).toNatClampNeg) v7))]) dX4_allow_55 rfl rfl rfl ?_
      refine x_iload G dX4_allow_57 rfl ?_
      refine x_sipush G (v := 20000) dX4_allow_59 (by decide) ?_
      refine x_icmpge G (tgt := 106) dX4_allow_62 (by decide) hf (fun c_4 hf => ?_) (fun c_4 hf => ?_)
      · refine x_aload_n G dX4_allow_65 rfl rfl ?_
        refine x_getR G (kd106 M) 6 (b := 112) rfl cl4 rfl wf_X4_33 dX4_allow_66 ?_
        refine x_iload G dX4_allow_69 rfl ?_
        refine x_iload G dX4_allow_71 rfl ?_
        refine x_sipush G (v := 10000) dX4_allow_73 (by decide) ?_
        refine x_icmpge G (tgt := 85) dX4_allow_76 (by decide) hf (fun c_5 hf => ?_) (fun c_5 hf => ?_)
        · refine x_iload G dX4_allow_79 rfl ?_
          refine x_i2l G dX4_allow_81 ?_
          refine x_goto G (tgt := 99) dX4_allow_82 (by decide) ?_
          exact XW.sub (lv' := [some (.ref 106), none, some (.int v2), some (.ref 1), some (.ref 100), some (.int v5), some (.int v6), some (.int v7), none]) (And.intro rfl (And.intro rfl (And.intro rfl (And.intro rfl (And.intro rfl (And.intro rfl (And.intro rfl trivial))))))) (xX4_allow_99 G M (fX4_allow_33 n) ih hf hr)
        · refine x_aload_n G dX4_allow_85 rfl rfl ?_
          refine x_iload G dX4_allow_86 rfl ?_
          refine x_sipush G (v := 10000) dX4_allow_88 (by decide) ?_
          refine x_isub G dX4_allow_91 ?_
          refine x_iload_n G dX4_allow_92 rfl rfl ?_
          refine x_aload_n G dX4_allow_93 rfl rfl ?_
          refine x_aload G dX4_allow_94 rfl ?_
          obtain ⟨v_6, hv_6, hf⟩ := bnd hf
          refine x_virJ G (As := [.int ((ri w (114 + (v5).toNatClampNeg) v7) - (10000 : Int32)), .int v2, .ref 1, .ref 100]) (mX4_factAt G.2.2.2.2.2.2.1 M hv_6) mv_X4_73 (kd106 M) cl4 rfl rfl rfl rfl rfl dX4_allow_96 ?_
          exact XW.sub (lv' := [some (.ref 106), none, some (.int v2), some (.ref 1), some (.ref 100), some (.int v5), some (.int v6), some (.int v7), none]) (And.intro rfl (And.intro rfl (And.intro rfl (And.intro rfl (And.intro rfl (And.intro rfl (And.intro rfl trivial))))))) (xX4_allow_99 G M (fX4_allow_33 n) ih hf hr)
      · refine x_iload G dX4_allow_106 rfl ?_
        refine x_sipush G (v := 20033) dX4_allow_108 (by decide) ?_
        refine x_icmpne G (tgt := 142) dX4_allow_111 (by decide) hf (fun c_7 hf => ?_) (fun c_7 hf => ?_)
        · refine x_iload G dX4_allow_114 rfl ?_
          refine x_ifle G (tgt := 185) dX4_allow_116 (by decide) hf (fun c_8 hf => ?_) (fun c_8 hf => ?_)
          · refine x_aload_n G dX4_allow_119 rfl rfl ?_
            refine x_getR G (kd106 M) 6 (b := 112) rfl cl4 rfl wf_X4_33 dX4_allow_120 ?_
            refine x_iload G dX4_allow_123 rfl ?_
            refine x_iconst G (v := 1) dX4_allow_125 (by decide) ?_
            refine x_isub G dX4_allow_126 ?_
            refine x_lconst G (v := 1) dX4_allow_127 (by decide) ?_
            refine x_aload_n G dX4_allow_128 rfl rfl ?_
            refine x_getR G (kd106 M) 6 (b := 112) rfl cl4 rfl wf_X4_33 dX4_allow_129 ?_
            refine x_iload G dX4_allow_132 rfl ?_
            refine x_iconst G (v := 1) dX4_allow_134 (by decide) ?_
            refine x_isub G dX4_allow_135 ?_
            refine x_lald G (kd112 M) dX4_allow_136 hf (fun hb_9 hf => ?_)
            refine x_lsub G dX4_allow_137 ?_
            refine x_last0 G (kd112 M) dX4_allow_138 hb_9 ?_
            refine nwr hf (fun w_10 hf => ?_)
            refine x_goto G (tgt := 185) dX4_allow_139 (by decide) ?_
            refine x_iinc G (lv' := [some (.ref 106), none, some (.int v2), some (.ref 1), some (.ref 100), some (.int v5), some (.int v6), some (.int (v7 + (1 : Int32))), some (.int (ri w (114 + (v5).toNatClampNeg) v7))]) (v := 1) dX4_allow_185 rfl (by decide) rfl rfl rfl ?_
            refine x_goto G (tgt := 33) dX4_allow_188 (by decide) ?_
            exact XW.sub (lv' := [some (.ref 106), none, some (.int v2), some (.ref 1), some (.ref 100), some (.int v5), some (.int v6), some (.int (v7 + (1 : Int32))), none]) (And.intro rfl (And.intro rfl (And.intro rfl (And.intro rfl (And.intro rfl (And.intro rfl (And.intro rfl trivial))))))) (ih _ _ _ _ _ hf)
          · refine x_iinc G (lv' := [some (.ref 106), none, some (.int v2), some (.ref 1), some (.ref 100), some (.int v5), some (.int v6), some (.int (v7 + (1 : Int32))), some (.int (ri w (114 + (v5).toNatClampNeg) v7))]) (v := 1) dX4_allow_185 rfl (by decide) rfl rfl rfl ?_
            refine x_goto G (tgt := 33) dX4_allow_188 (by decide) ?_
            exact XW.sub (lv' := [some (.ref 106), none, some (.int v2), some (.ref 1), some (.ref 100), some (.int v5), some (.int v6), some (.int (v7 + (1 : Int32))), none]) (And.intro rfl (And.intro rfl (And.intro rfl (And.intro rfl (And.intro rfl (And.intro rfl (And.intro rfl trivial))))))) (ih _ _ _ _ _ hf)
        · refine x_iload G dX4_allow_142 rfl ?_
          refine x_iconst G (v := 1) dX4_allow_144 (by decide) ?_
          refine x_icmple G (tgt := 185) dX4_allow_145 (by decide) hf (fun c_11 hf => ?_) (fun c_11 hf => ?_)
          · refine x_iinc G (lv' := [some (.ref 106), none, some (.int v2), some (.ref 1), some (.ref 100), some (.int v5), some (.int (v6 + (-1 : Int32))), some (.int v7), some (.int (ri w (114 + (v5).toNatClampNeg) v7))]) (v := -1) dX4_allow_148 rfl (by decide) rfl rfl rfl ?_
            refine x_aload_n G dX4_allow_151 rfl rfl ?_
            refine x_getR G (kd106 M) 6 (b := 112) rfl cl4 rfl wf_X4_33 dX4_allow_152 ?_
            refine x_iload G dX4_allow_155 rfl ?_
            refine x_iconst G (v := 1) dX4_allow_157 (by decide) ?_
            refine x_isub G dX4_allow_158 ?_
            refine x_iload G dX4_allow_159 rfl ?_
            refine x_sipush G (v := 20000) dX4_allow_161 (by decide) ?_
            refine x_isub G dX4_allow_164 ?_
            refine x_aload_n G dX4_allow_165 rfl rfl ?_
            refine x_getR G (kd106 M) 6 (b := 112) rfl cl4 rfl wf_X4_33 dX4_allow_166 ?_
            refine x_iload G dX4_allow_169 rfl ?_
            refine x_iconst G (v := 1) dX4_allow_171 (by decide) ?_
            refine x_isub G dX4_allow_172 ?_
            refine x_lald G (kd112 M) dX4_allow_173 hf (fun hb_12 hf => ?_)
            refine x_aload_n G dX4_allow_174 rfl rfl ?_
            refine x_getR G (kd106 M) 6 (b := 112) rfl cl4 rfl wf_X4_33 dX4_allow_175 ?_
            refine x_iload G dX4_allow_178 rfl ?_
            refine x_lald G (kd112 M) dX4_allow_180 hf (fun hb_13 hf => ?_)
            obtain ⟨v_14, hv_14, hf⟩ := bnd hf
            refine x_staJ G (As := [.int ((ri w (114 + (v5).toNatClampNeg) v7) - (20000 : Int32)), .long (rl w 112 ((v6 + (-1 : Int32)) - (1 : Int32))), .long (rl w 112 (v6 + (-1 : Int32)))]) (mX4_done G.2.2.2.2.2.2.1 M hv_14) ms_X4_77 rfl rfl rfl rfl rfl dX4_allow_181 ?_
            refine x_last0 G (kd112 M) dX4_allow_184 hb_12 ?_
            refine nwr hf (fun w_15 hf => ?_)
            refine x_iinc G (lv' := [some (.ref 106), none, some (.int v2), some (.ref 1), some (.ref 100), some (.int v5), some (.int (v6 + (-1 : Int32))), some (.int (v7 + (1 : Int32))), some (.int (ri w (114 + (v5).toNatClampNeg) v7))]) (v := 1) dX4_allow_185 rfl (by decide) rfl rfl rfl ?_
            refine x_goto G (tgt := 33) dX4_allow_188 (by decide) ?_
            exact XW.sub (lv' := [some (.ref 106), none, some (.int v2), some (.ref 1), some (.ref 100), some (.int v5), some (.int (v6 + (-1 : Int32))), some (.int (v7 + (1 : Int32))), none]) (And.intro rfl (And.intro rfl (And.intro rfl (And.intro rfl (And.intro rfl (And.intro rfl (And.intro rfl trivial))))))) (ih _ _ _ _ _ hf)
          · refine x_iinc G (lv' := [some (.ref 106), none, some (.int v2), some (.ref 1), some (.ref 100), some (.int v5), some (.int v6), some (.int (v7 + (1 : Int32))), some (.int (ri w (114 + (v5).toNatClampNeg) v7))]) (v := 1) dX4_allow_185 rfl (by decide) rfl rfl rfl ?_
            refine x_goto G (tgt := 33) dX4_allow_188 (by decide) ?_
            exact XW.sub (lv' := [some (.ref 106), none, some (.int v2), some (.ref 1), some (.ref 100), some (.int v5), some (.int v6), some (.int (v7 + (1 : Int32))), none]) (And.intro rfl (And.intro rfl (And.intro rfl (And.intro rfl (And.intro rfl (And.intro rfl (And.intro rfl trivial))))))) (ih _ _ _ _ _ hf)
    · refine x_aload_n G dX4_allow_191 rfl rfl ?_
      refine x_getR G (kd106 M) 6 (b := 112) rfl cl4 rfl wf_X4_33 dX4_allow_192 ?_
      refine x_iconst G (v := 0) dX4_allow_195 (by decide) ?_
      refine x_lald0 G (kd112 M) dX4_allow_196 (by decide) ?_
      refine x_lconst G (v := 0) dX4_allow_197 (by decide) ?_
      refine x_lcmp G dX4_allow_198 ?_
      refine x_ceq G (tgt := 206) dX4_allow_199 (by decide) hf (fun c_16 hf => ?_) (fun c_16 hf => ?_)
      · refine x_iconst G (v := 0) dX4_allow_206 (by decide) ?_
        exact x_zretW G hf hr dX4_allow_207
      · refine x_iconst G (v := 1) dX4_allow_202 (by decide) ?_
        refine x_goto G (tgt := 207) dX4_allow_203 (by decide) ?_
        exact x_zretW G hf hr dX4_allow_207

set_option maxHeartbeats 4000000 in
set_option maxRecDepth 100000 in
theorem xX4_allow_e {K : KT} {v1 : Int32} {v2 : Int32} {w : Wd} {r : Bool × Wd} (G : GK K cX4_allow RX4 9 5) (M : Main K.ks) (hf : fX4_allow v1 v2 w = some r) (hr : RI K .boolean (bI r.1) r.2) : XW K 0 [some (.ref 106), some (.int v1), some (.int v2), some (.ref 1), some (.ref 100), none, none, none, none] [] w := by
  unfold fX4_allow at hf
  refine x_aload_n G dX4_allow_0 rfl rfl ?_
  refine x_iload_n G dX4_allow_1 rfl rfl ?_
  refine x_aload_n G dX4_allow_2 rfl rfl ?_
  obtain ⟨v_1, hv_1, hf⟩ := bnd hf
  refine x_virI G (As := []) (mX0_today G.2.2.2.2.2.2.1 M hv_1) mv_X4_64 (kd1 M) cl0 rfl rfl rfl rfl rfl dX4_allow_3 ?_
  obtain ⟨v_2, hv_2, hf⟩ := bnd hf
  refine x_virI G (As := [.int v1, .int v_1]) (mX4_ruling G.2.2.2.2.2.2.1 M hv_2) mv_X4_70 (kd106 M) cl4 rfl rfl rfl rfl rfl dX4_allow_6 ?_
  refine x_istore G (lv' := [some (.ref 106), some (.int v1), some (.int v2), some (.ref 1), some (.ref 100), some (.int v_2), none, none, none]) dX4_allow_9 rfl rfl rfl ?_
  refine x_iload G dX4_allow_11 rfl ?_
  refine x_ifge G (tgt := 27) dX4_allow_13 (by decide) hf (fun c_3 hf => ?_) (fun c_3 hf => ?_)
  · refine x_iload_n G dX4_allow_16 rfl rfl ?_
    refine x_iconst G (v := 1) dX4_allow_17 (by decide) ?_
    refine x_icmpeq G (tgt := 25) dX4_allow_18 (by decide) hf (fun c_4 hf => ?_) (fun c_4 hf => ?_)
    · refine x_iconst G (v := 0) dX4_allow_25 (by decide) ?_
      exact x_zretW G hf hr dX4_allow_26
    · refine x_iconst G (v := 1) dX4_allow_21 (by decide) ?_
      refine x_goto G (tgt := 26) dX4_allow_22 (by decide) ?_
      exact x_zretW G hf hr dX4_allow_26
  · refine x_iconst G (v := 0) dX4_allow_27 (by decide) ?_
    refine x_istore G (lv' := [some (.ref 106), some (.int v1), some (.int v2), some (.ref 1), some (.ref 100), some (.int v_2), some (.int (0 : Int32)), none, none]) dX4_allow_28 rfl rfl rfl ?_
    refine x_iconst G (v := 0) dX4_allow_30 (by decide) ?_
    refine x_istore G (lv' := [some (.ref 106), some (.int v1), some (.int v2), some (.ref 1), some (.ref 100), some (.int v_2), some (.int (0 : Int32)), some (.int (0 : Int32)), none]) dX4_allow_31 rfl rfl rfl ?_
    exact XW.sub (lv' := [some (.ref 106), none, some (.int v2), some (.ref 1), some (.ref 100), some (.int v_2), some (.int (0 : Int32)), some (.int (0 : Int32)), none]) (And.intro rfl (And.intro rfl (And.intro rfl (And.intro rfl (And.intro rfl (And.intro rfl (And.intro rfl trivial))))))) (xX4_allow_33 G M hr FU _ _ _ _ _ hf)

theorem mX4_allow {l : Launch} {S : KS} {w : Wd} (hI : Inj S) (M : Main S) {v1 : Int32} {v2 : Int32} {r : Bool × Wd} (hf : fX4_allow v1 v2 w = some r) : CI l yX4_allow cX4_allow 9 (some .boolean) 5 S [.ref 106, .int v1, .int v2, .ref 1, .ref 100] w (bI r.1) r.2 := by
  intro sz
  refine mk_entry rfl (by decide +kernel) hI 4 rfl rfl (fun K h1 h2 h3 h4 h5 h6 G => ?_)
  subst h2
  exact xX4_allow_e G M hf ⟨h3, by rw [h4, h6], h5⟩

set_option maxHeartbeats 4000000 in
set_option maxRecDepth 100000 in
theorem xX0_pullWalls_89 {K : KT} {v1 : Int32} {v5 : Int32} {v6 : Int32} {v7 : Int32} {s0 : Int32} {s1 : Int32} {w : Wd} {r : Wd} (G : GK K cX0_pullWalls RX0 10 6) (M : Main K.ks) (k18 : Int32 → Int32 → Int32 → Wd → Option Wd) (hk18 : ∀ (v1 : Int32) (v5 : Int32) (v6 : Int32) (w : Wd), k18 v1 v5 v6 w = some r → XW K 18 [some (.ref 1), some (.int v1), none, some (.ref 106), some (.ref 100), some (.int v5), some (.int v6), none, none, none] [] w) (hf : fX0_pullWalls_89 k18 v1 v5 v6 v7 s0 s1 w = some r) (hr : RV K r) : XW K 89 [some (.ref 1), some (.int v1), none, some (.ref 106), some (.ref 100), some (.int v5), some (.int v6), some (.int v7), none, none] [.int s1, .int s0] w := by
  unfold fX0_pullWalls_89 at hf
  refine x_idivC G dX0_pullWalls_89 hf (fun hf => ?_)
  refine x_aload_n G dX0_pullWalls_90 rfl rfl ?_
  refine x_getR G (kd1 M) 0 (b := 2) rfl cl0 rfl wf_X0_12 dX0_pullWalls_91 ?_
  refine x_getR G (kd2 M) 3 (b := 6) rfl cl2 rfl wf_X0_204 dX0_pullWalls_94 ?_
  refine x_iload G dX0_pullWalls_97 rfl ?_
  refine x_iald G (kd6 M) dX0_pullWalls_99 hf (fun hb_1 hf => ?_)
  refine x_isub G dX0_pullWalls_100 ?_
  refine x_istore G (lv' := [some (.ref 1), some (.int v1), none, some (.ref 106), some (.ref 100), some (.int v5), some (.int v6), some (.int v7), some (.int ((s0 / s1) - (ri w 6 v7))), none]) dX0_pullWalls_101 rfl rfl rfl ?_
  refine x_iload G dX0_pullWalls_103 rfl ?_
  refine x_ifgt G (tgt := 111) dX0_pullWalls_105 (by decide) hf (fun c_2 hf => ?_) (fun c_2 hf => ?_)
  · refine x_aload_n G dX0_pullWalls_111 rfl rfl ?_
    refine x_getR G (kd1 M) 0 (b := 2) rfl cl0 rfl wf_X0_12 dX0_pullWalls_112 ?_
    refine x_getR G (kd2 M) 9 (b := 12) rfl cl2 rfl wf_X0_198 dX0_pullWalls_115 ?_
    refine x_iload G dX0_pullWalls_118 rfl ?_
    refine x_iconst G (v := 1) dX0_pullWalls_120 (by decide) ?_
    refine x_iast0 G (kd12 M) dX0_pullWalls_121 hb_1 ?_
    refine nwr hf (fun w_3 hf => ?_)
    refine x_aload_n G dX0_pullWalls_122 rfl rfl ?_
    refine x_getR G (kd1 M) 0 (b := 2) rfl cl0 rfl wf_X0_12 dX0_pullWalls_123 ?_
    refine x_getR G (kd2 M) 2 (b := 5) rfl cl2 rfl wf_X0_201 dX0_pullWalls_126 ?_
    refine x_iload G dX0_pullWalls_129 rfl ?_
    refine x_iald0 G (kd5 M) dX0_pullWalls_131 hb_1 ?_
    refine x_iload G dX0_pullWalls_132 rfl ?_
    refine x_imul G dX0_pullWalls_134 ?_
    refine x_istore G (lv' := [some (.ref 1), some (.int v1), none, some (.ref 106), some (.ref 100), some (.int v5), some (.int v6), some (.int v7), some (.int ((s0 / s1) - (ri w 6 v7))), some (.int ((ri w_3 5 v7) * ((s0 / s1) - (ri w 6 v7))))]) dX0_pullWalls_135 rfl rfl rfl ?_
    refine x_aload_n G dX0_pullWalls_137 rfl rfl ?_
    refine x_iconst G (v := 1) dX0_pullWalls_138 (by decide) ?_
    refine x_iload G dX0_pullWalls_139 rfl ?_
    refine x_aload_n G dX0_pullWalls_141 rfl rfl ?_
    refine x_aload G dX0_pullWalls_142 rfl ?_
    obtain ⟨v_4, hv_4, hf⟩ := bnd hf
    refine x_virI G (As := [.int (1 : Int32), .int v7, .ref 1, .ref 100]) (mX4_allow G.2.2.2.2.2.2.1 M hv_4) mv_X0_175 (kd106 M) cl4 rfl rfl rfl rfl rfl dX0_pullWalls_144 ?_
    refine x_ifeqB G (tgt := 164) dX0_pullWalls_147 (by decide) hf (fun c_5 hf => ?_) (fun c_5 hf => ?_)
    · refine x_aload_n G dX0_pullWalls_150 rfl rfl ?_
      refine x_dup G dX0_pullWalls_151 rfl ?_
      refine x_getI G (kd1 M) 11 rfl cl0 rfl wf_X0_64 dX0_pullWalls_152 ?_
      refine x_iload G dX0_pullWalls_155 rfl ?_
      refine x_iadd G dX0_pullWalls_157 ?_
      refine x_putI G (kd1 M) 11 rfl cl0 rfl wf_X0_64 rfl rfl rfl dX0_pullWalls_158 ?_
      refine nwr hf (fun w_6 hf => ?_)
      refine x_goto G (tgt := 175) dX0_pullWalls_161 (by decide) ?_
      refine x_iinc G (lv' := [some (.ref 1), some (.int v1), none, some (.ref 106), some (.ref 100), some (.int v5), some (.int (v6 + (1 : Int32))), some (.int v7), some (.int ((s0 / s1) - (ri w 6 v7))), some (.int ((ri w_3 5 v7) * ((s0 / s1) - (ri w 6 v7))))]) (v := 1) dX0_pullWalls_175 rfl (by decide) rfl rfl rfl ?_
      refine x_goto G (tgt := 18) dX0_pullWalls_178 (by decide) ?_
      exact XW.sub (lv' := [some (.ref 1), some (.int v1), none, some (.ref 106), some (.ref 100), some (.int v5), some (.int (v6 + (1 : Int32))), none, none, none]) (And.intro rfl (And.intro rfl (And.intro rfl (And.intro rfl (And.intro rfl (And.intro rfl trivial)))))) (hk18 _ _ _ _ hf)
    · refine x_aload_n G dX0_pullWalls_164 rfl rfl ?_
      refine x_dup G dX0_pullWalls_165 rfl ?_
      refine x_getI G (kd1 M) 12 rfl cl0 rfl wf_X0_67 dX0_pullWalls_166 ?_
      refine x_iload G dX0_pullWalls_169 rfl ?_
      refine x_iadd G dX0_pullWalls_171 ?_
      refine x_putI G (kd1 M) 12 rfl cl0 rfl wf_X0_67 rfl rfl rfl dX0_pullWalls_172 ?_
      refine nwr hf (fun w_7 hf => ?_)
      refine x_iinc G (lv' := [some (.ref 1), some (.int v1), none, some (.ref 106), some (.ref 100), some (.int v5), some (.int (v6 + (1 : Int32))), some (.int v7), some (.int ((s0 / s1) - (ri w 6 v7))), some (.int ((ri w_3 5 v7) * ((s0 / s1) - (ri w 6 v7))))]) (v := 1) dX0_pullWalls_175 rfl (by decide) rfl rfl rfl ?_
      refine x_goto G (tgt := 18) dX0_pullWalls_178 (by decide) ?_
      exact XW.sub (lv' := [some (.ref 1), some (.int v1), none, some (.ref 106), some (.ref 100), some (.int v5), some (.int (v6 + (1 : Int32))), none, none, none]) (And.intro rfl (And.intro rfl (And.intro rfl (And.intro rfl (And.intro rfl (And.intro rfl trivial)))))) (hk18 _ _ _ _ hf)
  · refine x_goto G (tgt := 175) dX0_pullWalls_108 (by decide) ?_
    refine x_iinc G (lv' := [some (.ref 1), some (.int v1), none, some (.ref 106), some (.ref 100), some (.int v5), some (.int (v6 + (1 : Int32))), some (.int v7), some (.int ((s0 / s1) - (ri w 6 v7))), none]) (v := 1) dX0_pullWalls_175 rfl (by decide) rfl rfl rfl ?_
    refine x_goto G (tgt := 18) dX0_pullWalls_178 (by decide) ?_
    exact XW.sub (lv' := [some (.ref 1), some (.int v1), none, some (.ref 106), some (.ref 100), some (.int v5), some (.int (v6 + (1 : Int32))), none, none, none]) (And.intro rfl (And.intro rfl (And.intro rfl (And.intro rfl (And.intro rfl (And.intro rfl trivial)))))) (hk18 _ _ _ _ hf)

set_option maxHeartbeats 4000000 in
set_option maxRecDepth 100000 in
theorem xX0_pullWalls_39 {K : KT} {v1 : Int32} {v5 : Int32} {v6 : Int32} {s0 : Int32} {w : Wd} {r : Wd} (G : GK K cX0_pullWalls RX0 10 6) (M : Main K.ks) (k18 : Int32 → Int32 → Int32 → Wd → Option Wd) (hk18 : ∀ (v1 : Int32) (v5 : Int32) (v6 : Int32) (w : Wd), k18 v1 v5 v6 w = some r → XW K 18 [some (.ref 1), some (.int v1), none, some (.ref 106), some (.ref 100), some (.int v5), some (.int v6), none, none, none] [] w) (hf : fX0_pullWalls_39 k18 v1 v5 v6 s0 w = some r) (hr : RV K r) : XW K 39 [some (.ref 1), some (.int v1), none, some (.ref 106), some (.ref 100), some (.int v5), some (.int v6), none, none, none] [.int s0] w := by
  unfold fX0_pullWalls_39 at hf
  refine x_istore G (lv' := [some (.ref 1), some (.int v1), none, some (.ref 106), some (.ref 100), some (.int v5), some (.int v6), some (.int s0), none, none]) dX0_pullWalls_39 rfl rfl rfl ?_
  refine x_iload G dX0_pullWalls_41 rfl ?_
  refine x_iconst G (v := -1) dX0_pullWalls_43 (by decide) ?_
  refine x_icmpeq G (tgt := 175) dX0_pullWalls_44 (by decide) hf (fun c_1 hf => ?_) (fun c_1 hf => ?_)
  · refine x_iinc G (lv' := [some (.ref 1), some (.int v1), none, some (.ref 106), some (.ref 100), some (.int v5), some (.int (v6 + (1 : Int32))), some (.int s0), none, none]) (v := 1) dX0_pullWalls_175 rfl (by decide) rfl rfl rfl ?_
    refine x_goto G (tgt := 18) dX0_pullWalls_178 (by decide) ?_
    exact XW.sub (lv' := [some (.ref 1), some (.int v1), none, some (.ref 106), some (.ref 100), some (.int v5), some (.int (v6 + (1 : Int32))), none, none, none]) (And.intro rfl (And.intro rfl (And.intro rfl (And.intro rfl (And.intro rfl (And.intro rfl trivial)))))) (hk18 _ _ _ _ hf)
  · refine x_aload_n G dX0_pullWalls_47 rfl rfl ?_
    refine x_getR G (kd1 M) 0 (b := 2) rfl cl0 rfl wf_X0_12 dX0_pullWalls_48 ?_
    refine x_getR G (kd2 M) 9 (b := 12) rfl cl2 rfl wf_X0_198 dX0_pullWalls_51 ?_
    refine x_iload G dX0_pullWalls_54 rfl ?_
    refine x_iald G (kd12 M) dX0_pullWalls_56 hf (fun hb_2 hf => ?_)
    refine x_iconst G (v := 1) dX0_pullWalls_57 (by decide) ?_
    refine x_icmpeq G (tgt := 175) dX0_pullWalls_58 (by decide) hf (fun c_3 hf => ?_) (fun c_3 hf => ?_)
    · refine x_iinc G (lv' := [some (.ref 1), some (.int v1), none, some (.ref 106), some (.ref 100), some (.int v5), some (.int (v6 + (1 : Int32))), some (.int s0), none, none]) (v := 1) dX0_pullWalls_175 rfl (by decide) rfl rfl rfl ?_
      refine x_goto G (tgt := 18) dX0_pullWalls_178 (by decide) ?_
      exact XW.sub (lv' := [some (.ref 1), some (.int v1), none, some (.ref 106), some (.ref 100), some (.int v5), some (.int (v6 + (1 : Int32))), none, none, none]) (And.intro rfl (And.intro rfl (And.intro rfl (And.intro rfl (And.intro rfl (And.intro rfl trivial)))))) (hk18 _ _ _ _ hf)
    · refine x_aload_n G dX0_pullWalls_61 rfl rfl ?_
      refine x_getR G (kd1 M) 0 (b := 2) rfl cl0 rfl wf_X0_12 dX0_pullWalls_62 ?_
      refine x_getR G (kd2 M) 2 (b := 5) rfl cl2 rfl wf_X0_201 dX0_pullWalls_65 ?_
      refine x_iload G dX0_pullWalls_68 rfl ?_
      refine x_iald0 G (kd5 M) dX0_pullWalls_70 hb_2 ?_
      refine x_ifne G (tgt := 77) dX0_pullWalls_71 (by decide) hf (fun c_4 hf => ?_) (fun c_4 hf => ?_)
      · refine x_goto G (tgt := 175) dX0_pullWalls_74 (by decide) ?_
        refine x_iinc G (lv' := [some (.ref 1), some (.int v1), none, some (.ref 106), some (.ref 100), some (.int v5), some (.int (v6 + (1 : Int32))), some (.int s0), none, none]) (v := 1) dX0_pullWalls_175 rfl (by decide) rfl rfl rfl ?_
        refine x_goto G (tgt := 18) dX0_pullWalls_178 (by decide) ?_
        exact XW.sub (lv' := [some (.ref 1), some (.int v1), none, some (.ref 106), some (.ref 100), some (.int v5), some (.int (v6 + (1 : Int32))), none, none, none]) (And.intro rfl (And.intro rfl (And.intro rfl (And.intro rfl (And.intro rfl (And.intro rfl trivial)))))) (hk18 _ _ _ _ hf)
      · refine x_iload G dX0_pullWalls_77 rfl ?_
        refine x_iload G dX0_pullWalls_79 rfl ?_
        refine x_ifge G (tgt := 88) dX0_pullWalls_81 (by decide) hf (fun c_5 hf => ?_) (fun c_5 hf => ?_)
        · refine x_iconst G (v := 2) dX0_pullWalls_84 (by decide) ?_
          refine x_goto G (tgt := 89) dX0_pullWalls_85 (by decide) ?_
          exact XW.sub (lv' := [some (.ref 1), some (.int v1), none, some (.ref 106), some (.ref 100), some (.int v5), some (.int v6), some (.int s0), none, none]) (And.intro rfl (And.intro rfl (And.intro rfl (And.intro rfl (And.intro rfl (And.intro rfl (And.intro rfl trivial))))))) (xX0_pullWalls_89 G M k18 hk18 hf hr)
        · refine x_iconst G (v := 4) dX0_pullWalls_88 (by decide) ?_
          exact XW.sub (lv' := [some (.ref 1), some (.int v1), none, some (.ref 106), some (.ref 100), some (.int v5), some (.int v6), some (.int s0), none, none]) (And.intro rfl (And.intro rfl (And.intro rfl (And.intro rfl (And.intro rfl (And.intro rfl (And.intro rfl trivial))))))) (xX0_pullWalls_89 G M k18 hk18 hf hr)

set_option maxHeartbeats 4000000 in
set_option maxRecDepth 100000 in
theorem xX0_pullWalls_18 {K : KT} {r : Wd} (G : GK K cX0_pullWalls RX0 10 6) (M : Main K.ks) (hr : RV K r) : ∀ (n : Nat) (v1 : Int32) (v5 : Int32) (v6 : Int32) (w : Wd), fX0_pullWalls_18 n v1 v5 v6 w = some r → XW K 18 [some (.ref 1), some (.int v1), none, some (.ref 106), some (.ref 100), some (.int v5), some (.int v6), none, none, none] [] w := by
  intro n
  induction n with
  | zero =>
    intro v1 v5 v6 w hf
    unfold fX0_pullWalls_18 at hf
    cases hf
  | succ n ih =>
    intro v1 v5 v6 w hf
    unfold fX0_pullWalls_18 at hf
    refine x_iload G dX0_pullWalls_18 rfl ?_
    refine x_iconst G (v := 4) dX0_pullWalls_20 (by decide) ?_
    refine x_icmpge G (tgt := 181) dX0_pullWalls_21 (by decide) hf (fun c_1 hf => ?_) (fun c_1 hf => ?_)
    · refine x_iload G dX0_pullWalls_24 rfl ?_
      refine x_ifge G (tgt := 33) dX0_pullWalls_26 (by decide) hf (fun c_2 hf => ?_) (fun c_2 hf => ?_)
      · refine x_iload_n G dX0_pullWalls_29 rfl rfl ?_
        refine x_goto G (tgt := 39) dX0_pullWalls_30 (by decide) ?_
        exact (xX0_pullWalls_39 G M (fX0_pullWalls_18 n) ih hf hr)
      · refine x_iload_n G dX0_pullWalls_33 rfl rfl ?_
        refine x_iload G dX0_pullWalls_34 rfl ?_
        obtain ⟨v_3, hv_3, hf⟩ := bnd hf
        refine x_nesI G (As := [.int v1, .int v6]) (mX11_beside G.2.2.2.2.2.2.1 M hv_3) mn_X0_142 rfl rfl rfl rfl rfl dX0_pullWalls_36 ?_
        exact (xX0_pullWalls_39 G M (fX0_pullWalls_18 n) ih hf hr)
    · exact x_vretW G hf hr dX0_pullWalls_181

set_option maxHeartbeats 4000000 in
set_option maxRecDepth 100000 in
theorem xX0_pullWalls_e {K : KT} {v1 : Int32} {v2 : Int32} {w : Wd} {r : Wd} (G : GK K cX0_pullWalls RX0 10 6) (M : Main K.ks) (hf : fX0_pullWalls v1 v2 w = some r) (hr : RV K r) : XW K 0 [some (.ref 1), some (.int v1), some (.int v2), some (.ref 106), some (.ref 100), none, none, none, none, none] [] w := by
  unfold fX0_pullWalls at hf
  refine x_iload_n G dX0_pullWalls_0 rfl rfl ?_
  refine x_iconst G (v := 1) dX0_pullWalls_1 (by decide) ?_
  refine x_aload_n G dX0_pullWalls_2 rfl rfl ?_
  refine x_getR G (kd1 M) 0 (b := 2) rfl cl0 rfl wf_X0_12 dX0_pullWalls_3 ?_
  refine x_getR G (kd2 M) 1 (b := 4) rfl cl2 rfl wf_X0_195 dX0_pullWalls_6 ?_
  refine x_iload_n G dX0_pullWalls_9 rfl rfl ?_
  refine x_iald G (kd4 M) dX0_pullWalls_10 hf (fun hb_1 hf => ?_)
  refine x_iadd G dX0_pullWalls_11 ?_
  refine x_imul G dX0_pullWalls_12 ?_
  refine x_istore G (lv' := [some (.ref 1), some (.int v1), some (.int v2), some (.ref 106), some (.ref 100), some (.int (v2 * ((1 : Int32) + (ri w 4 v1)))), none, none, none, none]) dX0_pullWalls_13 rfl rfl rfl ?_
  refine x_iconst G (v := -1) dX0_pullWalls_15 (by decide) ?_
  refine x_istore G (lv' := [some (.ref 1), some (.int v1), some (.int v2), some (.ref 106), some (.ref 100), some (.int (v2 * ((1 : Int32) + (ri w 4 v1)))), some (.int (-1 : Int32)), none, none, none]) dX0_pullWalls_16 rfl rfl rfl ?_
  exact XW.sub (lv' := [some (.ref 1), some (.int v1), none, some (.ref 106), some (.ref 100), some (.int (v2 * ((1 : Int32) + (ri w 4 v1)))), some (.int (-1 : Int32)), none, none, none]) (And.intro rfl (And.intro rfl (And.intro rfl (And.intro rfl (And.intro rfl (And.intro rfl trivial)))))) (xX0_pullWalls_18 G M hr FU _ _ _ _ hf)

theorem mX0_pullWalls {l : Launch} {S : KS} {w : Wd} (hI : Inj S) (M : Main S) {v1 : Int32} {v2 : Int32} {r : Wd} (hf : fX0_pullWalls v1 v2 w = some r) : CV l yX0_pullWalls cX0_pullWalls 10 none 6 S [.ref 1, .int v1, .int v2, .ref 106, .ref 100] w r := by
  intro sz
  refine mk_entry rfl (by decide +kernel) hI 5 rfl rfl (fun K h1 h2 h3 h4 h5 h6 G => ?_)
  subst h2
  exact xX0_pullWalls_e G M hf ⟨h3, by rw [h4, h6], h5⟩

set_option maxHeartbeats 4000000 in
set_option maxRecDepth 100000 in
theorem xX10_inDrain_e {K : KT} {v1 : Int32} {w : Wd} {r : Int64} (G : GK K cX10_inDrain RX10 2 1) (M : Main K.ks) (hf : fX10_inDrain v1 w = some r) (hr : RJ K .long r w) : XW K 0 [some (.ref 14), some (.int v1)] [] w := by
  unfold fX10_inDrain at hf
  refine x_aload_n G dX10_inDrain_0 rfl rfl ?_
  refine x_getR G (kd14 M) 0 (b := 15) rfl cl10 rfl wf_X10_9 dX10_inDrain_1 ?_
  refine x_iload_n G dX10_inDrain_4 rfl rfl ?_
  refine x_iald G (kd15 M) dX10_inDrain_5 hf (fun hb_1 hf => ?_)
  refine x_i2l G dX10_inDrain_6 ?_
  refine x_aload_n G dX10_inDrain_7 rfl rfl ?_
  refine x_getR G (kd14 M) 1 (b := 16) rfl cl10 rfl wf_X10_15 dX10_inDrain_8 ?_
  refine x_iload_n G dX10_inDrain_11 rfl rfl ?_
  refine x_iald0 G (kd16 M) dX10_inDrain_12 hb_1 ?_
  refine x_i2l G dX10_inDrain_13 ?_
  refine x_ladd G dX10_inDrain_14 ?_
  exact x_lretP G hf hr dX10_inDrain_15

theorem mX10_inDrain {l : Launch} {S : KS} {w : Wd} (hI : Inj S) (M : Main S) {v1 : Int32} {r : Int64} (hf : fX10_inDrain v1 w = some r) : CJ l yX10_inDrain cX10_inDrain 2 (some .long) 1 S [.ref 14, .int v1] w r w := by
  intro sz
  refine mk_entry rfl (by decide +kernel) hI 0 rfl rfl (fun K h1 h2 h3 h4 h5 h6 G => ?_)
  subst h2
  exact xX10_inDrain_e G M hf ⟨h3, by rw [h4, h6], h5⟩

set_option maxHeartbeats 4000000 in
set_option maxRecDepth 100000 in
theorem xX0_doDaysWork_246 {K : KT} {v3 : Int32} {v4 : Nat} {s0 : Nat} {s1 : Int32} {s2 : Int32} {w : Wd} {r : Wd} (G : GK K cX0_doDaysWork RX0 8 7) (M : Main K.ks) (k15 : Int32 → Wd → Option Wd) (hk15 : ∀ (v3 : Int32) (w : Wd), k15 v3 w = some r → XW K 15 [some (.ref 1), some (.ref 106), some (.ref 100), some (.int v3), none, none, none, none] [] w) (hv4 : IsLine K.ks v4) (hs0 : KD K.ks s0 (.inr (0, 19, nt))) (hf : fX0_doDaysWork_246 k15 v3 v4 s0 s1 s2 w = some r) (hr : RV K r) : XW K 246 [some (.ref 1), some (.ref 106), some (.ref 100), some (.int v3), some (.ref v4), none, none, none] [.int s2, .int s1, .ref s0] w := by
  unfold fX0_doDaysWork_246 at hf
  refine x_iast G hs0 dX0_doDaysWork_246 hf (fun hb_1 hf => ?_)
  refine nwr hf (fun w_2 hf => ?_)
  refine x_aload G dX0_doDaysWork_247 rfl ?_
  refine x_dup G dX0_doDaysWork_249 rfl ?_
  refine x_getI G hv4.1 4 rfl cl5 rfl wf_X0_115 dX0_doDaysWork_250 ?_
  refine x_iconst G (v := 1) dX0_doDaysWork_253 (by decide) ?_
  refine x_isub G dX0_doDaysWork_254 ?_
  refine x_putI G hv4.1 4 rfl cl5 rfl wf_X0_115 rfl rfl rfl dX0_doDaysWork_255 ?_
  refine nwr hf (fun w_3 hf => ?_)
  refine x_goto G (tgt := 275) dX0_doDaysWork_258 (by decide) ?_
  refine x_iinc G (lv' := [some (.ref 1), some (.ref 106), some (.ref 100), some (.int (v3 + (1 : Int32))), some (.ref v4), none, none, none]) (v := 1) dX0_doDaysWork_275 rfl (by decide) rfl rfl rfl ?_
  refine x_goto G (tgt := 15) dX0_doDaysWork_278 (by decide) ?_
  exact XW.sub (lv' := [some (.ref 1), some (.ref 106), some (.ref 100), some (.int (v3 + (1 : Int32))), none, none, none, none]) (And.intro rfl (And.intro rfl (And.intro rfl (And.intro rfl trivial)))) (hk15 _ _ hf)

set_option maxHeartbeats 4000000 in
set_option maxRecDepth 100000 in
theorem xX0_doDaysWork_15 {K : KT} {r : Wd} (G : GK K cX0_doDaysWork RX0 8 7) (M : Main K.ks) (hr : RV K r) : ∀ (n : Nat) (v3 : Int32) (w : Wd), fX0_doDaysWork_15 n v3 w = some r → XW K 15 [some (.ref 1), some (.ref 106), some (.ref 100), some (.int v3), none, none, none, none] [] w := by
  intro n
  induction n with
  | zero =>
    intro v3 w hf
    unfold fX0_doDaysWork_15 at hf
    cases hf
  | succ n ih =>
    intro v3 w hf
    unfold fX0_doDaysWork_15 at hf
    refine x_iload_n G dX0_doDaysWork_15 rfl rfl ?_
    refine x_aload_n G dX0_doDaysWork_16 rfl rfl ?_
    refine x_getI G (kd1 M) 5 rfl cl0 rfl wf_X0_45 dX0_doDaysWork_17 ?_
    refine x_icmpge G (tgt := 281) dX0_doDaysWork_20 (by decide) hf (fun c_1 hf => ?_) (fun c_1 hf => ?_)
    · refine x_aload_n G dX0_doDaysWork_23 rfl rfl ?_
      refine x_getR G (kd1 M) 4 (b := 35) rfl cl0 rfl wf_X0_41 dX0_doDaysWork_24 ?_
      refine x_iload_n G dX0_doDaysWork_27 rfl rfl ?_
      refine x_aald G (kd35 M) (kn := 0) (by decide) dX0_doDaysWork_28 hf (fun hb_2 hf => ?_)
      refine x_astore G (lv' := [some (.ref 1), some (.ref 106), some (.ref 100), some (.int v3), some (.ref (36 + 7 * (v3).toNatClampNeg)), none, none, none]) dX0_doDaysWork_29 rfl rfl rfl ?_
      refine x_aload G dX0_doDaysWork_31 rfl ?_
      obtain ⟨v_3, hv_3, hf⟩ := bnd hf
      refine x_virI G (As := []) (mX5_inWork G.2.2.2.2.2.2.1 M (lineOkM M hb_2) hv_3) mv_X0_136 (lineOkM M hb_2).1 cl5 rfl rfl rfl rfl rfl dX0_doDaysWork_33 ?_
      refine x_istore G (lv' := [some (.ref 1), some (.ref 106), some (.ref 100), some (.int v3), some (.ref (36 + 7 * (v3).toNatClampNeg)), some (.int v_3), none, none]) dX0_doDaysWork_36 rfl rfl rfl ?_
      refine x_aload G dX0_doDaysWork_38 rfl ?_
      refine x_getI G (lineOkM M hb_2).1 2 rfl cl5 rfl wf_X0_139 dX0_doDaysWork_40 ?_
      refine x_ifeq G (tgt := 275) dX0_doDaysWork_43 (by decide) hf (fun c_4 hf => ?_) (fun c_4 hf => ?_)
      · refine x_iinc G (lv' := [some (.ref 1), some (.ref 106), some (.ref 100), some (.int (v3 + (1 : Int32))), some (.ref (36 + 7 * (v3).toNatClampNeg)), some (.int v_3), none, none]) (v := 1) dX0_doDaysWork_275 rfl (by decide) rfl rfl rfl ?_
        refine x_goto G (tgt := 15) dX0_doDaysWork_278 (by decide) ?_
        exact XW.sub (lv' := [some (.ref 1), some (.ref 106), some (.ref 100), some (.int (v3 + (1 : Int32))), none, none, none, none]) (And.intro rfl (And.intro rfl (And.intro rfl (And.intro rfl trivial)))) (ih _ _ hf)
      · refine x_iload G dX0_doDaysWork_46 rfl ?_
        refine x_ifge G (tgt := 54) dX0_doDaysWork_48 (by decide) hf (fun c_5 hf => ?_) (fun c_5 hf => ?_)
        · refine x_goto G (tgt := 275) dX0_doDaysWork_51 (by decide) ?_
          refine x_iinc G (lv' := [some (.ref 1), some (.ref 106), some (.ref 100), some (.int (v3 + (1 : Int32))), some (.ref (36 + 7 * (v3).toNatClampNeg)), some (.int v_3), none, none]) (v := 1) dX0_doDaysWork_275 rfl (by decide) rfl rfl rfl ?_
          refine x_goto G (tgt := 15) dX0_doDaysWork_278 (by decide) ?_
          exact XW.sub (lv' := [some (.ref 1), some (.ref 106), some (.ref 100), some (.int (v3 + (1 : Int32))), none, none, none, none]) (And.intro rfl (And.intro rfl (And.intro rfl (And.intro rfl trivial)))) (ih _ _ hf)
        · refine x_aload G dX0_doDaysWork_54 rfl ?_
          refine x_getR G (lineOkM M hb_2).1 5 (b := ((36 + 7 * (v3).toNatClampNeg) + 1)) rfl cl5 rfl wf_X0_99 dX0_doDaysWork_56 ?_
          refine x_iload G dX0_doDaysWork_59 rfl ?_
          refine x_iald G (lineOkM M hb_2).2.1 dX0_doDaysWork_61 hf (fun hb_6 hf => ?_)
          refine x_istore G (lv' := [some (.ref 1), some (.ref 106), some (.ref 100), some (.int v3), some (.ref (36 + 7 * (v3).toNatClampNeg)), some (.int v_3), some (.int (ri w ((36 + 7 * (v3).toNatClampNeg) + 1) v_3)), none]) dX0_doDaysWork_62 rfl rfl rfl ?_
          refine x_aload_n G dX0_doDaysWork_64 rfl rfl ?_
          refine x_getR G (kd1 M) 0 (b := 2) rfl cl0 rfl wf_X0_12 dX0_doDaysWork_65 ?_
          refine x_iload G dX0_doDaysWork_68 rfl ?_
          refine x_aload G dX0_doDaysWork_70 rfl ?_
          refine x_getR G (lineOkM M hb_2).1 6 (b := ((36 + 7 * (v3).toNatClampNeg) + 2)) rfl cl5 rfl wf_X0_102 dX0_doDaysWork_72 ?_
          refine x_iload G dX0_doDaysWork_75 rfl ?_
          refine x_iald0 G (lineOkM M hb_2).2.2.1 dX0_doDaysWork_77 hb_6 ?_
          obtain ⟨v_7, hv_7, hf⟩ := bnd hf
          refine x_virI G (As := [.int (ri w ((36 + 7 * (v3).toNatClampNeg) + 1) v_3), .int (ri w ((36 + 7 * (v3).toNatClampNeg) + 2) v_3)]) (mX2_digAt G.2.2.2.2.2.2.1 M hv_7) mv_X0_108 (kd2 M) cl2 rfl rfl rfl rfl rfl dX0_doDaysWork_78 ?_
          refine x_istore G (lv' := [some (.ref 1), some (.ref 106), some (.ref 100), some (.int v3), some (.ref (36 + 7 * (v3).toNatClampNeg)), some (.int v_3), some (.int (ri w ((36 + 7 * (v3).toNatClampNeg) + 1) v_3)), some (.int v_7)]) dX0_doDaysWork_81 rfl rfl rfl ?_
          refine x_aload_n G dX0_doDaysWork_83 rfl rfl ?_
          refine x_iconst G (v := 0) dX0_doDaysWork_84 (by decide) ?_
          refine x_iload G dX0_doDaysWork_85 rfl ?_
          refine x_aload_n G dX0_doDaysWork_87 rfl rfl ?_
          refine x_aload_n G dX0_doDaysWork_88 rfl rfl ?_
          obtain ⟨v_8, hv_8, hf⟩ := bnd hf
          refine x_virI G (As := [.int (0 : Int32), .int (ri w ((36 + 7 * (v3).toNatClampNeg) + 1) v_3), .ref 1, .ref 100]) (mX4_allow G.2.2.2.2.2.2.1 M hv_8) mv_X0_175 (kd106 M) cl4 rfl rfl rfl rfl rfl dX0_doDaysWork_89 ?_
          refine x_ifneB G (tgt := 112) dX0_doDaysWork_92 (by decide) hf (fun c_9 hf => ?_) (fun c_9 hf => ?_)
          · refine x_aload G dX0_doDaysWork_112 rfl ?_
            refine x_getR G (lineOkM M hb_2).1 7 (b := ((36 + 7 * (v3).toNatClampNeg) + 3)) rfl cl5 rfl wf_X0_181 dX0_doDaysWork_114 ?_
            refine x_iload G dX0_doDaysWork_117 rfl ?_
            refine x_iald0 G (lineOkM M hb_2).2.2.2.1 dX0_doDaysWork_119 hb_6 ?_
            refine x_iload G dX0_doDaysWork_120 rfl ?_
            refine x_icmpge G (tgt := 176) dX0_doDaysWork_122 (by decide) hf (fun c_10 hf => ?_) (fun c_10 hf => ?_)
            · refine x_aload G dX0_doDaysWork_125 rfl ?_
              refine x_getR G (lineOkM M hb_2).1 7 (b := ((36 + 7 * (v3).toNatClampNeg) + 3)) rfl cl5 rfl wf_X0_181 dX0_doDaysWork_127 ?_
              refine x_iload G dX0_doDaysWork_130 rfl ?_
              refine x_dup2 G dX0_doDaysWork_132 rfl rfl ?_
              refine x_iald0 G (lineOkM M hb_2).2.2.2.1 dX0_doDaysWork_133 hb_6 ?_
              refine x_bipush G (v := 40) dX0_doDaysWork_134 (by decide) ?_
              refine x_aload G dX0_doDaysWork_136 rfl ?_
              refine x_getI G (lineOkM M hb_2).1 2 rfl cl5 rfl wf_X0_139 dX0_doDaysWork_138 ?_
              refine x_imul G dX0_doDaysWork_141 ?_
              refine x_iadd G dX0_doDaysWork_142 ?_
              refine x_iast0 G (lineOkM M hb_2).2.2.2.1 dX0_doDaysWork_143 hb_6 ?_
              refine nwr hf (fun w_11 hf => ?_)
              refine x_aload G dX0_doDaysWork_144 rfl ?_
              refine x_getR G (lineOkM M hb_2).1 7 (b := ((36 + 7 * (v3).toNatClampNeg) + 3)) rfl cl5 rfl wf_X0_181 dX0_doDaysWork_146 ?_
              refine x_iload G dX0_doDaysWork_149 rfl ?_
              refine x_iald0 G (lineOkM M hb_2).2.2.2.1 dX0_doDaysWork_151 hb_6 ?_
              refine x_iload G dX0_doDaysWork_152 rfl ?_
              refine x_icmplt G (tgt := 275) dX0_doDaysWork_154 (by decide) hf (fun c_12 hf => ?_) (fun c_12 hf => ?_)
              · refine x_iinc G (lv' := [some (.ref 1), some (.ref 106), some (.ref 100), some (.int (v3 + (1 : Int32))), some (.ref (36 + 7 * (v3).toNatClampNeg)), some (.int v_3), some (.int (ri w ((36 + 7 * (v3).toNatClampNeg) + 1) v_3)), some (.int v_7)]) (v := 1) dX0_doDaysWork_275 rfl (by decide) rfl rfl rfl ?_
                refine x_goto G (tgt := 15) dX0_doDaysWork_278 (by decide) ?_
                exact XW.sub (lv' := [some (.ref 1), some (.ref 106), some (.ref 100), some (.int (v3 + (1 : Int32))), none, none, none, none]) (And.intro rfl (And.intro rfl (And.intro rfl (And.intro rfl trivial)))) (ih _ _ hf)
              · refine x_aload_n G dX0_doDaysWork_157 rfl rfl ?_
                refine x_iload G dX0_doDaysWork_158 rfl ?_
                refine x_aload_n G dX0_doDaysWork_160 rfl rfl ?_
                refine x_aload G dX0_doDaysWork_161 rfl ?_
                refine x_iload G dX0_doDaysWork_163 rfl ?_
                obtain ⟨v_13, hv_13, hf⟩ := bnd hf
                refine x_virI G (As := [.ref (36 + 7 * (v3).toNatClampNeg), .int v_3]) (mX0_depthOn G.2.2.2.2.2.2.1 M (lineOkM M hb_2) hv_13) mv_X0_128 (kd1 M) cl0 rfl rfl rfl rfl rfl dX0_doDaysWork_165 ?_
                refine x_aload_n G dX0_doDaysWork_168 rfl rfl ?_
                refine x_aload_n G dX0_doDaysWork_169 rfl rfl ?_
                obtain ⟨v_14, hv_14, hf⟩ := bnd hf
                refine x_virV G (As := [.int (ri w ((36 + 7 * (v3).toNatClampNeg) + 1) v_3), .int v_13, .ref 106, .ref 100]) (mX0_pullWalls G.2.2.2.2.2.2.1 M hv_14) mv_X0_184 (kd1 M) cl0 rfl rfl rfl rfl rfl dX0_doDaysWork_170 ?_
                refine x_goto G (tgt := 275) dX0_doDaysWork_173 (by decide) ?_
                refine x_iinc G (lv' := [some (.ref 1), some (.ref 106), some (.ref 100), some (.int (v3 + (1 : Int32))), some (.ref (36 + 7 * (v3).toNatClampNeg)), some (.int v_3), some (.int (ri w ((36 + 7 * (v3).toNatClampNeg) + 1) v_3)), some (.int v_7)]) (v := 1) dX0_doDaysWork_275 rfl (by decide) rfl rfl rfl ?_
                refine x_goto G (tgt := 15) dX0_doDaysWork_278 (by decide) ?_
                exact XW.sub (lv' := [some (.ref 1), some (.ref 106), some (.ref 100), some (.int (v3 + (1 : Int32))), none, none, none, none]) (And.intro rfl (And.intro rfl (And.intro rfl (And.intro rfl trivial)))) (ih _ _ hf)
            · refine x_aload_n G dX0_doDaysWork_176 rfl rfl ?_
              refine x_getI G (kd1 M) 7 rfl cl0 rfl wf_X0_52 dX0_doDaysWork_177 ?_
              refine x_bipush G (v := 100) dX0_doDaysWork_180 (by decide) ?_
              refine x_aload G dX0_doDaysWork_182 rfl ?_
              refine x_getI G (lineOkM M hb_2).1 0 rfl cl5 rfl wf_X0_112 dX0_doDaysWork_184 ?_
              refine x_imul G dX0_doDaysWork_187 ?_
              refine x_icmplt G (tgt := 261) dX0_doDaysWork_188 (by decide) hf (fun c_15 hf => ?_) (fun c_15 hf => ?_)
              · refine x_aload_n G dX0_doDaysWork_261 rfl rfl ?_
                refine x_dup G dX0_doDaysWork_262 rfl ?_
                refine x_getI G (kd1 M) 10 rfl cl0 rfl wf_X0_61 dX0_doDaysWork_263 ?_
                refine x_aload G dX0_doDaysWork_266 rfl ?_
                refine x_getI G (lineOkM M hb_2).1 2 rfl cl5 rfl wf_X0_139 dX0_doDaysWork_268 ?_
                refine x_iadd G dX0_doDaysWork_271 ?_
                refine x_putI G (kd1 M) 10 rfl cl0 rfl wf_X0_61 rfl rfl rfl dX0_doDaysWork_272 ?_
                refine nwr hf (fun w_16 hf => ?_)
                refine x_iinc G (lv' := [some (.ref 1), some (.ref 106), some (.ref 100), some (.int (v3 + (1 : Int32))), some (.ref (36 + 7 * (v3).toNatClampNeg)), some (.int v_3), some (.int (ri w ((36 + 7 * (v3).toNatClampNeg) + 1) v_3)), some (.int v_7)]) (v := 1) dX0_doDaysWork_275 rfl (by decide) rfl rfl rfl ?_
                refine x_goto G (tgt := 15) dX0_doDaysWork_278 (by decide) ?_
                exact XW.sub (lv' := [some (.ref 1), some (.ref 106), some (.ref 100), some (.int (v3 + (1 : Int32))), none, none, none, none]) (And.intro rfl (And.intro rfl (And.intro rfl (And.intro rfl trivial)))) (ih _ _ hf)
              · refine x_aload_n G dX0_doDaysWork_191 rfl rfl ?_
                refine x_dup G dX0_doDaysWork_192 rfl ?_
                refine x_getI G (kd1 M) 7 rfl cl0 rfl wf_X0_52 dX0_doDaysWork_193 ?_
                refine x_bipush G (v := 100) dX0_doDaysWork_196 (by decide) ?_
                refine x_aload G dX0_doDaysWork_198 rfl ?_
                refine x_getI G (lineOkM M hb_2).1 0 rfl cl5 rfl wf_X0_112 dX0_doDaysWork_200 ?_
                refine x_imul G dX0_doDaysWork_203 ?_
                refine x_isub G dX0_doDaysWork_204 ?_
                refine x_putI G (kd1 M) 7 rfl cl0 rfl wf_X0_52 rfl rfl rfl dX0_doDaysWork_205 ?_
                refine nwr hf (fun w_17 hf => ?_)
                refine x_aload G dX0_doDaysWork_208 rfl ?_
                refine x_getR G (lineOkM M hb_2).1 8 (b := ((36 + 7 * (v3).toNatClampNeg) + 4)) rfl cl5 rfl wf_X0_122 dX0_doDaysWork_210 ?_
                refine x_iload G dX0_doDaysWork_213 rfl ?_
                refine x_aload_n G dX0_doDaysWork_215 rfl rfl ?_
                obtain ⟨v_18, hv_18, hf⟩ := bnd hf
                refine x_virI G (As := []) (mX0_today G.2.2.2.2.2.2.1 M hv_18) mv_X0_118 (kd1 M) cl0 rfl rfl rfl rfl rfl dX0_doDaysWork_216 ?_
                refine x_iast0 G (lineOkM M hb_2).2.2.2.2.1 dX0_doDaysWork_219 hb_6 ?_
                refine nwr hf (fun w_19 hf => ?_)
                refine x_aload G dX0_doDaysWork_220 rfl ?_
                refine x_getR G (lineOkM M hb_2).1 9 (b := ((36 + 7 * (v3).toNatClampNeg) + 5)) rfl cl5 rfl wf_X0_188 dX0_doDaysWork_222 ?_
                refine x_iload G dX0_doDaysWork_225 rfl ?_
                refine x_aload_n G dX0_doDaysWork_227 rfl rfl ?_
                refine x_getR G (kd1 M) 1 (b := 14) rfl cl0 rfl wf_X0_21 dX0_doDaysWork_228 ?_
                refine x_iload G dX0_doDaysWork_231 rfl ?_
                obtain ⟨v_20, hv_20, hf⟩ := bnd hf
                refine x_virJ G (As := [.int (ri w ((36 + 7 * (v3).toNatClampNeg) + 1) v_3)]) (mX10_inDrain G.2.2.2.2.2.2.1 M hv_20) mv_X0_191 (kd14 M) cl10 rfl rfl rfl rfl rfl dX0_doDaysWork_233 ?_
                refine x_lconst G (v := 0) dX0_doDaysWork_236 (by decide) ?_
                refine x_lcmp G dX0_doDaysWork_237 ?_
                refine x_cle G (tgt := 245) dX0_doDaysWork_238 (by decide) hf (fun c_21 hf => ?_) (fun c_21 hf => ?_)
                · refine x_iconst G (v := 1) dX0_doDaysWork_241 (by decide) ?_
                  refine x_goto G (tgt := 246) dX0_doDaysWork_242 (by decide) ?_
                  exact XW.sub (lv' := [some (.ref 1), some (.ref 106), some (.ref 100), some (.int v3), some (.ref (36 + 7 * (v3).toNatClampNeg)), none, none, none]) (And.intro rfl (And.intro rfl (And.intro rfl (And.intro rfl (And.intro rfl trivial))))) (xX0_doDaysWork_246 G M (fX0_doDaysWork_15 n) ih (lineOkM M hb_2) ((lineOkM M hb_2).2.2.2.2.2.1) hf hr)
                · refine x_iconst G (v := 0) dX0_doDaysWork_245 (by decide) ?_
                  exact XW.sub (lv' := [some (.ref 1), some (.ref 106), some (.ref 100), some (.int v3), some (.ref (36 + 7 * (v3).toNatClampNeg)), none, none, none]) (And.intro rfl (And.intro rfl (And.intro rfl (And.intro rfl (And.intro rfl trivial))))) (xX0_doDaysWork_246 G M (fX0_doDaysWork_15 n) ih (lineOkM M hb_2) ((lineOkM M hb_2).2.2.2.2.2.1) hf hr)
          · refine x_aload_n G dX0_doDaysWork_95 rfl rfl ?_
            refine x_dup G dX0_doDaysWork_96 rfl ?_
            refine x_getI G (kd1 M) 10 rfl cl0 rfl wf_X0_61 dX0_doDaysWork_97 ?_
            refine x_aload G dX0_doDaysWork_100 rfl ?_
            refine x_getI G (lineOkM M hb_2).1 2 rfl cl5 rfl wf_X0_139 dX0_doDaysWork_102 ?_
            refine x_iadd G dX0_doDaysWork_105 ?_
            refine x_putI G (kd1 M) 10 rfl cl0 rfl wf_X0_61 rfl rfl rfl dX0_doDaysWork_106 ?_
            refine nwr hf (fun w_22 hf => ?_)
            refine x_goto G (tgt := 275) dX0_doDaysWork_109 (by decide) ?_
            refine x_iinc G (lv' := [some (.ref 1), some (.ref 106), some (.ref 100), some (.int (v3 + (1 : Int32))), some (.ref (36 + 7 * (v3).toNatClampNeg)), some (.int v_3), some (.int (ri w ((36 + 7 * (v3).toNatClampNeg) + 1) v_3)), some (.int v_7)]) (v := 1) dX0_doDaysWork_275 rfl (by decide) rfl rfl rfl ?_
            refine x_goto G (tgt := 15) dX0_doDaysWork_278 (by decide) ?_
            exact XW.sub (lv' := [some (.ref 1), some (.ref 106), some (.ref 100), some (.int (v3 + (1 : Int32))), none, none, none, none]) (And.intro rfl (And.intro rfl (And.intro rfl (And.intro rfl trivial)))) (ih _ _ hf)
    · exact x_vretW G hf hr dX0_doDaysWork_281

set_option maxHeartbeats 4000000 in
set_option maxRecDepth 100000 in
theorem xX0_doDaysWork_e {K : KT} {w : Wd} {r : Wd} (G : GK K cX0_doDaysWork RX0 8 7) (M : Main K.ks) (hf : fX0_doDaysWork w = some r) (hr : RV K r) : XW K 0 [some (.ref 1), some (.ref 106), some (.ref 100), none, none, none, none, none] [] w := by
  unfold fX0_doDaysWork at hf
  refine x_aload_n G dX0_doDaysWork_0 rfl rfl ?_
  refine x_dup G dX0_doDaysWork_1 rfl ?_
  refine x_getI G (kd1 M) 7 rfl cl0 rfl wf_X0_52 dX0_doDaysWork_2 ?_
  refine x_aload_n G dX0_doDaysWork_5 rfl rfl ?_
  refine x_getI G (kd1 M) 8 rfl cl0 rfl wf_X0_55 dX0_doDaysWork_6 ?_
  refine x_iadd G dX0_doDaysWork_9 ?_
  refine x_putI G (kd1 M) 7 rfl cl0 rfl wf_X0_52 rfl rfl rfl dX0_doDaysWork_10 ?_
  refine nwr hf (fun w_1 hf => ?_)
  refine x_iconst G (v := 0) dX0_doDaysWork_13 (by decide) ?_
  refine x_istore_n G (lv' := [some (.ref 1), some (.ref 106), some (.ref 100), some (.int (0 : Int32)), none, none, none, none]) dX0_doDaysWork_14 rfl rfl rfl rfl ?_
  exact XW.sub (lv' := [some (.ref 1), some (.ref 106), some (.ref 100), some (.int (0 : Int32)), none, none, none, none]) (And.intro rfl (And.intro rfl (And.intro rfl (And.intro rfl trivial)))) (xX0_doDaysWork_15 G M hr FU _ _ hf)

theorem mX0_doDaysWork {l : Launch} {S : KS} {w : Wd} (hI : Inj S) (M : Main S) {r : Wd} (hf : fX0_doDaysWork w = some r) : CV l yX0_doDaysWork cX0_doDaysWork 8 none 7 S [.ref 1, .ref 106, .ref 100] w r := by
  intro sz
  refine mk_entry rfl (by decide +kernel) hI 5 rfl rfl (fun K h1 h2 h3 h4 h5 h6 G => ?_)
  subst h2
  exact xX0_doDaysWork_e G M hf ⟨h3, by rw [h4, h6], h5⟩

set_option maxHeartbeats 4000000 in
set_option maxRecDepth 100000 in
theorem xX11_sumOf_10 {K : KT} {n0 : Nat} {w : Wd} {r : Int32} (G : GK K cX11_sumOf RX11 6 1) (M : Main K.ks) (hr : RI K .int r w) : ∀ (n : Nat) (v1 : Int32) (v2 : Nat) (v3 : Int32) (v4 : Int32), KD K.ks v2 (.inr (0, n0, nt)) → fX11_sumOf_10 n0 w n v1 v2 v3 v4 = some r → XW K 10 [none, some (.int v1), some (.ref v2), some (.int v3), some (.int v4), none] [] w := by
  intro n
  induction n with
  | zero =>
    intro v1 v2 v3 v4 hv2 hf
    unfold fX11_sumOf_10 at hf
    cases hf
  | succ n ih =>
    intro v1 v2 v3 v4 hv2 hf
    unfold fX11_sumOf_10 at hf
    refine x_iload G dX11_sumOf_10 rfl ?_
    refine x_iload_n G dX11_sumOf_12 rfl rfl ?_
    refine x_icmpge G (tgt := 33) dX11_sumOf_13 (by decide) hf (fun c_1 hf => ?_) (fun c_1 hf => ?_)
    · refine x_aload_n G dX11_sumOf_16 rfl rfl ?_
      refine x_iload G dX11_sumOf_17 rfl ?_
      refine x_iald G hv2 dX11_sumOf_19 hf (fun hb_2 hf => ?_)
      refine x_istore G (lv' := [none, some (.int v1), some (.ref v2), some (.int v3), some (.int v4), some (.int (ri w v2 v4))]) dX11_sumOf_20 rfl rfl rfl ?_
      refine x_iload_n G dX11_sumOf_22 rfl rfl ?_
      refine x_iload G dX11_sumOf_23 rfl ?_
      refine x_iadd G dX11_sumOf_25 ?_
      refine x_istore_n G (lv' := [none, some (.int (v1 + (ri w v2 v4))), some (.ref v2), some (.int v3), some (.int v4), some (.int (ri w v2 v4))]) dX11_sumOf_26 rfl rfl rfl rfl ?_
      refine x_iinc G (lv' := [none, some (.int (v1 + (ri w v2 v4))), some (.ref v2), some (.int v3), some (.int (v4 + (1 : Int32))), some (.int (ri w v2 v4))]) (v := 1) dX11_sumOf_27 rfl (by decide) rfl rfl rfl ?_
      refine x_goto G (tgt := 10) dX11_sumOf_30 (by decide) ?_
      exact XW.sub (lv' := [none, some (.int (v1 + (ri w v2 v4))), some (.ref v2), some (.int v3), some (.int (v4 + (1 : Int32))), none]) (And.intro rfl (And.intro rfl (And.intro rfl (And.intro rfl trivial)))) (ih _ _ _ _ hv2 hf)
    · refine x_iload_n G dX11_sumOf_33 rfl rfl ?_
      exact x_iretP G hf hr dX11_sumOf_34

set_option maxHeartbeats 4000000 in
set_option maxRecDepth 100000 in
theorem xX11_sumOf_e {K : KT} {v0 : Nat} {n0 : Nat} {w : Wd} {r : Int32} (G : GK K cX11_sumOf RX11 6 1) (M : Main K.ks) (hv0 : KD K.ks v0 (.inr (0, n0, nt))) (hf : fX11_sumOf v0 n0 w = some r) (hr : RI K .int r w) : XW K 0 [some (.ref v0), none, none, none, none, none] [] w := by
  unfold fX11_sumOf at hf
  refine x_iconst G (v := 0) dX11_sumOf_0 (by decide) ?_
  refine x_istore_n G (lv' := [some (.ref v0), some (.int (0 : Int32)), none, none, none, none]) dX11_sumOf_1 rfl rfl rfl rfl ?_
  refine x_aload_n G dX11_sumOf_2 rfl rfl ?_
  refine x_astore_n G (lv' := [some (.ref v0), some (.int (0 : Int32)), some (.ref v0), none, none, none]) dX11_sumOf_3 rfl rfl rfl rfl ?_
  refine x_aload_n G dX11_sumOf_4 rfl rfl ?_
  refine x_alenI G hv0 dX11_sumOf_5 rfl ?_
  refine x_istore_n G (lv' := [some (.ref v0), some (.int (0 : Int32)), some (.ref v0), some (.int (Int32.ofNat n0)), none, none]) dX11_sumOf_6 rfl rfl rfl rfl ?_
  refine x_iconst G (v := 0) dX11_sumOf_7 (by decide) ?_
  refine x_istore G (lv' := [some (.ref v0), some (.int (0 : Int32)), some (.ref v0), some (.int (Int32.ofNat n0)), some (.int (0 : Int32)), none]) dX11_sumOf_8 rfl rfl rfl ?_
  exact XW.sub (lv' := [none, some (.int (0 : Int32)), some (.ref v0), some (.int (Int32.ofNat n0)), some (.int (0 : Int32)), none]) (And.intro rfl (And.intro rfl (And.intro rfl (And.intro rfl trivial)))) (xX11_sumOf_10 G M hr FU _ _ _ _ hv0 hf)

theorem mX11_sumOf {l : Launch} {S : KS} {w : Wd} (hI : Inj S) (M : Main S) {v0 : Nat} {n0 : Nat} (hv0 : KD S v0 (.inr (0, n0, nt))) {r : Int32} (hf : fX11_sumOf v0 n0 w = some r) : CI l yX11_sumOf cX11_sumOf 6 (some .int) 1 S [.ref v0] w r w := by
  intro sz
  refine mk_entry rfl (by decide +kernel) hI 5 rfl rfl (fun K h1 h2 h3 h4 h5 h6 G => ?_)
  subst h2
  exact xX11_sumOf_e G M hv0 hf ⟨h3, by rw [h4, h6], h5⟩

set_option maxHeartbeats 4000000 in
set_option maxRecDepth 100000 in
theorem xX0_foulInAll_e {K : KT} {w : Wd} {r : Int32} (G : GK K cX0_foulInAll RX0 1 2) (M : Main K.ks) (hf : fX0_foulInAll w = some r) (hr : RI K .int r w) : XW K 0 [some (.ref 1)] [] w := by
  unfold fX0_foulInAll at hf
  refine x_aload_n G dX0_foulInAll_0 rfl rfl ?_
  refine x_getR G (kd1 M) 1 (b := 14) rfl cl0 rfl wf_X0_21 dX0_foulInAll_1 ?_
  refine x_getR G (kd14 M) 0 (b := 15) rfl cl10 rfl wf_X0_153 dX0_foulInAll_4 ?_
  obtain ⟨v_1, hv_1, hf⟩ := bnd hf
  refine x_nesI G (As := [.ref 15]) (mX11_sumOf G.2.2.2.2.2.2.1 M (kd15 M) hv_1) mn_X0_156 rfl rfl rfl rfl rfl dX0_foulInAll_7 ?_
  refine x_aload_n G dX0_foulInAll_10 rfl rfl ?_
  refine x_getR G (kd1 M) 1 (b := 14) rfl cl0 rfl wf_X0_21 dX0_foulInAll_11 ?_
  refine x_getR G (kd14 M) 2 (b := 17) rfl cl10 rfl wf_X0_160 dX0_foulInAll_14 ?_
  obtain ⟨v_2, hv_2, hf⟩ := bnd hf
  refine x_nesI G (As := [.ref 17]) (mX11_sumOf G.2.2.2.2.2.2.1 M (kd17 M) hv_2) mn_X0_156 rfl rfl rfl rfl rfl dX0_foulInAll_17 ?_
  refine x_iadd G dX0_foulInAll_20 ?_
  refine x_aload_n G dX0_foulInAll_21 rfl rfl ?_
  refine x_getR G (kd1 M) 2 (b := 19) rfl cl0 rfl wf_X0_28 dX0_foulInAll_22 ?_
  refine x_getR G (kd19 M) 8 (b := 28) rfl cl3 rfl wf_X0_163 dX0_foulInAll_25 ?_
  obtain ⟨v_3, hv_3, hf⟩ := bnd hf
  refine x_nesI G (As := [.ref 28]) (mX11_sumOf G.2.2.2.2.2.2.1 M (kd28 M) hv_3) mn_X0_156 rfl rfl rfl rfl rfl dX0_foulInAll_28 ?_
  refine x_iadd G dX0_foulInAll_31 ?_
  exact x_iretP G hf hr dX0_foulInAll_32

theorem mX0_foulInAll {l : Launch} {S : KS} {w : Wd} (hI : Inj S) (M : Main S) {r : Int32} (hf : fX0_foulInAll w = some r) : CI l yX0_foulInAll cX0_foulInAll 1 (some .int) 2 S [.ref 1] w r w := by
  intro sz
  refine mk_entry rfl (by decide +kernel) hI 0 rfl rfl (fun K h1 h2 h3 h4 h5 h6 G => ?_)
  subst h2
  exact xX0_foulInAll_e G M hf ⟨h3, by rw [h4, h6], h5⟩

set_option maxHeartbeats 4000000 in
set_option maxRecDepth 100000 in
theorem xX0_rainInAll_e {K : KT} {w : Wd} {r : Int32} (G : GK K cX0_rainInAll RX0 1 2) (M : Main K.ks) (hf : fX0_rainInAll w = some r) (hr : RI K .int r w) : XW K 0 [some (.ref 1)] [] w := by
  unfold fX0_rainInAll at hf
  refine x_aload_n G dX0_rainInAll_0 rfl rfl ?_
  refine x_getR G (kd1 M) 1 (b := 14) rfl cl0 rfl wf_X0_21 dX0_rainInAll_1 ?_
  refine x_getR G (kd14 M) 1 (b := 16) rfl cl10 rfl wf_X0_166 dX0_rainInAll_4 ?_
  obtain ⟨v_1, hv_1, hf⟩ := bnd hf
  refine x_nesI G (As := [.ref 16]) (mX11_sumOf G.2.2.2.2.2.2.1 M (kd16 M) hv_1) mn_X0_156 rfl rfl rfl rfl rfl dX0_rainInAll_7 ?_
  refine x_aload_n G dX0_rainInAll_10 rfl rfl ?_
  refine x_getR G (kd1 M) 1 (b := 14) rfl cl0 rfl wf_X0_21 dX0_rainInAll_11 ?_
  refine x_getR G (kd14 M) 3 (b := 18) rfl cl10 rfl wf_X0_169 dX0_rainInAll_14 ?_
  obtain ⟨v_2, hv_2, hf⟩ := bnd hf
  refine x_nesI G (As := [.ref 18]) (mX11_sumOf G.2.2.2.2.2.2.1 M (kd18 M) hv_2) mn_X0_156 rfl rfl rfl rfl rfl dX0_rainInAll_17 ?_
  refine x_iadd G dX0_rainInAll_20 ?_
  refine x_aload_n G dX0_rainInAll_21 rfl rfl ?_
  refine x_getR G (kd1 M) 2 (b := 19) rfl cl0 rfl wf_X0_28 dX0_rainInAll_22 ?_
  refine x_getR G (kd19 M) 9 (b := 29) rfl cl3 rfl wf_X0_172 dX0_rainInAll_25 ?_
  obtain ⟨v_3, hv_3, hf⟩ := bnd hf
  refine x_nesI G (As := [.ref 29]) (mX11_sumOf G.2.2.2.2.2.2.1 M (kd29 M) hv_3) mn_X0_156 rfl rfl rfl rfl rfl dX0_rainInAll_28 ?_
  refine x_iadd G dX0_rainInAll_31 ?_
  exact x_iretP G hf hr dX0_rainInAll_32

theorem mX0_rainInAll {l : Launch} {S : KS} {w : Wd} (hI : Inj S) (M : Main S) {r : Int32} (hf : fX0_rainInAll w = some r) : CI l yX0_rainInAll cX0_rainInAll 1 (some .int) 2 S [.ref 1] w r w := by
  intro sz
  refine mk_entry rfl (by decide +kernel) hI 0 rfl rfl (fun K h1 h2 h3 h4 h5 h6 G => ?_)
  subst h2
  exact xX0_rainInAll_e G M hf ⟨h3, by rw [h4, h6], h5⟩

set_option maxHeartbeats 4000000 in
set_option maxRecDepth 100000 in
theorem xX3_restart_e {K : KT} {w : Wd} {r : Wd} (G : GK K cX3_restart RX3 1 4) (M : Main K.ks) (hf : fX3_restart w = some r) (hr : RV K r) : XW K 0 [some (.ref 19)] [] w := by
  unfold fX3_restart at hf
  refine x_aload_n G dX3_restart_0 rfl rfl ?_
  refine x_getR G (kd19 M) 0 (b := 20) rfl cl3 rfl wf_X3_9 dX3_restart_1 ?_
  refine x_iconst G (v := 0) dX3_restart_4 (by decide) ?_
  refine x_staV G (As := [.ref 20, .int (0 : Int32)]) (mFillI G.2.2.2.2.2.2.1 (kd20 M)) ms_X3_42 rfl rfl rfl rfl rfl dX3_restart_5 ?_
  refine nwr hf (fun w_1 hf => ?_)
  refine x_aload_n G dX3_restart_8 rfl rfl ?_
  refine x_getR G (kd19 M) 8 (b := 28) rfl cl3 rfl wf_X3_36 dX3_restart_9 ?_
  refine x_iconst G (v := 0) dX3_restart_12 (by decide) ?_
  refine x_staV G (As := [.ref 28, .int (0 : Int32)]) (mFillI G.2.2.2.2.2.2.1 (kd28 M)) ms_X3_42 rfl rfl rfl rfl rfl dX3_restart_13 ?_
  refine nwr hf (fun w_2 hf => ?_)
  refine x_aload_n G dX3_restart_16 rfl rfl ?_
  refine x_getR G (kd19 M) 9 (b := 29) rfl cl3 rfl wf_X3_39 dX3_restart_17 ?_
  refine x_iconst G (v := 0) dX3_restart_20 (by decide) ?_
  refine x_staV G (As := [.ref 29, .int (0 : Int32)]) (mFillI G.2.2.2.2.2.2.1 (kd29 M)) ms_X3_42 rfl rfl rfl rfl rfl dX3_restart_21 ?_
  refine nwr hf (fun w_3 hf => ?_)
  exact x_vretW G hf hr dX3_restart_24

theorem mX3_restart {l : Launch} {S : KS} {w : Wd} (hI : Inj S) (M : Main S) {r : Wd} (hf : fX3_restart w = some r) : CV l yX3_restart cX3_restart 1 none 4 S [.ref 19] w r := by
  intro sz
  refine mk_entry rfl (by decide +kernel) hI 0 rfl rfl (fun K h1 h2 h3 h4 h5 h6 G => ?_)
  subst h2
  exact xX3_restart_e G M hf ⟨h3, by rw [h4, h6], h5⟩

set_option maxHeartbeats 4000000 in
set_option maxRecDepth 100000 in
theorem xX10_restart_e {K : KT} {w : Wd} {r : Wd} (G : GK K cX10_restart RX10 1 4) (M : Main K.ks) (hf : fX10_restart w = some r) (hr : RV K r) : XW K 0 [some (.ref 14)] [] w := by
  unfold fX10_restart at hf
  refine x_aload_n G dX10_restart_0 rfl rfl ?_
  refine x_getR G (kd14 M) 0 (b := 15) rfl cl10 rfl wf_X10_9 dX10_restart_1 ?_
  refine x_iconst G (v := 0) dX10_restart_4 (by decide) ?_
  refine x_staV G (As := [.ref 15, .int (0 : Int32)]) (mFillI G.2.2.2.2.2.2.1 (kd15 M)) ms_X10_46 rfl rfl rfl rfl rfl dX10_restart_5 ?_
  refine nwr hf (fun w_1 hf => ?_)
  refine x_aload_n G dX10_restart_8 rfl rfl ?_
  refine x_getR G (kd14 M) 1 (b := 16) rfl cl10 rfl wf_X10_15 dX10_restart_9 ?_
  refine x_iconst G (v := 0) dX10_restart_12 (by decide) ?_
  refine x_staV G (As := [.ref 16, .int (0 : Int32)]) (mFillI G.2.2.2.2.2.2.1 (kd16 M)) ms_X10_46 rfl rfl rfl rfl rfl dX10_restart_13 ?_
  refine nwr hf (fun w_2 hf => ?_)
  refine x_aload_n G dX10_restart_16 rfl rfl ?_
  refine x_getR G (kd14 M) 2 (b := 17) rfl cl10 rfl wf_X10_18 dX10_restart_17 ?_
  refine x_iconst G (v := 0) dX10_restart_20 (by decide) ?_
  refine x_staV G (As := [.ref 17, .int (0 : Int32)]) (mFillI G.2.2.2.2.2.2.1 (kd17 M)) ms_X10_46 rfl rfl rfl rfl rfl dX10_restart_21 ?_
  refine nwr hf (fun w_3 hf => ?_)
  refine x_aload_n G dX10_restart_24 rfl rfl ?_
  refine x_getR G (kd14 M) 3 (b := 18) rfl cl10 rfl wf_X10_21 dX10_restart_25 ?_
  refine x_iconst G (v := 0) dX10_restart_28 (by decide) ?_
  refine x_staV G (As := [.ref 18, .int (0 : Int32)]) (mFillI G.2.2.2.2.2.2.1 (kd18 M)) ms_X10_46 rfl rfl rfl rfl rfl dX10_restart_29 ?_
  refine nwr hf (fun w_4 hf => ?_)
  refine x_aload_n G dX10_restart_32 rfl rfl ?_
  refine x_iconst G (v := 0) dX10_restart_33 (by decide) ?_
  refine x_putI G (kd14 M) 4 rfl cl10 rfl wf_X10_24 rfl rfl rfl dX10_restart_34 ?_
  refine nwr hf (fun w_5 hf => ?_)
  refine x_aload_n G dX10_restart_37 rfl rfl ?_
  refine x_iconst G (v := 0) dX10_restart_38 (by decide) ?_
  refine x_putI G (kd14 M) 5 rfl cl10 rfl wf_X10_28 rfl rfl rfl dX10_restart_39 ?_
  refine nwr hf (fun w_6 hf => ?_)
  refine x_aload_n G dX10_restart_42 rfl rfl ?_
  refine x_iconst G (v := 0) dX10_restart_43 (by decide) ?_
  refine x_putI G (kd14 M) 6 rfl cl10 rfl wf_X10_31 rfl rfl rfl dX10_restart_44 ?_
  refine nwr hf (fun w_7 hf => ?_)
  refine x_aload_n G dX10_restart_47 rfl rfl ?_
  refine x_iconst G (v := 0) dX10_restart_48 (by decide) ?_
  refine x_putI G (kd14 M) 7 rfl cl10 rfl wf_X10_34 rfl rfl rfl dX10_restart_49 ?_
  refine nwr hf (fun w_8 hf => ?_)
  refine x_aload_n G dX10_restart_52 rfl rfl ?_
  refine x_iconst G (v := 0) dX10_restart_53 (by decide) ?_
  refine x_putI G (kd14 M) 8 rfl cl10 rfl wf_X10_37 rfl rfl rfl dX10_restart_54 ?_
  refine nwr hf (fun w_9 hf => ?_)
  refine x_aload_n G dX10_restart_57 rfl rfl ?_
  refine x_iconst G (v := 0) dX10_restart_58 (by decide) ?_
  refine x_putI G (kd14 M) 9 rfl cl10 rfl wf_X10_40 rfl rfl rfl dX10_restart_59 ?_
  refine nwr hf (fun w_10 hf => ?_)
  refine x_aload_n G dX10_restart_62 rfl rfl ?_
  refine x_iconst G (v := 0) dX10_restart_63 (by decide) ?_
  refine x_putI G (kd14 M) 10 rfl cl10 rfl wf_X10_43 rfl rfl rfl dX10_restart_64 ?_
  refine nwr hf (fun w_11 hf => ?_)
  exact x_vretW G hf hr dX10_restart_67

theorem mX10_restart {l : Launch} {S : KS} {w : Wd} (hI : Inj S) (M : Main S) {r : Wd} (hf : fX10_restart w = some r) : CV l yX10_restart cX10_restart 1 none 4 S [.ref 14] w r := by
  intro sz
  refine mk_entry rfl (by decide +kernel) hI 0 rfl rfl (fun K h1 h2 h3 h4 h5 h6 G => ?_)
  subst h2
  exact xX10_restart_e G M hf ⟨h3, by rw [h4, h6], h5⟩

set_option maxHeartbeats 4000000 in
set_option maxRecDepth 100000 in
theorem xX0_restart_e {K : KT} {w : Wd} {r : Wd} (G : GK K cX0_restart RX0 1 5) (M : Main K.ks) (hf : fX0_restart w = some r) (hr : RV K r) : XW K 0 [some (.ref 1)] [] w := by
  unfold fX0_restart at hf
  refine x_aload_n G dX0_restart_0 rfl rfl ?_
  refine x_getR G (kd1 M) 0 (b := 2) rfl cl0 rfl wf_X0_12 dX0_restart_1 ?_
  obtain ⟨v_1, hv_1, hf⟩ := bnd hf
  refine x_virV G (As := []) (mX2_restart G.2.2.2.2.2.2.1 M M.2 hv_1) mv_X0_71 (kd2 M) cl2 rfl rfl rfl rfl rfl dX0_restart_4 ?_
  refine x_aload_n G dX0_restart_7 rfl rfl ?_
  refine x_getR G (kd1 M) 1 (b := 14) rfl cl0 rfl wf_X0_21 dX0_restart_8 ?_
  obtain ⟨v_2, hv_2, hf⟩ := bnd hf
  refine x_virV G (As := []) (mX10_restart G.2.2.2.2.2.2.1 M hv_2) mv_X0_74 (kd14 M) cl10 rfl rfl rfl rfl rfl dX0_restart_11 ?_
  refine x_aload_n G dX0_restart_14 rfl rfl ?_
  refine x_getR G (kd1 M) 2 (b := 19) rfl cl0 rfl wf_X0_28 dX0_restart_15 ?_
  obtain ⟨v_3, hv_3, hf⟩ := bnd hf
  refine x_virV G (As := []) (mX3_restart G.2.2.2.2.2.2.1 M hv_3) mv_X0_75 (kd19 M) cl3 rfl rfl rfl rfl rfl dX0_restart_18 ?_
  refine x_aload_n G dX0_restart_21 rfl rfl ?_
  refine x_getR G (kd1 M) 3 (b := 30) rfl cl0 rfl wf_X0_35 dX0_restart_22 ?_
  refine x_iconst G (v := 0) dX0_restart_25 (by decide) ?_
  refine x_putI G (kd30 M) 0 rfl cl6 rfl wf_X0_76 rfl rfl rfl dX0_restart_26 ?_
  refine nwr hf (fun w_4 hf => ?_)
  refine x_aload_n G dX0_restart_29 rfl rfl ?_
  refine x_iconst G (v := 0) dX0_restart_30 (by decide) ?_
  refine x_putI G (kd1 M) 5 rfl cl0 rfl wf_X0_45 rfl rfl rfl dX0_restart_31 ?_
  refine nwr hf (fun w_5 hf => ?_)
  refine x_aload_n G dX0_restart_34 rfl rfl ?_
  refine x_iconst G (v := 0) dX0_restart_35 (by decide) ?_
  refine x_putI G (kd1 M) 6 rfl cl0 rfl wf_X0_49 rfl rfl rfl dX0_restart_36 ?_
  refine nwr hf (fun w_6 hf => ?_)
  refine x_aload_n G dX0_restart_39 rfl rfl ?_
  refine x_iconst G (v := 0) dX0_restart_40 (by decide) ?_
  refine x_putI G (kd1 M) 7 rfl cl0 rfl wf_X0_52 rfl rfl rfl dX0_restart_41 ?_
  refine nwr hf (fun w_7 hf => ?_)
  refine x_aload_n G dX0_restart_44 rfl rfl ?_
  refine x_iconst G (v := 0) dX0_restart_45 (by decide) ?_
  refine x_putI G (kd1 M) 8 rfl cl0 rfl wf_X0_55 rfl rfl rfl dX0_restart_46 ?_
  refine nwr hf (fun w_8 hf => ?_)
  refine x_aload_n G dX0_restart_49 rfl rfl ?_
  refine x_iconst G (v := 0) dX0_restart_50 (by decide) ?_
  refine x_putI G (kd1 M) 9 rfl cl0 rfl wf_X0_58 rfl rfl rfl dX0_restart_51 ?_
  refine nwr hf (fun w_9 hf => ?_)
  refine x_aload_n G dX0_restart_54 rfl rfl ?_
  refine x_iconst G (v := 0) dX0_restart_55 (by decide) ?_
  refine x_putI G (kd1 M) 10 rfl cl0 rfl wf_X0_61 rfl rfl rfl dX0_restart_56 ?_
  refine nwr hf (fun w_10 hf => ?_)
  refine x_aload_n G dX0_restart_59 rfl rfl ?_
  refine x_iconst G (v := 0) dX0_restart_60 (by decide) ?_
  refine x_putI G (kd1 M) 11 rfl cl0 rfl wf_X0_64 rfl rfl rfl dX0_restart_61 ?_
  refine nwr hf (fun w_11 hf => ?_)
  refine x_aload_n G dX0_restart_64 rfl rfl ?_
  refine x_iconst G (v := 0) dX0_restart_65 (by decide) ?_
  refine x_putI G (kd1 M) 12 rfl cl0 rfl wf_X0_67 rfl rfl rfl dX0_restart_66 ?_
  refine nwr hf (fun w_12 hf => ?_)
  exact x_vretW G hf hr dX0_restart_69

theorem mX0_restart {l : Launch} {S : KS} {w : Wd} (hI : Inj S) (M : Main S) {r : Wd} (hf : fX0_restart w = some r) : CV l yX0_restart cX0_restart 1 none 5 S [.ref 1] w r := by
  intro sz
  refine mk_entry rfl (by decide +kernel) hI 0 rfl rfl (fun K h1 h2 h3 h4 h5 h6 G => ?_)
  subst h2
  exact xX0_restart_e G M hf ⟨h3, by rw [h4, h6], h5⟩

set_option maxHeartbeats 4000000 in
set_option maxRecDepth 100000 in
theorem xX1_cellsCutOff_41 {K : KT} {v3 : Int32} {s1 : Int32} {s2 : Int32} {w : Wd} {r : Int32 × Wd} (G : GK K cX1_cellsCutOff RX1 7 3) (M : Main K.ks) (k7 : Int32 → Wd → Option (Int32 × Wd)) (hk7 : ∀ (v3 : Int32) (w : Wd), k7 v3 w = some r → XW K 7 [some (.ref 92), some (.ref 1), some (.ref 2), some (.int v3), none, none, none] [] w) (hf : fX1_cellsCutOff_41 k7 v3 s1 s2 w = some r) (hr : RI K .int r.1 r.2) : XW K 41 [some (.ref 92), some (.ref 1), some (.ref 2), some (.int v3), none, none, none] [.int s2, .int s1, .ref 98] w := by
  unfold fX1_cellsCutOff_41 at hf
  refine x_iast G (kd98 M) dX1_cellsCutOff_41 hf (fun hb_1 hf => ?_)
  refine nwr hf (fun w_2 hf => ?_)
  refine x_iinc G (lv' := [some (.ref 92), some (.ref 1), some (.ref 2), some (.int (v3 + (1 : Int32))), none, none, none]) (v := 1) dX1_cellsCutOff_42 rfl (by decide) rfl rfl rfl ?_
  refine x_goto G (tgt := 7) dX1_cellsCutOff_45 (by decide) ?_
  exact XW.sub (lv' := [some (.ref 92), some (.ref 1), some (.ref 2), some (.int (v3 + (1 : Int32))), none, none, none]) (And.intro rfl (And.intro rfl (And.intro rfl (And.intro rfl trivial)))) (hk7 _ _ hf)

set_option maxHeartbeats 4000000 in
set_option maxRecDepth 100000 in
theorem xX1_cellsCutOff_97 {K : KT} {r : Int32 × Wd} (G : GK K cX1_cellsCutOff RX1 7 3) (M : Main K.ks) (k88 : Int32 → Int32 → Wd → Option (Int32 × Wd)) (hk88 : ∀ (v3 : Int32) (v4 : Int32) (w : Wd), k88 v3 v4 w = some r → XW K 88 [some (.ref 92), none, some (.ref 2), some (.int v3), some (.int v4), none, none] [] w) (hr : RI K .int r.1 r.2) : ∀ (n : Nat) (v3 : Int32) (v4 : Int32) (v5 : Int32) (w : Wd), fX1_cellsCutOff_97 k88 n v3 v4 v5 w = some r → XW K 97 [some (.ref 92), none, some (.ref 2), some (.int v3), some (.int v4), some (.int v5), none] [] w := by
  intro n
  induction n with
  | zero =>
    intro v3 v4 v5 w hf
    unfold fX1_cellsCutOff_97 at hf
    cases hf
  | succ n ih =>
    intro v3 v4 v5 w hf
    unfold fX1_cellsCutOff_97 at hf
    refine x_iload G dX1_cellsCutOff_97 rfl ?_
    refine x_iconst G (v := 4) dX1_cellsCutOff_99 (by decide) ?_
    refine x_icmpge G (tgt := 167) dX1_cellsCutOff_100 (by decide) hf (fun c_1 hf => ?_) (fun c_1 hf => ?_)
    · refine x_aload_n G dX1_cellsCutOff_103 rfl rfl ?_
      refine x_getR G (kd92 M) 6 (b := 99) rfl cl1 rfl wf_X1_30 dX1_cellsCutOff_104 ?_
      refine x_iload G dX1_cellsCutOff_107 rfl ?_
      refine x_iald G (kd99 M) dX1_cellsCutOff_109 hf (fun hb_2 hf => ?_)
      refine x_iload G dX1_cellsCutOff_110 rfl ?_
      obtain ⟨v_3, hv_3, hf⟩ := bnd hf
      refine x_nesI G (As := [.int (ri w 99 v4), .int v5]) (mX11_beside G.2.2.2.2.2.2.1 M hv_3) mn_X1_228 rfl rfl rfl rfl rfl dX1_cellsCutOff_112 ?_
      refine x_istore G (lv' := [some (.ref 92), none, some (.ref 2), some (.int v3), some (.int v4), some (.int v5), some (.int v_3)]) dX1_cellsCutOff_115 rfl rfl rfl ?_
      refine x_iload G dX1_cellsCutOff_117 rfl ?_
      refine x_iconst G (v := -1) dX1_cellsCutOff_119 (by decide) ?_
      refine x_icmpeq G (tgt := 161) dX1_cellsCutOff_120 (by decide) hf (fun c_4 hf => ?_) (fun c_4 hf => ?_)
      · refine x_iinc G (lv' := [some (.ref 92), none, some (.ref 2), some (.int v3), some (.int v4), some (.int (v5 + (1 : Int32))), some (.int v_3)]) (v := 1) dX1_cellsCutOff_161 rfl (by decide) rfl rfl rfl ?_
        refine x_goto G (tgt := 97) dX1_cellsCutOff_164 (by decide) ?_
        exact XW.sub (lv' := [some (.ref 92), none, some (.ref 2), some (.int v3), some (.int v4), some (.int (v5 + (1 : Int32))), none]) (And.intro rfl (And.intro rfl (And.intro rfl (And.intro rfl (And.intro rfl trivial))))) (ih _ _ _ _ hf)
      · refine x_aload_n G dX1_cellsCutOff_123 rfl rfl ?_
        refine x_getR G (kd92 M) 5 (b := 98) rfl cl1 rfl wf_X1_27 dX1_cellsCutOff_124 ?_
        refine x_iload G dX1_cellsCutOff_127 rfl ?_
        refine x_iald G (kd98 M) dX1_cellsCutOff_129 hf (fun hb_5 hf => ?_)
        refine x_ifne G (tgt := 161) dX1_cellsCutOff_130 (by decide) hf (fun c_6 hf => ?_) (fun c_6 hf => ?_)
        · refine x_iload_n G dX1_cellsCutOff_133 rfl rfl ?_
          refine x_bipush G (v := 100) dX1_cellsCutOff_134 (by decide) ?_
          refine x_icmplt G (tgt := 142) dX1_cellsCutOff_136 (by decide) hf (fun c_7 hf => ?_) (fun c_7 hf => ?_)
          · refine x_aload_n G dX1_cellsCutOff_142 rfl rfl ?_
            refine x_getR G (kd92 M) 5 (b := 98) rfl cl1 rfl wf_X1_27 dX1_cellsCutOff_143 ?_
            refine x_iload G dX1_cellsCutOff_146 rfl ?_
            refine x_iconst G (v := 2) dX1_cellsCutOff_148 (by decide) ?_
            refine x_iast0 G (kd98 M) dX1_cellsCutOff_149 hb_5 ?_
            refine nwr hf (fun w_8 hf => ?_)
            refine x_aload_n G dX1_cellsCutOff_150 rfl rfl ?_
            refine x_getR G (kd92 M) 6 (b := 99) rfl cl1 rfl wf_X1_30 dX1_cellsCutOff_151 ?_
            refine x_iload_n G dX1_cellsCutOff_154 rfl rfl ?_
            refine x_iload G dX1_cellsCutOff_155 rfl ?_
            refine x_iast G (kd99 M) dX1_cellsCutOff_157 hf (fun hb_9 hf => ?_)
            refine nwr hf (fun w_10 hf => ?_)
            refine x_iinc G (lv' := [some (.ref 92), none, some (.ref 2), some (.int (v3 + (1 : Int32))), some (.int v4), some (.int v5), some (.int v_3)]) (v := 1) dX1_cellsCutOff_158 rfl (by decide) rfl rfl rfl ?_
            refine x_iinc G (lv' := [some (.ref 92), none, some (.ref 2), some (.int (v3 + (1 : Int32))), some (.int v4), some (.int (v5 + (1 : Int32))), some (.int v_3)]) (v := 1) dX1_cellsCutOff_161 rfl (by decide) rfl rfl rfl ?_
            refine x_goto G (tgt := 97) dX1_cellsCutOff_164 (by decide) ?_
            exact XW.sub (lv' := [some (.ref 92), none, some (.ref 2), some (.int (v3 + (1 : Int32))), some (.int v4), some (.int (v5 + (1 : Int32))), none]) (And.intro rfl (And.intro rfl (And.intro rfl (And.intro rfl (And.intro rfl trivial))))) (ih _ _ _ _ hf)
          · refine x_goto G (tgt := 161) dX1_cellsCutOff_139 (by decide) ?_
            refine x_iinc G (lv' := [some (.ref 92), none, some (.ref 2), some (.int v3), some (.int v4), some (.int (v5 + (1 : Int32))), some (.int v_3)]) (v := 1) dX1_cellsCutOff_161 rfl (by decide) rfl rfl rfl ?_
            refine x_goto G (tgt := 97) dX1_cellsCutOff_164 (by decide) ?_
            exact XW.sub (lv' := [some (.ref 92), none, some (.ref 2), some (.int v3), some (.int v4), some (.int (v5 + (1 : Int32))), none]) (And.intro rfl (And.intro rfl (And.intro rfl (And.intro rfl (And.intro rfl trivial))))) (ih _ _ _ _ hf)
        · refine x_iinc G (lv' := [some (.ref 92), none, some (.ref 2), some (.int v3), some (.int v4), some (.int (v5 + (1 : Int32))), some (.int v_3)]) (v := 1) dX1_cellsCutOff_161 rfl (by decide) rfl rfl rfl ?_
          refine x_goto G (tgt := 97) dX1_cellsCutOff_164 (by decide) ?_
          exact XW.sub (lv' := [some (.ref 92), none, some (.ref 2), some (.int v3), some (.int v4), some (.int (v5 + (1 : Int32))), none]) (And.intro rfl (And.intro rfl (And.intro rfl (And.intro rfl (And.intro rfl trivial))))) (ih _ _ _ _ hf)
    · refine x_iinc G (lv' := [some (.ref 92), none, some (.ref 2), some (.int v3), some (.int (v4 + (1 : Int32))), some (.int v5), none]) (v := 1) dX1_cellsCutOff_167 rfl (by decide) rfl rfl rfl ?_
      refine x_goto G (tgt := 88) dX1_cellsCutOff_170 (by decide) ?_
      exact XW.sub (lv' := [some (.ref 92), none, some (.ref 2), some (.int v3), some (.int (v4 + (1 : Int32))), none, none]) (And.intro rfl (And.intro rfl (And.intro rfl (And.intro rfl trivial)))) (hk88 _ _ _ hf)

set_option maxHeartbeats 4000000 in
set_option maxRecDepth 100000 in
theorem xX1_cellsCutOff_179 {K : KT} {r : Int32 × Wd} (G : GK K cX1_cellsCutOff RX1 7 3) (M : Main K.ks) (hr : RI K .int r.1 r.2) : ∀ (n : Nat) (v4 : Int32) (v5 : Int32) (w : Wd), fX1_cellsCutOff_179 n v4 v5 w = some r → XW K 179 [some (.ref 92), none, some (.ref 2), none, some (.int v4), some (.int v5), none] [] w := by
  intro n
  induction n with
  | zero =>
    intro v4 v5 w hf
    unfold fX1_cellsCutOff_179 at hf
    cases hf
  | succ n ih =>
    intro v4 v5 w hf
    unfold fX1_cellsCutOff_179 at hf
    refine x_iload G dX1_cellsCutOff_179 rfl ?_
    refine x_bipush G (v := 100) dX1_cellsCutOff_181 (by decide) ?_
    refine x_icmpge G (tgt := 226) dX1_cellsCutOff_183 (by decide) hf (fun c_1 hf => ?_) (fun c_1 hf => ?_)
    · refine x_aload_n G dX1_cellsCutOff_186 rfl rfl ?_
      refine x_getR G (kd2 M) 2 (b := 5) rfl cl2 rfl wf_X1_95 dX1_cellsCutOff_187 ?_
      refine x_iload G dX1_cellsCutOff_190 rfl ?_
      refine x_iald G (kd5 M) dX1_cellsCutOff_192 hf (fun hb_2 hf => ?_)
      refine x_ifle G (tgt := 220) dX1_cellsCutOff_193 (by decide) hf (fun c_3 hf => ?_) (fun c_3 hf => ?_)
      · refine x_aload_n G dX1_cellsCutOff_196 rfl rfl ?_
        refine x_getR G (kd2 M) 4 (b := 7) rfl cl2 rfl wf_X1_92 dX1_cellsCutOff_197 ?_
        refine x_iload G dX1_cellsCutOff_200 rfl ?_
        refine x_iald0 G (kd7 M) dX1_cellsCutOff_202 hb_2 ?_
        refine x_ifne G (tgt := 220) dX1_cellsCutOff_203 (by decide) hf (fun c_4 hf => ?_) (fun c_4 hf => ?_)
        · refine x_aload_n G dX1_cellsCutOff_206 rfl rfl ?_
          refine x_getR G (kd92 M) 5 (b := 98) rfl cl1 rfl wf_X1_27 dX1_cellsCutOff_207 ?_
          refine x_iload G dX1_cellsCutOff_210 rfl ?_
          refine x_iald0 G (kd98 M) dX1_cellsCutOff_212 hb_2 ?_
          refine x_iconst G (v := 2) dX1_cellsCutOff_213 (by decide) ?_
          refine x_icmpeq G (tgt := 220) dX1_cellsCutOff_214 (by decide) hf (fun c_5 hf => ?_) (fun c_5 hf => ?_)
          · refine x_iinc G (lv' := [some (.ref 92), none, some (.ref 2), none, some (.int v4), some (.int (v5 + (1 : Int32))), none]) (v := 1) dX1_cellsCutOff_220 rfl (by decide) rfl rfl rfl ?_
            refine x_goto G (tgt := 179) dX1_cellsCutOff_223 (by decide) ?_
            exact XW.sub (lv' := [some (.ref 92), none, some (.ref 2), none, some (.int v4), some (.int (v5 + (1 : Int32))), none]) (And.intro rfl (And.intro rfl (And.intro rfl (And.intro rfl trivial)))) (ih _ _ _ hf)
          · refine x_iinc G (lv' := [some (.ref 92), none, some (.ref 2), none, some (.int (v4 + (1 : Int32))), some (.int v5), none]) (v := 1) dX1_cellsCutOff_217 rfl (by decide) rfl rfl rfl ?_
            refine x_iinc G (lv' := [some (.ref 92), none, some (.ref 2), none, some (.int (v4 + (1 : Int32))), some (.int (v5 + (1 : Int32))), none]) (v := 1) dX1_cellsCutOff_220 rfl (by decide) rfl rfl rfl ?_
            refine x_goto G (tgt := 179) dX1_cellsCutOff_223 (by decide) ?_
            exact XW.sub (lv' := [some (.ref 92), none, some (.ref 2), none, some (.int (v4 + (1 : Int32))), some (.int (v5 + (1 : Int32))), none]) (And.intro rfl (And.intro rfl (And.intro rfl (And.intro rfl trivial)))) (ih _ _ _ hf)
        · refine x_iinc G (lv' := [some (.ref 92), none, some (.ref 2), none, some (.int v4), some (.int (v5 + (1 : Int32))), none]) (v := 1) dX1_cellsCutOff_220 rfl (by decide) rfl rfl rfl ?_
          refine x_goto G (tgt := 179) dX1_cellsCutOff_223 (by decide) ?_
          exact XW.sub (lv' := [some (.ref 92), none, some (.ref 2), none, some (.int v4), some (.int (v5 + (1 : Int32))), none]) (And.intro rfl (And.intro rfl (And.intro rfl (And.intro rfl trivial)))) (ih _ _ _ hf)
      · refine x_iinc G (lv' := [some (.ref 92), none, some (.ref 2), none, some (.int v4), some (.int (v5 + (1 : Int32))), none]) (v := 1) dX1_cellsCutOff_220 rfl (by decide) rfl rfl rfl ?_
        refine x_goto G (tgt := 179) dX1_cellsCutOff_223 (by decide) ?_
        exact XW.sub (lv' := [some (.ref 92), none, some (.ref 2), none, some (.int v4), some (.int (v5 + (1 : Int32))), none]) (And.intro rfl (And.intro rfl (And.intro rfl (And.intro rfl trivial)))) (ih _ _ _ hf)
    · refine x_iload G dX1_cellsCutOff_226 rfl ?_
      exact x_iretW G hf hr dX1_cellsCutOff_228

set_option maxHeartbeats 4000000 in
set_option maxRecDepth 100000 in
theorem xX1_cellsCutOff_88 {K : KT} {r : Int32 × Wd} (G : GK K cX1_cellsCutOff RX1 7 3) (M : Main K.ks) (hr : RI K .int r.1 r.2) : ∀ (n : Nat) (v3 : Int32) (v4 : Int32) (w : Wd), fX1_cellsCutOff_88 n v3 v4 w = some r → XW K 88 [some (.ref 92), none, some (.ref 2), some (.int v3), some (.int v4), none, none] [] w := by
  intro n
  induction n with
  | zero =>
    intro v3 v4 w hf
    unfold fX1_cellsCutOff_88 at hf
    cases hf
  | succ n ih =>
    intro v3 v4 w hf
    unfold fX1_cellsCutOff_88 at hf
    refine x_iload G dX1_cellsCutOff_88 rfl ?_
    refine x_iload_n G dX1_cellsCutOff_90 rfl rfl ?_
    refine x_icmpge G (tgt := 173) dX1_cellsCutOff_91 (by decide) hf (fun c_1 hf => ?_) (fun c_1 hf => ?_)
    · refine x_iconst G (v := 0) dX1_cellsCutOff_94 (by decide) ?_
      refine x_istore G (lv' := [some (.ref 92), none, some (.ref 2), some (.int v3), some (.int v4), some (.int (0 : Int32)), none]) dX1_cellsCutOff_95 rfl rfl rfl ?_
      exact XW.sub (lv' := [some (.ref 92), none, some (.ref 2), some (.int v3), some (.int v4), some (.int (0 : Int32)), none]) (And.intro rfl (And.intro rfl (And.intro rfl (And.intro rfl (And.intro rfl trivial))))) (xX1_cellsCutOff_97 G M (fX1_cellsCutOff_88 n) ih hr FU _ _ _ _ hf)
    · refine x_iconst G (v := 0) dX1_cellsCutOff_173 (by decide) ?_
      refine x_istore G (lv' := [some (.ref 92), none, some (.ref 2), some (.int v3), some (.int (0 : Int32)), none, none]) dX1_cellsCutOff_174 rfl rfl rfl ?_
      refine x_iconst G (v := 0) dX1_cellsCutOff_176 (by decide) ?_
      refine x_istore G (lv' := [some (.ref 92), none, some (.ref 2), some (.int v3), some (.int (0 : Int32)), some (.int (0 : Int32)), none]) dX1_cellsCutOff_177 rfl rfl rfl ?_
      exact XW.sub (lv' := [some (.ref 92), none, some (.ref 2), none, some (.int (0 : Int32)), some (.int (0 : Int32)), none]) (And.intro rfl (And.intro rfl (And.intro rfl (And.intro rfl trivial)))) (xX1_cellsCutOff_179 G M hr FU _ _ _ hf)

set_option maxHeartbeats 4000000 in
set_option maxRecDepth 100000 in
theorem xX1_cellsCutOff_7 {K : KT} {r : Int32 × Wd} (G : GK K cX1_cellsCutOff RX1 7 3) (M : Main K.ks) (hr : RI K .int r.1 r.2) : ∀ (n : Nat) (v3 : Int32) (w : Wd), fX1_cellsCutOff_7 n v3 w = some r → XW K 7 [some (.ref 92), some (.ref 1), some (.ref 2), some (.int v3), none, none, none] [] w := by
  intro n
  induction n with
  | zero =>
    intro v3 w hf
    unfold fX1_cellsCutOff_7 at hf
    cases hf
  | succ n ih =>
    intro v3 w hf
    unfold fX1_cellsCutOff_7 at hf
    refine x_iload_n G dX1_cellsCutOff_7 rfl rfl ?_
    refine x_bipush G (v := 100) dX1_cellsCutOff_8 (by decide) ?_
    refine x_icmpge G (tgt := 48) dX1_cellsCutOff_10 (by decide) hf (fun c_1 hf => ?_) (fun c_1 hf => ?_)
    · refine x_aload_n G dX1_cellsCutOff_13 rfl rfl ?_
      refine x_getR G (kd92 M) 5 (b := 98) rfl cl1 rfl wf_X1_27 dX1_cellsCutOff_14 ?_
      refine x_iload_n G dX1_cellsCutOff_17 rfl rfl ?_
      refine x_aload_n G dX1_cellsCutOff_18 rfl rfl ?_
      refine x_getR G (kd2 M) 4 (b := 7) rfl cl2 rfl wf_X1_92 dX1_cellsCutOff_19 ?_
      refine x_iload_n G dX1_cellsCutOff_22 rfl rfl ?_
      refine x_iald G (kd7 M) dX1_cellsCutOff_23 hf (fun hb_2 hf => ?_)
      refine x_iconst G (v := 1) dX1_cellsCutOff_24 (by decide) ?_
      refine x_icmpeq G (tgt := 36) dX1_cellsCutOff_25 (by decide) hf (fun c_3 hf => ?_) (fun c_3 hf => ?_)
      · refine x_iconst G (v := 1) dX1_cellsCutOff_36 (by decide) ?_
        refine x_goto G (tgt := 41) dX1_cellsCutOff_37 (by decide) ?_
        exact (xX1_cellsCutOff_41 G M (fX1_cellsCutOff_7 n) ih hf hr)
      · refine x_aload_n G dX1_cellsCutOff_28 rfl rfl ?_
        refine x_iload_n G dX1_cellsCutOff_29 rfl rfl ?_
        obtain ⟨v_4, hv_4, hf⟩ := bnd hf
        refine x_virI G (As := [.int v3]) (mX0_isShut G.2.2.2.2.2.2.1 M hv_4) mv_X1_231 (kd1 M) cl0 rfl rfl rfl rfl rfl dX1_cellsCutOff_30 ?_
        refine x_ifeqB G (tgt := 40) dX1_cellsCutOff_33 (by decide) hf (fun c_5 hf => ?_) (fun c_5 hf => ?_)
        · refine x_iconst G (v := 1) dX1_cellsCutOff_36 (by decide) ?_
          refine x_goto G (tgt := 41) dX1_cellsCutOff_37 (by decide) ?_
          exact (xX1_cellsCutOff_41 G M (fX1_cellsCutOff_7 n) ih hf hr)
        · refine x_iconst G (v := 0) dX1_cellsCutOff_40 (by decide) ?_
          exact (xX1_cellsCutOff_41 G M (fX1_cellsCutOff_7 n) ih hf hr)
    · refine x_iconst G (v := 0) dX1_cellsCutOff_48 (by decide) ?_
      refine x_istore_n G (lv' := [some (.ref 92), some (.ref 1), some (.ref 2), some (.int (0 : Int32)), none, none, none]) dX1_cellsCutOff_49 rfl rfl rfl rfl ?_
      refine x_aload_n G dX1_cellsCutOff_50 rfl rfl ?_
      refine x_getR G (kd92 M) 5 (b := 98) rfl cl1 rfl wf_X1_27 dX1_cellsCutOff_51 ?_
      refine x_aload_n G dX1_cellsCutOff_54 rfl rfl ?_
      refine x_getI G (kd1 M) 9 rfl cl0 rfl wf_X1_234 dX1_cellsCutOff_55 ?_
      refine x_iald G (kd98 M) dX1_cellsCutOff_58 hf (fun hb_6 hf => ?_)
      refine x_ifne G (tgt := 85) dX1_cellsCutOff_59 (by decide) hf (fun c_7 hf => ?_) (fun c_7 hf => ?_)
      · refine x_aload_n G dX1_cellsCutOff_62 rfl rfl ?_
        refine x_getR G (kd92 M) 5 (b := 98) rfl cl1 rfl wf_X1_27 dX1_cellsCutOff_63 ?_
        refine x_aload_n G dX1_cellsCutOff_66 rfl rfl ?_
        refine x_getI G (kd1 M) 9 rfl cl0 rfl wf_X1_234 dX1_cellsCutOff_67 ?_
        refine x_iconst G (v := 2) dX1_cellsCutOff_70 (by decide) ?_
        refine x_iast0 G (kd98 M) dX1_cellsCutOff_71 hb_6 ?_
        refine nwr hf (fun w_8 hf => ?_)
        refine x_aload_n G dX1_cellsCutOff_72 rfl rfl ?_
        refine x_getR G (kd92 M) 6 (b := 99) rfl cl1 rfl wf_X1_30 dX1_cellsCutOff_73 ?_
        refine x_iload_n G dX1_cellsCutOff_76 rfl rfl ?_
        refine x_aload_n G dX1_cellsCutOff_77 rfl rfl ?_
        refine x_getI G (kd1 M) 9 rfl cl0 rfl wf_X1_234 dX1_cellsCutOff_78 ?_
        refine x_iast0 G (kd99 M) dX1_cellsCutOff_81 (by decide) ?_
        refine nwr hf (fun w_9 hf => ?_)
        refine x_iinc G (lv' := [some (.ref 92), some (.ref 1), some (.ref 2), some (.int ((0 : Int32) + (1 : Int32))), none, none, none]) (v := 1) dX1_cellsCutOff_82 rfl (by decide) rfl rfl rfl ?_
        refine x_iconst G (v := 0) dX1_cellsCutOff_85 (by decide) ?_
        refine x_istore G (lv' := [some (.ref 92), some (.ref 1), some (.ref 2), some (.int ((0 : Int32) + (1 : Int32))), some (.int (0 : Int32)), none, none]) dX1_cellsCutOff_86 rfl rfl rfl ?_
        exact XW.sub (lv' := [some (.ref 92), none, some (.ref 2), some (.int ((0 : Int32) + (1 : Int32))), some (.int (0 : Int32)), none, none]) (And.intro rfl (And.intro rfl (And.intro rfl (And.intro rfl trivial)))) (xX1_cellsCutOff_88 G M hr FU _ _ _ hf)
      · refine x_iconst G (v := 0) dX1_cellsCutOff_85 (by decide) ?_
        refine x_istore G (lv' := [some (.ref 92), some (.ref 1), some (.ref 2), some (.int (0 : Int32)), some (.int (0 : Int32)), none, none]) dX1_cellsCutOff_86 rfl rfl rfl ?_
        exact XW.sub (lv' := [some (.ref 92), none, some (.ref 2), some (.int (0 : Int32)), some (.int (0 : Int32)), none, none]) (And.intro rfl (And.intro rfl (And.intro rfl (And.intro rfl trivial)))) (xX1_cellsCutOff_88 G M hr FU _ _ _ hf)

set_option maxHeartbeats 4000000 in
set_option maxRecDepth 100000 in
theorem xX1_cellsCutOff_e {K : KT} {w : Wd} {r : Int32 × Wd} (G : GK K cX1_cellsCutOff RX1 7 3) (M : Main K.ks) (hf : fX1_cellsCutOff w = some r) (hr : RI K .int r.1 r.2) : XW K 0 [some (.ref 92), some (.ref 1), none, none, none, none, none] [] w := by
  unfold fX1_cellsCutOff at hf
  refine x_aload_n G dX1_cellsCutOff_0 rfl rfl ?_
  refine x_getR G (kd1 M) 0 (b := 2) rfl cl0 rfl wf_X1_33 dX1_cellsCutOff_1 ?_
  refine x_astore_n G (lv' := [some (.ref 92), some (.ref 1), some (.ref 2), none, none, none, none]) dX1_cellsCutOff_4 rfl rfl rfl rfl ?_
  refine x_iconst G (v := 0) dX1_cellsCutOff_5 (by decide) ?_
  refine x_istore_n G (lv' := [some (.ref 92), some (.ref 1), some (.ref 2), some (.int (0 : Int32)), none, none, none]) dX1_cellsCutOff_6 rfl rfl rfl rfl ?_
  exact XW.sub (lv' := [some (.ref 92), some (.ref 1), some (.ref 2), some (.int (0 : Int32)), none, none, none]) (And.intro rfl (And.intro rfl (And.intro rfl (And.intro rfl trivial)))) (xX1_cellsCutOff_7 G M hr FU _ _ hf)

theorem mX1_cellsCutOff {l : Launch} {S : KS} {w : Wd} (hI : Inj S) (M : Main S) {r : Int32 × Wd} (hf : fX1_cellsCutOff w = some r) : CI l yX1_cellsCutOff cX1_cellsCutOff 7 (some .int) 3 S [.ref 92, .ref 1] w r.1 r.2 := by
  intro sz
  refine mk_entry rfl (by decide +kernel) hI 5 rfl rfl (fun K h1 h2 h3 h4 h5 h6 G => ?_)
  subst h2
  exact xX1_cellsCutOff_e G M hf ⟨h3, by rw [h4, h6], h5⟩

set_option maxHeartbeats 4000000 in
set_option maxRecDepth 100000 in
theorem xX1_isBadPump_13 {K : KT} {w : Wd} {r : Bool} (G : GK K cX1_isBadPump RX1 5 2) (M : Main K.ks) (hr : RI K .boolean (bI r) w) : ∀ (n : Nat) (v2 : Int32) (v3 : Int32), fX1_isBadPump_13 w n v2 v3 = some r → XW K 13 [none, some (.ref 14), some (.int v2), some (.int v3), none] [] w := by
  intro n
  induction n with
  | zero =>
    intro v2 v3 hf
    unfold fX1_isBadPump_13 at hf
    cases hf
  | succ n ih =>
    intro v2 v3 hf
    unfold fX1_isBadPump_13 at hf
    refine x_iload_n G dX1_isBadPump_13 rfl rfl ?_
    refine x_iconst G (v := 4) dX1_isBadPump_14 (by decide) ?_
    refine x_icmpge G (tgt := 49) dX1_isBadPump_15 (by decide) hf (fun c_1 hf => ?_) (fun c_1 hf => ?_)
    · refine x_iload_n G dX1_isBadPump_18 rfl rfl ?_
      refine x_iload_n G dX1_isBadPump_19 rfl rfl ?_
      obtain ⟨v_2, hv_2, hf⟩ := bnd hf
      refine x_nesI G (As := [.int v2, .int v3]) (mX11_beside G.2.2.2.2.2.2.1 M hv_2) mn_X1_228 rfl rfl rfl rfl rfl dX1_isBadPump_20 ?_
      refine x_istore G (lv' := [none, some (.ref 14), some (.int v2), some (.int v3), some (.int v_2)]) dX1_isBadPump_23 rfl rfl rfl ?_
      refine x_iload G dX1_isBadPump_25 rfl ?_
      refine x_iconst G (v := -1) dX1_isBadPump_27 (by decide) ?_
      refine x_icmpeq G (tgt := 43) dX1_isBadPump_28 (by decide) hf (fun c_3 hf => ?_) (fun c_3 hf => ?_)
      · refine x_iinc G (lv' := [none, some (.ref 14), some (.int v2), some (.int (v3 + (1 : Int32))), some (.int v_2)]) (v := 1) dX1_isBadPump_43 rfl (by decide) rfl rfl rfl ?_
        refine x_goto G (tgt := 13) dX1_isBadPump_46 (by decide) ?_
        exact XW.sub (lv' := [none, some (.ref 14), some (.int v2), some (.int (v3 + (1 : Int32))), none]) (And.intro rfl (And.intro rfl (And.intro rfl trivial))) (ih _ _ hf)
      · refine x_aload_n G dX1_isBadPump_31 rfl rfl ?_
        refine x_getR G (kd14 M) 2 (b := 17) rfl cl10 rfl wf_X1_209 dX1_isBadPump_32 ?_
        refine x_iload G dX1_isBadPump_35 rfl ?_
        refine x_iald G (kd17 M) dX1_isBadPump_37 hf (fun hb_4 hf => ?_)
        refine x_ifle G (tgt := 43) dX1_isBadPump_38 (by decide) hf (fun c_5 hf => ?_) (fun c_5 hf => ?_)
        · refine x_iconst G (v := 1) dX1_isBadPump_41 (by decide) ?_
          exact x_zretP G hf hr dX1_isBadPump_42
        · refine x_iinc G (lv' := [none, some (.ref 14), some (.int v2), some (.int (v3 + (1 : Int32))), some (.int v_2)]) (v := 1) dX1_isBadPump_43 rfl (by decide) rfl rfl rfl ?_
          refine x_goto G (tgt := 13) dX1_isBadPump_46 (by decide) ?_
          exact XW.sub (lv' := [none, some (.ref 14), some (.int v2), some (.int (v3 + (1 : Int32))), none]) (And.intro rfl (And.intro rfl (And.intro rfl trivial))) (ih _ _ hf)
    · refine x_iconst G (v := 0) dX1_isBadPump_49 (by decide) ?_
      exact x_zretP G hf hr dX1_isBadPump_50

set_option maxHeartbeats 4000000 in
set_option maxRecDepth 100000 in
theorem xX1_isBadPump_e {K : KT} {v2 : Int32} {w : Wd} {r : Bool} (G : GK K cX1_isBadPump RX1 5 2) (M : Main K.ks) (hf : fX1_isBadPump v2 w = some r) (hr : RI K .boolean (bI r) w) : XW K 0 [some (.ref 92), some (.ref 14), some (.int v2), none, none] [] w := by
  unfold fX1_isBadPump at hf
  refine x_aload_n G dX1_isBadPump_0 rfl rfl ?_
  refine x_getR G (kd14 M) 2 (b := 17) rfl cl10 rfl wf_X1_209 dX1_isBadPump_1 ?_
  refine x_iload_n G dX1_isBadPump_4 rfl rfl ?_
  refine x_iald G (kd17 M) dX1_isBadPump_5 hf (fun hb_1 hf => ?_)
  refine x_ifle G (tgt := 11) dX1_isBadPump_6 (by decide) hf (fun c_2 hf => ?_) (fun c_2 hf => ?_)
  · refine x_iconst G (v := 1) dX1_isBadPump_9 (by decide) ?_
    exact x_zretP G hf hr dX1_isBadPump_10
  · refine x_iconst G (v := 0) dX1_isBadPump_11 (by decide) ?_
    refine x_istore_n G (lv' := [some (.ref 92), some (.ref 14), some (.int v2), some (.int (0 : Int32)), none]) dX1_isBadPump_12 rfl rfl rfl rfl ?_
    exact XW.sub (lv' := [none, some (.ref 14), some (.int v2), some (.int (0 : Int32)), none]) (And.intro rfl (And.intro rfl (And.intro rfl trivial))) (xX1_isBadPump_13 G M hr FU _ _ hf)

theorem mX1_isBadPump {l : Launch} {S : KS} {w : Wd} (hI : Inj S) (M : Main S) {v2 : Int32} {r : Bool} (hf : fX1_isBadPump v2 w = some r) : CI l yX1_isBadPump cX1_isBadPump 5 (some .boolean) 2 S [.ref 92, .ref 14, .int v2] w (bI r) w := by
  intro sz
  refine mk_entry rfl (by decide +kernel) hI 2 rfl rfl (fun K h1 h2 h3 h4 h5 h6 G => ?_)
  subst h2
  exact xX1_isBadPump_e G M hf ⟨h3, by rw [h4, h6], h5⟩

set_option maxHeartbeats 4000000 in
set_option maxRecDepth 100000 in
theorem xX11_near_e {K : KT} {v0 : Int32} {v1 : Int32} {w : Wd} {r : Int32} (G : GK K cX11_near RX11 2 1) (M : Main K.ks) (hf : fX11_near v0 v1 w = some r) (hr : RI K .int r w) : XW K 0 [some (.int v0), some (.int v1)] [] w := by
  unfold fX11_near at hf
  refine x_iload_n G dX11_near_0 rfl rfl ?_
  refine x_bipush G (v := 10) dX11_near_1 (by decide) ?_
  refine x_irem' G dX11_near_3 (by decide) ?_
  refine x_iload_n G dX11_near_4 rfl rfl ?_
  refine x_bipush G (v := 10) dX11_near_5 (by decide) ?_
  refine x_irem' G dX11_near_7 (by decide) ?_
  refine x_isub G dX11_near_8 ?_
  refine x_abs G wm_X11_475 wabs_1 wabs_2 wabs_3 rfl rfl dX11_near_9 ?_
  refine x_iload_n G dX11_near_12 rfl rfl ?_
  refine x_bipush G (v := 10) dX11_near_13 (by decide) ?_
  refine x_idiv G dX11_near_15 (by decide) ?_
  refine x_iload_n G dX11_near_16 rfl rfl ?_
  refine x_bipush G (v := 10) dX11_near_17 (by decide) ?_
  refine x_idiv G dX11_near_19 (by decide) ?_
  refine x_isub G dX11_near_20 ?_
  refine x_abs G wm_X11_475 wabs_1 wabs_2 wabs_3 rfl rfl dX11_near_21 ?_
  refine x_iadd G dX11_near_24 ?_
  exact x_iretP G hf hr dX11_near_25

theorem mX11_near {l : Launch} {S : KS} {w : Wd} (hI : Inj S) (M : Main S) {v0 : Int32} {v1 : Int32} {r : Int32} (hf : fX11_near v0 v1 w = some r) : CI l yX11_near cX11_near 2 (some .int) 1 S [.int v0, .int v1] w r w := by
  intro sz
  refine mk_entry rfl (by decide +kernel) hI 0 rfl rfl (fun K h1 h2 h3 h4 h5 h6 G => ?_)
  subst h2
  exact xX11_near_e G M hf ⟨h3, by rw [h4, h6], h5⟩

