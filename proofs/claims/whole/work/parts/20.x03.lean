theorem dX1_drink_0 : decode cX1_drink 0 = .ok (.aload_n 1, 1) := by decide +kernel
theorem dX1_drink_1 : decode cX1_drink 1 = .ok (.getfield 33, 3) := by decide +kernel
theorem dX1_drink_4 : decode cX1_drink 4 = .ok (.astore_n 2, 1) := by decide +kernel
theorem dX1_drink_5 : decode cX1_drink 5 = .ok (.iconst 0, 1) := by decide +kernel
theorem dX1_drink_6 : decode cX1_drink 6 = .ok (.istore_n 3, 1) := by decide +kernel
theorem dX1_drink_7 : decode cX1_drink 7 = .ok (.iconst 0, 1) := by decide +kernel
theorem dX1_drink_8 : decode cX1_drink 8 = .ok (.istore 4, 2) := by decide +kernel
theorem dX1_drink_10 : decode cX1_drink 10 = .ok (.iload 4, 2) := by decide +kernel
theorem dX1_drink_12 : decode cX1_drink 12 = .ok (.bipush 100, 2) := by decide +kernel
theorem dX1_drink_14 : decode cX1_drink 14 = .ok (.if_icmp .ge 58, 3) := by decide +kernel
theorem dX1_drink_17 : decode cX1_drink 17 = .ok (.aload_n 2, 1) := by decide +kernel
theorem dX1_drink_18 : decode cX1_drink 18 = .ok (.getfield 215, 3) := by decide +kernel
theorem dX1_drink_21 : decode cX1_drink 21 = .ok (.iload 4, 2) := by decide +kernel
theorem dX1_drink_23 : decode cX1_drink 23 = .ok (.iaload, 1) := by decide +kernel
theorem dX1_drink_24 : decode cX1_drink 24 = .ok (.ifCond .ne 6, 3) := by decide +kernel
theorem dX1_drink_27 : decode cX1_drink 27 = .ok (.goto 39, 3) := by decide +kernel
theorem dX1_drink_30 : decode cX1_drink 30 = .ok (.aload_n 0, 1) := by decide +kernel
theorem dX1_drink_31 : decode cX1_drink 31 = .ok (.getfield 27, 3) := by decide +kernel
theorem dX1_drink_34 : decode cX1_drink 34 = .ok (.iload 4, 2) := by decide +kernel
theorem dX1_drink_36 : decode cX1_drink 36 = .ok (.aload_n 0, 1) := by decide +kernel
theorem dX1_drink_37 : decode cX1_drink 37 = .ok (.aload_n 1, 1) := by decide +kernel
theorem dX1_drink_38 : decode cX1_drink 38 = .ok (.getfield 84, 3) := by decide +kernel
theorem dX1_drink_41 : decode cX1_drink 41 = .ok (.iload 4, 2) := by decide +kernel
theorem dX1_drink_43 : decode cX1_drink 43 = .ok (.invokevirtual 218, 3) := by decide +kernel
theorem dX1_drink_46 : decode cX1_drink 46 = .ok (.ifCond .eq 7, 3) := by decide +kernel
theorem dX1_drink_49 : decode cX1_drink 49 = .ok (.iconst 1, 1) := by decide +kernel
theorem dX1_drink_50 : decode cX1_drink 50 = .ok (.goto 4, 3) := by decide +kernel
theorem dX1_drink_53 : decode cX1_drink 53 = .ok (.iconst 0, 1) := by decide +kernel
theorem dX1_drink_54 : decode cX1_drink 54 = .ok (.iastore, 1) := by decide +kernel
theorem dX1_drink_55 : decode cX1_drink 55 = .ok (.aload_n 0, 1) := by decide +kernel
theorem dX1_drink_56 : decode cX1_drink 56 = .ok (.getfield 30, 3) := by decide +kernel
theorem dX1_drink_59 : decode cX1_drink 59 = .ok (.iload_n 3, 1) := by decide +kernel
theorem dX1_drink_60 : decode cX1_drink 60 = .ok (.iload 4, 2) := by decide +kernel
theorem dX1_drink_62 : decode cX1_drink 62 = .ok (.iastore, 1) := by decide +kernel
theorem dX1_drink_63 : decode cX1_drink 63 = .ok (.iinc 3 1, 3) := by decide +kernel
theorem dX1_drink_66 : decode cX1_drink 66 = .ok (.iinc 4 1, 3) := by decide +kernel
theorem dX1_drink_69 : decode cX1_drink 69 = .ok (.goto (-59), 3) := by decide +kernel
theorem dX1_drink_72 : decode cX1_drink 72 = .ok (.iload_n 3, 1) := by decide +kernel
theorem dX1_drink_73 : decode cX1_drink 73 = .ok (.ifCond .ne 4, 3) := by decide +kernel
theorem dX1_drink_76 : decode cX1_drink 76 = .ok (.return_, 1) := by decide +kernel
theorem dX1_drink_77 : decode cX1_drink 77 = .ok (.iconst 0, 1) := by decide +kernel
theorem dX1_drink_78 : decode cX1_drink 78 = .ok (.istore 4, 2) := by decide +kernel
theorem dX1_drink_80 : decode cX1_drink 80 = .ok (.iload 4, 2) := by decide +kernel
theorem dX1_drink_82 : decode cX1_drink 82 = .ok (.bipush 100, 2) := by decide +kernel
theorem dX1_drink_84 : decode cX1_drink 84 = .ok (.if_icmp .ge 107, 3) := by decide +kernel
theorem dX1_drink_87 : decode cX1_drink 87 = .ok (.aload_n 2, 1) := by decide +kernel
theorem dX1_drink_88 : decode cX1_drink 88 = .ok (.getfield 95, 3) := by decide +kernel
theorem dX1_drink_91 : decode cX1_drink 91 = .ok (.iload 4, 2) := by decide +kernel
theorem dX1_drink_93 : decode cX1_drink 93 = .ok (.iaload, 1) := by decide +kernel
theorem dX1_drink_94 : decode cX1_drink 94 = .ok (.ifCond .ne 6, 3) := by decide +kernel
theorem dX1_drink_97 : decode cX1_drink 97 = .ok (.goto 88, 3) := by decide +kernel
theorem dX1_drink_100 : decode cX1_drink 100 = .ok (.aload_n 0, 1) := by decide +kernel
theorem dX1_drink_101 : decode cX1_drink 101 = .ok (.getfield 30, 3) := by decide +kernel
theorem dX1_drink_104 : decode cX1_drink 104 = .ok (.iconst 0, 1) := by decide +kernel
theorem dX1_drink_105 : decode cX1_drink 105 = .ok (.iaload, 1) := by decide +kernel
theorem dX1_drink_106 : decode cX1_drink 106 = .ok (.istore 5, 2) := by decide +kernel
theorem dX1_drink_108 : decode cX1_drink 108 = .ok (.iconst 1, 1) := by decide +kernel
theorem dX1_drink_109 : decode cX1_drink 109 = .ok (.istore 6, 2) := by decide +kernel
theorem dX1_drink_111 : decode cX1_drink 111 = .ok (.iload 6, 2) := by decide +kernel
theorem dX1_drink_113 : decode cX1_drink 113 = .ok (.iload_n 3, 1) := by decide +kernel
theorem dX1_drink_114 : decode cX1_drink 114 = .ok (.if_icmp .ge 40, 3) := by decide +kernel
theorem dX1_drink_117 : decode cX1_drink 117 = .ok (.iload 4, 2) := by decide +kernel
theorem dX1_drink_119 : decode cX1_drink 119 = .ok (.aload_n 0, 1) := by decide +kernel
theorem dX1_drink_120 : decode cX1_drink 120 = .ok (.getfield 30, 3) := by decide +kernel
theorem dX1_drink_123 : decode cX1_drink 123 = .ok (.iload 6, 2) := by decide +kernel
theorem dX1_drink_125 : decode cX1_drink 125 = .ok (.iaload, 1) := by decide +kernel
theorem dX1_drink_126 : decode cX1_drink 126 = .ok (.invokestatic 222, 3) := by decide +kernel
theorem dX1_drink_129 : decode cX1_drink 129 = .ok (.iload 4, 2) := by decide +kernel
theorem dX1_drink_131 : decode cX1_drink 131 = .ok (.iload 5, 2) := by decide +kernel
theorem dX1_drink_133 : decode cX1_drink 133 = .ok (.invokestatic 222, 3) := by decide +kernel
theorem dX1_drink_136 : decode cX1_drink 136 = .ok (.if_icmp .ge 12, 3) := by decide +kernel
theorem dX1_drink_139 : decode cX1_drink 139 = .ok (.aload_n 0, 1) := by decide +kernel
theorem dX1_drink_140 : decode cX1_drink 140 = .ok (.getfield 30, 3) := by decide +kernel
theorem dX1_drink_143 : decode cX1_drink 143 = .ok (.iload 6, 2) := by decide +kernel
theorem dX1_drink_145 : decode cX1_drink 145 = .ok (.iaload, 1) := by decide +kernel
theorem dX1_drink_146 : decode cX1_drink 146 = .ok (.istore 5, 2) := by decide +kernel
theorem dX1_drink_148 : decode cX1_drink 148 = .ok (.iinc 6 1, 3) := by decide +kernel
theorem dX1_drink_151 : decode cX1_drink 151 = .ok (.goto (-40), 3) := by decide +kernel
theorem dX1_drink_154 : decode cX1_drink 154 = .ok (.aload_n 0, 1) := by decide +kernel
theorem dX1_drink_155 : decode cX1_drink 155 = .ok (.getfield 27, 3) := by decide +kernel
theorem dX1_drink_158 : decode cX1_drink 158 = .ok (.iload 5, 2) := by decide +kernel
theorem dX1_drink_160 : decode cX1_drink 160 = .ok (.iaload, 1) := by decide +kernel
theorem dX1_drink_161 : decode cX1_drink 161 = .ok (.iconst 1, 1) := by decide +kernel
theorem dX1_drink_162 : decode cX1_drink 162 = .ok (.if_icmp .ne 23, 3) := by decide +kernel
theorem dX1_drink_165 : decode cX1_drink 165 = .ok (.aload_n 2, 1) := by decide +kernel
theorem dX1_drink_166 : decode cX1_drink 166 = .ok (.getfield 225, 3) := by decide +kernel
theorem dX1_drink_169 : decode cX1_drink 169 = .ok (.iload 5, 2) := by decide +kernel
theorem dX1_drink_171 : decode cX1_drink 171 = .ok (.dup2, 1) := by decide +kernel
theorem dX1_drink_172 : decode cX1_drink 172 = .ok (.iaload, 1) := by decide +kernel
theorem dX1_drink_173 : decode cX1_drink 173 = .ok (.aload_n 2, 1) := by decide +kernel
theorem dX1_drink_174 : decode cX1_drink 174 = .ok (.getfield 95, 3) := by decide +kernel
theorem dX1_drink_177 : decode cX1_drink 177 = .ok (.iload 4, 2) := by decide +kernel
theorem dX1_drink_179 : decode cX1_drink 179 = .ok (.iaload, 1) := by decide +kernel
theorem dX1_drink_180 : decode cX1_drink 180 = .ok (.bipush 50, 2) := by decide +kernel
theorem dX1_drink_182 : decode cX1_drink 182 = .ok (.idiv, 1) := by decide +kernel
theorem dX1_drink_183 : decode cX1_drink 183 = .ok (.iadd, 1) := by decide +kernel
theorem dX1_drink_184 : decode cX1_drink 184 = .ok (.iastore, 1) := by decide +kernel
theorem dX1_drink_185 : decode cX1_drink 185 = .ok (.iinc 4 1, 3) := by decide +kernel
theorem dX1_drink_188 : decode cX1_drink 188 = .ok (.goto (-108), 3) := by decide +kernel
theorem dX1_drink_191 : decode cX1_drink 191 = .ok (.return_, 1) := by decide +kernel
theorem dX1_fillCellars_0 : decode cX1_fillCellars 0 = .ok (.iconst 0, 1) := by decide +kernel
theorem dX1_fillCellars_1 : decode cX1_fillCellars 1 = .ok (.istore_n 2, 1) := by decide +kernel
theorem dX1_fillCellars_2 : decode cX1_fillCellars 2 = .ok (.iload_n 2, 1) := by decide +kernel
theorem dX1_fillCellars_3 : decode cX1_fillCellars 3 = .ok (.bipush 100, 2) := by decide +kernel
theorem dX1_fillCellars_5 : decode cX1_fillCellars 5 = .ok (.if_icmp .ge 140, 3) := by decide +kernel
theorem dX1_fillCellars_8 : decode cX1_fillCellars 8 = .ok (.aload_n 1, 1) := by decide +kernel
theorem dX1_fillCellars_9 : decode cX1_fillCellars 9 = .ok (.iload_n 2, 1) := by decide +kernel
theorem dX1_fillCellars_10 : decode cX1_fillCellars 10 = .ok (.invokevirtual 200, 3) := by decide +kernel
theorem dX1_fillCellars_13 : decode cX1_fillCellars 13 = .ok (.aload_n 0, 1) := by decide +kernel
theorem dX1_fillCellars_14 : decode cX1_fillCellars 14 = .ok (.getfield 18, 3) := by decide +kernel
theorem dX1_fillCellars_17 : decode cX1_fillCellars 17 = .ok (.iload_n 2, 1) := by decide +kernel
theorem dX1_fillCellars_18 : decode cX1_fillCellars 18 = .ok (.iaload, 1) := by decide +kernel
theorem dX1_fillCellars_19 : decode cX1_fillCellars 19 = .ok (.i2l, 1) := by decide +kernel
theorem dX1_fillCellars_20 : decode cX1_fillCellars 20 = .ok (.lsub, 1) := by decide +kernel
theorem dX1_fillCellars_21 : decode cX1_fillCellars 21 = .ok (.lstore_n 3, 1) := by decide +kernel
theorem dX1_fillCellars_22 : decode cX1_fillCellars 22 = .ok (.lload_n 3, 1) := by decide +kernel
theorem dX1_fillCellars_23 : decode cX1_fillCellars 23 = .ok (.lconst 0, 1) := by decide +kernel
theorem dX1_fillCellars_24 : decode cX1_fillCellars 24 = .ok (.lcmp, 1) := by decide +kernel
theorem dX1_fillCellars_25 : decode cX1_fillCellars 25 = .ok (.ifCond .le 28, 3) := by decide +kernel
theorem dX1_fillCellars_28 : decode cX1_fillCellars 28 = .ok (.lload_n 3, 1) := by decide +kernel
theorem dX1_fillCellars_29 : decode cX1_fillCellars 29 = .ok (.aload_n 1, 1) := by decide +kernel
theorem dX1_fillCellars_30 : decode cX1_fillCellars 30 = .ok (.getfield 103, 3) := by decide +kernel
theorem dX1_fillCellars_33 : decode cX1_fillCellars 33 = .ok (.iload_n 2, 1) := by decide +kernel
theorem dX1_fillCellars_34 : decode cX1_fillCellars 34 = .ok (.iaload, 1) := by decide +kernel
theorem dX1_fillCellars_35 : decode cX1_fillCellars 35 = .ok (.i2l, 1) := by decide +kernel
theorem dX1_fillCellars_36 : decode cX1_fillCellars 36 = .ok (.invokestatic 204, 3) := by decide +kernel
theorem dX1_fillCellars_39 : decode cX1_fillCellars 39 = .ok (.l2i, 1) := by decide +kernel
theorem dX1_fillCellars_40 : decode cX1_fillCellars 40 = .ok (.istore 6, 2) := by decide +kernel
theorem dX1_fillCellars_42 : decode cX1_fillCellars 42 = .ok (.lload_n 3, 1) := by decide +kernel
theorem dX1_fillCellars_43 : decode cX1_fillCellars 43 = .ok (.iload 6, 2) := by decide +kernel
theorem dX1_fillCellars_45 : decode cX1_fillCellars 45 = .ok (.i2l, 1) := by decide +kernel
theorem dX1_fillCellars_46 : decode cX1_fillCellars 46 = .ok (.lsub, 1) := by decide +kernel
theorem dX1_fillCellars_47 : decode cX1_fillCellars 47 = .ok (.l2i, 1) := by decide +kernel
theorem dX1_fillCellars_48 : decode cX1_fillCellars 48 = .ok (.istore 5, 2) := by decide +kernel
theorem dX1_fillCellars_50 : decode cX1_fillCellars 50 = .ok (.goto 45, 3) := by decide +kernel
theorem dX1_fillCellars_53 : decode cX1_fillCellars 53 = .ok (.lload_n 3, 1) := by decide +kernel
theorem dX1_fillCellars_54 : decode cX1_fillCellars 54 = .ok (.lneg, 1) := by decide +kernel
theorem dX1_fillCellars_55 : decode cX1_fillCellars 55 = .ok (.ldc2_w 207, 3) := by decide +kernel
theorem dX1_fillCellars_58 : decode cX1_fillCellars 58 = .ok (.invokestatic 204, 3) := by decide +kernel
theorem dX1_fillCellars_61 : decode cX1_fillCellars 61 = .ok (.l2i, 1) := by decide +kernel
theorem dX1_fillCellars_62 : decode cX1_fillCellars 62 = .ok (.istore 7, 2) := by decide +kernel
theorem dX1_fillCellars_64 : decode cX1_fillCellars 64 = .ok (.iload 7, 2) := by decide +kernel
theorem dX1_fillCellars_66 : decode cX1_fillCellars 66 = .ok (.aload_n 1, 1) := by decide +kernel
theorem dX1_fillCellars_67 : decode cX1_fillCellars 67 = .ok (.getfield 209, 3) := by decide +kernel
theorem dX1_fillCellars_70 : decode cX1_fillCellars 70 = .ok (.iload_n 2, 1) := by decide +kernel
theorem dX1_fillCellars_71 : decode cX1_fillCellars 71 = .ok (.iaload, 1) := by decide +kernel
theorem dX1_fillCellars_72 : decode cX1_fillCellars 72 = .ok (.invokestatic 134, 3) := by decide +kernel
theorem dX1_fillCellars_75 : decode cX1_fillCellars 75 = .ok (.ineg, 1) := by decide +kernel
theorem dX1_fillCellars_76 : decode cX1_fillCellars 76 = .ok (.istore 5, 2) := by decide +kernel
theorem dX1_fillCellars_78 : decode cX1_fillCellars 78 = .ok (.iload 7, 2) := by decide +kernel
theorem dX1_fillCellars_80 : decode cX1_fillCellars 80 = .ok (.iload 5, 2) := by decide +kernel
theorem dX1_fillCellars_82 : decode cX1_fillCellars 82 = .ok (.iadd, 1) := by decide +kernel
theorem dX1_fillCellars_83 : decode cX1_fillCellars 83 = .ok (.aload_n 1, 1) := by decide +kernel
theorem dX1_fillCellars_84 : decode cX1_fillCellars 84 = .ok (.getfield 212, 3) := by decide +kernel
theorem dX1_fillCellars_87 : decode cX1_fillCellars 87 = .ok (.iload_n 2, 1) := by decide +kernel
theorem dX1_fillCellars_88 : decode cX1_fillCellars 88 = .ok (.iaload, 1) := by decide +kernel
theorem dX1_fillCellars_89 : decode cX1_fillCellars 89 = .ok (.invokestatic 134, 3) := by decide +kernel
theorem dX1_fillCellars_92 : decode cX1_fillCellars 92 = .ok (.ineg, 1) := by decide +kernel
theorem dX1_fillCellars_93 : decode cX1_fillCellars 93 = .ok (.istore 6, 2) := by decide +kernel
theorem dX1_fillCellars_95 : decode cX1_fillCellars 95 = .ok (.aload_n 1, 1) := by decide +kernel
theorem dX1_fillCellars_96 : decode cX1_fillCellars 96 = .ok (.getfield 98, 3) := by decide +kernel
theorem dX1_fillCellars_99 : decode cX1_fillCellars 99 = .ok (.iload_n 2, 1) := by decide +kernel
theorem dX1_fillCellars_100 : decode cX1_fillCellars 100 = .ok (.dup2, 1) := by decide +kernel
theorem dX1_fillCellars_101 : decode cX1_fillCellars 101 = .ok (.iaload, 1) := by decide +kernel
theorem dX1_fillCellars_102 : decode cX1_fillCellars 102 = .ok (.iload 5, 2) := by decide +kernel
theorem dX1_fillCellars_104 : decode cX1_fillCellars 104 = .ok (.isub, 1) := by decide +kernel
theorem dX1_fillCellars_105 : decode cX1_fillCellars 105 = .ok (.iastore, 1) := by decide +kernel
theorem dX1_fillCellars_106 : decode cX1_fillCellars 106 = .ok (.aload_n 1, 1) := by decide +kernel
theorem dX1_fillCellars_107 : decode cX1_fillCellars 107 = .ok (.getfield 103, 3) := by decide +kernel
theorem dX1_fillCellars_110 : decode cX1_fillCellars 110 = .ok (.iload_n 2, 1) := by decide +kernel
theorem dX1_fillCellars_111 : decode cX1_fillCellars 111 = .ok (.dup2, 1) := by decide +kernel
theorem dX1_fillCellars_112 : decode cX1_fillCellars 112 = .ok (.iaload, 1) := by decide +kernel
theorem dX1_fillCellars_113 : decode cX1_fillCellars 113 = .ok (.iload 6, 2) := by decide +kernel
theorem dX1_fillCellars_115 : decode cX1_fillCellars 115 = .ok (.isub, 1) := by decide +kernel
theorem dX1_fillCellars_116 : decode cX1_fillCellars 116 = .ok (.iastore, 1) := by decide +kernel
theorem dX1_fillCellars_117 : decode cX1_fillCellars 117 = .ok (.aload_n 1, 1) := by decide +kernel
theorem dX1_fillCellars_118 : decode cX1_fillCellars 118 = .ok (.getfield 209, 3) := by decide +kernel
theorem dX1_fillCellars_121 : decode cX1_fillCellars 121 = .ok (.iload_n 2, 1) := by decide +kernel
theorem dX1_fillCellars_122 : decode cX1_fillCellars 122 = .ok (.dup2, 1) := by decide +kernel
theorem dX1_fillCellars_123 : decode cX1_fillCellars 123 = .ok (.iaload, 1) := by decide +kernel
theorem dX1_fillCellars_124 : decode cX1_fillCellars 124 = .ok (.iload 5, 2) := by decide +kernel
theorem dX1_fillCellars_126 : decode cX1_fillCellars 126 = .ok (.iadd, 1) := by decide +kernel
theorem dX1_fillCellars_127 : decode cX1_fillCellars 127 = .ok (.iastore, 1) := by decide +kernel
theorem dX1_fillCellars_128 : decode cX1_fillCellars 128 = .ok (.aload_n 1, 1) := by decide +kernel
theorem dX1_fillCellars_129 : decode cX1_fillCellars 129 = .ok (.getfield 212, 3) := by decide +kernel
theorem dX1_fillCellars_132 : decode cX1_fillCellars 132 = .ok (.iload_n 2, 1) := by decide +kernel
theorem dX1_fillCellars_133 : decode cX1_fillCellars 133 = .ok (.dup2, 1) := by decide +kernel
theorem dX1_fillCellars_134 : decode cX1_fillCellars 134 = .ok (.iaload, 1) := by decide +kernel
theorem dX1_fillCellars_135 : decode cX1_fillCellars 135 = .ok (.iload 6, 2) := by decide +kernel
theorem dX1_fillCellars_137 : decode cX1_fillCellars 137 = .ok (.iadd, 1) := by decide +kernel
theorem dX1_fillCellars_138 : decode cX1_fillCellars 138 = .ok (.iastore, 1) := by decide +kernel
theorem dX1_fillCellars_139 : decode cX1_fillCellars 139 = .ok (.iinc 2 1, 3) := by decide +kernel
theorem dX1_fillCellars_142 : decode cX1_fillCellars 142 = .ok (.goto (-140), 3) := by decide +kernel
theorem dX1_fillCellars_145 : decode cX1_fillCellars 145 = .ok (.return_, 1) := by decide +kernel
theorem dX1_fillTank_0 : decode cX1_fillTank 0 = .ok (.aload_n 2, 1) := by decide +kernel
theorem dX1_fillTank_1 : decode cX1_fillTank 1 = .ok (.getfield 197, 3) := by decide +kernel
theorem dX1_fillTank_4 : decode cX1_fillTank 4 = .ok (.iload_n 3, 1) := by decide +kernel
theorem dX1_fillTank_5 : decode cX1_fillTank 5 = .ok (.iaload, 1) := by decide +kernel
theorem dX1_fillTank_6 : decode cX1_fillTank 6 = .ok (.aload_n 2, 1) := by decide +kernel
theorem dX1_fillTank_7 : decode cX1_fillTank 7 = .ok (.getfield 176, 3) := by decide +kernel
theorem dX1_fillTank_10 : decode cX1_fillTank 10 = .ok (.iload_n 3, 1) := by decide +kernel
theorem dX1_fillTank_11 : decode cX1_fillTank 11 = .ok (.iaload, 1) := by decide +kernel
theorem dX1_fillTank_12 : decode cX1_fillTank 12 = .ok (.isub, 1) := by decide +kernel
theorem dX1_fillTank_13 : decode cX1_fillTank 13 = .ok (.aload_n 2, 1) := by decide +kernel
theorem dX1_fillTank_14 : decode cX1_fillTank 14 = .ok (.getfield 182, 3) := by decide +kernel
theorem dX1_fillTank_17 : decode cX1_fillTank 17 = .ok (.iload_n 3, 1) := by decide +kernel
theorem dX1_fillTank_18 : decode cX1_fillTank 18 = .ok (.iaload, 1) := by decide +kernel
theorem dX1_fillTank_19 : decode cX1_fillTank 19 = .ok (.isub, 1) := by decide +kernel
theorem dX1_fillTank_20 : decode cX1_fillTank 20 = .ok (.istore 4, 2) := by decide +kernel
theorem dX1_fillTank_22 : decode cX1_fillTank 22 = .ok (.aload_n 1, 1) := by decide +kernel
theorem dX1_fillTank_23 : decode cX1_fillTank 23 = .ok (.getfield 98, 3) := by decide +kernel
theorem dX1_fillTank_26 : decode cX1_fillTank 26 = .ok (.iload_n 3, 1) := by decide +kernel
theorem dX1_fillTank_27 : decode cX1_fillTank 27 = .ok (.iaload, 1) := by decide +kernel
theorem dX1_fillTank_28 : decode cX1_fillTank 28 = .ok (.iload 4, 2) := by decide +kernel
theorem dX1_fillTank_30 : decode cX1_fillTank 30 = .ok (.invokestatic 134, 3) := by decide +kernel
theorem dX1_fillTank_33 : decode cX1_fillTank 33 = .ok (.istore 5, 2) := by decide +kernel
theorem dX1_fillTank_35 : decode cX1_fillTank 35 = .ok (.aload_n 1, 1) := by decide +kernel
theorem dX1_fillTank_36 : decode cX1_fillTank 36 = .ok (.getfield 103, 3) := by decide +kernel
theorem dX1_fillTank_39 : decode cX1_fillTank 39 = .ok (.iload_n 3, 1) := by decide +kernel
theorem dX1_fillTank_40 : decode cX1_fillTank 40 = .ok (.iaload, 1) := by decide +kernel
theorem dX1_fillTank_41 : decode cX1_fillTank 41 = .ok (.iload 4, 2) := by decide +kernel
theorem dX1_fillTank_43 : decode cX1_fillTank 43 = .ok (.iload 5, 2) := by decide +kernel
theorem dX1_fillTank_45 : decode cX1_fillTank 45 = .ok (.isub, 1) := by decide +kernel
theorem dX1_fillTank_46 : decode cX1_fillTank 46 = .ok (.invokestatic 134, 3) := by decide +kernel
theorem dX1_fillTank_49 : decode cX1_fillTank 49 = .ok (.istore 6, 2) := by decide +kernel
theorem dX1_fillTank_51 : decode cX1_fillTank 51 = .ok (.aload_n 1, 1) := by decide +kernel
theorem dX1_fillTank_52 : decode cX1_fillTank 52 = .ok (.getfield 98, 3) := by decide +kernel
theorem dX1_fillTank_55 : decode cX1_fillTank 55 = .ok (.iload_n 3, 1) := by decide +kernel
theorem dX1_fillTank_56 : decode cX1_fillTank 56 = .ok (.dup2, 1) := by decide +kernel
theorem dX1_fillTank_57 : decode cX1_fillTank 57 = .ok (.iaload, 1) := by decide +kernel
theorem dX1_fillTank_58 : decode cX1_fillTank 58 = .ok (.iload 5, 2) := by decide +kernel
theorem dX1_fillTank_60 : decode cX1_fillTank 60 = .ok (.isub, 1) := by decide +kernel
theorem dX1_fillTank_61 : decode cX1_fillTank 61 = .ok (.iastore, 1) := by decide +kernel
theorem dX1_fillTank_62 : decode cX1_fillTank 62 = .ok (.aload_n 1, 1) := by decide +kernel
theorem dX1_fillTank_63 : decode cX1_fillTank 63 = .ok (.getfield 103, 3) := by decide +kernel
theorem dX1_fillTank_66 : decode cX1_fillTank 66 = .ok (.iload_n 3, 1) := by decide +kernel
theorem dX1_fillTank_67 : decode cX1_fillTank 67 = .ok (.dup2, 1) := by decide +kernel
theorem dX1_fillTank_68 : decode cX1_fillTank 68 = .ok (.iaload, 1) := by decide +kernel
theorem dX1_fillTank_69 : decode cX1_fillTank 69 = .ok (.iload 6, 2) := by decide +kernel
theorem dX1_fillTank_71 : decode cX1_fillTank 71 = .ok (.isub, 1) := by decide +kernel
theorem dX1_fillTank_72 : decode cX1_fillTank 72 = .ok (.iastore, 1) := by decide +kernel
theorem dX1_fillTank_73 : decode cX1_fillTank 73 = .ok (.aload_n 2, 1) := by decide +kernel
theorem dX1_fillTank_74 : decode cX1_fillTank 74 = .ok (.getfield 176, 3) := by decide +kernel
theorem dX1_fillTank_77 : decode cX1_fillTank 77 = .ok (.iload_n 3, 1) := by decide +kernel
theorem dX1_fillTank_78 : decode cX1_fillTank 78 = .ok (.dup2, 1) := by decide +kernel
theorem dX1_fillTank_79 : decode cX1_fillTank 79 = .ok (.iaload, 1) := by decide +kernel
theorem dX1_fillTank_80 : decode cX1_fillTank 80 = .ok (.iload 5, 2) := by decide +kernel
theorem dX1_fillTank_82 : decode cX1_fillTank 82 = .ok (.iadd, 1) := by decide +kernel
theorem dX1_fillTank_83 : decode cX1_fillTank 83 = .ok (.iastore, 1) := by decide +kernel
theorem dX1_fillTank_84 : decode cX1_fillTank 84 = .ok (.aload_n 2, 1) := by decide +kernel
theorem dX1_fillTank_85 : decode cX1_fillTank 85 = .ok (.getfield 182, 3) := by decide +kernel
theorem dX1_fillTank_88 : decode cX1_fillTank 88 = .ok (.iload_n 3, 1) := by decide +kernel
theorem dX1_fillTank_89 : decode cX1_fillTank 89 = .ok (.dup2, 1) := by decide +kernel
theorem dX1_fillTank_90 : decode cX1_fillTank 90 = .ok (.iaload, 1) := by decide +kernel
theorem dX1_fillTank_91 : decode cX1_fillTank 91 = .ok (.iload 6, 2) := by decide +kernel
theorem dX1_fillTank_93 : decode cX1_fillTank 93 = .ok (.iadd, 1) := by decide +kernel
theorem dX1_fillTank_94 : decode cX1_fillTank 94 = .ok (.iastore, 1) := by decide +kernel
theorem dX1_fillTank_95 : decode cX1_fillTank 95 = .ok (.return_, 1) := by decide +kernel
theorem dX1_leadLine_0 : decode cX1_leadLine 0 = .ok (.iconst 0, 1) := by decide +kernel
theorem dX1_leadLine_1 : decode cX1_leadLine 1 = .ok (.istore_n 3, 1) := by decide +kernel
theorem dX1_leadLine_2 : decode cX1_leadLine 2 = .ok (.iload_n 3, 1) := by decide +kernel
theorem dX1_leadLine_3 : decode cX1_leadLine 3 = .ok (.aload_n 2, 1) := by decide +kernel
theorem dX1_leadLine_4 : decode cX1_leadLine 4 = .ok (.getfield 59, 3) := by decide +kernel
theorem dX1_leadLine_7 : decode cX1_leadLine 7 = .ok (.if_icmp .ge 145, 3) := by decide +kernel
theorem dX1_leadLine_10 : decode cX1_leadLine 10 = .ok (.iload_n 3, 1) := by decide +kernel
theorem dX1_leadLine_11 : decode cX1_leadLine 11 = .ok (.bipush 19, 2) := by decide +kernel
theorem dX1_leadLine_13 : decode cX1_leadLine 13 = .ok (.if_icmp .ge 139, 3) := by decide +kernel
theorem dX1_leadLine_16 : decode cX1_leadLine 16 = .ok (.aload_n 2, 1) := by decide +kernel
theorem dX1_leadLine_17 : decode cX1_leadLine 17 = .ok (.getfield 64, 3) := by decide +kernel
theorem dX1_leadLine_20 : decode cX1_leadLine 20 = .ok (.iload_n 3, 1) := by decide +kernel
theorem dX1_leadLine_21 : decode cX1_leadLine 21 = .ok (.iaload, 1) := by decide +kernel
theorem dX1_leadLine_22 : decode cX1_leadLine 22 = .ok (.istore 4, 2) := by decide +kernel
theorem dX1_leadLine_24 : decode cX1_leadLine 24 = .ok (.aload_n 1, 1) := by decide +kernel
theorem dX1_leadLine_25 : decode cX1_leadLine 25 = .ok (.getfield 39, 3) := by decide +kernel
theorem dX1_leadLine_28 : decode cX1_leadLine 28 = .ok (.iload 4, 2) := by decide +kernel
theorem dX1_leadLine_30 : decode cX1_leadLine 30 = .ok (.iaload, 1) := by decide +kernel
theorem dX1_leadLine_31 : decode cX1_leadLine 31 = .ok (.istore 5, 2) := by decide +kernel
theorem dX1_leadLine_33 : decode cX1_leadLine 33 = .ok (.iload_n 3, 1) := by decide +kernel
theorem dX1_leadLine_34 : decode cX1_leadLine 34 = .ok (.iconst 1, 1) := by decide +kernel
theorem dX1_leadLine_35 : decode cX1_leadLine 35 = .ok (.iadd, 1) := by decide +kernel
theorem dX1_leadLine_36 : decode cX1_leadLine 36 = .ok (.aload_n 2, 1) := by decide +kernel
theorem dX1_leadLine_37 : decode cX1_leadLine 37 = .ok (.getfield 59, 3) := by decide +kernel
theorem dX1_leadLine_40 : decode cX1_leadLine 40 = .ok (.if_icmp .ge 11, 3) := by decide +kernel
theorem dX1_leadLine_43 : decode cX1_leadLine 43 = .ok (.iload_n 3, 1) := by decide +kernel
theorem dX1_leadLine_44 : decode cX1_leadLine 44 = .ok (.iconst 1, 1) := by decide +kernel
theorem dX1_leadLine_45 : decode cX1_leadLine 45 = .ok (.iadd, 1) := by decide +kernel
theorem dX1_leadLine_46 : decode cX1_leadLine 46 = .ok (.bipush 19, 2) := by decide +kernel
theorem dX1_leadLine_48 : decode cX1_leadLine 48 = .ok (.if_icmp .lt 7, 3) := by decide +kernel
theorem dX1_leadLine_51 : decode cX1_leadLine 51 = .ok (.iconst 1, 1) := by decide +kernel
theorem dX1_leadLine_52 : decode cX1_leadLine 52 = .ok (.goto 4, 3) := by decide +kernel
theorem dX1_leadLine_55 : decode cX1_leadLine 55 = .ok (.iconst 0, 1) := by decide +kernel
theorem dX1_leadLine_56 : decode cX1_leadLine 56 = .ok (.istore 6, 2) := by decide +kernel
theorem dX1_leadLine_58 : decode cX1_leadLine 58 = .ok (.aload_n 0, 1) := by decide +kernel
theorem dX1_leadLine_59 : decode cX1_leadLine 59 = .ok (.getfield 9, 3) := by decide +kernel
theorem dX1_leadLine_62 : decode cX1_leadLine 62 = .ok (.iload 4, 2) := by decide +kernel
theorem dX1_leadLine_64 : decode cX1_leadLine 64 = .ok (.iload 6, 2) := by decide +kernel
theorem dX1_leadLine_66 : decode cX1_leadLine 66 = .ok (.ifCond .eq 13, 3) := by decide +kernel
theorem dX1_leadLine_69 : decode cX1_leadLine 69 = .ok (.aload_n 1, 1) := by decide +kernel
theorem dX1_leadLine_70 : decode cX1_leadLine 70 = .ok (.getfield 44, 3) := by decide +kernel
theorem dX1_leadLine_73 : decode cX1_leadLine 73 = .ok (.iload 4, 2) := by decide +kernel
theorem dX1_leadLine_75 : decode cX1_leadLine 75 = .ok (.iaload, 1) := by decide +kernel
theorem dX1_leadLine_76 : decode cX1_leadLine 76 = .ok (.goto 11, 3) := by decide +kernel
theorem dX1_leadLine_79 : decode cX1_leadLine 79 = .ok (.aload_n 2, 1) := by decide +kernel
theorem dX1_leadLine_80 : decode cX1_leadLine 80 = .ok (.getfield 64, 3) := by decide +kernel
theorem dX1_leadLine_83 : decode cX1_leadLine 83 = .ok (.iload_n 3, 1) := by decide +kernel
theorem dX1_leadLine_84 : decode cX1_leadLine 84 = .ok (.iconst 1, 1) := by decide +kernel
theorem dX1_leadLine_85 : decode cX1_leadLine 85 = .ok (.iadd, 1) := by decide +kernel
theorem dX1_leadLine_86 : decode cX1_leadLine 86 = .ok (.iaload, 1) := by decide +kernel
theorem dX1_leadLine_87 : decode cX1_leadLine 87 = .ok (.iastore, 1) := by decide +kernel
theorem dX1_leadLine_88 : decode cX1_leadLine 88 = .ok (.aload_n 0, 1) := by decide +kernel
theorem dX1_leadLine_89 : decode cX1_leadLine 89 = .ok (.getfield 15, 3) := by decide +kernel
theorem dX1_leadLine_92 : decode cX1_leadLine 92 = .ok (.iload 4, 2) := by decide +kernel
theorem dX1_leadLine_94 : decode cX1_leadLine 94 = .ok (.iload 6, 2) := by decide +kernel
theorem dX1_leadLine_96 : decode cX1_leadLine 96 = .ok (.ifCond .eq 14, 3) := by decide +kernel
theorem dX1_leadLine_99 : decode cX1_leadLine 99 = .ok (.bipush 20, 2) := by decide +kernel
theorem dX1_leadLine_101 : decode cX1_leadLine 101 = .ok (.iload 5, 2) := by decide +kernel
theorem dX1_leadLine_103 : decode cX1_leadLine 103 = .ok (.imul, 1) := by decide +kernel
theorem dX1_leadLine_104 : decode cX1_leadLine 104 = .ok (.iload 5, 2) := by decide +kernel
theorem dX1_leadLine_106 : decode cX1_leadLine 106 = .ok (.imul, 1) := by decide +kernel
theorem dX1_leadLine_107 : decode cX1_leadLine 107 = .ok (.goto 15, 3) := by decide +kernel
theorem dX1_leadLine_110 : decode cX1_leadLine 110 = .ok (.bipush 30, 2) := by decide +kernel
theorem dX1_leadLine_112 : decode cX1_leadLine 112 = .ok (.aload_n 2, 1) := by decide +kernel
theorem dX1_leadLine_113 : decode cX1_leadLine 113 = .ok (.getfield 67, 3) := by decide +kernel
theorem dX1_leadLine_116 : decode cX1_leadLine 116 = .ok (.imul, 1) := by decide +kernel
theorem dX1_leadLine_117 : decode cX1_leadLine 117 = .ok (.aload_n 2, 1) := by decide +kernel
theorem dX1_leadLine_118 : decode cX1_leadLine 118 = .ok (.getfield 67, 3) := by decide +kernel
theorem dX1_leadLine_121 : decode cX1_leadLine 121 = .ok (.imul, 1) := by decide +kernel
theorem dX1_leadLine_122 : decode cX1_leadLine 122 = .ok (.iastore, 1) := by decide +kernel
theorem dX1_leadLine_123 : decode cX1_leadLine 123 = .ok (.aload_n 0, 1) := by decide +kernel
theorem dX1_leadLine_124 : decode cX1_leadLine 124 = .ok (.getfield 18, 3) := by decide +kernel
theorem dX1_leadLine_127 : decode cX1_leadLine 127 = .ok (.iload 4, 2) := by decide +kernel
theorem dX1_leadLine_129 : decode cX1_leadLine 129 = .ok (.bipush 50, 2) := by decide +kernel
theorem dX1_leadLine_131 : decode cX1_leadLine 131 = .ok (.bipush 40, 2) := by decide +kernel
theorem dX1_leadLine_133 : decode cX1_leadLine 133 = .ok (.iload 5, 2) := by decide +kernel
theorem dX1_leadLine_135 : decode cX1_leadLine 135 = .ok (.imul, 1) := by decide +kernel
theorem dX1_leadLine_136 : decode cX1_leadLine 136 = .ok (.iadd, 1) := by decide +kernel
theorem dX1_leadLine_137 : decode cX1_leadLine 137 = .ok (.bipush 60, 2) := by decide +kernel
theorem dX1_leadLine_139 : decode cX1_leadLine 139 = .ok (.aload_n 2, 1) := by decide +kernel
theorem dX1_leadLine_140 : decode cX1_leadLine 140 = .ok (.getfield 67, 3) := by decide +kernel
theorem dX1_leadLine_143 : decode cX1_leadLine 143 = .ok (.imul, 1) := by decide +kernel
theorem dX1_leadLine_144 : decode cX1_leadLine 144 = .ok (.iadd, 1) := by decide +kernel
theorem dX1_leadLine_145 : decode cX1_leadLine 145 = .ok (.iastore, 1) := by decide +kernel
theorem dX1_leadLine_146 : decode cX1_leadLine 146 = .ok (.iinc 3 1, 3) := by decide +kernel
theorem dX1_leadLine_149 : decode cX1_leadLine 149 = .ok (.goto (-147), 3) := by decide +kernel
theorem dX1_leadLine_152 : decode cX1_leadLine 152 = .ok (.return_, 1) := by decide +kernel
theorem dX1_lead_0 : decode cX1_lead 0 = .ok (.aload_n 1, 1) := by decide +kernel
theorem dX1_lead_1 : decode cX1_lead 1 = .ok (.getfield 33, 3) := by decide +kernel
theorem dX1_lead_4 : decode cX1_lead 4 = .ok (.astore_n 3, 1) := by decide +kernel
theorem dX1_lead_5 : decode cX1_lead 5 = .ok (.iconst 0, 1) := by decide +kernel
theorem dX1_lead_6 : decode cX1_lead 6 = .ok (.istore 4, 2) := by decide +kernel
theorem dX1_lead_8 : decode cX1_lead 8 = .ok (.iload 4, 2) := by decide +kernel
theorem dX1_lead_10 : decode cX1_lead 10 = .ok (.bipush 100, 2) := by decide +kernel
theorem dX1_lead_12 : decode cX1_lead 12 = .ok (.if_icmp .ge 62, 3) := by decide +kernel
theorem dX1_lead_15 : decode cX1_lead 15 = .ok (.aload_n 3, 1) := by decide +kernel
theorem dX1_lead_16 : decode cX1_lead 16 = .ok (.getfield 39, 3) := by decide +kernel
theorem dX1_lead_19 : decode cX1_lead 19 = .ok (.iload 4, 2) := by decide +kernel
theorem dX1_lead_21 : decode cX1_lead 21 = .ok (.iaload, 1) := by decide +kernel
theorem dX1_lead_22 : decode cX1_lead 22 = .ok (.istore 5, 2) := by decide +kernel
theorem dX1_lead_24 : decode cX1_lead 24 = .ok (.aload_n 0, 1) := by decide +kernel
theorem dX1_lead_25 : decode cX1_lead 25 = .ok (.getfield 9, 3) := by decide +kernel
theorem dX1_lead_28 : decode cX1_lead 28 = .ok (.iload 4, 2) := by decide +kernel
theorem dX1_lead_30 : decode cX1_lead 30 = .ok (.aload_n 3, 1) := by decide +kernel
theorem dX1_lead_31 : decode cX1_lead 31 = .ok (.getfield 44, 3) := by decide +kernel
theorem dX1_lead_34 : decode cX1_lead 34 = .ok (.iload 4, 2) := by decide +kernel
theorem dX1_lead_36 : decode cX1_lead 36 = .ok (.iaload, 1) := by decide +kernel
theorem dX1_lead_37 : decode cX1_lead 37 = .ok (.iastore, 1) := by decide +kernel
theorem dX1_lead_38 : decode cX1_lead 38 = .ok (.aload_n 0, 1) := by decide +kernel
theorem dX1_lead_39 : decode cX1_lead 39 = .ok (.getfield 15, 3) := by decide +kernel
theorem dX1_lead_42 : decode cX1_lead 42 = .ok (.iload 4, 2) := by decide +kernel
theorem dX1_lead_44 : decode cX1_lead 44 = .ok (.bipush 20, 2) := by decide +kernel
theorem dX1_lead_46 : decode cX1_lead 46 = .ok (.iload 5, 2) := by decide +kernel
theorem dX1_lead_48 : decode cX1_lead 48 = .ok (.imul, 1) := by decide +kernel
theorem dX1_lead_49 : decode cX1_lead 49 = .ok (.iload 5, 2) := by decide +kernel
theorem dX1_lead_51 : decode cX1_lead 51 = .ok (.imul, 1) := by decide +kernel
theorem dX1_lead_52 : decode cX1_lead 52 = .ok (.iastore, 1) := by decide +kernel
theorem dX1_lead_53 : decode cX1_lead 53 = .ok (.aload_n 0, 1) := by decide +kernel
theorem dX1_lead_54 : decode cX1_lead 54 = .ok (.getfield 18, 3) := by decide +kernel
theorem dX1_lead_57 : decode cX1_lead 57 = .ok (.iload 4, 2) := by decide +kernel
theorem dX1_lead_59 : decode cX1_lead 59 = .ok (.bipush 50, 2) := by decide +kernel
theorem dX1_lead_61 : decode cX1_lead 61 = .ok (.bipush 40, 2) := by decide +kernel
theorem dX1_lead_63 : decode cX1_lead 63 = .ok (.iload 5, 2) := by decide +kernel
theorem dX1_lead_65 : decode cX1_lead 65 = .ok (.imul, 1) := by decide +kernel
theorem dX1_lead_66 : decode cX1_lead 66 = .ok (.iadd, 1) := by decide +kernel
theorem dX1_lead_67 : decode cX1_lead 67 = .ok (.iastore, 1) := by decide +kernel
theorem dX1_lead_68 : decode cX1_lead 68 = .ok (.iinc 4 1, 3) := by decide +kernel
theorem dX1_lead_71 : decode cX1_lead 71 = .ok (.goto (-63), 3) := by decide +kernel
theorem dX1_lead_74 : decode cX1_lead 74 = .ok (.aload_n 1, 1) := by decide +kernel
theorem dX1_lead_75 : decode cX1_lead 75 = .ok (.getfield 47, 3) := by decide +kernel
theorem dX1_lead_78 : decode cX1_lead 78 = .ok (.iconst 1, 1) := by decide +kernel
theorem dX1_lead_79 : decode cX1_lead 79 = .ok (.isub, 1) := by decide +kernel
theorem dX1_lead_80 : decode cX1_lead 80 = .ok (.istore 4, 2) := by decide +kernel
theorem dX1_lead_82 : decode cX1_lead 82 = .ok (.iload 4, 2) := by decide +kernel
theorem dX1_lead_84 : decode cX1_lead 84 = .ok (.ifCond .lt 31, 3) := by decide +kernel
theorem dX1_lead_87 : decode cX1_lead 87 = .ok (.iload_n 2, 1) := by decide +kernel
theorem dX1_lead_88 : decode cX1_lead 88 = .ok (.iload 4, 2) := by decide +kernel
theorem dX1_lead_90 : decode cX1_lead 90 = .ok (.ishr, 1) := by decide +kernel
theorem dX1_lead_91 : decode cX1_lead 91 = .ok (.iconst 1, 1) := by decide +kernel
theorem dX1_lead_92 : decode cX1_lead 92 = .ok (.iand, 1) := by decide +kernel
theorem dX1_lead_93 : decode cX1_lead 93 = .ok (.iconst 1, 1) := by decide +kernel
theorem dX1_lead_94 : decode cX1_lead 94 = .ok (.if_icmp .ne 15, 3) := by decide +kernel
theorem dX1_lead_97 : decode cX1_lead 97 = .ok (.aload_n 0, 1) := by decide +kernel
theorem dX1_lead_98 : decode cX1_lead 98 = .ok (.aload_n 3, 1) := by decide +kernel
theorem dX1_lead_99 : decode cX1_lead 99 = .ok (.aload_n 1, 1) := by decide +kernel
theorem dX1_lead_100 : decode cX1_lead 100 = .ok (.getfield 51, 3) := by decide +kernel
theorem dX1_lead_103 : decode cX1_lead 103 = .ok (.iload 4, 2) := by decide +kernel
theorem dX1_lead_105 : decode cX1_lead 105 = .ok (.aaload, 1) := by decide +kernel
theorem dX1_lead_106 : decode cX1_lead 106 = .ok (.invokevirtual 55, 3) := by decide +kernel
theorem dX1_lead_109 : decode cX1_lead 109 = .ok (.iinc 4 (-1), 3) := by decide +kernel
theorem dX1_lead_112 : decode cX1_lead 112 = .ok (.goto (-30), 3) := by decide +kernel
theorem dX1_lead_115 : decode cX1_lead 115 = .ok (.return_, 1) := by decide +kernel
theorem dX10_arrive_0 : decode cX10_arrive 0 = .ok (.aload_n 1, 1) := by decide +kernel
theorem dX10_arrive_1 : decode cX10_arrive 1 = .ok (.getfield 56, 3) := by decide +kernel
theorem dX10_arrive_4 : decode cX10_arrive 4 = .ok (.iload_n 2, 1) := by decide +kernel
theorem dX10_arrive_5 : decode cX10_arrive 5 = .ok (.iaload, 1) := by decide +kernel
theorem dX10_arrive_6 : decode cX10_arrive 6 = .ok (.iconst 1, 1) := by decide +kernel
theorem dX10_arrive_7 : decode cX10_arrive 7 = .ok (.if_icmp .ne 27, 3) := by decide +kernel
theorem dX10_arrive_10 : decode cX10_arrive 10 = .ok (.aload_n 0, 1) := by decide +kernel
theorem dX10_arrive_11 : decode cX10_arrive 11 = .ok (.dup, 1) := by decide +kernel
theorem dX10_arrive_12 : decode cX10_arrive 12 = .ok (.getfield 34, 3) := by decide +kernel
theorem dX10_arrive_15 : decode cX10_arrive 15 = .ok (.iload_n 3, 1) := by decide +kernel
theorem dX10_arrive_16 : decode cX10_arrive 16 = .ok (.iadd, 1) := by decide +kernel
theorem dX10_arrive_17 : decode cX10_arrive 17 = .ok (.putfield 34, 3) := by decide +kernel
theorem dX10_arrive_20 : decode cX10_arrive 20 = .ok (.aload_n 0, 1) := by decide +kernel
theorem dX10_arrive_21 : decode cX10_arrive 21 = .ok (.dup, 1) := by decide +kernel
theorem dX10_arrive_22 : decode cX10_arrive 22 = .ok (.getfield 37, 3) := by decide +kernel
theorem dX10_arrive_25 : decode cX10_arrive 25 = .ok (.iload 4, 2) := by decide +kernel
theorem dX10_arrive_27 : decode cX10_arrive 27 = .ok (.iadd, 1) := by decide +kernel
theorem dX10_arrive_28 : decode cX10_arrive 28 = .ok (.putfield 37, 3) := by decide +kernel
theorem dX10_arrive_31 : decode cX10_arrive 31 = .ok (.goto 24, 3) := by decide +kernel
theorem dX10_arrive_34 : decode cX10_arrive 34 = .ok (.aload_n 0, 1) := by decide +kernel
theorem dX10_arrive_35 : decode cX10_arrive 35 = .ok (.getfield 9, 3) := by decide +kernel
theorem dX10_arrive_38 : decode cX10_arrive 38 = .ok (.iload_n 2, 1) := by decide +kernel
theorem dX10_arrive_39 : decode cX10_arrive 39 = .ok (.dup2, 1) := by decide +kernel
theorem dX10_arrive_40 : decode cX10_arrive 40 = .ok (.iaload, 1) := by decide +kernel
theorem dX10_arrive_41 : decode cX10_arrive 41 = .ok (.iload_n 3, 1) := by decide +kernel
theorem dX10_arrive_42 : decode cX10_arrive 42 = .ok (.iadd, 1) := by decide +kernel
theorem dX10_arrive_43 : decode cX10_arrive 43 = .ok (.iastore, 1) := by decide +kernel
theorem dX10_arrive_44 : decode cX10_arrive 44 = .ok (.aload_n 0, 1) := by decide +kernel
theorem dX10_arrive_45 : decode cX10_arrive 45 = .ok (.getfield 15, 3) := by decide +kernel
theorem dX10_arrive_48 : decode cX10_arrive 48 = .ok (.iload_n 2, 1) := by decide +kernel
theorem dX10_arrive_49 : decode cX10_arrive 49 = .ok (.dup2, 1) := by decide +kernel
theorem dX10_arrive_50 : decode cX10_arrive 50 = .ok (.iaload, 1) := by decide +kernel
theorem dX10_arrive_51 : decode cX10_arrive 51 = .ok (.iload 4, 2) := by decide +kernel
theorem dX10_arrive_53 : decode cX10_arrive 53 = .ok (.iadd, 1) := by decide +kernel
theorem dX10_arrive_54 : decode cX10_arrive 54 = .ok (.iastore, 1) := by decide +kernel
theorem dX10_arrive_55 : decode cX10_arrive 55 = .ok (.return_, 1) := by decide +kernel
theorem dX11_isCell_0 : decode cX11_isCell 0 = .ok (.iload_n 0, 1) := by decide +kernel
theorem dX11_isCell_1 : decode cX11_isCell 1 = .ok (.iconst 0, 1) := by decide +kernel
theorem dX11_isCell_2 : decode cX11_isCell 2 = .ok (.bipush 99, 2) := by decide +kernel
theorem dX11_isCell_4 : decode cX11_isCell 4 = .ok (.invokestatic 96, 3) := by decide +kernel
theorem dX11_isCell_7 : decode cX11_isCell 7 = .ok (.ireturn, 1) := by decide +kernel
theorem dX1_letOn_0 : decode cX1_letOn 0 = .ok (.aload_n 1, 1) := by decide +kernel
theorem dX1_letOn_1 : decode cX1_letOn 1 = .ok (.getfield 84, 3) := by decide +kernel
theorem dX1_letOn_4 : decode cX1_letOn 4 = .ok (.astore_n 2, 1) := by decide +kernel
theorem dX1_letOn_5 : decode cX1_letOn 5 = .ok (.aload_n 0, 1) := by decide +kernel
theorem dX1_letOn_6 : decode cX1_letOn 6 = .ok (.getfield 21, 3) := by decide +kernel
theorem dX1_letOn_9 : decode cX1_letOn 9 = .ok (.iconst 0, 1) := by decide +kernel
theorem dX1_letOn_10 : decode cX1_letOn 10 = .ok (.invokestatic 115, 3) := by decide +kernel
theorem dX1_letOn_13 : decode cX1_letOn 13 = .ok (.aload_n 0, 1) := by decide +kernel
theorem dX1_letOn_14 : decode cX1_letOn 14 = .ok (.getfield 24, 3) := by decide +kernel
theorem dX1_letOn_17 : decode cX1_letOn 17 = .ok (.iconst 0, 1) := by decide +kernel
theorem dX1_letOn_18 : decode cX1_letOn 18 = .ok (.invokestatic 115, 3) := by decide +kernel
theorem dX1_letOn_21 : decode cX1_letOn 21 = .ok (.iconst 0, 1) := by decide +kernel
theorem dX1_letOn_22 : decode cX1_letOn 22 = .ok (.istore_n 3, 1) := by decide +kernel
theorem dX1_letOn_23 : decode cX1_letOn 23 = .ok (.iload_n 3, 1) := by decide +kernel
theorem dX1_letOn_24 : decode cX1_letOn 24 = .ok (.bipush 100, 2) := by decide +kernel
theorem dX1_letOn_26 : decode cX1_letOn 26 = .ok (.if_icmp .ge 123, 3) := by decide +kernel
theorem dX1_letOn_29 : decode cX1_letOn 29 = .ok (.aload_n 0, 1) := by decide +kernel
theorem dX1_letOn_30 : decode cX1_letOn 30 = .ok (.getfield 9, 3) := by decide +kernel
theorem dX1_letOn_33 : decode cX1_letOn 33 = .ok (.iload_n 3, 1) := by decide +kernel
theorem dX1_letOn_34 : decode cX1_letOn 34 = .ok (.iaload, 1) := by decide +kernel
theorem dX1_letOn_35 : decode cX1_letOn 35 = .ok (.istore 4, 2) := by decide +kernel
theorem dX1_letOn_37 : decode cX1_letOn 37 = .ok (.aload_n 1, 1) := by decide +kernel
theorem dX1_letOn_38 : decode cX1_letOn 38 = .ok (.getfield 121, 3) := by decide +kernel
theorem dX1_letOn_41 : decode cX1_letOn 41 = .ok (.getfield 125, 3) := by decide +kernel
theorem dX1_letOn_44 : decode cX1_letOn 44 = .ok (.iload_n 3, 1) := by decide +kernel
theorem dX1_letOn_45 : decode cX1_letOn 45 = .ok (.iaload, 1) := by decide +kernel
theorem dX1_letOn_46 : decode cX1_letOn 46 = .ok (.ifCond .ne 97, 3) := by decide +kernel
theorem dX1_letOn_49 : decode cX1_letOn 49 = .ok (.iload 4, 2) := by decide +kernel
theorem dX1_letOn_51 : decode cX1_letOn 51 = .ok (.invokestatic 130, 3) := by decide +kernel
theorem dX1_letOn_54 : decode cX1_letOn 54 = .ok (.ifCond .ne 6, 3) := by decide +kernel
theorem dX1_letOn_57 : decode cX1_letOn 57 = .ok (.goto 86, 3) := by decide +kernel
theorem dX1_letOn_60 : decode cX1_letOn 60 = .ok (.aload_n 2, 1) := by decide +kernel
theorem dX1_letOn_61 : decode cX1_letOn 61 = .ok (.getfield 98, 3) := by decide +kernel
theorem dX1_letOn_64 : decode cX1_letOn 64 = .ok (.iload_n 3, 1) := by decide +kernel
theorem dX1_letOn_65 : decode cX1_letOn 65 = .ok (.iaload, 1) := by decide +kernel
theorem dX1_letOn_66 : decode cX1_letOn 66 = .ok (.aload_n 0, 1) := by decide +kernel
theorem dX1_letOn_67 : decode cX1_letOn 67 = .ok (.getfield 15, 3) := by decide +kernel
theorem dX1_letOn_70 : decode cX1_letOn 70 = .ok (.iload_n 3, 1) := by decide +kernel
theorem dX1_letOn_71 : decode cX1_letOn 71 = .ok (.iaload, 1) := by decide +kernel
theorem dX1_letOn_72 : decode cX1_letOn 72 = .ok (.invokestatic 134, 3) := by decide +kernel
theorem dX1_letOn_75 : decode cX1_letOn 75 = .ok (.istore 5, 2) := by decide +kernel
theorem dX1_letOn_77 : decode cX1_letOn 77 = .ok (.aload_n 2, 1) := by decide +kernel
theorem dX1_letOn_78 : decode cX1_letOn 78 = .ok (.getfield 103, 3) := by decide +kernel
theorem dX1_letOn_81 : decode cX1_letOn 81 = .ok (.iload_n 3, 1) := by decide +kernel
theorem dX1_letOn_82 : decode cX1_letOn 82 = .ok (.iaload, 1) := by decide +kernel
theorem dX1_letOn_83 : decode cX1_letOn 83 = .ok (.aload_n 0, 1) := by decide +kernel
theorem dX1_letOn_84 : decode cX1_letOn 84 = .ok (.getfield 15, 3) := by decide +kernel
theorem dX1_letOn_87 : decode cX1_letOn 87 = .ok (.iload_n 3, 1) := by decide +kernel
theorem dX1_letOn_88 : decode cX1_letOn 88 = .ok (.iaload, 1) := by decide +kernel
theorem dX1_letOn_89 : decode cX1_letOn 89 = .ok (.iload 5, 2) := by decide +kernel
theorem dX1_letOn_91 : decode cX1_letOn 91 = .ok (.isub, 1) := by decide +kernel
theorem dX1_letOn_92 : decode cX1_letOn 92 = .ok (.invokestatic 134, 3) := by decide +kernel
theorem dX1_letOn_95 : decode cX1_letOn 95 = .ok (.istore 6, 2) := by decide +kernel
theorem dX1_letOn_97 : decode cX1_letOn 97 = .ok (.aload_n 2, 1) := by decide +kernel
theorem dX1_letOn_98 : decode cX1_letOn 98 = .ok (.getfield 98, 3) := by decide +kernel
theorem dX1_letOn_101 : decode cX1_letOn 101 = .ok (.iload_n 3, 1) := by decide +kernel
theorem dX1_letOn_102 : decode cX1_letOn 102 = .ok (.dup2, 1) := by decide +kernel
theorem dX1_letOn_103 : decode cX1_letOn 103 = .ok (.iaload, 1) := by decide +kernel
theorem dX1_letOn_104 : decode cX1_letOn 104 = .ok (.iload 5, 2) := by decide +kernel
theorem dX1_letOn_106 : decode cX1_letOn 106 = .ok (.isub, 1) := by decide +kernel
theorem dX1_letOn_107 : decode cX1_letOn 107 = .ok (.iastore, 1) := by decide +kernel
theorem dX1_letOn_108 : decode cX1_letOn 108 = .ok (.aload_n 2, 1) := by decide +kernel
theorem dX1_letOn_109 : decode cX1_letOn 109 = .ok (.getfield 103, 3) := by decide +kernel
theorem dX1_letOn_112 : decode cX1_letOn 112 = .ok (.iload_n 3, 1) := by decide +kernel
theorem dX1_letOn_113 : decode cX1_letOn 113 = .ok (.dup2, 1) := by decide +kernel
theorem dX1_letOn_114 : decode cX1_letOn 114 = .ok (.iaload, 1) := by decide +kernel
theorem dX1_letOn_115 : decode cX1_letOn 115 = .ok (.iload 6, 2) := by decide +kernel
theorem dX1_letOn_117 : decode cX1_letOn 117 = .ok (.isub, 1) := by decide +kernel
theorem dX1_letOn_118 : decode cX1_letOn 118 = .ok (.iastore, 1) := by decide +kernel
theorem dX1_letOn_119 : decode cX1_letOn 119 = .ok (.aload_n 0, 1) := by decide +kernel
theorem dX1_letOn_120 : decode cX1_letOn 120 = .ok (.getfield 21, 3) := by decide +kernel
theorem dX1_letOn_123 : decode cX1_letOn 123 = .ok (.iload 4, 2) := by decide +kernel
theorem dX1_letOn_125 : decode cX1_letOn 125 = .ok (.dup2, 1) := by decide +kernel
theorem dX1_letOn_126 : decode cX1_letOn 126 = .ok (.iaload, 1) := by decide +kernel
theorem dX1_letOn_127 : decode cX1_letOn 127 = .ok (.iload 5, 2) := by decide +kernel
theorem dX1_letOn_129 : decode cX1_letOn 129 = .ok (.iadd, 1) := by decide +kernel
theorem dX1_letOn_130 : decode cX1_letOn 130 = .ok (.iastore, 1) := by decide +kernel
theorem dX1_letOn_131 : decode cX1_letOn 131 = .ok (.aload_n 0, 1) := by decide +kernel
theorem dX1_letOn_132 : decode cX1_letOn 132 = .ok (.getfield 24, 3) := by decide +kernel
theorem dX1_letOn_135 : decode cX1_letOn 135 = .ok (.iload 4, 2) := by decide +kernel
theorem dX1_letOn_137 : decode cX1_letOn 137 = .ok (.dup2, 1) := by decide +kernel
theorem dX1_letOn_138 : decode cX1_letOn 138 = .ok (.iaload, 1) := by decide +kernel
theorem dX1_letOn_139 : decode cX1_letOn 139 = .ok (.iload 6, 2) := by decide +kernel
theorem dX1_letOn_141 : decode cX1_letOn 141 = .ok (.iadd, 1) := by decide +kernel
theorem dX1_letOn_142 : decode cX1_letOn 142 = .ok (.iastore, 1) := by decide +kernel
theorem dX1_letOn_143 : decode cX1_letOn 143 = .ok (.iinc 3 1, 3) := by decide +kernel
theorem dX1_letOn_146 : decode cX1_letOn 146 = .ok (.goto (-123), 3) := by decide +kernel
theorem dX1_letOn_149 : decode cX1_letOn 149 = .ok (.iconst 0, 1) := by decide +kernel
theorem dX1_letOn_150 : decode cX1_letOn 150 = .ok (.istore_n 3, 1) := by decide +kernel
theorem dX1_letOn_151 : decode cX1_letOn 151 = .ok (.iload_n 3, 1) := by decide +kernel
theorem dX1_letOn_152 : decode cX1_letOn 152 = .ok (.bipush 100, 2) := by decide +kernel
theorem dX1_letOn_154 : decode cX1_letOn 154 = .ok (.if_icmp .ge 30, 3) := by decide +kernel
theorem dX1_letOn_157 : decode cX1_letOn 157 = .ok (.aload_n 2, 1) := by decide +kernel
theorem dX1_letOn_158 : decode cX1_letOn 158 = .ok (.aload_n 1, 1) := by decide +kernel
theorem dX1_letOn_159 : decode cX1_letOn 159 = .ok (.getfield 33, 3) := by decide +kernel
theorem dX1_letOn_162 : decode cX1_letOn 162 = .ok (.iload_n 3, 1) := by decide +kernel
theorem dX1_letOn_163 : decode cX1_letOn 163 = .ok (.aload_n 0, 1) := by decide +kernel
theorem dX1_letOn_164 : decode cX1_letOn 164 = .ok (.getfield 21, 3) := by decide +kernel
theorem dX1_letOn_167 : decode cX1_letOn 167 = .ok (.iload_n 3, 1) := by decide +kernel
theorem dX1_letOn_168 : decode cX1_letOn 168 = .ok (.iaload, 1) := by decide +kernel
theorem dX1_letOn_169 : decode cX1_letOn 169 = .ok (.aload_n 0, 1) := by decide +kernel
theorem dX1_letOn_170 : decode cX1_letOn 170 = .ok (.getfield 24, 3) := by decide +kernel
theorem dX1_letOn_173 : decode cX1_letOn 173 = .ok (.iload_n 3, 1) := by decide +kernel
theorem dX1_letOn_174 : decode cX1_letOn 174 = .ok (.iaload, 1) := by decide +kernel
theorem dX1_letOn_175 : decode cX1_letOn 175 = .ok (.invokevirtual 140, 3) := by decide +kernel
theorem dX1_letOn_178 : decode cX1_letOn 178 = .ok (.iinc 3 1, 3) := by decide +kernel
theorem dX1_letOn_181 : decode cX1_letOn 181 = .ok (.goto (-30), 3) := by decide +kernel
theorem dX1_letOn_184 : decode cX1_letOn 184 = .ok (.return_, 1) := by decide +kernel
theorem dX1_liftWater_0 : decode cX1_liftWater 0 = .ok (.aload_n 1, 1) := by decide +kernel
theorem dX1_liftWater_1 : decode cX1_liftWater 1 = .ok (.getfield 84, 3) := by decide +kernel
theorem dX1_liftWater_4 : decode cX1_liftWater 4 = .ok (.astore_n 2, 1) := by decide +kernel
theorem dX1_liftWater_5 : decode cX1_liftWater 5 = .ok (.aload_n 1, 1) := by decide +kernel
theorem dX1_liftWater_6 : decode cX1_liftWater 6 = .ok (.getfield 121, 3) := by decide +kernel
theorem dX1_liftWater_9 : decode cX1_liftWater 9 = .ok (.astore_n 3, 1) := by decide +kernel
theorem dX1_liftWater_10 : decode cX1_liftWater 10 = .ok (.iconst 0, 1) := by decide +kernel
theorem dX1_liftWater_11 : decode cX1_liftWater 11 = .ok (.istore 4, 2) := by decide +kernel
theorem dX1_liftWater_13 : decode cX1_liftWater 13 = .ok (.iload 4, 2) := by decide +kernel
theorem dX1_liftWater_15 : decode cX1_liftWater 15 = .ok (.bipush 100, 2) := by decide +kernel
theorem dX1_liftWater_17 : decode cX1_liftWater 17 = .ok (.if_icmp .ge 164, 3) := by decide +kernel
theorem dX1_liftWater_20 : decode cX1_liftWater 20 = .ok (.aload_n 3, 1) := by decide +kernel
theorem dX1_liftWater_21 : decode cX1_liftWater 21 = .ok (.getfield 125, 3) := by decide +kernel
theorem dX1_liftWater_24 : decode cX1_liftWater 24 = .ok (.iload 4, 2) := by decide +kernel
theorem dX1_liftWater_26 : decode cX1_liftWater 26 = .ok (.iaload, 1) := by decide +kernel
theorem dX1_liftWater_27 : decode cX1_liftWater 27 = .ok (.iconst 1, 1) := by decide +kernel
theorem dX1_liftWater_28 : decode cX1_liftWater 28 = .ok (.if_icmp .ne 147, 3) := by decide +kernel
theorem dX1_liftWater_31 : decode cX1_liftWater 31 = .ok (.aload_n 3, 1) := by decide +kernel
theorem dX1_liftWater_32 : decode cX1_liftWater 32 = .ok (.getfield 144, 3) := by decide +kernel
theorem dX1_liftWater_35 : decode cX1_liftWater 35 = .ok (.iload 4, 2) := by decide +kernel
theorem dX1_liftWater_37 : decode cX1_liftWater 37 = .ok (.iaload, 1) := by decide +kernel
theorem dX1_liftWater_38 : decode cX1_liftWater 38 = .ok (.iconst 1, 1) := by decide +kernel
theorem dX1_liftWater_39 : decode cX1_liftWater 39 = .ok (.if_icmp .eq 136, 3) := by decide +kernel
theorem dX1_liftWater_42 : decode cX1_liftWater 42 = .ok (.aload_n 3, 1) := by decide +kernel
theorem dX1_liftWater_43 : decode cX1_liftWater 43 = .ok (.getfield 147, 3) := by decide +kernel
theorem dX1_liftWater_46 : decode cX1_liftWater 46 = .ok (.iload 4, 2) := by decide +kernel
theorem dX1_liftWater_48 : decode cX1_liftWater 48 = .ok (.iaload, 1) := by decide +kernel
theorem dX1_liftWater_49 : decode cX1_liftWater 49 = .ok (.invokestatic 130, 3) := by decide +kernel
theorem dX1_liftWater_52 : decode cX1_liftWater 52 = .ok (.ifCond .ne 6, 3) := by decide +kernel
theorem dX1_liftWater_55 : decode cX1_liftWater 55 = .ok (.goto 120, 3) := by decide +kernel
theorem dX1_liftWater_58 : decode cX1_liftWater 58 = .ok (.aload_n 3, 1) := by decide +kernel
theorem dX1_liftWater_59 : decode cX1_liftWater 59 = .ok (.getfield 148, 3) := by decide +kernel
theorem dX1_liftWater_62 : decode cX1_liftWater 62 = .ok (.iload 4, 2) := by decide +kernel
theorem dX1_liftWater_64 : decode cX1_liftWater 64 = .ok (.iaload, 1) := by decide +kernel
theorem dX1_liftWater_65 : decode cX1_liftWater 65 = .ok (.bipush 100, 2) := by decide +kernel
theorem dX1_liftWater_67 : decode cX1_liftWater 67 = .ok (.aload_n 3, 1) := by decide +kernel
theorem dX1_liftWater_68 : decode cX1_liftWater 68 = .ok (.getfield 151, 3) := by decide +kernel
theorem dX1_liftWater_71 : decode cX1_liftWater 71 = .ok (.iload 4, 2) := by decide +kernel
theorem dX1_liftWater_73 : decode cX1_liftWater 73 = .ok (.iaload, 1) := by decide +kernel
theorem dX1_liftWater_74 : decode cX1_liftWater 74 = .ok (.imul, 1) := by decide +kernel
theorem dX1_liftWater_75 : decode cX1_liftWater 75 = .ok (.invokestatic 134, 3) := by decide +kernel
theorem dX1_liftWater_78 : decode cX1_liftWater 78 = .ok (.istore 5, 2) := by decide +kernel
theorem dX1_liftWater_80 : decode cX1_liftWater 80 = .ok (.aload_n 2, 1) := by decide +kernel
theorem dX1_liftWater_81 : decode cX1_liftWater 81 = .ok (.getfield 98, 3) := by decide +kernel
theorem dX1_liftWater_84 : decode cX1_liftWater 84 = .ok (.iload 4, 2) := by decide +kernel
theorem dX1_liftWater_86 : decode cX1_liftWater 86 = .ok (.iaload, 1) := by decide +kernel
theorem dX1_liftWater_87 : decode cX1_liftWater 87 = .ok (.iload 5, 2) := by decide +kernel
theorem dX1_liftWater_89 : decode cX1_liftWater 89 = .ok (.invokestatic 134, 3) := by decide +kernel
theorem dX1_liftWater_92 : decode cX1_liftWater 92 = .ok (.istore 6, 2) := by decide +kernel
theorem dX1_liftWater_94 : decode cX1_liftWater 94 = .ok (.aload_n 2, 1) := by decide +kernel
theorem dX1_liftWater_95 : decode cX1_liftWater 95 = .ok (.getfield 103, 3) := by decide +kernel
theorem dX1_liftWater_98 : decode cX1_liftWater 98 = .ok (.iload 4, 2) := by decide +kernel
theorem dX1_liftWater_100 : decode cX1_liftWater 100 = .ok (.iaload, 1) := by decide +kernel
theorem dX1_liftWater_101 : decode cX1_liftWater 101 = .ok (.iload 5, 2) := by decide +kernel
theorem dX1_liftWater_103 : decode cX1_liftWater 103 = .ok (.iload 6, 2) := by decide +kernel
theorem dX1_liftWater_105 : decode cX1_liftWater 105 = .ok (.isub, 1) := by decide +kernel
theorem dX1_liftWater_106 : decode cX1_liftWater 106 = .ok (.invokestatic 134, 3) := by decide +kernel
theorem dX1_liftWater_109 : decode cX1_liftWater 109 = .ok (.istore 7, 2) := by decide +kernel
theorem dX1_liftWater_111 : decode cX1_liftWater 111 = .ok (.aload_n 2, 1) := by decide +kernel
theorem dX1_liftWater_112 : decode cX1_liftWater 112 = .ok (.getfield 98, 3) := by decide +kernel
theorem dX1_liftWater_115 : decode cX1_liftWater 115 = .ok (.iload 4, 2) := by decide +kernel
theorem dX1_liftWater_117 : decode cX1_liftWater 117 = .ok (.dup2, 1) := by decide +kernel
theorem dX1_liftWater_118 : decode cX1_liftWater 118 = .ok (.iaload, 1) := by decide +kernel
theorem dX1_liftWater_119 : decode cX1_liftWater 119 = .ok (.iload 6, 2) := by decide +kernel
theorem dX1_liftWater_121 : decode cX1_liftWater 121 = .ok (.isub, 1) := by decide +kernel
theorem dX1_liftWater_122 : decode cX1_liftWater 122 = .ok (.iastore, 1) := by decide +kernel
theorem dX1_liftWater_123 : decode cX1_liftWater 123 = .ok (.aload_n 2, 1) := by decide +kernel
theorem dX1_liftWater_124 : decode cX1_liftWater 124 = .ok (.getfield 103, 3) := by decide +kernel
theorem dX1_liftWater_127 : decode cX1_liftWater 127 = .ok (.iload 4, 2) := by decide +kernel
theorem dX1_liftWater_129 : decode cX1_liftWater 129 = .ok (.dup2, 1) := by decide +kernel
theorem dX1_liftWater_130 : decode cX1_liftWater 130 = .ok (.iaload, 1) := by decide +kernel
theorem dX1_liftWater_131 : decode cX1_liftWater 131 = .ok (.iload 7, 2) := by decide +kernel
theorem dX1_liftWater_133 : decode cX1_liftWater 133 = .ok (.isub, 1) := by decide +kernel
theorem dX1_liftWater_134 : decode cX1_liftWater 134 = .ok (.iastore, 1) := by decide +kernel
theorem dX1_liftWater_135 : decode cX1_liftWater 135 = .ok (.aload_n 2, 1) := by decide +kernel
theorem dX1_liftWater_136 : decode cX1_liftWater 136 = .ok (.aload_n 1, 1) := by decide +kernel
theorem dX1_liftWater_137 : decode cX1_liftWater 137 = .ok (.getfield 33, 3) := by decide +kernel
theorem dX1_liftWater_140 : decode cX1_liftWater 140 = .ok (.aload_n 3, 1) := by decide +kernel
theorem dX1_liftWater_141 : decode cX1_liftWater 141 = .ok (.getfield 147, 3) := by decide +kernel
theorem dX1_liftWater_144 : decode cX1_liftWater 144 = .ok (.iload 4, 2) := by decide +kernel
theorem dX1_liftWater_146 : decode cX1_liftWater 146 = .ok (.iaload, 1) := by decide +kernel
theorem dX1_liftWater_147 : decode cX1_liftWater 147 = .ok (.iload 6, 2) := by decide +kernel
theorem dX1_liftWater_149 : decode cX1_liftWater 149 = .ok (.iload 7, 2) := by decide +kernel
theorem dX1_liftWater_151 : decode cX1_liftWater 151 = .ok (.invokevirtual 140, 3) := by decide +kernel
theorem dX1_liftWater_154 : decode cX1_liftWater 154 = .ok (.aload_n 3, 1) := by decide +kernel
theorem dX1_liftWater_155 : decode cX1_liftWater 155 = .ok (.getfield 151, 3) := by decide +kernel
theorem dX1_liftWater_158 : decode cX1_liftWater 158 = .ok (.iload 4, 2) := by decide +kernel
theorem dX1_liftWater_160 : decode cX1_liftWater 160 = .ok (.dup2, 1) := by decide +kernel
theorem dX1_liftWater_161 : decode cX1_liftWater 161 = .ok (.iaload, 1) := by decide +kernel
theorem dX1_liftWater_162 : decode cX1_liftWater 162 = .ok (.iload 6, 2) := by decide +kernel
theorem dX1_liftWater_164 : decode cX1_liftWater 164 = .ok (.iload 7, 2) := by decide +kernel
theorem dX1_liftWater_166 : decode cX1_liftWater 166 = .ok (.iadd, 1) := by decide +kernel
theorem dX1_liftWater_167 : decode cX1_liftWater 167 = .ok (.bipush 99, 2) := by decide +kernel
theorem dX1_liftWater_169 : decode cX1_liftWater 169 = .ok (.iadd, 1) := by decide +kernel
theorem dX1_liftWater_170 : decode cX1_liftWater 170 = .ok (.bipush 100, 2) := by decide +kernel
theorem dX1_liftWater_172 : decode cX1_liftWater 172 = .ok (.idiv, 1) := by decide +kernel
theorem dX1_liftWater_173 : decode cX1_liftWater 173 = .ok (.isub, 1) := by decide +kernel
theorem dX1_liftWater_174 : decode cX1_liftWater 174 = .ok (.iastore, 1) := by decide +kernel
theorem dX1_liftWater_175 : decode cX1_liftWater 175 = .ok (.iinc 4 1, 3) := by decide +kernel
theorem dX1_liftWater_178 : decode cX1_liftWater 178 = .ok (.goto (-165), 3) := by decide +kernel
theorem dX1_liftWater_181 : decode cX1_liftWater 181 = .ok (.return_, 1) := by decide +kernel
theorem dX1_makeWater_0 : decode cX1_makeWater 0 = .ok (.aload_n 1, 1) := by decide +kernel
theorem dX1_makeWater_1 : decode cX1_makeWater 1 = .ok (.getfield 84, 3) := by decide +kernel
theorem dX1_makeWater_4 : decode cX1_makeWater 4 = .ok (.astore_n 2, 1) := by decide +kernel
theorem dX1_makeWater_5 : decode cX1_makeWater 5 = .ok (.iconst 0, 1) := by decide +kernel
theorem dX1_makeWater_6 : decode cX1_makeWater 6 = .ok (.istore_n 3, 1) := by decide +kernel
theorem dX1_makeWater_7 : decode cX1_makeWater 7 = .ok (.iload_n 3, 1) := by decide +kernel
theorem dX1_makeWater_8 : decode cX1_makeWater 8 = .ok (.bipush 100, 2) := by decide +kernel
theorem dX1_makeWater_10 : decode cX1_makeWater 10 = .ok (.if_icmp .ge 87, 3) := by decide +kernel
theorem dX1_makeWater_13 : decode cX1_makeWater 13 = .ok (.aload_n 1, 1) := by decide +kernel
theorem dX1_makeWater_14 : decode cX1_makeWater 14 = .ok (.getfield 33, 3) := by decide +kernel
theorem dX1_makeWater_17 : decode cX1_makeWater 17 = .ok (.getfield 92, 3) := by decide +kernel
theorem dX1_makeWater_20 : decode cX1_makeWater 20 = .ok (.iload_n 3, 1) := by decide +kernel
theorem dX1_makeWater_21 : decode cX1_makeWater 21 = .ok (.iaload, 1) := by decide +kernel
theorem dX1_makeWater_22 : decode cX1_makeWater 22 = .ok (.iconst 1, 1) := by decide +kernel
theorem dX1_makeWater_23 : decode cX1_makeWater 23 = .ok (.if_icmp .ne 6, 3) := by decide +kernel
theorem dX1_makeWater_26 : decode cX1_makeWater 26 = .ok (.goto 65, 3) := by decide +kernel
theorem dX1_makeWater_29 : decode cX1_makeWater 29 = .ok (.aload_n 1, 1) := by decide +kernel
theorem dX1_makeWater_30 : decode cX1_makeWater 30 = .ok (.getfield 33, 3) := by decide +kernel
theorem dX1_makeWater_33 : decode cX1_makeWater 33 = .ok (.getfield 95, 3) := by decide +kernel
theorem dX1_makeWater_36 : decode cX1_makeWater 36 = .ok (.iload_n 3, 1) := by decide +kernel
theorem dX1_makeWater_37 : decode cX1_makeWater 37 = .ok (.iaload, 1) := by decide +kernel
theorem dX1_makeWater_38 : decode cX1_makeWater 38 = .ok (.bipush 100, 2) := by decide +kernel
theorem dX1_makeWater_40 : decode cX1_makeWater 40 = .ok (.idiv, 1) := by decide +kernel
theorem dX1_makeWater_41 : decode cX1_makeWater 41 = .ok (.istore 4, 2) := by decide +kernel
theorem dX1_makeWater_43 : decode cX1_makeWater 43 = .ok (.aload_n 2, 1) := by decide +kernel
theorem dX1_makeWater_44 : decode cX1_makeWater 44 = .ok (.getfield 98, 3) := by decide +kernel
theorem dX1_makeWater_47 : decode cX1_makeWater 47 = .ok (.iload_n 3, 1) := by decide +kernel
theorem dX1_makeWater_48 : decode cX1_makeWater 48 = .ok (.dup2, 1) := by decide +kernel
theorem dX1_makeWater_49 : decode cX1_makeWater 49 = .ok (.iaload, 1) := by decide +kernel
theorem dX1_makeWater_50 : decode cX1_makeWater 50 = .ok (.iload 4, 2) := by decide +kernel
theorem dX1_makeWater_52 : decode cX1_makeWater 52 = .ok (.iadd, 1) := by decide +kernel
theorem dX1_makeWater_53 : decode cX1_makeWater 53 = .ok (.iastore, 1) := by decide +kernel
theorem dX1_makeWater_54 : decode cX1_makeWater 54 = .ok (.aload_n 2, 1) := by decide +kernel
theorem dX1_makeWater_55 : decode cX1_makeWater 55 = .ok (.getfield 103, 3) := by decide +kernel
theorem dX1_makeWater_58 : decode cX1_makeWater 58 = .ok (.iload_n 3, 1) := by decide +kernel
theorem dX1_makeWater_59 : decode cX1_makeWater 59 = .ok (.dup2, 1) := by decide +kernel
theorem dX1_makeWater_60 : decode cX1_makeWater 60 = .ok (.iaload, 1) := by decide +kernel
theorem dX1_makeWater_61 : decode cX1_makeWater 61 = .ok (.aload_n 2, 1) := by decide +kernel
theorem dX1_makeWater_62 : decode cX1_makeWater 62 = .ok (.getfield 106, 3) := by decide +kernel
theorem dX1_makeWater_65 : decode cX1_makeWater 65 = .ok (.iadd, 1) := by decide +kernel
theorem dX1_makeWater_66 : decode cX1_makeWater 66 = .ok (.iastore, 1) := by decide +kernel
theorem dX1_makeWater_67 : decode cX1_makeWater 67 = .ok (.aload_n 2, 1) := by decide +kernel
theorem dX1_makeWater_68 : decode cX1_makeWater 68 = .ok (.dup, 1) := by decide +kernel
theorem dX1_makeWater_69 : decode cX1_makeWater 69 = .ok (.getfield 109, 3) := by decide +kernel
theorem dX1_makeWater_72 : decode cX1_makeWater 72 = .ok (.iload 4, 2) := by decide +kernel
theorem dX1_makeWater_74 : decode cX1_makeWater 74 = .ok (.iadd, 1) := by decide +kernel
theorem dX1_makeWater_75 : decode cX1_makeWater 75 = .ok (.putfield 109, 3) := by decide +kernel
theorem dX1_makeWater_78 : decode cX1_makeWater 78 = .ok (.aload_n 2, 1) := by decide +kernel
theorem dX1_makeWater_79 : decode cX1_makeWater 79 = .ok (.dup, 1) := by decide +kernel
theorem dX1_makeWater_80 : decode cX1_makeWater 80 = .ok (.getfield 112, 3) := by decide +kernel
theorem dX1_makeWater_83 : decode cX1_makeWater 83 = .ok (.aload_n 2, 1) := by decide +kernel
theorem dX1_makeWater_84 : decode cX1_makeWater 84 = .ok (.getfield 106, 3) := by decide +kernel
theorem dX1_makeWater_87 : decode cX1_makeWater 87 = .ok (.iadd, 1) := by decide +kernel
theorem dX1_makeWater_88 : decode cX1_makeWater 88 = .ok (.putfield 112, 3) := by decide +kernel
theorem dX1_makeWater_91 : decode cX1_makeWater 91 = .ok (.iinc 3 1, 3) := by decide +kernel
theorem dX1_makeWater_94 : decode cX1_makeWater 94 = .ok (.goto (-87), 3) := by decide +kernel
theorem dX1_makeWater_97 : decode cX1_makeWater 97 = .ok (.return_, 1) := by decide +kernel
theorem dX9_bringsBack_0 : decode cX9_bringsBack 0 = .ok (.iconst 1, 1) := by decide +kernel
theorem dX9_bringsBack_1 : decode cX9_bringsBack 1 = .ok (.istore_n 2, 1) := by decide +kernel
theorem dX9_bringsBack_2 : decode cX9_bringsBack 2 = .ok (.iload_n 2, 1) := by decide +kernel
theorem dX9_bringsBack_3 : decode cX9_bringsBack 3 = .ok (.bipush 12, 2) := by decide +kernel
theorem dX9_bringsBack_5 : decode cX9_bringsBack 5 = .ok (.if_icmp .gt 27, 3) := by decide +kernel
theorem dX9_bringsBack_8 : decode cX9_bringsBack 8 = .ok (.aload_n 0, 1) := by decide +kernel
theorem dX9_bringsBack_9 : decode cX9_bringsBack 9 = .ok (.iload_n 1, 1) := by decide +kernel
theorem dX9_bringsBack_10 : decode cX9_bringsBack 10 = .ok (.invokevirtual 32, 3) := by decide +kernel
theorem dX9_bringsBack_13 : decode cX9_bringsBack 13 = .ok (.aload_n 0, 1) := by decide +kernel
theorem dX9_bringsBack_14 : decode cX9_bringsBack 14 = .ok (.iload_n 1, 1) := by decide +kernel
theorem dX9_bringsBack_15 : decode cX9_bringsBack 15 = .ok (.iload_n 2, 1) := by decide +kernel
theorem dX9_bringsBack_16 : decode cX9_bringsBack 16 = .ok (.iadd, 1) := by decide +kernel
theorem dX9_bringsBack_17 : decode cX9_bringsBack 17 = .ok (.invokevirtual 32, 3) := by decide +kernel
theorem dX9_bringsBack_20 : decode cX9_bringsBack 20 = .ok (.isub, 1) := by decide +kernel
theorem dX9_bringsBack_21 : decode cX9_bringsBack 21 = .ok (.ifCond .ge 5, 3) := by decide +kernel
theorem dX9_bringsBack_24 : decode cX9_bringsBack 24 = .ok (.iconst 1, 1) := by decide +kernel
theorem dX9_bringsBack_25 : decode cX9_bringsBack 25 = .ok (.ireturn, 1) := by decide +kernel
theorem dX9_bringsBack_26 : decode cX9_bringsBack 26 = .ok (.iinc 2 1, 3) := by decide +kernel
theorem dX9_bringsBack_29 : decode cX9_bringsBack 29 = .ok (.goto (-27), 3) := by decide +kernel
theorem dX9_bringsBack_32 : decode cX9_bringsBack 32 = .ok (.iconst 0, 1) := by decide +kernel
theorem dX9_bringsBack_33 : decode cX9_bringsBack 33 = .ok (.ireturn, 1) := by decide +kernel
theorem dX1_openGates_0 : decode cX1_openGates 0 = .ok (.aload_n 1, 1) := by decide +kernel
theorem dX1_openGates_1 : decode cX1_openGates 1 = .ok (.getfield 121, 3) := by decide +kernel
theorem dX1_openGates_4 : decode cX1_openGates 4 = .ok (.astore 4, 2) := by decide +kernel
theorem dX1_openGates_6 : decode cX1_openGates 6 = .ok (.aload_n 3, 1) := by decide +kernel
theorem dX1_openGates_7 : decode cX1_openGates 7 = .ok (.aload_n 1, 1) := by decide +kernel
theorem dX1_openGates_8 : decode cX1_openGates 8 = .ok (.getfield 154, 3) := by decide +kernel
theorem dX1_openGates_11 : decode cX1_openGates 11 = .ok (.invokevirtual 157, 3) := by decide +kernel
theorem dX1_openGates_14 : decode cX1_openGates 14 = .ok (.istore 5, 2) := by decide +kernel
theorem dX1_openGates_16 : decode cX1_openGates 16 = .ok (.iconst 0, 1) := by decide +kernel
theorem dX1_openGates_17 : decode cX1_openGates 17 = .ok (.istore 6, 2) := by decide +kernel
theorem dX1_openGates_19 : decode cX1_openGates 19 = .ok (.iload 6, 2) := by decide +kernel
theorem dX1_openGates_21 : decode cX1_openGates 21 = .ok (.bipush 100, 2) := by decide +kernel
theorem dX1_openGates_23 : decode cX1_openGates 23 = .ok (.if_icmp .ge 191, 3) := by decide +kernel
theorem dX1_openGates_26 : decode cX1_openGates 26 = .ok (.aload 4, 2) := by decide +kernel
theorem dX1_openGates_28 : decode cX1_openGates 28 = .ok (.getfield 125, 3) := by decide +kernel
theorem dX1_openGates_31 : decode cX1_openGates 31 = .ok (.iload 6, 2) := by decide +kernel
theorem dX1_openGates_33 : decode cX1_openGates 33 = .ok (.iaload, 1) := by decide +kernel
theorem dX1_openGates_34 : decode cX1_openGates 34 = .ok (.iconst 2, 1) := by decide +kernel
theorem dX1_openGates_35 : decode cX1_openGates 35 = .ok (.if_icmp .eq 6, 3) := by decide +kernel
theorem dX1_openGates_38 : decode cX1_openGates 38 = .ok (.goto 170, 3) := by decide +kernel
theorem dX1_openGates_41 : decode cX1_openGates 41 = .ok (.aload_n 0, 1) := by decide +kernel
theorem dX1_openGates_42 : decode cX1_openGates 42 = .ok (.aload_n 1, 1) := by decide +kernel
theorem dX1_openGates_43 : decode cX1_openGates 43 = .ok (.getfield 84, 3) := by decide +kernel
theorem dX1_openGates_46 : decode cX1_openGates 46 = .ok (.aload 4, 2) := by decide +kernel
theorem dX1_openGates_48 : decode cX1_openGates 48 = .ok (.iload 6, 2) := by decide +kernel
theorem dX1_openGates_50 : decode cX1_openGates 50 = .ok (.invokevirtual 163, 3) := by decide +kernel
theorem dX1_openGates_53 : decode cX1_openGates 53 = .ok (.iload 5, 2) := by decide +kernel
theorem dX1_openGates_55 : decode cX1_openGates 55 = .ok (.aload 4, 2) := by decide +kernel
theorem dX1_openGates_57 : decode cX1_openGates 57 = .ok (.getfield 167, 3) := by decide +kernel
theorem dX1_openGates_60 : decode cX1_openGates 60 = .ok (.iload 6, 2) := by decide +kernel
theorem dX1_openGates_62 : decode cX1_openGates 62 = .ok (.iaload, 1) := by decide +kernel
theorem dX1_openGates_63 : decode cX1_openGates 63 = .ok (.if_icmp .ge 145, 3) := by decide +kernel
theorem dX1_openGates_66 : decode cX1_openGates 66 = .ok (.aload_n 2, 1) := by decide +kernel
theorem dX1_openGates_67 : decode cX1_openGates 67 = .ok (.iconst 2, 1) := by decide +kernel
theorem dX1_openGates_68 : decode cX1_openGates 68 = .ok (.iload 6, 2) := by decide +kernel
theorem dX1_openGates_70 : decode cX1_openGates 70 = .ok (.aload_n 1, 1) := by decide +kernel
theorem dX1_openGates_71 : decode cX1_openGates 71 = .ok (.aload_n 3, 1) := by decide +kernel
theorem dX1_openGates_72 : decode cX1_openGates 72 = .ok (.invokevirtual 170, 3) := by decide +kernel
theorem dX1_openGates_75 : decode cX1_openGates 75 = .ok (.ifCond .ne 6, 3) := by decide +kernel
theorem dX1_openGates_78 : decode cX1_openGates 78 = .ok (.goto 130, 3) := by decide +kernel
theorem dX1_openGates_81 : decode cX1_openGates 81 = .ok (.aload 4, 2) := by decide +kernel
theorem dX1_openGates_83 : decode cX1_openGates 83 = .ok (.getfield 176, 3) := by decide +kernel
theorem dX1_openGates_86 : decode cX1_openGates 86 = .ok (.iload 6, 2) := by decide +kernel
theorem dX1_openGates_88 : decode cX1_openGates 88 = .ok (.iaload, 1) := by decide +kernel
theorem dX1_openGates_89 : decode cX1_openGates 89 = .ok (.aload 4, 2) := by decide +kernel
theorem dX1_openGates_91 : decode cX1_openGates 91 = .ok (.getfield 179, 3) := by decide +kernel
theorem dX1_openGates_94 : decode cX1_openGates 94 = .ok (.iload 6, 2) := by decide +kernel
theorem dX1_openGates_96 : decode cX1_openGates 96 = .ok (.iaload, 1) := by decide +kernel
theorem dX1_openGates_97 : decode cX1_openGates 97 = .ok (.invokestatic 134, 3) := by decide +kernel
theorem dX1_openGates_100 : decode cX1_openGates 100 = .ok (.istore 7, 2) := by decide +kernel
theorem dX1_openGates_102 : decode cX1_openGates 102 = .ok (.aload 4, 2) := by decide +kernel
theorem dX1_openGates_104 : decode cX1_openGates 104 = .ok (.getfield 182, 3) := by decide +kernel
theorem dX1_openGates_107 : decode cX1_openGates 107 = .ok (.iload 6, 2) := by decide +kernel
theorem dX1_openGates_109 : decode cX1_openGates 109 = .ok (.iaload, 1) := by decide +kernel
theorem dX1_openGates_110 : decode cX1_openGates 110 = .ok (.aload 4, 2) := by decide +kernel
theorem dX1_openGates_112 : decode cX1_openGates 112 = .ok (.getfield 179, 3) := by decide +kernel
theorem dX1_openGates_115 : decode cX1_openGates 115 = .ok (.iload 6, 2) := by decide +kernel
theorem dX1_openGates_117 : decode cX1_openGates 117 = .ok (.iaload, 1) := by decide +kernel
theorem dX1_openGates_118 : decode cX1_openGates 118 = .ok (.iload 7, 2) := by decide +kernel
theorem dX1_openGates_120 : decode cX1_openGates 120 = .ok (.isub, 1) := by decide +kernel
theorem dX1_openGates_121 : decode cX1_openGates 121 = .ok (.invokestatic 134, 3) := by decide +kernel
theorem dX1_openGates_124 : decode cX1_openGates 124 = .ok (.istore 8, 2) := by decide +kernel
theorem dX1_openGates_126 : decode cX1_openGates 126 = .ok (.aload 4, 2) := by decide +kernel
theorem dX1_openGates_128 : decode cX1_openGates 128 = .ok (.getfield 176, 3) := by decide +kernel
theorem dX1_openGates_131 : decode cX1_openGates 131 = .ok (.iload 6, 2) := by decide +kernel
theorem dX1_openGates_133 : decode cX1_openGates 133 = .ok (.dup2, 1) := by decide +kernel
theorem dX1_openGates_134 : decode cX1_openGates 134 = .ok (.iaload, 1) := by decide +kernel
theorem dX1_openGates_135 : decode cX1_openGates 135 = .ok (.iload 7, 2) := by decide +kernel
theorem dX1_openGates_137 : decode cX1_openGates 137 = .ok (.isub, 1) := by decide +kernel
theorem dX1_openGates_138 : decode cX1_openGates 138 = .ok (.iastore, 1) := by decide +kernel
theorem dX1_openGates_139 : decode cX1_openGates 139 = .ok (.aload 4, 2) := by decide +kernel
theorem dX1_openGates_141 : decode cX1_openGates 141 = .ok (.getfield 182, 3) := by decide +kernel
theorem dX1_openGates_144 : decode cX1_openGates 144 = .ok (.iload 6, 2) := by decide +kernel
theorem dX1_openGates_146 : decode cX1_openGates 146 = .ok (.dup2, 1) := by decide +kernel
theorem dX1_openGates_147 : decode cX1_openGates 147 = .ok (.iaload, 1) := by decide +kernel
theorem dX1_openGates_148 : decode cX1_openGates 148 = .ok (.iload 8, 2) := by decide +kernel
theorem dX1_openGates_150 : decode cX1_openGates 150 = .ok (.isub, 1) := by decide +kernel
theorem dX1_openGates_151 : decode cX1_openGates 151 = .ok (.iastore, 1) := by decide +kernel
theorem dX1_openGates_152 : decode cX1_openGates 152 = .ok (.aload_n 1, 1) := by decide +kernel
theorem dX1_openGates_153 : decode cX1_openGates 153 = .ok (.getfield 84, 3) := by decide +kernel
theorem dX1_openGates_156 : decode cX1_openGates 156 = .ok (.dup, 1) := by decide +kernel
theorem dX1_openGates_157 : decode cX1_openGates 157 = .ok (.getfield 185, 3) := by decide +kernel
theorem dX1_openGates_160 : decode cX1_openGates 160 = .ok (.iload 8, 2) := by decide +kernel
theorem dX1_openGates_162 : decode cX1_openGates 162 = .ok (.iadd, 1) := by decide +kernel
theorem dX1_openGates_163 : decode cX1_openGates 163 = .ok (.putfield 185, 3) := by decide +kernel
theorem dX1_openGates_166 : decode cX1_openGates 166 = .ok (.aload_n 3, 1) := by decide +kernel
theorem dX1_openGates_167 : decode cX1_openGates 167 = .ok (.aload_n 1, 1) := by decide +kernel
theorem dX1_openGates_168 : decode cX1_openGates 168 = .ok (.getfield 154, 3) := by decide +kernel
theorem dX1_openGates_171 : decode cX1_openGates 171 = .ok (.invokevirtual 188, 3) := by decide +kernel
theorem dX1_openGates_174 : decode cX1_openGates 174 = .ok (.ifCond .eq 20, 3) := by decide +kernel
theorem dX1_openGates_177 : decode cX1_openGates 177 = .ok (.aload_n 1, 1) := by decide +kernel
theorem dX1_openGates_178 : decode cX1_openGates 178 = .ok (.getfield 84, 3) := by decide +kernel
theorem dX1_openGates_181 : decode cX1_openGates 181 = .ok (.dup, 1) := by decide +kernel
theorem dX1_openGates_182 : decode cX1_openGates 182 = .ok (.getfield 191, 3) := by decide +kernel
theorem dX1_openGates_185 : decode cX1_openGates 185 = .ok (.iload 7, 2) := by decide +kernel
theorem dX1_openGates_187 : decode cX1_openGates 187 = .ok (.iadd, 1) := by decide +kernel
theorem dX1_openGates_188 : decode cX1_openGates 188 = .ok (.putfield 191, 3) := by decide +kernel
theorem dX1_openGates_191 : decode cX1_openGates 191 = .ok (.goto 17, 3) := by decide +kernel
theorem dX1_openGates_194 : decode cX1_openGates 194 = .ok (.aload_n 1, 1) := by decide +kernel
theorem dX1_openGates_195 : decode cX1_openGates 195 = .ok (.getfield 84, 3) := by decide +kernel
theorem dX1_openGates_198 : decode cX1_openGates 198 = .ok (.dup, 1) := by decide +kernel
theorem dX1_openGates_199 : decode cX1_openGates 199 = .ok (.getfield 194, 3) := by decide +kernel
theorem dX1_openGates_202 : decode cX1_openGates 202 = .ok (.iload 7, 2) := by decide +kernel
theorem dX1_openGates_204 : decode cX1_openGates 204 = .ok (.iadd, 1) := by decide +kernel
theorem dX1_openGates_205 : decode cX1_openGates 205 = .ok (.putfield 194, 3) := by decide +kernel
theorem dX1_openGates_208 : decode cX1_openGates 208 = .ok (.iinc 6 1, 3) := by decide +kernel
theorem dX1_openGates_211 : decode cX1_openGates 211 = .ok (.goto (-192), 3) := by decide +kernel
theorem dX1_openGates_214 : decode cX1_openGates 214 = .ok (.return_, 1) := by decide +kernel
theorem dX1_passHour_0 : decode cX1_passHour 0 = .ok (.aload_n 0, 1) := by decide +kernel
theorem dX1_passHour_1 : decode cX1_passHour 1 = .ok (.aload_n 1, 1) := by decide +kernel
theorem dX1_passHour_2 : decode cX1_passHour 2 = .ok (.invokevirtual 70, 3) := by decide +kernel
theorem dX1_passHour_5 : decode cX1_passHour 5 = .ok (.aload_n 0, 1) := by decide +kernel
theorem dX1_passHour_6 : decode cX1_passHour 6 = .ok (.aload_n 1, 1) := by decide +kernel
theorem dX1_passHour_7 : decode cX1_passHour 7 = .ok (.invokevirtual 74, 3) := by decide +kernel
theorem dX1_passHour_10 : decode cX1_passHour 10 = .ok (.aload_n 0, 1) := by decide +kernel
theorem dX1_passHour_11 : decode cX1_passHour 11 = .ok (.aload_n 1, 1) := by decide +kernel
theorem dX1_passHour_12 : decode cX1_passHour 12 = .ok (.invokevirtual 77, 3) := by decide +kernel
theorem dX1_passHour_15 : decode cX1_passHour 15 = .ok (.aload_n 0, 1) := by decide +kernel
theorem dX1_passHour_16 : decode cX1_passHour 16 = .ok (.aload_n 1, 1) := by decide +kernel
theorem dX1_passHour_17 : decode cX1_passHour 17 = .ok (.aload_n 2, 1) := by decide +kernel
theorem dX1_passHour_18 : decode cX1_passHour 18 = .ok (.aload_n 3, 1) := by decide +kernel
theorem dX1_passHour_19 : decode cX1_passHour 19 = .ok (.invokevirtual 80, 3) := by decide +kernel
theorem dX1_passHour_22 : decode cX1_passHour 22 = .ok (.aload_n 0, 1) := by decide +kernel
theorem dX1_passHour_23 : decode cX1_passHour 23 = .ok (.aload_n 1, 1) := by decide +kernel
theorem dX1_passHour_24 : decode cX1_passHour 24 = .ok (.getfield 84, 3) := by decide +kernel
theorem dX1_passHour_27 : decode cX1_passHour 27 = .ok (.invokevirtual 88, 3) := by decide +kernel
theorem dX1_passHour_30 : decode cX1_passHour 30 = .ok (.return_, 1) := by decide +kernel
set_option maxHeartbeats 4000000 in
set_option maxRecDepth 100000 in
theorem xX1_drink_54 {K : KT} {v3 : Int32} {v4 : Int32} {s1 : Int32} {s2 : Int32} {w : Wd} {r : Wd} (G : GK K cX1_drink RX1 7 3) (M : Main K.ks) (k10 : Int32 → Int32 → Wd → Option Wd) (hk10 : ∀ (v3 : Int32) (v4 : Int32) (w : Wd), k10 v3 v4 w = some r → XW K 10 [some (.ref 92), some (.ref 1), some (.ref 2), some (.int v3), some (.int v4), none, none] [] w) (hf : fX1_drink_54 k10 v3 v4 s1 s2 w = some r) (hr : RV K r) : XW K 54 [some (.ref 92), some (.ref 1), some (.ref 2), some (.int v3), some (.int v4), none, none] [.int s2, .int s1, .ref 98] w := by
  unfold fX1_drink_54 at hf
  refine x_iast G (kd98 M) dX1_drink_54 hf (fun hb_1 hf => ?_)
  refine nwr hf (fun w_2 hf => ?_)
  refine x_aload_n G dX1_drink_55 rfl rfl ?_
  refine x_getR G (kd92 M) 6 (b := 99) rfl cl1 rfl wf_X1_30 dX1_drink_56 ?_
  refine x_iload_n G dX1_drink_59 rfl rfl ?_
  refine x_iload G dX1_drink_60 rfl ?_
  refine x_iast G (kd99 M) dX1_drink_62 hf (fun hb_3 hf => ?_)
  refine nwr hf (fun w_4 hf => ?_)
  refine x_iinc G (lv' := [some (.ref 92), some (.ref 1), some (.ref 2), some (.int (v3 + (1 : Int32))), some (.int v4), none, none]) (v := 1) dX1_drink_63 rfl (by decide) rfl rfl rfl ?_
  refine x_iinc G (lv' := [some (.ref 92), some (.ref 1), some (.ref 2), some (.int (v3 + (1 : Int32))), some (.int (v4 + (1 : Int32))), none, none]) (v := 1) dX1_drink_66 rfl (by decide) rfl rfl rfl ?_
  refine x_goto G (tgt := 10) dX1_drink_69 (by decide) ?_
  exact XW.sub (lv' := [some (.ref 92), some (.ref 1), some (.ref 2), some (.int (v3 + (1 : Int32))), some (.int (v4 + (1 : Int32))), none, none]) (And.intro rfl (And.intro rfl (And.intro rfl (And.intro rfl (And.intro rfl trivial))))) (hk10 _ _ _ hf)

set_option maxHeartbeats 4000000 in
set_option maxRecDepth 100000 in
theorem xX1_drink_111 {K : KT} {r : Wd} (G : GK K cX1_drink RX1 7 3) (M : Main K.ks) (k80 : Int32 → Int32 → Wd → Option Wd) (hk80 : ∀ (v3 : Int32) (v4 : Int32) (w : Wd), k80 v3 v4 w = some r → XW K 80 [some (.ref 92), none, some (.ref 2), some (.int v3), some (.int v4), none, none] [] w) (hr : RV K r) : ∀ (n : Nat) (v3 : Int32) (v4 : Int32) (v5 : Int32) (v6 : Int32) (w : Wd), fX1_drink_111 k80 n v3 v4 v5 v6 w = some r → XW K 111 [some (.ref 92), none, some (.ref 2), some (.int v3), some (.int v4), some (.int v5), some (.int v6)] [] w := by
  intro n
  induction n with
  | zero =>
    intro v3 v4 v5 v6 w hf
    unfold fX1_drink_111 at hf
    cases hf
  | succ n ih =>
    intro v3 v4 v5 v6 w hf
    unfold fX1_drink_111 at hf
    refine x_iload G dX1_drink_111 rfl ?_
    refine x_iload_n G dX1_drink_113 rfl rfl ?_
    refine x_icmpge G (tgt := 154) dX1_drink_114 (by decide) hf (fun c_1 hf => ?_) (fun c_1 hf => ?_)
    · refine x_iload G dX1_drink_117 rfl ?_
      refine x_aload_n G dX1_drink_119 rfl rfl ?_
      refine x_getR G (kd92 M) 6 (b := 99) rfl cl1 rfl wf_X1_30 dX1_drink_120 ?_
      refine x_iload G dX1_drink_123 rfl ?_
      refine x_iald G (kd99 M) dX1_drink_125 hf (fun hb_2 hf => ?_)
      obtain ⟨v_3, hv_3, hf⟩ := bnd hf
      refine x_nesI G (As := [.int v4, .int (ri w 99 v6)]) (mX11_near G.2.2.2.2.2.2.1 M hv_3) mn_X1_222 rfl rfl rfl rfl rfl dX1_drink_126 ?_
      refine x_iload G dX1_drink_129 rfl ?_
      refine x_iload G dX1_drink_131 rfl ?_
      obtain ⟨v_4, hv_4, hf⟩ := bnd hf
      refine x_nesI G (As := [.int v4, .int v5]) (mX11_near G.2.2.2.2.2.2.1 M hv_4) mn_X1_222 rfl rfl rfl rfl rfl dX1_drink_133 ?_
      refine x_icmpge G (tgt := 148) dX1_drink_136 (by decide) hf (fun c_5 hf => ?_) (fun c_5 hf => ?_)
      · refine x_aload_n G dX1_drink_139 rfl rfl ?_
        refine x_getR G (kd92 M) 6 (b := 99) rfl cl1 rfl wf_X1_30 dX1_drink_140 ?_
        refine x_iload G dX1_drink_143 rfl ?_
        refine x_iald0 G (kd99 M) dX1_drink_145 hb_2 ?_
        refine x_istore G (lv' := [some (.ref 92), none, some (.ref 2), some (.int v3), some (.int v4), some (.int (ri w 99 v6)), some (.int v6)]) dX1_drink_146 rfl rfl rfl ?_
        refine x_iinc G (lv' := [some (.ref 92), none, some (.ref 2), some (.int v3), some (.int v4), some (.int (ri w 99 v6)), some (.int (v6 + (1 : Int32)))]) (v := 1) dX1_drink_148 rfl (by decide) rfl rfl rfl ?_
        refine x_goto G (tgt := 111) dX1_drink_151 (by decide) ?_
        exact XW.sub (lv' := [some (.ref 92), none, some (.ref 2), some (.int v3), some (.int v4), some (.int (ri w 99 v6)), some (.int (v6 + (1 : Int32)))]) (And.intro rfl (And.intro rfl (And.intro rfl (And.intro rfl (And.intro rfl (And.intro rfl trivial)))))) (ih _ _ _ _ _ hf)
      · refine x_iinc G (lv' := [some (.ref 92), none, some (.ref 2), some (.int v3), some (.int v4), some (.int v5), some (.int (v6 + (1 : Int32)))]) (v := 1) dX1_drink_148 rfl (by decide) rfl rfl rfl ?_
        refine x_goto G (tgt := 111) dX1_drink_151 (by decide) ?_
        exact XW.sub (lv' := [some (.ref 92), none, some (.ref 2), some (.int v3), some (.int v4), some (.int v5), some (.int (v6 + (1 : Int32)))]) (And.intro rfl (And.intro rfl (And.intro rfl (And.intro rfl (And.intro rfl (And.intro rfl trivial)))))) (ih _ _ _ _ _ hf)
    · refine x_aload_n G dX1_drink_154 rfl rfl ?_
      refine x_getR G (kd92 M) 5 (b := 98) rfl cl1 rfl wf_X1_27 dX1_drink_155 ?_
      refine x_iload G dX1_drink_158 rfl ?_
      refine x_iald G (kd98 M) dX1_drink_160 hf (fun hb_6 hf => ?_)
      refine x_iconst G (v := 1) dX1_drink_161 (by decide) ?_
      refine x_icmpne G (tgt := 185) dX1_drink_162 (by decide) hf (fun c_7 hf => ?_) (fun c_7 hf => ?_)
      · refine x_aload_n G dX1_drink_165 rfl rfl ?_
        refine x_getR G (kd2 M) 10 (b := 13) rfl cl2 rfl wf_X1_225 dX1_drink_166 ?_
        refine x_iload G dX1_drink_169 rfl ?_
        refine x_dup2 G dX1_drink_171 rfl rfl ?_
        refine x_iald0 G (kd13 M) dX1_drink_172 hb_6 ?_
        refine x_aload_n G dX1_drink_173 rfl rfl ?_
        refine x_getR G (kd2 M) 2 (b := 5) rfl cl2 rfl wf_X1_95 dX1_drink_174 ?_
        refine x_iload G dX1_drink_177 rfl ?_
        refine x_iald G (kd5 M) dX1_drink_179 hf (fun hb_8 hf => ?_)
        refine x_bipush G (v := 50) dX1_drink_180 (by decide) ?_
        refine x_idiv G dX1_drink_182 (by decide) ?_
        refine x_iadd G dX1_drink_183 ?_
        refine x_iast0 G (kd13 M) dX1_drink_184 hb_6 ?_
        refine nwr hf (fun w_9 hf => ?_)
        refine x_iinc G (lv' := [some (.ref 92), none, some (.ref 2), some (.int v3), some (.int (v4 + (1 : Int32))), some (.int v5), some (.int v6)]) (v := 1) dX1_drink_185 rfl (by decide) rfl rfl rfl ?_
        refine x_goto G (tgt := 80) dX1_drink_188 (by decide) ?_
        exact XW.sub (lv' := [some (.ref 92), none, some (.ref 2), some (.int v3), some (.int (v4 + (1 : Int32))), none, none]) (And.intro rfl (And.intro rfl (And.intro rfl (And.intro rfl trivial)))) (hk80 _ _ _ hf)
      · refine x_iinc G (lv' := [some (.ref 92), none, some (.ref 2), some (.int v3), some (.int (v4 + (1 : Int32))), some (.int v5), some (.int v6)]) (v := 1) dX1_drink_185 rfl (by decide) rfl rfl rfl ?_
        refine x_goto G (tgt := 80) dX1_drink_188 (by decide) ?_
        exact XW.sub (lv' := [some (.ref 92), none, some (.ref 2), some (.int v3), some (.int (v4 + (1 : Int32))), none, none]) (And.intro rfl (And.intro rfl (And.intro rfl (And.intro rfl trivial)))) (hk80 _ _ _ hf)

set_option maxHeartbeats 4000000 in
set_option maxRecDepth 100000 in
theorem xX1_drink_80 {K : KT} {r : Wd} (G : GK K cX1_drink RX1 7 3) (M : Main K.ks) (hr : RV K r) : ∀ (n : Nat) (v3 : Int32) (v4 : Int32) (w : Wd), fX1_drink_80 n v3 v4 w = some r → XW K 80 [some (.ref 92), none, some (.ref 2), some (.int v3), some (.int v4), none, none] [] w := by
  intro n
  induction n with
  | zero =>
    intro v3 v4 w hf
    unfold fX1_drink_80 at hf
    cases hf
  | succ n ih =>
    intro v3 v4 w hf
    unfold fX1_drink_80 at hf
    refine x_iload G dX1_drink_80 rfl ?_
    refine x_bipush G (v := 100) dX1_drink_82 (by decide) ?_
    refine x_icmpge G (tgt := 191) dX1_drink_84 (by decide) hf (fun c_1 hf => ?_) (fun c_1 hf => ?_)
    · refine x_aload_n G dX1_drink_87 rfl rfl ?_
      refine x_getR G (kd2 M) 2 (b := 5) rfl cl2 rfl wf_X1_95 dX1_drink_88 ?_
      refine x_iload G dX1_drink_91 rfl ?_
      refine x_iald G (kd5 M) dX1_drink_93 hf (fun hb_2 hf => ?_)
      refine x_ifne G (tgt := 100) dX1_drink_94 (by decide) hf (fun c_3 hf => ?_) (fun c_3 hf => ?_)
      · refine x_goto G (tgt := 185) dX1_drink_97 (by decide) ?_
        refine x_iinc G (lv' := [some (.ref 92), none, some (.ref 2), some (.int v3), some (.int (v4 + (1 : Int32))), none, none]) (v := 1) dX1_drink_185 rfl (by decide) rfl rfl rfl ?_
        refine x_goto G (tgt := 80) dX1_drink_188 (by decide) ?_
        exact XW.sub (lv' := [some (.ref 92), none, some (.ref 2), some (.int v3), some (.int (v4 + (1 : Int32))), none, none]) (And.intro rfl (And.intro rfl (And.intro rfl (And.intro rfl trivial)))) (ih _ _ _ hf)
      · refine x_aload_n G dX1_drink_100 rfl rfl ?_
        refine x_getR G (kd92 M) 6 (b := 99) rfl cl1 rfl wf_X1_30 dX1_drink_101 ?_
        refine x_iconst G (v := 0) dX1_drink_104 (by decide) ?_
        refine x_iald0 G (kd99 M) dX1_drink_105 (by decide) ?_
        refine x_istore G (lv' := [some (.ref 92), none, some (.ref 2), some (.int v3), some (.int v4), some (.int (ri w 99 (0 : Int32))), none]) dX1_drink_106 rfl rfl rfl ?_
        refine x_iconst G (v := 1) dX1_drink_108 (by decide) ?_
        refine x_istore G (lv' := [some (.ref 92), none, some (.ref 2), some (.int v3), some (.int v4), some (.int (ri w 99 (0 : Int32))), some (.int (1 : Int32))]) dX1_drink_109 rfl rfl rfl ?_
        exact XW.sub (lv' := [some (.ref 92), none, some (.ref 2), some (.int v3), some (.int v4), some (.int (ri w 99 (0 : Int32))), some (.int (1 : Int32))]) (And.intro rfl (And.intro rfl (And.intro rfl (And.intro rfl (And.intro rfl (And.intro rfl trivial)))))) (xX1_drink_111 G M (fX1_drink_80 n) ih hr FU _ _ _ _ _ hf)
    · exact x_vretW G hf hr dX1_drink_191

set_option maxHeartbeats 4000000 in
set_option maxRecDepth 100000 in
theorem xX1_drink_10 {K : KT} {r : Wd} (G : GK K cX1_drink RX1 7 3) (M : Main K.ks) (hr : RV K r) : ∀ (n : Nat) (v3 : Int32) (v4 : Int32) (w : Wd), fX1_drink_10 n v3 v4 w = some r → XW K 10 [some (.ref 92), some (.ref 1), some (.ref 2), some (.int v3), some (.int v4), none, none] [] w := by
  intro n
  induction n with
  | zero =>
    intro v3 v4 w hf
    unfold fX1_drink_10 at hf
    cases hf
  | succ n ih =>
    intro v3 v4 w hf
    unfold fX1_drink_10 at hf
    refine x_iload G dX1_drink_10 rfl ?_
    refine x_bipush G (v := 100) dX1_drink_12 (by decide) ?_
    refine x_icmpge G (tgt := 72) dX1_drink_14 (by decide) hf (fun c_1 hf => ?_) (fun c_1 hf => ?_)
    · refine x_aload_n G dX1_drink_17 rfl rfl ?_
      refine x_getR G (kd2 M) 5 (b := 8) rfl cl2 rfl wf_X1_215 dX1_drink_18 ?_
      refine x_iload G dX1_drink_21 rfl ?_
      refine x_iald G (kd8 M) dX1_drink_23 hf (fun hb_2 hf => ?_)
      refine x_ifne G (tgt := 30) dX1_drink_24 (by decide) hf (fun c_3 hf => ?_) (fun c_3 hf => ?_)
      · refine x_goto G (tgt := 66) dX1_drink_27 (by decide) ?_
        refine x_iinc G (lv' := [some (.ref 92), some (.ref 1), some (.ref 2), some (.int v3), some (.int (v4 + (1 : Int32))), none, none]) (v := 1) dX1_drink_66 rfl (by decide) rfl rfl rfl ?_
        refine x_goto G (tgt := 10) dX1_drink_69 (by decide) ?_
        exact XW.sub (lv' := [some (.ref 92), some (.ref 1), some (.ref 2), some (.int v3), some (.int (v4 + (1 : Int32))), none, none]) (And.intro rfl (And.intro rfl (And.intro rfl (And.intro rfl (And.intro rfl trivial))))) (ih _ _ _ hf)
      · refine x_aload_n G dX1_drink_30 rfl rfl ?_
        refine x_getR G (kd92 M) 5 (b := 98) rfl cl1 rfl wf_X1_27 dX1_drink_31 ?_
        refine x_iload G dX1_drink_34 rfl ?_
        refine x_aload_n G dX1_drink_36 rfl rfl ?_
        refine x_aload_n G dX1_drink_37 rfl rfl ?_
        refine x_getR G (kd1 M) 1 (b := 14) rfl cl0 rfl wf_X1_84 dX1_drink_38 ?_
        refine x_iload G dX1_drink_41 rfl ?_
        obtain ⟨v_4, hv_4, hf⟩ := bnd hf
        refine x_virI G (As := [.ref 14, .int v4]) (mX1_isBadPump G.2.2.2.2.2.2.1 M hv_4) mv_X1_218 (kd92 M) cl1 rfl rfl rfl rfl rfl dX1_drink_43 ?_
        refine x_ifeqB G (tgt := 53) dX1_drink_46 (by decide) hf (fun c_5 hf => ?_) (fun c_5 hf => ?_)
        · refine x_iconst G (v := 1) dX1_drink_49 (by decide) ?_
          refine x_goto G (tgt := 54) dX1_drink_50 (by decide) ?_
          exact (xX1_drink_54 G M (fX1_drink_10 n) ih hf hr)
        · refine x_iconst G (v := 0) dX1_drink_53 (by decide) ?_
          exact (xX1_drink_54 G M (fX1_drink_10 n) ih hf hr)
    · refine x_iload_n G dX1_drink_72 rfl rfl ?_
      refine x_ifne G (tgt := 77) dX1_drink_73 (by decide) hf (fun c_6 hf => ?_) (fun c_6 hf => ?_)
      · exact x_vretW G hf hr dX1_drink_76
      · refine x_iconst G (v := 0) dX1_drink_77 (by decide) ?_
        refine x_istore G (lv' := [some (.ref 92), some (.ref 1), some (.ref 2), some (.int v3), some (.int (0 : Int32)), none, none]) dX1_drink_78 rfl rfl rfl ?_
        exact XW.sub (lv' := [some (.ref 92), none, some (.ref 2), some (.int v3), some (.int (0 : Int32)), none, none]) (And.intro rfl (And.intro rfl (And.intro rfl (And.intro rfl trivial)))) (xX1_drink_80 G M hr FU _ _ _ hf)

set_option maxHeartbeats 4000000 in
set_option maxRecDepth 100000 in
theorem xX1_drink_e {K : KT} {w : Wd} {r : Wd} (G : GK K cX1_drink RX1 7 3) (M : Main K.ks) (hf : fX1_drink w = some r) (hr : RV K r) : XW K 0 [some (.ref 92), some (.ref 1), none, none, none, none, none] [] w := by
  unfold fX1_drink at hf
  refine x_aload_n G dX1_drink_0 rfl rfl ?_
  refine x_getR G (kd1 M) 0 (b := 2) rfl cl0 rfl wf_X1_33 dX1_drink_1 ?_
  refine x_astore_n G (lv' := [some (.ref 92), some (.ref 1), some (.ref 2), none, none, none, none]) dX1_drink_4 rfl rfl rfl rfl ?_
  refine x_iconst G (v := 0) dX1_drink_5 (by decide) ?_
  refine x_istore_n G (lv' := [some (.ref 92), some (.ref 1), some (.ref 2), some (.int (0 : Int32)), none, none, none]) dX1_drink_6 rfl rfl rfl rfl ?_
  refine x_iconst G (v := 0) dX1_drink_7 (by decide) ?_
  refine x_istore G (lv' := [some (.ref 92), some (.ref 1), some (.ref 2), some (.int (0 : Int32)), some (.int (0 : Int32)), none, none]) dX1_drink_8 rfl rfl rfl ?_
  exact XW.sub (lv' := [some (.ref 92), some (.ref 1), some (.ref 2), some (.int (0 : Int32)), some (.int (0 : Int32)), none, none]) (And.intro rfl (And.intro rfl (And.intro rfl (And.intro rfl (And.intro rfl trivial))))) (xX1_drink_10 G M hr FU _ _ _ hf)

theorem mX1_drink {l : Launch} {S : KS} {w : Wd} (hI : Inj S) (M : Main S) {r : Wd} (hf : fX1_drink w = some r) : CV l yX1_drink cX1_drink 7 none 3 S [.ref 92, .ref 1] w r := by
  intro sz
  refine mk_entry rfl (by decide +kernel) hI 5 rfl rfl (fun K h1 h2 h3 h4 h5 h6 G => ?_)
  subst h2
  exact xX1_drink_e G M hf ⟨h3, by rw [h4, h6], h5⟩

set_option maxHeartbeats 4000000 in
set_option maxRecDepth 100000 in
theorem xX1_fillCellars_95 {K : KT} {v2 : Int32} {v5 : Int32} {v6 : Int32} {w : Wd} {r : Wd} (G : GK K cX1_fillCellars RX1 8 2) (M : Main K.ks) (k2 : Int32 → Wd → Option Wd) (hk2 : ∀ (v2 : Int32) (w : Wd), k2 v2 w = some r → XW K 2 [some (.ref 92), some (.ref 14), some (.int v2), none, none, none, none, none] [] w) (hf : fX1_fillCellars_95 k2 v2 v5 v6 w = some r) (hr : RV K r) : XW K 95 [some (.ref 92), some (.ref 14), some (.int v2), none, none, some (.int v5), some (.int v6), none] [] w := by
  unfold fX1_fillCellars_95 at hf
  refine x_aload_n G dX1_fillCellars_95 rfl rfl ?_
  refine x_getR G (kd14 M) 0 (b := 15) rfl cl10 rfl wf_X1_98 dX1_fillCellars_96 ?_
  refine x_iload_n G dX1_fillCellars_99 rfl rfl ?_
  refine x_dup2 G dX1_fillCellars_100 rfl rfl ?_
  refine x_iald G (kd15 M) dX1_fillCellars_101 hf (fun hb_1 hf => ?_)
  refine x_iload G dX1_fillCellars_102 rfl ?_
  refine x_isub G dX1_fillCellars_104 ?_
  refine x_iast0 G (kd15 M) dX1_fillCellars_105 hb_1 ?_
  refine nwr hf (fun w_2 hf => ?_)
  refine x_aload_n G dX1_fillCellars_106 rfl rfl ?_
  refine x_getR G (kd14 M) 1 (b := 16) rfl cl10 rfl wf_X1_103 dX1_fillCellars_107 ?_
  refine x_iload_n G dX1_fillCellars_110 rfl rfl ?_
  refine x_dup2 G dX1_fillCellars_111 rfl rfl ?_
  refine x_iald0 G (kd16 M) dX1_fillCellars_112 hb_1 ?_
  refine x_iload G dX1_fillCellars_113 rfl ?_
  refine x_isub G dX1_fillCellars_115 ?_
  refine x_iast0 G (kd16 M) dX1_fillCellars_116 hb_1 ?_
  refine nwr hf (fun w_3 hf => ?_)
  refine x_aload_n G dX1_fillCellars_117 rfl rfl ?_
  refine x_getR G (kd14 M) 2 (b := 17) rfl cl10 rfl wf_X1_209 dX1_fillCellars_118 ?_
  refine x_iload_n G dX1_fillCellars_121 rfl rfl ?_
  refine x_dup2 G dX1_fillCellars_122 rfl rfl ?_
  refine x_iald0 G (kd17 M) dX1_fillCellars_123 hb_1 ?_
  refine x_iload G dX1_fillCellars_124 rfl ?_
  refine x_iadd G dX1_fillCellars_126 ?_
  refine x_iast0 G (kd17 M) dX1_fillCellars_127 hb_1 ?_
  refine nwr hf (fun w_4 hf => ?_)
  refine x_aload_n G dX1_fillCellars_128 rfl rfl ?_
  refine x_getR G (kd14 M) 3 (b := 18) rfl cl10 rfl wf_X1_212 dX1_fillCellars_129 ?_
  refine x_iload_n G dX1_fillCellars_132 rfl rfl ?_
  refine x_dup2 G dX1_fillCellars_133 rfl rfl ?_
  refine x_iald0 G (kd18 M) dX1_fillCellars_134 hb_1 ?_
  refine x_iload G dX1_fillCellars_135 rfl ?_
  refine x_iadd G dX1_fillCellars_137 ?_
  refine x_iast0 G (kd18 M) dX1_fillCellars_138 hb_1 ?_
  refine nwr hf (fun w_5 hf => ?_)
  refine x_iinc G (lv' := [some (.ref 92), some (.ref 14), some (.int (v2 + (1 : Int32))), none, none, some (.int v5), some (.int v6), none]) (v := 1) dX1_fillCellars_139 rfl (by decide) rfl rfl rfl ?_
  refine x_goto G (tgt := 2) dX1_fillCellars_142 (by decide) ?_
  exact XW.sub (lv' := [some (.ref 92), some (.ref 14), some (.int (v2 + (1 : Int32))), none, none, none, none, none]) (And.intro rfl (And.intro rfl (And.intro rfl trivial))) (hk2 _ _ hf)

set_option maxHeartbeats 4000000 in
set_option maxRecDepth 100000 in
theorem xX1_fillCellars_2 {K : KT} {r : Wd} (G : GK K cX1_fillCellars RX1 8 2) (M : Main K.ks) (hr : RV K r) : ∀ (n : Nat) (v2 : Int32) (w : Wd), fX1_fillCellars_2 n v2 w = some r → XW K 2 [some (.ref 92), some (.ref 14), some (.int v2), none, none, none, none, none] [] w := by
  intro n
  induction n with
  | zero =>
    intro v2 w hf
    unfold fX1_fillCellars_2 at hf
    cases hf
  | succ n ih =>
    intro v2 w hf
    unfold fX1_fillCellars_2 at hf
    refine x_iload_n G dX1_fillCellars_2 rfl rfl ?_
    refine x_bipush G (v := 100) dX1_fillCellars_3 (by decide) ?_
    refine x_icmpge G (tgt := 145) dX1_fillCellars_5 (by decide) hf (fun c_1 hf => ?_) (fun c_1 hf => ?_)
    · refine x_aload_n G dX1_fillCellars_8 rfl rfl ?_
      refine x_iload_n G dX1_fillCellars_9 rfl rfl ?_
      obtain ⟨v_2, hv_2, hf⟩ := bnd hf
      refine x_virJ G (As := [.int v2]) (mX10_inDrain G.2.2.2.2.2.2.1 M hv_2) mv_X1_200 (kd14 M) cl10 rfl rfl rfl rfl rfl dX1_fillCellars_10 ?_
      refine x_aload_n G dX1_fillCellars_13 rfl rfl ?_
      refine x_getR G (kd92 M) 2 (b := 95) rfl cl1 rfl wf_X1_18 dX1_fillCellars_14 ?_
      refine x_iload_n G dX1_fillCellars_17 rfl rfl ?_
      refine x_iald G (kd95 M) dX1_fillCellars_18 hf (fun hb_3 hf => ?_)
      refine x_i2l G dX1_fillCellars_19 ?_
      refine x_lsub G dX1_fillCellars_20 ?_
      refine x_lstore_n G (lv' := [some (.ref 92), some (.ref 14), some (.int v2), some (.long (v_2 - (ri w 95 v2).toInt64)), none, none, none, none]) dX1_fillCellars_21 rfl rfl rfl rfl ?_
      refine x_lload_n G dX1_fillCellars_22 rfl rfl ?_
      refine x_lconst G (v := 0) dX1_fillCellars_23 (by decide) ?_
      refine x_lcmp G dX1_fillCellars_24 ?_
      refine x_cle G (tgt := 53) dX1_fillCellars_25 (by decide) hf (fun c_4 hf => ?_) (fun c_4 hf => ?_)
      · refine x_lload_n G dX1_fillCellars_28 rfl rfl ?_
        refine x_aload_n G dX1_fillCellars_29 rfl rfl ?_
        refine x_getR G (kd14 M) 1 (b := 16) rfl cl10 rfl wf_X1_103 dX1_fillCellars_30 ?_
        refine x_iload_n G dX1_fillCellars_33 rfl rfl ?_
        refine x_iald0 G (kd16 M) dX1_fillCellars_34 hb_3 ?_
        refine x_i2l G dX1_fillCellars_35 ?_
        refine x_minL G wm_X1_204 wminL_1 wminL_2 wminL_3 rfl rfl dX1_fillCellars_36 ?_
        refine x_l2i G dX1_fillCellars_39 ?_
        refine x_istore G (lv' := [some (.ref 92), some (.ref 14), some (.int v2), some (.long (v_2 - (ri w 95 v2).toInt64)), none, none, some (.int ((lmin (v_2 - (ri w 95 v2).toInt64) ((ri w 16 v2).toInt64)).toInt32)), none]) dX1_fillCellars_40 rfl rfl rfl ?_
        refine x_lload_n G dX1_fillCellars_42 rfl rfl ?_
        refine x_iload G dX1_fillCellars_43 rfl ?_
        refine x_i2l G dX1_fillCellars_45 ?_
        refine x_lsub G dX1_fillCellars_46 ?_
        refine x_l2i G dX1_fillCellars_47 ?_
        refine x_istore G (lv' := [some (.ref 92), some (.ref 14), some (.int v2), some (.long (v_2 - (ri w 95 v2).toInt64)), none, some (.int (((v_2 - (ri w 95 v2).toInt64) - ((lmin (v_2 - (ri w 95 v2).toInt64) ((ri w 16 v2).toInt64)).toInt32).toInt64).toInt32)), some (.int ((lmin (v_2 - (ri w 95 v2).toInt64) ((ri w 16 v2).toInt64)).toInt32)), none]) dX1_fillCellars_48 rfl rfl rfl ?_
        refine x_goto G (tgt := 95) dX1_fillCellars_50 (by decide) ?_
        exact XW.sub (lv' := [some (.ref 92), some (.ref 14), some (.int v2), none, none, some (.int (((v_2 - (ri w 95 v2).toInt64) - ((lmin (v_2 - (ri w 95 v2).toInt64) ((ri w 16 v2).toInt64)).toInt32).toInt64).toInt32)), some (.int ((lmin (v_2 - (ri w 95 v2).toInt64) ((ri w 16 v2).toInt64)).toInt32)), none]) (And.intro rfl (And.intro rfl (And.intro rfl (And.intro rfl (And.intro rfl trivial))))) (xX1_fillCellars_95 G M (fX1_fillCellars_2 n) ih hf hr)
      · refine x_lload_n G dX1_fillCellars_53 rfl rfl ?_
        refine x_lneg G dX1_fillCellars_54 ?_
        refine x_ldc2 G wl_X1_207 dX1_fillCellars_55 ?_
        refine x_minL G wm_X1_204 wminL_1 wminL_2 wminL_3 rfl rfl dX1_fillCellars_58 ?_
        refine x_l2i G dX1_fillCellars_61 ?_
        refine x_istore G (lv' := [some (.ref 92), some (.ref 14), some (.int v2), some (.long (v_2 - (ri w 95 v2).toInt64)), none, none, none, some (.int ((lmin (-(v_2 - (ri w 95 v2).toInt64)) (5 : Int64)).toInt32))]) dX1_fillCellars_62 rfl rfl rfl ?_
        refine x_iload G dX1_fillCellars_64 rfl ?_
        refine x_aload_n G dX1_fillCellars_66 rfl rfl ?_
        refine x_getR G (kd14 M) 2 (b := 17) rfl cl10 rfl wf_X1_209 dX1_fillCellars_67 ?_
        refine x_iload_n G dX1_fillCellars_70 rfl rfl ?_
        refine x_iald0 G (kd17 M) dX1_fillCellars_71 hb_3 ?_
        refine x_min G wm_X1_134 wmin_1 wmin_2 wmin_3 rfl rfl dX1_fillCellars_72 ?_
        refine x_ineg G dX1_fillCellars_75 ?_
        refine x_istore G (lv' := [some (.ref 92), some (.ref 14), some (.int v2), some (.long (v_2 - (ri w 95 v2).toInt64)), none, some (.int (-(mmin ((lmin (-(v_2 - (ri w 95 v2).toInt64)) (5 : Int64)).toInt32) (ri w 17 v2)))), none, some (.int ((lmin (-(v_2 - (ri w 95 v2).toInt64)) (5 : Int64)).toInt32))]) dX1_fillCellars_76 rfl rfl rfl ?_
        refine x_iload G dX1_fillCellars_78 rfl ?_
        refine x_iload G dX1_fillCellars_80 rfl ?_
        refine x_iadd G dX1_fillCellars_82 ?_
        refine x_aload_n G dX1_fillCellars_83 rfl rfl ?_
        refine x_getR G (kd14 M) 3 (b := 18) rfl cl10 rfl wf_X1_212 dX1_fillCellars_84 ?_
        refine x_iload_n G dX1_fillCellars_87 rfl rfl ?_
        refine x_iald0 G (kd18 M) dX1_fillCellars_88 hb_3 ?_
        refine x_min G wm_X1_134 wmin_1 wmin_2 wmin_3 rfl rfl dX1_fillCellars_89 ?_
        refine x_ineg G dX1_fillCellars_92 ?_
        refine x_istore G (lv' := [some (.ref 92), some (.ref 14), some (.int v2), some (.long (v_2 - (ri w 95 v2).toInt64)), none, some (.int (-(mmin ((lmin (-(v_2 - (ri w 95 v2).toInt64)) (5 : Int64)).toInt32) (ri w 17 v2)))), some (.int (-(mmin ((lmin (-(v_2 - (ri w 95 v2).toInt64)) (5 : Int64)).toInt32 + (-(mmin ((lmin (-(v_2 - (ri w 95 v2).toInt64)) (5 : Int64)).toInt32) (ri w 17 v2)))) (ri w 18 v2)))), some (.int ((lmin (-(v_2 - (ri w 95 v2).toInt64)) (5 : Int64)).toInt32))]) dX1_fillCellars_93 rfl rfl rfl ?_
        exact XW.sub (lv' := [some (.ref 92), some (.ref 14), some (.int v2), none, none, some (.int (-(mmin ((lmin (-(v_2 - (ri w 95 v2).toInt64)) (5 : Int64)).toInt32) (ri w 17 v2)))), some (.int (-(mmin ((lmin (-(v_2 - (ri w 95 v2).toInt64)) (5 : Int64)).toInt32 + (-(mmin ((lmin (-(v_2 - (ri w 95 v2).toInt64)) (5 : Int64)).toInt32) (ri w 17 v2)))) (ri w 18 v2)))), none]) (And.intro rfl (And.intro rfl (And.intro rfl (And.intro rfl (And.intro rfl trivial))))) (xX1_fillCellars_95 G M (fX1_fillCellars_2 n) ih hf hr)
    · exact x_vretW G hf hr dX1_fillCellars_145

set_option maxHeartbeats 4000000 in
set_option maxRecDepth 100000 in
theorem xX1_fillCellars_e {K : KT} {w : Wd} {r : Wd} (G : GK K cX1_fillCellars RX1 8 2) (M : Main K.ks) (hf : fX1_fillCellars w = some r) (hr : RV K r) : XW K 0 [some (.ref 92), some (.ref 14), none, none, none, none, none, none] [] w := by
  unfold fX1_fillCellars at hf
  refine x_iconst G (v := 0) dX1_fillCellars_0 (by decide) ?_
  refine x_istore_n G (lv' := [some (.ref 92), some (.ref 14), some (.int (0 : Int32)), none, none, none, none, none]) dX1_fillCellars_1 rfl rfl rfl rfl ?_
  exact XW.sub (lv' := [some (.ref 92), some (.ref 14), some (.int (0 : Int32)), none, none, none, none, none]) (And.intro rfl (And.intro rfl (And.intro rfl trivial))) (xX1_fillCellars_2 G M hr FU _ _ hf)

theorem mX1_fillCellars {l : Launch} {S : KS} {w : Wd} (hI : Inj S) (M : Main S) {r : Wd} (hf : fX1_fillCellars w = some r) : CV l yX1_fillCellars cX1_fillCellars 8 none 2 S [.ref 92, .ref 14] w r := by
  intro sz
  refine mk_entry rfl (by decide +kernel) hI 6 rfl rfl (fun K h1 h2 h3 h4 h5 h6 G => ?_)
  subst h2
  exact xX1_fillCellars_e G M hf ⟨h3, by rw [h4, h6], h5⟩

set_option maxHeartbeats 4000000 in
set_option maxRecDepth 100000 in
theorem xX1_fillTank_e {K : KT} {v3 : Int32} {w : Wd} {r : Wd} (G : GK K cX1_fillTank RX1 7 1) (M : Main K.ks) (hf : fX1_fillTank v3 w = some r) (hr : RV K r) : XW K 0 [some (.ref 92), some (.ref 14), some (.ref 19), some (.int v3), none, none, none] [] w := by
  unfold fX1_fillTank at hf
  refine x_aload_n G dX1_fillTank_0 rfl rfl ?_
  refine x_getR G (kd19 M) 5 (b := 25) rfl cl3 rfl wf_X1_197 dX1_fillTank_1 ?_
  refine x_iload_n G dX1_fillTank_4 rfl rfl ?_
  refine x_iald G (kd25 M) dX1_fillTank_5 hf (fun hb_1 hf => ?_)
  refine x_aload_n G dX1_fillTank_6 rfl rfl ?_
  refine x_getR G (kd19 M) 8 (b := 28) rfl cl3 rfl wf_X1_176 dX1_fillTank_7 ?_
  refine x_iload_n G dX1_fillTank_10 rfl rfl ?_
  refine x_iald0 G (kd28 M) dX1_fillTank_11 hb_1 ?_
  refine x_isub G dX1_fillTank_12 ?_
  refine x_aload_n G dX1_fillTank_13 rfl rfl ?_
  refine x_getR G (kd19 M) 9 (b := 29) rfl cl3 rfl wf_X1_182 dX1_fillTank_14 ?_
  refine x_iload_n G dX1_fillTank_17 rfl rfl ?_
  refine x_iald0 G (kd29 M) dX1_fillTank_18 hb_1 ?_
  refine x_isub G dX1_fillTank_19 ?_
  refine x_istore G (lv' := [some (.ref 92), some (.ref 14), some (.ref 19), some (.int v3), some (.int (((ri w 25 v3) - (ri w 28 v3)) - (ri w 29 v3))), none, none]) dX1_fillTank_20 rfl rfl rfl ?_
  refine x_aload_n G dX1_fillTank_22 rfl rfl ?_
  refine x_getR G (kd14 M) 0 (b := 15) rfl cl10 rfl wf_X1_98 dX1_fillTank_23 ?_
  refine x_iload_n G dX1_fillTank_26 rfl rfl ?_
  refine x_iald0 G (kd15 M) dX1_fillTank_27 hb_1 ?_
  refine x_iload G dX1_fillTank_28 rfl ?_
  refine x_min G wm_X1_134 wmin_1 wmin_2 wmin_3 rfl rfl dX1_fillTank_30 ?_
  refine x_istore G (lv' := [some (.ref 92), some (.ref 14), some (.ref 19), some (.int v3), some (.int (((ri w 25 v3) - (ri w 28 v3)) - (ri w 29 v3))), some (.int (mmin (ri w 15 v3) (((ri w 25 v3) - (ri w 28 v3)) - (ri w 29 v3)))), none]) dX1_fillTank_33 rfl rfl rfl ?_
  refine x_aload_n G dX1_fillTank_35 rfl rfl ?_
  refine x_getR G (kd14 M) 1 (b := 16) rfl cl10 rfl wf_X1_103 dX1_fillTank_36 ?_
  refine x_iload_n G dX1_fillTank_39 rfl rfl ?_
  refine x_iald0 G (kd16 M) dX1_fillTank_40 hb_1 ?_
  refine x_iload G dX1_fillTank_41 rfl ?_
  refine x_iload G dX1_fillTank_43 rfl ?_
  refine x_isub G dX1_fillTank_45 ?_
  refine x_min G wm_X1_134 wmin_1 wmin_2 wmin_3 rfl rfl dX1_fillTank_46 ?_
  refine x_istore G (lv' := [some (.ref 92), some (.ref 14), some (.ref 19), some (.int v3), some (.int (((ri w 25 v3) - (ri w 28 v3)) - (ri w 29 v3))), some (.int (mmin (ri w 15 v3) (((ri w 25 v3) - (ri w 28 v3)) - (ri w 29 v3)))), some (.int (mmin (ri w 16 v3) ((((ri w 25 v3) - (ri w 28 v3)) - (ri w 29 v3)) - (mmin (ri w 15 v3) (((ri w 25 v3) - (ri w 28 v3)) - (ri w 29 v3))))))]) dX1_fillTank_49 rfl rfl rfl ?_
  refine x_aload_n G dX1_fillTank_51 rfl rfl ?_
  refine x_getR G (kd14 M) 0 (b := 15) rfl cl10 rfl wf_X1_98 dX1_fillTank_52 ?_
  refine x_iload_n G dX1_fillTank_55 rfl rfl ?_
  refine x_dup2 G dX1_fillTank_56 rfl rfl ?_
  refine x_iald0 G (kd15 M) dX1_fillTank_57 hb_1 ?_
  refine x_iload G dX1_fillTank_58 rfl ?_
  refine x_isub G dX1_fillTank_60 ?_
  refine x_iast0 G (kd15 M) dX1_fillTank_61 hb_1 ?_
  refine nwr hf (fun w_2 hf => ?_)
  refine x_aload_n G dX1_fillTank_62 rfl rfl ?_
  refine x_getR G (kd14 M) 1 (b := 16) rfl cl10 rfl wf_X1_103 dX1_fillTank_63 ?_
  refine x_iload_n G dX1_fillTank_66 rfl rfl ?_
  refine x_dup2 G dX1_fillTank_67 rfl rfl ?_
  refine x_iald0 G (kd16 M) dX1_fillTank_68 hb_1 ?_
  refine x_iload G dX1_fillTank_69 rfl ?_
  refine x_isub G dX1_fillTank_71 ?_
  refine x_iast0 G (kd16 M) dX1_fillTank_72 hb_1 ?_
  refine nwr hf (fun w_3 hf => ?_)
  refine x_aload_n G dX1_fillTank_73 rfl rfl ?_
  refine x_getR G (kd19 M) 8 (b := 28) rfl cl3 rfl wf_X1_176 dX1_fillTank_74 ?_
  refine x_iload_n G dX1_fillTank_77 rfl rfl ?_
  refine x_dup2 G dX1_fillTank_78 rfl rfl ?_
  refine x_iald0 G (kd28 M) dX1_fillTank_79 hb_1 ?_
  refine x_iload G dX1_fillTank_80 rfl ?_
  refine x_iadd G dX1_fillTank_82 ?_
  refine x_iast0 G (kd28 M) dX1_fillTank_83 hb_1 ?_
  refine nwr hf (fun w_4 hf => ?_)
  refine x_aload_n G dX1_fillTank_84 rfl rfl ?_
  refine x_getR G (kd19 M) 9 (b := 29) rfl cl3 rfl wf_X1_182 dX1_fillTank_85 ?_
  refine x_iload_n G dX1_fillTank_88 rfl rfl ?_
  refine x_dup2 G dX1_fillTank_89 rfl rfl ?_
  refine x_iald0 G (kd29 M) dX1_fillTank_90 hb_1 ?_
  refine x_iload G dX1_fillTank_91 rfl ?_
  refine x_iadd G dX1_fillTank_93 ?_
  refine x_iast0 G (kd29 M) dX1_fillTank_94 hb_1 ?_
  refine nwr hf (fun w_5 hf => ?_)
  exact x_vretW G hf hr dX1_fillTank_95

theorem mX1_fillTank {l : Launch} {S : KS} {w : Wd} (hI : Inj S) (M : Main S) {v3 : Int32} {r : Wd} (hf : fX1_fillTank v3 w = some r) : CV l yX1_fillTank cX1_fillTank 7 none 1 S [.ref 92, .ref 14, .ref 19, .int v3] w r := by
  intro sz
  refine mk_entry rfl (by decide +kernel) hI 3 rfl rfl (fun K h1 h2 h3 h4 h5 h6 G => ?_)
  subst h2
  exact xX1_fillTank_e G M hf ⟨h3, by rw [h4, h6], h5⟩

set_option maxHeartbeats 4000000 in
set_option maxRecDepth 100000 in
theorem xX1_leadLine_122 {K : KT} {v2 : Nat} {v3 : Int32} {v4 : Int32} {v5 : Int32} {s1 : Int32} {s2 : Int32} {w : Wd} {r : Wd} (G : GK K cX1_leadLine RX1 7 1) (M : Main K.ks) (k2 : Nat → Int32 → Wd → Option Wd) (hk2 : ∀ (v2 : Nat) (v3 : Int32) (w : Wd), IsLine K.ks v2 → k2 v2 v3 w = some r → XW K 2 [some (.ref 92), some (.ref 2), some (.ref v2), some (.int v3), none, none, none] [] w) (hv2 : IsLine K.ks v2) (hf : fX1_leadLine_122 k2 v2 v3 v4 v5 s1 s2 w = some r) (hr : RV K r) : XW K 122 [some (.ref 92), some (.ref 2), some (.ref v2), some (.int v3), some (.int v4), some (.int v5), none] [.int s2, .int s1, .ref 94] w := by
  unfold fX1_leadLine_122 at hf
  refine x_iast G (kd94 M) dX1_leadLine_122 hf (fun hb_1 hf => ?_)
  refine nwr hf (fun w_2 hf => ?_)
  refine x_aload_n G dX1_leadLine_123 rfl rfl ?_
  refine x_getR G (kd92 M) 2 (b := 95) rfl cl1 rfl wf_X1_18 dX1_leadLine_124 ?_
  refine x_iload G dX1_leadLine_127 rfl ?_
  refine x_bipush G (v := 50) dX1_leadLine_129 (by decide) ?_
  refine x_bipush G (v := 40) dX1_leadLine_131 (by decide) ?_
  refine x_iload G dX1_leadLine_133 rfl ?_
  refine x_imul G dX1_leadLine_135 ?_
  refine x_iadd G dX1_leadLine_136 ?_
  refine x_bipush G (v := 60) dX1_leadLine_137 (by decide) ?_
  refine x_aload_n G dX1_leadLine_139 rfl rfl ?_
  refine x_getI G hv2.1 0 rfl cl5 rfl wf_X1_67 dX1_leadLine_140 ?_
  refine x_imul G dX1_leadLine_143 ?_
  refine x_iadd G dX1_leadLine_144 ?_
  refine x_iast G (kd95 M) dX1_leadLine_145 hf (fun hb_3 hf => ?_)
  refine nwr hf (fun w_4 hf => ?_)
  refine x_iinc G (lv' := [some (.ref 92), some (.ref 2), some (.ref v2), some (.int (v3 + (1 : Int32))), some (.int v4), some (.int v5), none]) (v := 1) dX1_leadLine_146 rfl (by decide) rfl rfl rfl ?_
  refine x_goto G (tgt := 2) dX1_leadLine_149 (by decide) ?_
  exact XW.sub (lv' := [some (.ref 92), some (.ref 2), some (.ref v2), some (.int (v3 + (1 : Int32))), none, none, none]) (And.intro rfl (And.intro rfl (And.intro rfl (And.intro rfl trivial)))) (hk2 _ _ _ hv2 hf)

set_option maxHeartbeats 4000000 in
set_option maxRecDepth 100000 in
theorem xX1_leadLine_87 {K : KT} {v2 : Nat} {v3 : Int32} {v4 : Int32} {v5 : Int32} {v6 : Int32} {s1 : Int32} {s2 : Int32} {w : Wd} {r : Wd} (G : GK K cX1_leadLine RX1 7 1) (M : Main K.ks) (k2 : Nat → Int32 → Wd → Option Wd) (hk2 : ∀ (v2 : Nat) (v3 : Int32) (w : Wd), IsLine K.ks v2 → k2 v2 v3 w = some r → XW K 2 [some (.ref 92), some (.ref 2), some (.ref v2), some (.int v3), none, none, none] [] w) (hv2 : IsLine K.ks v2) (hf : fX1_leadLine_87 k2 v2 v3 v4 v5 v6 s1 s2 w = some r) (hr : RV K r) : XW K 87 [some (.ref 92), some (.ref 2), some (.ref v2), some (.int v3), some (.int v4), some (.int v5), some (.int v6)] [.int s2, .int s1, .ref 93] w := by
  unfold fX1_leadLine_87 at hf
  refine x_iast G (kd93 M) dX1_leadLine_87 hf (fun hb_1 hf => ?_)
  refine nwr hf (fun w_2 hf => ?_)
  refine x_aload_n G dX1_leadLine_88 rfl rfl ?_
  refine x_getR G (kd92 M) 1 (b := 94) rfl cl1 rfl wf_X1_15 dX1_leadLine_89 ?_
  refine x_iload G dX1_leadLine_92 rfl ?_
  refine x_iload G dX1_leadLine_94 rfl ?_
  refine x_ifeq G (tgt := 110) dX1_leadLine_96 (by decide) hf (fun c_3 hf => ?_) (fun c_3 hf => ?_)
  · refine x_bipush G (v := 30) dX1_leadLine_110 (by decide) ?_
    refine x_aload_n G dX1_leadLine_112 rfl rfl ?_
    refine x_getI G hv2.1 0 rfl cl5 rfl wf_X1_67 dX1_leadLine_113 ?_
    refine x_imul G dX1_leadLine_116 ?_
    refine x_aload_n G dX1_leadLine_117 rfl rfl ?_
    refine x_getI G hv2.1 0 rfl cl5 rfl wf_X1_67 dX1_leadLine_118 ?_
    refine x_imul G dX1_leadLine_121 ?_
    exact XW.sub (lv' := [some (.ref 92), some (.ref 2), some (.ref v2), some (.int v3), some (.int v4), some (.int v5), none]) (And.intro rfl (And.intro rfl (And.intro rfl (And.intro rfl (And.intro rfl (And.intro rfl trivial)))))) (xX1_leadLine_122 G M k2 hk2 hv2 hf hr)
  · refine x_bipush G (v := 20) dX1_leadLine_99 (by decide) ?_
    refine x_iload G dX1_leadLine_101 rfl ?_
    refine x_imul G dX1_leadLine_103 ?_
    refine x_iload G dX1_leadLine_104 rfl ?_
    refine x_imul G dX1_leadLine_106 ?_
    refine x_goto G (tgt := 122) dX1_leadLine_107 (by decide) ?_
    exact XW.sub (lv' := [some (.ref 92), some (.ref 2), some (.ref v2), some (.int v3), some (.int v4), some (.int v5), none]) (And.intro rfl (And.intro rfl (And.intro rfl (And.intro rfl (And.intro rfl (And.intro rfl trivial)))))) (xX1_leadLine_122 G M k2 hk2 hv2 hf hr)

set_option maxHeartbeats 4000000 in
set_option maxRecDepth 100000 in
theorem xX1_leadLine_56 {K : KT} {v2 : Nat} {v3 : Int32} {v4 : Int32} {v5 : Int32} {s0 : Int32} {w : Wd} {r : Wd} (G : GK K cX1_leadLine RX1 7 1) (M : Main K.ks) (k2 : Nat → Int32 → Wd → Option Wd) (hk2 : ∀ (v2 : Nat) (v3 : Int32) (w : Wd), IsLine K.ks v2 → k2 v2 v3 w = some r → XW K 2 [some (.ref 92), some (.ref 2), some (.ref v2), some (.int v3), none, none, none] [] w) (hv2 : IsLine K.ks v2) (hf : fX1_leadLine_56 k2 v2 v3 v4 v5 s0 w = some r) (hr : RV K r) : XW K 56 [some (.ref 92), some (.ref 2), some (.ref v2), some (.int v3), some (.int v4), some (.int v5), none] [.int s0] w := by
  unfold fX1_leadLine_56 at hf
  refine x_istore G (lv' := [some (.ref 92), some (.ref 2), some (.ref v2), some (.int v3), some (.int v4), some (.int v5), some (.int s0)]) dX1_leadLine_56 rfl rfl rfl ?_
  refine x_aload_n G dX1_leadLine_58 rfl rfl ?_
  refine x_getR G (kd92 M) 0 (b := 93) rfl cl1 rfl wf_X1_9 dX1_leadLine_59 ?_
  refine x_iload G dX1_leadLine_62 rfl ?_
  refine x_iload G dX1_leadLine_64 rfl ?_
  refine x_ifeq G (tgt := 79) dX1_leadLine_66 (by decide) hf (fun c_1 hf => ?_) (fun c_1 hf => ?_)
  · refine x_aload_n G dX1_leadLine_79 rfl rfl ?_
    refine x_getR G hv2.1 5 (b := (v2 + 1)) rfl cl5 rfl wf_X1_64 dX1_leadLine_80 ?_
    refine x_iload_n G dX1_leadLine_83 rfl rfl ?_
    refine x_iconst G (v := 1) dX1_leadLine_84 (by decide) ?_
    refine x_iadd G dX1_leadLine_85 ?_
    refine x_iald G hv2.2.1 dX1_leadLine_86 hf (fun hb_2 hf => ?_)
    exact XW.sub (lv' := [some (.ref 92), some (.ref 2), some (.ref v2), some (.int v3), some (.int v4), some (.int v5), some (.int s0)]) (And.intro rfl (And.intro rfl (And.intro rfl (And.intro rfl (And.intro rfl (And.intro rfl (And.intro rfl trivial))))))) (xX1_leadLine_87 G M k2 hk2 hv2 hf hr)
  · refine x_aload_n G dX1_leadLine_69 rfl rfl ?_
    refine x_getR G (kd2 M) 6 (b := 9) rfl cl2 rfl wf_X1_44 dX1_leadLine_70 ?_
    refine x_iload G dX1_leadLine_73 rfl ?_
    refine x_iald G (kd9 M) dX1_leadLine_75 hf (fun hb_3 hf => ?_)
    refine x_goto G (tgt := 87) dX1_leadLine_76 (by decide) ?_
    exact XW.sub (lv' := [some (.ref 92), some (.ref 2), some (.ref v2), some (.int v3), some (.int v4), some (.int v5), some (.int s0)]) (And.intro rfl (And.intro rfl (And.intro rfl (And.intro rfl (And.intro rfl (And.intro rfl (And.intro rfl trivial))))))) (xX1_leadLine_87 G M k2 hk2 hv2 hf hr)

set_option maxHeartbeats 4000000 in
set_option maxRecDepth 100000 in
theorem xX1_leadLine_2 {K : KT} {r : Wd} (G : GK K cX1_leadLine RX1 7 1) (M : Main K.ks) (hr : RV K r) : ∀ (n : Nat) (v2 : Nat) (v3 : Int32) (w : Wd), IsLine K.ks v2 → fX1_leadLine_2 n v2 v3 w = some r → XW K 2 [some (.ref 92), some (.ref 2), some (.ref v2), some (.int v3), none, none, none] [] w := by
  intro n
  induction n with
  | zero =>
    intro v2 v3 w hv2 hf
    unfold fX1_leadLine_2 at hf
    cases hf
  | succ n ih =>
    intro v2 v3 w hv2 hf
    unfold fX1_leadLine_2 at hf
    refine x_iload_n G dX1_leadLine_2 rfl rfl ?_
    refine x_aload_n G dX1_leadLine_3 rfl rfl ?_
    refine x_getI G hv2.1 3 rfl cl5 rfl wf_X1_59 dX1_leadLine_4 ?_
    refine x_icmpge G (tgt := 152) dX1_leadLine_7 (by decide) hf (fun c_1 hf => ?_) (fun c_1 hf => ?_)
    · refine x_iload_n G dX1_leadLine_10 rfl rfl ?_
      refine x_bipush G (v := 19) dX1_leadLine_11 (by decide) ?_
      refine x_icmpge G (tgt := 152) dX1_leadLine_13 (by decide) hf (fun c_2 hf => ?_) (fun c_2 hf => ?_)
      · refine x_aload_n G dX1_leadLine_16 rfl rfl ?_
        refine x_getR G hv2.1 5 (b := (v2 + 1)) rfl cl5 rfl wf_X1_64 dX1_leadLine_17 ?_
        refine x_iload_n G dX1_leadLine_20 rfl rfl ?_
        refine x_iald G hv2.2.1 dX1_leadLine_21 hf (fun hb_3 hf => ?_)
        refine x_istore G (lv' := [some (.ref 92), some (.ref 2), some (.ref v2), some (.int v3), some (.int (ri w (v2 + 1) v3)), none, none]) dX1_leadLine_22 rfl rfl rfl ?_
        refine x_aload_n G dX1_leadLine_24 rfl rfl ?_
        refine x_getR G (kd2 M) 8 (b := 11) rfl cl2 rfl wf_X1_39 dX1_leadLine_25 ?_
        refine x_iload G dX1_leadLine_28 rfl ?_
        refine x_iald G (kd11 M) dX1_leadLine_30 hf (fun hb_4 hf => ?_)
        refine x_istore G (lv' := [some (.ref 92), some (.ref 2), some (.ref v2), some (.int v3), some (.int (ri w (v2 + 1) v3)), some (.int (ri w 11 (ri w (v2 + 1) v3))), none]) dX1_leadLine_31 rfl rfl rfl ?_
        refine x_iload_n G dX1_leadLine_33 rfl rfl ?_
        refine x_iconst G (v := 1) dX1_leadLine_34 (by decide) ?_
        refine x_iadd G dX1_leadLine_35 ?_
        refine x_aload_n G dX1_leadLine_36 rfl rfl ?_
        refine x_getI G hv2.1 3 rfl cl5 rfl wf_X1_59 dX1_leadLine_37 ?_
        refine x_icmpge G (tgt := 51) dX1_leadLine_40 (by decide) hf (fun c_5 hf => ?_) (fun c_5 hf => ?_)
        · refine x_iload_n G dX1_leadLine_43 rfl rfl ?_
          refine x_iconst G (v := 1) dX1_leadLine_44 (by decide) ?_
          refine x_iadd G dX1_leadLine_45 ?_
          refine x_bipush G (v := 19) dX1_leadLine_46 (by decide) ?_
          refine x_icmplt G (tgt := 55) dX1_leadLine_48 (by decide) hf (fun c_6 hf => ?_) (fun c_6 hf => ?_)
          · refine x_iconst G (v := 0) dX1_leadLine_55 (by decide) ?_
            exact XW.sub (lv' := [some (.ref 92), some (.ref 2), some (.ref v2), some (.int v3), some (.int (ri w (v2 + 1) v3)), some (.int (ri w 11 (ri w (v2 + 1) v3))), none]) (And.intro rfl (And.intro rfl (And.intro rfl (And.intro rfl (And.intro rfl (And.intro rfl trivial)))))) (xX1_leadLine_56 G M (fX1_leadLine_2 n) ih hv2 hf hr)
          · refine x_iconst G (v := 1) dX1_leadLine_51 (by decide) ?_
            refine x_goto G (tgt := 56) dX1_leadLine_52 (by decide) ?_
            exact XW.sub (lv' := [some (.ref 92), some (.ref 2), some (.ref v2), some (.int v3), some (.int (ri w (v2 + 1) v3)), some (.int (ri w 11 (ri w (v2 + 1) v3))), none]) (And.intro rfl (And.intro rfl (And.intro rfl (And.intro rfl (And.intro rfl (And.intro rfl trivial)))))) (xX1_leadLine_56 G M (fX1_leadLine_2 n) ih hv2 hf hr)
        · refine x_iconst G (v := 1) dX1_leadLine_51 (by decide) ?_
          refine x_goto G (tgt := 56) dX1_leadLine_52 (by decide) ?_
          exact XW.sub (lv' := [some (.ref 92), some (.ref 2), some (.ref v2), some (.int v3), some (.int (ri w (v2 + 1) v3)), some (.int (ri w 11 (ri w (v2 + 1) v3))), none]) (And.intro rfl (And.intro rfl (And.intro rfl (And.intro rfl (And.intro rfl (And.intro rfl trivial)))))) (xX1_leadLine_56 G M (fX1_leadLine_2 n) ih hv2 hf hr)
      · exact x_vretW G hf hr dX1_leadLine_152
    · exact x_vretW G hf hr dX1_leadLine_152

set_option maxHeartbeats 4000000 in
set_option maxRecDepth 100000 in
theorem xX1_leadLine_e {K : KT} {v2 : Nat} {w : Wd} {r : Wd} (G : GK K cX1_leadLine RX1 7 1) (M : Main K.ks) (hv2 : IsLine K.ks v2) (hf : fX1_leadLine v2 w = some r) (hr : RV K r) : XW K 0 [some (.ref 92), some (.ref 2), some (.ref v2), none, none, none, none] [] w := by
  unfold fX1_leadLine at hf
  refine x_iconst G (v := 0) dX1_leadLine_0 (by decide) ?_
  refine x_istore_n G (lv' := [some (.ref 92), some (.ref 2), some (.ref v2), some (.int (0 : Int32)), none, none, none]) dX1_leadLine_1 rfl rfl rfl rfl ?_
  exact XW.sub (lv' := [some (.ref 92), some (.ref 2), some (.ref v2), some (.int (0 : Int32)), none, none, none]) (And.intro rfl (And.intro rfl (And.intro rfl (And.intro rfl trivial)))) (xX1_leadLine_2 G M hr FU _ _ _ hv2 hf)

theorem mX1_leadLine {l : Launch} {S : KS} {w : Wd} (hI : Inj S) (M : Main S) {v2 : Nat} (hv2 : IsLine S v2) {r : Wd} (hf : fX1_leadLine v2 w = some r) : CV l yX1_leadLine cX1_leadLine 7 none 1 S [.ref 92, .ref 2, .ref v2] w r := by
  intro sz
  refine mk_entry rfl (by decide +kernel) hI 4 rfl rfl (fun K h1 h2 h3 h4 h5 h6 G => ?_)
  subst h2
  exact xX1_leadLine_e G M hv2 hf ⟨h3, by rw [h4, h6], h5⟩

set_option maxHeartbeats 4000000 in
set_option maxRecDepth 100000 in
theorem xX1_lead_82 {K : KT} {r : Wd} (G : GK K cX1_lead RX1 6 2) (M : Main K.ks) (hr : RV K r) : ∀ (n : Nat) (v2 : Int32) (v4 : Int32) (w : Wd), fX1_lead_82 n v2 v4 w = some r → XW K 82 [some (.ref 92), some (.ref 1), some (.int v2), some (.ref 2), some (.int v4), none] [] w := by
  intro n
  induction n with
  | zero =>
    intro v2 v4 w hf
    unfold fX1_lead_82 at hf
    cases hf
  | succ n ih =>
    intro v2 v4 w hf
    unfold fX1_lead_82 at hf
    refine x_iload G dX1_lead_82 rfl ?_
    refine x_iflt G (tgt := 115) dX1_lead_84 (by decide) hf (fun c_1 hf => ?_) (fun c_1 hf => ?_)
    · exact x_vretW G hf hr dX1_lead_115
    · refine x_iload_n G dX1_lead_87 rfl rfl ?_
      refine x_iload G dX1_lead_88 rfl ?_
      refine x_ishr G dX1_lead_90 ?_
      refine x_iconst G (v := 1) dX1_lead_91 (by decide) ?_
      refine x_iand G dX1_lead_92 ?_
      refine x_iconst G (v := 1) dX1_lead_93 (by decide) ?_
      refine x_icmpne G (tgt := 109) dX1_lead_94 (by decide) hf (fun c_2 hf => ?_) (fun c_2 hf => ?_)
      · refine x_aload_n G dX1_lead_97 rfl rfl ?_
        refine x_aload_n G dX1_lead_98 rfl rfl ?_
        refine x_aload_n G dX1_lead_99 rfl rfl ?_
        refine x_getR G (kd1 M) 4 (b := 35) rfl cl0 rfl wf_X1_51 dX1_lead_100 ?_
        refine x_iload G dX1_lead_103 rfl ?_
        refine x_aald G (kd35 M) (kn := 0) (by decide) dX1_lead_105 hf (fun hb_3 hf => ?_)
        obtain ⟨v_4, hv_4, hf⟩ := bnd hf
        refine x_virV G (As := [.ref 2, .ref (36 + 7 * (v4).toNatClampNeg)]) (mX1_leadLine G.2.2.2.2.2.2.1 M (lineOkM M hb_3) hv_4) mv_X1_55 (kd92 M) cl1 rfl rfl rfl rfl rfl dX1_lead_106 ?_
        refine x_iinc G (lv' := [some (.ref 92), some (.ref 1), some (.int v2), some (.ref 2), some (.int (v4 + (-1 : Int32))), none]) (v := -1) dX1_lead_109 rfl (by decide) rfl rfl rfl ?_
        refine x_goto G (tgt := 82) dX1_lead_112 (by decide) ?_
        exact XW.sub (lv' := [some (.ref 92), some (.ref 1), some (.int v2), some (.ref 2), some (.int (v4 + (-1 : Int32))), none]) (And.intro rfl (And.intro rfl (And.intro rfl (And.intro rfl (And.intro rfl trivial))))) (ih _ _ _ hf)
      · refine x_iinc G (lv' := [some (.ref 92), some (.ref 1), some (.int v2), some (.ref 2), some (.int (v4 + (-1 : Int32))), none]) (v := -1) dX1_lead_109 rfl (by decide) rfl rfl rfl ?_
        refine x_goto G (tgt := 82) dX1_lead_112 (by decide) ?_
        exact XW.sub (lv' := [some (.ref 92), some (.ref 1), some (.int v2), some (.ref 2), some (.int (v4 + (-1 : Int32))), none]) (And.intro rfl (And.intro rfl (And.intro rfl (And.intro rfl (And.intro rfl trivial))))) (ih _ _ _ hf)

set_option maxHeartbeats 4000000 in
set_option maxRecDepth 100000 in
theorem xX1_lead_8 {K : KT} {r : Wd} (G : GK K cX1_lead RX1 6 2) (M : Main K.ks) (hr : RV K r) : ∀ (n : Nat) (v2 : Int32) (v4 : Int32) (w : Wd), fX1_lead_8 n v2 v4 w = some r → XW K 8 [some (.ref 92), some (.ref 1), some (.int v2), some (.ref 2), some (.int v4), none] [] w := by
  intro n
  induction n with
  | zero =>
    intro v2 v4 w hf
    unfold fX1_lead_8 at hf
    cases hf
  | succ n ih =>
    intro v2 v4 w hf
    unfold fX1_lead_8 at hf
    refine x_iload G dX1_lead_8 rfl ?_
    refine x_bipush G (v := 100) dX1_lead_10 (by decide) ?_
    refine x_icmpge G (tgt := 74) dX1_lead_12 (by decide) hf (fun c_1 hf => ?_) (fun c_1 hf => ?_)
    · refine x_aload_n G dX1_lead_15 rfl rfl ?_
      refine x_getR G (kd2 M) 8 (b := 11) rfl cl2 rfl wf_X1_39 dX1_lead_16 ?_
      refine x_iload G dX1_lead_19 rfl ?_
      refine x_iald G (kd11 M) dX1_lead_21 hf (fun hb_2 hf => ?_)
      refine x_istore G (lv' := [some (.ref 92), some (.ref 1), some (.int v2), some (.ref 2), some (.int v4), some (.int (ri w 11 v4))]) dX1_lead_22 rfl rfl rfl ?_
      refine x_aload_n G dX1_lead_24 rfl rfl ?_
      refine x_getR G (kd92 M) 0 (b := 93) rfl cl1 rfl wf_X1_9 dX1_lead_25 ?_
      refine x_iload G dX1_lead_28 rfl ?_
      refine x_aload_n G dX1_lead_30 rfl rfl ?_
      refine x_getR G (kd2 M) 6 (b := 9) rfl cl2 rfl wf_X1_44 dX1_lead_31 ?_
      refine x_iload G dX1_lead_34 rfl ?_
      refine x_iald0 G (kd9 M) dX1_lead_36 hb_2 ?_
      refine x_iast0 G (kd93 M) dX1_lead_37 hb_2 ?_
      refine nwr hf (fun w_3 hf => ?_)
      refine x_aload_n G dX1_lead_38 rfl rfl ?_
      refine x_getR G (kd92 M) 1 (b := 94) rfl cl1 rfl wf_X1_15 dX1_lead_39 ?_
      refine x_iload G dX1_lead_42 rfl ?_
      refine x_bipush G (v := 20) dX1_lead_44 (by decide) ?_
      refine x_iload G dX1_lead_46 rfl ?_
      refine x_imul G dX1_lead_48 ?_
      refine x_iload G dX1_lead_49 rfl ?_
      refine x_imul G dX1_lead_51 ?_
      refine x_iast0 G (kd94 M) dX1_lead_52 hb_2 ?_
      refine nwr hf (fun w_4 hf => ?_)
      refine x_aload_n G dX1_lead_53 rfl rfl ?_
      refine x_getR G (kd92 M) 2 (b := 95) rfl cl1 rfl wf_X1_18 dX1_lead_54 ?_
      refine x_iload G dX1_lead_57 rfl ?_
      refine x_bipush G (v := 50) dX1_lead_59 (by decide) ?_
      refine x_bipush G (v := 40) dX1_lead_61 (by decide) ?_
      refine x_iload G dX1_lead_63 rfl ?_
      refine x_imul G dX1_lead_65 ?_
      refine x_iadd G dX1_lead_66 ?_
      refine x_iast0 G (kd95 M) dX1_lead_67 hb_2 ?_
      refine nwr hf (fun w_5 hf => ?_)
      refine x_iinc G (lv' := [some (.ref 92), some (.ref 1), some (.int v2), some (.ref 2), some (.int (v4 + (1 : Int32))), some (.int (ri w 11 v4))]) (v := 1) dX1_lead_68 rfl (by decide) rfl rfl rfl ?_
      refine x_goto G (tgt := 8) dX1_lead_71 (by decide) ?_
      exact XW.sub (lv' := [some (.ref 92), some (.ref 1), some (.int v2), some (.ref 2), some (.int (v4 + (1 : Int32))), none]) (And.intro rfl (And.intro rfl (And.intro rfl (And.intro rfl (And.intro rfl trivial))))) (ih _ _ _ hf)
    · refine x_aload_n G dX1_lead_74 rfl rfl ?_
      refine x_getI G (kd1 M) 5 rfl cl0 rfl wf_X1_47 dX1_lead_75 ?_
      refine x_iconst G (v := 1) dX1_lead_78 (by decide) ?_
      refine x_isub G dX1_lead_79 ?_
      refine x_istore G (lv' := [some (.ref 92), some (.ref 1), some (.int v2), some (.ref 2), some (.int ((w.1 1 5) - (1 : Int32))), none]) dX1_lead_80 rfl rfl rfl ?_
      exact XW.sub (lv' := [some (.ref 92), some (.ref 1), some (.int v2), some (.ref 2), some (.int ((w.1 1 5) - (1 : Int32))), none]) (And.intro rfl (And.intro rfl (And.intro rfl (And.intro rfl (And.intro rfl trivial))))) (xX1_lead_82 G M hr FU _ _ _ hf)

set_option maxHeartbeats 4000000 in
set_option maxRecDepth 100000 in
theorem xX1_lead_e {K : KT} {v2 : Int32} {w : Wd} {r : Wd} (G : GK K cX1_lead RX1 6 2) (M : Main K.ks) (hf : fX1_lead v2 w = some r) (hr : RV K r) : XW K 0 [some (.ref 92), some (.ref 1), some (.int v2), none, none, none] [] w := by
  unfold fX1_lead at hf
  refine x_aload_n G dX1_lead_0 rfl rfl ?_
  refine x_getR G (kd1 M) 0 (b := 2) rfl cl0 rfl wf_X1_33 dX1_lead_1 ?_
  refine x_astore_n G (lv' := [some (.ref 92), some (.ref 1), some (.int v2), some (.ref 2), none, none]) dX1_lead_4 rfl rfl rfl rfl ?_
  refine x_iconst G (v := 0) dX1_lead_5 (by decide) ?_
  refine x_istore G (lv' := [some (.ref 92), some (.ref 1), some (.int v2), some (.ref 2), some (.int (0 : Int32)), none]) dX1_lead_6 rfl rfl rfl ?_
  exact XW.sub (lv' := [some (.ref 92), some (.ref 1), some (.int v2), some (.ref 2), some (.int (0 : Int32)), none]) (And.intro rfl (And.intro rfl (And.intro rfl (And.intro rfl (And.intro rfl trivial))))) (xX1_lead_8 G M hr FU _ _ _ hf)

theorem mX1_lead {l : Launch} {S : KS} {w : Wd} (hI : Inj S) (M : Main S) {v2 : Int32} {r : Wd} (hf : fX1_lead v2 w = some r) : CV l yX1_lead cX1_lead 6 none 2 S [.ref 92, .ref 1, .int v2] w r := by
  intro sz
  refine mk_entry rfl (by decide +kernel) hI 3 rfl rfl (fun K h1 h2 h3 h4 h5 h6 G => ?_)
  subst h2
  exact xX1_lead_e G M hf ⟨h3, by rw [h4, h6], h5⟩

set_option maxHeartbeats 4000000 in
set_option maxRecDepth 100000 in
theorem xX10_arrive_e {K : KT} {v2 : Int32} {v3 : Int32} {v4 : Int32} {w : Wd} {r : Wd} (G : GK K cX10_arrive RX10 5 1) (M : Main K.ks) (hf : fX10_arrive v2 v3 v4 w = some r) (hr : RV K r) : XW K 0 [some (.ref 14), some (.ref 2), some (.int v2), some (.int v3), some (.int v4)] [] w := by
  unfold fX10_arrive at hf
  refine x_aload_n G dX10_arrive_0 rfl rfl ?_
  refine x_getR G (kd2 M) 4 (b := 7) rfl cl2 rfl wf_X10_56 dX10_arrive_1 ?_
  refine x_iload_n G dX10_arrive_4 rfl rfl ?_
  refine x_iald G (kd7 M) dX10_arrive_5 hf (fun hb_1 hf => ?_)
  refine x_iconst G (v := 1) dX10_arrive_6 (by decide) ?_
  refine x_icmpne G (tgt := 34) dX10_arrive_7 (by decide) hf (fun c_2 hf => ?_) (fun c_2 hf => ?_)
  · refine x_aload_n G dX10_arrive_10 rfl rfl ?_
    refine x_dup G dX10_arrive_11 rfl ?_
    refine x_getI G (kd14 M) 7 rfl cl10 rfl wf_X10_34 dX10_arrive_12 ?_
    refine x_iload_n G dX10_arrive_15 rfl rfl ?_
    refine x_iadd G dX10_arrive_16 ?_
    refine x_putI G (kd14 M) 7 rfl cl10 rfl wf_X10_34 rfl rfl rfl dX10_arrive_17 ?_
    refine nwr hf (fun w_3 hf => ?_)
    refine x_aload_n G dX10_arrive_20 rfl rfl ?_
    refine x_dup G dX10_arrive_21 rfl ?_
    refine x_getI G (kd14 M) 8 rfl cl10 rfl wf_X10_37 dX10_arrive_22 ?_
    refine x_iload G dX10_arrive_25 rfl ?_
    refine x_iadd G dX10_arrive_27 ?_
    refine x_putI G (kd14 M) 8 rfl cl10 rfl wf_X10_37 rfl rfl rfl dX10_arrive_28 ?_
    refine nwr hf (fun w_4 hf => ?_)
    refine x_goto G (tgt := 55) dX10_arrive_31 (by decide) ?_
    exact x_vretW G hf hr dX10_arrive_55
  · refine x_aload_n G dX10_arrive_34 rfl rfl ?_
    refine x_getR G (kd14 M) 0 (b := 15) rfl cl10 rfl wf_X10_9 dX10_arrive_35 ?_
    refine x_iload_n G dX10_arrive_38 rfl rfl ?_
    refine x_dup2 G dX10_arrive_39 rfl rfl ?_
    refine x_iald0 G (kd15 M) dX10_arrive_40 hb_1 ?_
    refine x_iload_n G dX10_arrive_41 rfl rfl ?_
    refine x_iadd G dX10_arrive_42 ?_
    refine x_iast0 G (kd15 M) dX10_arrive_43 hb_1 ?_
    refine nwr hf (fun w_5 hf => ?_)
    refine x_aload_n G dX10_arrive_44 rfl rfl ?_
    refine x_getR G (kd14 M) 1 (b := 16) rfl cl10 rfl wf_X10_15 dX10_arrive_45 ?_
    refine x_iload_n G dX10_arrive_48 rfl rfl ?_
    refine x_dup2 G dX10_arrive_49 rfl rfl ?_
    refine x_iald0 G (kd16 M) dX10_arrive_50 hb_1 ?_
    refine x_iload G dX10_arrive_51 rfl ?_
    refine x_iadd G dX10_arrive_53 ?_
    refine x_iast0 G (kd16 M) dX10_arrive_54 hb_1 ?_
    refine nwr hf (fun w_6 hf => ?_)
    exact x_vretW G hf hr dX10_arrive_55

theorem mX10_arrive {l : Launch} {S : KS} {w : Wd} (hI : Inj S) (M : Main S) {v2 : Int32} {v3 : Int32} {v4 : Int32} {r : Wd} (hf : fX10_arrive v2 v3 v4 w = some r) : CV l yX10_arrive cX10_arrive 5 none 1 S [.ref 14, .ref 2, .int v2, .int v3, .int v4] w r := by
  intro sz
  refine mk_entry rfl (by decide +kernel) hI 0 rfl rfl (fun K h1 h2 h3 h4 h5 h6 G => ?_)
  subst h2
  exact xX10_arrive_e G M hf ⟨h3, by rw [h4, h6], h5⟩

set_option maxHeartbeats 4000000 in
set_option maxRecDepth 100000 in
theorem xX11_isCell_e {K : KT} {v0 : Int32} {w : Wd} {r : Bool} (G : GK K cX11_isCell RX11 1 2) (M : Main K.ks) (hf : fX11_isCell v0 w = some r) (hr : RI K .boolean (bI r) w) : XW K 0 [some (.int v0)] [] w := by
  unfold fX11_isCell at hf
  refine x_iload_n G dX11_isCell_0 rfl rfl ?_
  refine x_iconst G (v := 0) dX11_isCell_1 (by decide) ?_
  refine x_bipush G (v := 99) dX11_isCell_2 (by decide) ?_
  obtain ⟨v_1, hv_1, hf⟩ := bnd hf
  refine x_staI G (As := [.int v0, .int (0 : Int32), .int (99 : Int32)]) (mX11_within G.2.2.2.2.2.2.1 M hv_1) ms_X11_96 rfl rfl rfl rfl rfl dX11_isCell_4 ?_
  exact x_zretP G hf hr dX11_isCell_7

theorem mX11_isCell {l : Launch} {S : KS} {w : Wd} (hI : Inj S) (M : Main S) {v0 : Int32} {r : Bool} (hf : fX11_isCell v0 w = some r) : CI l yX11_isCell cX11_isCell 1 (some .boolean) 2 S [.int v0] w (bI r) w := by
  intro sz
  refine mk_entry rfl (by decide +kernel) hI 0 rfl rfl (fun K h1 h2 h3 h4 h5 h6 G => ?_)
  subst h2
  exact xX11_isCell_e G M hf ⟨h3, by rw [h4, h6], h5⟩

set_option maxHeartbeats 4000000 in
set_option maxRecDepth 100000 in
theorem xX1_letOn_151 {K : KT} {r : Wd} (G : GK K cX1_letOn RX1 7 4) (M : Main K.ks) (hr : RV K r) : ∀ (n : Nat) (v3 : Int32) (w : Wd), fX1_letOn_151 n v3 w = some r → XW K 151 [some (.ref 92), some (.ref 1), some (.ref 14), some (.int v3), none, none, none] [] w := by
  intro n
  induction n with
  | zero =>
    intro v3 w hf
    unfold fX1_letOn_151 at hf
    cases hf
  | succ n ih =>
    intro v3 w hf
    unfold fX1_letOn_151 at hf
    refine x_iload_n G dX1_letOn_151 rfl rfl ?_
    refine x_bipush G (v := 100) dX1_letOn_152 (by decide) ?_
    refine x_icmpge G (tgt := 184) dX1_letOn_154 (by decide) hf (fun c_1 hf => ?_) (fun c_1 hf => ?_)
    · refine x_aload_n G dX1_letOn_157 rfl rfl ?_
      refine x_aload_n G dX1_letOn_158 rfl rfl ?_
      refine x_getR G (kd1 M) 0 (b := 2) rfl cl0 rfl wf_X1_33 dX1_letOn_159 ?_
      refine x_iload_n G dX1_letOn_162 rfl rfl ?_
      refine x_aload_n G dX1_letOn_163 rfl rfl ?_
      refine x_getR G (kd92 M) 3 (b := 96) rfl cl1 rfl wf_X1_21 dX1_letOn_164 ?_
      refine x_iload_n G dX1_letOn_167 rfl rfl ?_
      refine x_iald G (kd96 M) dX1_letOn_168 hf (fun hb_2 hf => ?_)
      refine x_aload_n G dX1_letOn_169 rfl rfl ?_
      refine x_getR G (kd92 M) 4 (b := 97) rfl cl1 rfl wf_X1_24 dX1_letOn_170 ?_
      refine x_iload_n G dX1_letOn_173 rfl rfl ?_
      refine x_iald0 G (kd97 M) dX1_letOn_174 hb_2 ?_
      obtain ⟨v_3, hv_3, hf⟩ := bnd hf
      refine x_virV G (As := [.ref 2, .int v3, .int (ri w 96 v3), .int (ri w 97 v3)]) (mX10_arrive G.2.2.2.2.2.2.1 M hv_3) mv_X1_140 (kd14 M) cl10 rfl rfl rfl rfl rfl dX1_letOn_175 ?_
      refine x_iinc G (lv' := [some (.ref 92), some (.ref 1), some (.ref 14), some (.int (v3 + (1 : Int32))), none, none, none]) (v := 1) dX1_letOn_178 rfl (by decide) rfl rfl rfl ?_
      refine x_goto G (tgt := 151) dX1_letOn_181 (by decide) ?_
      exact XW.sub (lv' := [some (.ref 92), some (.ref 1), some (.ref 14), some (.int (v3 + (1 : Int32))), none, none, none]) (And.intro rfl (And.intro rfl (And.intro rfl (And.intro rfl trivial)))) (ih _ _ hf)
    · exact x_vretW G hf hr dX1_letOn_184

set_option maxHeartbeats 4000000 in
set_option maxRecDepth 100000 in
theorem xX1_letOn_23 {K : KT} {r : Wd} (G : GK K cX1_letOn RX1 7 4) (M : Main K.ks) (hr : RV K r) : ∀ (n : Nat) (v3 : Int32) (w : Wd), fX1_letOn_23 n v3 w = some r → XW K 23 [some (.ref 92), some (.ref 1), some (.ref 14), some (.int v3), none, none, none] [] w := by
  intro n
  induction n with
  | zero =>
    intro v3 w hf
    unfold fX1_letOn_23 at hf
    cases hf
  | succ n ih =>
    intro v3 w hf
    unfold fX1_letOn_23 at hf
    refine x_iload_n G dX1_letOn_23 rfl rfl ?_
    refine x_bipush G (v := 100) dX1_letOn_24 (by decide) ?_
    refine x_icmpge G (tgt := 149) dX1_letOn_26 (by decide) hf (fun c_1 hf => ?_) (fun c_1 hf => ?_)
    · refine x_aload_n G dX1_letOn_29 rfl rfl ?_
      refine x_getR G (kd92 M) 0 (b := 93) rfl cl1 rfl wf_X1_9 dX1_letOn_30 ?_
      refine x_iload_n G dX1_letOn_33 rfl rfl ?_
      refine x_iald G (kd93 M) dX1_letOn_34 hf (fun hb_2 hf => ?_)
      refine x_istore G (lv' := [some (.ref 92), some (.ref 1), some (.ref 14), some (.int v3), some (.int (ri w 93 v3)), none, none]) dX1_letOn_35 rfl rfl rfl ?_
      refine x_aload_n G dX1_letOn_37 rfl rfl ?_
      refine x_getR G (kd1 M) 2 (b := 19) rfl cl0 rfl wf_X1_121 dX1_letOn_38 ?_
      refine x_getR G (kd19 M) 0 (b := 20) rfl cl3 rfl wf_X1_125 dX1_letOn_41 ?_
      refine x_iload_n G dX1_letOn_44 rfl rfl ?_
      refine x_iald0 G (kd20 M) dX1_letOn_45 hb_2 ?_
      refine x_ifne G (tgt := 143) dX1_letOn_46 (by decide) hf (fun c_3 hf => ?_) (fun c_3 hf => ?_)
      · refine x_iload G dX1_letOn_49 rfl ?_
        obtain ⟨v_4, hv_4, hf⟩ := bnd hf
        refine x_nesI G (As := [.int (ri w 93 v3)]) (mX11_isCell G.2.2.2.2.2.2.1 M hv_4) mn_X1_130 rfl rfl rfl rfl rfl dX1_letOn_51 ?_
        refine x_ifneB G (tgt := 60) dX1_letOn_54 (by decide) hf (fun c_5 hf => ?_) (fun c_5 hf => ?_)
        · refine x_aload_n G dX1_letOn_60 rfl rfl ?_
          refine x_getR G (kd14 M) 0 (b := 15) rfl cl10 rfl wf_X1_98 dX1_letOn_61 ?_
          refine x_iload_n G dX1_letOn_64 rfl rfl ?_
          refine x_iald0 G (kd15 M) dX1_letOn_65 hb_2 ?_
          refine x_aload_n G dX1_letOn_66 rfl rfl ?_
          refine x_getR G (kd92 M) 1 (b := 94) rfl cl1 rfl wf_X1_15 dX1_letOn_67 ?_
          refine x_iload_n G dX1_letOn_70 rfl rfl ?_
          refine x_iald0 G (kd94 M) dX1_letOn_71 hb_2 ?_
          refine x_min G wm_X1_134 wmin_1 wmin_2 wmin_3 rfl rfl dX1_letOn_72 ?_
          refine x_istore G (lv' := [some (.ref 92), some (.ref 1), some (.ref 14), some (.int v3), some (.int (ri w 93 v3)), some (.int (mmin (ri w 15 v3) (ri w 94 v3))), none]) dX1_letOn_75 rfl rfl rfl ?_
          refine x_aload_n G dX1_letOn_77 rfl rfl ?_
          refine x_getR G (kd14 M) 1 (b := 16) rfl cl10 rfl wf_X1_103 dX1_letOn_78 ?_
          refine x_iload_n G dX1_letOn_81 rfl rfl ?_
          refine x_iald0 G (kd16 M) dX1_letOn_82 hb_2 ?_
          refine x_aload_n G dX1_letOn_83 rfl rfl ?_
          refine x_getR G (kd92 M) 1 (b := 94) rfl cl1 rfl wf_X1_15 dX1_letOn_84 ?_
          refine x_iload_n G dX1_letOn_87 rfl rfl ?_
          refine x_iald0 G (kd94 M) dX1_letOn_88 hb_2 ?_
          refine x_iload G dX1_letOn_89 rfl ?_
          refine x_isub G dX1_letOn_91 ?_
          refine x_min G wm_X1_134 wmin_1 wmin_2 wmin_3 rfl rfl dX1_letOn_92 ?_
          refine x_istore G (lv' := [some (.ref 92), some (.ref 1), some (.ref 14), some (.int v3), some (.int (ri w 93 v3)), some (.int (mmin (ri w 15 v3) (ri w 94 v3))), some (.int (mmin (ri w 16 v3) ((ri w 94 v3) - (mmin (ri w 15 v3) (ri w 94 v3)))))]) dX1_letOn_95 rfl rfl rfl ?_
          refine x_aload_n G dX1_letOn_97 rfl rfl ?_
          refine x_getR G (kd14 M) 0 (b := 15) rfl cl10 rfl wf_X1_98 dX1_letOn_98 ?_
          refine x_iload_n G dX1_letOn_101 rfl rfl ?_
          refine x_dup2 G dX1_letOn_102 rfl rfl ?_
          refine x_iald0 G (kd15 M) dX1_letOn_103 hb_2 ?_
          refine x_iload G dX1_letOn_104 rfl ?_
          refine x_isub G dX1_letOn_106 ?_
          refine x_iast0 G (kd15 M) dX1_letOn_107 hb_2 ?_
          refine nwr hf (fun w_6 hf => ?_)
          refine x_aload_n G dX1_letOn_108 rfl rfl ?_
          refine x_getR G (kd14 M) 1 (b := 16) rfl cl10 rfl wf_X1_103 dX1_letOn_109 ?_
          refine x_iload_n G dX1_letOn_112 rfl rfl ?_
          refine x_dup2 G dX1_letOn_113 rfl rfl ?_
          refine x_iald0 G (kd16 M) dX1_letOn_114 hb_2 ?_
          refine x_iload G dX1_letOn_115 rfl ?_
          refine x_isub G dX1_letOn_117 ?_
          refine x_iast0 G (kd16 M) dX1_letOn_118 hb_2 ?_
          refine nwr hf (fun w_7 hf => ?_)
          refine x_aload_n G dX1_letOn_119 rfl rfl ?_
          refine x_getR G (kd92 M) 3 (b := 96) rfl cl1 rfl wf_X1_21 dX1_letOn_120 ?_
          refine x_iload G dX1_letOn_123 rfl ?_
          refine x_dup2 G dX1_letOn_125 rfl rfl ?_
          refine x_iald G (kd96 M) dX1_letOn_126 hf (fun hb_8 hf => ?_)
          refine x_iload G dX1_letOn_127 rfl ?_
          refine x_iadd G dX1_letOn_129 ?_
          refine x_iast0 G (kd96 M) dX1_letOn_130 hb_8 ?_
          refine nwr hf (fun w_9 hf => ?_)
          refine x_aload_n G dX1_letOn_131 rfl rfl ?_
          refine x_getR G (kd92 M) 4 (b := 97) rfl cl1 rfl wf_X1_24 dX1_letOn_132 ?_
          refine x_iload G dX1_letOn_135 rfl ?_
          refine x_dup2 G dX1_letOn_137 rfl rfl ?_
          refine x_iald0 G (kd97 M) dX1_letOn_138 hb_8 ?_
          refine x_iload G dX1_letOn_139 rfl ?_
          refine x_iadd G dX1_letOn_141 ?_
          refine x_iast0 G (kd97 M) dX1_letOn_142 hb_8 ?_
          refine nwr hf (fun w_10 hf => ?_)
          refine x_iinc G (lv' := [some (.ref 92), some (.ref 1), some (.ref 14), some (.int (v3 + (1 : Int32))), some (.int (ri w 93 v3)), some (.int (mmin (ri w 15 v3) (ri w 94 v3))), some (.int (mmin (ri w 16 v3) ((ri w 94 v3) - (mmin (ri w 15 v3) (ri w 94 v3)))))]) (v := 1) dX1_letOn_143 rfl (by decide) rfl rfl rfl ?_
          refine x_goto G (tgt := 23) dX1_letOn_146 (by decide) ?_
          exact XW.sub (lv' := [some (.ref 92), some (.ref 1), some (.ref 14), some (.int (v3 + (1 : Int32))), none, none, none]) (And.intro rfl (And.intro rfl (And.intro rfl (And.intro rfl trivial)))) (ih _ _ hf)
        · refine x_goto G (tgt := 143) dX1_letOn_57 (by decide) ?_
          refine x_iinc G (lv' := [some (.ref 92), some (.ref 1), some (.ref 14), some (.int (v3 + (1 : Int32))), some (.int (ri w 93 v3)), none, none]) (v := 1) dX1_letOn_143 rfl (by decide) rfl rfl rfl ?_
          refine x_goto G (tgt := 23) dX1_letOn_146 (by decide) ?_
          exact XW.sub (lv' := [some (.ref 92), some (.ref 1), some (.ref 14), some (.int (v3 + (1 : Int32))), none, none, none]) (And.intro rfl (And.intro rfl (And.intro rfl (And.intro rfl trivial)))) (ih _ _ hf)
      · refine x_iinc G (lv' := [some (.ref 92), some (.ref 1), some (.ref 14), some (.int (v3 + (1 : Int32))), some (.int (ri w 93 v3)), none, none]) (v := 1) dX1_letOn_143 rfl (by decide) rfl rfl rfl ?_
        refine x_goto G (tgt := 23) dX1_letOn_146 (by decide) ?_
        exact XW.sub (lv' := [some (.ref 92), some (.ref 1), some (.ref 14), some (.int (v3 + (1 : Int32))), none, none, none]) (And.intro rfl (And.intro rfl (And.intro rfl (And.intro rfl trivial)))) (ih _ _ hf)
    · refine x_iconst G (v := 0) dX1_letOn_149 (by decide) ?_
      refine x_istore_n G (lv' := [some (.ref 92), some (.ref 1), some (.ref 14), some (.int (0 : Int32)), none, none, none]) dX1_letOn_150 rfl rfl rfl rfl ?_
      exact XW.sub (lv' := [some (.ref 92), some (.ref 1), some (.ref 14), some (.int (0 : Int32)), none, none, none]) (And.intro rfl (And.intro rfl (And.intro rfl (And.intro rfl trivial)))) (xX1_letOn_151 G M hr FU _ _ hf)

set_option maxHeartbeats 4000000 in
set_option maxRecDepth 100000 in
theorem xX1_letOn_e {K : KT} {w : Wd} {r : Wd} (G : GK K cX1_letOn RX1 7 4) (M : Main K.ks) (hf : fX1_letOn w = some r) (hr : RV K r) : XW K 0 [some (.ref 92), some (.ref 1), none, none, none, none, none] [] w := by
  unfold fX1_letOn at hf
  refine x_aload_n G dX1_letOn_0 rfl rfl ?_
  refine x_getR G (kd1 M) 1 (b := 14) rfl cl0 rfl wf_X1_84 dX1_letOn_1 ?_
  refine x_astore_n G (lv' := [some (.ref 92), some (.ref 1), some (.ref 14), none, none, none, none]) dX1_letOn_4 rfl rfl rfl rfl ?_
  refine x_aload_n G dX1_letOn_5 rfl rfl ?_
  refine x_getR G (kd92 M) 3 (b := 96) rfl cl1 rfl wf_X1_21 dX1_letOn_6 ?_
  refine x_iconst G (v := 0) dX1_letOn_9 (by decide) ?_
  refine x_staV G (As := [.ref 96, .int (0 : Int32)]) (mFillI G.2.2.2.2.2.2.1 (kd96 M)) ms_X1_115 rfl rfl rfl rfl rfl dX1_letOn_10 ?_
  refine nwr hf (fun w_1 hf => ?_)
  refine x_aload_n G dX1_letOn_13 rfl rfl ?_
  refine x_getR G (kd92 M) 4 (b := 97) rfl cl1 rfl wf_X1_24 dX1_letOn_14 ?_
  refine x_iconst G (v := 0) dX1_letOn_17 (by decide) ?_
  refine x_staV G (As := [.ref 97, .int (0 : Int32)]) (mFillI G.2.2.2.2.2.2.1 (kd97 M)) ms_X1_115 rfl rfl rfl rfl rfl dX1_letOn_18 ?_
  refine nwr hf (fun w_2 hf => ?_)
  refine x_iconst G (v := 0) dX1_letOn_21 (by decide) ?_
  refine x_istore_n G (lv' := [some (.ref 92), some (.ref 1), some (.ref 14), some (.int (0 : Int32)), none, none, none]) dX1_letOn_22 rfl rfl rfl rfl ?_
  exact XW.sub (lv' := [some (.ref 92), some (.ref 1), some (.ref 14), some (.int (0 : Int32)), none, none, none]) (And.intro rfl (And.intro rfl (And.intro rfl (And.intro rfl trivial)))) (xX1_letOn_23 G M hr FU _ _ hf)

theorem mX1_letOn {l : Launch} {S : KS} {w : Wd} (hI : Inj S) (M : Main S) {r : Wd} (hf : fX1_letOn w = some r) : CV l yX1_letOn cX1_letOn 7 none 4 S [.ref 92, .ref 1] w r := by
  intro sz
  refine mk_entry rfl (by decide +kernel) hI 5 rfl rfl (fun K h1 h2 h3 h4 h5 h6 G => ?_)
  subst h2
  exact xX1_letOn_e G M hf ⟨h3, by rw [h4, h6], h5⟩

set_option maxHeartbeats 4000000 in
set_option maxRecDepth 100000 in
theorem xX1_liftWater_13 {K : KT} {r : Wd} (G : GK K cX1_liftWater RX1 8 3) (M : Main K.ks) (hr : RV K r) : ∀ (n : Nat) (v4 : Int32) (w : Wd), fX1_liftWater_13 n v4 w = some r → XW K 13 [none, some (.ref 1), some (.ref 14), some (.ref 19), some (.int v4), none, none, none] [] w := by
  intro n
  induction n with
  | zero =>
    intro v4 w hf
    unfold fX1_liftWater_13 at hf
    cases hf
  | succ n ih =>
    intro v4 w hf
    unfold fX1_liftWater_13 at hf
    refine x_iload G dX1_liftWater_13 rfl ?_
    refine x_bipush G (v := 100) dX1_liftWater_15 (by decide) ?_
    refine x_icmpge G (tgt := 181) dX1_liftWater_17 (by decide) hf (fun c_1 hf => ?_) (fun c_1 hf => ?_)
    · refine x_aload_n G dX1_liftWater_20 rfl rfl ?_
      refine x_getR G (kd19 M) 0 (b := 20) rfl cl3 rfl wf_X1_125 dX1_liftWater_21 ?_
      refine x_iload G dX1_liftWater_24 rfl ?_
      refine x_iald G (kd20 M) dX1_liftWater_26 hf (fun hb_2 hf => ?_)
      refine x_iconst G (v := 1) dX1_liftWater_27 (by decide) ?_
      refine x_icmpne G (tgt := 175) dX1_liftWater_28 (by decide) hf (fun c_3 hf => ?_) (fun c_3 hf => ?_)
      · refine x_aload_n G dX1_liftWater_31 rfl rfl ?_
        refine x_getR G (kd19 M) 4 (b := 24) rfl cl3 rfl wf_X1_144 dX1_liftWater_32 ?_
        refine x_iload G dX1_liftWater_35 rfl ?_
        refine x_iald0 G (kd24 M) dX1_liftWater_37 hb_2 ?_
        refine x_iconst G (v := 1) dX1_liftWater_38 (by decide) ?_
        refine x_icmpeq G (tgt := 175) dX1_liftWater_39 (by decide) hf (fun c_4 hf => ?_) (fun c_4 hf => ?_)
        · refine x_iinc G (lv' := [none, some (.ref 1), some (.ref 14), some (.ref 19), some (.int (v4 + (1 : Int32))), none, none, none]) (v := 1) dX1_liftWater_175 rfl (by decide) rfl rfl rfl ?_
          refine x_goto G (tgt := 13) dX1_liftWater_178 (by decide) ?_
          exact XW.sub (lv' := [none, some (.ref 1), some (.ref 14), some (.ref 19), some (.int (v4 + (1 : Int32))), none, none, none]) (And.intro rfl (And.intro rfl (And.intro rfl (And.intro rfl trivial)))) (ih _ _ hf)
        · refine x_aload_n G dX1_liftWater_42 rfl rfl ?_
          refine x_getR G (kd19 M) 1 (b := 21) rfl cl3 rfl wf_X1_147 dX1_liftWater_43 ?_
          refine x_iload G dX1_liftWater_46 rfl ?_
          refine x_iald0 G (kd21 M) dX1_liftWater_48 hb_2 ?_
          obtain ⟨v_5, hv_5, hf⟩ := bnd hf
          refine x_nesI G (As := [.int (ri w 21 v4)]) (mX11_isCell G.2.2.2.2.2.2.1 M hv_5) mn_X1_130 rfl rfl rfl rfl rfl dX1_liftWater_49 ?_
          refine x_ifneB G (tgt := 58) dX1_liftWater_52 (by decide) hf (fun c_6 hf => ?_) (fun c_6 hf => ?_)
          · refine x_aload_n G dX1_liftWater_58 rfl rfl ?_
            refine x_getR G (kd19 M) 2 (b := 22) rfl cl3 rfl wf_X1_148 dX1_liftWater_59 ?_
            refine x_iload G dX1_liftWater_62 rfl ?_
            refine x_iald0 G (kd22 M) dX1_liftWater_64 hb_2 ?_
            refine x_bipush G (v := 100) dX1_liftWater_65 (by decide) ?_
            refine x_aload_n G dX1_liftWater_67 rfl rfl ?_
            refine x_getR G (kd19 M) 3 (b := 23) rfl cl3 rfl wf_X1_151 dX1_liftWater_68 ?_
            refine x_iload G dX1_liftWater_71 rfl ?_
            refine x_iald0 G (kd23 M) dX1_liftWater_73 hb_2 ?_
            refine x_imul G dX1_liftWater_74 ?_
            refine x_min G wm_X1_134 wmin_1 wmin_2 wmin_3 rfl rfl dX1_liftWater_75 ?_
            refine x_istore G (lv' := [none, some (.ref 1), some (.ref 14), some (.ref 19), some (.int v4), some (.int (mmin (ri w 22 v4) ((100 : Int32) * (ri w 23 v4)))), none, none]) dX1_liftWater_78 rfl rfl rfl ?_
            refine x_aload_n G dX1_liftWater_80 rfl rfl ?_
            refine x_getR G (kd14 M) 0 (b := 15) rfl cl10 rfl wf_X1_98 dX1_liftWater_81 ?_
            refine x_iload G dX1_liftWater_84 rfl ?_
            refine x_iald0 G (kd15 M) dX1_liftWater_86 hb_2 ?_
            refine x_iload G dX1_liftWater_87 rfl ?_
            refine x_min G wm_X1_134 wmin_1 wmin_2 wmin_3 rfl rfl dX1_liftWater_89 ?_
            refine x_istore G (lv' := [none, some (.ref 1), some (.ref 14), some (.ref 19), some (.int v4), some (.int (mmin (ri w 22 v4) ((100 : Int32) * (ri w 23 v4)))), some (.int (mmin (ri w 15 v4) (mmin (ri w 22 v4) ((100 : Int32) * (ri w 23 v4))))), none]) dX1_liftWater_92 rfl rfl rfl ?_
            refine x_aload_n G dX1_liftWater_94 rfl rfl ?_
            refine x_getR G (kd14 M) 1 (b := 16) rfl cl10 rfl wf_X1_103 dX1_liftWater_95 ?_
            refine x_iload G dX1_liftWater_98 rfl ?_
            refine x_iald0 G (kd16 M) dX1_liftWater_100 hb_2 ?_
            refine x_iload G dX1_liftWater_101 rfl ?_
            refine x_iload G dX1_liftWater_103 rfl ?_
            refine x_isub G dX1_liftWater_105 ?_
            refine x_min G wm_X1_134 wmin_1 wmin_2 wmin_3 rfl rfl dX1_liftWater_106 ?_
            refine x_istore G (lv' := [none, some (.ref 1), some (.ref 14), some (.ref 19), some (.int v4), some (.int (mmin (ri w 22 v4) ((100 : Int32) * (ri w 23 v4)))), some (.int (mmin (ri w 15 v4) (mmin (ri w 22 v4) ((100 : Int32) * (ri w 23 v4))))), some (.int (mmin (ri w 16 v4) ((mmin (ri w 22 v4) ((100 : Int32) * (ri w 23 v4))) - (mmin (ri w 15 v4) (mmin (ri w 22 v4) ((100 : Int32) * (ri w 23 v4)))))))]) dX1_liftWater_109 rfl rfl rfl ?_
            refine x_aload_n G dX1_liftWater_111 rfl rfl ?_
            refine x_getR G (kd14 M) 0 (b := 15) rfl cl10 rfl wf_X1_98 dX1_liftWater_112 ?_
            refine x_iload G dX1_liftWater_115 rfl ?_
            refine x_dup2 G dX1_liftWater_117 rfl rfl ?_
            refine x_iald0 G (kd15 M) dX1_liftWater_118 hb_2 ?_
            refine x_iload G dX1_liftWater_119 rfl ?_
            refine x_isub G dX1_liftWater_121 ?_
            refine x_iast0 G (kd15 M) dX1_liftWater_122 hb_2 ?_
            refine nwr hf (fun w_7 hf => ?_)
            refine x_aload_n G dX1_liftWater_123 rfl rfl ?_
            refine x_getR G (kd14 M) 1 (b := 16) rfl cl10 rfl wf_X1_103 dX1_liftWater_124 ?_
            refine x_iload G dX1_liftWater_127 rfl ?_
            refine x_dup2 G dX1_liftWater_129 rfl rfl ?_
            refine x_iald0 G (kd16 M) dX1_liftWater_130 hb_2 ?_
            refine x_iload G dX1_liftWater_131 rfl ?_
            refine x_isub G dX1_liftWater_133 ?_
            refine x_iast0 G (kd16 M) dX1_liftWater_134 hb_2 ?_
            refine nwr hf (fun w_8 hf => ?_)
            refine x_aload_n G dX1_liftWater_135 rfl rfl ?_
            refine x_aload_n G dX1_liftWater_136 rfl rfl ?_
            refine x_getR G (kd1 M) 0 (b := 2) rfl cl0 rfl wf_X1_33 dX1_liftWater_137 ?_
            refine x_aload_n G dX1_liftWater_140 rfl rfl ?_
            refine x_getR G (kd19 M) 1 (b := 21) rfl cl3 rfl wf_X1_147 dX1_liftWater_141 ?_
            refine x_iload G dX1_liftWater_144 rfl ?_
            refine x_iald0 G (kd21 M) dX1_liftWater_146 hb_2 ?_
            refine x_iload G dX1_liftWater_147 rfl ?_
            refine x_iload G dX1_liftWater_149 rfl ?_
            obtain ⟨v_9, hv_9, hf⟩ := bnd hf
            refine x_virV G (As := [.ref 2, .int (ri w_8 21 v4), .int (mmin (ri w 15 v4) (mmin (ri w 22 v4) ((100 : Int32) * (ri w 23 v4)))), .int (mmin (ri w 16 v4) ((mmin (ri w 22 v4) ((100 : Int32) * (ri w 23 v4))) - (mmin (ri w 15 v4) (mmin (ri w 22 v4) ((100 : Int32) * (ri w 23 v4))))))]) (mX10_arrive G.2.2.2.2.2.2.1 M hv_9) mv_X1_140 (kd14 M) cl10 rfl rfl rfl rfl rfl dX1_liftWater_151 ?_
            refine x_aload_n G dX1_liftWater_154 rfl rfl ?_
            refine x_getR G (kd19 M) 3 (b := 23) rfl cl3 rfl wf_X1_151 dX1_liftWater_155 ?_
            refine x_iload G dX1_liftWater_158 rfl ?_
            refine x_dup2 G dX1_liftWater_160 rfl rfl ?_
            refine x_iald0 G (kd23 M) dX1_liftWater_161 hb_2 ?_
            refine x_iload G dX1_liftWater_162 rfl ?_
            refine x_iload G dX1_liftWater_164 rfl ?_
            refine x_iadd G dX1_liftWater_166 ?_
            refine x_bipush G (v := 99) dX1_liftWater_167 (by decide) ?_
            refine x_iadd G dX1_liftWater_169 ?_
            refine x_bipush G (v := 100) dX1_liftWater_170 (by decide) ?_
            refine x_idiv G dX1_liftWater_172 (by decide) ?_
            refine x_isub G dX1_liftWater_173 ?_
            refine x_iast0 G (kd23 M) dX1_liftWater_174 hb_2 ?_
            refine nwr hf (fun w_10 hf => ?_)
            refine x_iinc G (lv' := [none, some (.ref 1), some (.ref 14), some (.ref 19), some (.int (v4 + (1 : Int32))), some (.int (mmin (ri w 22 v4) ((100 : Int32) * (ri w 23 v4)))), some (.int (mmin (ri w 15 v4) (mmin (ri w 22 v4) ((100 : Int32) * (ri w 23 v4))))), some (.int (mmin (ri w 16 v4) ((mmin (ri w 22 v4) ((100 : Int32) * (ri w 23 v4))) - (mmin (ri w 15 v4) (mmin (ri w 22 v4) ((100 : Int32) * (ri w 23 v4)))))))]) (v := 1) dX1_liftWater_175 rfl (by decide) rfl rfl rfl ?_
            refine x_goto G (tgt := 13) dX1_liftWater_178 (by decide) ?_
            exact XW.sub (lv' := [none, some (.ref 1), some (.ref 14), some (.ref 19), some (.int (v4 + (1 : Int32))), none, none, none]) (And.intro rfl (And.intro rfl (And.intro rfl (And.intro rfl trivial)))) (ih _ _ hf)
          · refine x_goto G (tgt := 175) dX1_liftWater_55 (by decide) ?_
            refine x_iinc G (lv' := [none, some (.ref 1), some (.ref 14), some (.ref 19), some (.int (v4 + (1 : Int32))), none, none, none]) (v := 1) dX1_liftWater_175 rfl (by decide) rfl rfl rfl ?_
            refine x_goto G (tgt := 13) dX1_liftWater_178 (by decide) ?_
            exact XW.sub (lv' := [none, some (.ref 1), some (.ref 14), some (.ref 19), some (.int (v4 + (1 : Int32))), none, none, none]) (And.intro rfl (And.intro rfl (And.intro rfl (And.intro rfl trivial)))) (ih _ _ hf)
      · refine x_iinc G (lv' := [none, some (.ref 1), some (.ref 14), some (.ref 19), some (.int (v4 + (1 : Int32))), none, none, none]) (v := 1) dX1_liftWater_175 rfl (by decide) rfl rfl rfl ?_
        refine x_goto G (tgt := 13) dX1_liftWater_178 (by decide) ?_
        exact XW.sub (lv' := [none, some (.ref 1), some (.ref 14), some (.ref 19), some (.int (v4 + (1 : Int32))), none, none, none]) (And.intro rfl (And.intro rfl (And.intro rfl (And.intro rfl trivial)))) (ih _ _ hf)
    · exact x_vretW G hf hr dX1_liftWater_181

set_option maxHeartbeats 4000000 in
set_option maxRecDepth 100000 in
theorem xX1_liftWater_e {K : KT} {w : Wd} {r : Wd} (G : GK K cX1_liftWater RX1 8 3) (M : Main K.ks) (hf : fX1_liftWater w = some r) (hr : RV K r) : XW K 0 [some (.ref 92), some (.ref 1), none, none, none, none, none, none] [] w := by
  unfold fX1_liftWater at hf
  refine x_aload_n G dX1_liftWater_0 rfl rfl ?_
  refine x_getR G (kd1 M) 1 (b := 14) rfl cl0 rfl wf_X1_84 dX1_liftWater_1 ?_
  refine x_astore_n G (lv' := [some (.ref 92), some (.ref 1), some (.ref 14), none, none, none, none, none]) dX1_liftWater_4 rfl rfl rfl rfl ?_
  refine x_aload_n G dX1_liftWater_5 rfl rfl ?_
  refine x_getR G (kd1 M) 2 (b := 19) rfl cl0 rfl wf_X1_121 dX1_liftWater_6 ?_
  refine x_astore_n G (lv' := [some (.ref 92), some (.ref 1), some (.ref 14), some (.ref 19), none, none, none, none]) dX1_liftWater_9 rfl rfl rfl rfl ?_
  refine x_iconst G (v := 0) dX1_liftWater_10 (by decide) ?_
  refine x_istore G (lv' := [some (.ref 92), some (.ref 1), some (.ref 14), some (.ref 19), some (.int (0 : Int32)), none, none, none]) dX1_liftWater_11 rfl rfl rfl ?_
  exact XW.sub (lv' := [none, some (.ref 1), some (.ref 14), some (.ref 19), some (.int (0 : Int32)), none, none, none]) (And.intro rfl (And.intro rfl (And.intro rfl (And.intro rfl trivial)))) (xX1_liftWater_13 G M hr FU _ _ hf)

theorem mX1_liftWater {l : Launch} {S : KS} {w : Wd} (hI : Inj S) (M : Main S) {r : Wd} (hf : fX1_liftWater w = some r) : CV l yX1_liftWater cX1_liftWater 8 none 3 S [.ref 92, .ref 1] w r := by
  intro sz
  refine mk_entry rfl (by decide +kernel) hI 6 rfl rfl (fun K h1 h2 h3 h4 h5 h6 G => ?_)
  subst h2
  exact xX1_liftWater_e G M hf ⟨h3, by rw [h4, h6], h5⟩

set_option maxHeartbeats 4000000 in
set_option maxRecDepth 100000 in
theorem xX1_makeWater_7 {K : KT} {r : Wd} (G : GK K cX1_makeWater RX1 5 1) (M : Main K.ks) (hr : RV K r) : ∀ (n : Nat) (v3 : Int32) (w : Wd), fX1_makeWater_7 n v3 w = some r → XW K 7 [none, some (.ref 1), some (.ref 14), some (.int v3), none] [] w := by
  intro n
  induction n with
  | zero =>
    intro v3 w hf
    unfold fX1_makeWater_7 at hf
    cases hf
  | succ n ih =>
    intro v3 w hf
    unfold fX1_makeWater_7 at hf
    refine x_iload_n G dX1_makeWater_7 rfl rfl ?_
    refine x_bipush G (v := 100) dX1_makeWater_8 (by decide) ?_
    refine x_icmpge G (tgt := 97) dX1_makeWater_10 (by decide) hf (fun c_1 hf => ?_) (fun c_1 hf => ?_)
    · refine x_aload_n G dX1_makeWater_13 rfl rfl ?_
      refine x_getR G (kd1 M) 0 (b := 2) rfl cl0 rfl wf_X1_33 dX1_makeWater_14 ?_
      refine x_getR G (kd2 M) 4 (b := 7) rfl cl2 rfl wf_X1_92 dX1_makeWater_17 ?_
      refine x_iload_n G dX1_makeWater_20 rfl rfl ?_
      refine x_iald G (kd7 M) dX1_makeWater_21 hf (fun hb_2 hf => ?_)
      refine x_iconst G (v := 1) dX1_makeWater_22 (by decide) ?_
      refine x_icmpne G (tgt := 29) dX1_makeWater_23 (by decide) hf (fun c_3 hf => ?_) (fun c_3 hf => ?_)
      · refine x_goto G (tgt := 91) dX1_makeWater_26 (by decide) ?_
        refine x_iinc G (lv' := [none, some (.ref 1), some (.ref 14), some (.int (v3 + (1 : Int32))), none]) (v := 1) dX1_makeWater_91 rfl (by decide) rfl rfl rfl ?_
        refine x_goto G (tgt := 7) dX1_makeWater_94 (by decide) ?_
        exact XW.sub (lv' := [none, some (.ref 1), some (.ref 14), some (.int (v3 + (1 : Int32))), none]) (And.intro rfl (And.intro rfl (And.intro rfl trivial))) (ih _ _ hf)
      · refine x_aload_n G dX1_makeWater_29 rfl rfl ?_
        refine x_getR G (kd1 M) 0 (b := 2) rfl cl0 rfl wf_X1_33 dX1_makeWater_30 ?_
        refine x_getR G (kd2 M) 2 (b := 5) rfl cl2 rfl wf_X1_95 dX1_makeWater_33 ?_
        refine x_iload_n G dX1_makeWater_36 rfl rfl ?_
        refine x_iald0 G (kd5 M) dX1_makeWater_37 hb_2 ?_
        refine x_bipush G (v := 100) dX1_makeWater_38 (by decide) ?_
        refine x_idiv G dX1_makeWater_40 (by decide) ?_
        refine x_istore G (lv' := [none, some (.ref 1), some (.ref 14), some (.int v3), some (.int ((ri w 5 v3) / (100 : Int32)))]) dX1_makeWater_41 rfl rfl rfl ?_
        refine x_aload_n G dX1_makeWater_43 rfl rfl ?_
        refine x_getR G (kd14 M) 0 (b := 15) rfl cl10 rfl wf_X1_98 dX1_makeWater_44 ?_
        refine x_iload_n G dX1_makeWater_47 rfl rfl ?_
        refine x_dup2 G dX1_makeWater_48 rfl rfl ?_
        refine x_iald0 G (kd15 M) dX1_makeWater_49 hb_2 ?_
        refine x_iload G dX1_makeWater_50 rfl ?_
        refine x_iadd G dX1_makeWater_52 ?_
        refine x_iast0 G (kd15 M) dX1_makeWater_53 hb_2 ?_
        refine nwr hf (fun w_4 hf => ?_)
        refine x_aload_n G dX1_makeWater_54 rfl rfl ?_
        refine x_getR G (kd14 M) 1 (b := 16) rfl cl10 rfl wf_X1_103 dX1_makeWater_55 ?_
        refine x_iload_n G dX1_makeWater_58 rfl rfl ?_
        refine x_dup2 G dX1_makeWater_59 rfl rfl ?_
        refine x_iald0 G (kd16 M) dX1_makeWater_60 hb_2 ?_
        refine x_aload_n G dX1_makeWater_61 rfl rfl ?_
        refine x_getI G (kd14 M) 4 rfl cl10 rfl wf_X1_106 dX1_makeWater_62 ?_
        refine x_iadd G dX1_makeWater_65 ?_
        refine x_iast0 G (kd16 M) dX1_makeWater_66 hb_2 ?_
        refine nwr hf (fun w_5 hf => ?_)
        refine x_aload_n G dX1_makeWater_67 rfl rfl ?_
        refine x_dup G dX1_makeWater_68 rfl ?_
        refine x_getI G (kd14 M) 5 rfl cl10 rfl wf_X1_109 dX1_makeWater_69 ?_
        refine x_iload G dX1_makeWater_72 rfl ?_
        refine x_iadd G dX1_makeWater_74 ?_
        refine x_putI G (kd14 M) 5 rfl cl10 rfl wf_X1_109 rfl rfl rfl dX1_makeWater_75 ?_
        refine nwr hf (fun w_6 hf => ?_)
        refine x_aload_n G dX1_makeWater_78 rfl rfl ?_
        refine x_dup G dX1_makeWater_79 rfl ?_
        refine x_getI G (kd14 M) 6 rfl cl10 rfl wf_X1_112 dX1_makeWater_80 ?_
        refine x_aload_n G dX1_makeWater_83 rfl rfl ?_
        refine x_getI G (kd14 M) 4 rfl cl10 rfl wf_X1_106 dX1_makeWater_84 ?_
        refine x_iadd G dX1_makeWater_87 ?_
        refine x_putI G (kd14 M) 6 rfl cl10 rfl wf_X1_112 rfl rfl rfl dX1_makeWater_88 ?_
        refine nwr hf (fun w_7 hf => ?_)
        refine x_iinc G (lv' := [none, some (.ref 1), some (.ref 14), some (.int (v3 + (1 : Int32))), some (.int ((ri w 5 v3) / (100 : Int32)))]) (v := 1) dX1_makeWater_91 rfl (by decide) rfl rfl rfl ?_
        refine x_goto G (tgt := 7) dX1_makeWater_94 (by decide) ?_
        exact XW.sub (lv' := [none, some (.ref 1), some (.ref 14), some (.int (v3 + (1 : Int32))), none]) (And.intro rfl (And.intro rfl (And.intro rfl trivial))) (ih _ _ hf)
    · exact x_vretW G hf hr dX1_makeWater_97

set_option maxHeartbeats 4000000 in
set_option maxRecDepth 100000 in
theorem xX1_makeWater_e {K : KT} {w : Wd} {r : Wd} (G : GK K cX1_makeWater RX1 5 1) (M : Main K.ks) (hf : fX1_makeWater w = some r) (hr : RV K r) : XW K 0 [some (.ref 92), some (.ref 1), none, none, none] [] w := by
  unfold fX1_makeWater at hf
  refine x_aload_n G dX1_makeWater_0 rfl rfl ?_
  refine x_getR G (kd1 M) 1 (b := 14) rfl cl0 rfl wf_X1_84 dX1_makeWater_1 ?_
  refine x_astore_n G (lv' := [some (.ref 92), some (.ref 1), some (.ref 14), none, none]) dX1_makeWater_4 rfl rfl rfl rfl ?_
  refine x_iconst G (v := 0) dX1_makeWater_5 (by decide) ?_
  refine x_istore_n G (lv' := [some (.ref 92), some (.ref 1), some (.ref 14), some (.int (0 : Int32)), none]) dX1_makeWater_6 rfl rfl rfl rfl ?_
  exact XW.sub (lv' := [none, some (.ref 1), some (.ref 14), some (.int (0 : Int32)), none]) (And.intro rfl (And.intro rfl (And.intro rfl trivial))) (xX1_makeWater_7 G M hr FU _ _ hf)

theorem mX1_makeWater {l : Launch} {S : KS} {w : Wd} (hI : Inj S) (M : Main S) {r : Wd} (hf : fX1_makeWater w = some r) : CV l yX1_makeWater cX1_makeWater 5 none 1 S [.ref 92, .ref 1] w r := by
  intro sz
  refine mk_entry rfl (by decide +kernel) hI 3 rfl rfl (fun K h1 h2 h3 h4 h5 h6 G => ?_)
  subst h2
  exact xX1_makeWater_e G M hf ⟨h3, by rw [h4, h6], h5⟩

set_option maxHeartbeats 4000000 in
set_option maxRecDepth 100000 in
theorem xX9_bringsBack_2 {K : KT} {w : Wd} {r : Bool} (G : GK K cX9_bringsBack RX9 3 2) (M : Main K.ks) (hr : RI K .boolean (bI r) w) : ∀ (n : Nat) (v1 : Int32) (v2 : Int32), fX9_bringsBack_2 w n v1 v2 = some r → XW K 2 [some (.ref 100), some (.int v1), some (.int v2)] [] w := by
  intro n
  induction n with
  | zero =>
    intro v1 v2 hf
    unfold fX9_bringsBack_2 at hf
    cases hf
  | succ n ih =>
    intro v1 v2 hf
    unfold fX9_bringsBack_2 at hf
    refine x_iload_n G dX9_bringsBack_2 rfl rfl ?_
    refine x_bipush G (v := 12) dX9_bringsBack_3 (by decide) ?_
    refine x_icmpgt G (tgt := 32) dX9_bringsBack_5 (by decide) hf (fun c_1 hf => ?_) (fun c_1 hf => ?_)
    · refine x_iconst G (v := 0) dX9_bringsBack_32 (by decide) ?_
      exact x_zretP G hf hr dX9_bringsBack_33
    · refine x_aload_n G dX9_bringsBack_8 rfl rfl ?_
      refine x_iload_n G dX9_bringsBack_9 rfl rfl ?_
      obtain ⟨v_2, hv_2, hf⟩ := bnd hf
      refine x_virI G (As := [.int v1]) (mX9_levelAt G.2.2.2.2.2.2.1 M hv_2) mv_X9_32 (kd100 M) cl9 rfl rfl rfl rfl rfl dX9_bringsBack_10 ?_
      refine x_aload_n G dX9_bringsBack_13 rfl rfl ?_
      refine x_iload_n G dX9_bringsBack_14 rfl rfl ?_
      refine x_iload_n G dX9_bringsBack_15 rfl rfl ?_
      refine x_iadd G dX9_bringsBack_16 ?_
      obtain ⟨v_3, hv_3, hf⟩ := bnd hf
      refine x_virI G (As := [.int (v1 + v2)]) (mX9_levelAt G.2.2.2.2.2.2.1 M hv_3) mv_X9_32 (kd100 M) cl9 rfl rfl rfl rfl rfl dX9_bringsBack_17 ?_
      refine x_isub G dX9_bringsBack_20 ?_
      refine x_ifge G (tgt := 26) dX9_bringsBack_21 (by decide) hf (fun c_4 hf => ?_) (fun c_4 hf => ?_)
      · refine x_iconst G (v := 1) dX9_bringsBack_24 (by decide) ?_
        exact x_zretP G hf hr dX9_bringsBack_25
      · refine x_iinc G (lv' := [some (.ref 100), some (.int v1), some (.int (v2 + (1 : Int32)))]) (v := 1) dX9_bringsBack_26 rfl (by decide) rfl rfl rfl ?_
        refine x_goto G (tgt := 2) dX9_bringsBack_29 (by decide) ?_
        exact XW.sub (lv' := [some (.ref 100), some (.int v1), some (.int (v2 + (1 : Int32)))]) (And.intro rfl (And.intro rfl (And.intro rfl trivial))) (ih _ _ hf)

set_option maxHeartbeats 4000000 in
set_option maxRecDepth 100000 in
theorem xX9_bringsBack_e {K : KT} {v1 : Int32} {w : Wd} {r : Bool} (G : GK K cX9_bringsBack RX9 3 2) (M : Main K.ks) (hf : fX9_bringsBack v1 w = some r) (hr : RI K .boolean (bI r) w) : XW K 0 [some (.ref 100), some (.int v1), none] [] w := by
  unfold fX9_bringsBack at hf
  refine x_iconst G (v := 1) dX9_bringsBack_0 (by decide) ?_
  refine x_istore_n G (lv' := [some (.ref 100), some (.int v1), some (.int (1 : Int32))]) dX9_bringsBack_1 rfl rfl rfl rfl ?_
  exact XW.sub (lv' := [some (.ref 100), some (.int v1), some (.int (1 : Int32))]) (And.intro rfl (And.intro rfl (And.intro rfl trivial))) (xX9_bringsBack_2 G M hr FU _ _ hf)

theorem mX9_bringsBack {l : Launch} {S : KS} {w : Wd} (hI : Inj S) (M : Main S) {v1 : Int32} {r : Bool} (hf : fX9_bringsBack v1 w = some r) : CI l yX9_bringsBack cX9_bringsBack 3 (some .boolean) 2 S [.ref 100, .int v1] w (bI r) w := by
  intro sz
  refine mk_entry rfl (by decide +kernel) hI 1 rfl rfl (fun K h1 h2 h3 h4 h5 h6 G => ?_)
  subst h2
  exact xX9_bringsBack_e G M hf ⟨h3, by rw [h4, h6], h5⟩

set_option maxHeartbeats 4000000 in
set_option maxRecDepth 100000 in
theorem xX1_openGates_19 {K : KT} {r : Wd} (G : GK K cX1_openGates RX1 9 6) (M : Main K.ks) (hr : RV K r) : ∀ (n : Nat) (v5 : Int32) (v6 : Int32) (w : Wd), fX1_openGates_19 n v5 v6 w = some r → XW K 19 [some (.ref 92), some (.ref 1), some (.ref 106), some (.ref 100), some (.ref 19), some (.int v5), some (.int v6), none, none] [] w := by
  intro n
  induction n with
  | zero =>
    intro v5 v6 w hf
    unfold fX1_openGates_19 at hf
    cases hf
  | succ n ih =>
    intro v5 v6 w hf
    unfold fX1_openGates_19 at hf
    refine x_iload G dX1_openGates_19 rfl ?_
    refine x_bipush G (v := 100) dX1_openGates_21 (by decide) ?_
    refine x_icmpge G (tgt := 214) dX1_openGates_23 (by decide) hf (fun c_1 hf => ?_) (fun c_1 hf => ?_)
    · refine x_aload G dX1_openGates_26 rfl ?_
      refine x_getR G (kd19 M) 0 (b := 20) rfl cl3 rfl wf_X1_125 dX1_openGates_28 ?_
      refine x_iload G dX1_openGates_31 rfl ?_
      refine x_iald G (kd20 M) dX1_openGates_33 hf (fun hb_2 hf => ?_)
      refine x_iconst G (v := 2) dX1_openGates_34 (by decide) ?_
      refine x_icmpeq G (tgt := 41) dX1_openGates_35 (by decide) hf (fun c_3 hf => ?_) (fun c_3 hf => ?_)
      · refine x_aload_n G dX1_openGates_41 rfl rfl ?_
        refine x_aload_n G dX1_openGates_42 rfl rfl ?_
        refine x_getR G (kd1 M) 1 (b := 14) rfl cl0 rfl wf_X1_84 dX1_openGates_43 ?_
        refine x_aload G dX1_openGates_46 rfl ?_
        refine x_iload G dX1_openGates_48 rfl ?_
        obtain ⟨v_4, hv_4, hf⟩ := bnd hf
        refine x_virV G (As := [.ref 14, .ref 19, .int v6]) (mX1_fillTank G.2.2.2.2.2.2.1 M hv_4) mv_X1_163 (kd92 M) cl1 rfl rfl rfl rfl rfl dX1_openGates_50 ?_
        refine x_iload G dX1_openGates_53 rfl ?_
        refine x_aload G dX1_openGates_55 rfl ?_
        refine x_getR G (kd19 M) 7 (b := 27) rfl cl3 rfl wf_X1_167 dX1_openGates_57 ?_
        refine x_iload G dX1_openGates_60 rfl ?_
        refine x_iald0 G (kd27 M) dX1_openGates_62 hb_2 ?_
        refine x_icmpge G (tgt := 208) dX1_openGates_63 (by decide) hf (fun c_5 hf => ?_) (fun c_5 hf => ?_)
        · refine x_aload_n G dX1_openGates_66 rfl rfl ?_
          refine x_iconst G (v := 2) dX1_openGates_67 (by decide) ?_
          refine x_iload G dX1_openGates_68 rfl ?_
          refine x_aload_n G dX1_openGates_70 rfl rfl ?_
          refine x_aload_n G dX1_openGates_71 rfl rfl ?_
          obtain ⟨v_6, hv_6, hf⟩ := bnd hf
          refine x_virI G (As := [.int (2 : Int32), .int v6, .ref 1, .ref 100]) (mX4_allow G.2.2.2.2.2.2.1 M hv_6) mv_X1_170 (kd106 M) cl4 rfl rfl rfl rfl rfl dX1_openGates_72 ?_
          refine x_ifneB G (tgt := 81) dX1_openGates_75 (by decide) hf (fun c_7 hf => ?_) (fun c_7 hf => ?_)
          · refine x_aload G dX1_openGates_81 rfl ?_
            refine x_getR G (kd19 M) 8 (b := 28) rfl cl3 rfl wf_X1_176 dX1_openGates_83 ?_
            refine x_iload G dX1_openGates_86 rfl ?_
            refine x_iald0 G (kd28 M) dX1_openGates_88 hb_2 ?_
            refine x_aload G dX1_openGates_89 rfl ?_
            refine x_getR G (kd19 M) 6 (b := 26) rfl cl3 rfl wf_X1_179 dX1_openGates_91 ?_
            refine x_iload G dX1_openGates_94 rfl ?_
            refine x_iald0 G (kd26 M) dX1_openGates_96 hb_2 ?_
            refine x_min G wm_X1_134 wmin_1 wmin_2 wmin_3 rfl rfl dX1_openGates_97 ?_
            refine x_istore G (lv' := [some (.ref 92), some (.ref 1), some (.ref 106), some (.ref 100), some (.ref 19), some (.int v5), some (.int v6), some (.int (mmin (ri v_6.2 28 v6) (ri v_6.2 26 v6))), none]) dX1_openGates_100 rfl rfl rfl ?_
            refine x_aload G dX1_openGates_102 rfl ?_
            refine x_getR G (kd19 M) 9 (b := 29) rfl cl3 rfl wf_X1_182 dX1_openGates_104 ?_
            refine x_iload G dX1_openGates_107 rfl ?_
            refine x_iald0 G (kd29 M) dX1_openGates_109 hb_2 ?_
            refine x_aload G dX1_openGates_110 rfl ?_
            refine x_getR G (kd19 M) 6 (b := 26) rfl cl3 rfl wf_X1_179 dX1_openGates_112 ?_
            refine x_iload G dX1_openGates_115 rfl ?_
            refine x_iald0 G (kd26 M) dX1_openGates_117 hb_2 ?_
            refine x_iload G dX1_openGates_118 rfl ?_
            refine x_isub G dX1_openGates_120 ?_
            refine x_min G wm_X1_134 wmin_1 wmin_2 wmin_3 rfl rfl dX1_openGates_121 ?_
            refine x_istore G (lv' := [some (.ref 92), some (.ref 1), some (.ref 106), some (.ref 100), some (.ref 19), some (.int v5), some (.int v6), some (.int (mmin (ri v_6.2 28 v6) (ri v_6.2 26 v6))), some (.int (mmin (ri v_6.2 29 v6) ((ri v_6.2 26 v6) - (mmin (ri v_6.2 28 v6) (ri v_6.2 26 v6)))))]) dX1_openGates_124 rfl rfl rfl ?_
            refine x_aload G dX1_openGates_126 rfl ?_
            refine x_getR G (kd19 M) 8 (b := 28) rfl cl3 rfl wf_X1_176 dX1_openGates_128 ?_
            refine x_iload G dX1_openGates_131 rfl ?_
            refine x_dup2 G dX1_openGates_133 rfl rfl ?_
            refine x_iald0 G (kd28 M) dX1_openGates_134 hb_2 ?_
            refine x_iload G dX1_openGates_135 rfl ?_
            refine x_isub G dX1_openGates_137 ?_
            refine x_iast0 G (kd28 M) dX1_openGates_138 hb_2 ?_
            refine nwr hf (fun w_8 hf => ?_)
            refine x_aload G dX1_openGates_139 rfl ?_
            refine x_getR G (kd19 M) 9 (b := 29) rfl cl3 rfl wf_X1_182 dX1_openGates_141 ?_
            refine x_iload G dX1_openGates_144 rfl ?_
            refine x_dup2 G dX1_openGates_146 rfl rfl ?_
            refine x_iald0 G (kd29 M) dX1_openGates_147 hb_2 ?_
            refine x_iload G dX1_openGates_148 rfl ?_
            refine x_isub G dX1_openGates_150 ?_
            refine x_iast0 G (kd29 M) dX1_openGates_151 hb_2 ?_
            refine nwr hf (fun w_9 hf => ?_)
            refine x_aload_n G dX1_openGates_152 rfl rfl ?_
            refine x_getR G (kd1 M) 1 (b := 14) rfl cl0 rfl wf_X1_84 dX1_openGates_153 ?_
            refine x_dup G dX1_openGates_156 rfl ?_
            refine x_getI G (kd14 M) 8 rfl cl10 rfl wf_X1_185 dX1_openGates_157 ?_
            refine x_iload G dX1_openGates_160 rfl ?_
            refine x_iadd G dX1_openGates_162 ?_
            refine x_putI G (kd14 M) 8 rfl cl10 rfl wf_X1_185 rfl rfl rfl dX1_openGates_163 ?_
            refine nwr hf (fun w_10 hf => ?_)
            refine x_aload_n G dX1_openGates_166 rfl rfl ?_
            refine x_aload_n G dX1_openGates_167 rfl rfl ?_
            refine x_getI G (kd1 M) 6 rfl cl0 rfl wf_X1_154 dX1_openGates_168 ?_
            obtain ⟨v_11, hv_11, hf⟩ := bnd hf
            refine x_virI G (As := [.int (w_10.1 1 6)]) (mX9_bringsBack G.2.2.2.2.2.2.1 M hv_11) mv_X1_188 (kd100 M) cl9 rfl rfl rfl rfl rfl dX1_openGates_171 ?_
            refine x_ifeqB G (tgt := 194) dX1_openGates_174 (by decide) hf (fun c_12 hf => ?_) (fun c_12 hf => ?_)
            · refine x_aload_n G dX1_openGates_177 rfl rfl ?_
              refine x_getR G (kd1 M) 1 (b := 14) rfl cl0 rfl wf_X1_84 dX1_openGates_178 ?_
              refine x_dup G dX1_openGates_181 rfl ?_
              refine x_getI G (kd14 M) 10 rfl cl10 rfl wf_X1_191 dX1_openGates_182 ?_
              refine x_iload G dX1_openGates_185 rfl ?_
              refine x_iadd G dX1_openGates_187 ?_
              refine x_putI G (kd14 M) 10 rfl cl10 rfl wf_X1_191 rfl rfl rfl dX1_openGates_188 ?_
              refine nwr hf (fun w_13 hf => ?_)
              refine x_goto G (tgt := 208) dX1_openGates_191 (by decide) ?_
              refine x_iinc G (lv' := [some (.ref 92), some (.ref 1), some (.ref 106), some (.ref 100), some (.ref 19), some (.int v5), some (.int (v6 + (1 : Int32))), some (.int (mmin (ri v_6.2 28 v6) (ri v_6.2 26 v6))), some (.int (mmin (ri v_6.2 29 v6) ((ri v_6.2 26 v6) - (mmin (ri v_6.2 28 v6) (ri v_6.2 26 v6)))))]) (v := 1) dX1_openGates_208 rfl (by decide) rfl rfl rfl ?_
              refine x_goto G (tgt := 19) dX1_openGates_211 (by decide) ?_
              exact XW.sub (lv' := [some (.ref 92), some (.ref 1), some (.ref 106), some (.ref 100), some (.ref 19), some (.int v5), some (.int (v6 + (1 : Int32))), none, none]) (And.intro rfl (And.intro rfl (And.intro rfl (And.intro rfl (And.intro rfl (And.intro rfl (And.intro rfl trivial))))))) (ih _ _ _ hf)
            · refine x_aload_n G dX1_openGates_194 rfl rfl ?_
              refine x_getR G (kd1 M) 1 (b := 14) rfl cl0 rfl wf_X1_84 dX1_openGates_195 ?_
              refine x_dup G dX1_openGates_198 rfl ?_
              refine x_getI G (kd14 M) 9 rfl cl10 rfl wf_X1_194 dX1_openGates_199 ?_
              refine x_iload G dX1_openGates_202 rfl ?_
              refine x_iadd G dX1_openGates_204 ?_
              refine x_putI G (kd14 M) 9 rfl cl10 rfl wf_X1_194 rfl rfl rfl dX1_openGates_205 ?_
              refine nwr hf (fun w_14 hf => ?_)
              refine x_iinc G (lv' := [some (.ref 92), some (.ref 1), some (.ref 106), some (.ref 100), some (.ref 19), some (.int v5), some (.int (v6 + (1 : Int32))), some (.int (mmin (ri v_6.2 28 v6) (ri v_6.2 26 v6))), some (.int (mmin (ri v_6.2 29 v6) ((ri v_6.2 26 v6) - (mmin (ri v_6.2 28 v6) (ri v_6.2 26 v6)))))]) (v := 1) dX1_openGates_208 rfl (by decide) rfl rfl rfl ?_
              refine x_goto G (tgt := 19) dX1_openGates_211 (by decide) ?_
              exact XW.sub (lv' := [some (.ref 92), some (.ref 1), some (.ref 106), some (.ref 100), some (.ref 19), some (.int v5), some (.int (v6 + (1 : Int32))), none, none]) (And.intro rfl (And.intro rfl (And.intro rfl (And.intro rfl (And.intro rfl (And.intro rfl (And.intro rfl trivial))))))) (ih _ _ _ hf)
          · refine x_goto G (tgt := 208) dX1_openGates_78 (by decide) ?_
            refine x_iinc G (lv' := [some (.ref 92), some (.ref 1), some (.ref 106), some (.ref 100), some (.ref 19), some (.int v5), some (.int (v6 + (1 : Int32))), none, none]) (v := 1) dX1_openGates_208 rfl (by decide) rfl rfl rfl ?_
            refine x_goto G (tgt := 19) dX1_openGates_211 (by decide) ?_
            exact XW.sub (lv' := [some (.ref 92), some (.ref 1), some (.ref 106), some (.ref 100), some (.ref 19), some (.int v5), some (.int (v6 + (1 : Int32))), none, none]) (And.intro rfl (And.intro rfl (And.intro rfl (And.intro rfl (And.intro rfl (And.intro rfl (And.intro rfl trivial))))))) (ih _ _ _ hf)
        · refine x_iinc G (lv' := [some (.ref 92), some (.ref 1), some (.ref 106), some (.ref 100), some (.ref 19), some (.int v5), some (.int (v6 + (1 : Int32))), none, none]) (v := 1) dX1_openGates_208 rfl (by decide) rfl rfl rfl ?_
          refine x_goto G (tgt := 19) dX1_openGates_211 (by decide) ?_
          exact XW.sub (lv' := [some (.ref 92), some (.ref 1), some (.ref 106), some (.ref 100), some (.ref 19), some (.int v5), some (.int (v6 + (1 : Int32))), none, none]) (And.intro rfl (And.intro rfl (And.intro rfl (And.intro rfl (And.intro rfl (And.intro rfl (And.intro rfl trivial))))))) (ih _ _ _ hf)
      · refine x_goto G (tgt := 208) dX1_openGates_38 (by decide) ?_
        refine x_iinc G (lv' := [some (.ref 92), some (.ref 1), some (.ref 106), some (.ref 100), some (.ref 19), some (.int v5), some (.int (v6 + (1 : Int32))), none, none]) (v := 1) dX1_openGates_208 rfl (by decide) rfl rfl rfl ?_
        refine x_goto G (tgt := 19) dX1_openGates_211 (by decide) ?_
        exact XW.sub (lv' := [some (.ref 92), some (.ref 1), some (.ref 106), some (.ref 100), some (.ref 19), some (.int v5), some (.int (v6 + (1 : Int32))), none, none]) (And.intro rfl (And.intro rfl (And.intro rfl (And.intro rfl (And.intro rfl (And.intro rfl (And.intro rfl trivial))))))) (ih _ _ _ hf)
    · exact x_vretW G hf hr dX1_openGates_214

set_option maxHeartbeats 4000000 in
set_option maxRecDepth 100000 in
theorem xX1_openGates_e {K : KT} {w : Wd} {r : Wd} (G : GK K cX1_openGates RX1 9 6) (M : Main K.ks) (hf : fX1_openGates w = some r) (hr : RV K r) : XW K 0 [some (.ref 92), some (.ref 1), some (.ref 106), some (.ref 100), none, none, none, none, none] [] w := by
  unfold fX1_openGates at hf
  refine x_aload_n G dX1_openGates_0 rfl rfl ?_
  refine x_getR G (kd1 M) 2 (b := 19) rfl cl0 rfl wf_X1_121 dX1_openGates_1 ?_
  refine x_astore G (lv' := [some (.ref 92), some (.ref 1), some (.ref 106), some (.ref 100), some (.ref 19), none, none, none, none]) dX1_openGates_4 rfl rfl rfl ?_
  refine x_aload_n G dX1_openGates_6 rfl rfl ?_
  refine x_aload_n G dX1_openGates_7 rfl rfl ?_
  refine x_getI G (kd1 M) 6 rfl cl0 rfl wf_X1_154 dX1_openGates_8 ?_
  obtain ⟨v_1, hv_1, hf⟩ := bnd hf
  refine x_virI G (As := [.int (w.1 1 6)]) (mX9_levelAt G.2.2.2.2.2.2.1 M hv_1) mv_X1_157 (kd100 M) cl9 rfl rfl rfl rfl rfl dX1_openGates_11 ?_
  refine x_istore G (lv' := [some (.ref 92), some (.ref 1), some (.ref 106), some (.ref 100), some (.ref 19), some (.int v_1), none, none, none]) dX1_openGates_14 rfl rfl rfl ?_
  refine x_iconst G (v := 0) dX1_openGates_16 (by decide) ?_
  refine x_istore G (lv' := [some (.ref 92), some (.ref 1), some (.ref 106), some (.ref 100), some (.ref 19), some (.int v_1), some (.int (0 : Int32)), none, none]) dX1_openGates_17 rfl rfl rfl ?_
  exact XW.sub (lv' := [some (.ref 92), some (.ref 1), some (.ref 106), some (.ref 100), some (.ref 19), some (.int v_1), some (.int (0 : Int32)), none, none]) (And.intro rfl (And.intro rfl (And.intro rfl (And.intro rfl (And.intro rfl (And.intro rfl (And.intro rfl trivial))))))) (xX1_openGates_19 G M hr FU _ _ _ hf)

theorem mX1_openGates {l : Launch} {S : KS} {w : Wd} (hI : Inj S) (M : Main S) {r : Wd} (hf : fX1_openGates w = some r) : CV l yX1_openGates cX1_openGates 9 none 6 S [.ref 92, .ref 1, .ref 106, .ref 100] w r := by
  intro sz
  refine mk_entry rfl (by decide +kernel) hI 5 rfl rfl (fun K h1 h2 h3 h4 h5 h6 G => ?_)
  subst h2
  exact xX1_openGates_e G M hf ⟨h3, by rw [h4, h6], h5⟩

set_option maxHeartbeats 4000000 in
set_option maxRecDepth 100000 in
theorem xX1_passHour_e {K : KT} {w : Wd} {r : Wd} (G : GK K cX1_passHour RX1 4 7) (M : Main K.ks) (hf : fX1_passHour w = some r) (hr : RV K r) : XW K 0 [some (.ref 92), some (.ref 1), some (.ref 106), some (.ref 100)] [] w := by
  unfold fX1_passHour at hf
  refine x_aload_n G dX1_passHour_0 rfl rfl ?_
  refine x_aload_n G dX1_passHour_1 rfl rfl ?_
  obtain ⟨v_1, hv_1, hf⟩ := bnd hf
  refine x_virV G (As := [.ref 1]) (mX1_makeWater G.2.2.2.2.2.2.1 M hv_1) mv_X1_70 (kd92 M) cl1 rfl rfl rfl rfl rfl dX1_passHour_2 ?_
  refine x_aload_n G dX1_passHour_5 rfl rfl ?_
  refine x_aload_n G dX1_passHour_6 rfl rfl ?_
  obtain ⟨v_2, hv_2, hf⟩ := bnd hf
  refine x_virV G (As := [.ref 1]) (mX1_letOn G.2.2.2.2.2.2.1 M hv_2) mv_X1_74 (kd92 M) cl1 rfl rfl rfl rfl rfl dX1_passHour_7 ?_
  refine x_aload_n G dX1_passHour_10 rfl rfl ?_
  refine x_aload_n G dX1_passHour_11 rfl rfl ?_
  obtain ⟨v_3, hv_3, hf⟩ := bnd hf
  refine x_virV G (As := [.ref 1]) (mX1_liftWater G.2.2.2.2.2.2.1 M hv_3) mv_X1_77 (kd92 M) cl1 rfl rfl rfl rfl rfl dX1_passHour_12 ?_
  refine x_aload_n G dX1_passHour_15 rfl rfl ?_
  refine x_aload_n G dX1_passHour_16 rfl rfl ?_
  refine x_aload_n G dX1_passHour_17 rfl rfl ?_
  refine x_aload_n G dX1_passHour_18 rfl rfl ?_
  obtain ⟨v_4, hv_4, hf⟩ := bnd hf
  refine x_virV G (As := [.ref 1, .ref 106, .ref 100]) (mX1_openGates G.2.2.2.2.2.2.1 M hv_4) mv_X1_80 (kd92 M) cl1 rfl rfl rfl rfl rfl dX1_passHour_19 ?_
  refine x_aload_n G dX1_passHour_22 rfl rfl ?_
  refine x_aload_n G dX1_passHour_23 rfl rfl ?_
  refine x_getR G (kd1 M) 1 (b := 14) rfl cl0 rfl wf_X1_84 dX1_passHour_24 ?_
  obtain ⟨v_5, hv_5, hf⟩ := bnd hf
  refine x_virV G (As := [.ref 14]) (mX1_fillCellars G.2.2.2.2.2.2.1 M hv_5) mv_X1_88 (kd92 M) cl1 rfl rfl rfl rfl rfl dX1_passHour_27 ?_
  exact x_vretW G hf hr dX1_passHour_30

theorem mX1_passHour {l : Launch} {S : KS} {w : Wd} (hI : Inj S) (M : Main S) {r : Wd} (hf : fX1_passHour w = some r) : CV l yX1_passHour cX1_passHour 4 none 7 S [.ref 92, .ref 1, .ref 106, .ref 100] w r := by
  intro sz
  refine mk_entry rfl (by decide +kernel) hI 0 rfl rfl (fun K h1 h2 h3 h4 h5 h6 G => ?_)
  subst h2
  exact xX1_passHour_e G M hf ⟨h3, by rw [h4, h6], h5⟩

