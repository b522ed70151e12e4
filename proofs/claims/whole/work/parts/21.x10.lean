theorem dX12_rises_0 : decode cX12_rises 0 = .ok (.aload_n 0, 1) := by decide +kernel
theorem dX12_rises_1 : decode cX12_rises 1 = .ok (.iload_n 1, 1) := by decide +kernel
theorem dX12_rises_2 : decode cX12_rises 2 = .ok (.bipush 9, 2) := by decide +kernel
theorem dX12_rises_4 : decode cX12_rises 4 = .ok (.invokevirtual 117, 3) := by decide +kernel
theorem dX12_rises_7 : decode cX12_rises 7 = .ok (.aload_n 0, 1) := by decide +kernel
theorem dX12_rises_8 : decode cX12_rises 8 = .ok (.iload_n 1, 1) := by decide +kernel
theorem dX12_rises_9 : decode cX12_rises 9 = .ok (.bipush 10, 2) := by decide +kernel
theorem dX12_rises_11 : decode cX12_rises 11 = .ok (.invokevirtual 117, 3) := by decide +kernel
theorem dX12_rises_14 : decode cX12_rises 14 = .ok (.iadd, 1) := by decide +kernel
theorem dX12_rises_15 : decode cX12_rises 15 = .ok (.aload_n 0, 1) := by decide +kernel
theorem dX12_rises_16 : decode cX12_rises 16 = .ok (.iload_n 1, 1) := by decide +kernel
theorem dX12_rises_17 : decode cX12_rises 17 = .ok (.invokevirtual 239, 3) := by decide +kernel
theorem dX12_rises_20 : decode cX12_rises 20 = .ok (.isub, 1) := by decide +kernel
theorem dX12_rises_21 : decode cX12_rises 21 = .ok (.istore_n 2, 1) := by decide +kernel
theorem dX12_rises_22 : decode cX12_rises 22 = .ok (.bipush 15, 2) := by decide +kernel
theorem dX12_rises_24 : decode cX12_rises 24 = .ok (.iload_n 1, 1) := by decide +kernel
theorem dX12_rises_25 : decode cX12_rises 25 = .ok (.imul, 1) := by decide +kernel
theorem dX12_rises_26 : decode cX12_rises 26 = .ok (.istore_n 3, 1) := by decide +kernel
theorem dX12_rises_27 : decode cX12_rises 27 = .ok (.iload_n 2, 1) := by decide +kernel
theorem dX12_rises_28 : decode cX12_rises 28 = .ok (.ifCond .le 77, 3) := by decide +kernel
theorem dX12_rises_31 : decode cX12_rises 31 = .ok (.aload_n 0, 1) := by decide +kernel
theorem dX12_rises_32 : decode cX12_rises 32 = .ok (.iload_n 1, 1) := by decide +kernel
theorem dX12_rises_33 : decode cX12_rises 33 = .ok (.bipush 10, 2) := by decide +kernel
theorem dX12_rises_35 : decode cX12_rises 35 = .ok (.invokevirtual 117, 3) := by decide +kernel
theorem dX12_rises_38 : decode cX12_rises 38 = .ok (.iload_n 2, 1) := by decide +kernel
theorem dX12_rises_39 : decode cX12_rises 39 = .ok (.invokestatic 245, 3) := by decide +kernel
theorem dX12_rises_42 : decode cX12_rises 42 = .ok (.istore 4, 2) := by decide +kernel
theorem dX12_rises_44 : decode cX12_rises 44 = .ok (.aload_n 0, 1) := by decide +kernel
theorem dX12_rises_45 : decode cX12_rises 45 = .ok (.getfield 13, 3) := by decide +kernel
theorem dX12_rises_48 : decode cX12_rises 48 = .ok (.iload_n 3, 1) := by decide +kernel
theorem dX12_rises_49 : decode cX12_rises 49 = .ok (.bipush 10, 2) := by decide +kernel
theorem dX12_rises_51 : decode cX12_rises 51 = .ok (.iadd, 1) := by decide +kernel
theorem dX12_rises_52 : decode cX12_rises 52 = .ok (.dup2, 1) := by decide +kernel
theorem dX12_rises_53 : decode cX12_rises 53 = .ok (.iaload, 1) := by decide +kernel
theorem dX12_rises_54 : decode cX12_rises 54 = .ok (.iload 4, 2) := by decide +kernel
theorem dX12_rises_56 : decode cX12_rises 56 = .ok (.isub, 1) := by decide +kernel
theorem dX12_rises_57 : decode cX12_rises 57 = .ok (.iastore, 1) := by decide +kernel
theorem dX12_rises_58 : decode cX12_rises 58 = .ok (.aload_n 0, 1) := by decide +kernel
theorem dX12_rises_59 : decode cX12_rises 59 = .ok (.getfield 13, 3) := by decide +kernel
theorem dX12_rises_62 : decode cX12_rises 62 = .ok (.iload_n 3, 1) := by decide +kernel
theorem dX12_rises_63 : decode cX12_rises 63 = .ok (.bipush 12, 2) := by decide +kernel
theorem dX12_rises_65 : decode cX12_rises 65 = .ok (.iadd, 1) := by decide +kernel
theorem dX12_rises_66 : decode cX12_rises 66 = .ok (.dup2, 1) := by decide +kernel
theorem dX12_rises_67 : decode cX12_rises 67 = .ok (.iaload, 1) := by decide +kernel
theorem dX12_rises_68 : decode cX12_rises 68 = .ok (.iload 4, 2) := by decide +kernel
theorem dX12_rises_70 : decode cX12_rises 70 = .ok (.iadd, 1) := by decide +kernel
theorem dX12_rises_71 : decode cX12_rises 71 = .ok (.iastore, 1) := by decide +kernel
theorem dX12_rises_72 : decode cX12_rises 72 = .ok (.aload_n 0, 1) := by decide +kernel
theorem dX12_rises_73 : decode cX12_rises 73 = .ok (.getfield 13, 3) := by decide +kernel
theorem dX12_rises_76 : decode cX12_rises 76 = .ok (.iload_n 3, 1) := by decide +kernel
theorem dX12_rises_77 : decode cX12_rises 77 = .ok (.bipush 9, 2) := by decide +kernel
theorem dX12_rises_79 : decode cX12_rises 79 = .ok (.iadd, 1) := by decide +kernel
theorem dX12_rises_80 : decode cX12_rises 80 = .ok (.dup2, 1) := by decide +kernel
theorem dX12_rises_81 : decode cX12_rises 81 = .ok (.iaload, 1) := by decide +kernel
theorem dX12_rises_82 : decode cX12_rises 82 = .ok (.iload_n 2, 1) := by decide +kernel
theorem dX12_rises_83 : decode cX12_rises 83 = .ok (.iload 4, 2) := by decide +kernel
theorem dX12_rises_85 : decode cX12_rises 85 = .ok (.isub, 1) := by decide +kernel
theorem dX12_rises_86 : decode cX12_rises 86 = .ok (.isub, 1) := by decide +kernel
theorem dX12_rises_87 : decode cX12_rises 87 = .ok (.iastore, 1) := by decide +kernel
theorem dX12_rises_88 : decode cX12_rises 88 = .ok (.aload_n 0, 1) := by decide +kernel
theorem dX12_rises_89 : decode cX12_rises 89 = .ok (.getfield 13, 3) := by decide +kernel
theorem dX12_rises_92 : decode cX12_rises 92 = .ok (.iload_n 3, 1) := by decide +kernel
theorem dX12_rises_93 : decode cX12_rises 93 = .ok (.bipush 11, 2) := by decide +kernel
theorem dX12_rises_95 : decode cX12_rises 95 = .ok (.iadd, 1) := by decide +kernel
theorem dX12_rises_96 : decode cX12_rises 96 = .ok (.dup2, 1) := by decide +kernel
theorem dX12_rises_97 : decode cX12_rises 97 = .ok (.iaload, 1) := by decide +kernel
theorem dX12_rises_98 : decode cX12_rises 98 = .ok (.iload_n 2, 1) := by decide +kernel
theorem dX12_rises_99 : decode cX12_rises 99 = .ok (.iload 4, 2) := by decide +kernel
theorem dX12_rises_101 : decode cX12_rises 101 = .ok (.isub, 1) := by decide +kernel
theorem dX12_rises_102 : decode cX12_rises 102 = .ok (.iadd, 1) := by decide +kernel
theorem dX12_rises_103 : decode cX12_rises 103 = .ok (.iastore, 1) := by decide +kernel
theorem dX12_rises_104 : decode cX12_rises 104 = .ok (.return_, 1) := by decide +kernel
theorem dX12_rises_105 : decode cX12_rises 105 = .ok (.iload_n 2, 1) := by decide +kernel
theorem dX12_rises_106 : decode cX12_rises 106 = .ok (.ineg, 1) := by decide +kernel
theorem dX12_rises_107 : decode cX12_rises 107 = .ok (.iconst 5, 1) := by decide +kernel
theorem dX12_rises_108 : decode cX12_rises 108 = .ok (.invokestatic 245, 3) := by decide +kernel
theorem dX12_rises_111 : decode cX12_rises 111 = .ok (.istore 4, 2) := by decide +kernel
theorem dX12_rises_113 : decode cX12_rises 113 = .ok (.aload_n 0, 1) := by decide +kernel
theorem dX12_rises_114 : decode cX12_rises 114 = .ok (.iload_n 1, 1) := by decide +kernel
theorem dX12_rises_115 : decode cX12_rises 115 = .ok (.bipush 11, 2) := by decide +kernel
theorem dX12_rises_117 : decode cX12_rises 117 = .ok (.invokevirtual 117, 3) := by decide +kernel
theorem dX12_rises_120 : decode cX12_rises 120 = .ok (.iload 4, 2) := by decide +kernel
theorem dX12_rises_122 : decode cX12_rises 122 = .ok (.invokestatic 245, 3) := by decide +kernel
theorem dX12_rises_125 : decode cX12_rises 125 = .ok (.istore 5, 2) := by decide +kernel
theorem dX12_rises_127 : decode cX12_rises 127 = .ok (.aload_n 0, 1) := by decide +kernel
theorem dX12_rises_128 : decode cX12_rises 128 = .ok (.iload_n 1, 1) := by decide +kernel
theorem dX12_rises_129 : decode cX12_rises 129 = .ok (.bipush 12, 2) := by decide +kernel
theorem dX12_rises_131 : decode cX12_rises 131 = .ok (.invokevirtual 117, 3) := by decide +kernel
theorem dX12_rises_134 : decode cX12_rises 134 = .ok (.iload 4, 2) := by decide +kernel
theorem dX12_rises_136 : decode cX12_rises 136 = .ok (.iload 5, 2) := by decide +kernel
theorem dX12_rises_138 : decode cX12_rises 138 = .ok (.isub, 1) := by decide +kernel
theorem dX12_rises_139 : decode cX12_rises 139 = .ok (.invokestatic 245, 3) := by decide +kernel
theorem dX12_rises_142 : decode cX12_rises 142 = .ok (.istore 6, 2) := by decide +kernel
theorem dX12_rises_144 : decode cX12_rises 144 = .ok (.aload_n 0, 1) := by decide +kernel
theorem dX12_rises_145 : decode cX12_rises 145 = .ok (.getfield 13, 3) := by decide +kernel
theorem dX12_rises_148 : decode cX12_rises 148 = .ok (.iload_n 3, 1) := by decide +kernel
theorem dX12_rises_149 : decode cX12_rises 149 = .ok (.bipush 11, 2) := by decide +kernel
theorem dX12_rises_151 : decode cX12_rises 151 = .ok (.iadd, 1) := by decide +kernel
theorem dX12_rises_152 : decode cX12_rises 152 = .ok (.dup2, 1) := by decide +kernel
theorem dX12_rises_153 : decode cX12_rises 153 = .ok (.iaload, 1) := by decide +kernel
theorem dX12_rises_154 : decode cX12_rises 154 = .ok (.iload 5, 2) := by decide +kernel
theorem dX12_rises_156 : decode cX12_rises 156 = .ok (.isub, 1) := by decide +kernel
theorem dX12_rises_157 : decode cX12_rises 157 = .ok (.iastore, 1) := by decide +kernel
theorem dX12_rises_158 : decode cX12_rises 158 = .ok (.aload_n 0, 1) := by decide +kernel
theorem dX12_rises_159 : decode cX12_rises 159 = .ok (.getfield 13, 3) := by decide +kernel
theorem dX12_rises_162 : decode cX12_rises 162 = .ok (.iload_n 3, 1) := by decide +kernel
theorem dX12_rises_163 : decode cX12_rises 163 = .ok (.bipush 12, 2) := by decide +kernel
theorem dX12_rises_165 : decode cX12_rises 165 = .ok (.iadd, 1) := by decide +kernel
theorem dX12_rises_166 : decode cX12_rises 166 = .ok (.dup2, 1) := by decide +kernel
theorem dX12_rises_167 : decode cX12_rises 167 = .ok (.iaload, 1) := by decide +kernel
theorem dX12_rises_168 : decode cX12_rises 168 = .ok (.iload 6, 2) := by decide +kernel
theorem dX12_rises_170 : decode cX12_rises 170 = .ok (.isub, 1) := by decide +kernel
theorem dX12_rises_171 : decode cX12_rises 171 = .ok (.iastore, 1) := by decide +kernel
theorem dX12_rises_172 : decode cX12_rises 172 = .ok (.aload_n 0, 1) := by decide +kernel
theorem dX12_rises_173 : decode cX12_rises 173 = .ok (.getfield 13, 3) := by decide +kernel
theorem dX12_rises_176 : decode cX12_rises 176 = .ok (.iload_n 3, 1) := by decide +kernel
theorem dX12_rises_177 : decode cX12_rises 177 = .ok (.bipush 9, 2) := by decide +kernel
theorem dX12_rises_179 : decode cX12_rises 179 = .ok (.iadd, 1) := by decide +kernel
theorem dX12_rises_180 : decode cX12_rises 180 = .ok (.dup2, 1) := by decide +kernel
theorem dX12_rises_181 : decode cX12_rises 181 = .ok (.iaload, 1) := by decide +kernel
theorem dX12_rises_182 : decode cX12_rises 182 = .ok (.iload 5, 2) := by decide +kernel
theorem dX12_rises_184 : decode cX12_rises 184 = .ok (.iadd, 1) := by decide +kernel
theorem dX12_rises_185 : decode cX12_rises 185 = .ok (.iastore, 1) := by decide +kernel
theorem dX12_rises_186 : decode cX12_rises 186 = .ok (.aload_n 0, 1) := by decide +kernel
theorem dX12_rises_187 : decode cX12_rises 187 = .ok (.getfield 13, 3) := by decide +kernel
theorem dX12_rises_190 : decode cX12_rises 190 = .ok (.iload_n 3, 1) := by decide +kernel
theorem dX12_rises_191 : decode cX12_rises 191 = .ok (.bipush 10, 2) := by decide +kernel
theorem dX12_rises_193 : decode cX12_rises 193 = .ok (.iadd, 1) := by decide +kernel
theorem dX12_rises_194 : decode cX12_rises 194 = .ok (.dup2, 1) := by decide +kernel
theorem dX12_rises_195 : decode cX12_rises 195 = .ok (.iaload, 1) := by decide +kernel
theorem dX12_rises_196 : decode cX12_rises 196 = .ok (.iload 6, 2) := by decide +kernel
theorem dX12_rises_198 : decode cX12_rises 198 = .ok (.iadd, 1) := by decide +kernel
theorem dX12_rises_199 : decode cX12_rises 199 = .ok (.iastore, 1) := by decide +kernel
theorem dX12_rises_200 : decode cX12_rises 200 = .ok (.return_, 1) := by decide +kernel
theorem dX12_pulls_0 : decode cX12_pulls 0 = .ok (.aload_n 0, 1) := by decide +kernel
theorem dX12_pulls_1 : decode cX12_pulls 1 = .ok (.iload_n 1, 1) := by decide +kernel
theorem dX12_pulls_2 : decode cX12_pulls 2 = .ok (.iconst 2, 1) := by decide +kernel
theorem dX12_pulls_3 : decode cX12_pulls 3 = .ok (.invokevirtual 117, 3) := by decide +kernel
theorem dX12_pulls_6 : decode cX12_pulls 6 = .ok (.ifCond .eq 24, 3) := by decide +kernel
theorem dX12_pulls_9 : decode cX12_pulls 9 = .ok (.iload_n 2, 1) := by decide +kernel
theorem dX12_pulls_10 : decode cX12_pulls 10 = .ok (.aload_n 0, 1) := by decide +kernel
theorem dX12_pulls_11 : decode cX12_pulls 11 = .ok (.iload_n 1, 1) := by decide +kernel
theorem dX12_pulls_12 : decode cX12_pulls 12 = .ok (.iconst 3, 1) := by decide +kernel
theorem dX12_pulls_13 : decode cX12_pulls 13 = .ok (.invokevirtual 117, 3) := by decide +kernel
theorem dX12_pulls_16 : decode cX12_pulls 16 = .ok (.if_icmp .le 14, 3) := by decide +kernel
theorem dX12_pulls_19 : decode cX12_pulls 19 = .ok (.aload_n 0, 1) := by decide +kernel
theorem dX12_pulls_20 : decode cX12_pulls 20 = .ok (.iload_n 1, 1) := by decide +kernel
theorem dX12_pulls_21 : decode cX12_pulls 21 = .ok (.bipush 13, 2) := by decide +kernel
theorem dX12_pulls_23 : decode cX12_pulls 23 = .ok (.invokevirtual 117, 3) := by decide +kernel
theorem dX12_pulls_26 : decode cX12_pulls 26 = .ok (.iconst 1, 1) := by decide +kernel
theorem dX12_pulls_27 : decode cX12_pulls 27 = .ok (.if_icmp .ne 4, 3) := by decide +kernel
theorem dX12_pulls_30 : decode cX12_pulls 30 = .ok (.return_, 1) := by decide +kernel
theorem dX12_pulls_31 : decode cX12_pulls 31 = .ok (.aload_n 0, 1) := by decide +kernel
theorem dX12_pulls_32 : decode cX12_pulls 32 = .ok (.getfield 13, 3) := by decide +kernel
theorem dX12_pulls_35 : decode cX12_pulls 35 = .ok (.bipush 15, 2) := by decide +kernel
theorem dX12_pulls_37 : decode cX12_pulls 37 = .ok (.iload_n 1, 1) := by decide +kernel
theorem dX12_pulls_38 : decode cX12_pulls 38 = .ok (.imul, 1) := by decide +kernel
theorem dX12_pulls_39 : decode cX12_pulls 39 = .ok (.bipush 13, 2) := by decide +kernel
theorem dX12_pulls_41 : decode cX12_pulls 41 = .ok (.iadd, 1) := by decide +kernel
theorem dX12_pulls_42 : decode cX12_pulls 42 = .ok (.iconst 1, 1) := by decide +kernel
theorem dX12_pulls_43 : decode cX12_pulls 43 = .ok (.iastore, 1) := by decide +kernel
theorem dX12_pulls_44 : decode cX12_pulls 44 = .ok (.aload_n 0, 1) := by decide +kernel
theorem dX12_pulls_45 : decode cX12_pulls 45 = .ok (.iload_n 1, 1) := by decide +kernel
theorem dX12_pulls_46 : decode cX12_pulls 46 = .ok (.iconst 2, 1) := by decide +kernel
theorem dX12_pulls_47 : decode cX12_pulls 47 = .ok (.invokevirtual 117, 3) := by decide +kernel
theorem dX12_pulls_50 : decode cX12_pulls 50 = .ok (.iload_n 2, 1) := by decide +kernel
theorem dX12_pulls_51 : decode cX12_pulls 51 = .ok (.aload_n 0, 1) := by decide +kernel
theorem dX12_pulls_52 : decode cX12_pulls 52 = .ok (.iload_n 1, 1) := by decide +kernel
theorem dX12_pulls_53 : decode cX12_pulls 53 = .ok (.iconst 3, 1) := by decide +kernel
theorem dX12_pulls_54 : decode cX12_pulls 54 = .ok (.invokevirtual 117, 3) := by decide +kernel
theorem dX12_pulls_57 : decode cX12_pulls 57 = .ok (.isub, 1) := by decide +kernel
theorem dX12_pulls_58 : decode cX12_pulls 58 = .ok (.imul, 1) := by decide +kernel
theorem dX12_pulls_59 : decode cX12_pulls 59 = .ok (.istore_n 3, 1) := by decide +kernel
theorem dX12_pulls_60 : decode cX12_pulls 60 = .ok (.aload_n 0, 1) := by decide +kernel
theorem dX12_pulls_61 : decode cX12_pulls 61 = .ok (.iconst 1, 1) := by decide +kernel
theorem dX12_pulls_62 : decode cX12_pulls 62 = .ok (.iload_n 1, 1) := by decide +kernel
theorem dX12_pulls_63 : decode cX12_pulls 63 = .ok (.invokevirtual 217, 3) := by decide +kernel
theorem dX12_pulls_66 : decode cX12_pulls 66 = .ok (.ifCond .eq 18, 3) := by decide +kernel
theorem dX12_pulls_69 : decode cX12_pulls 69 = .ok (.aload_n 0, 1) := by decide +kernel
theorem dX12_pulls_70 : decode cX12_pulls 70 = .ok (.getfield 13, 3) := by decide +kernel
theorem dX12_pulls_73 : decode cX12_pulls 73 = .ok (.sipush 4312, 3) := by decide +kernel
theorem dX12_pulls_76 : decode cX12_pulls 76 = .ok (.dup2, 1) := by decide +kernel
theorem dX12_pulls_77 : decode cX12_pulls 77 = .ok (.iaload, 1) := by decide +kernel
theorem dX12_pulls_78 : decode cX12_pulls 78 = .ok (.iload_n 3, 1) := by decide +kernel
theorem dX12_pulls_79 : decode cX12_pulls 79 = .ok (.iadd, 1) := by decide +kernel
theorem dX12_pulls_80 : decode cX12_pulls 80 = .ok (.iastore, 1) := by decide +kernel
theorem dX12_pulls_81 : decode cX12_pulls 81 = .ok (.goto 15, 3) := by decide +kernel
theorem dX12_pulls_84 : decode cX12_pulls 84 = .ok (.aload_n 0, 1) := by decide +kernel
theorem dX12_pulls_85 : decode cX12_pulls 85 = .ok (.getfield 13, 3) := by decide +kernel
theorem dX12_pulls_88 : decode cX12_pulls 88 = .ok (.sipush 4313, 3) := by decide +kernel
theorem dX12_pulls_91 : decode cX12_pulls 91 = .ok (.dup2, 1) := by decide +kernel
theorem dX12_pulls_92 : decode cX12_pulls 92 = .ok (.iaload, 1) := by decide +kernel
theorem dX12_pulls_93 : decode cX12_pulls 93 = .ok (.iload_n 3, 1) := by decide +kernel
theorem dX12_pulls_94 : decode cX12_pulls 94 = .ok (.iadd, 1) := by decide +kernel
theorem dX12_pulls_95 : decode cX12_pulls 95 = .ok (.iastore, 1) := by decide +kernel
theorem dX12_pulls_96 : decode cX12_pulls 96 = .ok (.return_, 1) := by decide +kernel
theorem dX12_work_0 : decode cX12_work 0 = .ok (.aload_n 0, 1) := by decide +kernel
theorem dX12_work_1 : decode cX12_work 1 = .ok (.iload_n 1, 1) := by decide +kernel
theorem dX12_work_2 : decode cX12_work 2 = .ok (.iconst 3, 1) := by decide +kernel
theorem dX12_work_3 : decode cX12_work 3 = .ok (.invokevirtual 193, 3) := by decide +kernel
theorem dX12_work_6 : decode cX12_work 6 = .ok (.istore_n 2, 1) := by decide +kernel
theorem dX12_work_7 : decode cX12_work 7 = .ok (.iload_n 2, 1) := by decide +kernel
theorem dX12_work_8 : decode cX12_work 8 = .ok (.ifCond .le 11, 3) := by decide +kernel
theorem dX12_work_11 : decode cX12_work 11 = .ok (.aload_n 0, 1) := by decide +kernel
theorem dX12_work_12 : decode cX12_work 12 = .ok (.iload_n 1, 1) := by decide +kernel
theorem dX12_work_13 : decode cX12_work 13 = .ok (.invokevirtual 214, 3) := by decide +kernel
theorem dX12_work_16 : decode cX12_work 16 = .ok (.goto 4, 3) := by decide +kernel
theorem dX12_work_19 : decode cX12_work 19 = .ok (.iconst (-1), 1) := by decide +kernel
theorem dX12_work_20 : decode cX12_work 20 = .ok (.istore_n 3, 1) := by decide +kernel
theorem dX12_work_21 : decode cX12_work 21 = .ok (.iload_n 3, 1) := by decide +kernel
theorem dX12_work_22 : decode cX12_work 22 = .ok (.iconst (-1), 1) := by decide +kernel
theorem dX12_work_23 : decode cX12_work 23 = .ok (.if_icmp .ne 4, 3) := by decide +kernel
theorem dX12_work_26 : decode cX12_work 26 = .ok (.return_, 1) := by decide +kernel
theorem dX12_work_27 : decode cX12_work 27 = .ok (.aload_n 0, 1) := by decide +kernel
theorem dX12_work_28 : decode cX12_work 28 = .ok (.iload_n 1, 1) := by decide +kernel
theorem dX12_work_29 : decode cX12_work 29 = .ok (.iload_n 3, 1) := by decide +kernel
theorem dX12_work_30 : decode cX12_work 30 = .ok (.invokevirtual 185, 3) := by decide +kernel
theorem dX12_work_33 : decode cX12_work 33 = .ok (.istore 4, 2) := by decide +kernel
theorem dX12_work_35 : decode cX12_work 35 = .ok (.aload_n 0, 1) := by decide +kernel
theorem dX12_work_36 : decode cX12_work 36 = .ok (.getfield 13, 3) := by decide +kernel
theorem dX12_work_39 : decode cX12_work 39 = .ok (.iload 4, 2) := by decide +kernel
theorem dX12_work_41 : decode cX12_work 41 = .ok (.iconst 0, 1) := by decide +kernel
theorem dX12_work_42 : decode cX12_work 42 = .ok (.iadd, 1) := by decide +kernel
theorem dX12_work_43 : decode cX12_work 43 = .ok (.iaload, 1) := by decide +kernel
theorem dX12_work_44 : decode cX12_work 44 = .ok (.istore 5, 2) := by decide +kernel
theorem dX12_work_46 : decode cX12_work 46 = .ok (.aload_n 0, 1) := by decide +kernel
theorem dX12_work_47 : decode cX12_work 47 = .ok (.iconst 0, 1) := by decide +kernel
theorem dX12_work_48 : decode cX12_work 48 = .ok (.iload 5, 2) := by decide +kernel
theorem dX12_work_50 : decode cX12_work 50 = .ok (.invokevirtual 217, 3) := by decide +kernel
theorem dX12_work_53 : decode cX12_work 53 = .ok (.ifCond .ne 16, 3) := by decide +kernel
theorem dX12_work_56 : decode cX12_work 56 = .ok (.aload_n 0, 1) := by decide +kernel
theorem dX12_work_57 : decode cX12_work 57 = .ok (.getfield 13, 3) := by decide +kernel
theorem dX12_work_60 : decode cX12_work 60 = .ok (.sipush 4311, 3) := by decide +kernel
theorem dX12_work_63 : decode cX12_work 63 = .ok (.dup2, 1) := by decide +kernel
theorem dX12_work_64 : decode cX12_work 64 = .ok (.iaload, 1) := by decide +kernel
theorem dX12_work_65 : decode cX12_work 65 = .ok (.iload_n 2, 1) := by decide +kernel
theorem dX12_work_66 : decode cX12_work 66 = .ok (.iadd, 1) := by decide +kernel
theorem dX12_work_67 : decode cX12_work 67 = .ok (.iastore, 1) := by decide +kernel
theorem dX12_work_68 : decode cX12_work 68 = .ok (.return_, 1) := by decide +kernel
theorem dX12_work_69 : decode cX12_work 69 = .ok (.aload_n 0, 1) := by decide +kernel
theorem dX12_work_70 : decode cX12_work 70 = .ok (.iload 4, 2) := by decide +kernel
theorem dX12_work_72 : decode cX12_work 72 = .ok (.invokevirtual 196, 3) := by decide +kernel
theorem dX12_work_75 : decode cX12_work 75 = .ok (.istore 6, 2) := by decide +kernel
theorem dX12_work_77 : decode cX12_work 77 = .ok (.aload_n 0, 1) := by decide +kernel
theorem dX12_work_78 : decode cX12_work 78 = .ok (.getfield 13, 3) := by decide +kernel
theorem dX12_work_81 : decode cX12_work 81 = .ok (.iload 4, 2) := by decide +kernel
theorem dX12_work_83 : decode cX12_work 83 = .ok (.iconst 2, 1) := by decide +kernel
theorem dX12_work_84 : decode cX12_work 84 = .ok (.iadd, 1) := by decide +kernel
theorem dX12_work_85 : decode cX12_work 85 = .ok (.iaload, 1) := by decide +kernel
theorem dX12_work_86 : decode cX12_work 86 = .ok (.iload 6, 2) := by decide +kernel
theorem dX12_work_88 : decode cX12_work 88 = .ok (.if_icmp .ge 104, 3) := by decide +kernel
theorem dX12_work_91 : decode cX12_work 91 = .ok (.aload_n 0, 1) := by decide +kernel
theorem dX12_work_92 : decode cX12_work 92 = .ok (.getfield 13, 3) := by decide +kernel
theorem dX12_work_95 : decode cX12_work 95 = .ok (.iload 4, 2) := by decide +kernel
theorem dX12_work_97 : decode cX12_work 97 = .ok (.iconst 2, 1) := by decide +kernel
theorem dX12_work_98 : decode cX12_work 98 = .ok (.iadd, 1) := by decide +kernel
theorem dX12_work_99 : decode cX12_work 99 = .ok (.dup2, 1) := by decide +kernel
theorem dX12_work_100 : decode cX12_work 100 = .ok (.iaload, 1) := by decide +kernel
theorem dX12_work_101 : decode cX12_work 101 = .ok (.bipush 40, 2) := by decide +kernel
theorem dX12_work_103 : decode cX12_work 103 = .ok (.iload_n 2, 1) := by decide +kernel
theorem dX12_work_104 : decode cX12_work 104 = .ok (.imul, 1) := by decide +kernel
theorem dX12_work_105 : decode cX12_work 105 = .ok (.iadd, 1) := by decide +kernel
theorem dX12_work_106 : decode cX12_work 106 = .ok (.iastore, 1) := by decide +kernel
theorem dX12_work_107 : decode cX12_work 107 = .ok (.aload_n 0, 1) := by decide +kernel
theorem dX12_work_108 : decode cX12_work 108 = .ok (.getfield 13, 3) := by decide +kernel
theorem dX12_work_111 : decode cX12_work 111 = .ok (.iload 4, 2) := by decide +kernel
theorem dX12_work_113 : decode cX12_work 113 = .ok (.iconst 2, 1) := by decide +kernel
theorem dX12_work_114 : decode cX12_work 114 = .ok (.iadd, 1) := by decide +kernel
theorem dX12_work_115 : decode cX12_work 115 = .ok (.iaload, 1) := by decide +kernel
theorem dX12_work_116 : decode cX12_work 116 = .ok (.iload 6, 2) := by decide +kernel
theorem dX12_work_118 : decode cX12_work 118 = .ok (.if_icmp .ge 4, 3) := by decide +kernel
theorem dX12_work_121 : decode cX12_work 121 = .ok (.return_, 1) := by decide +kernel
theorem dX12_work_122 : decode cX12_work 122 = .ok (.aload_n 0, 1) := by decide +kernel
theorem dX12_work_123 : decode cX12_work 123 = .ok (.iload 4, 2) := by decide +kernel
theorem dX12_work_125 : decode cX12_work 125 = .ok (.invokevirtual 204, 3) := by decide +kernel
theorem dX12_work_128 : decode cX12_work 128 = .ok (.iconst 1, 1) := by decide +kernel
theorem dX12_work_129 : decode cX12_work 129 = .ok (.aload_n 0, 1) := by decide +kernel
theorem dX12_work_130 : decode cX12_work 130 = .ok (.iload 5, 2) := by decide +kernel
theorem dX12_work_132 : decode cX12_work 132 = .ok (.iconst 1, 1) := by decide +kernel
theorem dX12_work_133 : decode cX12_work 133 = .ok (.invokevirtual 117, 3) := by decide +kernel
theorem dX12_work_136 : decode cX12_work 136 = .ok (.iadd, 1) := by decide +kernel
theorem dX12_work_137 : decode cX12_work 137 = .ok (.imul, 1) := by decide +kernel
theorem dX12_work_138 : decode cX12_work 138 = .ok (.istore 7, 2) := by decide +kernel
theorem dX12_work_140 : decode cX12_work 140 = .ok (.aload_n 0, 1) := by decide +kernel
theorem dX12_work_141 : decode cX12_work 141 = .ok (.iload 5, 2) := by decide +kernel
theorem dX12_work_143 : decode cX12_work 143 = .ok (.iload 7, 2) := by decide +kernel
theorem dX12_work_145 : decode cX12_work 145 = .ok (.iconst 2, 1) := by decide +kernel
theorem dX12_work_146 : decode cX12_work 146 = .ok (.idiv, 1) := by decide +kernel
theorem dX12_work_147 : decode cX12_work 147 = .ok (.invokevirtual 220, 3) := by decide +kernel
theorem dX12_work_150 : decode cX12_work 150 = .ok (.iconst 0, 1) := by decide +kernel
theorem dX12_work_151 : decode cX12_work 151 = .ok (.istore 8, 2) := by decide +kernel
theorem dX12_work_153 : decode cX12_work 153 = .ok (.iload 8, 2) := by decide +kernel
theorem dX12_work_155 : decode cX12_work 155 = .ok (.iconst 4, 1) := by decide +kernel
theorem dX12_work_156 : decode cX12_work 156 = .ok (.if_icmp .ge 35, 3) := by decide +kernel
theorem dX12_work_159 : decode cX12_work 159 = .ok (.iload 5, 2) := by decide +kernel
theorem dX12_work_161 : decode cX12_work 161 = .ok (.iload 8, 2) := by decide +kernel
theorem dX12_work_163 : decode cX12_work 163 = .ok (.invokestatic 173, 3) := by decide +kernel
theorem dX12_work_166 : decode cX12_work 166 = .ok (.iconst (-1), 1) := by decide +kernel
theorem dX12_work_167 : decode cX12_work 167 = .ok (.if_icmp .eq 18, 3) := by decide +kernel
theorem dX12_work_170 : decode cX12_work 170 = .ok (.aload_n 0, 1) := by decide +kernel
theorem dX12_work_171 : decode cX12_work 171 = .ok (.iload 5, 2) := by decide +kernel
theorem dX12_work_173 : decode cX12_work 173 = .ok (.iload 8, 2) := by decide +kernel
theorem dX12_work_175 : decode cX12_work 175 = .ok (.invokestatic 173, 3) := by decide +kernel
theorem dX12_work_178 : decode cX12_work 178 = .ok (.iload 7, 2) := by decide +kernel
theorem dX12_work_180 : decode cX12_work 180 = .ok (.iconst 4, 1) := by decide +kernel
theorem dX12_work_181 : decode cX12_work 181 = .ok (.idiv, 1) := by decide +kernel
theorem dX12_work_182 : decode cX12_work 182 = .ok (.invokevirtual 220, 3) := by decide +kernel
theorem dX12_work_185 : decode cX12_work 185 = .ok (.iinc 8 1, 3) := by decide +kernel
theorem dX12_work_188 : decode cX12_work 188 = .ok (.goto (-35), 3) := by decide +kernel
theorem dX12_work_191 : decode cX12_work 191 = .ok (.return_, 1) := by decide +kernel
theorem dX12_work_192 : decode cX12_work 192 = .ok (.aload_n 0, 1) := by decide +kernel
theorem dX12_work_193 : decode cX12_work 193 = .ok (.iconst 1, 1) := by decide +kernel
theorem dX12_work_194 : decode cX12_work 194 = .ok (.invokevirtual 101, 3) := by decide +kernel
theorem dX12_work_197 : decode cX12_work 197 = .ok (.bipush 100, 2) := by decide +kernel
theorem dX12_work_199 : decode cX12_work 199 = .ok (.aload_n 0, 1) := by decide +kernel
theorem dX12_work_200 : decode cX12_work 200 = .ok (.iload_n 1, 1) := by decide +kernel
theorem dX12_work_201 : decode cX12_work 201 = .ok (.iconst 1, 1) := by decide +kernel
theorem dX12_work_202 : decode cX12_work 202 = .ok (.invokevirtual 193, 3) := by decide +kernel
theorem dX12_work_205 : decode cX12_work 205 = .ok (.imul, 1) := by decide +kernel
theorem dX12_work_206 : decode cX12_work 206 = .ok (.if_icmp .ge 16, 3) := by decide +kernel
theorem dX12_work_209 : decode cX12_work 209 = .ok (.aload_n 0, 1) := by decide +kernel
theorem dX12_work_210 : decode cX12_work 210 = .ok (.getfield 13, 3) := by decide +kernel
theorem dX12_work_213 : decode cX12_work 213 = .ok (.sipush 4311, 3) := by decide +kernel
theorem dX12_work_216 : decode cX12_work 216 = .ok (.dup2, 1) := by decide +kernel
theorem dX12_work_217 : decode cX12_work 217 = .ok (.iaload, 1) := by decide +kernel
theorem dX12_work_218 : decode cX12_work 218 = .ok (.iload_n 2, 1) := by decide +kernel
theorem dX12_work_219 : decode cX12_work 219 = .ok (.iadd, 1) := by decide +kernel
theorem dX12_work_220 : decode cX12_work 220 = .ok (.iastore, 1) := by decide +kernel
theorem dX12_work_221 : decode cX12_work 221 = .ok (.return_, 1) := by decide +kernel
theorem dX12_work_222 : decode cX12_work 222 = .ok (.aload_n 0, 1) := by decide +kernel
theorem dX12_work_223 : decode cX12_work 223 = .ok (.getfield 13, 3) := by decide +kernel
theorem dX12_work_226 : decode cX12_work 226 = .ok (.sipush 4301, 3) := by decide +kernel
theorem dX12_work_229 : decode cX12_work 229 = .ok (.dup2, 1) := by decide +kernel
theorem dX12_work_230 : decode cX12_work 230 = .ok (.iaload, 1) := by decide +kernel
theorem dX12_work_231 : decode cX12_work 231 = .ok (.bipush 100, 2) := by decide +kernel
theorem dX12_work_233 : decode cX12_work 233 = .ok (.aload_n 0, 1) := by decide +kernel
theorem dX12_work_234 : decode cX12_work 234 = .ok (.iload_n 1, 1) := by decide +kernel
theorem dX12_work_235 : decode cX12_work 235 = .ok (.iconst 1, 1) := by decide +kernel
theorem dX12_work_236 : decode cX12_work 236 = .ok (.invokevirtual 193, 3) := by decide +kernel
theorem dX12_work_239 : decode cX12_work 239 = .ok (.imul, 1) := by decide +kernel
theorem dX12_work_240 : decode cX12_work 240 = .ok (.isub, 1) := by decide +kernel
theorem dX12_work_241 : decode cX12_work 241 = .ok (.iastore, 1) := by decide +kernel
theorem dX12_work_242 : decode cX12_work 242 = .ok (.aload_n 0, 1) := by decide +kernel
theorem dX12_work_243 : decode cX12_work 243 = .ok (.getfield 13, 3) := by decide +kernel
theorem dX12_work_246 : decode cX12_work 246 = .ok (.iload 4, 2) := by decide +kernel
theorem dX12_work_248 : decode cX12_work 248 = .ok (.iconst 3, 1) := by decide +kernel
theorem dX12_work_249 : decode cX12_work 249 = .ok (.iadd, 1) := by decide +kernel
theorem dX12_work_250 : decode cX12_work 250 = .ok (.aload_n 0, 1) := by decide +kernel
theorem dX12_work_251 : decode cX12_work 251 = .ok (.invokevirtual 159, 3) := by decide +kernel
theorem dX12_work_254 : decode cX12_work 254 = .ok (.iastore, 1) := by decide +kernel
theorem dX12_work_255 : decode cX12_work 255 = .ok (.aload_n 0, 1) := by decide +kernel
theorem dX12_work_256 : decode cX12_work 256 = .ok (.getfield 13, 3) := by decide +kernel
theorem dX12_work_259 : decode cX12_work 259 = .ok (.iload 4, 2) := by decide +kernel
theorem dX12_work_261 : decode cX12_work 261 = .ok (.iconst 4, 1) := by decide +kernel
theorem dX12_work_262 : decode cX12_work 262 = .ok (.iadd, 1) := by decide +kernel
theorem dX12_work_263 : decode cX12_work 263 = .ok (.aload_n 0, 1) := by decide +kernel
theorem dX12_work_264 : decode cX12_work 264 = .ok (.iload 5, 2) := by decide +kernel
theorem dX12_work_266 : decode cX12_work 266 = .ok (.bipush 9, 2) := by decide +kernel
theorem dX12_work_268 : decode cX12_work 268 = .ok (.invokevirtual 117, 3) := by decide +kernel
theorem dX12_work_271 : decode cX12_work 271 = .ok (.aload_n 0, 1) := by decide +kernel
theorem dX12_work_272 : decode cX12_work 272 = .ok (.iload 5, 2) := by decide +kernel
theorem dX12_work_274 : decode cX12_work 274 = .ok (.bipush 10, 2) := by decide +kernel
theorem dX12_work_276 : decode cX12_work 276 = .ok (.invokevirtual 117, 3) := by decide +kernel
theorem dX12_work_279 : decode cX12_work 279 = .ok (.iadd, 1) := by decide +kernel
theorem dX12_work_280 : decode cX12_work 280 = .ok (.ifCond .le 7, 3) := by decide +kernel
theorem dX12_work_283 : decode cX12_work 283 = .ok (.iconst 1, 1) := by decide +kernel
theorem dX12_work_284 : decode cX12_work 284 = .ok (.goto 4, 3) := by decide +kernel
theorem dX12_work_287 : decode cX12_work 287 = .ok (.iconst 0, 1) := by decide +kernel
theorem dX12_work_288 : decode cX12_work 288 = .ok (.iastore, 1) := by decide +kernel
theorem dX12_work_289 : decode cX12_work 289 = .ok (.return_, 1) := by decide +kernel
theorem dX12_hour_0 : decode cX12_hour 0 = .ok (.aload_n 0, 1) := by decide +kernel
theorem dX12_hour_1 : decode cX12_hour 1 = .ok (.getfield 13, 3) := by decide +kernel
theorem dX12_hour_4 : decode cX12_hour 4 = .ok (.sipush 4300, 3) := by decide +kernel
theorem dX12_hour_7 : decode cX12_hour 7 = .ok (.dup2, 1) := by decide +kernel
theorem dX12_hour_8 : decode cX12_hour 8 = .ok (.iaload, 1) := by decide +kernel
theorem dX12_hour_9 : decode cX12_hour 9 = .ok (.iconst 1, 1) := by decide +kernel
theorem dX12_hour_10 : decode cX12_hour 10 = .ok (.iadd, 1) := by decide +kernel
theorem dX12_hour_11 : decode cX12_hour 11 = .ok (.iastore, 1) := by decide +kernel
theorem dX12_hour_12 : decode cX12_hour 12 = .ok (.iconst 0, 1) := by decide +kernel
theorem dX12_hour_13 : decode cX12_hour 13 = .ok (.istore_n 1, 1) := by decide +kernel
theorem dX12_hour_14 : decode cX12_hour 14 = .ok (.iload_n 1, 1) := by decide +kernel
theorem dX12_hour_15 : decode cX12_hour 15 = .ok (.bipush 100, 2) := by decide +kernel
theorem dX12_hour_17 : decode cX12_hour 17 = .ok (.if_icmp .ge 102, 3) := by decide +kernel
theorem dX12_hour_20 : decode cX12_hour 20 = .ok (.aload_n 0, 1) := by decide +kernel
theorem dX12_hour_21 : decode cX12_hour 21 = .ok (.iload_n 1, 1) := by decide +kernel
theorem dX12_hour_22 : decode cX12_hour 22 = .ok (.iconst 4, 1) := by decide +kernel
theorem dX12_hour_23 : decode cX12_hour 23 = .ok (.invokevirtual 117, 3) := by decide +kernel
theorem dX12_hour_26 : decode cX12_hour 26 = .ok (.iconst 1, 1) := by decide +kernel
theorem dX12_hour_27 : decode cX12_hour 27 = .ok (.if_icmp .ne 6, 3) := by decide +kernel
theorem dX12_hour_30 : decode cX12_hour 30 = .ok (.goto 83, 3) := by decide +kernel
theorem dX12_hour_33 : decode cX12_hour 33 = .ok (.aload_n 0, 1) := by decide +kernel
theorem dX12_hour_34 : decode cX12_hour 34 = .ok (.getfield 13, 3) := by decide +kernel
theorem dX12_hour_37 : decode cX12_hour 37 = .ok (.bipush 15, 2) := by decide +kernel
theorem dX12_hour_39 : decode cX12_hour 39 = .ok (.iload_n 1, 1) := by decide +kernel
theorem dX12_hour_40 : decode cX12_hour 40 = .ok (.imul, 1) := by decide +kernel
theorem dX12_hour_41 : decode cX12_hour 41 = .ok (.bipush 9, 2) := by decide +kernel
theorem dX12_hour_43 : decode cX12_hour 43 = .ok (.iadd, 1) := by decide +kernel
theorem dX12_hour_44 : decode cX12_hour 44 = .ok (.dup2, 1) := by decide +kernel
theorem dX12_hour_45 : decode cX12_hour 45 = .ok (.iaload, 1) := by decide +kernel
theorem dX12_hour_46 : decode cX12_hour 46 = .ok (.aload_n 0, 1) := by decide +kernel
theorem dX12_hour_47 : decode cX12_hour 47 = .ok (.iload_n 1, 1) := by decide +kernel
theorem dX12_hour_48 : decode cX12_hour 48 = .ok (.iconst 2, 1) := by decide +kernel
theorem dX12_hour_49 : decode cX12_hour 49 = .ok (.invokevirtual 117, 3) := by decide +kernel
theorem dX12_hour_52 : decode cX12_hour 52 = .ok (.bipush 100, 2) := by decide +kernel
theorem dX12_hour_54 : decode cX12_hour 54 = .ok (.idiv, 1) := by decide +kernel
theorem dX12_hour_55 : decode cX12_hour 55 = .ok (.iadd, 1) := by decide +kernel
theorem dX12_hour_56 : decode cX12_hour 56 = .ok (.iastore, 1) := by decide +kernel
theorem dX12_hour_57 : decode cX12_hour 57 = .ok (.aload_n 0, 1) := by decide +kernel
theorem dX12_hour_58 : decode cX12_hour 58 = .ok (.getfield 13, 3) := by decide +kernel
theorem dX12_hour_61 : decode cX12_hour 61 = .ok (.bipush 15, 2) := by decide +kernel
theorem dX12_hour_63 : decode cX12_hour 63 = .ok (.iload_n 1, 1) := by decide +kernel
theorem dX12_hour_64 : decode cX12_hour 64 = .ok (.imul, 1) := by decide +kernel
theorem dX12_hour_65 : decode cX12_hour 65 = .ok (.bipush 10, 2) := by decide +kernel
theorem dX12_hour_67 : decode cX12_hour 67 = .ok (.iadd, 1) := by decide +kernel
theorem dX12_hour_68 : decode cX12_hour 68 = .ok (.dup2, 1) := by decide +kernel
theorem dX12_hour_69 : decode cX12_hour 69 = .ok (.iaload, 1) := by decide +kernel
theorem dX12_hour_70 : decode cX12_hour 70 = .ok (.aload_n 0, 1) := by decide +kernel
theorem dX12_hour_71 : decode cX12_hour 71 = .ok (.iconst 3, 1) := by decide +kernel
theorem dX12_hour_72 : decode cX12_hour 72 = .ok (.invokevirtual 101, 3) := by decide +kernel
theorem dX12_hour_75 : decode cX12_hour 75 = .ok (.iadd, 1) := by decide +kernel
theorem dX12_hour_76 : decode cX12_hour 76 = .ok (.iastore, 1) := by decide +kernel
theorem dX12_hour_77 : decode cX12_hour 77 = .ok (.aload_n 0, 1) := by decide +kernel
theorem dX12_hour_78 : decode cX12_hour 78 = .ok (.getfield 13, 3) := by decide +kernel
theorem dX12_hour_81 : decode cX12_hour 81 = .ok (.sipush 4305, 3) := by decide +kernel
theorem dX12_hour_84 : decode cX12_hour 84 = .ok (.dup2, 1) := by decide +kernel
theorem dX12_hour_85 : decode cX12_hour 85 = .ok (.iaload, 1) := by decide +kernel
theorem dX12_hour_86 : decode cX12_hour 86 = .ok (.aload_n 0, 1) := by decide +kernel
theorem dX12_hour_87 : decode cX12_hour 87 = .ok (.iload_n 1, 1) := by decide +kernel
theorem dX12_hour_88 : decode cX12_hour 88 = .ok (.iconst 2, 1) := by decide +kernel
theorem dX12_hour_89 : decode cX12_hour 89 = .ok (.invokevirtual 117, 3) := by decide +kernel
theorem dX12_hour_92 : decode cX12_hour 92 = .ok (.bipush 100, 2) := by decide +kernel
theorem dX12_hour_94 : decode cX12_hour 94 = .ok (.idiv, 1) := by decide +kernel
theorem dX12_hour_95 : decode cX12_hour 95 = .ok (.iadd, 1) := by decide +kernel
theorem dX12_hour_96 : decode cX12_hour 96 = .ok (.iastore, 1) := by decide +kernel
theorem dX12_hour_97 : decode cX12_hour 97 = .ok (.aload_n 0, 1) := by decide +kernel
theorem dX12_hour_98 : decode cX12_hour 98 = .ok (.getfield 13, 3) := by decide +kernel
theorem dX12_hour_101 : decode cX12_hour 101 = .ok (.sipush 4306, 3) := by decide +kernel
theorem dX12_hour_104 : decode cX12_hour 104 = .ok (.dup2, 1) := by decide +kernel
theorem dX12_hour_105 : decode cX12_hour 105 = .ok (.iaload, 1) := by decide +kernel
theorem dX12_hour_106 : decode cX12_hour 106 = .ok (.aload_n 0, 1) := by decide +kernel
theorem dX12_hour_107 : decode cX12_hour 107 = .ok (.iconst 3, 1) := by decide +kernel
theorem dX12_hour_108 : decode cX12_hour 108 = .ok (.invokevirtual 101, 3) := by decide +kernel
theorem dX12_hour_111 : decode cX12_hour 111 = .ok (.iadd, 1) := by decide +kernel
theorem dX12_hour_112 : decode cX12_hour 112 = .ok (.iastore, 1) := by decide +kernel
theorem dX12_hour_113 : decode cX12_hour 113 = .ok (.iinc 1 1, 3) := by decide +kernel
theorem dX12_hour_116 : decode cX12_hour 116 = .ok (.goto (-102), 3) := by decide +kernel
theorem dX12_hour_119 : decode cX12_hour 119 = .ok (.aload_n 0, 1) := by decide +kernel
theorem dX12_hour_120 : decode cX12_hour 120 = .ok (.invokevirtual 236, 3) := by decide +kernel
theorem dX12_hour_123 : decode cX12_hour 123 = .ok (.iconst 0, 1) := by decide +kernel
theorem dX12_hour_124 : decode cX12_hour 124 = .ok (.istore_n 1, 1) := by decide +kernel
theorem dX12_hour_125 : decode cX12_hour 125 = .ok (.iload_n 1, 1) := by decide +kernel
theorem dX12_hour_126 : decode cX12_hour 126 = .ok (.bipush 100, 2) := by decide +kernel
theorem dX12_hour_128 : decode cX12_hour 128 = .ok (.if_icmp .ge 14, 3) := by decide +kernel
theorem dX12_hour_131 : decode cX12_hour 131 = .ok (.aload_n 0, 1) := by decide +kernel
theorem dX12_hour_132 : decode cX12_hour 132 = .ok (.iload_n 1, 1) := by decide +kernel
theorem dX12_hour_133 : decode cX12_hour 133 = .ok (.invokevirtual 255, 3) := by decide +kernel
theorem dX12_hour_136 : decode cX12_hour 136 = .ok (.iinc 1 1, 3) := by decide +kernel
theorem dX12_hour_139 : decode cX12_hour 139 = .ok (.goto (-14), 3) := by decide +kernel
theorem dX12_hour_142 : decode cX12_hour 142 = .ok (.iconst 0, 1) := by decide +kernel
theorem dX12_hour_143 : decode cX12_hour 143 = .ok (.istore_n 1, 1) := by decide +kernel
theorem dX12_hour_144 : decode cX12_hour 144 = .ok (.iload_n 1, 1) := by decide +kernel
theorem dX12_hour_145 : decode cX12_hour 145 = .ok (.bipush 100, 2) := by decide +kernel
theorem dX12_hour_147 : decode cX12_hour 147 = .ok (.if_icmp .ge 41, 3) := by decide +kernel
theorem dX12_hour_150 : decode cX12_hour 150 = .ok (.aload_n 0, 1) := by decide +kernel
theorem dX12_hour_151 : decode cX12_hour 151 = .ok (.getfield 36, 3) := by decide +kernel
theorem dX12_hour_154 : decode cX12_hour 154 = .ok (.iload_n 1, 1) := by decide +kernel
theorem dX12_hour_155 : decode cX12_hour 155 = .ok (.iaload, 1) := by decide +kernel
theorem dX12_hour_156 : decode cX12_hour 156 = .ok (.iconst (-1), 1) := by decide +kernel
theorem dX12_hour_157 : decode cX12_hour 157 = .ok (.if_icmp .eq 25, 3) := by decide +kernel
theorem dX12_hour_160 : decode cX12_hour 160 = .ok (.aload_n 0, 1) := by decide +kernel
theorem dX12_hour_161 : decode cX12_hour 161 = .ok (.aload_n 0, 1) := by decide +kernel
theorem dX12_hour_162 : decode cX12_hour 162 = .ok (.getfield 36, 3) := by decide +kernel
theorem dX12_hour_165 : decode cX12_hour 165 = .ok (.iload_n 1, 1) := by decide +kernel
theorem dX12_hour_166 : decode cX12_hour 166 = .ok (.iaload, 1) := by decide +kernel
theorem dX12_hour_167 : decode cX12_hour 167 = .ok (.aload_n 0, 1) := by decide +kernel
theorem dX12_hour_168 : decode cX12_hour 168 = .ok (.getfield 30, 3) := by decide +kernel
theorem dX12_hour_171 : decode cX12_hour 171 = .ok (.iload_n 1, 1) := by decide +kernel
theorem dX12_hour_172 : decode cX12_hour 172 = .ok (.iaload, 1) := by decide +kernel
theorem dX12_hour_173 : decode cX12_hour 173 = .ok (.aload_n 0, 1) := by decide +kernel
theorem dX12_hour_174 : decode cX12_hour 174 = .ok (.getfield 33, 3) := by decide +kernel
theorem dX12_hour_177 : decode cX12_hour 177 = .ok (.iload_n 1, 1) := by decide +kernel
theorem dX12_hour_178 : decode cX12_hour 178 = .ok (.iaload, 1) := by decide +kernel
theorem dX12_hour_179 : decode cX12_hour 179 = .ok (.invokevirtual 248, 3) := by decide +kernel
theorem dX12_hour_182 : decode cX12_hour 182 = .ok (.iinc 1 1, 3) := by decide +kernel
theorem dX12_hour_185 : decode cX12_hour 185 = .ok (.goto (-41), 3) := by decide +kernel
theorem dX12_hour_188 : decode cX12_hour 188 = .ok (.iconst 0, 1) := by decide +kernel
theorem dX12_hour_189 : decode cX12_hour 189 = .ok (.istore_n 1, 1) := by decide +kernel
theorem dX12_hour_190 : decode cX12_hour 190 = .ok (.iload_n 1, 1) := by decide +kernel
theorem dX12_hour_191 : decode cX12_hour 191 = .ok (.bipush 100, 2) := by decide +kernel
theorem dX12_hour_193 : decode cX12_hour 193 = .ok (.if_icmp .ge 14, 3) := by decide +kernel
theorem dX12_hour_196 : decode cX12_hour 196 = .ok (.aload_n 0, 1) := by decide +kernel
theorem dX12_hour_197 : decode cX12_hour 197 = .ok (.iload_n 1, 1) := by decide +kernel
theorem dX12_hour_198 : decode cX12_hour 198 = .ok (.invokevirtual 259, 3) := by decide +kernel
theorem dX12_hour_201 : decode cX12_hour 201 = .ok (.iinc 1 1, 3) := by decide +kernel
theorem dX12_hour_204 : decode cX12_hour 204 = .ok (.goto (-14), 3) := by decide +kernel
theorem dX12_hour_207 : decode cX12_hour 207 = .ok (.iconst 0, 1) := by decide +kernel
theorem dX12_hour_208 : decode cX12_hour 208 = .ok (.istore_n 1, 1) := by decide +kernel
theorem dX12_hour_209 : decode cX12_hour 209 = .ok (.iload_n 1, 1) := by decide +kernel
theorem dX12_hour_210 : decode cX12_hour 210 = .ok (.bipush 100, 2) := by decide +kernel
theorem dX12_hour_212 : decode cX12_hour 212 = .ok (.if_icmp .ge 14, 3) := by decide +kernel
theorem dX12_hour_215 : decode cX12_hour 215 = .ok (.aload_n 0, 1) := by decide +kernel
theorem dX12_hour_216 : decode cX12_hour 216 = .ok (.iload_n 1, 1) := by decide +kernel
theorem dX12_hour_217 : decode cX12_hour 217 = .ok (.invokevirtual 262, 3) := by decide +kernel
theorem dX12_hour_220 : decode cX12_hour 220 = .ok (.iinc 1 1, 3) := by decide +kernel
theorem dX12_hour_223 : decode cX12_hour 223 = .ok (.goto (-14), 3) := by decide +kernel
theorem dX12_hour_226 : decode cX12_hour 226 = .ok (.iconst 0, 1) := by decide +kernel
theorem dX12_hour_227 : decode cX12_hour 227 = .ok (.istore_n 1, 1) := by decide +kernel
theorem dX12_hour_228 : decode cX12_hour 228 = .ok (.iload_n 1, 1) := by decide +kernel
theorem dX12_hour_229 : decode cX12_hour 229 = .ok (.bipush 100, 2) := by decide +kernel
theorem dX12_hour_231 : decode cX12_hour 231 = .ok (.if_icmp .ge 14, 3) := by decide +kernel
theorem dX12_hour_234 : decode cX12_hour 234 = .ok (.aload_n 0, 1) := by decide +kernel
theorem dX12_hour_235 : decode cX12_hour 235 = .ok (.iload_n 1, 1) := by decide +kernel
theorem dX12_hour_236 : decode cX12_hour 236 = .ok (.invokevirtual 265, 3) := by decide +kernel
theorem dX12_hour_239 : decode cX12_hour 239 = .ok (.iinc 1 1, 3) := by decide +kernel
theorem dX12_hour_242 : decode cX12_hour 242 = .ok (.goto (-14), 3) := by decide +kernel
theorem dX12_hour_245 : decode cX12_hour 245 = .ok (.aload_n 0, 1) := by decide +kernel
theorem dX12_hour_246 : decode cX12_hour 246 = .ok (.iconst 0, 1) := by decide +kernel
theorem dX12_hour_247 : decode cX12_hour 247 = .ok (.invokevirtual 101, 3) := by decide +kernel
theorem dX12_hour_250 : decode cX12_hour 250 = .ok (.bipush 24, 2) := by decide +kernel
theorem dX12_hour_252 : decode cX12_hour 252 = .ok (.irem, 1) := by decide +kernel
theorem dX12_hour_253 : decode cX12_hour 253 = .ok (.ifCond .eq 4, 3) := by decide +kernel
theorem dX12_hour_256 : decode cX12_hour 256 = .ok (.return_, 1) := by decide +kernel
theorem dX12_hour_257 : decode cX12_hour 257 = .ok (.aload_n 0, 1) := by decide +kernel
theorem dX12_hour_258 : decode cX12_hour 258 = .ok (.getfield 13, 3) := by decide +kernel
theorem dX12_hour_261 : decode cX12_hour 261 = .ok (.sipush 4301, 3) := by decide +kernel
theorem dX12_hour_264 : decode cX12_hour 264 = .ok (.dup2, 1) := by decide +kernel
theorem dX12_hour_265 : decode cX12_hour 265 = .ok (.iaload, 1) := by decide +kernel
theorem dX12_hour_266 : decode cX12_hour 266 = .ok (.aload_n 0, 1) := by decide +kernel
theorem dX12_hour_267 : decode cX12_hour 267 = .ok (.iconst 2, 1) := by decide +kernel
theorem dX12_hour_268 : decode cX12_hour 268 = .ok (.invokevirtual 101, 3) := by decide +kernel
theorem dX12_hour_271 : decode cX12_hour 271 = .ok (.iadd, 1) := by decide +kernel
theorem dX12_hour_272 : decode cX12_hour 272 = .ok (.iastore, 1) := by decide +kernel
theorem dX12_hour_273 : decode cX12_hour 273 = .ok (.iconst 0, 1) := by decide +kernel
theorem dX12_hour_274 : decode cX12_hour 274 = .ok (.istore_n 1, 1) := by decide +kernel
theorem dX12_hour_275 : decode cX12_hour 275 = .ok (.iload_n 1, 1) := by decide +kernel
theorem dX12_hour_276 : decode cX12_hour 276 = .ok (.aload_n 0, 1) := by decide +kernel
theorem dX12_hour_277 : decode cX12_hour 277 = .ok (.bipush 15, 2) := by decide +kernel
theorem dX12_hour_279 : decode cX12_hour 279 = .ok (.invokevirtual 101, 3) := by decide +kernel
theorem dX12_hour_282 : decode cX12_hour 282 = .ok (.if_icmp .ge 14, 3) := by decide +kernel
theorem dX12_hour_285 : decode cX12_hour 285 = .ok (.aload_n 0, 1) := by decide +kernel
theorem dX12_hour_286 : decode cX12_hour 286 = .ok (.iload_n 1, 1) := by decide +kernel
theorem dX12_hour_287 : decode cX12_hour 287 = .ok (.invokevirtual 268, 3) := by decide +kernel
theorem dX12_hour_290 : decode cX12_hour 290 = .ok (.iinc 1 1, 3) := by decide +kernel
theorem dX12_hour_293 : decode cX12_hour 293 = .ok (.goto (-18), 3) := by decide +kernel
theorem dX12_hour_296 : decode cX12_hour 296 = .ok (.iconst 0, 1) := by decide +kernel
theorem dX12_hour_297 : decode cX12_hour 297 = .ok (.istore_n 1, 1) := by decide +kernel
theorem dX12_hour_298 : decode cX12_hour 298 = .ok (.iload_n 1, 1) := by decide +kernel
theorem dX12_hour_299 : decode cX12_hour 299 = .ok (.bipush 100, 2) := by decide +kernel
theorem dX12_hour_301 : decode cX12_hour 301 = .ok (.if_icmp .ge 14, 3) := by decide +kernel
theorem dX12_hour_304 : decode cX12_hour 304 = .ok (.aload_n 0, 1) := by decide +kernel
theorem dX12_hour_305 : decode cX12_hour 305 = .ok (.iload_n 1, 1) := by decide +kernel
theorem dX12_hour_306 : decode cX12_hour 306 = .ok (.invokevirtual 271, 3) := by decide +kernel
theorem dX12_hour_309 : decode cX12_hour 309 = .ok (.iinc 1 1, 3) := by decide +kernel
theorem dX12_hour_312 : decode cX12_hour 312 = .ok (.goto (-14), 3) := by decide +kernel
theorem dX12_hour_315 : decode cX12_hour 315 = .ok (.return_, 1) := by decide +kernel
theorem dX12_hours_0 : decode cX12_hours 0 = .ok (.aload_n 0, 1) := by decide +kernel
theorem dX12_hours_1 : decode cX12_hours 1 = .ok (.iconst 0, 1) := by decide +kernel
theorem dX12_hours_2 : decode cX12_hours 2 = .ok (.putfield 1, 3) := by decide +kernel
theorem dX12_hours_5 : decode cX12_hours 5 = .ok (.iload_n 1, 1) := by decide +kernel
theorem dX12_hours_6 : decode cX12_hours 6 = .ok (.i2l, 1) := by decide +kernel
theorem dX12_hours_7 : decode cX12_hours 7 = .ok (.lconst 1, 1) := by decide +kernel
theorem dX12_hours_8 : decode cX12_hours 8 = .ok (.ldc2_w 274, 3) := by decide +kernel
theorem dX12_hours_11 : decode cX12_hours 11 = .ok (.invokestatic 93, 3) := by decide +kernel
theorem dX12_hours_14 : decode cX12_hours 14 = .ok (.ifCond .ne 5, 3) := by decide +kernel
theorem dX12_hours_17 : decode cX12_hours 17 = .ok (.iconst (-1), 1) := by decide +kernel
theorem dX12_hours_18 : decode cX12_hours 18 = .ok (.ireturn, 1) := by decide +kernel
theorem dX12_hours_19 : decode cX12_hours 19 = .ok (.aload_n 0, 1) := by decide +kernel
theorem dX12_hours_20 : decode cX12_hours 20 = .ok (.iconst 0, 1) := by decide +kernel
theorem dX12_hours_21 : decode cX12_hours 21 = .ok (.invokevirtual 101, 3) := by decide +kernel
theorem dX12_hours_24 : decode cX12_hours 24 = .ok (.iload_n 1, 1) := by decide +kernel
theorem dX12_hours_25 : decode cX12_hours 25 = .ok (.iadd, 1) := by decide +kernel
theorem dX12_hours_26 : decode cX12_hours 26 = .ok (.ldc 229, 2) := by decide +kernel
theorem dX12_hours_28 : decode cX12_hours 28 = .ok (.if_icmp .le 6, 3) := by decide +kernel
theorem dX12_hours_31 : decode cX12_hours 31 = .ok (.bipush (-2), 2) := by decide +kernel
theorem dX12_hours_33 : decode cX12_hours 33 = .ok (.ireturn, 1) := by decide +kernel
theorem dX12_hours_34 : decode cX12_hours 34 = .ok (.iconst 0, 1) := by decide +kernel
theorem dX12_hours_35 : decode cX12_hours 35 = .ok (.istore_n 2, 1) := by decide +kernel
theorem dX12_hours_36 : decode cX12_hours 36 = .ok (.iload_n 2, 1) := by decide +kernel
theorem dX12_hours_37 : decode cX12_hours 37 = .ok (.iload_n 1, 1) := by decide +kernel
theorem dX12_hours_38 : decode cX12_hours 38 = .ok (.if_icmp .ge 13, 3) := by decide +kernel
theorem dX12_hours_41 : decode cX12_hours 41 = .ok (.aload_n 0, 1) := by decide +kernel
theorem dX12_hours_42 : decode cX12_hours 42 = .ok (.invokevirtual 276, 3) := by decide +kernel
theorem dX12_hours_45 : decode cX12_hours 45 = .ok (.iinc 2 1, 3) := by decide +kernel
theorem dX12_hours_48 : decode cX12_hours 48 = .ok (.goto (-12), 3) := by decide +kernel
theorem dX12_hours_51 : decode cX12_hours 51 = .ok (.aload_n 0, 1) := by decide +kernel
theorem dX12_hours_52 : decode cX12_hours 52 = .ok (.iconst 0, 1) := by decide +kernel
theorem dX12_hours_53 : decode cX12_hours 53 = .ok (.invokevirtual 101, 3) := by decide +kernel
theorem dX12_hours_56 : decode cX12_hours 56 = .ok (.ireturn, 1) := by decide +kernel
theorem dX12_house_0 : decode cX12_house 0 = .ok (.aload_n 0, 1) := by decide +kernel
theorem dX12_house_1 : decode cX12_house 1 = .ok (.iconst 0, 1) := by decide +kernel
theorem dX12_house_2 : decode cX12_house 2 = .ok (.putfield 1, 3) := by decide +kernel
theorem dX12_house_5 : decode cX12_house 5 = .ok (.iload_n 1, 1) := by decide +kernel
theorem dX12_house_6 : decode cX12_house 6 = .ok (.invokestatic 105, 3) := by decide +kernel
theorem dX12_house_9 : decode cX12_house 9 = .ok (.ifCond .eq 15, 3) := by decide +kernel
theorem dX12_house_12 : decode cX12_house 12 = .ok (.iload_n 2, 1) := by decide +kernel
theorem dX12_house_13 : decode cX12_house 13 = .ok (.i2l, 1) := by decide +kernel
theorem dX12_house_14 : decode cX12_house 14 = .ok (.lconst 0, 1) := by decide +kernel
theorem dX12_house_15 : decode cX12_house 15 = .ok (.ldc2_w 113, 3) := by decide +kernel
theorem dX12_house_18 : decode cX12_house 18 = .ok (.invokestatic 93, 3) := by decide +kernel
theorem dX12_house_21 : decode cX12_house 21 = .ok (.ifCond .ne 10, 3) := by decide +kernel
theorem dX12_house_24 : decode cX12_house 24 = .ok (.aload_n 0, 1) := by decide +kernel
theorem dX12_house_25 : decode cX12_house 25 = .ok (.iconst 1, 1) := by decide +kernel
theorem dX12_house_26 : decode cX12_house 26 = .ok (.putfield 1, 3) := by decide +kernel
theorem dX12_house_29 : decode cX12_house 29 = .ok (.iconst 0, 1) := by decide +kernel
theorem dX12_house_30 : decode cX12_house 30 = .ok (.ireturn, 1) := by decide +kernel
theorem dX12_house_31 : decode cX12_house 31 = .ok (.aload_n 0, 1) := by decide +kernel
theorem dX12_house_32 : decode cX12_house 32 = .ok (.iload_n 1, 1) := by decide +kernel
theorem dX12_house_33 : decode cX12_house 33 = .ok (.iconst 0, 1) := by decide +kernel
theorem dX12_house_34 : decode cX12_house 34 = .ok (.invokevirtual 226, 3) := by decide +kernel
theorem dX12_house_37 : decode cX12_house 37 = .ok (.iload_n 2, 1) := by decide +kernel
theorem dX12_house_38 : decode cX12_house 38 = .ok (.iconst 2, 1) := by decide +kernel
theorem dX12_house_39 : decode cX12_house 39 = .ok (.if_icmp .ge 7, 3) := by decide +kernel
theorem dX12_house_42 : decode cX12_house 42 = .ok (.iconst 2, 1) := by decide +kernel
theorem dX12_house_43 : decode cX12_house 43 = .ok (.goto 4, 3) := by decide +kernel
theorem dX12_house_46 : decode cX12_house 46 = .ok (.iconst 1, 1) := by decide +kernel
theorem dX12_house_47 : decode cX12_house 47 = .ok (.if_icmp .eq 10, 3) := by decide +kernel
theorem dX12_house_50 : decode cX12_house 50 = .ok (.aload_n 0, 1) := by decide +kernel
theorem dX12_house_51 : decode cX12_house 51 = .ok (.iconst 2, 1) := by decide +kernel
theorem dX12_house_52 : decode cX12_house 52 = .ok (.putfield 1, 3) := by decide +kernel
theorem dX12_house_55 : decode cX12_house 55 = .ok (.iconst 0, 1) := by decide +kernel
theorem dX12_house_56 : decode cX12_house 56 = .ok (.ireturn, 1) := by decide +kernel
theorem dX12_house_57 : decode cX12_house 57 = .ok (.aload_n 0, 1) := by decide +kernel
theorem dX12_house_58 : decode cX12_house 58 = .ok (.iload_n 1, 1) := by decide +kernel
theorem dX12_house_59 : decode cX12_house 59 = .ok (.iload_n 2, 1) := by decide +kernel
theorem dX12_house_60 : decode cX12_house 60 = .ok (.ifCond .ne 8, 3) := by decide +kernel
theorem dX12_house_63 : decode cX12_house 63 = .ok (.bipush 8, 2) := by decide +kernel
theorem dX12_house_65 : decode cX12_house 65 = .ok (.goto 23, 3) := by decide +kernel
theorem dX12_house_68 : decode cX12_house 68 = .ok (.iload_n 2, 1) := by decide +kernel
theorem dX12_house_69 : decode cX12_house 69 = .ok (.iconst 1, 1) := by decide +kernel
theorem dX12_house_70 : decode cX12_house 70 = .ok (.if_icmp .ne 8, 3) := by decide +kernel
theorem dX12_house_73 : decode cX12_house 73 = .ok (.bipush 9, 2) := by decide +kernel
theorem dX12_house_75 : decode cX12_house 75 = .ok (.goto 13, 3) := by decide +kernel
theorem dX12_house_78 : decode cX12_house 78 = .ok (.iload_n 2, 1) := by decide +kernel
theorem dX12_house_79 : decode cX12_house 79 = .ok (.iconst 2, 1) := by decide +kernel
theorem dX12_house_80 : decode cX12_house 80 = .ok (.if_icmp .ne 7, 3) := by decide +kernel
theorem dX12_house_83 : decode cX12_house 83 = .ok (.iconst 3, 1) := by decide +kernel
theorem dX12_house_84 : decode cX12_house 84 = .ok (.goto 4, 3) := by decide +kernel
theorem dX12_house_87 : decode cX12_house 87 = .ok (.iconst 4, 1) := by decide +kernel
theorem dX12_house_88 : decode cX12_house 88 = .ok (.invokevirtual 226, 3) := by decide +kernel
theorem dX12_house_91 : decode cX12_house 91 = .ok (.ireturn, 1) := by decide +kernel
theorem dX12_inForce_0 : decode cX12_inForce 0 = .ok (.aload_n 0, 1) := by decide +kernel
theorem dX12_inForce_1 : decode cX12_inForce 1 = .ok (.iconst 0, 1) := by decide +kernel
theorem dX12_inForce_2 : decode cX12_inForce 2 = .ok (.putfield 1, 3) := by decide +kernel
theorem dX12_inForce_5 : decode cX12_inForce 5 = .ok (.iload_n 1, 1) := by decide +kernel
theorem dX12_inForce_6 : decode cX12_inForce 6 = .ok (.i2l, 1) := by decide +kernel
theorem dX12_inForce_7 : decode cX12_inForce 7 = .ok (.lconst 0, 1) := by decide +kernel
theorem dX12_inForce_8 : decode cX12_inForce 8 = .ok (.ldc2_w 339, 3) := by decide +kernel
theorem dX12_inForce_11 : decode cX12_inForce 11 = .ok (.invokestatic 93, 3) := by decide +kernel
theorem dX12_inForce_14 : decode cX12_inForce 14 = .ok (.ifCond .eq 15, 3) := by decide +kernel
theorem dX12_inForce_17 : decode cX12_inForce 17 = .ok (.iload_n 2, 1) := by decide +kernel
theorem dX12_inForce_18 : decode cX12_inForce 18 = .ok (.i2l, 1) := by decide +kernel
theorem dX12_inForce_19 : decode cX12_inForce 19 = .ok (.lconst 0, 1) := by decide +kernel
theorem dX12_inForce_20 : decode cX12_inForce 20 = .ok (.ldc2_w 170, 3) := by decide +kernel
theorem dX12_inForce_23 : decode cX12_inForce 23 = .ok (.invokestatic 93, 3) := by decide +kernel
theorem dX12_inForce_26 : decode cX12_inForce 26 = .ok (.ifCond .ne 5, 3) := by decide +kernel
theorem dX12_inForce_29 : decode cX12_inForce 29 = .ok (.iconst (-1), 1) := by decide +kernel
theorem dX12_inForce_30 : decode cX12_inForce 30 = .ok (.ireturn, 1) := by decide +kernel
theorem dX12_inForce_31 : decode cX12_inForce 31 = .ok (.aload_n 0, 1) := by decide +kernel
theorem dX12_inForce_32 : decode cX12_inForce 32 = .ok (.iload_n 1, 1) := by decide +kernel
theorem dX12_inForce_33 : decode cX12_inForce 33 = .ok (.iload_n 2, 1) := by decide +kernel
theorem dX12_inForce_34 : decode cX12_inForce 34 = .ok (.invokevirtual 344, 3) := by decide +kernel
theorem dX12_inForce_37 : decode cX12_inForce 37 = .ok (.istore_n 3, 1) := by decide +kernel
theorem dX12_inForce_38 : decode cX12_inForce 38 = .ok (.iload_n 3, 1) := by decide +kernel
theorem dX12_inForce_39 : decode cX12_inForce 39 = .ok (.iconst (-1), 1) := by decide +kernel
theorem dX12_inForce_40 : decode cX12_inForce 40 = .ok (.if_icmp .ne 8, 3) := by decide +kernel
theorem dX12_inForce_43 : decode cX12_inForce 43 = .ok (.bipush (-9), 2) := by decide +kernel
theorem dX12_inForce_45 : decode cX12_inForce 45 = .ok (.goto 4, 3) := by decide +kernel
theorem dX12_inForce_48 : decode cX12_inForce 48 = .ok (.iload_n 3, 1) := by decide +kernel
theorem dX12_inForce_49 : decode cX12_inForce 49 = .ok (.ireturn, 1) := by decide +kernel
theorem dX12_judge_0 : decode cX12_judge 0 = .ok (.aload_n 0, 1) := by decide +kernel
theorem dX12_judge_1 : decode cX12_judge 1 = .ok (.iconst 0, 1) := by decide +kernel
theorem dX12_judge_2 : decode cX12_judge 2 = .ok (.putfield 1, 3) := by decide +kernel
theorem dX12_judge_5 : decode cX12_judge 5 = .ok (.iload_n 1, 1) := by decide +kernel
theorem dX12_judge_6 : decode cX12_judge 6 = .ok (.invokestatic 128, 3) := by decide +kernel
theorem dX12_judge_9 : decode cX12_judge 9 = .ok (.ifCond .eq 15, 3) := by decide +kernel
theorem dX12_judge_12 : decode cX12_judge 12 = .ok (.iload_n 2, 1) := by decide +kernel
theorem dX12_judge_13 : decode cX12_judge 13 = .ok (.i2l, 1) := by decide +kernel
theorem dX12_judge_14 : decode cX12_judge 14 = .ok (.lconst 0, 1) := by decide +kernel
theorem dX12_judge_15 : decode cX12_judge 15 = .ok (.ldc2_w 350, 3) := by decide +kernel
theorem dX12_judge_18 : decode cX12_judge 18 = .ok (.invokestatic 93, 3) := by decide +kernel
theorem dX12_judge_21 : decode cX12_judge 21 = .ok (.ifCond .ne 5, 3) := by decide +kernel
theorem dX12_judge_24 : decode cX12_judge 24 = .ok (.iconst (-1), 1) := by decide +kernel
theorem dX12_judge_25 : decode cX12_judge 25 = .ok (.ireturn, 1) := by decide +kernel
theorem dX12_judge_26 : decode cX12_judge 26 = .ok (.aload_n 0, 1) := by decide +kernel
theorem dX12_judge_27 : decode cX12_judge 27 = .ok (.getfield 63, 3) := by decide +kernel
theorem dX12_judge_30 : decode cX12_judge 30 = .ok (.iload_n 1, 1) := by decide +kernel
theorem dX12_judge_31 : decode cX12_judge 31 = .ok (.iaload, 1) := by decide +kernel
theorem dX12_judge_32 : decode cX12_judge 32 = .ok (.ifCond .ne 10, 3) := by decide +kernel
theorem dX12_judge_35 : decode cX12_judge 35 = .ok (.aload_n 0, 1) := by decide +kernel
theorem dX12_judge_36 : decode cX12_judge 36 = .ok (.bipush (-11), 2) := by decide +kernel
theorem dX12_judge_38 : decode cX12_judge 38 = .ok (.invokevirtual 131, 3) := by decide +kernel
theorem dX12_judge_41 : decode cX12_judge 41 = .ok (.ireturn, 1) := by decide +kernel
theorem dX12_judge_42 : decode cX12_judge 42 = .ok (.aload_n 0, 1) := by decide +kernel
theorem dX12_judge_43 : decode cX12_judge 43 = .ok (.getfield 63, 3) := by decide +kernel
theorem dX12_judge_46 : decode cX12_judge 46 = .ok (.iload_n 1, 1) := by decide +kernel
theorem dX12_judge_47 : decode cX12_judge 47 = .ok (.iaload, 1) := by decide +kernel
theorem dX12_judge_48 : decode cX12_judge 48 = .ok (.iconst 5, 1) := by decide +kernel
theorem dX12_judge_49 : decode cX12_judge 49 = .ok (.if_icmp .eq 10, 3) := by decide +kernel
theorem dX12_judge_52 : decode cX12_judge 52 = .ok (.aload_n 0, 1) := by decide +kernel
theorem dX12_judge_53 : decode cX12_judge 53 = .ok (.bipush (-12), 2) := by decide +kernel
theorem dX12_judge_55 : decode cX12_judge 55 = .ok (.invokevirtual 131, 3) := by decide +kernel
theorem dX12_judge_58 : decode cX12_judge 58 = .ok (.ireturn, 1) := by decide +kernel
theorem dX12_judge_59 : decode cX12_judge 59 = .ok (.iconst 0, 1) := by decide +kernel
theorem dX12_judge_60 : decode cX12_judge 60 = .ok (.istore_n 3, 1) := by decide +kernel
theorem dX12_judge_61 : decode cX12_judge 61 = .ok (.iconst 0, 1) := by decide +kernel
theorem dX12_judge_62 : decode cX12_judge 62 = .ok (.istore 4, 2) := by decide +kernel
theorem dX12_judge_64 : decode cX12_judge 64 = .ok (.iload 4, 2) := by decide +kernel
theorem dX12_judge_66 : decode cX12_judge 66 = .ok (.aload_n 0, 1) := by decide +kernel
theorem dX12_judge_67 : decode cX12_judge 67 = .ok (.bipush 15, 2) := by decide +kernel
theorem dX12_judge_69 : decode cX12_judge 69 = .ok (.invokevirtual 101, 3) := by decide +kernel
theorem dX12_judge_72 : decode cX12_judge 72 = .ok (.if_icmp .ge 63, 3) := by decide +kernel
theorem dX12_judge_75 : decode cX12_judge 75 = .ok (.iload 4, 2) := by decide +kernel
theorem dX12_judge_77 : decode cX12_judge 77 = .ok (.aload_n 0, 1) := by decide +kernel
theorem dX12_judge_78 : decode cX12_judge 78 = .ok (.getfield 66, 3) := by decide +kernel
theorem dX12_judge_81 : decode cX12_judge 81 = .ok (.iload_n 1, 1) := by decide +kernel
theorem dX12_judge_82 : decode cX12_judge 82 = .ok (.iaload, 1) := by decide +kernel
theorem dX12_judge_83 : decode cX12_judge 83 = .ok (.if_icmp .ge 52, 3) := by decide +kernel
theorem dX12_judge_86 : decode cX12_judge 86 = .ok (.iload_n 3, 1) := by decide +kernel
theorem dX12_judge_87 : decode cX12_judge 87 = .ok (.aload_n 0, 1) := by decide +kernel
theorem dX12_judge_88 : decode cX12_judge 88 = .ok (.getfield 69, 3) := by decide +kernel
theorem dX12_judge_91 : decode cX12_judge 91 = .ok (.bipush 100, 2) := by decide +kernel
theorem dX12_judge_93 : decode cX12_judge 93 = .ok (.iload_n 1, 1) := by decide +kernel
theorem dX12_judge_94 : decode cX12_judge 94 = .ok (.imul, 1) := by decide +kernel
theorem dX12_judge_95 : decode cX12_judge 95 = .ok (.iload 4, 2) := by decide +kernel
theorem dX12_judge_97 : decode cX12_judge 97 = .ok (.iadd, 1) := by decide +kernel
theorem dX12_judge_98 : decode cX12_judge 98 = .ok (.laload, 1) := by decide +kernel
theorem dX12_judge_99 : decode cX12_judge 99 = .ok (.lconst 0, 1) := by decide +kernel
theorem dX12_judge_100 : decode cX12_judge 100 = .ok (.lcmp, 1) := by decide +kernel
theorem dX12_judge_101 : decode cX12_judge 101 = .ok (.ifCond .eq 10, 3) := by decide +kernel
theorem dX12_judge_104 : decode cX12_judge 104 = .ok (.iconst 1, 1) := by decide +kernel
theorem dX12_judge_105 : decode cX12_judge 105 = .ok (.iload 4, 2) := by decide +kernel
theorem dX12_judge_107 : decode cX12_judge 107 = .ok (.ishl, 1) := by decide +kernel
theorem dX12_judge_108 : decode cX12_judge 108 = .ok (.goto 4, 3) := by decide +kernel
theorem dX12_judge_111 : decode cX12_judge 111 = .ok (.iconst 0, 1) := by decide +kernel
theorem dX12_judge_112 : decode cX12_judge 112 = .ok (.ior, 1) := by decide +kernel
theorem dX12_judge_113 : decode cX12_judge 113 = .ok (.istore_n 3, 1) := by decide +kernel
theorem dX12_judge_114 : decode cX12_judge 114 = .ok (.aload_n 0, 1) := by decide +kernel
theorem dX12_judge_115 : decode cX12_judge 115 = .ok (.iload_n 3, 1) := by decide +kernel
theorem dX12_judge_116 : decode cX12_judge 116 = .ok (.invokevirtual 355, 3) := by decide +kernel
theorem dX12_judge_119 : decode cX12_judge 119 = .ok (.iload_n 2, 1) := by decide +kernel
theorem dX12_judge_120 : decode cX12_judge 120 = .ok (.if_icmp .le 9, 3) := by decide +kernel
theorem dX12_judge_123 : decode cX12_judge 123 = .ok (.bipush (-100), 2) := by decide +kernel
theorem dX12_judge_125 : decode cX12_judge 125 = .ok (.iload 4, 2) := by decide +kernel
theorem dX12_judge_127 : decode cX12_judge 127 = .ok (.isub, 1) := by decide +kernel
theorem dX12_judge_128 : decode cX12_judge 128 = .ok (.ireturn, 1) := by decide +kernel
theorem dX12_judge_129 : decode cX12_judge 129 = .ok (.iinc 4 1, 3) := by decide +kernel
theorem dX12_judge_132 : decode cX12_judge 132 = .ok (.goto (-68), 3) := by decide +kernel
theorem dX12_judge_135 : decode cX12_judge 135 = .ok (.aload_n 0, 1) := by decide +kernel
theorem dX12_judge_136 : decode cX12_judge 136 = .ok (.getfield 66, 3) := by decide +kernel
theorem dX12_judge_139 : decode cX12_judge 139 = .ok (.iload_n 1, 1) := by decide +kernel
theorem dX12_judge_140 : decode cX12_judge 140 = .ok (.iaload, 1) := by decide +kernel
theorem dX12_judge_141 : decode cX12_judge 141 = .ok (.aload_n 0, 1) := by decide +kernel
theorem dX12_judge_142 : decode cX12_judge 142 = .ok (.bipush 15, 2) := by decide +kernel
theorem dX12_judge_144 : decode cX12_judge 144 = .ok (.invokevirtual 101, 3) := by decide +kernel
theorem dX12_judge_147 : decode cX12_judge 147 = .ok (.if_icmp .ge 12, 3) := by decide +kernel
theorem dX12_judge_150 : decode cX12_judge 150 = .ok (.aload_n 0, 1) := by decide +kernel
theorem dX12_judge_151 : decode cX12_judge 151 = .ok (.bipush (-13), 2) := by decide +kernel
theorem dX12_judge_153 : decode cX12_judge 153 = .ok (.invokevirtual 131, 3) := by decide +kernel
theorem dX12_judge_156 : decode cX12_judge 156 = .ok (.goto 8, 3) := by decide +kernel
theorem dX12_judge_159 : decode cX12_judge 159 = .ok (.aload_n 0, 1) := by decide +kernel
theorem dX12_judge_160 : decode cX12_judge 160 = .ok (.iload_n 3, 1) := by decide +kernel
theorem dX12_judge_161 : decode cX12_judge 161 = .ok (.invokevirtual 352, 3) := by decide +kernel
theorem dX12_judge_164 : decode cX12_judge 164 = .ok (.ireturn, 1) := by decide +kernel
theorem dX12_keep_0 : decode cX12_keep 0 = .ok (.aload_n 0, 1) := by decide +kernel
theorem dX12_keep_1 : decode cX12_keep 1 = .ok (.iconst 0, 1) := by decide +kernel
theorem dX12_keep_2 : decode cX12_keep 2 = .ok (.putfield 1, 3) := by decide +kernel
theorem dX12_keep_5 : decode cX12_keep 5 = .ok (.iload_n 1, 1) := by decide +kernel
theorem dX12_keep_6 : decode cX12_keep 6 = .ok (.invokestatic 128, 3) := by decide +kernel
theorem dX12_keep_9 : decode cX12_keep 9 = .ok (.ifCond .ne 5, 3) := by decide +kernel
theorem dX12_keep_12 : decode cX12_keep 12 = .ok (.iconst (-1), 1) := by decide +kernel
theorem dX12_keep_13 : decode cX12_keep 13 = .ok (.ireturn, 1) := by decide +kernel
theorem dX12_keep_14 : decode cX12_keep 14 = .ok (.aload_n 0, 1) := by decide +kernel
theorem dX12_keep_15 : decode cX12_keep 15 = .ok (.getfield 63, 3) := by decide +kernel
theorem dX12_keep_18 : decode cX12_keep 18 = .ok (.iload_n 1, 1) := by decide +kernel
theorem dX12_keep_19 : decode cX12_keep 19 = .ok (.bipush 6, 2) := by decide +kernel
theorem dX12_keep_21 : decode cX12_keep 21 = .ok (.iastore, 1) := by decide +kernel
theorem dX12_keep_22 : decode cX12_keep 22 = .ok (.aload_n 0, 1) := by decide +kernel
theorem dX12_keep_23 : decode cX12_keep 23 = .ok (.getfield 66, 3) := by decide +kernel
theorem dX12_keep_26 : decode cX12_keep 26 = .ok (.iload_n 1, 1) := by decide +kernel
theorem dX12_keep_27 : decode cX12_keep 27 = .ok (.iconst 0, 1) := by decide +kernel
theorem dX12_keep_28 : decode cX12_keep 28 = .ok (.iastore, 1) := by decide +kernel
theorem dX12_keep_29 : decode cX12_keep 29 = .ok (.iconst 0, 1) := by decide +kernel
theorem dX12_keep_30 : decode cX12_keep 30 = .ok (.istore_n 2, 1) := by decide +kernel
theorem dX12_keep_31 : decode cX12_keep 31 = .ok (.iload_n 2, 1) := by decide +kernel
theorem dX12_keep_32 : decode cX12_keep 32 = .ok (.sipush 4340, 3) := by decide +kernel
theorem dX12_keep_35 : decode cX12_keep 35 = .ok (.if_icmp .ge 27, 3) := by decide +kernel
theorem dX12_keep_38 : decode cX12_keep 38 = .ok (.aload_n 0, 1) := by decide +kernel
theorem dX12_keep_39 : decode cX12_keep 39 = .ok (.getfield 73, 3) := by decide +kernel
theorem dX12_keep_42 : decode cX12_keep 42 = .ok (.sipush 4340, 3) := by decide +kernel
theorem dX12_keep_45 : decode cX12_keep 45 = .ok (.iload_n 1, 1) := by decide +kernel
theorem dX12_keep_46 : decode cX12_keep 46 = .ok (.imul, 1) := by decide +kernel
theorem dX12_keep_47 : decode cX12_keep 47 = .ok (.iload_n 2, 1) := by decide +kernel
theorem dX12_keep_48 : decode cX12_keep 48 = .ok (.iadd, 1) := by decide +kernel
theorem dX12_keep_49 : decode cX12_keep 49 = .ok (.aload_n 0, 1) := by decide +kernel
theorem dX12_keep_50 : decode cX12_keep 50 = .ok (.getfield 13, 3) := by decide +kernel
theorem dX12_keep_53 : decode cX12_keep 53 = .ok (.iload_n 2, 1) := by decide +kernel
theorem dX12_keep_54 : decode cX12_keep 54 = .ok (.iaload, 1) := by decide +kernel
theorem dX12_keep_55 : decode cX12_keep 55 = .ok (.iastore, 1) := by decide +kernel
theorem dX12_keep_56 : decode cX12_keep 56 = .ok (.iinc 2 1, 3) := by decide +kernel
theorem dX12_keep_59 : decode cX12_keep 59 = .ok (.goto (-28), 3) := by decide +kernel
theorem dX12_keep_62 : decode cX12_keep 62 = .ok (.aload_n 0, 1) := by decide +kernel
theorem dX12_keep_63 : decode cX12_keep 63 = .ok (.iconst 0, 1) := by decide +kernel
theorem dX12_keep_64 : decode cX12_keep 64 = .ok (.invokevirtual 101, 3) := by decide +kernel
theorem dX12_keep_67 : decode cX12_keep 67 = .ok (.ireturn, 1) := by decide +kernel
theorem dX12_kiln_0 : decode cX12_kiln 0 = .ok (.aload_n 0, 1) := by decide +kernel
theorem dX12_kiln_1 : decode cX12_kiln 1 = .ok (.iconst 0, 1) := by decide +kernel
theorem dX12_kiln_2 : decode cX12_kiln 2 = .ok (.putfield 1, 3) := by decide +kernel
theorem dX12_kiln_5 : decode cX12_kiln 5 = .ok (.iload_n 1, 1) := by decide +kernel
theorem dX12_kiln_6 : decode cX12_kiln 6 = .ok (.i2l, 1) := by decide +kernel
theorem dX12_kiln_7 : decode cX12_kiln 7 = .ok (.lconst 0, 1) := by decide +kernel
theorem dX12_kiln_8 : decode cX12_kiln 8 = .ok (.ldc2_w 115, 3) := by decide +kernel
theorem dX12_kiln_11 : decode cX12_kiln 11 = .ok (.invokestatic 93, 3) := by decide +kernel
theorem dX12_kiln_14 : decode cX12_kiln 14 = .ok (.ifCond .ne 5, 3) := by decide +kernel
theorem dX12_kiln_17 : decode cX12_kiln 17 = .ok (.iconst (-1), 1) := by decide +kernel
theorem dX12_kiln_18 : decode cX12_kiln 18 = .ok (.ireturn, 1) := by decide +kernel
theorem dX12_kiln_19 : decode cX12_kiln 19 = .ok (.aload_n 0, 1) := by decide +kernel
theorem dX12_kiln_20 : decode cX12_kiln 20 = .ok (.iconst 2, 1) := by decide +kernel
theorem dX12_kiln_21 : decode cX12_kiln 21 = .ok (.invokevirtual 101, 3) := by decide +kernel
theorem dX12_kiln_24 : decode cX12_kiln 24 = .ok (.istore_n 2, 1) := by decide +kernel
theorem dX12_kiln_25 : decode cX12_kiln 25 = .ok (.aload_n 0, 1) := by decide +kernel
theorem dX12_kiln_26 : decode cX12_kiln 26 = .ok (.getfield 13, 3) := by decide +kernel
theorem dX12_kiln_29 : decode cX12_kiln 29 = .ok (.sipush 4302, 3) := by decide +kernel
theorem dX12_kiln_32 : decode cX12_kiln 32 = .ok (.iload_n 1, 1) := by decide +kernel
theorem dX12_kiln_33 : decode cX12_kiln 33 = .ok (.iastore, 1) := by decide +kernel
theorem dX12_kiln_34 : decode cX12_kiln 34 = .ok (.iload_n 2, 1) := by decide +kernel
theorem dX12_kiln_35 : decode cX12_kiln 35 = .ok (.ireturn, 1) := by decide +kernel
theorem dX12_holdOf_0 : decode cX12_holdOf 0 = .ok (.aload_n 0, 1) := by decide +kernel
theorem dX12_holdOf_1 : decode cX12_holdOf 1 = .ok (.invokevirtual 236, 3) := by decide +kernel
theorem dX12_holdOf_4 : decode cX12_holdOf 4 = .ok (.aload_n 0, 1) := by decide +kernel
theorem dX12_holdOf_5 : decode cX12_holdOf 5 = .ok (.iload_n 1, 1) := by decide +kernel
theorem dX12_holdOf_6 : decode cX12_holdOf 6 = .ok (.invokevirtual 239, 3) := by decide +kernel
theorem dX12_holdOf_9 : decode cX12_holdOf 9 = .ok (.ireturn, 1) := by decide +kernel
theorem dX12_lasts_0 : decode cX12_lasts 0 = .ok (.aload_n 0, 1) := by decide +kernel
theorem dX12_lasts_1 : decode cX12_lasts 1 = .ok (.iconst 0, 1) := by decide +kernel
theorem dX12_lasts_2 : decode cX12_lasts 2 = .ok (.putfield 1, 3) := by decide +kernel
theorem dX12_lasts_5 : decode cX12_lasts 5 = .ok (.iload_n 1, 1) := by decide +kernel
theorem dX12_lasts_6 : decode cX12_lasts 6 = .ok (.invokestatic 105, 3) := by decide +kernel
theorem dX12_lasts_9 : decode cX12_lasts 9 = .ok (.ifCond .eq 7, 3) := by decide +kernel
theorem dX12_lasts_12 : decode cX12_lasts 12 = .ok (.iload_n 2, 1) := by decide +kernel
theorem dX12_lasts_13 : decode cX12_lasts 13 = .ok (.ifCond .ge 5, 3) := by decide +kernel
theorem dX12_lasts_16 : decode cX12_lasts 16 = .ok (.iconst (-1), 1) := by decide +kernel
theorem dX12_lasts_17 : decode cX12_lasts 17 = .ok (.ireturn, 1) := by decide +kernel
theorem dX12_lasts_18 : decode cX12_lasts 18 = .ok (.aload_n 0, 1) := by decide +kernel
theorem dX12_lasts_19 : decode cX12_lasts 19 = .ok (.iload_n 1, 1) := by decide +kernel
theorem dX12_lasts_20 : decode cX12_lasts 20 = .ok (.invokevirtual 122, 3) := by decide +kernel
theorem dX12_lasts_23 : decode cX12_lasts 23 = .ok (.aload_n 0, 1) := by decide +kernel
theorem dX12_lasts_24 : decode cX12_lasts 24 = .ok (.iload_n 1, 1) := by decide +kernel
theorem dX12_lasts_25 : decode cX12_lasts 25 = .ok (.bipush 9, 2) := by decide +kernel
theorem dX12_lasts_27 : decode cX12_lasts 27 = .ok (.invokevirtual 117, 3) := by decide +kernel
theorem dX12_lasts_30 : decode cX12_lasts 30 = .ok (.isub, 1) := by decide +kernel
theorem dX12_lasts_31 : decode cX12_lasts 31 = .ok (.aload_n 0, 1) := by decide +kernel
theorem dX12_lasts_32 : decode cX12_lasts 32 = .ok (.iload_n 1, 1) := by decide +kernel
theorem dX12_lasts_33 : decode cX12_lasts 33 = .ok (.bipush 10, 2) := by decide +kernel
theorem dX12_lasts_35 : decode cX12_lasts 35 = .ok (.invokevirtual 117, 3) := by decide +kernel
theorem dX12_lasts_38 : decode cX12_lasts 38 = .ok (.isub, 1) := by decide +kernel
theorem dX12_lasts_39 : decode cX12_lasts 39 = .ok (.istore_n 3, 1) := by decide +kernel
theorem dX12_lasts_40 : decode cX12_lasts 40 = .ok (.iload_n 3, 1) := by decide +kernel
theorem dX12_lasts_41 : decode cX12_lasts 41 = .ok (.ifCond .gt 5, 3) := by decide +kernel
theorem dX12_lasts_44 : decode cX12_lasts 44 = .ok (.iconst 0, 1) := by decide +kernel
theorem dX12_lasts_45 : decode cX12_lasts 45 = .ok (.ireturn, 1) := by decide +kernel
theorem dX12_lasts_46 : decode cX12_lasts 46 = .ok (.iload_n 2, 1) := by decide +kernel
theorem dX12_lasts_47 : decode cX12_lasts 47 = .ok (.ifCond .ne 10, 3) := by decide +kernel
theorem dX12_lasts_50 : decode cX12_lasts 50 = .ok (.aload_n 0, 1) := by decide +kernel
theorem dX12_lasts_51 : decode cX12_lasts 51 = .ok (.bipush (-16), 2) := by decide +kernel
theorem dX12_lasts_53 : decode cX12_lasts 53 = .ok (.invokevirtual 131, 3) := by decide +kernel
theorem dX12_lasts_56 : decode cX12_lasts 56 = .ok (.ireturn, 1) := by decide +kernel
theorem dX12_lasts_57 : decode cX12_lasts 57 = .ok (.iload_n 3, 1) := by decide +kernel
theorem dX12_lasts_58 : decode cX12_lasts 58 = .ok (.i2l, 1) := by decide +kernel
theorem dX12_lasts_59 : decode cX12_lasts 59 = .ok (.iload_n 2, 1) := by decide +kernel
theorem dX12_lasts_60 : decode cX12_lasts 60 = .ok (.i2l, 1) := by decide +kernel
theorem dX12_lasts_61 : decode cX12_lasts 61 = .ok (.ladd, 1) := by decide +kernel
theorem dX12_lasts_62 : decode cX12_lasts 62 = .ok (.lconst 1, 1) := by decide +kernel
theorem dX12_lasts_63 : decode cX12_lasts 63 = .ok (.lsub, 1) := by decide +kernel
theorem dX12_lasts_64 : decode cX12_lasts 64 = .ok (.iload_n 2, 1) := by decide +kernel
theorem dX12_lasts_65 : decode cX12_lasts 65 = .ok (.i2l, 1) := by decide +kernel
theorem dX12_lasts_66 : decode cX12_lasts 66 = .ok (.ldiv, 1) := by decide +kernel
theorem dX12_lasts_67 : decode cX12_lasts 67 = .ok (.l2i, 1) := by decide +kernel
theorem dX12_lasts_68 : decode cX12_lasts 68 = .ok (.ireturn, 1) := by decide +kernel
set_option maxHeartbeats 4000000 in
set_option maxRecDepth 100000 in
theorem xX12_rises_e {K : KT} {v1 : Int32} {w : Wd} {r : Wd} (G : GK K cX12_rises RX12 7 5) (M : Main K.ks) (hf : fX12_rises v1 w = some r) (hr : RV K r) : XW K 0 [some (.ref 148), some (.int v1), none, none, none, none, none] [] w := by
  unfold fX12_rises at hf
  refine x_aload_n G dX12_rises_0 rfl rfl ?_
  refine x_iload_n G dX12_rises_1 rfl rfl ?_
  refine x_bipush G (v := 9) dX12_rises_2 (by decide) ?_
  obtain ⟨v_1, hv_1, hf⟩ := bnd hf
  refine x_virI G (As := [.int v1, .int (9 : Int32)]) (mX12_c G.2.2.2.2.2.2.1 M hv_1) mv_X12_117 (kd148 M) cl12 rfl rfl rfl rfl rfl dX12_rises_4 ?_
  refine x_aload_n G dX12_rises_7 rfl rfl ?_
  refine x_iload_n G dX12_rises_8 rfl rfl ?_
  refine x_bipush G (v := 10) dX12_rises_9 (by decide) ?_
  obtain ⟨v_2, hv_2, hf⟩ := bnd hf
  refine x_virI G (As := [.int v1, .int (10 : Int32)]) (mX12_c G.2.2.2.2.2.2.1 M hv_2) mv_X12_117 (kd148 M) cl12 rfl rfl rfl rfl rfl dX12_rises_11 ?_
  refine x_iadd G dX12_rises_14 ?_
  refine x_aload_n G dX12_rises_15 rfl rfl ?_
  refine x_iload_n G dX12_rises_16 rfl rfl ?_
  obtain ⟨v_3, hv_3, hf⟩ := bnd hf
  refine x_virI G (As := [.int v1]) (mX12_hold G.2.2.2.2.2.2.1 M hv_3) mv_X12_239 (kd148 M) cl12 rfl rfl rfl rfl rfl dX12_rises_17 ?_
  refine x_isub G dX12_rises_20 ?_
  refine x_istore_n G (lv' := [some (.ref 148), some (.int v1), some (.int ((v_1 + v_2) - v_3.1)), none, none, none, none]) dX12_rises_21 rfl rfl rfl rfl ?_
  refine x_bipush G (v := 15) dX12_rises_22 (by decide) ?_
  refine x_iload_n G dX12_rises_24 rfl rfl ?_
  refine x_imul G dX12_rises_25 ?_
  refine x_istore_n G (lv' := [some (.ref 148), some (.int v1), some (.int ((v_1 + v_2) - v_3.1)), some (.int ((15 : Int32) * v1)), none, none, none]) dX12_rises_26 rfl rfl rfl rfl ?_
  refine x_iload_n G dX12_rises_27 rfl rfl ?_
  refine x_ifle G (tgt := 105) dX12_rises_28 (by decide) hf (fun c_4 hf => ?_) (fun c_4 hf => ?_)
  · refine x_aload_n G dX12_rises_31 rfl rfl ?_
    refine x_iload_n G dX12_rises_32 rfl rfl ?_
    refine x_bipush G (v := 10) dX12_rises_33 (by decide) ?_
    obtain ⟨v_5, hv_5, hf⟩ := bnd hf
    refine x_virI G (As := [.int v1, .int (10 : Int32)]) (mX12_c G.2.2.2.2.2.2.1 M hv_5) mv_X12_117 (kd148 M) cl12 rfl rfl rfl rfl rfl dX12_rises_35 ?_
    refine x_iload_n G dX12_rises_38 rfl rfl ?_
    obtain ⟨v_6, hv_6, hf⟩ := bnd hf
    refine x_staI G (As := [.int v_5, .int ((v_1 + v_2) - v_3.1)]) (mX12_least G.2.2.2.2.2.2.1 M hv_6) ms_X12_245 rfl rfl rfl rfl rfl dX12_rises_39 ?_
    refine x_istore G (lv' := [some (.ref 148), some (.int v1), some (.int ((v_1 + v_2) - v_3.1)), some (.int ((15 : Int32) * v1)), some (.int v_6), none, none]) dX12_rises_42 rfl rfl rfl ?_
    refine x_aload_n G dX12_rises_44 rfl rfl ?_
    refine x_getR G (kd148 M) 1 (b := 149) rfl cl12 rfl wf_X12_13 dX12_rises_45 ?_
    refine x_iload_n G dX12_rises_48 rfl rfl ?_
    refine x_bipush G (v := 10) dX12_rises_49 (by decide) ?_
    refine x_iadd G dX12_rises_51 ?_
    refine x_dup2 G dX12_rises_52 rfl rfl ?_
    refine x_iald G (kd149 M) dX12_rises_53 hf (fun hb_7 hf => ?_)
    refine x_iload G dX12_rises_54 rfl ?_
    refine x_isub G dX12_rises_56 ?_
    refine x_iast0 G (kd149 M) dX12_rises_57 hb_7 ?_
    refine nwr hf (fun w_8 hf => ?_)
    refine x_aload_n G dX12_rises_58 rfl rfl ?_
    refine x_getR G (kd148 M) 1 (b := 149) rfl cl12 rfl wf_X12_13 dX12_rises_59 ?_
    refine x_iload_n G dX12_rises_62 rfl rfl ?_
    refine x_bipush G (v := 12) dX12_rises_63 (by decide) ?_
    refine x_iadd G dX12_rises_65 ?_
    refine x_dup2 G dX12_rises_66 rfl rfl ?_
    refine x_iald G (kd149 M) dX12_rises_67 hf (fun hb_9 hf => ?_)
    refine x_iload G dX12_rises_68 rfl ?_
    refine x_iadd G dX12_rises_70 ?_
    refine x_iast0 G (kd149 M) dX12_rises_71 hb_9 ?_
    refine nwr hf (fun w_10 hf => ?_)
    refine x_aload_n G dX12_rises_72 rfl rfl ?_
    refine x_getR G (kd148 M) 1 (b := 149) rfl cl12 rfl wf_X12_13 dX12_rises_73 ?_
    refine x_iload_n G dX12_rises_76 rfl rfl ?_
    refine x_bipush G (v := 9) dX12_rises_77 (by decide) ?_
    refine x_iadd G dX12_rises_79 ?_
    refine x_dup2 G dX12_rises_80 rfl rfl ?_
    refine x_iald G (kd149 M) dX12_rises_81 hf (fun hb_11 hf => ?_)
    refine x_iload_n G dX12_rises_82 rfl rfl ?_
    refine x_iload G dX12_rises_83 rfl ?_
    refine x_isub G dX12_rises_85 ?_
    refine x_isub G dX12_rises_86 ?_
    refine x_iast0 G (kd149 M) dX12_rises_87 hb_11 ?_
    refine nwr hf (fun w_12 hf => ?_)
    refine x_aload_n G dX12_rises_88 rfl rfl ?_
    refine x_getR G (kd148 M) 1 (b := 149) rfl cl12 rfl wf_X12_13 dX12_rises_89 ?_
    refine x_iload_n G dX12_rises_92 rfl rfl ?_
    refine x_bipush G (v := 11) dX12_rises_93 (by decide) ?_
    refine x_iadd G dX12_rises_95 ?_
    refine x_dup2 G dX12_rises_96 rfl rfl ?_
    refine x_iald G (kd149 M) dX12_rises_97 hf (fun hb_13 hf => ?_)
    refine x_iload_n G dX12_rises_98 rfl rfl ?_
    refine x_iload G dX12_rises_99 rfl ?_
    refine x_isub G dX12_rises_101 ?_
    refine x_iadd G dX12_rises_102 ?_
    refine x_iast0 G (kd149 M) dX12_rises_103 hb_13 ?_
    refine nwr hf (fun w_14 hf => ?_)
    exact x_vretW G hf hr dX12_rises_104
  · refine x_iload_n G dX12_rises_105 rfl rfl ?_
    refine x_ineg G dX12_rises_106 ?_
    refine x_iconst G (v := 5) dX12_rises_107 (by decide) ?_
    obtain ⟨v_15, hv_15, hf⟩ := bnd hf
    refine x_staI G (As := [.int (-((v_1 + v_2) - v_3.1)), .int (5 : Int32)]) (mX12_least G.2.2.2.2.2.2.1 M hv_15) ms_X12_245 rfl rfl rfl rfl rfl dX12_rises_108 ?_
    refine x_istore G (lv' := [some (.ref 148), some (.int v1), some (.int ((v_1 + v_2) - v_3.1)), some (.int ((15 : Int32) * v1)), some (.int v_15), none, none]) dX12_rises_111 rfl rfl rfl ?_
    refine x_aload_n G dX12_rises_113 rfl rfl ?_
    refine x_iload_n G dX12_rises_114 rfl rfl ?_
    refine x_bipush G (v := 11) dX12_rises_115 (by decide) ?_
    obtain ⟨v_16, hv_16, hf⟩ := bnd hf
    refine x_virI G (As := [.int v1, .int (11 : Int32)]) (mX12_c G.2.2.2.2.2.2.1 M hv_16) mv_X12_117 (kd148 M) cl12 rfl rfl rfl rfl rfl dX12_rises_117 ?_
    refine x_iload G dX12_rises_120 rfl ?_
    obtain ⟨v_17, hv_17, hf⟩ := bnd hf
    refine x_staI G (As := [.int v_16, .int v_15]) (mX12_least G.2.2.2.2.2.2.1 M hv_17) ms_X12_245 rfl rfl rfl rfl rfl dX12_rises_122 ?_
    refine x_istore G (lv' := [some (.ref 148), some (.int v1), some (.int ((v_1 + v_2) - v_3.1)), some (.int ((15 : Int32) * v1)), some (.int v_15), some (.int v_17), none]) dX12_rises_125 rfl rfl rfl ?_
    refine x_aload_n G dX12_rises_127 rfl rfl ?_
    refine x_iload_n G dX12_rises_128 rfl rfl ?_
    refine x_bipush G (v := 12) dX12_rises_129 (by decide) ?_
    obtain ⟨v_18, hv_18, hf⟩ := bnd hf
    refine x_virI G (As := [.int v1, .int (12 : Int32)]) (mX12_c G.2.2.2.2.2.2.1 M hv_18) mv_X12_117 (kd148 M) cl12 rfl rfl rfl rfl rfl dX12_rises_131 ?_
    refine x_iload G dX12_rises_134 rfl ?_
    refine x_iload G dX12_rises_136 rfl ?_
    refine x_isub G dX12_rises_138 ?_
    obtain ⟨v_19, hv_19, hf⟩ := bnd hf
    refine x_staI G (As := [.int v_18, .int (v_15 - v_17)]) (mX12_least G.2.2.2.2.2.2.1 M hv_19) ms_X12_245 rfl rfl rfl rfl rfl dX12_rises_139 ?_
    refine x_istore G (lv' := [some (.ref 148), some (.int v1), some (.int ((v_1 + v_2) - v_3.1)), some (.int ((15 : Int32) * v1)), some (.int v_15), some (.int v_17), some (.int v_19)]) dX12_rises_142 rfl rfl rfl ?_
    refine x_aload_n G dX12_rises_144 rfl rfl ?_
    refine x_getR G (kd148 M) 1 (b := 149) rfl cl12 rfl wf_X12_13 dX12_rises_145 ?_
    refine x_iload_n G dX12_rises_148 rfl rfl ?_
    refine x_bipush G (v := 11) dX12_rises_149 (by decide) ?_
    refine x_iadd G dX12_rises_151 ?_
    refine x_dup2 G dX12_rises_152 rfl rfl ?_
    refine x_iald G (kd149 M) dX12_rises_153 hf (fun hb_20 hf => ?_)
    refine x_iload G dX12_rises_154 rfl ?_
    refine x_isub G dX12_rises_156 ?_
    refine x_iast0 G (kd149 M) dX12_rises_157 hb_20 ?_
    refine nwr hf (fun w_21 hf => ?_)
    refine x_aload_n G dX12_rises_158 rfl rfl ?_
    refine x_getR G (kd148 M) 1 (b := 149) rfl cl12 rfl wf_X12_13 dX12_rises_159 ?_
    refine x_iload_n G dX12_rises_162 rfl rfl ?_
    refine x_bipush G (v := 12) dX12_rises_163 (by decide) ?_
    refine x_iadd G dX12_rises_165 ?_
    refine x_dup2 G dX12_rises_166 rfl rfl ?_
    refine x_iald G (kd149 M) dX12_rises_167 hf (fun hb_22 hf => ?_)
    refine x_iload G dX12_rises_168 rfl ?_
    refine x_isub G dX12_rises_170 ?_
    refine x_iast0 G (kd149 M) dX12_rises_171 hb_22 ?_
    refine nwr hf (fun w_23 hf => ?_)
    refine x_aload_n G dX12_rises_172 rfl rfl ?_
    refine x_getR G (kd148 M) 1 (b := 149) rfl cl12 rfl wf_X12_13 dX12_rises_173 ?_
    refine x_iload_n G dX12_rises_176 rfl rfl ?_
    refine x_bipush G (v := 9) dX12_rises_177 (by decide) ?_
    refine x_iadd G dX12_rises_179 ?_
    refine x_dup2 G dX12_rises_180 rfl rfl ?_
    refine x_iald G (kd149 M) dX12_rises_181 hf (fun hb_24 hf => ?_)
    refine x_iload G dX12_rises_182 rfl ?_
    refine x_iadd G dX12_rises_184 ?_
    refine x_iast0 G (kd149 M) dX12_rises_185 hb_24 ?_
    refine nwr hf (fun w_25 hf => ?_)
    refine x_aload_n G dX12_rises_186 rfl rfl ?_
    refine x_getR G (kd148 M) 1 (b := 149) rfl cl12 rfl wf_X12_13 dX12_rises_187 ?_
    refine x_iload_n G dX12_rises_190 rfl rfl ?_
    refine x_bipush G (v := 10) dX12_rises_191 (by decide) ?_
    refine x_iadd G dX12_rises_193 ?_
    refine x_dup2 G dX12_rises_194 rfl rfl ?_
    refine x_iald G (kd149 M) dX12_rises_195 hf (fun hb_26 hf => ?_)
    refine x_iload G dX12_rises_196 rfl ?_
    refine x_iadd G dX12_rises_198 ?_
    refine x_iast0 G (kd149 M) dX12_rises_199 hb_26 ?_
    refine nwr hf (fun w_27 hf => ?_)
    exact x_vretW G hf hr dX12_rises_200

theorem mX12_rises {l : Launch} {S : KS} {w : Wd} (hI : Inj S) (M : Main S) {v1 : Int32} {r : Wd} (hf : fX12_rises v1 w = some r) : CV l yX12_rises cX12_rises 7 none 5 S [.ref 148, .int v1] w r := by
  intro sz
  refine mk_entry rfl (by decide +kernel) hI 5 rfl rfl (fun K h1 h2 h3 h4 h5 h6 G => ?_)
  subst h2
  exact xX12_rises_e G M hf ⟨h3, by rw [h4, h6], h5⟩

set_option maxHeartbeats 4000000 in
set_option maxRecDepth 100000 in
theorem xX12_pulls_e {K : KT} {v1 : Int32} {v2 : Int32} {w : Wd} {r : Wd} (G : GK K cX12_pulls RX12 4 203) (M : Main K.ks) (hf : fX12_pulls v1 v2 w = some r) (hr : RV K r) : XW K 0 [some (.ref 148), some (.int v1), some (.int v2), none] [] w := by
  unfold fX12_pulls at hf
  refine x_aload_n G dX12_pulls_0 rfl rfl ?_
  refine x_iload_n G dX12_pulls_1 rfl rfl ?_
  refine x_iconst G (v := 2) dX12_pulls_2 (by decide) ?_
  obtain ⟨v_1, hv_1, hf⟩ := bnd hf
  refine x_virI G (As := [.int v1, .int (2 : Int32)]) (mX12_c G.2.2.2.2.2.2.1 M hv_1) mv_X12_117 (kd148 M) cl12 rfl rfl rfl rfl rfl dX12_pulls_3 ?_
  refine x_ifeq G (tgt := 30) dX12_pulls_6 (by decide) hf (fun c_2 hf => ?_) (fun c_2 hf => ?_)
  · exact x_vretW G hf hr dX12_pulls_30
  · refine x_iload_n G dX12_pulls_9 rfl rfl ?_
    refine x_aload_n G dX12_pulls_10 rfl rfl ?_
    refine x_iload_n G dX12_pulls_11 rfl rfl ?_
    refine x_iconst G (v := 3) dX12_pulls_12 (by decide) ?_
    obtain ⟨v_3, hv_3, hf⟩ := bnd hf
    refine x_virI G (As := [.int v1, .int (3 : Int32)]) (mX12_c G.2.2.2.2.2.2.1 M hv_3) mv_X12_117 (kd148 M) cl12 rfl rfl rfl rfl rfl dX12_pulls_13 ?_
    refine x_icmple G (tgt := 30) dX12_pulls_16 (by decide) hf (fun c_4 hf => ?_) (fun c_4 hf => ?_)
    · refine x_aload_n G dX12_pulls_19 rfl rfl ?_
      refine x_iload_n G dX12_pulls_20 rfl rfl ?_
      refine x_bipush G (v := 13) dX12_pulls_21 (by decide) ?_
      obtain ⟨v_5, hv_5, hf⟩ := bnd hf
      refine x_virI G (As := [.int v1, .int (13 : Int32)]) (mX12_c G.2.2.2.2.2.2.1 M hv_5) mv_X12_117 (kd148 M) cl12 rfl rfl rfl rfl rfl dX12_pulls_23 ?_
      refine x_iconst G (v := 1) dX12_pulls_26 (by decide) ?_
      refine x_icmpne G (tgt := 31) dX12_pulls_27 (by decide) hf (fun c_6 hf => ?_) (fun c_6 hf => ?_)
      · exact x_vretW G hf hr dX12_pulls_30
      · refine x_aload_n G dX12_pulls_31 rfl rfl ?_
        refine x_getR G (kd148 M) 1 (b := 149) rfl cl12 rfl wf_X12_13 dX12_pulls_32 ?_
        refine x_bipush G (v := 15) dX12_pulls_35 (by decide) ?_
        refine x_iload_n G dX12_pulls_37 rfl rfl ?_
        refine x_imul G dX12_pulls_38 ?_
        refine x_bipush G (v := 13) dX12_pulls_39 (by decide) ?_
        refine x_iadd G dX12_pulls_41 ?_
        refine x_iconst G (v := 1) dX12_pulls_42 (by decide) ?_
        refine x_iast G (kd149 M) dX12_pulls_43 hf (fun hb_7 hf => ?_)
        refine nwr hf (fun w_8 hf => ?_)
        refine x_aload_n G dX12_pulls_44 rfl rfl ?_
        refine x_iload_n G dX12_pulls_45 rfl rfl ?_
        refine x_iconst G (v := 2) dX12_pulls_46 (by decide) ?_
        obtain ⟨v_9, hv_9, hf⟩ := bnd hf
        refine x_virI G (As := [.int v1, .int (2 : Int32)]) (mX12_c G.2.2.2.2.2.2.1 M hv_9) mv_X12_117 (kd148 M) cl12 rfl rfl rfl rfl rfl dX12_pulls_47 ?_
        refine x_iload_n G dX12_pulls_50 rfl rfl ?_
        refine x_aload_n G dX12_pulls_51 rfl rfl ?_
        refine x_iload_n G dX12_pulls_52 rfl rfl ?_
        refine x_iconst G (v := 3) dX12_pulls_53 (by decide) ?_
        obtain ⟨v_10, hv_10, hf⟩ := bnd hf
        refine x_virI G (As := [.int v1, .int (3 : Int32)]) (mX12_c G.2.2.2.2.2.2.1 M hv_10) mv_X12_117 (kd148 M) cl12 rfl rfl rfl rfl rfl dX12_pulls_54 ?_
        refine x_isub G dX12_pulls_57 ?_
        refine x_imul G dX12_pulls_58 ?_
        refine x_istore_n G (lv' := [some (.ref 148), some (.int v1), some (.int v2), some (.int (v_9 * (v2 - v_10)))]) dX12_pulls_59 rfl rfl rfl rfl ?_
        refine x_aload_n G dX12_pulls_60 rfl rfl ?_
        refine x_iconst G (v := 1) dX12_pulls_61 (by decide) ?_
        refine x_iload_n G dX12_pulls_62 rfl rfl ?_
        obtain ⟨v_11, hv_11, hf⟩ := bnd hf
        refine x_virI G (As := [.int (1 : Int32), .int v1]) (mX12_isHeld G.2.2.2.2.2.2.1 M hv_11) mv_X12_217 (kd148 M) cl12 rfl rfl rfl rfl rfl dX12_pulls_63 ?_
        refine x_ifeqB G (tgt := 84) dX12_pulls_66 (by decide) hf (fun c_12 hf => ?_) (fun c_12 hf => ?_)
        · refine x_aload_n G dX12_pulls_69 rfl rfl ?_
          refine x_getR G (kd148 M) 1 (b := 149) rfl cl12 rfl wf_X12_13 dX12_pulls_70 ?_
          refine x_sipush G (v := 4312) dX12_pulls_73 (by decide) ?_
          refine x_dup2 G dX12_pulls_76 rfl rfl ?_
          refine x_iald0 G (kd149 M) dX12_pulls_77 (by decide) ?_
          refine x_iload_n G dX12_pulls_78 rfl rfl ?_
          refine x_iadd G dX12_pulls_79 ?_
          refine x_iast0 G (kd149 M) dX12_pulls_80 (by decide) ?_
          refine nwr hf (fun w_13 hf => ?_)
          refine x_goto G (tgt := 96) dX12_pulls_81 (by decide) ?_
          exact x_vretW G hf hr dX12_pulls_96
        · refine x_aload_n G dX12_pulls_84 rfl rfl ?_
          refine x_getR G (kd148 M) 1 (b := 149) rfl cl12 rfl wf_X12_13 dX12_pulls_85 ?_
          refine x_sipush G (v := 4313) dX12_pulls_88 (by decide) ?_
          refine x_dup2 G dX12_pulls_91 rfl rfl ?_
          refine x_iald0 G (kd149 M) dX12_pulls_92 (by decide) ?_
          refine x_iload_n G dX12_pulls_93 rfl rfl ?_
          refine x_iadd G dX12_pulls_94 ?_
          refine x_iast0 G (kd149 M) dX12_pulls_95 (by decide) ?_
          refine nwr hf (fun w_14 hf => ?_)
          exact x_vretW G hf hr dX12_pulls_96
    · exact x_vretW G hf hr dX12_pulls_30

theorem mX12_pulls {l : Launch} {S : KS} {w : Wd} (hI : Inj S) (M : Main S) {v1 : Int32} {v2 : Int32} {r : Wd} (hf : fX12_pulls v1 v2 w = some r) : CV l yX12_pulls cX12_pulls 4 none 203 S [.ref 148, .int v1, .int v2] w r := by
  intro sz
  refine mk_entry rfl (by decide +kernel) hI 1 rfl rfl (fun K h1 h2 h3 h4 h5 h6 G => ?_)
  subst h2
  exact xX12_pulls_e G M hf ⟨h3, by rw [h4, h6], h5⟩

set_option maxHeartbeats 4000000 in
set_option maxRecDepth 100000 in
theorem xX12_work_153 {K : KT} {r : Wd} (G : GK K cX12_work RX12 9 204) (M : Main K.ks) (hr : RV K r) : ∀ (n : Nat) (v5 : Int32) (v7 : Int32) (v8 : Int32) (w : Wd), fX12_work_153 n v5 v7 v8 w = some r → XW K 153 [some (.ref 148), none, none, none, none, some (.int v5), none, some (.int v7), some (.int v8)] [] w := by
  intro n
  induction n with
  | zero =>
    intro v5 v7 v8 w hf
    unfold fX12_work_153 at hf
    cases hf
  | succ n ih =>
    intro v5 v7 v8 w hf
    unfold fX12_work_153 at hf
    refine x_iload G dX12_work_153 rfl ?_
    refine x_iconst G (v := 4) dX12_work_155 (by decide) ?_
    refine x_icmpge G (tgt := 191) dX12_work_156 (by decide) hf (fun c_1 hf => ?_) (fun c_1 hf => ?_)
    · refine x_iload G dX12_work_159 rfl ?_
      refine x_iload G dX12_work_161 rfl ?_
      obtain ⟨v_2, hv_2, hf⟩ := bnd hf
      refine x_staI G (As := [.int v5, .int v8]) (mX12_beside G.2.2.2.2.2.2.1 M hv_2) ms_X12_173 rfl rfl rfl rfl rfl dX12_work_163 ?_
      refine x_iconst G (v := -1) dX12_work_166 (by decide) ?_
      refine x_icmpeq G (tgt := 185) dX12_work_167 (by decide) hf (fun c_3 hf => ?_) (fun c_3 hf => ?_)
      · refine x_iinc G (lv' := [some (.ref 148), none, none, none, none, some (.int v5), none, some (.int v7), some (.int (v8 + (1 : Int32)))]) (v := 1) dX12_work_185 rfl (by decide) rfl rfl rfl ?_
        refine x_goto G (tgt := 153) dX12_work_188 (by decide) ?_
        exact XW.sub (lv' := [some (.ref 148), none, none, none, none, some (.int v5), none, some (.int v7), some (.int (v8 + (1 : Int32)))]) (And.intro rfl (And.intro rfl (And.intro rfl (And.intro rfl trivial)))) (ih _ _ _ _ hf)
      · refine x_aload_n G dX12_work_170 rfl rfl ?_
        refine x_iload G dX12_work_171 rfl ?_
        refine x_iload G dX12_work_173 rfl ?_
        obtain ⟨v_4, hv_4, hf⟩ := bnd hf
        refine x_staI G (As := [.int v5, .int v8]) (mX12_beside G.2.2.2.2.2.2.1 M hv_4) ms_X12_173 rfl rfl rfl rfl rfl dX12_work_175 ?_
        refine x_iload G dX12_work_178 rfl ?_
        refine x_iconst G (v := 4) dX12_work_180 (by decide) ?_
        refine x_idiv G dX12_work_181 (by decide) ?_
        obtain ⟨v_5, hv_5, hf⟩ := bnd hf
        refine x_virV G (As := [.int v_4, .int (v7 / (4 : Int32))]) (mX12_pulls G.2.2.2.2.2.2.1 M hv_5) mv_X12_220 (kd148 M) cl12 rfl rfl rfl rfl rfl dX12_work_182 ?_
        refine x_iinc G (lv' := [some (.ref 148), none, none, none, none, some (.int v5), none, some (.int v7), some (.int (v8 + (1 : Int32)))]) (v := 1) dX12_work_185 rfl (by decide) rfl rfl rfl ?_
        refine x_goto G (tgt := 153) dX12_work_188 (by decide) ?_
        exact XW.sub (lv' := [some (.ref 148), none, none, none, none, some (.int v5), none, some (.int v7), some (.int (v8 + (1 : Int32)))]) (And.intro rfl (And.intro rfl (And.intro rfl (And.intro rfl trivial)))) (ih _ _ _ _ hf)
    · exact x_vretW G hf hr dX12_work_191

set_option maxHeartbeats 4000000 in
set_option maxRecDepth 100000 in
theorem xX12_work_288 {K : KT} {s1 : Int32} {s2 : Int32} {w : Wd} {r : Wd} (G : GK K cX12_work RX12 9 204) (M : Main K.ks) (hf : fX12_work_288 s1 s2 w = some r) (hr : RV K r) : XW K 288 [none, none, none, none, none, none, none, none, none] [.int s2, .int s1, .ref 149] w := by
  unfold fX12_work_288 at hf
  refine x_iast G (kd149 M) dX12_work_288 hf (fun hb_1 hf => ?_)
  refine nwr hf (fun w_2 hf => ?_)
  exact x_vretW G hf hr dX12_work_289

set_option maxHeartbeats 4000000 in
set_option maxRecDepth 100000 in
theorem xX12_work_20 {K : KT} {v1 : Int32} {v2 : Int32} {s0 : Int32} {w : Wd} {r : Wd} (G : GK K cX12_work RX12 9 204) (M : Main K.ks) (hf : fX12_work_20 v1 v2 s0 w = some r) (hr : RV K r) : XW K 20 [some (.ref 148), some (.int v1), some (.int v2), none, none, none, none, none, none] [.int s0] w := by
  unfold fX12_work_20 at hf
  refine x_istore_n G (lv' := [some (.ref 148), some (.int v1), some (.int v2), some (.int s0), none, none, none, none, none]) dX12_work_20 rfl rfl rfl rfl ?_
  refine x_iload_n G dX12_work_21 rfl rfl ?_
  refine x_iconst G (v := -1) dX12_work_22 (by decide) ?_
  refine x_icmpne G (tgt := 27) dX12_work_23 (by decide) hf (fun c_1 hf => ?_) (fun c_1 hf => ?_)
  · exact x_vretW G hf hr dX12_work_26
  · refine x_aload_n G dX12_work_27 rfl rfl ?_
    refine x_iload_n G dX12_work_28 rfl rfl ?_
    refine x_iload_n G dX12_work_29 rfl rfl ?_
    obtain ⟨v_2, hv_2, hf⟩ := bnd hf
    refine x_virI G (As := [.int v1, .int s0]) (mX12_spot G.2.2.2.2.2.2.1 M hv_2) mv_X12_185 (kd148 M) cl12 rfl rfl rfl rfl rfl dX12_work_30 ?_
    refine x_istore G (lv' := [some (.ref 148), some (.int v1), some (.int v2), some (.int s0), some (.int v_2), none, none, none, none]) dX12_work_33 rfl rfl rfl ?_
    refine x_aload_n G dX12_work_35 rfl rfl ?_
    refine x_getR G (kd148 M) 1 (b := 149) rfl cl12 rfl wf_X12_13 dX12_work_36 ?_
    refine x_iload G dX12_work_39 rfl ?_
    refine x_iconst G (v := 0) dX12_work_41 (by decide) ?_
    refine x_iadd G dX12_work_42 ?_
    refine x_iald G (kd149 M) dX12_work_43 hf (fun hb_3 hf => ?_)
    refine x_istore G (lv' := [some (.ref 148), some (.int v1), some (.int v2), some (.int s0), some (.int v_2), some (.int (ri w 149 (v_2 + (0 : Int32)))), none, none, none]) dX12_work_44 rfl rfl rfl ?_
    refine x_aload_n G dX12_work_46 rfl rfl ?_
    refine x_iconst G (v := 0) dX12_work_47 (by decide) ?_
    refine x_iload G dX12_work_48 rfl ?_
    obtain ⟨v_4, hv_4, hf⟩ := bnd hf
    refine x_virI G (As := [.int (0 : Int32), .int (ri w 149 (v_2 + (0 : Int32)))]) (mX12_isHeld G.2.2.2.2.2.2.1 M hv_4) mv_X12_217 (kd148 M) cl12 rfl rfl rfl rfl rfl dX12_work_50 ?_
    refine x_ifneB G (tgt := 69) dX12_work_53 (by decide) hf (fun c_5 hf => ?_) (fun c_5 hf => ?_)
    · refine x_aload_n G dX12_work_69 rfl rfl ?_
      refine x_iload G dX12_work_70 rfl ?_
      obtain ⟨v_6, hv_6, hf⟩ := bnd hf
      refine x_virI G (As := [.int v_2]) (mX12_digAt G.2.2.2.2.2.2.1 M hv_6) mv_X12_196 (kd148 M) cl12 rfl rfl rfl rfl rfl dX12_work_72 ?_
      refine x_istore G (lv' := [some (.ref 148), some (.int v1), some (.int v2), some (.int s0), some (.int v_2), some (.int (ri w 149 (v_2 + (0 : Int32)))), some (.int v_6), none, none]) dX12_work_75 rfl rfl rfl ?_
      refine x_aload_n G dX12_work_77 rfl rfl ?_
      refine x_getR G (kd148 M) 1 (b := 149) rfl cl12 rfl wf_X12_13 dX12_work_78 ?_
      refine x_iload G dX12_work_81 rfl ?_
      refine x_iconst G (v := 2) dX12_work_83 (by decide) ?_
      refine x_iadd G dX12_work_84 ?_
      refine x_iald G (kd149 M) dX12_work_85 hf (fun hb_7 hf => ?_)
      refine x_iload G dX12_work_86 rfl ?_
      refine x_icmpge G (tgt := 192) dX12_work_88 (by decide) hf (fun c_8 hf => ?_) (fun c_8 hf => ?_)
      · refine x_aload_n G dX12_work_91 rfl rfl ?_
        refine x_getR G (kd148 M) 1 (b := 149) rfl cl12 rfl wf_X12_13 dX12_work_92 ?_
        refine x_iload G dX12_work_95 rfl ?_
        refine x_iconst G (v := 2) dX12_work_97 (by decide) ?_
        refine x_iadd G dX12_work_98 ?_
        refine x_dup2 G dX12_work_99 rfl rfl ?_
        refine x_iald0 G (kd149 M) dX12_work_100 hb_7 ?_
        refine x_bipush G (v := 40) dX12_work_101 (by decide) ?_
        refine x_iload_n G dX12_work_103 rfl rfl ?_
        refine x_imul G dX12_work_104 ?_
        refine x_iadd G dX12_work_105 ?_
        refine x_iast0 G (kd149 M) dX12_work_106 hb_7 ?_
        refine nwr hf (fun w_9 hf => ?_)
        refine x_aload_n G dX12_work_107 rfl rfl ?_
        refine x_getR G (kd148 M) 1 (b := 149) rfl cl12 rfl wf_X12_13 dX12_work_108 ?_
        refine x_iload G dX12_work_111 rfl ?_
        refine x_iconst G (v := 2) dX12_work_113 (by decide) ?_
        refine x_iadd G dX12_work_114 ?_
        refine x_iald0 G (kd149 M) dX12_work_115 hb_7 ?_
        refine x_iload G dX12_work_116 rfl ?_
        refine x_icmpge G (tgt := 122) dX12_work_118 (by decide) hf (fun c_10 hf => ?_) (fun c_10 hf => ?_)
        · exact x_vretW G hf hr dX12_work_121
        · refine x_aload_n G dX12_work_122 rfl rfl ?_
          refine x_iload G dX12_work_123 rfl ?_
          obtain ⟨v_11, hv_11, hf⟩ := bnd hf
          refine x_virI G (As := [.int v_2]) (mX12_depthAt G.2.2.2.2.2.2.1 M hv_11) mv_X12_204 (kd148 M) cl12 rfl rfl rfl rfl rfl dX12_work_125 ?_
          refine x_iconst G (v := 1) dX12_work_128 (by decide) ?_
          refine x_aload_n G dX12_work_129 rfl rfl ?_
          refine x_iload G dX12_work_130 rfl ?_
          refine x_iconst G (v := 1) dX12_work_132 (by decide) ?_
          obtain ⟨v_12, hv_12, hf⟩ := bnd hf
          refine x_virI G (As := [.int (ri w 149 (v_2 + (0 : Int32))), .int (1 : Int32)]) (mX12_c G.2.2.2.2.2.2.1 M hv_12) mv_X12_117 (kd148 M) cl12 rfl rfl rfl rfl rfl dX12_work_133 ?_
          refine x_iadd G dX12_work_136 ?_
          refine x_imul G dX12_work_137 ?_
          refine x_istore G (lv' := [some (.ref 148), some (.int v1), some (.int v2), some (.int s0), some (.int v_2), some (.int (ri w 149 (v_2 + (0 : Int32)))), some (.int v_6), some (.int (v_11 * ((1 : Int32) + v_12))), none]) dX12_work_138 rfl rfl rfl ?_
          refine x_aload_n G dX12_work_140 rfl rfl ?_
          refine x_iload G dX12_work_141 rfl ?_
          refine x_iload G dX12_work_143 rfl ?_
          refine x_iconst G (v := 2) dX12_work_145 (by decide) ?_
          refine x_idiv G dX12_work_146 (by decide) ?_
          obtain ⟨v_13, hv_13, hf⟩ := bnd hf
          refine x_virV G (As := [.int (ri w 149 (v_2 + (0 : Int32))), .int ((v_11 * ((1 : Int32) + v_12)) / (2 : Int32))]) (mX12_pulls G.2.2.2.2.2.2.1 M hv_13) mv_X12_220 (kd148 M) cl12 rfl rfl rfl rfl rfl dX12_work_147 ?_
          refine x_iconst G (v := 0) dX12_work_150 (by decide) ?_
          refine x_istore G (lv' := [some (.ref 148), some (.int v1), some (.int v2), some (.int s0), some (.int v_2), some (.int (ri w 149 (v_2 + (0 : Int32)))), some (.int v_6), some (.int (v_11 * ((1 : Int32) + v_12))), some (.int (0 : Int32))]) dX12_work_151 rfl rfl rfl ?_
          exact XW.sub (lv' := [some (.ref 148), none, none, none, none, some (.int (ri w 149 (v_2 + (0 : Int32)))), none, some (.int (v_11 * ((1 : Int32) + v_12))), some (.int (0 : Int32))]) (And.intro rfl (And.intro rfl (And.intro rfl (And.intro rfl trivial)))) (xX12_work_153 G M hr FU _ _ _ _ hf)
      · refine x_aload_n G dX12_work_192 rfl rfl ?_
        refine x_iconst G (v := 1) dX12_work_193 (by decide) ?_
        obtain ⟨v_14, hv_14, hf⟩ := bnd hf
        refine x_virI G (As := [.int (1 : Int32)]) (mX12_g G.2.2.2.2.2.2.1 M hv_14) mv_X12_101 (kd148 M) cl12 rfl rfl rfl rfl rfl dX12_work_194 ?_
        refine x_bipush G (v := 100) dX12_work_197 (by decide) ?_
        refine x_aload_n G dX12_work_199 rfl rfl ?_
        refine x_iload_n G dX12_work_200 rfl rfl ?_
        refine x_iconst G (v := 1) dX12_work_201 (by decide) ?_
        obtain ⟨v_15, hv_15, hf⟩ := bnd hf
        refine x_virI G (As := [.int v1, .int (1 : Int32)]) (mX12_l G.2.2.2.2.2.2.1 M hv_15) mv_X12_193 (kd148 M) cl12 rfl rfl rfl rfl rfl dX12_work_202 ?_
        refine x_imul G dX12_work_205 ?_
        refine x_icmpge G (tgt := 222) dX12_work_206 (by decide) hf (fun c_16 hf => ?_) (fun c_16 hf => ?_)
        · refine x_aload_n G dX12_work_209 rfl rfl ?_
          refine x_getR G (kd148 M) 1 (b := 149) rfl cl12 rfl wf_X12_13 dX12_work_210 ?_
          refine x_sipush G (v := 4311) dX12_work_213 (by decide) ?_
          refine x_dup2 G dX12_work_216 rfl rfl ?_
          refine x_iald0 G (kd149 M) dX12_work_217 (by decide) ?_
          refine x_iload_n G dX12_work_218 rfl rfl ?_
          refine x_iadd G dX12_work_219 ?_
          refine x_iast0 G (kd149 M) dX12_work_220 (by decide) ?_
          refine nwr hf (fun w_17 hf => ?_)
          exact x_vretW G hf hr dX12_work_221
        · refine x_aload_n G dX12_work_222 rfl rfl ?_
          refine x_getR G (kd148 M) 1 (b := 149) rfl cl12 rfl wf_X12_13 dX12_work_223 ?_
          refine x_sipush G (v := 4301) dX12_work_226 (by decide) ?_
          refine x_dup2 G dX12_work_229 rfl rfl ?_
          refine x_iald0 G (kd149 M) dX12_work_230 (by decide) ?_
          refine x_bipush G (v := 100) dX12_work_231 (by decide) ?_
          refine x_aload_n G dX12_work_233 rfl rfl ?_
          refine x_iload_n G dX12_work_234 rfl rfl ?_
          refine x_iconst G (v := 1) dX12_work_235 (by decide) ?_
          obtain ⟨v_18, hv_18, hf⟩ := bnd hf
          refine x_virI G (As := [.int v1, .int (1 : Int32)]) (mX12_l G.2.2.2.2.2.2.1 M hv_18) mv_X12_193 (kd148 M) cl12 rfl rfl rfl rfl rfl dX12_work_236 ?_
          refine x_imul G dX12_work_239 ?_
          refine x_isub G dX12_work_240 ?_
          refine x_iast0 G (kd149 M) dX12_work_241 (by decide) ?_
          refine nwr hf (fun w_19 hf => ?_)
          refine x_aload_n G dX12_work_242 rfl rfl ?_
          refine x_getR G (kd148 M) 1 (b := 149) rfl cl12 rfl wf_X12_13 dX12_work_243 ?_
          refine x_iload G dX12_work_246 rfl ?_
          refine x_iconst G (v := 3) dX12_work_248 (by decide) ?_
          refine x_iadd G dX12_work_249 ?_
          refine x_aload_n G dX12_work_250 rfl rfl ?_
          obtain ⟨v_20, hv_20, hf⟩ := bnd hf
          refine x_virI G (As := []) (mX12_day G.2.2.2.2.2.2.1 M hv_20) mv_X12_159 (kd148 M) cl12 rfl rfl rfl rfl rfl dX12_work_251 ?_
          refine x_iast G (kd149 M) dX12_work_254 hf (fun hb_21 hf => ?_)
          refine nwr hf (fun w_22 hf => ?_)
          refine x_aload_n G dX12_work_255 rfl rfl ?_
          refine x_getR G (kd148 M) 1 (b := 149) rfl cl12 rfl wf_X12_13 dX12_work_256 ?_
          refine x_iload G dX12_work_259 rfl ?_
          refine x_iconst G (v := 4) dX12_work_261 (by decide) ?_
          refine x_iadd G dX12_work_262 ?_
          refine x_aload_n G dX12_work_263 rfl rfl ?_
          refine x_iload G dX12_work_264 rfl ?_
          refine x_bipush G (v := 9) dX12_work_266 (by decide) ?_
          obtain ⟨v_23, hv_23, hf⟩ := bnd hf
          refine x_virI G (As := [.int (ri w 149 (v_2 + (0 : Int32))), .int (9 : Int32)]) (mX12_c G.2.2.2.2.2.2.1 M hv_23) mv_X12_117 (kd148 M) cl12 rfl rfl rfl rfl rfl dX12_work_268 ?_
          refine x_aload_n G dX12_work_271 rfl rfl ?_
          refine x_iload G dX12_work_272 rfl ?_
          refine x_bipush G (v := 10) dX12_work_274 (by decide) ?_
          obtain ⟨v_24, hv_24, hf⟩ := bnd hf
          refine x_virI G (As := [.int (ri w 149 (v_2 + (0 : Int32))), .int (10 : Int32)]) (mX12_c G.2.2.2.2.2.2.1 M hv_24) mv_X12_117 (kd148 M) cl12 rfl rfl rfl rfl rfl dX12_work_276 ?_
          refine x_iadd G dX12_work_279 ?_
          refine x_ifle G (tgt := 287) dX12_work_280 (by decide) hf (fun c_25 hf => ?_) (fun c_25 hf => ?_)
          · refine x_iconst G (v := 1) dX12_work_283 (by decide) ?_
            refine x_goto G (tgt := 288) dX12_work_284 (by decide) ?_
            exact XW.sub (lv' := [none, none, none, none, none, none, none, none, none]) trivial (xX12_work_288 G M hf hr)
          · refine x_iconst G (v := 0) dX12_work_287 (by decide) ?_
            exact XW.sub (lv' := [none, none, none, none, none, none, none, none, none]) trivial (xX12_work_288 G M hf hr)
    · refine x_aload_n G dX12_work_56 rfl rfl ?_
      refine x_getR G (kd148 M) 1 (b := 149) rfl cl12 rfl wf_X12_13 dX12_work_57 ?_
      refine x_sipush G (v := 4311) dX12_work_60 (by decide) ?_
      refine x_dup2 G dX12_work_63 rfl rfl ?_
      refine x_iald0 G (kd149 M) dX12_work_64 (by decide) ?_
      refine x_iload_n G dX12_work_65 rfl rfl ?_
      refine x_iadd G dX12_work_66 ?_
      refine x_iast0 G (kd149 M) dX12_work_67 (by decide) ?_
      refine nwr hf (fun w_26 hf => ?_)
      exact x_vretW G hf hr dX12_work_68

set_option maxHeartbeats 4000000 in
set_option maxRecDepth 100000 in
theorem xX12_work_e {K : KT} {v1 : Int32} {w : Wd} {r : Wd} (G : GK K cX12_work RX12 9 204) (M : Main K.ks) (hf : fX12_work v1 w = some r) (hr : RV K r) : XW K 0 [some (.ref 148), some (.int v1), none, none, none, none, none, none, none] [] w := by
  unfold fX12_work at hf
  refine x_aload_n G dX12_work_0 rfl rfl ?_
  refine x_iload_n G dX12_work_1 rfl rfl ?_
  refine x_iconst G (v := 3) dX12_work_2 (by decide) ?_
  obtain ⟨v_1, hv_1, hf⟩ := bnd hf
  refine x_virI G (As := [.int v1, .int (3 : Int32)]) (mX12_l G.2.2.2.2.2.2.1 M hv_1) mv_X12_193 (kd148 M) cl12 rfl rfl rfl rfl rfl dX12_work_3 ?_
  refine x_istore_n G (lv' := [some (.ref 148), some (.int v1), some (.int v_1), none, none, none, none, none, none]) dX12_work_6 rfl rfl rfl rfl ?_
  refine x_iload_n G dX12_work_7 rfl rfl ?_
  refine x_ifle G (tgt := 19) dX12_work_8 (by decide) hf (fun c_2 hf => ?_) (fun c_2 hf => ?_)
  · refine x_aload_n G dX12_work_11 rfl rfl ?_
    refine x_iload_n G dX12_work_12 rfl rfl ?_
    obtain ⟨v_3, hv_3, hf⟩ := bnd hf
    refine x_virI G (As := [.int v1]) (mX12_inWork G.2.2.2.2.2.2.1 M hv_3) mv_X12_214 (kd148 M) cl12 rfl rfl rfl rfl rfl dX12_work_13 ?_
    refine x_goto G (tgt := 20) dX12_work_16 (by decide) ?_
    exact XW.sub (lv' := [some (.ref 148), some (.int v1), some (.int v_1), none, none, none, none, none, none]) (And.intro rfl (And.intro rfl (And.intro rfl trivial))) (xX12_work_20 G M hf hr)
  · refine x_iconst G (v := -1) dX12_work_19 (by decide) ?_
    exact XW.sub (lv' := [some (.ref 148), some (.int v1), some (.int v_1), none, none, none, none, none, none]) (And.intro rfl (And.intro rfl (And.intro rfl trivial))) (xX12_work_20 G M hf hr)

theorem mX12_work {l : Launch} {S : KS} {w : Wd} (hI : Inj S) (M : Main S) {v1 : Int32} {r : Wd} (hf : fX12_work v1 w = some r) : CV l yX12_work cX12_work 9 none 204 S [.ref 148, .int v1] w r := by
  intro sz
  refine mk_entry rfl (by decide +kernel) hI 7 rfl rfl (fun K h1 h2 h3 h4 h5 h6 G => ?_)
  subst h2
  exact xX12_work_e G M hf ⟨h3, by rw [h4, h6], h5⟩

set_option maxHeartbeats 4000000 in
set_option maxRecDepth 100000 in
theorem xX12_hour_298 {K : KT} {r : Wd} (G : GK K cX12_hour RX12 2 205) (M : Main K.ks) (hr : RV K r) : ∀ (n : Nat) (v1 : Int32) (w : Wd), fX12_hour_298 n v1 w = some r → XW K 298 [some (.ref 148), some (.int v1)] [] w := by
  intro n
  induction n with
  | zero =>
    intro v1 w hf
    unfold fX12_hour_298 at hf
    cases hf
  | succ n ih =>
    intro v1 w hf
    unfold fX12_hour_298 at hf
    refine x_iload_n G dX12_hour_298 rfl rfl ?_
    refine x_bipush G (v := 100) dX12_hour_299 (by decide) ?_
    refine x_icmpge G (tgt := 315) dX12_hour_301 (by decide) hf (fun c_1 hf => ?_) (fun c_1 hf => ?_)
    · refine x_aload_n G dX12_hour_304 rfl rfl ?_
      refine x_iload_n G dX12_hour_305 rfl rfl ?_
      obtain ⟨v_2, hv_2, hf⟩ := bnd hf
      refine x_virV G (As := [.int v1]) (mX12_drinks G.2.2.2.2.2.2.1 M hv_2) mv_X12_271 (kd148 M) cl12 rfl rfl rfl rfl rfl dX12_hour_306 ?_
      refine x_iinc G (lv' := [some (.ref 148), some (.int (v1 + (1 : Int32)))]) (v := 1) dX12_hour_309 rfl (by decide) rfl rfl rfl ?_
      refine x_goto G (tgt := 298) dX12_hour_312 (by decide) ?_
      exact XW.sub (lv' := [some (.ref 148), some (.int (v1 + (1 : Int32)))]) (And.intro rfl (And.intro rfl trivial)) (ih _ _ hf)
    · exact x_vretW G hf hr dX12_hour_315

set_option maxHeartbeats 4000000 in
set_option maxRecDepth 100000 in
theorem xX12_hour_275 {K : KT} {r : Wd} (G : GK K cX12_hour RX12 2 205) (M : Main K.ks) (hr : RV K r) : ∀ (n : Nat) (v1 : Int32) (w : Wd), fX12_hour_275 n v1 w = some r → XW K 275 [some (.ref 148), some (.int v1)] [] w := by
  intro n
  induction n with
  | zero =>
    intro v1 w hf
    unfold fX12_hour_275 at hf
    cases hf
  | succ n ih =>
    intro v1 w hf
    unfold fX12_hour_275 at hf
    refine x_iload_n G dX12_hour_275 rfl rfl ?_
    refine x_aload_n G dX12_hour_276 rfl rfl ?_
    refine x_bipush G (v := 15) dX12_hour_277 (by decide) ?_
    obtain ⟨v_1, hv_1, hf⟩ := bnd hf
    refine x_virI G (As := [.int (15 : Int32)]) (mX12_g G.2.2.2.2.2.2.1 M hv_1) mv_X12_101 (kd148 M) cl12 rfl rfl rfl rfl rfl dX12_hour_279 ?_
    refine x_icmpge G (tgt := 296) dX12_hour_282 (by decide) hf (fun c_2 hf => ?_) (fun c_2 hf => ?_)
    · refine x_aload_n G dX12_hour_285 rfl rfl ?_
      refine x_iload_n G dX12_hour_286 rfl rfl ?_
      obtain ⟨v_3, hv_3, hf⟩ := bnd hf
      refine x_virV G (As := [.int v1]) (mX12_work G.2.2.2.2.2.2.1 M hv_3) mv_X12_268 (kd148 M) cl12 rfl rfl rfl rfl rfl dX12_hour_287 ?_
      refine x_iinc G (lv' := [some (.ref 148), some (.int (v1 + (1 : Int32)))]) (v := 1) dX12_hour_290 rfl (by decide) rfl rfl rfl ?_
      refine x_goto G (tgt := 275) dX12_hour_293 (by decide) ?_
      exact XW.sub (lv' := [some (.ref 148), some (.int (v1 + (1 : Int32)))]) (And.intro rfl (And.intro rfl trivial)) (ih _ _ hf)
    · refine x_iconst G (v := 0) dX12_hour_296 (by decide) ?_
      refine x_istore_n G (lv' := [some (.ref 148), some (.int (0 : Int32))]) dX12_hour_297 rfl rfl rfl rfl ?_
      exact XW.sub (lv' := [some (.ref 148), some (.int (0 : Int32))]) (And.intro rfl (And.intro rfl trivial)) (xX12_hour_298 G M hr FU _ _ hf)

set_option maxHeartbeats 4000000 in
set_option maxRecDepth 100000 in
theorem xX12_hour_228 {K : KT} {r : Wd} (G : GK K cX12_hour RX12 2 205) (M : Main K.ks) (hr : RV K r) : ∀ (n : Nat) (v1 : Int32) (w : Wd), fX12_hour_228 n v1 w = some r → XW K 228 [some (.ref 148), some (.int v1)] [] w := by
  intro n
  induction n with
  | zero =>
    intro v1 w hf
    unfold fX12_hour_228 at hf
    cases hf
  | succ n ih =>
    intro v1 w hf
    unfold fX12_hour_228 at hf
    refine x_iload_n G dX12_hour_228 rfl rfl ?_
    refine x_bipush G (v := 100) dX12_hour_229 (by decide) ?_
    refine x_icmpge G (tgt := 245) dX12_hour_231 (by decide) hf (fun c_1 hf => ?_) (fun c_1 hf => ?_)
    · refine x_aload_n G dX12_hour_234 rfl rfl ?_
      refine x_iload_n G dX12_hour_235 rfl rfl ?_
      obtain ⟨v_2, hv_2, hf⟩ := bnd hf
      refine x_virV G (As := [.int v1]) (mX12_rises G.2.2.2.2.2.2.1 M hv_2) mv_X12_265 (kd148 M) cl12 rfl rfl rfl rfl rfl dX12_hour_236 ?_
      refine x_iinc G (lv' := [some (.ref 148), some (.int (v1 + (1 : Int32)))]) (v := 1) dX12_hour_239 rfl (by decide) rfl rfl rfl ?_
      refine x_goto G (tgt := 228) dX12_hour_242 (by decide) ?_
      exact XW.sub (lv' := [some (.ref 148), some (.int (v1 + (1 : Int32)))]) (And.intro rfl (And.intro rfl trivial)) (ih _ _ hf)
    · refine x_aload_n G dX12_hour_245 rfl rfl ?_
      refine x_iconst G (v := 0) dX12_hour_246 (by decide) ?_
      obtain ⟨v_3, hv_3, hf⟩ := bnd hf
      refine x_virI G (As := [.int (0 : Int32)]) (mX12_g G.2.2.2.2.2.2.1 M hv_3) mv_X12_101 (kd148 M) cl12 rfl rfl rfl rfl rfl dX12_hour_247 ?_
      refine x_bipush G (v := 24) dX12_hour_250 (by decide) ?_
      refine x_irem' G dX12_hour_252 (by decide) ?_
      refine x_ifeq G (tgt := 257) dX12_hour_253 (by decide) hf (fun c_4 hf => ?_) (fun c_4 hf => ?_)
      · refine x_aload_n G dX12_hour_257 rfl rfl ?_
        refine x_getR G (kd148 M) 1 (b := 149) rfl cl12 rfl wf_X12_13 dX12_hour_258 ?_
        refine x_sipush G (v := 4301) dX12_hour_261 (by decide) ?_
        refine x_dup2 G dX12_hour_264 rfl rfl ?_
        refine x_iald0 G (kd149 M) dX12_hour_265 (by decide) ?_
        refine x_aload_n G dX12_hour_266 rfl rfl ?_
        refine x_iconst G (v := 2) dX12_hour_267 (by decide) ?_
        obtain ⟨v_5, hv_5, hf⟩ := bnd hf
        refine x_virI G (As := [.int (2 : Int32)]) (mX12_g G.2.2.2.2.2.2.1 M hv_5) mv_X12_101 (kd148 M) cl12 rfl rfl rfl rfl rfl dX12_hour_268 ?_
        refine x_iadd G dX12_hour_271 ?_
        refine x_iast0 G (kd149 M) dX12_hour_272 (by decide) ?_
        refine nwr hf (fun w_6 hf => ?_)
        refine x_iconst G (v := 0) dX12_hour_273 (by decide) ?_
        refine x_istore_n G (lv' := [some (.ref 148), some (.int (0 : Int32))]) dX12_hour_274 rfl rfl rfl rfl ?_
        exact XW.sub (lv' := [some (.ref 148), some (.int (0 : Int32))]) (And.intro rfl (And.intro rfl trivial)) (xX12_hour_275 G M hr FU _ _ hf)
      · exact x_vretW G hf hr dX12_hour_256

set_option maxHeartbeats 4000000 in
set_option maxRecDepth 100000 in
theorem xX12_hour_209 {K : KT} {r : Wd} (G : GK K cX12_hour RX12 2 205) (M : Main K.ks) (hr : RV K r) : ∀ (n : Nat) (v1 : Int32) (w : Wd), fX12_hour_209 n v1 w = some r → XW K 209 [some (.ref 148), some (.int v1)] [] w := by
  intro n
  induction n with
  | zero =>
    intro v1 w hf
    unfold fX12_hour_209 at hf
    cases hf
  | succ n ih =>
    intro v1 w hf
    unfold fX12_hour_209 at hf
    refine x_iload_n G dX12_hour_209 rfl rfl ?_
    refine x_bipush G (v := 100) dX12_hour_210 (by decide) ?_
    refine x_icmpge G (tgt := 226) dX12_hour_212 (by decide) hf (fun c_1 hf => ?_) (fun c_1 hf => ?_)
    · refine x_aload_n G dX12_hour_215 rfl rfl ?_
      refine x_iload_n G dX12_hour_216 rfl rfl ?_
      obtain ⟨v_2, hv_2, hf⟩ := bnd hf
      refine x_virV G (As := [.int v1]) (mX12_outs G.2.2.2.2.2.2.1 M hv_2) mv_X12_262 (kd148 M) cl12 rfl rfl rfl rfl rfl dX12_hour_217 ?_
      refine x_iinc G (lv' := [some (.ref 148), some (.int (v1 + (1 : Int32)))]) (v := 1) dX12_hour_220 rfl (by decide) rfl rfl rfl ?_
      refine x_goto G (tgt := 209) dX12_hour_223 (by decide) ?_
      exact XW.sub (lv' := [some (.ref 148), some (.int (v1 + (1 : Int32)))]) (And.intro rfl (And.intro rfl trivial)) (ih _ _ hf)
    · refine x_iconst G (v := 0) dX12_hour_226 (by decide) ?_
      refine x_istore_n G (lv' := [some (.ref 148), some (.int (0 : Int32))]) dX12_hour_227 rfl rfl rfl rfl ?_
      exact XW.sub (lv' := [some (.ref 148), some (.int (0 : Int32))]) (And.intro rfl (And.intro rfl trivial)) (xX12_hour_228 G M hr FU _ _ hf)

set_option maxHeartbeats 4000000 in
set_option maxRecDepth 100000 in
theorem xX12_hour_190 {K : KT} {r : Wd} (G : GK K cX12_hour RX12 2 205) (M : Main K.ks) (hr : RV K r) : ∀ (n : Nat) (v1 : Int32) (w : Wd), fX12_hour_190 n v1 w = some r → XW K 190 [some (.ref 148), some (.int v1)] [] w := by
  intro n
  induction n with
  | zero =>
    intro v1 w hf
    unfold fX12_hour_190 at hf
    cases hf
  | succ n ih =>
    intro v1 w hf
    unfold fX12_hour_190 at hf
    refine x_iload_n G dX12_hour_190 rfl rfl ?_
    refine x_bipush G (v := 100) dX12_hour_191 (by decide) ?_
    refine x_icmpge G (tgt := 207) dX12_hour_193 (by decide) hf (fun c_1 hf => ?_) (fun c_1 hf => ?_)
    · refine x_aload_n G dX12_hour_196 rfl rfl ?_
      refine x_iload_n G dX12_hour_197 rfl rfl ?_
      obtain ⟨v_2, hv_2, hf⟩ := bnd hf
      refine x_virV G (As := [.int v1]) (mX12_lifts G.2.2.2.2.2.2.1 M hv_2) mv_X12_259 (kd148 M) cl12 rfl rfl rfl rfl rfl dX12_hour_198 ?_
      refine x_iinc G (lv' := [some (.ref 148), some (.int (v1 + (1 : Int32)))]) (v := 1) dX12_hour_201 rfl (by decide) rfl rfl rfl ?_
      refine x_goto G (tgt := 190) dX12_hour_204 (by decide) ?_
      exact XW.sub (lv' := [some (.ref 148), some (.int (v1 + (1 : Int32)))]) (And.intro rfl (And.intro rfl trivial)) (ih _ _ hf)
    · refine x_iconst G (v := 0) dX12_hour_207 (by decide) ?_
      refine x_istore_n G (lv' := [some (.ref 148), some (.int (0 : Int32))]) dX12_hour_208 rfl rfl rfl rfl ?_
      exact XW.sub (lv' := [some (.ref 148), some (.int (0 : Int32))]) (And.intro rfl (And.intro rfl trivial)) (xX12_hour_209 G M hr FU _ _ hf)

set_option maxHeartbeats 4000000 in
set_option maxRecDepth 100000 in
theorem xX12_hour_144 {K : KT} {r : Wd} (G : GK K cX12_hour RX12 2 205) (M : Main K.ks) (hr : RV K r) : ∀ (n : Nat) (v1 : Int32) (w : Wd), fX12_hour_144 n v1 w = some r → XW K 144 [some (.ref 148), some (.int v1)] [] w := by
  intro n
  induction n with
  | zero =>
    intro v1 w hf
    unfold fX12_hour_144 at hf
    cases hf
  | succ n ih =>
    intro v1 w hf
    unfold fX12_hour_144 at hf
    refine x_iload_n G dX12_hour_144 rfl rfl ?_
    refine x_bipush G (v := 100) dX12_hour_145 (by decide) ?_
    refine x_icmpge G (tgt := 188) dX12_hour_147 (by decide) hf (fun c_1 hf => ?_) (fun c_1 hf => ?_)
    · refine x_aload_n G dX12_hour_150 rfl rfl ?_
      refine x_getR G (kd148 M) 14 (b := 156) rfl cl12 rfl wf_X12_36 dX12_hour_151 ?_
      refine x_iload_n G dX12_hour_154 rfl rfl ?_
      refine x_iald G (kd156 M) dX12_hour_155 hf (fun hb_2 hf => ?_)
      refine x_iconst G (v := -1) dX12_hour_156 (by decide) ?_
      refine x_icmpeq G (tgt := 182) dX12_hour_157 (by decide) hf (fun c_3 hf => ?_) (fun c_3 hf => ?_)
      · refine x_iinc G (lv' := [some (.ref 148), some (.int (v1 + (1 : Int32)))]) (v := 1) dX12_hour_182 rfl (by decide) rfl rfl rfl ?_
        refine x_goto G (tgt := 144) dX12_hour_185 (by decide) ?_
        exact XW.sub (lv' := [some (.ref 148), some (.int (v1 + (1 : Int32)))]) (And.intro rfl (And.intro rfl trivial)) (ih _ _ hf)
      · refine x_aload_n G dX12_hour_160 rfl rfl ?_
        refine x_aload_n G dX12_hour_161 rfl rfl ?_
        refine x_getR G (kd148 M) 14 (b := 156) rfl cl12 rfl wf_X12_36 dX12_hour_162 ?_
        refine x_iload_n G dX12_hour_165 rfl rfl ?_
        refine x_iald0 G (kd156 M) dX12_hour_166 hb_2 ?_
        refine x_aload_n G dX12_hour_167 rfl rfl ?_
        refine x_getR G (kd148 M) 12 (b := 154) rfl cl12 rfl wf_X12_30 dX12_hour_168 ?_
        refine x_iload_n G dX12_hour_171 rfl rfl ?_
        refine x_iald0 G (kd154 M) dX12_hour_172 hb_2 ?_
        refine x_aload_n G dX12_hour_173 rfl rfl ?_
        refine x_getR G (kd148 M) 13 (b := 155) rfl cl12 rfl wf_X12_33 dX12_hour_174 ?_
        refine x_iload_n G dX12_hour_177 rfl rfl ?_
        refine x_iald0 G (kd155 M) dX12_hour_178 hb_2 ?_
        obtain ⟨v_4, hv_4, hf⟩ := bnd hf
        refine x_virV G (As := [.int (ri w 156 v1), .int (ri w 154 v1), .int (ri w 155 v1)]) (mX12_comes G.2.2.2.2.2.2.1 M hv_4) mv_X12_248 (kd148 M) cl12 rfl rfl rfl rfl rfl dX12_hour_179 ?_
        refine x_iinc G (lv' := [some (.ref 148), some (.int (v1 + (1 : Int32)))]) (v := 1) dX12_hour_182 rfl (by decide) rfl rfl rfl ?_
        refine x_goto G (tgt := 144) dX12_hour_185 (by decide) ?_
        exact XW.sub (lv' := [some (.ref 148), some (.int (v1 + (1 : Int32)))]) (And.intro rfl (And.intro rfl trivial)) (ih _ _ hf)
    · refine x_iconst G (v := 0) dX12_hour_188 (by decide) ?_
      refine x_istore_n G (lv' := [some (.ref 148), some (.int (0 : Int32))]) dX12_hour_189 rfl rfl rfl rfl ?_
      exact XW.sub (lv' := [some (.ref 148), some (.int (0 : Int32))]) (And.intro rfl (And.intro rfl trivial)) (xX12_hour_190 G M hr FU _ _ hf)

set_option maxHeartbeats 4000000 in
set_option maxRecDepth 100000 in
theorem xX12_hour_125 {K : KT} {r : Wd} (G : GK K cX12_hour RX12 2 205) (M : Main K.ks) (hr : RV K r) : ∀ (n : Nat) (v1 : Int32) (w : Wd), fX12_hour_125 n v1 w = some r → XW K 125 [some (.ref 148), some (.int v1)] [] w := by
  intro n
  induction n with
  | zero =>
    intro v1 w hf
    unfold fX12_hour_125 at hf
    cases hf
  | succ n ih =>
    intro v1 w hf
    unfold fX12_hour_125 at hf
    refine x_iload_n G dX12_hour_125 rfl rfl ?_
    refine x_bipush G (v := 100) dX12_hour_126 (by decide) ?_
    refine x_icmpge G (tgt := 142) dX12_hour_128 (by decide) hf (fun c_1 hf => ?_) (fun c_1 hf => ?_)
    · refine x_aload_n G dX12_hour_131 rfl rfl ?_
      refine x_iload_n G dX12_hour_132 rfl rfl ?_
      obtain ⟨v_2, hv_2, hf⟩ := bnd hf
      refine x_virV G (As := [.int v1]) (mX12_letsOn G.2.2.2.2.2.2.1 M hv_2) mv_X12_255 (kd148 M) cl12 rfl rfl rfl rfl rfl dX12_hour_133 ?_
      refine x_iinc G (lv' := [some (.ref 148), some (.int (v1 + (1 : Int32)))]) (v := 1) dX12_hour_136 rfl (by decide) rfl rfl rfl ?_
      refine x_goto G (tgt := 125) dX12_hour_139 (by decide) ?_
      exact XW.sub (lv' := [some (.ref 148), some (.int (v1 + (1 : Int32)))]) (And.intro rfl (And.intro rfl trivial)) (ih _ _ hf)
    · refine x_iconst G (v := 0) dX12_hour_142 (by decide) ?_
      refine x_istore_n G (lv' := [some (.ref 148), some (.int (0 : Int32))]) dX12_hour_143 rfl rfl rfl rfl ?_
      exact XW.sub (lv' := [some (.ref 148), some (.int (0 : Int32))]) (And.intro rfl (And.intro rfl trivial)) (xX12_hour_144 G M hr FU _ _ hf)

set_option maxHeartbeats 4000000 in
set_option maxRecDepth 100000 in
theorem xX12_hour_14 {K : KT} {r : Wd} (G : GK K cX12_hour RX12 2 205) (M : Main K.ks) (hr : RV K r) : ∀ (n : Nat) (v1 : Int32) (w : Wd), fX12_hour_14 n v1 w = some r → XW K 14 [some (.ref 148), some (.int v1)] [] w := by
  intro n
  induction n with
  | zero =>
    intro v1 w hf
    unfold fX12_hour_14 at hf
    cases hf
  | succ n ih =>
    intro v1 w hf
    unfold fX12_hour_14 at hf
    refine x_iload_n G dX12_hour_14 rfl rfl ?_
    refine x_bipush G (v := 100) dX12_hour_15 (by decide) ?_
    refine x_icmpge G (tgt := 119) dX12_hour_17 (by decide) hf (fun c_1 hf => ?_) (fun c_1 hf => ?_)
    · refine x_aload_n G dX12_hour_20 rfl rfl ?_
      refine x_iload_n G dX12_hour_21 rfl rfl ?_
      refine x_iconst G (v := 4) dX12_hour_22 (by decide) ?_
      obtain ⟨v_2, hv_2, hf⟩ := bnd hf
      refine x_virI G (As := [.int v1, .int (4 : Int32)]) (mX12_c G.2.2.2.2.2.2.1 M hv_2) mv_X12_117 (kd148 M) cl12 rfl rfl rfl rfl rfl dX12_hour_23 ?_
      refine x_iconst G (v := 1) dX12_hour_26 (by decide) ?_
      refine x_icmpne G (tgt := 33) dX12_hour_27 (by decide) hf (fun c_3 hf => ?_) (fun c_3 hf => ?_)
      · refine x_goto G (tgt := 113) dX12_hour_30 (by decide) ?_
        refine x_iinc G (lv' := [some (.ref 148), some (.int (v1 + (1 : Int32)))]) (v := 1) dX12_hour_113 rfl (by decide) rfl rfl rfl ?_
        refine x_goto G (tgt := 14) dX12_hour_116 (by decide) ?_
        exact XW.sub (lv' := [some (.ref 148), some (.int (v1 + (1 : Int32)))]) (And.intro rfl (And.intro rfl trivial)) (ih _ _ hf)
      · refine x_aload_n G dX12_hour_33 rfl rfl ?_
        refine x_getR G (kd148 M) 1 (b := 149) rfl cl12 rfl wf_X12_13 dX12_hour_34 ?_
        refine x_bipush G (v := 15) dX12_hour_37 (by decide) ?_
        refine x_iload_n G dX12_hour_39 rfl rfl ?_
        refine x_imul G dX12_hour_40 ?_
        refine x_bipush G (v := 9) dX12_hour_41 (by decide) ?_
        refine x_iadd G dX12_hour_43 ?_
        refine x_dup2 G dX12_hour_44 rfl rfl ?_
        refine x_iald G (kd149 M) dX12_hour_45 hf (fun hb_4 hf => ?_)
        refine x_aload_n G dX12_hour_46 rfl rfl ?_
        refine x_iload_n G dX12_hour_47 rfl rfl ?_
        refine x_iconst G (v := 2) dX12_hour_48 (by decide) ?_
        obtain ⟨v_5, hv_5, hf⟩ := bnd hf
        refine x_virI G (As := [.int v1, .int (2 : Int32)]) (mX12_c G.2.2.2.2.2.2.1 M hv_5) mv_X12_117 (kd148 M) cl12 rfl rfl rfl rfl rfl dX12_hour_49 ?_
        refine x_bipush G (v := 100) dX12_hour_52 (by decide) ?_
        refine x_idiv G dX12_hour_54 (by decide) ?_
        refine x_iadd G dX12_hour_55 ?_
        refine x_iast0 G (kd149 M) dX12_hour_56 hb_4 ?_
        refine nwr hf (fun w_6 hf => ?_)
        refine x_aload_n G dX12_hour_57 rfl rfl ?_
        refine x_getR G (kd148 M) 1 (b := 149) rfl cl12 rfl wf_X12_13 dX12_hour_58 ?_
        refine x_bipush G (v := 15) dX12_hour_61 (by decide) ?_
        refine x_iload_n G dX12_hour_63 rfl rfl ?_
        refine x_imul G dX12_hour_64 ?_
        refine x_bipush G (v := 10) dX12_hour_65 (by decide) ?_
        refine x_iadd G dX12_hour_67 ?_
        refine x_dup2 G dX12_hour_68 rfl rfl ?_
        refine x_iald G (kd149 M) dX12_hour_69 hf (fun hb_7 hf => ?_)
        refine x_aload_n G dX12_hour_70 rfl rfl ?_
        refine x_iconst G (v := 3) dX12_hour_71 (by decide) ?_
        obtain ⟨v_8, hv_8, hf⟩ := bnd hf
        refine x_virI G (As := [.int (3 : Int32)]) (mX12_g G.2.2.2.2.2.2.1 M hv_8) mv_X12_101 (kd148 M) cl12 rfl rfl rfl rfl rfl dX12_hour_72 ?_
        refine x_iadd G dX12_hour_75 ?_
        refine x_iast0 G (kd149 M) dX12_hour_76 hb_7 ?_
        refine nwr hf (fun w_9 hf => ?_)
        refine x_aload_n G dX12_hour_77 rfl rfl ?_
        refine x_getR G (kd148 M) 1 (b := 149) rfl cl12 rfl wf_X12_13 dX12_hour_78 ?_
        refine x_sipush G (v := 4305) dX12_hour_81 (by decide) ?_
        refine x_dup2 G dX12_hour_84 rfl rfl ?_
        refine x_iald0 G (kd149 M) dX12_hour_85 (by decide) ?_
        refine x_aload_n G dX12_hour_86 rfl rfl ?_
        refine x_iload_n G dX12_hour_87 rfl rfl ?_
        refine x_iconst G (v := 2) dX12_hour_88 (by decide) ?_
        obtain ⟨v_10, hv_10, hf⟩ := bnd hf
        refine x_virI G (As := [.int v1, .int (2 : Int32)]) (mX12_c G.2.2.2.2.2.2.1 M hv_10) mv_X12_117 (kd148 M) cl12 rfl rfl rfl rfl rfl dX12_hour_89 ?_
        refine x_bipush G (v := 100) dX12_hour_92 (by decide) ?_
        refine x_idiv G dX12_hour_94 (by decide) ?_
        refine x_iadd G dX12_hour_95 ?_
        refine x_iast0 G (kd149 M) dX12_hour_96 (by decide) ?_
        refine nwr hf (fun w_11 hf => ?_)
        refine x_aload_n G dX12_hour_97 rfl rfl ?_
        refine x_getR G (kd148 M) 1 (b := 149) rfl cl12 rfl wf_X12_13 dX12_hour_98 ?_
        refine x_sipush G (v := 4306) dX12_hour_101 (by decide) ?_
        refine x_dup2 G dX12_hour_104 rfl rfl ?_
        refine x_iald0 G (kd149 M) dX12_hour_105 (by decide) ?_
        refine x_aload_n G dX12_hour_106 rfl rfl ?_
        refine x_iconst G (v := 3) dX12_hour_107 (by decide) ?_
        obtain ⟨v_12, hv_12, hf⟩ := bnd hf
        refine x_virI G (As := [.int (3 : Int32)]) (mX12_g G.2.2.2.2.2.2.1 M hv_12) mv_X12_101 (kd148 M) cl12 rfl rfl rfl rfl rfl dX12_hour_108 ?_
        refine x_iadd G dX12_hour_111 ?_
        refine x_iast0 G (kd149 M) dX12_hour_112 (by decide) ?_
        refine nwr hf (fun w_13 hf => ?_)
        refine x_iinc G (lv' := [some (.ref 148), some (.int (v1 + (1 : Int32)))]) (v := 1) dX12_hour_113 rfl (by decide) rfl rfl rfl ?_
        refine x_goto G (tgt := 14) dX12_hour_116 (by decide) ?_
        exact XW.sub (lv' := [some (.ref 148), some (.int (v1 + (1 : Int32)))]) (And.intro rfl (And.intro rfl trivial)) (ih _ _ hf)
    · refine x_aload_n G dX12_hour_119 rfl rfl ?_
      obtain ⟨v_14, hv_14, hf⟩ := bnd hf
      refine x_virV G (As := []) (mX12_lookAtLines G.2.2.2.2.2.2.1 M hv_14) mv_X12_236 (kd148 M) cl12 rfl rfl rfl rfl rfl dX12_hour_120 ?_
      refine x_iconst G (v := 0) dX12_hour_123 (by decide) ?_
      refine x_istore_n G (lv' := [some (.ref 148), some (.int (0 : Int32))]) dX12_hour_124 rfl rfl rfl rfl ?_
      exact XW.sub (lv' := [some (.ref 148), some (.int (0 : Int32))]) (And.intro rfl (And.intro rfl trivial)) (xX12_hour_125 G M hr FU _ _ hf)

set_option maxHeartbeats 4000000 in
set_option maxRecDepth 100000 in
theorem xX12_hour_e {K : KT} {w : Wd} {r : Wd} (G : GK K cX12_hour RX12 2 205) (M : Main K.ks) (hf : fX12_hour w = some r) (hr : RV K r) : XW K 0 [some (.ref 148), none] [] w := by
  unfold fX12_hour at hf
  refine x_aload_n G dX12_hour_0 rfl rfl ?_
  refine x_getR G (kd148 M) 1 (b := 149) rfl cl12 rfl wf_X12_13 dX12_hour_1 ?_
  refine x_sipush G (v := 4300) dX12_hour_4 (by decide) ?_
  refine x_dup2 G dX12_hour_7 rfl rfl ?_
  refine x_iald0 G (kd149 M) dX12_hour_8 (by decide) ?_
  refine x_iconst G (v := 1) dX12_hour_9 (by decide) ?_
  refine x_iadd G dX12_hour_10 ?_
  refine x_iast0 G (kd149 M) dX12_hour_11 (by decide) ?_
  refine nwr hf (fun w_1 hf => ?_)
  refine x_iconst G (v := 0) dX12_hour_12 (by decide) ?_
  refine x_istore_n G (lv' := [some (.ref 148), some (.int (0 : Int32))]) dX12_hour_13 rfl rfl rfl rfl ?_
  exact XW.sub (lv' := [some (.ref 148), some (.int (0 : Int32))]) (And.intro rfl (And.intro rfl trivial)) (xX12_hour_14 G M hr FU _ _ hf)

theorem mX12_hour {l : Launch} {S : KS} {w : Wd} (hI : Inj S) (M : Main S) {r : Wd} (hf : fX12_hour w = some r) : CV l yX12_hour cX12_hour 2 none 205 S [.ref 148] w r := by
  intro sz
  refine mk_entry rfl (by decide +kernel) hI 1 rfl rfl (fun K h1 h2 h3 h4 h5 h6 G => ?_)
  subst h2
  exact xX12_hour_e G M hf ⟨h3, by rw [h4, h6], h5⟩

set_option maxHeartbeats 4000000 in
set_option maxRecDepth 100000 in
theorem xX12_hours_36 {K : KT} {r : Int32 × Wd} (G : GK K cX12_hours RX12 3 206) (M : Main K.ks) (hr : RI K .int r.1 r.2) : ∀ (n : Nat) (v1 : Int32) (v2 : Int32) (w : Wd), fX12_hours_36 n v1 v2 w = some r → XW K 36 [some (.ref 148), some (.int v1), some (.int v2)] [] w := by
  intro n
  induction n with
  | zero =>
    intro v1 v2 w hf
    unfold fX12_hours_36 at hf
    cases hf
  | succ n ih =>
    intro v1 v2 w hf
    unfold fX12_hours_36 at hf
    refine x_iload_n G dX12_hours_36 rfl rfl ?_
    refine x_iload_n G dX12_hours_37 rfl rfl ?_
    refine x_icmpge G (tgt := 51) dX12_hours_38 (by decide) hf (fun c_1 hf => ?_) (fun c_1 hf => ?_)
    · refine x_aload_n G dX12_hours_41 rfl rfl ?_
      obtain ⟨v_2, hv_2, hf⟩ := bnd hf
      refine x_virV G (As := []) (mX12_hour G.2.2.2.2.2.2.1 M hv_2) mv_X12_276 (kd148 M) cl12 rfl rfl rfl rfl rfl dX12_hours_42 ?_
      refine x_iinc G (lv' := [some (.ref 148), some (.int v1), some (.int (v2 + (1 : Int32)))]) (v := 1) dX12_hours_45 rfl (by decide) rfl rfl rfl ?_
      refine x_goto G (tgt := 36) dX12_hours_48 (by decide) ?_
      exact XW.sub (lv' := [some (.ref 148), some (.int v1), some (.int (v2 + (1 : Int32)))]) (And.intro rfl (And.intro rfl (And.intro rfl trivial))) (ih _ _ _ hf)
    · refine x_aload_n G dX12_hours_51 rfl rfl ?_
      refine x_iconst G (v := 0) dX12_hours_52 (by decide) ?_
      obtain ⟨v_3, hv_3, hf⟩ := bnd hf
      refine x_virI G (As := [.int (0 : Int32)]) (mX12_g G.2.2.2.2.2.2.1 M hv_3) mv_X12_101 (kd148 M) cl12 rfl rfl rfl rfl rfl dX12_hours_53 ?_
      exact x_iretW G hf hr dX12_hours_56

set_option maxHeartbeats 4000000 in
set_option maxRecDepth 100000 in
theorem xX12_hours_e {K : KT} {v1 : Int32} {w : Wd} {r : Int32 × Wd} (G : GK K cX12_hours RX12 3 206) (M : Main K.ks) (hf : fX12_hours v1 w = some r) (hr : RI K .int r.1 r.2) : XW K 0 [some (.ref 148), some (.int v1), none] [] w := by
  unfold fX12_hours at hf
  refine x_aload_n G dX12_hours_0 rfl rfl ?_
  refine x_iconst G (v := 0) dX12_hours_1 (by decide) ?_
  refine x_putI G (kd148 M) 0 rfl cl12 rfl wf_X12_1 rfl rfl rfl dX12_hours_2 ?_
  refine nwr hf (fun w_1 hf => ?_)
  refine x_iload_n G dX12_hours_5 rfl rfl ?_
  refine x_i2l G dX12_hours_6 ?_
  refine x_lconst G (v := 1) dX12_hours_7 (by decide) ?_
  refine x_ldc2 G wl_X12_274 dX12_hours_8 ?_
  obtain ⟨v_2, hv_2, hf⟩ := bnd hf
  refine x_staI G (As := [.long v1.toInt64, .long (1 : Int64), .long (240 : Int64)]) (mX12_in G.2.2.2.2.2.2.1 M hv_2) ms_X12_93 rfl rfl rfl rfl rfl dX12_hours_11 ?_
  refine x_ifneB G (tgt := 19) dX12_hours_14 (by decide) hf (fun c_3 hf => ?_) (fun c_3 hf => ?_)
  · refine x_aload_n G dX12_hours_19 rfl rfl ?_
    refine x_iconst G (v := 0) dX12_hours_20 (by decide) ?_
    obtain ⟨v_4, hv_4, hf⟩ := bnd hf
    refine x_virI G (As := [.int (0 : Int32)]) (mX12_g G.2.2.2.2.2.2.1 M hv_4) mv_X12_101 (kd148 M) cl12 rfl rfl rfl rfl rfl dX12_hours_21 ?_
    refine x_iload_n G dX12_hours_24 rfl rfl ?_
    refine x_iadd G dX12_hours_25 ?_
    refine x_ldc G wc_X12_229 dX12_hours_26 ?_
    refine x_icmple G (tgt := 34) dX12_hours_28 (by decide) hf (fun c_5 hf => ?_) (fun c_5 hf => ?_)
    · refine x_bipush G (v := -2) dX12_hours_31 (by decide) ?_
      exact x_iretW G hf hr dX12_hours_33
    · refine x_iconst G (v := 0) dX12_hours_34 (by decide) ?_
      refine x_istore_n G (lv' := [some (.ref 148), some (.int v1), some (.int (0 : Int32))]) dX12_hours_35 rfl rfl rfl rfl ?_
      exact XW.sub (lv' := [some (.ref 148), some (.int v1), some (.int (0 : Int32))]) (And.intro rfl (And.intro rfl (And.intro rfl trivial))) (xX12_hours_36 G M hr FU _ _ _ hf)
  · refine x_iconst G (v := -1) dX12_hours_17 (by decide) ?_
    exact x_iretW G hf hr dX12_hours_18

theorem mX12_hours {l : Launch} {S : KS} {w : Wd} (hI : Inj S) (M : Main S) {v1 : Int32} {r : Int32 × Wd} (hf : fX12_hours v1 w = some r) : CI l yX12_hours cX12_hours 3 (some .int) 206 S [.ref 148, .int v1] w r.1 r.2 := by
  intro sz
  refine mk_entry rfl (by decide +kernel) hI 1 rfl rfl (fun K h1 h2 h3 h4 h5 h6 G => ?_)
  subst h2
  exact xX12_hours_e G M hf ⟨h3, by rw [h4, h6], h5⟩

set_option maxHeartbeats 4000000 in
set_option maxRecDepth 100000 in
theorem xX12_house_88 {K : KT} {s1 : Int32} {s2 : Int32} {w : Wd} {r : Int32 × Wd} (G : GK K cX12_house RX12 3 3) (M : Main K.ks) (hf : fX12_house_88 s1 s2 w = some r) (hr : RI K .int r.1 r.2) : XW K 88 [none, none, none] [.int s2, .int s1, .ref 148] w := by
  unfold fX12_house_88 at hf
  obtain ⟨v_1, hv_1, hf⟩ := bnd hf
  refine x_virI G (As := [.int s1, .int s2]) (mX12_h G.2.2.2.2.2.2.1 M hv_1) mv_X12_226 (kd148 M) cl12 rfl rfl rfl rfl rfl dX12_house_88 ?_
  exact x_iretW G hf hr dX12_house_91

set_option maxHeartbeats 4000000 in
set_option maxRecDepth 100000 in
theorem xX12_house_47 {K : KT} {v1 : Int32} {v2 : Int32} {s0 : Int32} {s1 : Int32} {w : Wd} {r : Int32 × Wd} (G : GK K cX12_house RX12 3 3) (M : Main K.ks) (hf : fX12_house_47 v1 v2 s0 s1 w = some r) (hr : RI K .int r.1 r.2) : XW K 47 [some (.ref 148), some (.int v1), some (.int v2)] [.int s1, .int s0] w := by
  unfold fX12_house_47 at hf
  refine x_icmpeq G (tgt := 57) dX12_house_47 (by decide) hf (fun c_1 hf => ?_) (fun c_1 hf => ?_)
  · refine x_aload_n G dX12_house_57 rfl rfl ?_
    refine x_iload_n G dX12_house_58 rfl rfl ?_
    refine x_iload_n G dX12_house_59 rfl rfl ?_
    refine x_ifne G (tgt := 68) dX12_house_60 (by decide) hf (fun c_2 hf => ?_) (fun c_2 hf => ?_)
    · refine x_bipush G (v := 8) dX12_house_63 (by decide) ?_
      refine x_goto G (tgt := 88) dX12_house_65 (by decide) ?_
      exact XW.sub (lv' := [none, none, none]) trivial (xX12_house_88 G M hf hr)
    · refine x_iload_n G dX12_house_68 rfl rfl ?_
      refine x_iconst G (v := 1) dX12_house_69 (by decide) ?_
      refine x_icmpne G (tgt := 78) dX12_house_70 (by decide) hf (fun c_3 hf => ?_) (fun c_3 hf => ?_)
      · refine x_bipush G (v := 9) dX12_house_73 (by decide) ?_
        refine x_goto G (tgt := 88) dX12_house_75 (by decide) ?_
        exact XW.sub (lv' := [none, none, none]) trivial (xX12_house_88 G M hf hr)
      · refine x_iload_n G dX12_house_78 rfl rfl ?_
        refine x_iconst G (v := 2) dX12_house_79 (by decide) ?_
        refine x_icmpne G (tgt := 87) dX12_house_80 (by decide) hf (fun c_4 hf => ?_) (fun c_4 hf => ?_)
        · refine x_iconst G (v := 3) dX12_house_83 (by decide) ?_
          refine x_goto G (tgt := 88) dX12_house_84 (by decide) ?_
          exact XW.sub (lv' := [none, none, none]) trivial (xX12_house_88 G M hf hr)
        · refine x_iconst G (v := 4) dX12_house_87 (by decide) ?_
          exact XW.sub (lv' := [none, none, none]) trivial (xX12_house_88 G M hf hr)
  · refine x_aload_n G dX12_house_50 rfl rfl ?_
    refine x_iconst G (v := 2) dX12_house_51 (by decide) ?_
    refine x_putI G (kd148 M) 0 rfl cl12 rfl wf_X12_1 rfl rfl rfl dX12_house_52 ?_
    refine nwr hf (fun w_5 hf => ?_)
    refine x_iconst G (v := 0) dX12_house_55 (by decide) ?_
    exact x_iretW G hf hr dX12_house_56

set_option maxHeartbeats 4000000 in
set_option maxRecDepth 100000 in
theorem xX12_house_24 {K : KT} {w : Wd} {r : Int32 × Wd} (G : GK K cX12_house RX12 3 3) (M : Main K.ks) (hf : fX12_house_24 w = some r) (hr : RI K .int r.1 r.2) : XW K 24 [some (.ref 148), none, none] [] w := by
  unfold fX12_house_24 at hf
  refine x_aload_n G dX12_house_24 rfl rfl ?_
  refine x_iconst G (v := 1) dX12_house_25 (by decide) ?_
  refine x_putI G (kd148 M) 0 rfl cl12 rfl wf_X12_1 rfl rfl rfl dX12_house_26 ?_
  refine nwr hf (fun w_1 hf => ?_)
  refine x_iconst G (v := 0) dX12_house_29 (by decide) ?_
  exact x_iretW G hf hr dX12_house_30

set_option maxHeartbeats 4000000 in
set_option maxRecDepth 100000 in
theorem xX12_house_e {K : KT} {v1 : Int32} {v2 : Int32} {w : Wd} {r : Int32 × Wd} (G : GK K cX12_house RX12 3 3) (M : Main K.ks) (hf : fX12_house v1 v2 w = some r) (hr : RI K .int r.1 r.2) : XW K 0 [some (.ref 148), some (.int v1), some (.int v2)] [] w := by
  unfold fX12_house at hf
  refine x_aload_n G dX12_house_0 rfl rfl ?_
  refine x_iconst G (v := 0) dX12_house_1 (by decide) ?_
  refine x_putI G (kd148 M) 0 rfl cl12 rfl wf_X12_1 rfl rfl rfl dX12_house_2 ?_
  refine nwr hf (fun w_1 hf => ?_)
  refine x_iload_n G dX12_house_5 rfl rfl ?_
  obtain ⟨v_2, hv_2, hf⟩ := bnd hf
  refine x_staI G (As := [.int v1]) (mX12_isCell G.2.2.2.2.2.2.1 M hv_2) ms_X12_105 rfl rfl rfl rfl rfl dX12_house_6 ?_
  refine x_ifeqB G (tgt := 24) dX12_house_9 (by decide) hf (fun c_3 hf => ?_) (fun c_3 hf => ?_)
  · refine x_iload_n G dX12_house_12 rfl rfl ?_
    refine x_i2l G dX12_house_13 ?_
    refine x_lconst G (v := 0) dX12_house_14 (by decide) ?_
    refine x_ldc2 G wl_X12_113 dX12_house_15 ?_
    obtain ⟨v_4, hv_4, hf⟩ := bnd hf
    refine x_staI G (As := [.long v2.toInt64, .long (0 : Int64), .long (3 : Int64)]) (mX12_in G.2.2.2.2.2.2.1 M hv_4) ms_X12_93 rfl rfl rfl rfl rfl dX12_house_18 ?_
    refine x_ifneB G (tgt := 31) dX12_house_21 (by decide) hf (fun c_5 hf => ?_) (fun c_5 hf => ?_)
    · refine x_aload_n G dX12_house_31 rfl rfl ?_
      refine x_iload_n G dX12_house_32 rfl rfl ?_
      refine x_iconst G (v := 0) dX12_house_33 (by decide) ?_
      obtain ⟨v_6, hv_6, hf⟩ := bnd hf
      refine x_virI G (As := [.int v1, .int (0 : Int32)]) (mX12_h G.2.2.2.2.2.2.1 M hv_6) mv_X12_226 (kd148 M) cl12 rfl rfl rfl rfl rfl dX12_house_34 ?_
      refine x_iload_n G dX12_house_37 rfl rfl ?_
      refine x_iconst G (v := 2) dX12_house_38 (by decide) ?_
      refine x_icmpge G (tgt := 46) dX12_house_39 (by decide) hf (fun c_7 hf => ?_) (fun c_7 hf => ?_)
      · refine x_iconst G (v := 2) dX12_house_42 (by decide) ?_
        refine x_goto G (tgt := 47) dX12_house_43 (by decide) ?_
        exact (xX12_house_47 G M hf hr)
      · refine x_iconst G (v := 1) dX12_house_46 (by decide) ?_
        exact (xX12_house_47 G M hf hr)
    · exact XW.sub (lv' := [some (.ref 148), none, none]) (And.intro rfl trivial) (xX12_house_24 G M hf hr)
  · exact XW.sub (lv' := [some (.ref 148), none, none]) (And.intro rfl trivial) (xX12_house_24 G M hf hr)

theorem mX12_house {l : Launch} {S : KS} {w : Wd} (hI : Inj S) (M : Main S) {v1 : Int32} {v2 : Int32} {r : Int32 × Wd} (hf : fX12_house v1 v2 w = some r) : CI l yX12_house cX12_house 3 (some .int) 3 S [.ref 148, .int v1, .int v2] w r.1 r.2 := by
  intro sz
  refine mk_entry rfl (by decide +kernel) hI 0 rfl rfl (fun K h1 h2 h3 h4 h5 h6 G => ?_)
  subst h2
  exact xX12_house_e G M hf ⟨h3, by rw [h4, h6], h5⟩

set_option maxHeartbeats 4000000 in
set_option maxRecDepth 100000 in
theorem xX12_inForce_e {K : KT} {v1 : Int32} {v2 : Int32} {w : Wd} {r : Int32 × Wd} (G : GK K cX12_inForce RX12 4 2) (M : Main K.ks) (hf : fX12_inForce v1 v2 w = some r) (hr : RI K .int r.1 r.2) : XW K 0 [some (.ref 148), some (.int v1), some (.int v2), none] [] w := by
  unfold fX12_inForce at hf
  refine x_aload_n G dX12_inForce_0 rfl rfl ?_
  refine x_iconst G (v := 0) dX12_inForce_1 (by decide) ?_
  refine x_putI G (kd148 M) 0 rfl cl12 rfl wf_X12_1 rfl rfl rfl dX12_inForce_2 ?_
  refine nwr hf (fun w_1 hf => ?_)
  refine x_iload_n G dX12_inForce_5 rfl rfl ?_
  refine x_i2l G dX12_inForce_6 ?_
  refine x_lconst G (v := 0) dX12_inForce_7 (by decide) ?_
  refine x_ldc2 G wl_X12_339 dX12_inForce_8 ?_
  obtain ⟨v_2, hv_2, hf⟩ := bnd hf
  refine x_staI G (As := [.long v1.toInt64, .long (0 : Int64), .long (2 : Int64)]) (mX12_in G.2.2.2.2.2.2.1 M hv_2) ms_X12_93 rfl rfl rfl rfl rfl dX12_inForce_11 ?_
  refine x_ifeqB G (tgt := 29) dX12_inForce_14 (by decide) hf (fun c_3 hf => ?_) (fun c_3 hf => ?_)
  · refine x_iload_n G dX12_inForce_17 rfl rfl ?_
    refine x_i2l G dX12_inForce_18 ?_
    refine x_lconst G (v := 0) dX12_inForce_19 (by decide) ?_
    refine x_ldc2 G wl_X12_170 dX12_inForce_20 ?_
    obtain ⟨v_4, hv_4, hf⟩ := bnd hf
    refine x_staI G (As := [.long v2.toInt64, .long (0 : Int64), .long (4999 : Int64)]) (mX12_in G.2.2.2.2.2.2.1 M hv_4) ms_X12_93 rfl rfl rfl rfl rfl dX12_inForce_23 ?_
    refine x_ifneB G (tgt := 31) dX12_inForce_26 (by decide) hf (fun c_5 hf => ?_) (fun c_5 hf => ?_)
    · refine x_aload_n G dX12_inForce_31 rfl rfl ?_
      refine x_iload_n G dX12_inForce_32 rfl rfl ?_
      refine x_iload_n G dX12_inForce_33 rfl rfl ?_
      obtain ⟨v_6, hv_6, hf⟩ := bnd hf
      refine x_virI G (As := [.int v1, .int v2]) (mX12_forceOf G.2.2.2.2.2.2.1 M hv_6) mv_X12_344 (kd148 M) cl12 rfl rfl rfl rfl rfl dX12_inForce_34 ?_
      refine x_istore_n G (lv' := [some (.ref 148), some (.int v1), some (.int v2), some (.int v_6)]) dX12_inForce_37 rfl rfl rfl rfl ?_
      refine x_iload_n G dX12_inForce_38 rfl rfl ?_
      refine x_iconst G (v := -1) dX12_inForce_39 (by decide) ?_
      refine x_icmpne G (tgt := 48) dX12_inForce_40 (by decide) hf (fun c_7 hf => ?_) (fun c_7 hf => ?_)
      · refine x_bipush G (v := -9) dX12_inForce_43 (by decide) ?_
        refine x_goto G (tgt := 49) dX12_inForce_45 (by decide) ?_
        exact x_iretW G hf hr dX12_inForce_49
      · refine x_iload_n G dX12_inForce_48 rfl rfl ?_
        exact x_iretW G hf hr dX12_inForce_49
    · refine x_iconst G (v := -1) dX12_inForce_29 (by decide) ?_
      exact x_iretW G hf hr dX12_inForce_30
  · refine x_iconst G (v := -1) dX12_inForce_29 (by decide) ?_
    exact x_iretW G hf hr dX12_inForce_30

theorem mX12_inForce {l : Launch} {S : KS} {w : Wd} (hI : Inj S) (M : Main S) {v1 : Int32} {v2 : Int32} {r : Int32 × Wd} (hf : fX12_inForce v1 v2 w = some r) : CI l yX12_inForce cX12_inForce 4 (some .int) 2 S [.ref 148, .int v1, .int v2] w r.1 r.2 := by
  intro sz
  refine mk_entry rfl (by decide +kernel) hI 1 rfl rfl (fun K h1 h2 h3 h4 h5 h6 G => ?_)
  subst h2
  exact xX12_inForce_e G M hf ⟨h3, by rw [h4, h6], h5⟩

set_option maxHeartbeats 4000000 in
set_option maxRecDepth 100000 in
theorem xX12_judge_112 {K : KT} {v1 : Int32} {v2 : Int32} {v4 : Int32} {s0 : Int32} {s1 : Int32} {w : Wd} {r : Int32 × Wd} (G : GK K cX12_judge RX12 5 5) (M : Main K.ks) (k64 : Int32 → Int32 → Int32 → Int32 → Wd → Option (Int32 × Wd)) (hk64 : ∀ (v1 : Int32) (v2 : Int32) (v3 : Int32) (v4 : Int32) (w : Wd), k64 v1 v2 v3 v4 w = some r → XW K 64 [some (.ref 148), some (.int v1), some (.int v2), some (.int v3), some (.int v4)] [] w) (hf : fX12_judge_112 k64 v1 v2 v4 s0 s1 w = some r) (hr : RI K .int r.1 r.2) : XW K 112 [some (.ref 148), some (.int v1), some (.int v2), none, some (.int v4)] [.int s1, .int s0] w := by
  unfold fX12_judge_112 at hf
  refine x_ior G dX12_judge_112 ?_
  refine x_istore_n G (lv' := [some (.ref 148), some (.int v1), some (.int v2), some (.int (s0 ||| s1)), some (.int v4)]) dX12_judge_113 rfl rfl rfl rfl ?_
  refine x_aload_n G dX12_judge_114 rfl rfl ?_
  refine x_iload_n G dX12_judge_115 rfl rfl ?_
  obtain ⟨v_1, hv_1, hf⟩ := bnd hf
  refine x_virI G (As := [.int (s0 ||| s1)]) (mX12_costOf G.2.2.2.2.2.2.1 M hv_1) mv_X12_355 (kd148 M) cl12 rfl rfl rfl rfl rfl dX12_judge_116 ?_
  refine x_iload_n G dX12_judge_119 rfl rfl ?_
  refine x_icmple G (tgt := 129) dX12_judge_120 (by decide) hf (fun c_2 hf => ?_) (fun c_2 hf => ?_)
  · refine x_bipush G (v := -100) dX12_judge_123 (by decide) ?_
    refine x_iload G dX12_judge_125 rfl ?_
    refine x_isub G dX12_judge_127 ?_
    exact x_iretW G hf hr dX12_judge_128
  · refine x_iinc G (lv' := [some (.ref 148), some (.int v1), some (.int v2), some (.int (s0 ||| s1)), some (.int (v4 + (1 : Int32)))]) (v := 1) dX12_judge_129 rfl (by decide) rfl rfl rfl ?_
    refine x_goto G (tgt := 64) dX12_judge_132 (by decide) ?_
    exact XW.sub (lv' := [some (.ref 148), some (.int v1), some (.int v2), some (.int (s0 ||| s1)), some (.int (v4 + (1 : Int32)))]) (And.intro rfl (And.intro rfl (And.intro rfl (And.intro rfl (And.intro rfl trivial))))) (hk64 _ _ _ _ _ hf)

set_option maxHeartbeats 4000000 in
set_option maxRecDepth 100000 in
theorem xX12_judge_135 {K : KT} {v1 : Int32} {v3 : Int32} {w : Wd} {r : Int32 × Wd} (G : GK K cX12_judge RX12 5 5) (M : Main K.ks) (hf : fX12_judge_135 v1 v3 w = some r) (hr : RI K .int r.1 r.2) : XW K 135 [some (.ref 148), some (.int v1), none, some (.int v3), none] [] w := by
  unfold fX12_judge_135 at hf
  refine x_aload_n G dX12_judge_135 rfl rfl ?_
  refine x_getR G (kd148 M) 30 (b := 166) rfl cl12 rfl wf_X12_66 dX12_judge_136 ?_
  refine x_iload_n G dX12_judge_139 rfl rfl ?_
  refine x_iald G (kd166 M) dX12_judge_140 hf (fun hb_1 hf => ?_)
  refine x_aload_n G dX12_judge_141 rfl rfl ?_
  refine x_bipush G (v := 15) dX12_judge_142 (by decide) ?_
  obtain ⟨v_2, hv_2, hf⟩ := bnd hf
  refine x_virI G (As := [.int (15 : Int32)]) (mX12_g G.2.2.2.2.2.2.1 M hv_2) mv_X12_101 (kd148 M) cl12 rfl rfl rfl rfl rfl dX12_judge_144 ?_
  refine x_icmpge G (tgt := 159) dX12_judge_147 (by decide) hf (fun c_3 hf => ?_) (fun c_3 hf => ?_)
  · refine x_aload_n G dX12_judge_150 rfl rfl ?_
    refine x_bipush G (v := -13) dX12_judge_151 (by decide) ?_
    obtain ⟨v_4, hv_4, hf⟩ := bnd hf
    refine x_virI G (As := [.int (-13 : Int32)]) (mX12_host G.2.2.2.2.2.2.1 M hv_4) mv_X12_131 (kd148 M) cl12 rfl rfl rfl rfl rfl dX12_judge_153 ?_
    refine x_goto G (tgt := 164) dX12_judge_156 (by decide) ?_
    exact x_iretW G hf hr dX12_judge_164
  · refine x_aload_n G dX12_judge_159 rfl rfl ?_
    refine x_iload_n G dX12_judge_160 rfl rfl ?_
    obtain ⟨v_5, hv_5, hf⟩ := bnd hf
    refine x_virI G (As := [.int v3]) (mX12_fouledBy G.2.2.2.2.2.2.1 M hv_5) mv_X12_352 (kd148 M) cl12 rfl rfl rfl rfl rfl dX12_judge_161 ?_
    exact x_iretW G hf hr dX12_judge_164

set_option maxHeartbeats 4000000 in
set_option maxRecDepth 100000 in
theorem xX12_judge_64 {K : KT} {r : Int32 × Wd} (G : GK K cX12_judge RX12 5 5) (M : Main K.ks) (hr : RI K .int r.1 r.2) : ∀ (n : Nat) (v1 : Int32) (v2 : Int32) (v3 : Int32) (v4 : Int32) (w : Wd), fX12_judge_64 n v1 v2 v3 v4 w = some r → XW K 64 [some (.ref 148), some (.int v1), some (.int v2), some (.int v3), some (.int v4)] [] w := by
  intro n
  induction n with
  | zero =>
    intro v1 v2 v3 v4 w hf
    unfold fX12_judge_64 at hf
    cases hf
  | succ n ih =>
    intro v1 v2 v3 v4 w hf
    unfold fX12_judge_64 at hf
    refine x_iload G dX12_judge_64 rfl ?_
    refine x_aload_n G dX12_judge_66 rfl rfl ?_
    refine x_bipush G (v := 15) dX12_judge_67 (by decide) ?_
    obtain ⟨v_1, hv_1, hf⟩ := bnd hf
    refine x_virI G (As := [.int (15 : Int32)]) (mX12_g G.2.2.2.2.2.2.1 M hv_1) mv_X12_101 (kd148 M) cl12 rfl rfl rfl rfl rfl dX12_judge_69 ?_
    refine x_icmpge G (tgt := 135) dX12_judge_72 (by decide) hf (fun c_2 hf => ?_) (fun c_2 hf => ?_)
    · refine x_iload G dX12_judge_75 rfl ?_
      refine x_aload_n G dX12_judge_77 rfl rfl ?_
      refine x_getR G (kd148 M) 30 (b := 166) rfl cl12 rfl wf_X12_66 dX12_judge_78 ?_
      refine x_iload_n G dX12_judge_81 rfl rfl ?_
      refine x_iald G (kd166 M) dX12_judge_82 hf (fun hb_3 hf => ?_)
      refine x_icmpge G (tgt := 135) dX12_judge_83 (by decide) hf (fun c_4 hf => ?_) (fun c_4 hf => ?_)
      · refine x_iload_n G dX12_judge_86 rfl rfl ?_
        refine x_aload_n G dX12_judge_87 rfl rfl ?_
        refine x_getR G (kd148 M) 31 (b := 167) rfl cl12 rfl wf_X12_69 dX12_judge_88 ?_
        refine x_bipush G (v := 100) dX12_judge_91 (by decide) ?_
        refine x_iload_n G dX12_judge_93 rfl rfl ?_
        refine x_imul G dX12_judge_94 ?_
        refine x_iload G dX12_judge_95 rfl ?_
        refine x_iadd G dX12_judge_97 ?_
        refine x_lald G (kd167 M) dX12_judge_98 hf (fun hb_5 hf => ?_)
        refine x_lconst G (v := 0) dX12_judge_99 (by decide) ?_
        refine x_lcmp G dX12_judge_100 ?_
        refine x_ceq G (tgt := 111) dX12_judge_101 (by decide) hf (fun c_6 hf => ?_) (fun c_6 hf => ?_)
        · refine x_iconst G (v := 0) dX12_judge_111 (by decide) ?_
          exact XW.sub (lv' := [some (.ref 148), some (.int v1), some (.int v2), none, some (.int v4)]) (And.intro rfl (And.intro rfl (And.intro rfl (And.intro rfl trivial)))) (xX12_judge_112 G M (fX12_judge_64 n) ih hf hr)
        · refine x_iconst G (v := 1) dX12_judge_104 (by decide) ?_
          refine x_iload G dX12_judge_105 rfl ?_
          refine x_ishl G dX12_judge_107 ?_
          refine x_goto G (tgt := 112) dX12_judge_108 (by decide) ?_
          exact XW.sub (lv' := [some (.ref 148), some (.int v1), some (.int v2), none, some (.int v4)]) (And.intro rfl (And.intro rfl (And.intro rfl (And.intro rfl trivial)))) (xX12_judge_112 G M (fX12_judge_64 n) ih hf hr)
      · exact XW.sub (lv' := [some (.ref 148), some (.int v1), none, some (.int v3), none]) (And.intro rfl (And.intro rfl (And.intro rfl trivial))) (xX12_judge_135 G M hf hr)
    · exact XW.sub (lv' := [some (.ref 148), some (.int v1), none, some (.int v3), none]) (And.intro rfl (And.intro rfl (And.intro rfl trivial))) (xX12_judge_135 G M hf hr)

set_option maxHeartbeats 4000000 in
set_option maxRecDepth 100000 in
theorem xX12_judge_e {K : KT} {v1 : Int32} {v2 : Int32} {w : Wd} {r : Int32 × Wd} (G : GK K cX12_judge RX12 5 5) (M : Main K.ks) (hf : fX12_judge v1 v2 w = some r) (hr : RI K .int r.1 r.2) : XW K 0 [some (.ref 148), some (.int v1), some (.int v2), none, none] [] w := by
  unfold fX12_judge at hf
  refine x_aload_n G dX12_judge_0 rfl rfl ?_
  refine x_iconst G (v := 0) dX12_judge_1 (by decide) ?_
  refine x_putI G (kd148 M) 0 rfl cl12 rfl wf_X12_1 rfl rfl rfl dX12_judge_2 ?_
  refine nwr hf (fun w_1 hf => ?_)
  refine x_iload_n G dX12_judge_5 rfl rfl ?_
  obtain ⟨v_2, hv_2, hf⟩ := bnd hf
  refine x_staI G (As := [.int v1]) (mX12_isTape G.2.2.2.2.2.2.1 M hv_2) ms_X12_128 rfl rfl rfl rfl rfl dX12_judge_6 ?_
  refine x_ifeqB G (tgt := 24) dX12_judge_9 (by decide) hf (fun c_3 hf => ?_) (fun c_3 hf => ?_)
  · refine x_iload_n G dX12_judge_12 rfl rfl ?_
    refine x_i2l G dX12_judge_13 ?_
    refine x_lconst G (v := 0) dX12_judge_14 (by decide) ?_
    refine x_ldc2 G wl_X12_350 dX12_judge_15 ?_
    obtain ⟨v_4, hv_4, hf⟩ := bnd hf
    refine x_staI G (As := [.long v2.toInt64, .long (0 : Int64), .long (9999999 : Int64)]) (mX12_in G.2.2.2.2.2.2.1 M hv_4) ms_X12_93 rfl rfl rfl rfl rfl dX12_judge_18 ?_
    refine x_ifneB G (tgt := 26) dX12_judge_21 (by decide) hf (fun c_5 hf => ?_) (fun c_5 hf => ?_)
    · refine x_aload_n G dX12_judge_26 rfl rfl ?_
      refine x_getR G (kd148 M) 29 (b := 165) rfl cl12 rfl wf_X12_63 dX12_judge_27 ?_
      refine x_iload_n G dX12_judge_30 rfl rfl ?_
      refine x_iald G (kd165 M) dX12_judge_31 hf (fun hb_6 hf => ?_)
      refine x_ifne G (tgt := 42) dX12_judge_32 (by decide) hf (fun c_7 hf => ?_) (fun c_7 hf => ?_)
      · refine x_aload_n G dX12_judge_35 rfl rfl ?_
        refine x_bipush G (v := -11) dX12_judge_36 (by decide) ?_
        obtain ⟨v_8, hv_8, hf⟩ := bnd hf
        refine x_virI G (As := [.int (-11 : Int32)]) (mX12_host G.2.2.2.2.2.2.1 M hv_8) mv_X12_131 (kd148 M) cl12 rfl rfl rfl rfl rfl dX12_judge_38 ?_
        exact x_iretW G hf hr dX12_judge_41
      · refine x_aload_n G dX12_judge_42 rfl rfl ?_
        refine x_getR G (kd148 M) 29 (b := 165) rfl cl12 rfl wf_X12_63 dX12_judge_43 ?_
        refine x_iload_n G dX12_judge_46 rfl rfl ?_
        refine x_iald0 G (kd165 M) dX12_judge_47 hb_6 ?_
        refine x_iconst G (v := 5) dX12_judge_48 (by decide) ?_
        refine x_icmpeq G (tgt := 59) dX12_judge_49 (by decide) hf (fun c_9 hf => ?_) (fun c_9 hf => ?_)
        · refine x_iconst G (v := 0) dX12_judge_59 (by decide) ?_
          refine x_istore_n G (lv' := [some (.ref 148), some (.int v1), some (.int v2), some (.int (0 : Int32)), none]) dX12_judge_60 rfl rfl rfl rfl ?_
          refine x_iconst G (v := 0) dX12_judge_61 (by decide) ?_
          refine x_istore G (lv' := [some (.ref 148), some (.int v1), some (.int v2), some (.int (0 : Int32)), some (.int (0 : Int32))]) dX12_judge_62 rfl rfl rfl ?_
          exact XW.sub (lv' := [some (.ref 148), some (.int v1), some (.int v2), some (.int (0 : Int32)), some (.int (0 : Int32))]) (And.intro rfl (And.intro rfl (And.intro rfl (And.intro rfl (And.intro rfl trivial))))) (xX12_judge_64 G M hr FU _ _ _ _ _ hf)
        · refine x_aload_n G dX12_judge_52 rfl rfl ?_
          refine x_bipush G (v := -12) dX12_judge_53 (by decide) ?_
          obtain ⟨v_10, hv_10, hf⟩ := bnd hf
          refine x_virI G (As := [.int (-12 : Int32)]) (mX12_host G.2.2.2.2.2.2.1 M hv_10) mv_X12_131 (kd148 M) cl12 rfl rfl rfl rfl rfl dX12_judge_55 ?_
          exact x_iretW G hf hr dX12_judge_58
    · refine x_iconst G (v := -1) dX12_judge_24 (by decide) ?_
      exact x_iretW G hf hr dX12_judge_25
  · refine x_iconst G (v := -1) dX12_judge_24 (by decide) ?_
    exact x_iretW G hf hr dX12_judge_25

theorem mX12_judge {l : Launch} {S : KS} {w : Wd} (hI : Inj S) (M : Main S) {v1 : Int32} {v2 : Int32} {r : Int32 × Wd} (hf : fX12_judge v1 v2 w = some r) : CI l yX12_judge cX12_judge 5 (some .int) 5 S [.ref 148, .int v1, .int v2] w r.1 r.2 := by
  intro sz
  refine mk_entry rfl (by decide +kernel) hI 2 rfl rfl (fun K h1 h2 h3 h4 h5 h6 G => ?_)
  subst h2
  exact xX12_judge_e G M hf ⟨h3, by rw [h4, h6], h5⟩

set_option maxHeartbeats 4000000 in
set_option maxRecDepth 100000 in
theorem xX12_keep_31 {K : KT} {r : Int32 × Wd} (G : GK K cX12_keep RX12 3 3) (M : Main K.ks) (hr : RI K .int r.1 r.2) : ∀ (n : Nat) (v1 : Int32) (v2 : Int32) (w : Wd), fX12_keep_31 n v1 v2 w = some r → XW K 31 [some (.ref 148), some (.int v1), some (.int v2)] [] w := by
  intro n
  induction n with
  | zero =>
    intro v1 v2 w hf
    unfold fX12_keep_31 at hf
    cases hf
  | succ n ih =>
    intro v1 v2 w hf
    unfold fX12_keep_31 at hf
    refine x_iload_n G dX12_keep_31 rfl rfl ?_
    refine x_sipush G (v := 4340) dX12_keep_32 (by decide) ?_
    refine x_icmpge G (tgt := 62) dX12_keep_35 (by decide) hf (fun c_1 hf => ?_) (fun c_1 hf => ?_)
    · refine x_aload_n G dX12_keep_38 rfl rfl ?_
      refine x_getR G (kd148 M) 32 (b := 168) rfl cl12 rfl wf_X12_73 dX12_keep_39 ?_
      refine x_sipush G (v := 4340) dX12_keep_42 (by decide) ?_
      refine x_iload_n G dX12_keep_45 rfl rfl ?_
      refine x_imul G dX12_keep_46 ?_
      refine x_iload_n G dX12_keep_47 rfl rfl ?_
      refine x_iadd G dX12_keep_48 ?_
      refine x_aload_n G dX12_keep_49 rfl rfl ?_
      refine x_getR G (kd148 M) 1 (b := 149) rfl cl12 rfl wf_X12_13 dX12_keep_50 ?_
      refine x_iload_n G dX12_keep_53 rfl rfl ?_
      refine x_iald G (kd149 M) dX12_keep_54 hf (fun hb_2 hf => ?_)
      refine x_iast G (kd168 M) dX12_keep_55 hf (fun hb_3 hf => ?_)
      refine nwr hf (fun w_4 hf => ?_)
      refine x_iinc G (lv' := [some (.ref 148), some (.int v1), some (.int (v2 + (1 : Int32)))]) (v := 1) dX12_keep_56 rfl (by decide) rfl rfl rfl ?_
      refine x_goto G (tgt := 31) dX12_keep_59 (by decide) ?_
      exact XW.sub (lv' := [some (.ref 148), some (.int v1), some (.int (v2 + (1 : Int32)))]) (And.intro rfl (And.intro rfl (And.intro rfl trivial))) (ih _ _ _ hf)
    · refine x_aload_n G dX12_keep_62 rfl rfl ?_
      refine x_iconst G (v := 0) dX12_keep_63 (by decide) ?_
      obtain ⟨v_5, hv_5, hf⟩ := bnd hf
      refine x_virI G (As := [.int (0 : Int32)]) (mX12_g G.2.2.2.2.2.2.1 M hv_5) mv_X12_101 (kd148 M) cl12 rfl rfl rfl rfl rfl dX12_keep_64 ?_
      exact x_iretW G hf hr dX12_keep_67

set_option maxHeartbeats 4000000 in
set_option maxRecDepth 100000 in
theorem xX12_keep_e {K : KT} {v1 : Int32} {w : Wd} {r : Int32 × Wd} (G : GK K cX12_keep RX12 3 3) (M : Main K.ks) (hf : fX12_keep v1 w = some r) (hr : RI K .int r.1 r.2) : XW K 0 [some (.ref 148), some (.int v1), none] [] w := by
  unfold fX12_keep at hf
  refine x_aload_n G dX12_keep_0 rfl rfl ?_
  refine x_iconst G (v := 0) dX12_keep_1 (by decide) ?_
  refine x_putI G (kd148 M) 0 rfl cl12 rfl wf_X12_1 rfl rfl rfl dX12_keep_2 ?_
  refine nwr hf (fun w_1 hf => ?_)
  refine x_iload_n G dX12_keep_5 rfl rfl ?_
  obtain ⟨v_2, hv_2, hf⟩ := bnd hf
  refine x_staI G (As := [.int v1]) (mX12_isTape G.2.2.2.2.2.2.1 M hv_2) ms_X12_128 rfl rfl rfl rfl rfl dX12_keep_6 ?_
  refine x_ifneB G (tgt := 14) dX12_keep_9 (by decide) hf (fun c_3 hf => ?_) (fun c_3 hf => ?_)
  · refine x_aload_n G dX12_keep_14 rfl rfl ?_
    refine x_getR G (kd148 M) 29 (b := 165) rfl cl12 rfl wf_X12_63 dX12_keep_15 ?_
    refine x_iload_n G dX12_keep_18 rfl rfl ?_
    refine x_bipush G (v := 6) dX12_keep_19 (by decide) ?_
    refine x_iast G (kd165 M) dX12_keep_21 hf (fun hb_4 hf => ?_)
    refine nwr hf (fun w_5 hf => ?_)
    refine x_aload_n G dX12_keep_22 rfl rfl ?_
    refine x_getR G (kd148 M) 30 (b := 166) rfl cl12 rfl wf_X12_66 dX12_keep_23 ?_
    refine x_iload_n G dX12_keep_26 rfl rfl ?_
    refine x_iconst G (v := 0) dX12_keep_27 (by decide) ?_
    refine x_iast0 G (kd166 M) dX12_keep_28 hb_4 ?_
    refine nwr hf (fun w_6 hf => ?_)
    refine x_iconst G (v := 0) dX12_keep_29 (by decide) ?_
    refine x_istore_n G (lv' := [some (.ref 148), some (.int v1), some (.int (0 : Int32))]) dX12_keep_30 rfl rfl rfl rfl ?_
    exact XW.sub (lv' := [some (.ref 148), some (.int v1), some (.int (0 : Int32))]) (And.intro rfl (And.intro rfl (And.intro rfl trivial))) (xX12_keep_31 G M hr FU _ _ _ hf)
  · refine x_iconst G (v := -1) dX12_keep_12 (by decide) ?_
    exact x_iretW G hf hr dX12_keep_13

theorem mX12_keep {l : Launch} {S : KS} {w : Wd} (hI : Inj S) (M : Main S) {v1 : Int32} {r : Int32 × Wd} (hf : fX12_keep v1 w = some r) : CI l yX12_keep cX12_keep 3 (some .int) 3 S [.ref 148, .int v1] w r.1 r.2 := by
  intro sz
  refine mk_entry rfl (by decide +kernel) hI 1 rfl rfl (fun K h1 h2 h3 h4 h5 h6 G => ?_)
  subst h2
  exact xX12_keep_e G M hf ⟨h3, by rw [h4, h6], h5⟩

set_option maxHeartbeats 4000000 in
set_option maxRecDepth 100000 in
theorem xX12_kiln_e {K : KT} {v1 : Int32} {w : Wd} {r : Int32 × Wd} (G : GK K cX12_kiln RX12 3 2) (M : Main K.ks) (hf : fX12_kiln v1 w = some r) (hr : RI K .int r.1 r.2) : XW K 0 [some (.ref 148), some (.int v1), none] [] w := by
  unfold fX12_kiln at hf
  refine x_aload_n G dX12_kiln_0 rfl rfl ?_
  refine x_iconst G (v := 0) dX12_kiln_1 (by decide) ?_
  refine x_putI G (kd148 M) 0 rfl cl12 rfl wf_X12_1 rfl rfl rfl dX12_kiln_2 ?_
  refine nwr hf (fun w_1 hf => ?_)
  refine x_iload_n G dX12_kiln_5 rfl rfl ?_
  refine x_i2l G dX12_kiln_6 ?_
  refine x_lconst G (v := 0) dX12_kiln_7 (by decide) ?_
  refine x_ldc2 G wl_X12_115 dX12_kiln_8 ?_
  obtain ⟨v_2, hv_2, hf⟩ := bnd hf
  refine x_staI G (As := [.long v1.toInt64, .long (0 : Int64), .long (9999 : Int64)]) (mX12_in G.2.2.2.2.2.2.1 M hv_2) ms_X12_93 rfl rfl rfl rfl rfl dX12_kiln_11 ?_
  refine x_ifneB G (tgt := 19) dX12_kiln_14 (by decide) hf (fun c_3 hf => ?_) (fun c_3 hf => ?_)
  · refine x_aload_n G dX12_kiln_19 rfl rfl ?_
    refine x_iconst G (v := 2) dX12_kiln_20 (by decide) ?_
    obtain ⟨v_4, hv_4, hf⟩ := bnd hf
    refine x_virI G (As := [.int (2 : Int32)]) (mX12_g G.2.2.2.2.2.2.1 M hv_4) mv_X12_101 (kd148 M) cl12 rfl rfl rfl rfl rfl dX12_kiln_21 ?_
    refine x_istore_n G (lv' := [some (.ref 148), some (.int v1), some (.int v_4)]) dX12_kiln_24 rfl rfl rfl rfl ?_
    refine x_aload_n G dX12_kiln_25 rfl rfl ?_
    refine x_getR G (kd148 M) 1 (b := 149) rfl cl12 rfl wf_X12_13 dX12_kiln_26 ?_
    refine x_sipush G (v := 4302) dX12_kiln_29 (by decide) ?_
    refine x_iload_n G dX12_kiln_32 rfl rfl ?_
    refine x_iast0 G (kd149 M) dX12_kiln_33 (by decide) ?_
    refine nwr hf (fun w_5 hf => ?_)
    refine x_iload_n G dX12_kiln_34 rfl rfl ?_
    exact x_iretW G hf hr dX12_kiln_35
  · refine x_iconst G (v := -1) dX12_kiln_17 (by decide) ?_
    exact x_iretW G hf hr dX12_kiln_18

theorem mX12_kiln {l : Launch} {S : KS} {w : Wd} (hI : Inj S) (M : Main S) {v1 : Int32} {r : Int32 × Wd} (hf : fX12_kiln v1 w = some r) : CI l yX12_kiln cX12_kiln 3 (some .int) 2 S [.ref 148, .int v1] w r.1 r.2 := by
  intro sz
  refine mk_entry rfl (by decide +kernel) hI 1 rfl rfl (fun K h1 h2 h3 h4 h5 h6 G => ?_)
  subst h2
  exact xX12_kiln_e G M hf ⟨h3, by rw [h4, h6], h5⟩

set_option maxHeartbeats 4000000 in
set_option maxRecDepth 100000 in
theorem xX12_holdOf_e {K : KT} {v1 : Int32} {w : Wd} {r : Int32 × Wd} (G : GK K cX12_holdOf RX12 2 6) (M : Main K.ks) (hf : fX12_holdOf v1 w = some r) (hr : RI K .int r.1 r.2) : XW K 0 [some (.ref 148), some (.int v1)] [] w := by
  unfold fX12_holdOf at hf
  refine x_aload_n G dX12_holdOf_0 rfl rfl ?_
  obtain ⟨v_1, hv_1, hf⟩ := bnd hf
  refine x_virV G (As := []) (mX12_lookAtLines G.2.2.2.2.2.2.1 M hv_1) mv_X12_236 (kd148 M) cl12 rfl rfl rfl rfl rfl dX12_holdOf_1 ?_
  refine x_aload_n G dX12_holdOf_4 rfl rfl ?_
  refine x_iload_n G dX12_holdOf_5 rfl rfl ?_
  obtain ⟨v_2, hv_2, hf⟩ := bnd hf
  refine x_virI G (As := [.int v1]) (mX12_hold G.2.2.2.2.2.2.1 M hv_2) mv_X12_239 (kd148 M) cl12 rfl rfl rfl rfl rfl dX12_holdOf_6 ?_
  exact x_iretW G hf hr dX12_holdOf_9

theorem mX12_holdOf {l : Launch} {S : KS} {w : Wd} (hI : Inj S) (M : Main S) {v1 : Int32} {r : Int32 × Wd} (hf : fX12_holdOf v1 w = some r) : CI l yX12_holdOf cX12_holdOf 2 (some .int) 6 S [.ref 148, .int v1] w r.1 r.2 := by
  intro sz
  refine mk_entry rfl (by decide +kernel) hI 0 rfl rfl (fun K h1 h2 h3 h4 h5 h6 G => ?_)
  subst h2
  exact xX12_holdOf_e G M hf ⟨h3, by rw [h4, h6], h5⟩

set_option maxHeartbeats 4000000 in
set_option maxRecDepth 100000 in
theorem xX12_lasts_e {K : KT} {v1 : Int32} {v2 : Int32} {w : Wd} {r : Int32 × Wd} (G : GK K cX12_lasts RX12 4 7) (M : Main K.ks) (hf : fX12_lasts v1 v2 w = some r) (hr : RI K .int r.1 r.2) : XW K 0 [some (.ref 148), some (.int v1), some (.int v2), none] [] w := by
  unfold fX12_lasts at hf
  refine x_aload_n G dX12_lasts_0 rfl rfl ?_
  refine x_iconst G (v := 0) dX12_lasts_1 (by decide) ?_
  refine x_putI G (kd148 M) 0 rfl cl12 rfl wf_X12_1 rfl rfl rfl dX12_lasts_2 ?_
  refine nwr hf (fun w_1 hf => ?_)
  refine x_iload_n G dX12_lasts_5 rfl rfl ?_
  obtain ⟨v_2, hv_2, hf⟩ := bnd hf
  refine x_staI G (As := [.int v1]) (mX12_isCell G.2.2.2.2.2.2.1 M hv_2) ms_X12_105 rfl rfl rfl rfl rfl dX12_lasts_6 ?_
  refine x_ifeqB G (tgt := 16) dX12_lasts_9 (by decide) hf (fun c_3 hf => ?_) (fun c_3 hf => ?_)
  · refine x_iload_n G dX12_lasts_12 rfl rfl ?_
    refine x_ifge G (tgt := 18) dX12_lasts_13 (by decide) hf (fun c_4 hf => ?_) (fun c_4 hf => ?_)
    · refine x_iconst G (v := -1) dX12_lasts_16 (by decide) ?_
      exact x_iretW G hf hr dX12_lasts_17
    · refine x_aload_n G dX12_lasts_18 rfl rfl ?_
      refine x_iload_n G dX12_lasts_19 rfl rfl ?_
      obtain ⟨v_5, hv_5, hf⟩ := bnd hf
      refine x_virI G (As := [.int v1]) (mX12_holdOf G.2.2.2.2.2.2.1 M hv_5) mv_X12_122 (kd148 M) cl12 rfl rfl rfl rfl rfl dX12_lasts_20 ?_
      refine x_aload_n G dX12_lasts_23 rfl rfl ?_
      refine x_iload_n G dX12_lasts_24 rfl rfl ?_
      refine x_bipush G (v := 9) dX12_lasts_25 (by decide) ?_
      obtain ⟨v_6, hv_6, hf⟩ := bnd hf
      refine x_virI G (As := [.int v1, .int (9 : Int32)]) (mX12_c G.2.2.2.2.2.2.1 M hv_6) mv_X12_117 (kd148 M) cl12 rfl rfl rfl rfl rfl dX12_lasts_27 ?_
      refine x_isub G dX12_lasts_30 ?_
      refine x_aload_n G dX12_lasts_31 rfl rfl ?_
      refine x_iload_n G dX12_lasts_32 rfl rfl ?_
      refine x_bipush G (v := 10) dX12_lasts_33 (by decide) ?_
      obtain ⟨v_7, hv_7, hf⟩ := bnd hf
      refine x_virI G (As := [.int v1, .int (10 : Int32)]) (mX12_c G.2.2.2.2.2.2.1 M hv_7) mv_X12_117 (kd148 M) cl12 rfl rfl rfl rfl rfl dX12_lasts_35 ?_
      refine x_isub G dX12_lasts_38 ?_
      refine x_istore_n G (lv' := [some (.ref 148), some (.int v1), some (.int v2), some (.int ((v_5.1 - v_6) - v_7))]) dX12_lasts_39 rfl rfl rfl rfl ?_
      refine x_iload_n G dX12_lasts_40 rfl rfl ?_
      refine x_ifgt G (tgt := 46) dX12_lasts_41 (by decide) hf (fun c_8 hf => ?_) (fun c_8 hf => ?_)
      · refine x_iload_n G dX12_lasts_46 rfl rfl ?_
        refine x_ifne G (tgt := 57) dX12_lasts_47 (by decide) hf (fun c_9 hf => ?_) (fun c_9 hf => ?_)
        · refine x_aload_n G dX12_lasts_50 rfl rfl ?_
          refine x_bipush G (v := -16) dX12_lasts_51 (by decide) ?_
          obtain ⟨v_10, hv_10, hf⟩ := bnd hf
          refine x_virI G (As := [.int (-16 : Int32)]) (mX12_host G.2.2.2.2.2.2.1 M hv_10) mv_X12_131 (kd148 M) cl12 rfl rfl rfl rfl rfl dX12_lasts_53 ?_
          exact x_iretW G hf hr dX12_lasts_56
        · refine x_iload_n G dX12_lasts_57 rfl rfl ?_
          refine x_i2l G dX12_lasts_58 ?_
          refine x_iload_n G dX12_lasts_59 rfl rfl ?_
          refine x_i2l G dX12_lasts_60 ?_
          refine x_ladd G dX12_lasts_61 ?_
          refine x_lconst G (v := 1) dX12_lasts_62 (by decide) ?_
          refine x_lsub G dX12_lasts_63 ?_
          refine x_iload_n G dX12_lasts_64 rfl rfl ?_
          refine x_i2l G dX12_lasts_65 ?_
          refine x_ldivC G dX12_lasts_66 hf (fun hf => ?_)
          refine x_l2i G dX12_lasts_67 ?_
          exact x_iretW G hf hr dX12_lasts_68
      · refine x_iconst G (v := 0) dX12_lasts_44 (by decide) ?_
        exact x_iretW G hf hr dX12_lasts_45
  · refine x_iconst G (v := -1) dX12_lasts_16 (by decide) ?_
    exact x_iretW G hf hr dX12_lasts_17

theorem mX12_lasts {l : Launch} {S : KS} {w : Wd} (hI : Inj S) (M : Main S) {v1 : Int32} {v2 : Int32} {r : Int32 × Wd} (hf : fX12_lasts v1 v2 w = some r) : CI l yX12_lasts cX12_lasts 4 (some .int) 7 S [.ref 148, .int v1, .int v2] w r.1 r.2 := by
  intro sz
  refine mk_entry rfl (by decide +kernel) hI 1 rfl rfl (fun K h1 h2 h3 h4 h5 h6 G => ?_)
  subst h2
  exact xX12_lasts_e G M hf ⟨h3, by rw [h4, h6], h5⟩

