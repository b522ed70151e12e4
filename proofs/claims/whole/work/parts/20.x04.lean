theorem dX1_traceIsFouled_0 : decode cX1_traceIsFouled 0 = .ok (.iload_n 2, 1) := by decide +kernel
theorem dX1_traceIsFouled_1 : decode cX1_traceIsFouled 1 = .ok (.istore_n 3, 1) := by decide +kernel
theorem dX1_traceIsFouled_2 : decode cX1_traceIsFouled 2 = .ok (.iconst 0, 1) := by decide +kernel
theorem dX1_traceIsFouled_3 : decode cX1_traceIsFouled 3 = .ok (.istore 4, 2) := by decide +kernel
theorem dX1_traceIsFouled_5 : decode cX1_traceIsFouled 5 = .ok (.iconst 0, 1) := by decide +kernel
theorem dX1_traceIsFouled_6 : decode cX1_traceIsFouled 6 = .ok (.istore 5, 2) := by decide +kernel
theorem dX1_traceIsFouled_8 : decode cX1_traceIsFouled 8 = .ok (.iload 5, 2) := by decide +kernel
theorem dX1_traceIsFouled_10 : decode cX1_traceIsFouled 10 = .ok (.ifCond .ne 133, 3) := by decide +kernel
theorem dX1_traceIsFouled_13 : decode cX1_traceIsFouled 13 = .ok (.iload 4, 2) := by decide +kernel
theorem dX1_traceIsFouled_15 : decode cX1_traceIsFouled 15 = .ok (.bipush 100, 2) := by decide +kernel
theorem dX1_traceIsFouled_17 : decode cX1_traceIsFouled 17 = .ok (.if_icmp .ge 126, 3) := by decide +kernel
theorem dX1_traceIsFouled_20 : decode cX1_traceIsFouled 20 = .ok (.aload_n 0, 1) := by decide +kernel
theorem dX1_traceIsFouled_21 : decode cX1_traceIsFouled 21 = .ok (.getfield 27, 3) := by decide +kernel
theorem dX1_traceIsFouled_24 : decode cX1_traceIsFouled 24 = .ok (.iload_n 3, 1) := by decide +kernel
theorem dX1_traceIsFouled_25 : decode cX1_traceIsFouled 25 = .ok (.iaload, 1) := by decide +kernel
theorem dX1_traceIsFouled_26 : decode cX1_traceIsFouled 26 = .ok (.ifCond .eq 14, 3) := by decide +kernel
theorem dX1_traceIsFouled_29 : decode cX1_traceIsFouled 29 = .ok (.aload_n 0, 1) := by decide +kernel
theorem dX1_traceIsFouled_30 : decode cX1_traceIsFouled 30 = .ok (.getfield 27, 3) := by decide +kernel
theorem dX1_traceIsFouled_33 : decode cX1_traceIsFouled 33 = .ok (.iload_n 3, 1) := by decide +kernel
theorem dX1_traceIsFouled_34 : decode cX1_traceIsFouled 34 = .ok (.iaload, 1) := by decide +kernel
theorem dX1_traceIsFouled_35 : decode cX1_traceIsFouled 35 = .ok (.istore 5, 2) := by decide +kernel
theorem dX1_traceIsFouled_37 : decode cX1_traceIsFouled 37 = .ok (.goto (-29), 3) := by decide +kernel
theorem dX1_traceIsFouled_40 : decode cX1_traceIsFouled 40 = .ok (.aload_n 1, 1) := by decide +kernel
theorem dX1_traceIsFouled_41 : decode cX1_traceIsFouled 41 = .ok (.getfield 33, 3) := by decide +kernel
theorem dX1_traceIsFouled_44 : decode cX1_traceIsFouled 44 = .ok (.getfield 92, 3) := by decide +kernel
theorem dX1_traceIsFouled_47 : decode cX1_traceIsFouled 47 = .ok (.iload_n 3, 1) := by decide +kernel
theorem dX1_traceIsFouled_48 : decode cX1_traceIsFouled 48 = .ok (.iaload, 1) := by decide +kernel
theorem dX1_traceIsFouled_49 : decode cX1_traceIsFouled 49 = .ok (.iconst 1, 1) := by decide +kernel
theorem dX1_traceIsFouled_50 : decode cX1_traceIsFouled 50 = .ok (.if_icmp .ne 9, 3) := by decide +kernel
theorem dX1_traceIsFouled_53 : decode cX1_traceIsFouled 53 = .ok (.iconst 2, 1) := by decide +kernel
theorem dX1_traceIsFouled_54 : decode cX1_traceIsFouled 54 = .ok (.istore 5, 2) := by decide +kernel
theorem dX1_traceIsFouled_56 : decode cX1_traceIsFouled 56 = .ok (.goto (-48), 3) := by decide +kernel
theorem dX1_traceIsFouled_59 : decode cX1_traceIsFouled 59 = .ok (.aload_n 0, 1) := by decide +kernel
theorem dX1_traceIsFouled_60 : decode cX1_traceIsFouled 60 = .ok (.getfield 27, 3) := by decide +kernel
theorem dX1_traceIsFouled_63 : decode cX1_traceIsFouled 63 = .ok (.iload_n 3, 1) := by decide +kernel
theorem dX1_traceIsFouled_64 : decode cX1_traceIsFouled 64 = .ok (.iconst 1, 1) := by decide +kernel
theorem dX1_traceIsFouled_65 : decode cX1_traceIsFouled 65 = .ok (.iastore, 1) := by decide +kernel
theorem dX1_traceIsFouled_66 : decode cX1_traceIsFouled 66 = .ok (.aload_n 0, 1) := by decide +kernel
theorem dX1_traceIsFouled_67 : decode cX1_traceIsFouled 67 = .ok (.getfield 30, 3) := by decide +kernel
theorem dX1_traceIsFouled_70 : decode cX1_traceIsFouled 70 = .ok (.iload 4, 2) := by decide +kernel
theorem dX1_traceIsFouled_72 : decode cX1_traceIsFouled 72 = .ok (.iload_n 3, 1) := by decide +kernel
theorem dX1_traceIsFouled_73 : decode cX1_traceIsFouled 73 = .ok (.iastore, 1) := by decide +kernel
theorem dX1_traceIsFouled_74 : decode cX1_traceIsFouled 74 = .ok (.iinc 4 1, 3) := by decide +kernel
theorem dX1_traceIsFouled_77 : decode cX1_traceIsFouled 77 = .ok (.aload_n 1, 1) := by decide +kernel
theorem dX1_traceIsFouled_78 : decode cX1_traceIsFouled 78 = .ok (.getfield 121, 3) := by decide +kernel
theorem dX1_traceIsFouled_81 : decode cX1_traceIsFouled 81 = .ok (.getfield 125, 3) := by decide +kernel
theorem dX1_traceIsFouled_84 : decode cX1_traceIsFouled 84 = .ok (.iload_n 3, 1) := by decide +kernel
theorem dX1_traceIsFouled_85 : decode cX1_traceIsFouled 85 = .ok (.iaload, 1) := by decide +kernel
theorem dX1_traceIsFouled_86 : decode cX1_traceIsFouled 86 = .ok (.iconst 1, 1) := by decide +kernel
theorem dX1_traceIsFouled_87 : decode cX1_traceIsFouled 87 = .ok (.if_icmp .ne 15, 3) := by decide +kernel
theorem dX1_traceIsFouled_90 : decode cX1_traceIsFouled 90 = .ok (.aload_n 1, 1) := by decide +kernel
theorem dX1_traceIsFouled_91 : decode cX1_traceIsFouled 91 = .ok (.getfield 121, 3) := by decide +kernel
theorem dX1_traceIsFouled_94 : decode cX1_traceIsFouled 94 = .ok (.getfield 147, 3) := by decide +kernel
theorem dX1_traceIsFouled_97 : decode cX1_traceIsFouled 97 = .ok (.iload_n 3, 1) := by decide +kernel
theorem dX1_traceIsFouled_98 : decode cX1_traceIsFouled 98 = .ok (.iaload, 1) := by decide +kernel
theorem dX1_traceIsFouled_99 : decode cX1_traceIsFouled 99 = .ok (.goto 9, 3) := by decide +kernel
theorem dX1_traceIsFouled_102 : decode cX1_traceIsFouled 102 = .ok (.aload_n 0, 1) := by decide +kernel
theorem dX1_traceIsFouled_103 : decode cX1_traceIsFouled 103 = .ok (.getfield 9, 3) := by decide +kernel
theorem dX1_traceIsFouled_106 : decode cX1_traceIsFouled 106 = .ok (.iload_n 3, 1) := by decide +kernel
theorem dX1_traceIsFouled_107 : decode cX1_traceIsFouled 107 = .ok (.iaload, 1) := by decide +kernel
theorem dX1_traceIsFouled_108 : decode cX1_traceIsFouled 108 = .ok (.istore 6, 2) := by decide +kernel
theorem dX1_traceIsFouled_110 : decode cX1_traceIsFouled 110 = .ok (.aload_n 1, 1) := by decide +kernel
theorem dX1_traceIsFouled_111 : decode cX1_traceIsFouled 111 = .ok (.getfield 121, 3) := by decide +kernel
theorem dX1_traceIsFouled_114 : decode cX1_traceIsFouled 114 = .ok (.getfield 125, 3) := by decide +kernel
theorem dX1_traceIsFouled_117 : decode cX1_traceIsFouled 117 = .ok (.iload_n 3, 1) := by decide +kernel
theorem dX1_traceIsFouled_118 : decode cX1_traceIsFouled 118 = .ok (.iaload, 1) := by decide +kernel
theorem dX1_traceIsFouled_119 : decode cX1_traceIsFouled 119 = .ok (.iconst 2, 1) := by decide +kernel
theorem dX1_traceIsFouled_120 : decode cX1_traceIsFouled 120 = .ok (.if_icmp .eq 11, 3) := by decide +kernel
theorem dX1_traceIsFouled_123 : decode cX1_traceIsFouled 123 = .ok (.iload 6, 2) := by decide +kernel
theorem dX1_traceIsFouled_125 : decode cX1_traceIsFouled 125 = .ok (.invokestatic 130, 3) := by decide +kernel
theorem dX1_traceIsFouled_128 : decode cX1_traceIsFouled 128 = .ok (.ifCond .ne 9, 3) := by decide +kernel
theorem dX1_traceIsFouled_131 : decode cX1_traceIsFouled 131 = .ok (.iconst 1, 1) := by decide +kernel
theorem dX1_traceIsFouled_132 : decode cX1_traceIsFouled 132 = .ok (.istore 5, 2) := by decide +kernel
theorem dX1_traceIsFouled_134 : decode cX1_traceIsFouled 134 = .ok (.goto 6, 3) := by decide +kernel
theorem dX1_traceIsFouled_137 : decode cX1_traceIsFouled 137 = .ok (.iload 6, 2) := by decide +kernel
theorem dX1_traceIsFouled_139 : decode cX1_traceIsFouled 139 = .ok (.istore_n 3, 1) := by decide +kernel
theorem dX1_traceIsFouled_140 : decode cX1_traceIsFouled 140 = .ok (.goto (-132), 3) := by decide +kernel
theorem dX1_traceIsFouled_143 : decode cX1_traceIsFouled 143 = .ok (.iload 5, 2) := by decide +kernel
theorem dX1_traceIsFouled_145 : decode cX1_traceIsFouled 145 = .ok (.iconst 2, 1) := by decide +kernel
theorem dX1_traceIsFouled_146 : decode cX1_traceIsFouled 146 = .ok (.if_icmp .eq 5, 3) := by decide +kernel
theorem dX1_traceIsFouled_149 : decode cX1_traceIsFouled 149 = .ok (.iconst 0, 1) := by decide +kernel
theorem dX1_traceIsFouled_150 : decode cX1_traceIsFouled 150 = .ok (.ireturn, 1) := by decide +kernel
theorem dX1_traceIsFouled_151 : decode cX1_traceIsFouled 151 = .ok (.iconst 0, 1) := by decide +kernel
theorem dX1_traceIsFouled_152 : decode cX1_traceIsFouled 152 = .ok (.istore 6, 2) := by decide +kernel
theorem dX1_traceIsFouled_154 : decode cX1_traceIsFouled 154 = .ok (.iload 6, 2) := by decide +kernel
theorem dX1_traceIsFouled_156 : decode cX1_traceIsFouled 156 = .ok (.iload 4, 2) := by decide +kernel
theorem dX1_traceIsFouled_158 : decode cX1_traceIsFouled 158 = .ok (.if_icmp .ge 22, 3) := by decide +kernel
theorem dX1_traceIsFouled_161 : decode cX1_traceIsFouled 161 = .ok (.aload_n 0, 1) := by decide +kernel
theorem dX1_traceIsFouled_162 : decode cX1_traceIsFouled 162 = .ok (.getfield 27, 3) := by decide +kernel
theorem dX1_traceIsFouled_165 : decode cX1_traceIsFouled 165 = .ok (.aload_n 0, 1) := by decide +kernel
theorem dX1_traceIsFouled_166 : decode cX1_traceIsFouled 166 = .ok (.getfield 30, 3) := by decide +kernel
theorem dX1_traceIsFouled_169 : decode cX1_traceIsFouled 169 = .ok (.iload 6, 2) := by decide +kernel
theorem dX1_traceIsFouled_171 : decode cX1_traceIsFouled 171 = .ok (.iaload, 1) := by decide +kernel
theorem dX1_traceIsFouled_172 : decode cX1_traceIsFouled 172 = .ok (.iconst 2, 1) := by decide +kernel
theorem dX1_traceIsFouled_173 : decode cX1_traceIsFouled 173 = .ok (.iastore, 1) := by decide +kernel
theorem dX1_traceIsFouled_174 : decode cX1_traceIsFouled 174 = .ok (.iinc 6 1, 3) := by decide +kernel
theorem dX1_traceIsFouled_177 : decode cX1_traceIsFouled 177 = .ok (.goto (-23), 3) := by decide +kernel
theorem dX1_traceIsFouled_180 : decode cX1_traceIsFouled 180 = .ok (.iconst 1, 1) := by decide +kernel
theorem dX1_traceIsFouled_181 : decode cX1_traceIsFouled 181 = .ok (.ireturn, 1) := by decide +kernel
theorem dX1_peopleFouled_0 : decode cX1_peopleFouled 0 = .ok (.aload_n 0, 1) := by decide +kernel
theorem dX1_peopleFouled_1 : decode cX1_peopleFouled 1 = .ok (.aload_n 1, 1) := by decide +kernel
theorem dX1_peopleFouled_2 : decode cX1_peopleFouled 2 = .ok (.iload_n 2, 1) := by decide +kernel
theorem dX1_peopleFouled_3 : decode cX1_peopleFouled 3 = .ok (.invokevirtual 237, 3) := by decide +kernel
theorem dX1_peopleFouled_6 : decode cX1_peopleFouled 6 = .ok (.aload_n 0, 1) := by decide +kernel
theorem dX1_peopleFouled_7 : decode cX1_peopleFouled 7 = .ok (.getfield 27, 3) := by decide +kernel
theorem dX1_peopleFouled_10 : decode cX1_peopleFouled 10 = .ok (.iconst 0, 1) := by decide +kernel
theorem dX1_peopleFouled_11 : decode cX1_peopleFouled 11 = .ok (.invokestatic 115, 3) := by decide +kernel
theorem dX1_peopleFouled_14 : decode cX1_peopleFouled 14 = .ok (.iconst 0, 1) := by decide +kernel
theorem dX1_peopleFouled_15 : decode cX1_peopleFouled 15 = .ok (.istore_n 3, 1) := by decide +kernel
theorem dX1_peopleFouled_16 : decode cX1_peopleFouled 16 = .ok (.iconst 0, 1) := by decide +kernel
theorem dX1_peopleFouled_17 : decode cX1_peopleFouled 17 = .ok (.istore 4, 2) := by decide +kernel
theorem dX1_peopleFouled_19 : decode cX1_peopleFouled 19 = .ok (.iload 4, 2) := by decide +kernel
theorem dX1_peopleFouled_21 : decode cX1_peopleFouled 21 = .ok (.bipush 100, 2) := by decide +kernel
theorem dX1_peopleFouled_23 : decode cX1_peopleFouled 23 = .ok (.if_icmp .ge 62, 3) := by decide +kernel
theorem dX1_peopleFouled_26 : decode cX1_peopleFouled 26 = .ok (.aload_n 1, 1) := by decide +kernel
theorem dX1_peopleFouled_27 : decode cX1_peopleFouled 27 = .ok (.getfield 33, 3) := by decide +kernel
theorem dX1_peopleFouled_30 : decode cX1_peopleFouled 30 = .ok (.getfield 95, 3) := by decide +kernel
theorem dX1_peopleFouled_33 : decode cX1_peopleFouled 33 = .ok (.iload 4, 2) := by decide +kernel
theorem dX1_peopleFouled_35 : decode cX1_peopleFouled 35 = .ok (.iaload, 1) := by decide +kernel
theorem dX1_peopleFouled_36 : decode cX1_peopleFouled 36 = .ok (.ifCond .eq 43, 3) := by decide +kernel
theorem dX1_peopleFouled_39 : decode cX1_peopleFouled 39 = .ok (.aload_n 1, 1) := by decide +kernel
theorem dX1_peopleFouled_40 : decode cX1_peopleFouled 40 = .ok (.getfield 33, 3) := by decide +kernel
theorem dX1_peopleFouled_43 : decode cX1_peopleFouled 43 = .ok (.getfield 92, 3) := by decide +kernel
theorem dX1_peopleFouled_46 : decode cX1_peopleFouled 46 = .ok (.iload 4, 2) := by decide +kernel
theorem dX1_peopleFouled_48 : decode cX1_peopleFouled 48 = .ok (.iaload, 1) := by decide +kernel
theorem dX1_peopleFouled_49 : decode cX1_peopleFouled 49 = .ok (.iconst 1, 1) := by decide +kernel
theorem dX1_peopleFouled_50 : decode cX1_peopleFouled 50 = .ok (.if_icmp .ne 6, 3) := by decide +kernel
theorem dX1_peopleFouled_53 : decode cX1_peopleFouled 53 = .ok (.goto 26, 3) := by decide +kernel
theorem dX1_peopleFouled_56 : decode cX1_peopleFouled 56 = .ok (.aload_n 0, 1) := by decide +kernel
theorem dX1_peopleFouled_57 : decode cX1_peopleFouled 57 = .ok (.aload_n 1, 1) := by decide +kernel
theorem dX1_peopleFouled_58 : decode cX1_peopleFouled 58 = .ok (.iload 4, 2) := by decide +kernel
theorem dX1_peopleFouled_60 : decode cX1_peopleFouled 60 = .ok (.invokevirtual 241, 3) := by decide +kernel
theorem dX1_peopleFouled_63 : decode cX1_peopleFouled 63 = .ok (.ifCond .eq 16, 3) := by decide +kernel
theorem dX1_peopleFouled_66 : decode cX1_peopleFouled 66 = .ok (.iload_n 3, 1) := by decide +kernel
theorem dX1_peopleFouled_67 : decode cX1_peopleFouled 67 = .ok (.aload_n 1, 1) := by decide +kernel
theorem dX1_peopleFouled_68 : decode cX1_peopleFouled 68 = .ok (.getfield 33, 3) := by decide +kernel
theorem dX1_peopleFouled_71 : decode cX1_peopleFouled 71 = .ok (.getfield 95, 3) := by decide +kernel
theorem dX1_peopleFouled_74 : decode cX1_peopleFouled 74 = .ok (.iload 4, 2) := by decide +kernel
theorem dX1_peopleFouled_76 : decode cX1_peopleFouled 76 = .ok (.iaload, 1) := by decide +kernel
theorem dX1_peopleFouled_77 : decode cX1_peopleFouled 77 = .ok (.iadd, 1) := by decide +kernel
theorem dX1_peopleFouled_78 : decode cX1_peopleFouled 78 = .ok (.istore_n 3, 1) := by decide +kernel
theorem dX1_peopleFouled_79 : decode cX1_peopleFouled 79 = .ok (.iinc 4 1, 3) := by decide +kernel
theorem dX1_peopleFouled_82 : decode cX1_peopleFouled 82 = .ok (.goto (-63), 3) := by decide +kernel
theorem dX1_peopleFouled_85 : decode cX1_peopleFouled 85 = .ok (.iload_n 3, 1) := by decide +kernel
theorem dX1_peopleFouled_86 : decode cX1_peopleFouled 86 = .ok (.ireturn, 1) := by decide +kernel
theorem dX2_peopleOf_0 : decode cX2_peopleOf 0 = .ok (.iconst 0, 1) := by decide +kernel
theorem dX2_peopleOf_1 : decode cX2_peopleOf 1 = .ok (.istore_n 2, 1) := by decide +kernel
theorem dX2_peopleOf_2 : decode cX2_peopleOf 2 = .ok (.iconst 0, 1) := by decide +kernel
theorem dX2_peopleOf_3 : decode cX2_peopleOf 3 = .ok (.istore_n 3, 1) := by decide +kernel
theorem dX2_peopleOf_4 : decode cX2_peopleOf 4 = .ok (.iload_n 3, 1) := by decide +kernel
theorem dX2_peopleOf_5 : decode cX2_peopleOf 5 = .ok (.bipush 10, 2) := by decide +kernel
theorem dX2_peopleOf_7 : decode cX2_peopleOf 7 = .ok (.if_icmp .ge 23, 3) := by decide +kernel
theorem dX2_peopleOf_10 : decode cX2_peopleOf 10 = .ok (.iload_n 2, 1) := by decide +kernel
theorem dX2_peopleOf_11 : decode cX2_peopleOf 11 = .ok (.aload_n 0, 1) := by decide +kernel
theorem dX2_peopleOf_12 : decode cX2_peopleOf 12 = .ok (.getfield 18, 3) := by decide +kernel
theorem dX2_peopleOf_15 : decode cX2_peopleOf 15 = .ok (.bipush 10, 2) := by decide +kernel
theorem dX2_peopleOf_17 : decode cX2_peopleOf 17 = .ok (.iload_n 1, 1) := by decide +kernel
theorem dX2_peopleOf_18 : decode cX2_peopleOf 18 = .ok (.imul, 1) := by decide +kernel
theorem dX2_peopleOf_19 : decode cX2_peopleOf 19 = .ok (.iload_n 3, 1) := by decide +kernel
theorem dX2_peopleOf_20 : decode cX2_peopleOf 20 = .ok (.iadd, 1) := by decide +kernel
theorem dX2_peopleOf_21 : decode cX2_peopleOf 21 = .ok (.iaload, 1) := by decide +kernel
theorem dX2_peopleOf_22 : decode cX2_peopleOf 22 = .ok (.iadd, 1) := by decide +kernel
theorem dX2_peopleOf_23 : decode cX2_peopleOf 23 = .ok (.istore_n 2, 1) := by decide +kernel
theorem dX2_peopleOf_24 : decode cX2_peopleOf 24 = .ok (.iinc 3 1, 3) := by decide +kernel
theorem dX2_peopleOf_27 : decode cX2_peopleOf 27 = .ok (.goto (-23), 3) := by decide +kernel
theorem dX2_peopleOf_30 : decode cX2_peopleOf 30 = .ok (.iload_n 2, 1) := by decide +kernel
theorem dX2_peopleOf_31 : decode cX2_peopleOf 31 = .ok (.ireturn, 1) := by decide +kernel
theorem dX2_rowToSet_0 : decode cX2_rowToSet 0 = .ok (.iload_n 1, 1) := by decide +kernel
theorem dX2_rowToSet_1 : decode cX2_rowToSet 1 = .ok (.tableswitch 69 0 5 #[39, 44, 49, 54, 59, 64], 39) := by decide +kernel
theorem dX2_rowToSet_40 : decode cX2_rowToSet 40 = .ok (.aload_n 0, 1) := by decide +kernel
theorem dX2_rowToSet_41 : decode cX2_rowToSet 41 = .ok (.getfield 9, 3) := by decide +kernel
theorem dX2_rowToSet_44 : decode cX2_rowToSet 44 = .ok (.areturn, 1) := by decide +kernel
theorem dX2_rowToSet_45 : decode cX2_rowToSet 45 = .ok (.aload_n 0, 1) := by decide +kernel
theorem dX2_rowToSet_46 : decode cX2_rowToSet 46 = .ok (.getfield 15, 3) := by decide +kernel
theorem dX2_rowToSet_49 : decode cX2_rowToSet 49 = .ok (.areturn, 1) := by decide +kernel
theorem dX2_rowToSet_50 : decode cX2_rowToSet 50 = .ok (.aload_n 0, 1) := by decide +kernel
theorem dX2_rowToSet_51 : decode cX2_rowToSet 51 = .ok (.getfield 18, 3) := by decide +kernel
theorem dX2_rowToSet_54 : decode cX2_rowToSet 54 = .ok (.areturn, 1) := by decide +kernel
theorem dX2_rowToSet_55 : decode cX2_rowToSet 55 = .ok (.aload_n 0, 1) := by decide +kernel
theorem dX2_rowToSet_56 : decode cX2_rowToSet 56 = .ok (.getfield 21, 3) := by decide +kernel
theorem dX2_rowToSet_59 : decode cX2_rowToSet 59 = .ok (.areturn, 1) := by decide +kernel
theorem dX2_rowToSet_60 : decode cX2_rowToSet 60 = .ok (.aload_n 0, 1) := by decide +kernel
theorem dX2_rowToSet_61 : decode cX2_rowToSet 61 = .ok (.getfield 24, 3) := by decide +kernel
theorem dX2_rowToSet_64 : decode cX2_rowToSet 64 = .ok (.areturn, 1) := by decide +kernel
theorem dX2_rowToSet_65 : decode cX2_rowToSet 65 = .ok (.aload_n 0, 1) := by decide +kernel
theorem dX2_rowToSet_66 : decode cX2_rowToSet 66 = .ok (.getfield 27, 3) := by decide +kernel
theorem dX2_rowToSet_69 : decode cX2_rowToSet 69 = .ok (.areturn, 1) := by decide +kernel
theorem dX2_rowToSet_70 : decode cX2_rowToSet 70 = .ok (.aconst_null, 1) := by decide +kernel
theorem dX2_rowToSet_71 : decode cX2_rowToSet 71 = .ok (.areturn, 1) := by decide +kernel
theorem dX2_told_0 : decode cX2_told 0 = .ok (.aload_n 0, 1) := by decide +kernel
theorem dX2_told_1 : decode cX2_told 1 = .ok (.iload_n 2, 1) := by decide +kernel
theorem dX2_told_2 : decode cX2_told 2 = .ok (.invokevirtual 55, 3) := by decide +kernel
theorem dX2_told_5 : decode cX2_told 5 = .ok (.astore_n 3, 1) := by decide +kernel
theorem dX2_told_6 : decode cX2_told 6 = .ok (.aload_n 3, 1) := by decide +kernel
theorem dX2_told_7 : decode cX2_told 7 = .ok (.ifnull 7, 3) := by decide +kernel
theorem dX2_told_10 : decode cX2_told 10 = .ok (.aload_n 3, 1) := by decide +kernel
theorem dX2_told_11 : decode cX2_told 11 = .ok (.iload_n 1, 1) := by decide +kernel
theorem dX2_told_12 : decode cX2_told 12 = .ok (.iaload, 1) := by decide +kernel
theorem dX2_told_13 : decode cX2_told 13 = .ok (.ireturn, 1) := by decide +kernel
theorem dX2_told_14 : decode cX2_told 14 = .ok (.iload_n 2, 1) := by decide +kernel
theorem dX2_told_15 : decode cX2_told 15 = .ok (.bipush 6, 2) := by decide +kernel
theorem dX2_told_17 : decode cX2_told 17 = .ok (.if_icmp .ne 10, 3) := by decide +kernel
theorem dX2_told_20 : decode cX2_told 20 = .ok (.aload_n 0, 1) := by decide +kernel
theorem dX2_told_21 : decode cX2_told 21 = .ok (.getfield 30, 3) := by decide +kernel
theorem dX2_told_24 : decode cX2_told 24 = .ok (.iload_n 1, 1) := by decide +kernel
theorem dX2_told_25 : decode cX2_told 25 = .ok (.iaload, 1) := by decide +kernel
theorem dX2_told_26 : decode cX2_told 26 = .ok (.ireturn, 1) := by decide +kernel
theorem dX2_told_27 : decode cX2_told 27 = .ok (.iload_n 2, 1) := by decide +kernel
theorem dX2_told_28 : decode cX2_told 28 = .ok (.bipush 7, 2) := by decide +kernel
theorem dX2_told_30 : decode cX2_told 30 = .ok (.if_icmp .ne 12, 3) := by decide +kernel
theorem dX2_told_33 : decode cX2_told 33 = .ok (.aload_n 0, 1) := by decide +kernel
theorem dX2_told_34 : decode cX2_told 34 = .ok (.getfield 33, 3) := by decide +kernel
theorem dX2_told_37 : decode cX2_told 37 = .ok (.iload_n 1, 1) := by decide +kernel
theorem dX2_told_38 : decode cX2_told 38 = .ok (.iaload, 1) := by decide +kernel
theorem dX2_told_39 : decode cX2_told 39 = .ok (.goto 9, 3) := by decide +kernel
theorem dX2_told_42 : decode cX2_told 42 = .ok (.aload_n 0, 1) := by decide +kernel
theorem dX2_told_43 : decode cX2_told 43 = .ok (.getfield 36, 3) := by decide +kernel
theorem dX2_told_46 : decode cX2_told 46 = .ok (.iload_n 1, 1) := by decide +kernel
theorem dX2_told_47 : decode cX2_told 47 = .ok (.iaload, 1) := by decide +kernel
theorem dX2_told_48 : decode cX2_told 48 = .ok (.ireturn, 1) := by decide +kernel
theorem dX3_elsewhere_0 : decode cX3_elsewhere 0 = .ok (.iconst 0, 1) := by decide +kernel
theorem dX3_elsewhere_1 : decode cX3_elsewhere 1 = .ok (.istore_n 2, 1) := by decide +kernel
theorem dX3_elsewhere_2 : decode cX3_elsewhere 2 = .ok (.iconst 0, 1) := by decide +kernel
theorem dX3_elsewhere_3 : decode cX3_elsewhere 3 = .ok (.istore_n 3, 1) := by decide +kernel
theorem dX3_elsewhere_4 : decode cX3_elsewhere 4 = .ok (.iload_n 3, 1) := by decide +kernel
theorem dX3_elsewhere_5 : decode cX3_elsewhere 5 = .ok (.bipush 100, 2) := by decide +kernel
theorem dX3_elsewhere_7 : decode cX3_elsewhere 7 = .ok (.if_icmp .ge 26, 3) := by decide +kernel
theorem dX3_elsewhere_10 : decode cX3_elsewhere 10 = .ok (.iload_n 3, 1) := by decide +kernel
theorem dX3_elsewhere_11 : decode cX3_elsewhere 11 = .ok (.iload_n 1, 1) := by decide +kernel
theorem dX3_elsewhere_12 : decode cX3_elsewhere 12 = .ok (.if_icmp .eq 15, 3) := by decide +kernel
theorem dX3_elsewhere_15 : decode cX3_elsewhere 15 = .ok (.aload_n 0, 1) := by decide +kernel
theorem dX3_elsewhere_16 : decode cX3_elsewhere 16 = .ok (.getfield 9, 3) := by decide +kernel
theorem dX3_elsewhere_19 : decode cX3_elsewhere 19 = .ok (.iload_n 3, 1) := by decide +kernel
theorem dX3_elsewhere_20 : decode cX3_elsewhere 20 = .ok (.iaload, 1) := by decide +kernel
theorem dX3_elsewhere_21 : decode cX3_elsewhere 21 = .ok (.ifCond .eq 6, 3) := by decide +kernel
theorem dX3_elsewhere_24 : decode cX3_elsewhere 24 = .ok (.iinc 2 1, 3) := by decide +kernel
theorem dX3_elsewhere_27 : decode cX3_elsewhere 27 = .ok (.iinc 3 1, 3) := by decide +kernel
theorem dX3_elsewhere_30 : decode cX3_elsewhere 30 = .ok (.goto (-26), 3) := by decide +kernel
theorem dX3_elsewhere_33 : decode cX3_elsewhere 33 = .ok (.iload_n 2, 1) := by decide +kernel
theorem dX3_elsewhere_34 : decode cX3_elsewhere 34 = .ok (.ireturn, 1) := by decide +kernel
theorem dX4_enact_0 : decode cX4_enact 0 = .ok (.aload_n 0, 1) := by decide +kernel
theorem dX4_enact_1 : decode cX4_enact 1 = .ok (.getfield 9, 3) := by decide +kernel
theorem dX4_enact_4 : decode cX4_enact 4 = .ok (.bipush 20, 2) := by decide +kernel
theorem dX4_enact_6 : decode cX4_enact 6 = .ok (.if_icmp .lt 6, 3) := by decide +kernel
theorem dX4_enact_9 : decode cX4_enact 9 = .ok (.bipush (-2), 2) := by decide +kernel
theorem dX4_enact_11 : decode cX4_enact 11 = .ok (.ireturn, 1) := by decide +kernel
theorem dX4_enact_12 : decode cX4_enact 12 = .ok (.aload_n 0, 1) := by decide +kernel
theorem dX4_enact_13 : decode cX4_enact 13 = .ok (.getfield 15, 3) := by decide +kernel
theorem dX4_enact_16 : decode cX4_enact 16 = .ok (.aload_n 0, 1) := by decide +kernel
theorem dX4_enact_17 : decode cX4_enact 17 = .ok (.getfield 9, 3) := by decide +kernel
theorem dX4_enact_20 : decode cX4_enact 20 = .ok (.iload_n 1, 1) := by decide +kernel
theorem dX4_enact_21 : decode cX4_enact 21 = .ok (.iastore, 1) := by decide +kernel
theorem dX4_enact_22 : decode cX4_enact 22 = .ok (.aload_n 0, 1) := by decide +kernel
theorem dX4_enact_23 : decode cX4_enact 23 = .ok (.getfield 19, 3) := by decide +kernel
theorem dX4_enact_26 : decode cX4_enact 26 = .ok (.aload_n 0, 1) := by decide +kernel
theorem dX4_enact_27 : decode cX4_enact 27 = .ok (.getfield 9, 3) := by decide +kernel
theorem dX4_enact_30 : decode cX4_enact 30 = .ok (.iload_n 2, 1) := by decide +kernel
theorem dX4_enact_31 : decode cX4_enact 31 = .ok (.iastore, 1) := by decide +kernel
theorem dX4_enact_32 : decode cX4_enact 32 = .ok (.aload_n 0, 1) := by decide +kernel
theorem dX4_enact_33 : decode cX4_enact 33 = .ok (.getfield 22, 3) := by decide +kernel
theorem dX4_enact_36 : decode cX4_enact 36 = .ok (.aload_n 0, 1) := by decide +kernel
theorem dX4_enact_37 : decode cX4_enact 37 = .ok (.getfield 9, 3) := by decide +kernel
theorem dX4_enact_40 : decode cX4_enact 40 = .ok (.aload_n 0, 1) := by decide +kernel
theorem dX4_enact_41 : decode cX4_enact 41 = .ok (.getfield 40, 3) := by decide +kernel
theorem dX4_enact_44 : decode cX4_enact 44 = .ok (.bipush 60, 2) := by decide +kernel
theorem dX4_enact_46 : decode cX4_enact 46 = .ok (.invokestatic 52, 3) := by decide +kernel
theorem dX4_enact_49 : decode cX4_enact 49 = .ok (.iastore, 1) := by decide +kernel
theorem dX4_enact_50 : decode cX4_enact 50 = .ok (.aload_n 0, 1) := by decide +kernel
theorem dX4_enact_51 : decode cX4_enact 51 = .ok (.getfield 30, 3) := by decide +kernel
theorem dX4_enact_54 : decode cX4_enact 54 = .ok (.iconst 0, 1) := by decide +kernel
theorem dX4_enact_55 : decode cX4_enact 55 = .ok (.aload_n 0, 1) := by decide +kernel
theorem dX4_enact_56 : decode cX4_enact 56 = .ok (.getfield 27, 3) := by decide +kernel
theorem dX4_enact_59 : decode cX4_enact 59 = .ok (.aload_n 0, 1) := by decide +kernel
theorem dX4_enact_60 : decode cX4_enact 60 = .ok (.getfield 9, 3) := by decide +kernel
theorem dX4_enact_63 : decode cX4_enact 63 = .ok (.aaload, 1) := by decide +kernel
theorem dX4_enact_64 : decode cX4_enact 64 = .ok (.iconst 0, 1) := by decide +kernel
theorem dX4_enact_65 : decode cX4_enact 65 = .ok (.aload_n 0, 1) := by decide +kernel
theorem dX4_enact_66 : decode cX4_enact 66 = .ok (.getfield 22, 3) := by decide +kernel
theorem dX4_enact_69 : decode cX4_enact 69 = .ok (.aload_n 0, 1) := by decide +kernel
theorem dX4_enact_70 : decode cX4_enact 70 = .ok (.getfield 9, 3) := by decide +kernel
theorem dX4_enact_73 : decode cX4_enact 73 = .ok (.iaload, 1) := by decide +kernel
theorem dX4_enact_74 : decode cX4_enact 74 = .ok (.invokestatic 58, 3) := by decide +kernel
theorem dX4_enact_77 : decode cX4_enact 77 = .ok (.aload_n 0, 1) := by decide +kernel
theorem dX4_enact_78 : decode cX4_enact 78 = .ok (.dup, 1) := by decide +kernel
theorem dX4_enact_79 : decode cX4_enact 79 = .ok (.getfield 9, 3) := by decide +kernel
theorem dX4_enact_82 : decode cX4_enact 82 = .ok (.iconst 1, 1) := by decide +kernel
theorem dX4_enact_83 : decode cX4_enact 83 = .ok (.iadd, 1) := by decide +kernel
theorem dX4_enact_84 : decode cX4_enact 84 = .ok (.putfield 9, 3) := by decide +kernel
theorem dX4_enact_87 : decode cX4_enact 87 = .ok (.aload_n 0, 1) := by decide +kernel
theorem dX4_enact_88 : decode cX4_enact 88 = .ok (.getfield 9, 3) := by decide +kernel
theorem dX4_enact_91 : decode cX4_enact 91 = .ok (.iconst 1, 1) := by decide +kernel
theorem dX4_enact_92 : decode cX4_enact 92 = .ok (.isub, 1) := by decide +kernel
theorem dX4_enact_93 : decode cX4_enact 93 = .ok (.ireturn, 1) := by decide +kernel
theorem dX4_firstFault_0 : decode cX4_firstFault 0 = .ok (.aload_n 0, 1) := by decide +kernel
theorem dX4_firstFault_1 : decode cX4_firstFault 1 = .ok (.aload_n 1, 1) := by decide +kernel
theorem dX4_firstFault_2 : decode cX4_firstFault 2 = .ok (.getfield 150, 3) := by decide +kernel
theorem dX4_firstFault_5 : decode cX4_firstFault 5 = .ok (.bipush 100, 2) := by decide +kernel
theorem dX4_firstFault_7 : decode cX4_firstFault 7 = .ok (.invokestatic 52, 3) := by decide +kernel
theorem dX4_firstFault_10 : decode cX4_firstFault 10 = .ok (.putfield 43, 3) := by decide +kernel
theorem dX4_firstFault_13 : decode cX4_firstFault 13 = .ok (.iconst 0, 1) := by decide +kernel
theorem dX4_firstFault_14 : decode cX4_firstFault 14 = .ok (.istore_n 2, 1) := by decide +kernel
theorem dX4_firstFault_15 : decode cX4_firstFault 15 = .ok (.iload_n 2, 1) := by decide +kernel
theorem dX4_firstFault_16 : decode cX4_firstFault 16 = .ok (.aload_n 0, 1) := by decide +kernel
theorem dX4_firstFault_17 : decode cX4_firstFault 17 = .ok (.getfield 43, 3) := by decide +kernel
theorem dX4_firstFault_20 : decode cX4_firstFault 20 = .ok (.if_icmp .ge 22, 3) := by decide +kernel
theorem dX4_firstFault_23 : decode cX4_firstFault 23 = .ok (.aload_n 0, 1) := by decide +kernel
theorem dX4_firstFault_24 : decode cX4_firstFault 24 = .ok (.getfield 37, 3) := by decide +kernel
theorem dX4_firstFault_27 : decode cX4_firstFault 27 = .ok (.iload_n 2, 1) := by decide +kernel
theorem dX4_firstFault_28 : decode cX4_firstFault 28 = .ok (.aload_n 1, 1) := by decide +kernel
theorem dX4_firstFault_29 : decode cX4_firstFault 29 = .ok (.getfield 155, 3) := by decide +kernel
theorem dX4_firstFault_32 : decode cX4_firstFault 32 = .ok (.iload_n 2, 1) := by decide +kernel
theorem dX4_firstFault_33 : decode cX4_firstFault 33 = .ok (.laload, 1) := by decide +kernel
theorem dX4_firstFault_34 : decode cX4_firstFault 34 = .ok (.l2i, 1) := by decide +kernel
theorem dX4_firstFault_35 : decode cX4_firstFault 35 = .ok (.iastore, 1) := by decide +kernel
theorem dX4_firstFault_36 : decode cX4_firstFault 36 = .ok (.iinc 2 1, 3) := by decide +kernel
theorem dX4_firstFault_39 : decode cX4_firstFault 39 = .ok (.goto (-24), 3) := by decide +kernel
theorem dX4_firstFault_42 : decode cX4_firstFault 42 = .ok (.aload_n 0, 1) := by decide +kernel
theorem dX4_firstFault_43 : decode cX4_firstFault 43 = .ok (.iconst 0, 1) := by decide +kernel
theorem dX4_firstFault_44 : decode cX4_firstFault 44 = .ok (.putfield 40, 3) := by decide +kernel
theorem dX4_firstFault_47 : decode cX4_firstFault 47 = .ok (.aload_n 0, 1) := by decide +kernel
theorem dX4_firstFault_48 : decode cX4_firstFault 48 = .ok (.iconst 0, 1) := by decide +kernel
theorem dX4_firstFault_49 : decode cX4_firstFault 49 = .ok (.putfield 46, 3) := by decide +kernel
theorem dX4_firstFault_52 : decode cX4_firstFault 52 = .ok (.aload_n 0, 1) := by decide +kernel
theorem dX4_firstFault_53 : decode cX4_firstFault 53 = .ok (.iconst (-1), 1) := by decide +kernel
theorem dX4_firstFault_54 : decode cX4_firstFault 54 = .ok (.putfield 49, 3) := by decide +kernel
theorem dX4_firstFault_57 : decode cX4_firstFault 57 = .ok (.aload_n 0, 1) := by decide +kernel
theorem dX4_firstFault_58 : decode cX4_firstFault 58 = .ok (.iconst 0, 1) := by decide +kernel
theorem dX4_firstFault_59 : decode cX4_firstFault 59 = .ok (.invokevirtual 158, 3) := by decide +kernel
theorem dX4_firstFault_62 : decode cX4_firstFault 62 = .ok (.aload_n 0, 1) := by decide +kernel
theorem dX4_firstFault_63 : decode cX4_firstFault 63 = .ok (.getfield 46, 3) := by decide +kernel
theorem dX4_firstFault_66 : decode cX4_firstFault 66 = .ok (.aload_n 0, 1) := by decide +kernel
theorem dX4_firstFault_67 : decode cX4_firstFault 67 = .ok (.getfield 43, 3) := by decide +kernel
theorem dX4_firstFault_70 : decode cX4_firstFault 70 = .ok (.if_icmp .ge 7, 3) := by decide +kernel
theorem dX4_firstFault_73 : decode cX4_firstFault 73 = .ok (.aload_n 0, 1) := by decide +kernel
theorem dX4_firstFault_74 : decode cX4_firstFault 74 = .ok (.invokevirtual 162, 3) := by decide +kernel
theorem dX4_firstFault_77 : decode cX4_firstFault 77 = .ok (.aload_n 0, 1) := by decide +kernel
theorem dX4_firstFault_78 : decode cX4_firstFault 78 = .ok (.getfield 49, 3) := by decide +kernel
theorem dX4_firstFault_81 : decode cX4_firstFault 81 = .ok (.ireturn, 1) := by decide +kernel
theorem dX5_firstBearing_0 : decode cX5_firstBearing 0 = .ok (.iconst 0, 1) := by decide +kernel
theorem dX5_firstBearing_1 : decode cX5_firstBearing 1 = .ok (.istore_n 3, 1) := by decide +kernel
theorem dX5_firstBearing_2 : decode cX5_firstBearing 2 = .ok (.iload_n 3, 1) := by decide +kernel
theorem dX5_firstBearing_3 : decode cX5_firstBearing 3 = .ok (.bipush 50, 2) := by decide +kernel
theorem dX5_firstBearing_5 : decode cX5_firstBearing 5 = .ok (.if_icmp .gt 28, 3) := by decide +kernel
theorem dX5_firstBearing_8 : decode cX5_firstBearing 8 = .ok (.aload_n 0, 1) := by decide +kernel
theorem dX5_firstBearing_9 : decode cX5_firstBearing 9 = .ok (.iload_n 1, 1) := by decide +kernel
theorem dX5_firstBearing_10 : decode cX5_firstBearing 10 = .ok (.iload_n 3, 1) := by decide +kernel
theorem dX5_firstBearing_11 : decode cX5_firstBearing 11 = .ok (.invokevirtual 67, 3) := by decide +kernel
theorem dX5_firstBearing_14 : decode cX5_firstBearing 14 = .ok (.iload_n 2, 1) := by decide +kernel
theorem dX5_firstBearing_15 : decode cX5_firstBearing 15 = .ok (.if_icmp .lt 12, 3) := by decide +kernel
theorem dX5_firstBearing_18 : decode cX5_firstBearing 18 = .ok (.aload_n 0, 1) := by decide +kernel
theorem dX5_firstBearing_19 : decode cX5_firstBearing 19 = .ok (.getfield 37, 3) := by decide +kernel
theorem dX5_firstBearing_22 : decode cX5_firstBearing 22 = .ok (.iload_n 1, 1) := by decide +kernel
theorem dX5_firstBearing_23 : decode cX5_firstBearing 23 = .ok (.iaload, 1) := by decide +kernel
theorem dX5_firstBearing_24 : decode cX5_firstBearing 24 = .ok (.iload_n 3, 1) := by decide +kernel
theorem dX5_firstBearing_25 : decode cX5_firstBearing 25 = .ok (.iadd, 1) := by decide +kernel
theorem dX5_firstBearing_26 : decode cX5_firstBearing 26 = .ok (.ireturn, 1) := by decide +kernel
theorem dX5_firstBearing_27 : decode cX5_firstBearing 27 = .ok (.iinc 3 1, 3) := by decide +kernel
theorem dX5_firstBearing_30 : decode cX5_firstBearing 30 = .ok (.goto (-28), 3) := by decide +kernel
theorem dX5_firstBearing_33 : decode cX5_firstBearing 33 = .ok (.iconst (-1), 1) := by decide +kernel
theorem dX5_firstBearing_34 : decode cX5_firstBearing 34 = .ok (.ireturn, 1) := by decide +kernel
theorem dX5_start_0 : decode cX5_start 0 = .ok (.aload_n 0, 1) := by decide +kernel
theorem dX5_start_1 : decode cX5_start 1 = .ok (.iload_n 2, 1) := by decide +kernel
theorem dX5_start_2 : decode cX5_start 2 = .ok (.putfield 9, 3) := by decide +kernel
theorem dX5_start_5 : decode cX5_start 5 = .ok (.aload_n 0, 1) := by decide +kernel
theorem dX5_start_6 : decode cX5_start 6 = .ok (.iload_n 3, 1) := by decide +kernel
theorem dX5_start_7 : decode cX5_start 7 = .ok (.putfield 15, 3) := by decide +kernel
theorem dX5_start_10 : decode cX5_start 10 = .ok (.aload_n 0, 1) := by decide +kernel
theorem dX5_start_11 : decode cX5_start 11 = .ok (.iconst 0, 1) := by decide +kernel
theorem dX5_start_12 : decode cX5_start 12 = .ok (.putfield 18, 3) := by decide +kernel
theorem dX5_start_15 : decode cX5_start 15 = .ok (.aload_n 0, 1) := by decide +kernel
theorem dX5_start_16 : decode cX5_start 16 = .ok (.aload_n 1, 1) := by decide +kernel
theorem dX5_start_17 : decode cX5_start 17 = .ok (.getfield 46, 3) := by decide +kernel
theorem dX5_start_20 : decode cX5_start 20 = .ok (.putfield 21, 3) := by decide +kernel
theorem dX5_start_23 : decode cX5_start 23 = .ok (.aload_n 0, 1) := by decide +kernel
theorem dX5_start_24 : decode cX5_start 24 = .ok (.aload_n 1, 1) := by decide +kernel
theorem dX5_start_25 : decode cX5_start 25 = .ok (.getfield 46, 3) := by decide +kernel
theorem dX5_start_28 : decode cX5_start 28 = .ok (.putfield 24, 3) := by decide +kernel
theorem dX5_start_31 : decode cX5_start 31 = .ok (.aload_n 1, 1) := by decide +kernel
theorem dX5_start_32 : decode cX5_start 32 = .ok (.getfield 49, 3) := by decide +kernel
theorem dX5_start_35 : decode cX5_start 35 = .ok (.aload_n 0, 1) := by decide +kernel
theorem dX5_start_36 : decode cX5_start 36 = .ok (.getfield 27, 3) := by decide +kernel
theorem dX5_start_39 : decode cX5_start 39 = .ok (.invokestatic 50, 3) := by decide +kernel
theorem dX5_start_42 : decode cX5_start 42 = .ok (.aload_n 1, 1) := by decide +kernel
theorem dX5_start_43 : decode cX5_start 43 = .ok (.getfield 54, 3) := by decide +kernel
theorem dX5_start_46 : decode cX5_start 46 = .ok (.aload_n 0, 1) := by decide +kernel
theorem dX5_start_47 : decode cX5_start 47 = .ok (.getfield 31, 3) := by decide +kernel
theorem dX5_start_50 : decode cX5_start 50 = .ok (.invokestatic 50, 3) := by decide +kernel
theorem dX5_start_53 : decode cX5_start 53 = .ok (.aload_n 0, 1) := by decide +kernel
theorem dX5_start_54 : decode cX5_start 54 = .ok (.getfield 34, 3) := by decide +kernel
theorem dX5_start_57 : decode cX5_start 57 = .ok (.iconst 0, 1) := by decide +kernel
theorem dX5_start_58 : decode cX5_start 58 = .ok (.invokestatic 55, 3) := by decide +kernel
theorem dX5_start_61 : decode cX5_start 61 = .ok (.aload_n 0, 1) := by decide +kernel
theorem dX5_start_62 : decode cX5_start 62 = .ok (.getfield 37, 3) := by decide +kernel
theorem dX5_start_65 : decode cX5_start 65 = .ok (.bipush (-9), 2) := by decide +kernel
theorem dX5_start_67 : decode cX5_start 67 = .ok (.invokestatic 55, 3) := by decide +kernel
theorem dX5_start_70 : decode cX5_start 70 = .ok (.aload_n 0, 1) := by decide +kernel
theorem dX5_start_71 : decode cX5_start 71 = .ok (.getfield 40, 3) := by decide +kernel
theorem dX5_start_74 : decode cX5_start 74 = .ok (.iconst 0, 1) := by decide +kernel
theorem dX5_start_75 : decode cX5_start 75 = .ok (.invokestatic 55, 3) := by decide +kernel
theorem dX5_start_78 : decode cX5_start 78 = .ok (.aload_n 0, 1) := by decide +kernel
theorem dX5_start_79 : decode cX5_start 79 = .ok (.getfield 43, 3) := by decide +kernel
theorem dX5_start_82 : decode cX5_start 82 = .ok (.iconst 0, 1) := by decide +kernel
theorem dX5_start_83 : decode cX5_start 83 = .ok (.invokestatic 55, 3) := by decide +kernel
theorem dX5_start_86 : decode cX5_start 86 = .ok (.return_, 1) := by decide +kernel
theorem dX6_latest_0 : decode cX6_latest 0 = .ok (.aload_n 0, 1) := by decide +kernel
theorem dX6_latest_1 : decode cX6_latest 1 = .ok (.getfield 9, 3) := by decide +kernel
theorem dX6_latest_4 : decode cX6_latest 4 = .ok (.iconst 1, 1) := by decide +kernel
theorem dX6_latest_5 : decode cX6_latest 5 = .ok (.isub, 1) := by decide +kernel
theorem dX6_latest_6 : decode cX6_latest 6 = .ok (.istore_n 3, 1) := by decide +kernel
theorem dX6_latest_7 : decode cX6_latest 7 = .ok (.iload_n 3, 1) := by decide +kernel
theorem dX6_latest_8 : decode cX6_latest 8 = .ok (.ifCond .lt 31, 3) := by decide +kernel
theorem dX6_latest_11 : decode cX6_latest 11 = .ok (.aload_n 0, 1) := by decide +kernel
theorem dX6_latest_12 : decode cX6_latest 12 = .ok (.getfield 15, 3) := by decide +kernel
theorem dX6_latest_15 : decode cX6_latest 15 = .ok (.iload_n 3, 1) := by decide +kernel
theorem dX6_latest_16 : decode cX6_latest 16 = .ok (.iaload, 1) := by decide +kernel
theorem dX6_latest_17 : decode cX6_latest 17 = .ok (.iload_n 1, 1) := by decide +kernel
theorem dX6_latest_18 : decode cX6_latest 18 = .ok (.if_icmp .ne 15, 3) := by decide +kernel
theorem dX6_latest_21 : decode cX6_latest 21 = .ok (.aload_n 0, 1) := by decide +kernel
theorem dX6_latest_22 : decode cX6_latest 22 = .ok (.getfield 25, 3) := by decide +kernel
theorem dX6_latest_25 : decode cX6_latest 25 = .ok (.iload_n 3, 1) := by decide +kernel
theorem dX6_latest_26 : decode cX6_latest 26 = .ok (.iaload, 1) := by decide +kernel
theorem dX6_latest_27 : decode cX6_latest 27 = .ok (.iload_n 2, 1) := by decide +kernel
theorem dX6_latest_28 : decode cX6_latest 28 = .ok (.if_icmp .gt 5, 3) := by decide +kernel
theorem dX6_latest_31 : decode cX6_latest 31 = .ok (.iload_n 3, 1) := by decide +kernel
theorem dX6_latest_32 : decode cX6_latest 32 = .ok (.ireturn, 1) := by decide +kernel
theorem dX6_latest_33 : decode cX6_latest 33 = .ok (.iinc 3 (-1), 3) := by decide +kernel
theorem dX6_latest_36 : decode cX6_latest 36 = .ok (.goto (-29), 3) := by decide +kernel
theorem dX6_latest_39 : decode cX6_latest 39 = .ok (.iconst (-1), 1) := by decide +kernel
theorem dX6_latest_40 : decode cX6_latest 40 = .ok (.ireturn, 1) := by decide +kernel
theorem dX6_note_0 : decode cX6_note 0 = .ok (.aload_n 0, 1) := by decide +kernel
theorem dX6_note_1 : decode cX6_note 1 = .ok (.getfield 9, 3) := by decide +kernel
theorem dX6_note_4 : decode cX6_note 4 = .ok (.sipush 200, 3) := by decide +kernel
theorem dX6_note_7 : decode cX6_note 7 = .ok (.if_icmp .lt 4, 3) := by decide +kernel
theorem dX6_note_10 : decode cX6_note 10 = .ok (.return_, 1) := by decide +kernel
theorem dX6_note_11 : decode cX6_note 11 = .ok (.aload_n 0, 1) := by decide +kernel
theorem dX6_note_12 : decode cX6_note 12 = .ok (.getfield 15, 3) := by decide +kernel
theorem dX6_note_15 : decode cX6_note 15 = .ok (.aload_n 0, 1) := by decide +kernel
theorem dX6_note_16 : decode cX6_note 16 = .ok (.getfield 9, 3) := by decide +kernel
theorem dX6_note_19 : decode cX6_note 19 = .ok (.iload_n 1, 1) := by decide +kernel
theorem dX6_note_20 : decode cX6_note 20 = .ok (.iastore, 1) := by decide +kernel
theorem dX6_note_21 : decode cX6_note 21 = .ok (.aload_n 0, 1) := by decide +kernel
theorem dX6_note_22 : decode cX6_note 22 = .ok (.getfield 19, 3) := by decide +kernel
theorem dX6_note_25 : decode cX6_note 25 = .ok (.aload_n 0, 1) := by decide +kernel
theorem dX6_note_26 : decode cX6_note 26 = .ok (.getfield 9, 3) := by decide +kernel
theorem dX6_note_29 : decode cX6_note 29 = .ok (.iload_n 2, 1) := by decide +kernel
theorem dX6_note_30 : decode cX6_note 30 = .ok (.iastore, 1) := by decide +kernel
theorem dX6_note_31 : decode cX6_note 31 = .ok (.aload_n 0, 1) := by decide +kernel
theorem dX6_note_32 : decode cX6_note 32 = .ok (.getfield 22, 3) := by decide +kernel
theorem dX6_note_35 : decode cX6_note 35 = .ok (.aload_n 0, 1) := by decide +kernel
theorem dX6_note_36 : decode cX6_note 36 = .ok (.getfield 9, 3) := by decide +kernel
theorem dX6_note_39 : decode cX6_note 39 = .ok (.iload_n 3, 1) := by decide +kernel
theorem dX6_note_40 : decode cX6_note 40 = .ok (.iastore, 1) := by decide +kernel
theorem dX6_note_41 : decode cX6_note 41 = .ok (.aload_n 0, 1) := by decide +kernel
theorem dX6_note_42 : decode cX6_note 42 = .ok (.getfield 25, 3) := by decide +kernel
theorem dX6_note_45 : decode cX6_note 45 = .ok (.aload_n 0, 1) := by decide +kernel
theorem dX6_note_46 : decode cX6_note 46 = .ok (.getfield 9, 3) := by decide +kernel
theorem dX6_note_49 : decode cX6_note 49 = .ok (.iload 4, 2) := by decide +kernel
theorem dX6_note_51 : decode cX6_note 51 = .ok (.iastore, 1) := by decide +kernel
theorem dX6_note_52 : decode cX6_note 52 = .ok (.aload_n 0, 1) := by decide +kernel
theorem dX6_note_53 : decode cX6_note 53 = .ok (.dup, 1) := by decide +kernel
theorem dX6_note_54 : decode cX6_note 54 = .ok (.getfield 9, 3) := by decide +kernel
theorem dX6_note_57 : decode cX6_note 57 = .ok (.iconst 1, 1) := by decide +kernel
theorem dX6_note_58 : decode cX6_note 58 = .ok (.iadd, 1) := by decide +kernel
theorem dX6_note_59 : decode cX6_note 59 = .ok (.putfield 9, 3) := by decide +kernel
theorem dX6_note_62 : decode cX6_note 62 = .ok (.return_, 1) := by decide +kernel
theorem dX7_nextCell_0 : decode cX7_nextCell 0 = .ok (.iload_n 1, 1) := by decide +kernel
theorem dX7_nextCell_1 : decode cX7_nextCell 1 = .ok (.istore_n 3, 1) := by decide +kernel
theorem dX7_nextCell_2 : decode cX7_nextCell 2 = .ok (.iconst 0, 1) := by decide +kernel
theorem dX7_nextCell_3 : decode cX7_nextCell 3 = .ok (.istore 4, 2) := by decide +kernel
theorem dX7_nextCell_5 : decode cX7_nextCell 5 = .ok (.iload 4, 2) := by decide +kernel
theorem dX7_nextCell_7 : decode cX7_nextCell 7 = .ok (.iconst 4, 1) := by decide +kernel
theorem dX7_nextCell_8 : decode cX7_nextCell 8 = .ok (.if_icmp .ge 64, 3) := by decide +kernel
theorem dX7_nextCell_11 : decode cX7_nextCell 11 = .ok (.iload_n 1, 1) := by decide +kernel
theorem dX7_nextCell_12 : decode cX7_nextCell 12 = .ok (.iload 4, 2) := by decide +kernel
theorem dX7_nextCell_14 : decode cX7_nextCell 14 = .ok (.invokestatic 60, 3) := by decide +kernel
theorem dX7_nextCell_17 : decode cX7_nextCell 17 = .ok (.istore 5, 2) := by decide +kernel
theorem dX7_nextCell_19 : decode cX7_nextCell 19 = .ok (.iload 5, 2) := by decide +kernel
theorem dX7_nextCell_21 : decode cX7_nextCell 21 = .ok (.iconst (-1), 1) := by decide +kernel
theorem dX7_nextCell_22 : decode cX7_nextCell 22 = .ok (.if_icmp .eq 44, 3) := by decide +kernel
theorem dX7_nextCell_25 : decode cX7_nextCell 25 = .ok (.iload 5, 2) := by decide +kernel
theorem dX7_nextCell_27 : decode cX7_nextCell 27 = .ok (.iload_n 2, 1) := by decide +kernel
theorem dX7_nextCell_28 : decode cX7_nextCell 28 = .ok (.invokestatic 54, 3) := by decide +kernel
theorem dX7_nextCell_31 : decode cX7_nextCell 31 = .ok (.iload_n 1, 1) := by decide +kernel
theorem dX7_nextCell_32 : decode cX7_nextCell 32 = .ok (.iload_n 2, 1) := by decide +kernel
theorem dX7_nextCell_33 : decode cX7_nextCell 33 = .ok (.invokestatic 54, 3) := by decide +kernel
theorem dX7_nextCell_36 : decode cX7_nextCell 36 = .ok (.if_icmp .lt 6, 3) := by decide +kernel
theorem dX7_nextCell_39 : decode cX7_nextCell 39 = .ok (.goto 27, 3) := by decide +kernel
theorem dX7_nextCell_42 : decode cX7_nextCell 42 = .ok (.iload_n 3, 1) := by decide +kernel
theorem dX7_nextCell_43 : decode cX7_nextCell 43 = .ok (.iload_n 1, 1) := by decide +kernel
theorem dX7_nextCell_44 : decode cX7_nextCell 44 = .ok (.if_icmp .eq 19, 3) := by decide +kernel
theorem dX7_nextCell_47 : decode cX7_nextCell 47 = .ok (.aload_n 0, 1) := by decide +kernel
theorem dX7_nextCell_48 : decode cX7_nextCell 48 = .ok (.getfield 22, 3) := by decide +kernel
theorem dX7_nextCell_51 : decode cX7_nextCell 51 = .ok (.iload 5, 2) := by decide +kernel
theorem dX7_nextCell_53 : decode cX7_nextCell 53 = .ok (.iaload, 1) := by decide +kernel
theorem dX7_nextCell_54 : decode cX7_nextCell 54 = .ok (.aload_n 0, 1) := by decide +kernel
theorem dX7_nextCell_55 : decode cX7_nextCell 55 = .ok (.getfield 22, 3) := by decide +kernel
theorem dX7_nextCell_58 : decode cX7_nextCell 58 = .ok (.iload_n 3, 1) := by decide +kernel
theorem dX7_nextCell_59 : decode cX7_nextCell 59 = .ok (.iaload, 1) := by decide +kernel
theorem dX7_nextCell_60 : decode cX7_nextCell 60 = .ok (.if_icmp .ge 6, 3) := by decide +kernel
theorem dX7_nextCell_63 : decode cX7_nextCell 63 = .ok (.iload 5, 2) := by decide +kernel
theorem dX7_nextCell_65 : decode cX7_nextCell 65 = .ok (.istore_n 3, 1) := by decide +kernel
theorem dX7_nextCell_66 : decode cX7_nextCell 66 = .ok (.iinc 4 1, 3) := by decide +kernel
theorem dX7_nextCell_69 : decode cX7_nextCell 69 = .ok (.goto (-64), 3) := by decide +kernel
theorem dX7_nextCell_72 : decode cX7_nextCell 72 = .ok (.iload_n 3, 1) := by decide +kernel
theorem dX7_nextCell_73 : decode cX7_nextCell 73 = .ok (.ireturn, 1) := by decide +kernel
theorem dX7_follow_0 : decode cX7_follow 0 = .ok (.iload_n 1, 1) := by decide +kernel
theorem dX7_follow_1 : decode cX7_follow 1 = .ok (.istore 5, 2) := by decide +kernel
theorem dX7_follow_3 : decode cX7_follow 3 = .ok (.aload_n 0, 1) := by decide +kernel
theorem dX7_follow_4 : decode cX7_follow 4 = .ok (.iload_n 1, 1) := by decide +kernel
theorem dX7_follow_5 : decode cX7_follow 5 = .ok (.iload_n 2, 1) := by decide +kernel
theorem dX7_follow_6 : decode cX7_follow 6 = .ok (.invokestatic 54, 3) := by decide +kernel
theorem dX7_follow_9 : decode cX7_follow 9 = .ok (.iconst 1, 1) := by decide +kernel
theorem dX7_follow_10 : decode cX7_follow 10 = .ok (.iadd, 1) := by decide +kernel
theorem dX7_follow_11 : decode cX7_follow 11 = .ok (.putfield 9, 3) := by decide +kernel
theorem dX7_follow_14 : decode cX7_follow 14 = .ok (.iconst 0, 1) := by decide +kernel
theorem dX7_follow_15 : decode cX7_follow 15 = .ok (.istore 6, 2) := by decide +kernel
theorem dX7_follow_17 : decode cX7_follow 17 = .ok (.iload 6, 2) := by decide +kernel
theorem dX7_follow_19 : decode cX7_follow 19 = .ok (.aload_n 0, 1) := by decide +kernel
theorem dX7_follow_20 : decode cX7_follow 20 = .ok (.getfield 9, 3) := by decide +kernel
theorem dX7_follow_23 : decode cX7_follow 23 = .ok (.if_icmp .ge 48, 3) := by decide +kernel
theorem dX7_follow_26 : decode cX7_follow 26 = .ok (.iload 6, 2) := by decide +kernel
theorem dX7_follow_28 : decode cX7_follow 28 = .ok (.bipush 19, 2) := by decide +kernel
theorem dX7_follow_30 : decode cX7_follow 30 = .ok (.if_icmp .ge 41, 3) := by decide +kernel
theorem dX7_follow_33 : decode cX7_follow 33 = .ok (.aload_n 0, 1) := by decide +kernel
theorem dX7_follow_34 : decode cX7_follow 34 = .ok (.getfield 15, 3) := by decide +kernel
theorem dX7_follow_37 : decode cX7_follow 37 = .ok (.iload 6, 2) := by decide +kernel
theorem dX7_follow_39 : decode cX7_follow 39 = .ok (.iload 5, 2) := by decide +kernel
theorem dX7_follow_41 : decode cX7_follow 41 = .ok (.iastore, 1) := by decide +kernel
theorem dX7_follow_42 : decode cX7_follow 42 = .ok (.aload_n 0, 1) := by decide +kernel
theorem dX7_follow_43 : decode cX7_follow 43 = .ok (.getfield 19, 3) := by decide +kernel
theorem dX7_follow_46 : decode cX7_follow 46 = .ok (.iload 6, 2) := by decide +kernel
theorem dX7_follow_48 : decode cX7_follow 48 = .ok (.iload_n 3, 1) := by decide +kernel
theorem dX7_follow_49 : decode cX7_follow 49 = .ok (.iload 4, 2) := by decide +kernel
theorem dX7_follow_51 : decode cX7_follow 51 = .ok (.iload 6, 2) := by decide +kernel
theorem dX7_follow_53 : decode cX7_follow 53 = .ok (.imul, 1) := by decide +kernel
theorem dX7_follow_54 : decode cX7_follow 54 = .ok (.isub, 1) := by decide +kernel
theorem dX7_follow_55 : decode cX7_follow 55 = .ok (.iastore, 1) := by decide +kernel
theorem dX7_follow_56 : decode cX7_follow 56 = .ok (.aload_n 0, 1) := by decide +kernel
theorem dX7_follow_57 : decode cX7_follow 57 = .ok (.iload 5, 2) := by decide +kernel
theorem dX7_follow_59 : decode cX7_follow 59 = .ok (.iload_n 2, 1) := by decide +kernel
theorem dX7_follow_60 : decode cX7_follow 60 = .ok (.invokevirtual 57, 3) := by decide +kernel
theorem dX7_follow_63 : decode cX7_follow 63 = .ok (.istore 5, 2) := by decide +kernel
theorem dX7_follow_65 : decode cX7_follow 65 = .ok (.iinc 6 1, 3) := by decide +kernel
theorem dX7_follow_68 : decode cX7_follow 68 = .ok (.goto (-51), 3) := by decide +kernel
theorem dX7_follow_71 : decode cX7_follow 71 = .ok (.return_, 1) := by decide +kernel
theorem dX7_leastDig_0 : decode cX7_leastDig 0 = .ok (.iload_n 3, 1) := by decide +kernel
theorem dX7_leastDig_1 : decode cX7_leastDig 1 = .ok (.bipush 10, 2) := by decide +kernel
theorem dX7_leastDig_3 : decode cX7_leastDig 3 = .ok (.irem, 1) := by decide +kernel
theorem dX7_leastDig_4 : decode cX7_leastDig 4 = .ok (.iload_n 2, 1) := by decide +kernel
theorem dX7_leastDig_5 : decode cX7_leastDig 5 = .ok (.bipush 10, 2) := by decide +kernel
theorem dX7_leastDig_7 : decode cX7_leastDig 7 = .ok (.irem, 1) := by decide +kernel
theorem dX7_leastDig_8 : decode cX7_leastDig 8 = .ok (.isub, 1) := by decide +kernel
theorem dX7_leastDig_9 : decode cX7_leastDig 9 = .ok (.invokestatic 25, 3) := by decide +kernel
theorem dX7_leastDig_12 : decode cX7_leastDig 12 = .ok (.istore 6, 2) := by decide +kernel
theorem dX7_leastDig_14 : decode cX7_leastDig 14 = .ok (.iload_n 3, 1) := by decide +kernel
theorem dX7_leastDig_15 : decode cX7_leastDig 15 = .ok (.bipush 10, 2) := by decide +kernel
theorem dX7_leastDig_17 : decode cX7_leastDig 17 = .ok (.idiv, 1) := by decide +kernel
theorem dX7_leastDig_18 : decode cX7_leastDig 18 = .ok (.iload_n 2, 1) := by decide +kernel
theorem dX7_leastDig_19 : decode cX7_leastDig 19 = .ok (.bipush 10, 2) := by decide +kernel
theorem dX7_leastDig_21 : decode cX7_leastDig 21 = .ok (.idiv, 1) := by decide +kernel
theorem dX7_leastDig_22 : decode cX7_leastDig 22 = .ok (.isub, 1) := by decide +kernel
theorem dX7_leastDig_23 : decode cX7_leastDig 23 = .ok (.invokestatic 25, 3) := by decide +kernel
theorem dX7_leastDig_26 : decode cX7_leastDig 26 = .ok (.istore 7, 2) := by decide +kernel
theorem dX7_leastDig_28 : decode cX7_leastDig 28 = .ok (.iload_n 3, 1) := by decide +kernel
theorem dX7_leastDig_29 : decode cX7_leastDig 29 = .ok (.bipush 10, 2) := by decide +kernel
theorem dX7_leastDig_31 : decode cX7_leastDig 31 = .ok (.irem, 1) := by decide +kernel
theorem dX7_leastDig_32 : decode cX7_leastDig 32 = .ok (.iload_n 2, 1) := by decide +kernel
theorem dX7_leastDig_33 : decode cX7_leastDig 33 = .ok (.bipush 10, 2) := by decide +kernel
theorem dX7_leastDig_35 : decode cX7_leastDig 35 = .ok (.irem, 1) := by decide +kernel
theorem dX7_leastDig_36 : decode cX7_leastDig 36 = .ok (.if_icmp .le 7, 3) := by decide +kernel
theorem dX7_leastDig_39 : decode cX7_leastDig 39 = .ok (.iconst 1, 1) := by decide +kernel
theorem dX7_leastDig_40 : decode cX7_leastDig 40 = .ok (.goto 4, 3) := by decide +kernel
theorem dX7_leastDig_43 : decode cX7_leastDig 43 = .ok (.iconst (-1), 1) := by decide +kernel
theorem dX7_leastDig_44 : decode cX7_leastDig 44 = .ok (.istore 8, 2) := by decide +kernel
theorem dX7_leastDig_46 : decode cX7_leastDig 46 = .ok (.iload_n 3, 1) := by decide +kernel
theorem dX7_leastDig_47 : decode cX7_leastDig 47 = .ok (.iload_n 2, 1) := by decide +kernel
theorem dX7_leastDig_48 : decode cX7_leastDig 48 = .ok (.if_icmp .le 8, 3) := by decide +kernel
theorem dX7_leastDig_51 : decode cX7_leastDig 51 = .ok (.bipush 10, 2) := by decide +kernel
theorem dX7_leastDig_53 : decode cX7_leastDig 53 = .ok (.goto 5, 3) := by decide +kernel
theorem dX7_leastDig_56 : decode cX7_leastDig 56 = .ok (.bipush (-10), 2) := by decide +kernel
theorem dX7_leastDig_58 : decode cX7_leastDig 58 = .ok (.istore 9, 2) := by decide +kernel
theorem dX7_leastDig_60 : decode cX7_leastDig 60 = .ok (.aload_n 0, 1) := by decide +kernel
theorem dX7_leastDig_61 : decode cX7_leastDig 61 = .ok (.getfield 22, 3) := by decide +kernel
theorem dX7_leastDig_64 : decode cX7_leastDig 64 = .ok (.ldc 31, 2) := by decide +kernel
theorem dX7_leastDig_66 : decode cX7_leastDig 66 = .ok (.invokestatic 32, 3) := by decide +kernel
theorem dX7_leastDig_69 : decode cX7_leastDig 69 = .ok (.iload 7, 2) := by decide +kernel
theorem dX7_leastDig_71 : decode cX7_leastDig 71 = .ok (.istore 10, 2) := by decide +kernel
theorem dX7_leastDig_73 : decode cX7_leastDig 73 = .ok (.iload 10, 2) := by decide +kernel
theorem dX7_leastDig_75 : decode cX7_leastDig 75 = .ok (.ifCond .lt 185, 3) := by decide +kernel
theorem dX7_leastDig_78 : decode cX7_leastDig 78 = .ok (.iload 6, 2) := by decide +kernel
theorem dX7_leastDig_80 : decode cX7_leastDig 80 = .ok (.istore 11, 2) := by decide +kernel
theorem dX7_leastDig_82 : decode cX7_leastDig 82 = .ok (.iload 11, 2) := by decide +kernel
theorem dX7_leastDig_84 : decode cX7_leastDig 84 = .ok (.ifCond .lt 170, 3) := by decide +kernel
theorem dX7_leastDig_87 : decode cX7_leastDig 87 = .ok (.iload_n 2, 1) := by decide +kernel
theorem dX7_leastDig_88 : decode cX7_leastDig 88 = .ok (.iload 11, 2) := by decide +kernel
theorem dX7_leastDig_90 : decode cX7_leastDig 90 = .ok (.iload 8, 2) := by decide +kernel
theorem dX7_leastDig_92 : decode cX7_leastDig 92 = .ok (.imul, 1) := by decide +kernel
theorem dX7_leastDig_93 : decode cX7_leastDig 93 = .ok (.iadd, 1) := by decide +kernel
theorem dX7_leastDig_94 : decode cX7_leastDig 94 = .ok (.iload 10, 2) := by decide +kernel
theorem dX7_leastDig_96 : decode cX7_leastDig 96 = .ok (.iload 9, 2) := by decide +kernel
theorem dX7_leastDig_98 : decode cX7_leastDig 98 = .ok (.imul, 1) := by decide +kernel
theorem dX7_leastDig_99 : decode cX7_leastDig 99 = .ok (.iadd, 1) := by decide +kernel
theorem dX7_leastDig_100 : decode cX7_leastDig 100 = .ok (.istore 12, 2) := by decide +kernel
theorem dX7_leastDig_102 : decode cX7_leastDig 102 = .ok (.iload 12, 2) := by decide +kernel
theorem dX7_leastDig_104 : decode cX7_leastDig 104 = .ok (.invokestatic 38, 3) := by decide +kernel
theorem dX7_leastDig_107 : decode cX7_leastDig 107 = .ok (.ifCond .eq 141, 3) := by decide +kernel
theorem dX7_leastDig_110 : decode cX7_leastDig 110 = .ok (.iload 12, 2) := by decide +kernel
theorem dX7_leastDig_112 : decode cX7_leastDig 112 = .ok (.iload_n 3, 1) := by decide +kernel
theorem dX7_leastDig_113 : decode cX7_leastDig 113 = .ok (.if_icmp .eq 17, 3) := by decide +kernel
theorem dX7_leastDig_116 : decode cX7_leastDig 116 = .ok (.aload_n 1, 1) := by decide +kernel
theorem dX7_leastDig_117 : decode cX7_leastDig 117 = .ok (.getfield 42, 3) := by decide +kernel
theorem dX7_leastDig_120 : decode cX7_leastDig 120 = .ok (.iload 12, 2) := by decide +kernel
theorem dX7_leastDig_122 : decode cX7_leastDig 122 = .ok (.iaload, 1) := by decide +kernel
theorem dX7_leastDig_123 : decode cX7_leastDig 123 = .ok (.iconst 1, 1) := by decide +kernel
theorem dX7_leastDig_124 : decode cX7_leastDig 124 = .ok (.if_icmp .ne 6, 3) := by decide +kernel
theorem dX7_leastDig_127 : decode cX7_leastDig 127 = .ok (.goto 121, 3) := by decide +kernel
theorem dX7_leastDig_130 : decode cX7_leastDig 130 = .ok (.iload 12, 2) := by decide +kernel
theorem dX7_leastDig_132 : decode cX7_leastDig 132 = .ok (.iload_n 3, 1) := by decide +kernel
theorem dX7_leastDig_133 : decode cX7_leastDig 133 = .ok (.if_icmp .ne 7, 3) := by decide +kernel
theorem dX7_leastDig_136 : decode cX7_leastDig 136 = .ok (.iconst 0, 1) := by decide +kernel
theorem dX7_leastDig_137 : decode cX7_leastDig 137 = .ok (.goto 5, 3) := by decide +kernel
theorem dX7_leastDig_140 : decode cX7_leastDig 140 = .ok (.ldc 31, 2) := by decide +kernel
theorem dX7_leastDig_142 : decode cX7_leastDig 142 = .ok (.istore 13, 2) := by decide +kernel
theorem dX7_leastDig_144 : decode cX7_leastDig 144 = .ok (.iload 11, 2) := by decide +kernel
theorem dX7_leastDig_146 : decode cX7_leastDig 146 = .ok (.iload 6, 2) := by decide +kernel
theorem dX7_leastDig_148 : decode cX7_leastDig 148 = .ok (.if_icmp .ge 31, 3) := by decide +kernel
theorem dX7_leastDig_151 : decode cX7_leastDig 151 = .ok (.iload 12, 2) := by decide +kernel
theorem dX7_leastDig_153 : decode cX7_leastDig 153 = .ok (.iload 8, 2) := by decide +kernel
theorem dX7_leastDig_155 : decode cX7_leastDig 155 = .ok (.iadd, 1) := by decide +kernel
theorem dX7_leastDig_156 : decode cX7_leastDig 156 = .ok (.invokestatic 38, 3) := by decide +kernel
theorem dX7_leastDig_159 : decode cX7_leastDig 159 = .ok (.ifCond .eq 20, 3) := by decide +kernel
theorem dX7_leastDig_162 : decode cX7_leastDig 162 = .ok (.iload 13, 2) := by decide +kernel
theorem dX7_leastDig_164 : decode cX7_leastDig 164 = .ok (.aload_n 0, 1) := by decide +kernel
theorem dX7_leastDig_165 : decode cX7_leastDig 165 = .ok (.getfield 22, 3) := by decide +kernel
theorem dX7_leastDig_168 : decode cX7_leastDig 168 = .ok (.iload 12, 2) := by decide +kernel
theorem dX7_leastDig_170 : decode cX7_leastDig 170 = .ok (.iload 8, 2) := by decide +kernel
theorem dX7_leastDig_172 : decode cX7_leastDig 172 = .ok (.iadd, 1) := by decide +kernel
theorem dX7_leastDig_173 : decode cX7_leastDig 173 = .ok (.iaload, 1) := by decide +kernel
theorem dX7_leastDig_174 : decode cX7_leastDig 174 = .ok (.invokestatic 47, 3) := by decide +kernel
theorem dX7_leastDig_177 : decode cX7_leastDig 177 = .ok (.istore 13, 2) := by decide +kernel
theorem dX7_leastDig_179 : decode cX7_leastDig 179 = .ok (.iload 10, 2) := by decide +kernel
theorem dX7_leastDig_181 : decode cX7_leastDig 181 = .ok (.iload 7, 2) := by decide +kernel
theorem dX7_leastDig_183 : decode cX7_leastDig 183 = .ok (.if_icmp .ge 31, 3) := by decide +kernel
theorem dX7_leastDig_186 : decode cX7_leastDig 186 = .ok (.iload 12, 2) := by decide +kernel
theorem dX7_leastDig_188 : decode cX7_leastDig 188 = .ok (.iload 9, 2) := by decide +kernel
theorem dX7_leastDig_190 : decode cX7_leastDig 190 = .ok (.iadd, 1) := by decide +kernel
theorem dX7_leastDig_191 : decode cX7_leastDig 191 = .ok (.invokestatic 38, 3) := by decide +kernel
theorem dX7_leastDig_194 : decode cX7_leastDig 194 = .ok (.ifCond .eq 20, 3) := by decide +kernel
theorem dX7_leastDig_197 : decode cX7_leastDig 197 = .ok (.iload 13, 2) := by decide +kernel
theorem dX7_leastDig_199 : decode cX7_leastDig 199 = .ok (.aload_n 0, 1) := by decide +kernel
theorem dX7_leastDig_200 : decode cX7_leastDig 200 = .ok (.getfield 22, 3) := by decide +kernel
theorem dX7_leastDig_203 : decode cX7_leastDig 203 = .ok (.iload 12, 2) := by decide +kernel
theorem dX7_leastDig_205 : decode cX7_leastDig 205 = .ok (.iload 9, 2) := by decide +kernel
theorem dX7_leastDig_207 : decode cX7_leastDig 207 = .ok (.iadd, 1) := by decide +kernel
theorem dX7_leastDig_208 : decode cX7_leastDig 208 = .ok (.iaload, 1) := by decide +kernel
theorem dX7_leastDig_209 : decode cX7_leastDig 209 = .ok (.invokestatic 47, 3) := by decide +kernel
theorem dX7_leastDig_212 : decode cX7_leastDig 212 = .ok (.istore 13, 2) := by decide +kernel
theorem dX7_leastDig_214 : decode cX7_leastDig 214 = .ok (.iload 13, 2) := by decide +kernel
theorem dX7_leastDig_216 : decode cX7_leastDig 216 = .ok (.ldc 31, 2) := by decide +kernel
theorem dX7_leastDig_218 : decode cX7_leastDig 218 = .ok (.if_icmp .ge 30, 3) := by decide +kernel
theorem dX7_leastDig_221 : decode cX7_leastDig 221 = .ok (.aload_n 0, 1) := by decide +kernel
theorem dX7_leastDig_222 : decode cX7_leastDig 222 = .ok (.getfield 22, 3) := by decide +kernel
theorem dX7_leastDig_225 : decode cX7_leastDig 225 = .ok (.iload 12, 2) := by decide +kernel
theorem dX7_leastDig_227 : decode cX7_leastDig 227 = .ok (.iload 13, 2) := by decide +kernel
theorem dX7_leastDig_229 : decode cX7_leastDig 229 = .ok (.aload_n 1, 1) := by decide +kernel
theorem dX7_leastDig_230 : decode cX7_leastDig 230 = .ok (.iload 12, 2) := by decide +kernel
theorem dX7_leastDig_232 : decode cX7_leastDig 232 = .ok (.iload 4, 2) := by decide +kernel
theorem dX7_leastDig_234 : decode cX7_leastDig 234 = .ok (.iload 5, 2) := by decide +kernel
theorem dX7_leastDig_236 : decode cX7_leastDig 236 = .ok (.iload 11, 2) := by decide +kernel
theorem dX7_leastDig_238 : decode cX7_leastDig 238 = .ok (.iload 10, 2) := by decide +kernel
theorem dX7_leastDig_240 : decode cX7_leastDig 240 = .ok (.iadd, 1) := by decide +kernel
theorem dX7_leastDig_241 : decode cX7_leastDig 241 = .ok (.imul, 1) := by decide +kernel
theorem dX7_leastDig_242 : decode cX7_leastDig 242 = .ok (.isub, 1) := by decide +kernel
theorem dX7_leastDig_243 : decode cX7_leastDig 243 = .ok (.invokevirtual 51, 3) := by decide +kernel
theorem dX7_leastDig_246 : decode cX7_leastDig 246 = .ok (.iadd, 1) := by decide +kernel
theorem dX7_leastDig_247 : decode cX7_leastDig 247 = .ok (.iastore, 1) := by decide +kernel
theorem dX7_leastDig_248 : decode cX7_leastDig 248 = .ok (.iinc 11 (-1), 3) := by decide +kernel
theorem dX7_leastDig_251 : decode cX7_leastDig 251 = .ok (.goto (-169), 3) := by decide +kernel
theorem dX7_leastDig_254 : decode cX7_leastDig 254 = .ok (.iinc 10 (-1), 3) := by decide +kernel
theorem dX7_leastDig_257 : decode cX7_leastDig 257 = .ok (.goto (-184), 3) := by decide +kernel
theorem dX7_leastDig_260 : decode cX7_leastDig 260 = .ok (.aload_n 0, 1) := by decide +kernel
theorem dX7_leastDig_261 : decode cX7_leastDig 261 = .ok (.getfield 22, 3) := by decide +kernel
theorem dX7_leastDig_264 : decode cX7_leastDig 264 = .ok (.iload_n 2, 1) := by decide +kernel
theorem dX7_leastDig_265 : decode cX7_leastDig 265 = .ok (.iaload, 1) := by decide +kernel
theorem dX7_leastDig_266 : decode cX7_leastDig 266 = .ok (.ireturn, 1) := by decide +kernel
theorem dX8_holdsRow_0 : decode cX8_holdsRow 0 = .ok (.aload_n 0, 1) := by decide +kernel
theorem dX8_holdsRow_1 : decode cX8_holdsRow 1 = .ok (.getfield 9, 3) := by decide +kernel
theorem dX8_holdsRow_4 : decode cX8_holdsRow 4 = .ok (.iconst 1, 1) := by decide +kernel
theorem dX8_holdsRow_5 : decode cX8_holdsRow 5 = .ok (.iconst 5, 1) := by decide +kernel
theorem dX8_holdsRow_6 : decode cX8_holdsRow 6 = .ok (.invokestatic 26, 3) := by decide +kernel
theorem dX8_holdsRow_9 : decode cX8_holdsRow 9 = .ok (.ireturn, 1) := by decide +kernel
theorem dX8_narrowed_0 : decode cX8_narrowed 0 = .ok (.aload_n 0, 1) := by decide +kernel
theorem dX8_narrowed_1 : decode cX8_narrowed 1 = .ok (.getfield 9, 3) := by decide +kernel
theorem dX8_narrowed_4 : decode cX8_narrowed 4 = .ok (.tableswitch 48 1 4 #[32, 37, 42, 46], 32) := by decide +kernel
theorem dX8_narrowed_36 : decode cX8_narrowed 36 = .ok (.lload_n 1, 1) := by decide +kernel
theorem dX8_narrowed_37 : decode cX8_narrowed 37 = .ok (.l2i, 1) := by decide +kernel
theorem dX8_narrowed_38 : decode cX8_narrowed 38 = .ok (.i2b, 1) := by decide +kernel
theorem dX8_narrowed_39 : decode cX8_narrowed 39 = .ok (.i2l, 1) := by decide +kernel
theorem dX8_narrowed_40 : decode cX8_narrowed 40 = .ok (.lreturn, 1) := by decide +kernel
theorem dX8_narrowed_41 : decode cX8_narrowed 41 = .ok (.lload_n 1, 1) := by decide +kernel
theorem dX8_narrowed_42 : decode cX8_narrowed 42 = .ok (.l2i, 1) := by decide +kernel
theorem dX8_narrowed_43 : decode cX8_narrowed 43 = .ok (.i2s, 1) := by decide +kernel
theorem dX8_narrowed_44 : decode cX8_narrowed 44 = .ok (.i2l, 1) := by decide +kernel
theorem dX8_narrowed_45 : decode cX8_narrowed 45 = .ok (.lreturn, 1) := by decide +kernel
theorem dX8_narrowed_46 : decode cX8_narrowed 46 = .ok (.lload_n 1, 1) := by decide +kernel
theorem dX8_narrowed_47 : decode cX8_narrowed 47 = .ok (.l2i, 1) := by decide +kernel
theorem dX8_narrowed_48 : decode cX8_narrowed 48 = .ok (.i2l, 1) := by decide +kernel
theorem dX8_narrowed_49 : decode cX8_narrowed 49 = .ok (.lreturn, 1) := by decide +kernel
theorem dX8_narrowed_50 : decode cX8_narrowed 50 = .ok (.lload_n 1, 1) := by decide +kernel
theorem dX8_narrowed_51 : decode cX8_narrowed 51 = .ok (.lreturn, 1) := by decide +kernel
theorem dX8_narrowed_52 : decode cX8_narrowed 52 = .ok (.lload_n 1, 1) := by decide +kernel
theorem dX8_narrowed_53 : decode cX8_narrowed 53 = .ok (.lconst 0, 1) := by decide +kernel
theorem dX8_narrowed_54 : decode cX8_narrowed 54 = .ok (.lcmp, 1) := by decide +kernel
theorem dX8_narrowed_55 : decode cX8_narrowed 55 = .ok (.ifCond .eq 7, 3) := by decide +kernel
theorem dX8_narrowed_58 : decode cX8_narrowed 58 = .ok (.lconst 1, 1) := by decide +kernel
theorem dX8_narrowed_59 : decode cX8_narrowed 59 = .ok (.goto 4, 3) := by decide +kernel
theorem dX8_narrowed_62 : decode cX8_narrowed 62 = .ok (.lconst 0, 1) := by decide +kernel
theorem dX8_narrowed_63 : decode cX8_narrowed 63 = .ok (.lreturn, 1) := by decide +kernel
theorem dX9_learn_0 : decode cX9_learn 0 = .ok (.aload_n 0, 1) := by decide +kernel
theorem dX9_learn_1 : decode cX9_learn 1 = .ok (.aload_n 1, 1) := by decide +kernel
theorem dX9_learn_2 : decode cX9_learn 2 = .ok (.getfield 19, 3) := by decide +kernel
theorem dX9_learn_5 : decode cX9_learn 5 = .ok (.bipush 60, 2) := by decide +kernel
theorem dX9_learn_7 : decode cX9_learn 7 = .ok (.invokestatic 22, 3) := by decide +kernel
theorem dX9_learn_10 : decode cX9_learn 10 = .ok (.putfield 9, 3) := by decide +kernel
theorem dX9_learn_13 : decode cX9_learn 13 = .ok (.iconst 0, 1) := by decide +kernel
theorem dX9_learn_14 : decode cX9_learn 14 = .ok (.istore_n 2, 1) := by decide +kernel
theorem dX9_learn_15 : decode cX9_learn 15 = .ok (.iload_n 2, 1) := by decide +kernel
theorem dX9_learn_16 : decode cX9_learn 16 = .ok (.aload_n 0, 1) := by decide +kernel
theorem dX9_learn_17 : decode cX9_learn 17 = .ok (.getfield 9, 3) := by decide +kernel
theorem dX9_learn_20 : decode cX9_learn 20 = .ok (.if_icmp .ge 22, 3) := by decide +kernel
theorem dX9_learn_23 : decode cX9_learn 23 = .ok (.aload_n 0, 1) := by decide +kernel
theorem dX9_learn_24 : decode cX9_learn 24 = .ok (.getfield 15, 3) := by decide +kernel
theorem dX9_learn_27 : decode cX9_learn 27 = .ok (.iload_n 2, 1) := by decide +kernel
theorem dX9_learn_28 : decode cX9_learn 28 = .ok (.aload_n 1, 1) := by decide +kernel
theorem dX9_learn_29 : decode cX9_learn 29 = .ok (.getfield 28, 3) := by decide +kernel
theorem dX9_learn_32 : decode cX9_learn 32 = .ok (.iload_n 2, 1) := by decide +kernel
theorem dX9_learn_33 : decode cX9_learn 33 = .ok (.laload, 1) := by decide +kernel
theorem dX9_learn_34 : decode cX9_learn 34 = .ok (.l2i, 1) := by decide +kernel
theorem dX9_learn_35 : decode cX9_learn 35 = .ok (.iastore, 1) := by decide +kernel
theorem dX9_learn_36 : decode cX9_learn 36 = .ok (.iinc 2 1, 3) := by decide +kernel
theorem dX9_learn_39 : decode cX9_learn 39 = .ok (.goto (-24), 3) := by decide +kernel
theorem dX9_learn_42 : decode cX9_learn 42 = .ok (.return_, 1) := by decide +kernel
theorem dX10_foulCellars_0 : decode cX10_foulCellars 0 = .ok (.iconst 0, 1) := by decide +kernel
theorem dX10_foulCellars_1 : decode cX10_foulCellars 1 = .ok (.istore_n 1, 1) := by decide +kernel
theorem dX10_foulCellars_2 : decode cX10_foulCellars 2 = .ok (.iconst 0, 1) := by decide +kernel
theorem dX10_foulCellars_3 : decode cX10_foulCellars 3 = .ok (.istore_n 2, 1) := by decide +kernel
theorem dX10_foulCellars_4 : decode cX10_foulCellars 4 = .ok (.iload_n 2, 1) := by decide +kernel
theorem dX10_foulCellars_5 : decode cX10_foulCellars 5 = .ok (.bipush 100, 2) := by decide +kernel
theorem dX10_foulCellars_7 : decode cX10_foulCellars 7 = .ok (.if_icmp .ge 21, 3) := by decide +kernel
theorem dX10_foulCellars_10 : decode cX10_foulCellars 10 = .ok (.aload_n 0, 1) := by decide +kernel
theorem dX10_foulCellars_11 : decode cX10_foulCellars 11 = .ok (.getfield 18, 3) := by decide +kernel
theorem dX10_foulCellars_14 : decode cX10_foulCellars 14 = .ok (.iload_n 2, 1) := by decide +kernel
theorem dX10_foulCellars_15 : decode cX10_foulCellars 15 = .ok (.iaload, 1) := by decide +kernel
theorem dX10_foulCellars_16 : decode cX10_foulCellars 16 = .ok (.ifCond .le 6, 3) := by decide +kernel
theorem dX10_foulCellars_19 : decode cX10_foulCellars 19 = .ok (.iinc 1 1, 3) := by decide +kernel
theorem dX10_foulCellars_22 : decode cX10_foulCellars 22 = .ok (.iinc 2 1, 3) := by decide +kernel
theorem dX10_foulCellars_25 : decode cX10_foulCellars 25 = .ok (.goto (-21), 3) := by decide +kernel
theorem dX10_foulCellars_28 : decode cX10_foulCellars 28 = .ok (.iload_n 1, 1) := by decide +kernel
theorem dX10_foulCellars_29 : decode cX10_foulCellars 29 = .ok (.ireturn, 1) := by decide +kernel
theorem dX11_isTape_0 : decode cX11_isTape 0 = .ok (.iload_n 0, 1) := by decide +kernel
theorem dX11_isTape_1 : decode cX11_isTape 1 = .ok (.iconst 0, 1) := by decide +kernel
theorem dX11_isTape_2 : decode cX11_isTape 2 = .ok (.iconst 5, 1) := by decide +kernel
theorem dX11_isTape_3 : decode cX11_isTape 3 = .ok (.invokestatic 96, 3) := by decide +kernel
theorem dX11_isTape_6 : decode cX11_isTape 6 = .ok (.ireturn, 1) := by decide +kernel
theorem dX11_refuse_0 : decode cX11_refuse 0 = .ok (.aload_n 0, 1) := by decide +kernel
theorem dX11_refuse_1 : decode cX11_refuse 1 = .ok (.dup, 1) := by decide +kernel
theorem dX11_refuse_2 : decode cX11_refuse 2 = .ok (.getfield 54, 3) := by decide +kernel
theorem dX11_refuse_5 : decode cX11_refuse 5 = .ok (.iconst 1, 1) := by decide +kernel
theorem dX11_refuse_6 : decode cX11_refuse 6 = .ok (.iadd, 1) := by decide +kernel
theorem dX11_refuse_7 : decode cX11_refuse 7 = .ok (.putfield 54, 3) := by decide +kernel
theorem dX11_refuse_10 : decode cX11_refuse 10 = .ok (.iload_n 1, 1) := by decide +kernel
theorem dX11_refuse_11 : decode cX11_refuse 11 = .ok (.ireturn, 1) := by decide +kernel
theorem dX11_back_0 : decode cX11_back 0 = .ok (.iload_n 1, 1) := by decide +kernel
theorem dX11_back_1 : decode cX11_back 1 = .ok (.invokestatic 146, 3) := by decide +kernel
theorem dX11_back_4 : decode cX11_back 4 = .ok (.ifCond .ne 5, 3) := by decide +kernel
theorem dX11_back_7 : decode cX11_back 7 = .ok (.iconst (-1), 1) := by decide +kernel
theorem dX11_back_8 : decode cX11_back 8 = .ok (.ireturn, 1) := by decide +kernel
theorem dX11_back_9 : decode cX11_back 9 = .ok (.aload_n 0, 1) := by decide +kernel
theorem dX11_back_10 : decode cX11_back 10 = .ok (.getfield 46, 3) := by decide +kernel
theorem dX11_back_13 : decode cX11_back 13 = .ok (.iload_n 1, 1) := by decide +kernel
theorem dX11_back_14 : decode cX11_back 14 = .ok (.aaload, 1) := by decide +kernel
theorem dX11_back_15 : decode cX11_back 15 = .ok (.astore_n 2, 1) := by decide +kernel
theorem dX11_back_16 : decode cX11_back 16 = .ok (.aload_n 2, 1) := by decide +kernel
theorem dX11_back_17 : decode cX11_back 17 = .ok (.getfield 149, 3) := by decide +kernel
theorem dX11_back_20 : decode cX11_back 20 = .ok (.ifCond .ne 10, 3) := by decide +kernel
theorem dX11_back_23 : decode cX11_back 23 = .ok (.aload_n 0, 1) := by decide +kernel
theorem dX11_back_24 : decode cX11_back 24 = .ok (.bipush (-11), 2) := by decide +kernel
theorem dX11_back_26 : decode cX11_back 26 = .ok (.invokevirtual 152, 3) := by decide +kernel
theorem dX11_back_29 : decode cX11_back 29 = .ok (.ireturn, 1) := by decide +kernel
theorem dX11_back_30 : decode cX11_back 30 = .ok (.aload_n 2, 1) := by decide +kernel
theorem dX11_back_31 : decode cX11_back 31 = .ok (.getfield 149, 3) := by decide +kernel
theorem dX11_back_34 : decode cX11_back 34 = .ok (.bipush 6, 2) := by decide +kernel
theorem dX11_back_36 : decode cX11_back 36 = .ok (.if_icmp .ne 10, 3) := by decide +kernel
theorem dX11_back_39 : decode cX11_back 39 = .ok (.aload_n 2, 1) := by decide +kernel
theorem dX11_back_40 : decode cX11_back 40 = .ok (.getfield 405, 3) := by decide +kernel
theorem dX11_back_43 : decode cX11_back 43 = .ok (.ifnonnull 10, 3) := by decide +kernel
theorem dX11_back_46 : decode cX11_back 46 = .ok (.aload_n 0, 1) := by decide +kernel
theorem dX11_back_47 : decode cX11_back 47 = .ok (.bipush (-12), 2) := by decide +kernel
theorem dX11_back_49 : decode cX11_back 49 = .ok (.invokevirtual 152, 3) := by decide +kernel
theorem dX11_back_52 : decode cX11_back 52 = .ok (.ireturn, 1) := by decide +kernel
theorem dX11_back_53 : decode cX11_back 53 = .ok (.aload_n 0, 1) := by decide +kernel
theorem dX11_back_54 : decode cX11_back 54 = .ok (.getfield 10, 3) := by decide +kernel
theorem dX11_back_57 : decode cX11_back 57 = .ok (.aload_n 2, 1) := by decide +kernel
theorem dX11_back_58 : decode cX11_back 58 = .ok (.getfield 405, 3) := by decide +kernel
theorem dX11_back_61 : decode cX11_back 61 = .ok (.invokevirtual 408, 3) := by decide +kernel
theorem dX11_back_64 : decode cX11_back 64 = .ok (.aload_n 0, 1) := by decide +kernel
theorem dX11_back_65 : decode cX11_back 65 = .ok (.getfield 10, 3) := by decide +kernel
theorem dX11_back_68 : decode cX11_back 68 = .ok (.getfield 337, 3) := by decide +kernel
theorem dX11_back_71 : decode cX11_back 71 = .ok (.ireturn, 1) := by decide +kernel
theorem dX11_isLine_0 : decode cX11_isLine 0 = .ok (.iload_n 1, 1) := by decide +kernel
theorem dX11_isLine_1 : decode cX11_isLine 1 = .ok (.iconst 0, 1) := by decide +kernel
theorem dX11_isLine_2 : decode cX11_isLine 2 = .ok (.aload_n 0, 1) := by decide +kernel
theorem dX11_isLine_3 : decode cX11_isLine 3 = .ok (.getfield 10, 3) := by decide +kernel
theorem dX11_isLine_6 : decode cX11_isLine 6 = .ok (.getfield 217, 3) := by decide +kernel
theorem dX11_isLine_9 : decode cX11_isLine 9 = .ok (.iconst 1, 1) := by decide +kernel
theorem dX11_isLine_10 : decode cX11_isLine 10 = .ok (.isub, 1) := by decide +kernel
theorem dX11_isLine_11 : decode cX11_isLine 11 = .ok (.invokestatic 96, 3) := by decide +kernel
theorem dX11_isLine_14 : decode cX11_isLine 14 = .ok (.ireturn, 1) := by decide +kernel
theorem dX11_isOnLine_0 : decode cX11_isOnLine 0 = .ok (.aload_n 0, 1) := by decide +kernel
theorem dX11_isOnLine_1 : decode cX11_isOnLine 1 = .ok (.iload_n 1, 1) := by decide +kernel
theorem dX11_isOnLine_2 : decode cX11_isOnLine 2 = .ok (.invokevirtual 230, 3) := by decide +kernel
theorem dX11_isOnLine_5 : decode cX11_isOnLine 5 = .ok (.ifCond .eq 29, 3) := by decide +kernel
theorem dX11_isOnLine_8 : decode cX11_isOnLine 8 = .ok (.iload_n 2, 1) := by decide +kernel
theorem dX11_isOnLine_9 : decode cX11_isOnLine 9 = .ok (.iconst 0, 1) := by decide +kernel
theorem dX11_isOnLine_10 : decode cX11_isOnLine 10 = .ok (.aload_n 0, 1) := by decide +kernel
theorem dX11_isOnLine_11 : decode cX11_isOnLine 11 = .ok (.getfield 10, 3) := by decide +kernel
theorem dX11_isOnLine_14 : decode cX11_isOnLine 14 = .ok (.getfield 220, 3) := by decide +kernel
theorem dX11_isOnLine_17 : decode cX11_isOnLine 17 = .ok (.iload_n 1, 1) := by decide +kernel
theorem dX11_isOnLine_18 : decode cX11_isOnLine 18 = .ok (.aaload, 1) := by decide +kernel
theorem dX11_isOnLine_19 : decode cX11_isOnLine 19 = .ok (.getfield 257, 3) := by decide +kernel
theorem dX11_isOnLine_22 : decode cX11_isOnLine 22 = .ok (.iconst 1, 1) := by decide +kernel
theorem dX11_isOnLine_23 : decode cX11_isOnLine 23 = .ok (.isub, 1) := by decide +kernel
theorem dX11_isOnLine_24 : decode cX11_isOnLine 24 = .ok (.invokestatic 96, 3) := by decide +kernel
theorem dX11_isOnLine_27 : decode cX11_isOnLine 27 = .ok (.ifCond .eq 7, 3) := by decide +kernel
theorem dX11_isOnLine_30 : decode cX11_isOnLine 30 = .ok (.iconst 1, 1) := by decide +kernel
theorem dX11_isOnLine_31 : decode cX11_isOnLine 31 = .ok (.goto 4, 3) := by decide +kernel
theorem dX11_isOnLine_34 : decode cX11_isOnLine 34 = .ok (.iconst 0, 1) := by decide +kernel
theorem dX11_isOnLine_35 : decode cX11_isOnLine 35 = .ok (.ireturn, 1) := by decide +kernel
theorem dX11_bad_0 : decode cX11_bad 0 = .ok (.aload_n 0, 1) := by decide +kernel
theorem dX11_bad_1 : decode cX11_bad 1 = .ok (.iload_n 1, 1) := by decide +kernel
theorem dX11_bad_2 : decode cX11_bad 2 = .ok (.iload_n 2, 1) := by decide +kernel
theorem dX11_bad_3 : decode cX11_bad 3 = .ok (.invokevirtual 235, 3) := by decide +kernel
theorem dX11_bad_6 : decode cX11_bad 6 = .ok (.ifCond .ne 5, 3) := by decide +kernel
theorem dX11_bad_9 : decode cX11_bad 9 = .ok (.iconst (-1), 1) := by decide +kernel
theorem dX11_bad_10 : decode cX11_bad 10 = .ok (.ireturn, 1) := by decide +kernel
theorem dX11_bad_11 : decode cX11_bad 11 = .ok (.aload_n 0, 1) := by decide +kernel
theorem dX11_bad_12 : decode cX11_bad 12 = .ok (.getfield 10, 3) := by decide +kernel
theorem dX11_bad_15 : decode cX11_bad 15 = .ok (.getfield 220, 3) := by decide +kernel
theorem dX11_bad_18 : decode cX11_bad 18 = .ok (.iload_n 1, 1) := by decide +kernel
theorem dX11_bad_19 : decode cX11_bad 19 = .ok (.aaload, 1) := by decide +kernel
theorem dX11_bad_20 : decode cX11_bad 20 = .ok (.astore 4, 2) := by decide +kernel
theorem dX11_bad_22 : decode cX11_bad 22 = .ok (.aload 4, 2) := by decide +kernel
theorem dX11_bad_24 : decode cX11_bad 24 = .ok (.getfield 248, 3) := by decide +kernel
theorem dX11_bad_27 : decode cX11_bad 27 = .ok (.iload_n 2, 1) := by decide +kernel
theorem dX11_bad_28 : decode cX11_bad 28 = .ok (.iaload, 1) := by decide +kernel
theorem dX11_bad_29 : decode cX11_bad 29 = .ok (.bipush (-9), 2) := by decide +kernel
theorem dX11_bad_31 : decode cX11_bad 31 = .ok (.if_icmp .ne 6, 3) := by decide +kernel
theorem dX11_bad_34 : decode cX11_bad 34 = .ok (.bipush (-4), 2) := by decide +kernel
theorem dX11_bad_36 : decode cX11_bad 36 = .ok (.ireturn, 1) := by decide +kernel
theorem dX11_bad_37 : decode cX11_bad 37 = .ok (.iload_n 3, 1) := by decide +kernel
theorem dX11_bad_38 : decode cX11_bad 38 = .ok (.ifCond .eq 7, 3) := by decide +kernel
theorem dX11_bad_41 : decode cX11_bad 41 = .ok (.iconst 1, 1) := by decide +kernel
theorem dX11_bad_42 : decode cX11_bad 42 = .ok (.goto 4, 3) := by decide +kernel
theorem dX11_bad_45 : decode cX11_bad 45 = .ok (.iconst 0, 1) := by decide +kernel
theorem dX11_bad_46 : decode cX11_bad 46 = .ok (.istore 5, 2) := by decide +kernel
theorem dX11_bad_48 : decode cX11_bad 48 = .ok (.aload 4, 2) := by decide +kernel
theorem dX11_bad_50 : decode cX11_bad 50 = .ok (.getfield 254, 3) := by decide +kernel
theorem dX11_bad_53 : decode cX11_bad 53 = .ok (.iload_n 2, 1) := by decide +kernel
theorem dX11_bad_54 : decode cX11_bad 54 = .ok (.iaload, 1) := by decide +kernel
theorem dX11_bad_55 : decode cX11_bad 55 = .ok (.iload 5, 2) := by decide +kernel
theorem dX11_bad_57 : decode cX11_bad 57 = .ok (.if_icmp .ne 5, 3) := by decide +kernel
theorem dX11_bad_60 : decode cX11_bad 60 = .ok (.iconst 0, 1) := by decide +kernel
theorem dX11_bad_61 : decode cX11_bad 61 = .ok (.ireturn, 1) := by decide +kernel
theorem dX11_bad_62 : decode cX11_bad 62 = .ok (.aload 4, 2) := by decide +kernel
theorem dX11_bad_64 : decode cX11_bad 64 = .ok (.getfield 254, 3) := by decide +kernel
theorem dX11_bad_67 : decode cX11_bad 67 = .ok (.iload_n 2, 1) := by decide +kernel
theorem dX11_bad_68 : decode cX11_bad 68 = .ok (.iload 5, 2) := by decide +kernel
theorem dX11_bad_70 : decode cX11_bad 70 = .ok (.iastore, 1) := by decide +kernel
theorem dX11_bad_71 : decode cX11_bad 71 = .ok (.iconst 1, 1) := by decide +kernel
theorem dX11_bad_72 : decode cX11_bad 72 = .ok (.ireturn, 1) := by decide +kernel
set_option maxHeartbeats 4000000 in
set_option maxRecDepth 100000 in
theorem xX1_traceIsFouled_108 {K : KT} {v3 : Int32} {v4 : Int32} {v5 : Int32} {s0 : Int32} {w : Wd} {r : Bool × Wd} (G : GK K cX1_traceIsFouled RX1 7 3) (M : Main K.ks) (k8 : Int32 → Int32 → Int32 → Wd → Option (Bool × Wd)) (hk8 : ∀ (v3 : Int32) (v4 : Int32) (v5 : Int32) (w : Wd), k8 v3 v4 v5 w = some r → XW K 8 [some (.ref 92), some (.ref 1), none, some (.int v3), some (.int v4), some (.int v5), none] [] w) (hf : fX1_traceIsFouled_108 k8 v3 v4 v5 s0 w = some r) (hr : RI K .boolean (bI r.1) r.2) : XW K 108 [some (.ref 92), some (.ref 1), none, some (.int v3), some (.int v4), some (.int v5), none] [.int s0] w := by
  unfold fX1_traceIsFouled_108 at hf
  refine x_istore G (lv' := [some (.ref 92), some (.ref 1), none, some (.int v3), some (.int v4), some (.int v5), some (.int s0)]) dX1_traceIsFouled_108 rfl rfl rfl ?_
  refine x_aload_n G dX1_traceIsFouled_110 rfl rfl ?_
  refine x_getR G (kd1 M) 2 (b := 19) rfl cl0 rfl wf_X1_121 dX1_traceIsFouled_111 ?_
  refine x_getR G (kd19 M) 0 (b := 20) rfl cl3 rfl wf_X1_125 dX1_traceIsFouled_114 ?_
  refine x_iload_n G dX1_traceIsFouled_117 rfl rfl ?_
  refine x_iald G (kd20 M) dX1_traceIsFouled_118 hf (fun hb_1 hf => ?_)
  refine x_iconst G (v := 2) dX1_traceIsFouled_119 (by decide) ?_
  refine x_icmpeq G (tgt := 131) dX1_traceIsFouled_120 (by decide) hf (fun c_2 hf => ?_) (fun c_2 hf => ?_)
  · refine x_iconst G (v := 1) dX1_traceIsFouled_131 (by decide) ?_
    refine x_istore G (lv' := [some (.ref 92), some (.ref 1), none, some (.int v3), some (.int v4), some (.int (1 : Int32)), some (.int s0)]) dX1_traceIsFouled_132 rfl rfl rfl ?_
    refine x_goto G (tgt := 140) dX1_traceIsFouled_134 (by decide) ?_
    refine x_goto G (tgt := 8) dX1_traceIsFouled_140 (by decide) ?_
    exact XW.sub (lv' := [some (.ref 92), some (.ref 1), none, some (.int v3), some (.int v4), some (.int (1 : Int32)), none]) (And.intro rfl (And.intro rfl (And.intro rfl (And.intro rfl (And.intro rfl trivial))))) (hk8 _ _ _ _ hf)
  · refine x_iload G dX1_traceIsFouled_123 rfl ?_
    obtain ⟨v_3, hv_3, hf⟩ := bnd hf
    refine x_nesI G (As := [.int s0]) (mX11_isCell G.2.2.2.2.2.2.1 M hv_3) mn_X1_130 rfl rfl rfl rfl rfl dX1_traceIsFouled_125 ?_
    refine x_ifneB G (tgt := 137) dX1_traceIsFouled_128 (by decide) hf (fun c_4 hf => ?_) (fun c_4 hf => ?_)
    · refine x_iload G dX1_traceIsFouled_137 rfl ?_
      refine x_istore_n G (lv' := [some (.ref 92), some (.ref 1), none, some (.int s0), some (.int v4), some (.int v5), some (.int s0)]) dX1_traceIsFouled_139 rfl rfl rfl rfl ?_
      refine x_goto G (tgt := 8) dX1_traceIsFouled_140 (by decide) ?_
      exact XW.sub (lv' := [some (.ref 92), some (.ref 1), none, some (.int s0), some (.int v4), some (.int v5), none]) (And.intro rfl (And.intro rfl (And.intro rfl (And.intro rfl (And.intro rfl trivial))))) (hk8 _ _ _ _ hf)
    · refine x_iconst G (v := 1) dX1_traceIsFouled_131 (by decide) ?_
      refine x_istore G (lv' := [some (.ref 92), some (.ref 1), none, some (.int v3), some (.int v4), some (.int (1 : Int32)), some (.int s0)]) dX1_traceIsFouled_132 rfl rfl rfl ?_
      refine x_goto G (tgt := 140) dX1_traceIsFouled_134 (by decide) ?_
      refine x_goto G (tgt := 8) dX1_traceIsFouled_140 (by decide) ?_
      exact XW.sub (lv' := [some (.ref 92), some (.ref 1), none, some (.int v3), some (.int v4), some (.int (1 : Int32)), none]) (And.intro rfl (And.intro rfl (And.intro rfl (And.intro rfl (And.intro rfl trivial))))) (hk8 _ _ _ _ hf)

set_option maxHeartbeats 4000000 in
set_option maxRecDepth 100000 in
theorem xX1_traceIsFouled_154 {K : KT} {r : Bool × Wd} (G : GK K cX1_traceIsFouled RX1 7 3) (M : Main K.ks) (hr : RI K .boolean (bI r.1) r.2) : ∀ (n : Nat) (v4 : Int32) (v6 : Int32) (w : Wd), fX1_traceIsFouled_154 n v4 v6 w = some r → XW K 154 [some (.ref 92), none, none, none, some (.int v4), none, some (.int v6)] [] w := by
  intro n
  induction n with
  | zero =>
    intro v4 v6 w hf
    unfold fX1_traceIsFouled_154 at hf
    cases hf
  | succ n ih =>
    intro v4 v6 w hf
    unfold fX1_traceIsFouled_154 at hf
    refine x_iload G dX1_traceIsFouled_154 rfl ?_
    refine x_iload G dX1_traceIsFouled_156 rfl ?_
    refine x_icmpge G (tgt := 180) dX1_traceIsFouled_158 (by decide) hf (fun c_1 hf => ?_) (fun c_1 hf => ?_)
    · refine x_aload_n G dX1_traceIsFouled_161 rfl rfl ?_
      refine x_getR G (kd92 M) 5 (b := 98) rfl cl1 rfl wf_X1_27 dX1_traceIsFouled_162 ?_
      refine x_aload_n G dX1_traceIsFouled_165 rfl rfl ?_
      refine x_getR G (kd92 M) 6 (b := 99) rfl cl1 rfl wf_X1_30 dX1_traceIsFouled_166 ?_
      refine x_iload G dX1_traceIsFouled_169 rfl ?_
      refine x_iald G (kd99 M) dX1_traceIsFouled_171 hf (fun hb_2 hf => ?_)
      refine x_iconst G (v := 2) dX1_traceIsFouled_172 (by decide) ?_
      refine x_iast G (kd98 M) dX1_traceIsFouled_173 hf (fun hb_3 hf => ?_)
      refine nwr hf (fun w_4 hf => ?_)
      refine x_iinc G (lv' := [some (.ref 92), none, none, none, some (.int v4), none, some (.int (v6 + (1 : Int32)))]) (v := 1) dX1_traceIsFouled_174 rfl (by decide) rfl rfl rfl ?_
      refine x_goto G (tgt := 154) dX1_traceIsFouled_177 (by decide) ?_
      exact XW.sub (lv' := [some (.ref 92), none, none, none, some (.int v4), none, some (.int (v6 + (1 : Int32)))]) (And.intro rfl (And.intro rfl (And.intro rfl trivial))) (ih _ _ _ hf)
    · refine x_iconst G (v := 1) dX1_traceIsFouled_180 (by decide) ?_
      exact x_zretW G hf hr dX1_traceIsFouled_181

set_option maxHeartbeats 4000000 in
set_option maxRecDepth 100000 in
theorem xX1_traceIsFouled_143 {K : KT} {v4 : Int32} {v5 : Int32} {w : Wd} {r : Bool × Wd} (G : GK K cX1_traceIsFouled RX1 7 3) (M : Main K.ks) (hf : fX1_traceIsFouled_143 v4 v5 w = some r) (hr : RI K .boolean (bI r.1) r.2) : XW K 143 [some (.ref 92), none, none, none, some (.int v4), some (.int v5), none] [] w := by
  unfold fX1_traceIsFouled_143 at hf
  refine x_iload G dX1_traceIsFouled_143 rfl ?_
  refine x_iconst G (v := 2) dX1_traceIsFouled_145 (by decide) ?_
  refine x_icmpeq G (tgt := 151) dX1_traceIsFouled_146 (by decide) hf (fun c_1 hf => ?_) (fun c_1 hf => ?_)
  · refine x_iconst G (v := 0) dX1_traceIsFouled_151 (by decide) ?_
    refine x_istore G (lv' := [some (.ref 92), none, none, none, some (.int v4), some (.int v5), some (.int (0 : Int32))]) dX1_traceIsFouled_152 rfl rfl rfl ?_
    exact XW.sub (lv' := [some (.ref 92), none, none, none, some (.int v4), none, some (.int (0 : Int32))]) (And.intro rfl (And.intro rfl (And.intro rfl trivial))) (xX1_traceIsFouled_154 G M hr FU _ _ _ hf)
  · refine x_iconst G (v := 0) dX1_traceIsFouled_149 (by decide) ?_
    exact x_zretW G hf hr dX1_traceIsFouled_150

set_option maxHeartbeats 4000000 in
set_option maxRecDepth 100000 in
theorem xX1_traceIsFouled_8 {K : KT} {r : Bool × Wd} (G : GK K cX1_traceIsFouled RX1 7 3) (M : Main K.ks) (hr : RI K .boolean (bI r.1) r.2) : ∀ (n : Nat) (v3 : Int32) (v4 : Int32) (v5 : Int32) (w : Wd), fX1_traceIsFouled_8 n v3 v4 v5 w = some r → XW K 8 [some (.ref 92), some (.ref 1), none, some (.int v3), some (.int v4), some (.int v5), none] [] w := by
  intro n
  induction n with
  | zero =>
    intro v3 v4 v5 w hf
    unfold fX1_traceIsFouled_8 at hf
    cases hf
  | succ n ih =>
    intro v3 v4 v5 w hf
    unfold fX1_traceIsFouled_8 at hf
    refine x_iload G dX1_traceIsFouled_8 rfl ?_
    refine x_ifne G (tgt := 143) dX1_traceIsFouled_10 (by decide) hf (fun c_1 hf => ?_) (fun c_1 hf => ?_)
    · refine x_iload G dX1_traceIsFouled_13 rfl ?_
      refine x_bipush G (v := 100) dX1_traceIsFouled_15 (by decide) ?_
      refine x_icmpge G (tgt := 143) dX1_traceIsFouled_17 (by decide) hf (fun c_2 hf => ?_) (fun c_2 hf => ?_)
      · refine x_aload_n G dX1_traceIsFouled_20 rfl rfl ?_
        refine x_getR G (kd92 M) 5 (b := 98) rfl cl1 rfl wf_X1_27 dX1_traceIsFouled_21 ?_
        refine x_iload_n G dX1_traceIsFouled_24 rfl rfl ?_
        refine x_iald G (kd98 M) dX1_traceIsFouled_25 hf (fun hb_3 hf => ?_)
        refine x_ifeq G (tgt := 40) dX1_traceIsFouled_26 (by decide) hf (fun c_4 hf => ?_) (fun c_4 hf => ?_)
        · refine x_aload_n G dX1_traceIsFouled_40 rfl rfl ?_
          refine x_getR G (kd1 M) 0 (b := 2) rfl cl0 rfl wf_X1_33 dX1_traceIsFouled_41 ?_
          refine x_getR G (kd2 M) 4 (b := 7) rfl cl2 rfl wf_X1_92 dX1_traceIsFouled_44 ?_
          refine x_iload_n G dX1_traceIsFouled_47 rfl rfl ?_
          refine x_iald0 G (kd7 M) dX1_traceIsFouled_48 hb_3 ?_
          refine x_iconst G (v := 1) dX1_traceIsFouled_49 (by decide) ?_
          refine x_icmpne G (tgt := 59) dX1_traceIsFouled_50 (by decide) hf (fun c_5 hf => ?_) (fun c_5 hf => ?_)
          · refine x_iconst G (v := 2) dX1_traceIsFouled_53 (by decide) ?_
            refine x_istore G (lv' := [some (.ref 92), some (.ref 1), none, some (.int v3), some (.int v4), some (.int (2 : Int32)), none]) dX1_traceIsFouled_54 rfl rfl rfl ?_
            refine x_goto G (tgt := 8) dX1_traceIsFouled_56 (by decide) ?_
            exact XW.sub (lv' := [some (.ref 92), some (.ref 1), none, some (.int v3), some (.int v4), some (.int (2 : Int32)), none]) (And.intro rfl (And.intro rfl (And.intro rfl (And.intro rfl (And.intro rfl trivial))))) (ih _ _ _ _ hf)
          · refine x_aload_n G dX1_traceIsFouled_59 rfl rfl ?_
            refine x_getR G (kd92 M) 5 (b := 98) rfl cl1 rfl wf_X1_27 dX1_traceIsFouled_60 ?_
            refine x_iload_n G dX1_traceIsFouled_63 rfl rfl ?_
            refine x_iconst G (v := 1) dX1_traceIsFouled_64 (by decide) ?_
            refine x_iast0 G (kd98 M) dX1_traceIsFouled_65 hb_3 ?_
            refine nwr hf (fun w_6 hf => ?_)
            refine x_aload_n G dX1_traceIsFouled_66 rfl rfl ?_
            refine x_getR G (kd92 M) 6 (b := 99) rfl cl1 rfl wf_X1_30 dX1_traceIsFouled_67 ?_
            refine x_iload G dX1_traceIsFouled_70 rfl ?_
            refine x_iload_n G dX1_traceIsFouled_72 rfl rfl ?_
            refine x_iast G (kd99 M) dX1_traceIsFouled_73 hf (fun hb_7 hf => ?_)
            refine nwr hf (fun w_8 hf => ?_)
            refine x_iinc G (lv' := [some (.ref 92), some (.ref 1), none, some (.int v3), some (.int (v4 + (1 : Int32))), some (.int v5), none]) (v := 1) dX1_traceIsFouled_74 rfl (by decide) rfl rfl rfl ?_
            refine x_aload_n G dX1_traceIsFouled_77 rfl rfl ?_
            refine x_getR G (kd1 M) 2 (b := 19) rfl cl0 rfl wf_X1_121 dX1_traceIsFouled_78 ?_
            refine x_getR G (kd19 M) 0 (b := 20) rfl cl3 rfl wf_X1_125 dX1_traceIsFouled_81 ?_
            refine x_iload_n G dX1_traceIsFouled_84 rfl rfl ?_
            refine x_iald0 G (kd20 M) dX1_traceIsFouled_85 hb_3 ?_
            refine x_iconst G (v := 1) dX1_traceIsFouled_86 (by decide) ?_
            refine x_icmpne G (tgt := 102) dX1_traceIsFouled_87 (by decide) hf (fun c_9 hf => ?_) (fun c_9 hf => ?_)
            · refine x_aload_n G dX1_traceIsFouled_90 rfl rfl ?_
              refine x_getR G (kd1 M) 2 (b := 19) rfl cl0 rfl wf_X1_121 dX1_traceIsFouled_91 ?_
              refine x_getR G (kd19 M) 1 (b := 21) rfl cl3 rfl wf_X1_147 dX1_traceIsFouled_94 ?_
              refine x_iload_n G dX1_traceIsFouled_97 rfl rfl ?_
              refine x_iald0 G (kd21 M) dX1_traceIsFouled_98 hb_3 ?_
              refine x_goto G (tgt := 108) dX1_traceIsFouled_99 (by decide) ?_
              exact XW.sub (lv' := [some (.ref 92), some (.ref 1), none, some (.int v3), some (.int (v4 + (1 : Int32))), some (.int v5), none]) (And.intro rfl (And.intro rfl (And.intro rfl (And.intro rfl (And.intro rfl trivial))))) (xX1_traceIsFouled_108 G M (fX1_traceIsFouled_8 n) ih hf hr)
            · refine x_aload_n G dX1_traceIsFouled_102 rfl rfl ?_
              refine x_getR G (kd92 M) 0 (b := 93) rfl cl1 rfl wf_X1_9 dX1_traceIsFouled_103 ?_
              refine x_iload_n G dX1_traceIsFouled_106 rfl rfl ?_
              refine x_iald0 G (kd93 M) dX1_traceIsFouled_107 hb_3 ?_
              exact XW.sub (lv' := [some (.ref 92), some (.ref 1), none, some (.int v3), some (.int (v4 + (1 : Int32))), some (.int v5), none]) (And.intro rfl (And.intro rfl (And.intro rfl (And.intro rfl (And.intro rfl trivial))))) (xX1_traceIsFouled_108 G M (fX1_traceIsFouled_8 n) ih hf hr)
        · refine x_aload_n G dX1_traceIsFouled_29 rfl rfl ?_
          refine x_getR G (kd92 M) 5 (b := 98) rfl cl1 rfl wf_X1_27 dX1_traceIsFouled_30 ?_
          refine x_iload_n G dX1_traceIsFouled_33 rfl rfl ?_
          refine x_iald0 G (kd98 M) dX1_traceIsFouled_34 hb_3 ?_
          refine x_istore G (lv' := [some (.ref 92), some (.ref 1), none, some (.int v3), some (.int v4), some (.int (ri w 98 v3)), none]) dX1_traceIsFouled_35 rfl rfl rfl ?_
          refine x_goto G (tgt := 8) dX1_traceIsFouled_37 (by decide) ?_
          exact XW.sub (lv' := [some (.ref 92), some (.ref 1), none, some (.int v3), some (.int v4), some (.int (ri w 98 v3)), none]) (And.intro rfl (And.intro rfl (And.intro rfl (And.intro rfl (And.intro rfl trivial))))) (ih _ _ _ _ hf)
      · exact XW.sub (lv' := [some (.ref 92), none, none, none, some (.int v4), some (.int v5), none]) (And.intro rfl (And.intro rfl (And.intro rfl trivial))) (xX1_traceIsFouled_143 G M hf hr)
    · exact XW.sub (lv' := [some (.ref 92), none, none, none, some (.int v4), some (.int v5), none]) (And.intro rfl (And.intro rfl (And.intro rfl trivial))) (xX1_traceIsFouled_143 G M hf hr)

set_option maxHeartbeats 4000000 in
set_option maxRecDepth 100000 in
theorem xX1_traceIsFouled_e {K : KT} {v2 : Int32} {w : Wd} {r : Bool × Wd} (G : GK K cX1_traceIsFouled RX1 7 3) (M : Main K.ks) (hf : fX1_traceIsFouled v2 w = some r) (hr : RI K .boolean (bI r.1) r.2) : XW K 0 [some (.ref 92), some (.ref 1), some (.int v2), none, none, none, none] [] w := by
  unfold fX1_traceIsFouled at hf
  refine x_iload_n G dX1_traceIsFouled_0 rfl rfl ?_
  refine x_istore_n G (lv' := [some (.ref 92), some (.ref 1), some (.int v2), some (.int v2), none, none, none]) dX1_traceIsFouled_1 rfl rfl rfl rfl ?_
  refine x_iconst G (v := 0) dX1_traceIsFouled_2 (by decide) ?_
  refine x_istore G (lv' := [some (.ref 92), some (.ref 1), some (.int v2), some (.int v2), some (.int (0 : Int32)), none, none]) dX1_traceIsFouled_3 rfl rfl rfl ?_
  refine x_iconst G (v := 0) dX1_traceIsFouled_5 (by decide) ?_
  refine x_istore G (lv' := [some (.ref 92), some (.ref 1), some (.int v2), some (.int v2), some (.int (0 : Int32)), some (.int (0 : Int32)), none]) dX1_traceIsFouled_6 rfl rfl rfl ?_
  exact XW.sub (lv' := [some (.ref 92), some (.ref 1), none, some (.int v2), some (.int (0 : Int32)), some (.int (0 : Int32)), none]) (And.intro rfl (And.intro rfl (And.intro rfl (And.intro rfl (And.intro rfl trivial))))) (xX1_traceIsFouled_8 G M hr FU _ _ _ _ hf)

theorem mX1_traceIsFouled {l : Launch} {S : KS} {w : Wd} (hI : Inj S) (M : Main S) {v2 : Int32} {r : Bool × Wd} (hf : fX1_traceIsFouled v2 w = some r) : CI l yX1_traceIsFouled cX1_traceIsFouled 7 (some .boolean) 3 S [.ref 92, .ref 1, .int v2] w (bI r.1) r.2 := by
  intro sz
  refine mk_entry rfl (by decide +kernel) hI 4 rfl rfl (fun K h1 h2 h3 h4 h5 h6 G => ?_)
  subst h2
  exact xX1_traceIsFouled_e G M hf ⟨h3, by rw [h4, h6], h5⟩

set_option maxHeartbeats 4000000 in
set_option maxRecDepth 100000 in
theorem xX1_peopleFouled_19 {K : KT} {r : Int32 × Wd} (G : GK K cX1_peopleFouled RX1 5 4) (M : Main K.ks) (hr : RI K .int r.1 r.2) : ∀ (n : Nat) (v3 : Int32) (v4 : Int32) (w : Wd), fX1_peopleFouled_19 n v3 v4 w = some r → XW K 19 [some (.ref 92), some (.ref 1), none, some (.int v3), some (.int v4)] [] w := by
  intro n
  induction n with
  | zero =>
    intro v3 v4 w hf
    unfold fX1_peopleFouled_19 at hf
    cases hf
  | succ n ih =>
    intro v3 v4 w hf
    unfold fX1_peopleFouled_19 at hf
    refine x_iload G dX1_peopleFouled_19 rfl ?_
    refine x_bipush G (v := 100) dX1_peopleFouled_21 (by decide) ?_
    refine x_icmpge G (tgt := 85) dX1_peopleFouled_23 (by decide) hf (fun c_1 hf => ?_) (fun c_1 hf => ?_)
    · refine x_aload_n G dX1_peopleFouled_26 rfl rfl ?_
      refine x_getR G (kd1 M) 0 (b := 2) rfl cl0 rfl wf_X1_33 dX1_peopleFouled_27 ?_
      refine x_getR G (kd2 M) 2 (b := 5) rfl cl2 rfl wf_X1_95 dX1_peopleFouled_30 ?_
      refine x_iload G dX1_peopleFouled_33 rfl ?_
      refine x_iald G (kd5 M) dX1_peopleFouled_35 hf (fun hb_2 hf => ?_)
      refine x_ifeq G (tgt := 79) dX1_peopleFouled_36 (by decide) hf (fun c_3 hf => ?_) (fun c_3 hf => ?_)
      · refine x_iinc G (lv' := [some (.ref 92), some (.ref 1), none, some (.int v3), some (.int (v4 + (1 : Int32)))]) (v := 1) dX1_peopleFouled_79 rfl (by decide) rfl rfl rfl ?_
        refine x_goto G (tgt := 19) dX1_peopleFouled_82 (by decide) ?_
        exact XW.sub (lv' := [some (.ref 92), some (.ref 1), none, some (.int v3), some (.int (v4 + (1 : Int32)))]) (And.intro rfl (And.intro rfl (And.intro rfl (And.intro rfl trivial)))) (ih _ _ _ hf)
      · refine x_aload_n G dX1_peopleFouled_39 rfl rfl ?_
        refine x_getR G (kd1 M) 0 (b := 2) rfl cl0 rfl wf_X1_33 dX1_peopleFouled_40 ?_
        refine x_getR G (kd2 M) 4 (b := 7) rfl cl2 rfl wf_X1_92 dX1_peopleFouled_43 ?_
        refine x_iload G dX1_peopleFouled_46 rfl ?_
        refine x_iald0 G (kd7 M) dX1_peopleFouled_48 hb_2 ?_
        refine x_iconst G (v := 1) dX1_peopleFouled_49 (by decide) ?_
        refine x_icmpne G (tgt := 56) dX1_peopleFouled_50 (by decide) hf (fun c_4 hf => ?_) (fun c_4 hf => ?_)
        · refine x_goto G (tgt := 79) dX1_peopleFouled_53 (by decide) ?_
          refine x_iinc G (lv' := [some (.ref 92), some (.ref 1), none, some (.int v3), some (.int (v4 + (1 : Int32)))]) (v := 1) dX1_peopleFouled_79 rfl (by decide) rfl rfl rfl ?_
          refine x_goto G (tgt := 19) dX1_peopleFouled_82 (by decide) ?_
          exact XW.sub (lv' := [some (.ref 92), some (.ref 1), none, some (.int v3), some (.int (v4 + (1 : Int32)))]) (And.intro rfl (And.intro rfl (And.intro rfl (And.intro rfl trivial)))) (ih _ _ _ hf)
        · refine x_aload_n G dX1_peopleFouled_56 rfl rfl ?_
          refine x_aload_n G dX1_peopleFouled_57 rfl rfl ?_
          refine x_iload G dX1_peopleFouled_58 rfl ?_
          obtain ⟨v_5, hv_5, hf⟩ := bnd hf
          refine x_virI G (As := [.ref 1, .int v4]) (mX1_traceIsFouled G.2.2.2.2.2.2.1 M hv_5) mv_X1_241 (kd92 M) cl1 rfl rfl rfl rfl rfl dX1_peopleFouled_60 ?_
          refine x_ifeqB G (tgt := 79) dX1_peopleFouled_63 (by decide) hf (fun c_6 hf => ?_) (fun c_6 hf => ?_)
          · refine x_iload_n G dX1_peopleFouled_66 rfl rfl ?_
            refine x_aload_n G dX1_peopleFouled_67 rfl rfl ?_
            refine x_getR G (kd1 M) 0 (b := 2) rfl cl0 rfl wf_X1_33 dX1_peopleFouled_68 ?_
            refine x_getR G (kd2 M) 2 (b := 5) rfl cl2 rfl wf_X1_95 dX1_peopleFouled_71 ?_
            refine x_iload G dX1_peopleFouled_74 rfl ?_
            refine x_iald0 G (kd5 M) dX1_peopleFouled_76 hb_2 ?_
            refine x_iadd G dX1_peopleFouled_77 ?_
            refine x_istore_n G (lv' := [some (.ref 92), some (.ref 1), none, some (.int (v3 + (ri v_5.2 5 v4))), some (.int v4)]) dX1_peopleFouled_78 rfl rfl rfl rfl ?_
            refine x_iinc G (lv' := [some (.ref 92), some (.ref 1), none, some (.int (v3 + (ri v_5.2 5 v4))), some (.int (v4 + (1 : Int32)))]) (v := 1) dX1_peopleFouled_79 rfl (by decide) rfl rfl rfl ?_
            refine x_goto G (tgt := 19) dX1_peopleFouled_82 (by decide) ?_
            exact XW.sub (lv' := [some (.ref 92), some (.ref 1), none, some (.int (v3 + (ri v_5.2 5 v4))), some (.int (v4 + (1 : Int32)))]) (And.intro rfl (And.intro rfl (And.intro rfl (And.intro rfl trivial)))) (ih _ _ _ hf)
          · refine x_iinc G (lv' := [some (.ref 92), some (.ref 1), none, some (.int v3), some (.int (v4 + (1 : Int32)))]) (v := 1) dX1_peopleFouled_79 rfl (by decide) rfl rfl rfl ?_
            refine x_goto G (tgt := 19) dX1_peopleFouled_82 (by decide) ?_
            exact XW.sub (lv' := [some (.ref 92), some (.ref 1), none, some (.int v3), some (.int (v4 + (1 : Int32)))]) (And.intro rfl (And.intro rfl (And.intro rfl (And.intro rfl trivial)))) (ih _ _ _ hf)
    · refine x_iload_n G dX1_peopleFouled_85 rfl rfl ?_
      exact x_iretW G hf hr dX1_peopleFouled_86

set_option maxHeartbeats 4000000 in
set_option maxRecDepth 100000 in
theorem xX1_peopleFouled_e {K : KT} {v2 : Int32} {w : Wd} {r : Int32 × Wd} (G : GK K cX1_peopleFouled RX1 5 4) (M : Main K.ks) (hf : fX1_peopleFouled v2 w = some r) (hr : RI K .int r.1 r.2) : XW K 0 [some (.ref 92), some (.ref 1), some (.int v2), none, none] [] w := by
  unfold fX1_peopleFouled at hf
  refine x_aload_n G dX1_peopleFouled_0 rfl rfl ?_
  refine x_aload_n G dX1_peopleFouled_1 rfl rfl ?_
  refine x_iload_n G dX1_peopleFouled_2 rfl rfl ?_
  obtain ⟨v_1, hv_1, hf⟩ := bnd hf
  refine x_virV G (As := [.ref 1, .int v2]) (mX1_lead G.2.2.2.2.2.2.1 M hv_1) mv_X1_237 (kd92 M) cl1 rfl rfl rfl rfl rfl dX1_peopleFouled_3 ?_
  refine x_aload_n G dX1_peopleFouled_6 rfl rfl ?_
  refine x_getR G (kd92 M) 5 (b := 98) rfl cl1 rfl wf_X1_27 dX1_peopleFouled_7 ?_
  refine x_iconst G (v := 0) dX1_peopleFouled_10 (by decide) ?_
  refine x_staV G (As := [.ref 98, .int (0 : Int32)]) (mFillI G.2.2.2.2.2.2.1 (kd98 M)) ms_X1_115 rfl rfl rfl rfl rfl dX1_peopleFouled_11 ?_
  refine nwr hf (fun w_2 hf => ?_)
  refine x_iconst G (v := 0) dX1_peopleFouled_14 (by decide) ?_
  refine x_istore_n G (lv' := [some (.ref 92), some (.ref 1), some (.int v2), some (.int (0 : Int32)), none]) dX1_peopleFouled_15 rfl rfl rfl rfl ?_
  refine x_iconst G (v := 0) dX1_peopleFouled_16 (by decide) ?_
  refine x_istore G (lv' := [some (.ref 92), some (.ref 1), some (.int v2), some (.int (0 : Int32)), some (.int (0 : Int32))]) dX1_peopleFouled_17 rfl rfl rfl ?_
  exact XW.sub (lv' := [some (.ref 92), some (.ref 1), none, some (.int (0 : Int32)), some (.int (0 : Int32))]) (And.intro rfl (And.intro rfl (And.intro rfl (And.intro rfl trivial)))) (xX1_peopleFouled_19 G M hr FU _ _ _ hf)

theorem mX1_peopleFouled {l : Launch} {S : KS} {w : Wd} (hI : Inj S) (M : Main S) {v2 : Int32} {r : Int32 × Wd} (hf : fX1_peopleFouled v2 w = some r) : CI l yX1_peopleFouled cX1_peopleFouled 5 (some .int) 4 S [.ref 92, .ref 1, .int v2] w r.1 r.2 := by
  intro sz
  refine mk_entry rfl (by decide +kernel) hI 2 rfl rfl (fun K h1 h2 h3 h4 h5 h6 G => ?_)
  subst h2
  exact xX1_peopleFouled_e G M hf ⟨h3, by rw [h4, h6], h5⟩

set_option maxHeartbeats 4000000 in
set_option maxRecDepth 100000 in
theorem xX2_peopleOf_4 {K : KT} {w : Wd} {r : Int32} (G : GK K cX2_peopleOf RX2 4 1) (M : Main K.ks) (hr : RI K .int r w) : ∀ (n : Nat) (v1 : Int32) (v2 : Int32) (v3 : Int32), fX2_peopleOf_4 w n v1 v2 v3 = some r → XW K 4 [some (.ref 2), some (.int v1), some (.int v2), some (.int v3)] [] w := by
  intro n
  induction n with
  | zero =>
    intro v1 v2 v3 hf
    unfold fX2_peopleOf_4 at hf
    cases hf
  | succ n ih =>
    intro v1 v2 v3 hf
    unfold fX2_peopleOf_4 at hf
    refine x_iload_n G dX2_peopleOf_4 rfl rfl ?_
    refine x_bipush G (v := 10) dX2_peopleOf_5 (by decide) ?_
    refine x_icmpge G (tgt := 30) dX2_peopleOf_7 (by decide) hf (fun c_1 hf => ?_) (fun c_1 hf => ?_)
    · refine x_iload_n G dX2_peopleOf_10 rfl rfl ?_
      refine x_aload_n G dX2_peopleOf_11 rfl rfl ?_
      refine x_getR G (kd2 M) 2 (b := 5) rfl cl2 rfl wf_X2_18 dX2_peopleOf_12 ?_
      refine x_bipush G (v := 10) dX2_peopleOf_15 (by decide) ?_
      refine x_iload_n G dX2_peopleOf_17 rfl rfl ?_
      refine x_imul G dX2_peopleOf_18 ?_
      refine x_iload_n G dX2_peopleOf_19 rfl rfl ?_
      refine x_iadd G dX2_peopleOf_20 ?_
      refine x_iald G (kd5 M) dX2_peopleOf_21 hf (fun hb_2 hf => ?_)
      refine x_iadd G dX2_peopleOf_22 ?_
      refine x_istore_n G (lv' := [some (.ref 2), some (.int v1), some (.int (v2 + (ri w 5 (((10 : Int32) * v1) + v3)))), some (.int v3)]) dX2_peopleOf_23 rfl rfl rfl rfl ?_
      refine x_iinc G (lv' := [some (.ref 2), some (.int v1), some (.int (v2 + (ri w 5 (((10 : Int32) * v1) + v3)))), some (.int (v3 + (1 : Int32)))]) (v := 1) dX2_peopleOf_24 rfl (by decide) rfl rfl rfl ?_
      refine x_goto G (tgt := 4) dX2_peopleOf_27 (by decide) ?_
      exact XW.sub (lv' := [some (.ref 2), some (.int v1), some (.int (v2 + (ri w 5 (((10 : Int32) * v1) + v3)))), some (.int (v3 + (1 : Int32)))]) (And.intro rfl (And.intro rfl (And.intro rfl (And.intro rfl trivial)))) (ih _ _ _ hf)
    · refine x_iload_n G dX2_peopleOf_30 rfl rfl ?_
      exact x_iretP G hf hr dX2_peopleOf_31

set_option maxHeartbeats 4000000 in
set_option maxRecDepth 100000 in
theorem xX2_peopleOf_e {K : KT} {v1 : Int32} {w : Wd} {r : Int32} (G : GK K cX2_peopleOf RX2 4 1) (M : Main K.ks) (hf : fX2_peopleOf v1 w = some r) (hr : RI K .int r w) : XW K 0 [some (.ref 2), some (.int v1), none, none] [] w := by
  unfold fX2_peopleOf at hf
  refine x_iconst G (v := 0) dX2_peopleOf_0 (by decide) ?_
  refine x_istore_n G (lv' := [some (.ref 2), some (.int v1), some (.int (0 : Int32)), none]) dX2_peopleOf_1 rfl rfl rfl rfl ?_
  refine x_iconst G (v := 0) dX2_peopleOf_2 (by decide) ?_
  refine x_istore_n G (lv' := [some (.ref 2), some (.int v1), some (.int (0 : Int32)), some (.int (0 : Int32))]) dX2_peopleOf_3 rfl rfl rfl rfl ?_
  exact XW.sub (lv' := [some (.ref 2), some (.int v1), some (.int (0 : Int32)), some (.int (0 : Int32))]) (And.intro rfl (And.intro rfl (And.intro rfl (And.intro rfl trivial)))) (xX2_peopleOf_4 G M hr FU _ _ _ hf)

theorem mX2_peopleOf {l : Launch} {S : KS} {w : Wd} (hI : Inj S) (M : Main S) {v1 : Int32} {r : Int32} (hf : fX2_peopleOf v1 w = some r) : CI l yX2_peopleOf cX2_peopleOf 4 (some .int) 1 S [.ref 2, .int v1] w r w := by
  intro sz
  refine mk_entry rfl (by decide +kernel) hI 2 rfl rfl (fun K h1 h2 h3 h4 h5 h6 G => ?_)
  subst h2
  exact xX2_peopleOf_e G M hf ⟨h3, by rw [h4, h6], h5⟩

set_option maxHeartbeats 4000000 in
set_option maxRecDepth 100000 in
theorem xX2_rowToSet_e {K : KT} {v1 : Int32} {w : Wd} {r : Option Nat} (G : GK K cX2_rowToSet RX2 2 1) (M : Main K.ks) (hf : fX2_rowToSet v1 w = some r) (hr : RQ K ((.array .int)) r w) : XW K 0 [some (.ref 2), some (.int v1)] [] w := by
  unfold fX2_rowToSet at hf
  refine x_iload_n G dX2_rowToSet_0 rfl rfl ?_
  rcases ite_or hf with ⟨c_1, hf⟩ | ⟨c_1, hf⟩
  · refine x_swIn G (tgt := 40) (off := 39) (k := 0) dX2_rowToSet_1 c_1 (by decide) (by decide) (by decide) (by decide) ?_
    refine x_aload_n G dX2_rowToSet_40 rfl rfl ?_
    refine x_getR G (kd2 M) 0 (b := 3) rfl cl2 rfl wf_X2_9 dX2_rowToSet_41 ?_
    exact x_aretP G (r0 := (some 3)) hf hr (Or.inr ⟨_, rfl⟩) dX2_rowToSet_44
  rcases ite_or hf with ⟨c_2, hf⟩ | ⟨c_2, hf⟩
  · refine x_swIn G (tgt := 45) (off := 44) (k := 1) dX2_rowToSet_1 c_2 (by decide) (by decide) (by decide) (by decide) ?_
    refine x_aload_n G dX2_rowToSet_45 rfl rfl ?_
    refine x_getR G (kd2 M) 1 (b := 4) rfl cl2 rfl wf_X2_15 dX2_rowToSet_46 ?_
    exact x_aretP G (r0 := (some 4)) hf hr (Or.inr ⟨_, rfl⟩) dX2_rowToSet_49
  rcases ite_or hf with ⟨c_3, hf⟩ | ⟨c_3, hf⟩
  · refine x_swIn G (tgt := 50) (off := 49) (k := 2) dX2_rowToSet_1 c_3 (by decide) (by decide) (by decide) (by decide) ?_
    refine x_aload_n G dX2_rowToSet_50 rfl rfl ?_
    refine x_getR G (kd2 M) 2 (b := 5) rfl cl2 rfl wf_X2_18 dX2_rowToSet_51 ?_
    exact x_aretP G (r0 := (some 5)) hf hr (Or.inr ⟨_, rfl⟩) dX2_rowToSet_54
  rcases ite_or hf with ⟨c_4, hf⟩ | ⟨c_4, hf⟩
  · refine x_swIn G (tgt := 55) (off := 54) (k := 3) dX2_rowToSet_1 c_4 (by decide) (by decide) (by decide) (by decide) ?_
    refine x_aload_n G dX2_rowToSet_55 rfl rfl ?_
    refine x_getR G (kd2 M) 3 (b := 6) rfl cl2 rfl wf_X2_21 dX2_rowToSet_56 ?_
    exact x_aretP G (r0 := (some 6)) hf hr (Or.inr ⟨_, rfl⟩) dX2_rowToSet_59
  rcases ite_or hf with ⟨c_5, hf⟩ | ⟨c_5, hf⟩
  · refine x_swIn G (tgt := 60) (off := 59) (k := 4) dX2_rowToSet_1 c_5 (by decide) (by decide) (by decide) (by decide) ?_
    refine x_aload_n G dX2_rowToSet_60 rfl rfl ?_
    refine x_getR G (kd2 M) 4 (b := 7) rfl cl2 rfl wf_X2_24 dX2_rowToSet_61 ?_
    exact x_aretP G (r0 := (some 7)) hf hr (Or.inr ⟨_, rfl⟩) dX2_rowToSet_64
  rcases ite_or hf with ⟨c_6, hf⟩ | ⟨c_6, hf⟩
  · refine x_swIn G (tgt := 65) (off := 64) (k := 5) dX2_rowToSet_1 c_6 (by decide) (by decide) (by decide) (by decide) ?_
    refine x_aload_n G dX2_rowToSet_65 rfl rfl ?_
    refine x_getR G (kd2 M) 5 (b := 8) rfl cl2 rfl wf_X2_27 dX2_rowToSet_66 ?_
    exact x_aretP G (r0 := (some 8)) hf hr (Or.inr ⟨_, rfl⟩) dX2_rowToSet_69
  refine x_swDef G (tgt := 70) dX2_rowToSet_1 (by decide) [0, 1, 2, 3, 4, 5] (List.forall_mem_cons.mpr ⟨nek c_1 (by decide), (List.forall_mem_cons.mpr ⟨nek c_2 (by decide), (List.forall_mem_cons.mpr ⟨nek c_3 (by decide), (List.forall_mem_cons.mpr ⟨nek c_4 (by decide), (List.forall_mem_cons.mpr ⟨nek c_5 (by decide), (List.forall_mem_cons.mpr ⟨nek c_6 (by decide), (fun _ h => absurd h List.not_mem_nil)⟩)⟩)⟩)⟩)⟩)⟩) (by decide +kernel) ?_
  refine x_null G dX2_rowToSet_70 ?_
  exact x_aretP G (r0 := none) hf hr (Or.inr ⟨_, rfl⟩) dX2_rowToSet_71

theorem mX2_rowToSet {l : Launch} {S : KS} {w : Wd} (hI : Inj S) (M : Main S) {v1 : Int32} {r : Option Nat} (hf : fX2_rowToSet v1 w = some r) : CQ l yX2_rowToSet cX2_rowToSet 2 (some ((.array .int))) 1 S [.ref 2, .int v1] w r w := by
  intro sz
  refine mk_entry rfl (by decide +kernel) hI 0 rfl rfl (fun K h1 h2 h3 h4 h5 h6 G => ?_)
  subst h2
  exact xX2_rowToSet_e G M hf ⟨h3, by rw [h4, h6], h5⟩

theorem rowQ {S : KS} (M : Main S) {what : Int32} {w : Wd} {v : Option Nat} (h : fX2_rowToSet what w = some v) : ∀ qa, v = some qa → KD S qa (.inr (0, 100, nt)) := by
  intro qa e
  subst e
  unfold fX2_rowToSet at h
  rcases ite_or h with ⟨_, h⟩ | ⟨_, h⟩
  · cases h; exact kd3 M
  rcases ite_or h with ⟨_, h⟩ | ⟨_, h⟩
  · cases h; exact kd4 M
  rcases ite_or h with ⟨_, h⟩ | ⟨_, h⟩
  · cases h; exact kd5 M
  rcases ite_or h with ⟨_, h⟩ | ⟨_, h⟩
  · cases h; exact kd6 M
  rcases ite_or h with ⟨_, h⟩ | ⟨_, h⟩
  · cases h; exact kd7 M
  rcases ite_or h with ⟨_, h⟩ | ⟨_, h⟩
  · cases h; exact kd8 M
  cases h

set_option maxHeartbeats 4000000 in
set_option maxRecDepth 100000 in
theorem xX2_told_e {K : KT} {v1 : Int32} {v2 : Int32} {w : Wd} {r : Int32} (G : GK K cX2_told RX2 4 2) (M : Main K.ks) (hf : fX2_told v1 v2 w = some r) (hr : RI K .int r w) : XW K 0 [some (.ref 2), some (.int v1), some (.int v2), none] [] w := by
  unfold fX2_told at hf
  refine x_aload_n G dX2_told_0 rfl rfl ?_
  refine x_iload_n G dX2_told_1 rfl rfl ?_
  obtain ⟨v_1, hv_1, hf⟩ := bnd hf
  refine x_virQ G (As := [.int v2]) (mX2_rowToSet G.2.2.2.2.2.2.1 M hv_1) mv_X2_55 (kd2 M) cl2 rfl rfl rfl rfl rfl dX2_told_2 ?_
  have hq_2 := rowQ M hv_1
  cases v_1 with
  | none =>
    refine x_astore_nN G (lv' := [some (.ref 2), some (.int v1), some (.int v2), some (.null)]) dX2_told_5 rfl rfl rfl rfl ?_
    refine x_aload_nN G dX2_told_6 rfl rfl ?_
    refine x_ifnullN G (tgt := 14) dX2_told_7 (by decide) ?_
    refine x_iload_n G dX2_told_14 rfl rfl ?_
    refine x_bipush G (v := 6) dX2_told_15 (by decide) ?_
    refine x_icmpne G (tgt := 27) dX2_told_17 (by decide) hf (fun c_3 hf => ?_) (fun c_3 hf => ?_)
    · refine x_aload_n G dX2_told_20 rfl rfl ?_
      refine x_getR G (kd2 M) 6 (b := 9) rfl cl2 rfl wf_X2_30 dX2_told_21 ?_
      refine x_iload_n G dX2_told_24 rfl rfl ?_
      refine x_iald G (kd9 M) dX2_told_25 hf (fun hb_4 hf => ?_)
      exact x_iretP G hf hr dX2_told_26
    · refine x_iload_n G dX2_told_27 rfl rfl ?_
      refine x_bipush G (v := 7) dX2_told_28 (by decide) ?_
      refine x_icmpne G (tgt := 42) dX2_told_30 (by decide) hf (fun c_5 hf => ?_) (fun c_5 hf => ?_)
      · refine x_aload_n G dX2_told_33 rfl rfl ?_
        refine x_getR G (kd2 M) 7 (b := 10) rfl cl2 rfl wf_X2_33 dX2_told_34 ?_
        refine x_iload_n G dX2_told_37 rfl rfl ?_
        refine x_iald G (kd10 M) dX2_told_38 hf (fun hb_6 hf => ?_)
        refine x_goto G (tgt := 48) dX2_told_39 (by decide) ?_
        exact x_iretP G hf hr dX2_told_48
      · refine x_aload_n G dX2_told_42 rfl rfl ?_
        refine x_getR G (kd2 M) 8 (b := 11) rfl cl2 rfl wf_X2_36 dX2_told_43 ?_
        refine x_iload_n G dX2_told_46 rfl rfl ?_
        refine x_iald G (kd11 M) dX2_told_47 hf (fun hb_7 hf => ?_)
        exact x_iretP G hf hr dX2_told_48
  | some qa =>
    refine x_astore_n G (lv' := [some (.ref 2), some (.int v1), some (.int v2), some (.ref qa)]) dX2_told_5 rfl rfl rfl rfl ?_
    refine x_aload_n G dX2_told_6 rfl rfl ?_
    refine x_ifnullR G dX2_told_7 ?_
    refine x_aload_n G dX2_told_10 rfl rfl ?_
    refine x_iload_n G dX2_told_11 rfl rfl ?_
    refine x_iald G (hq_2 _ rfl) dX2_told_12 hf (fun hb_8 hf => ?_)
    exact x_iretP G hf hr dX2_told_13

theorem mX2_told {l : Launch} {S : KS} {w : Wd} (hI : Inj S) (M : Main S) {v1 : Int32} {v2 : Int32} {r : Int32} (hf : fX2_told v1 v2 w = some r) : CI l yX2_told cX2_told 4 (some .int) 2 S [.ref 2, .int v1, .int v2] w r w := by
  intro sz
  refine mk_entry rfl (by decide +kernel) hI 1 rfl rfl (fun K h1 h2 h3 h4 h5 h6 G => ?_)
  subst h2
  exact xX2_told_e G M hf ⟨h3, by rw [h4, h6], h5⟩

set_option maxHeartbeats 4000000 in
set_option maxRecDepth 100000 in
theorem xX3_elsewhere_4 {K : KT} {w : Wd} {r : Int32} (G : GK K cX3_elsewhere RX3 4 1) (M : Main K.ks) (hr : RI K .int r w) : ∀ (n : Nat) (v1 : Int32) (v2 : Int32) (v3 : Int32), fX3_elsewhere_4 w n v1 v2 v3 = some r → XW K 4 [some (.ref 19), some (.int v1), some (.int v2), some (.int v3)] [] w := by
  intro n
  induction n with
  | zero =>
    intro v1 v2 v3 hf
    unfold fX3_elsewhere_4 at hf
    cases hf
  | succ n ih =>
    intro v1 v2 v3 hf
    unfold fX3_elsewhere_4 at hf
    refine x_iload_n G dX3_elsewhere_4 rfl rfl ?_
    refine x_bipush G (v := 100) dX3_elsewhere_5 (by decide) ?_
    refine x_icmpge G (tgt := 33) dX3_elsewhere_7 (by decide) hf (fun c_1 hf => ?_) (fun c_1 hf => ?_)
    · refine x_iload_n G dX3_elsewhere_10 rfl rfl ?_
      refine x_iload_n G dX3_elsewhere_11 rfl rfl ?_
      refine x_icmpeq G (tgt := 27) dX3_elsewhere_12 (by decide) hf (fun c_2 hf => ?_) (fun c_2 hf => ?_)
      · refine x_iinc G (lv' := [some (.ref 19), some (.int v1), some (.int v2), some (.int (v3 + (1 : Int32)))]) (v := 1) dX3_elsewhere_27 rfl (by decide) rfl rfl rfl ?_
        refine x_goto G (tgt := 4) dX3_elsewhere_30 (by decide) ?_
        exact XW.sub (lv' := [some (.ref 19), some (.int v1), some (.int v2), some (.int (v3 + (1 : Int32)))]) (And.intro rfl (And.intro rfl (And.intro rfl (And.intro rfl trivial)))) (ih _ _ _ hf)
      · refine x_aload_n G dX3_elsewhere_15 rfl rfl ?_
        refine x_getR G (kd19 M) 0 (b := 20) rfl cl3 rfl wf_X3_9 dX3_elsewhere_16 ?_
        refine x_iload_n G dX3_elsewhere_19 rfl rfl ?_
        refine x_iald G (kd20 M) dX3_elsewhere_20 hf (fun hb_3 hf => ?_)
        refine x_ifeq G (tgt := 27) dX3_elsewhere_21 (by decide) hf (fun c_4 hf => ?_) (fun c_4 hf => ?_)
        · refine x_iinc G (lv' := [some (.ref 19), some (.int v1), some (.int v2), some (.int (v3 + (1 : Int32)))]) (v := 1) dX3_elsewhere_27 rfl (by decide) rfl rfl rfl ?_
          refine x_goto G (tgt := 4) dX3_elsewhere_30 (by decide) ?_
          exact XW.sub (lv' := [some (.ref 19), some (.int v1), some (.int v2), some (.int (v3 + (1 : Int32)))]) (And.intro rfl (And.intro rfl (And.intro rfl (And.intro rfl trivial)))) (ih _ _ _ hf)
        · refine x_iinc G (lv' := [some (.ref 19), some (.int v1), some (.int (v2 + (1 : Int32))), some (.int v3)]) (v := 1) dX3_elsewhere_24 rfl (by decide) rfl rfl rfl ?_
          refine x_iinc G (lv' := [some (.ref 19), some (.int v1), some (.int (v2 + (1 : Int32))), some (.int (v3 + (1 : Int32)))]) (v := 1) dX3_elsewhere_27 rfl (by decide) rfl rfl rfl ?_
          refine x_goto G (tgt := 4) dX3_elsewhere_30 (by decide) ?_
          exact XW.sub (lv' := [some (.ref 19), some (.int v1), some (.int (v2 + (1 : Int32))), some (.int (v3 + (1 : Int32)))]) (And.intro rfl (And.intro rfl (And.intro rfl (And.intro rfl trivial)))) (ih _ _ _ hf)
    · refine x_iload_n G dX3_elsewhere_33 rfl rfl ?_
      exact x_iretP G hf hr dX3_elsewhere_34

set_option maxHeartbeats 4000000 in
set_option maxRecDepth 100000 in
theorem xX3_elsewhere_e {K : KT} {v1 : Int32} {w : Wd} {r : Int32} (G : GK K cX3_elsewhere RX3 4 1) (M : Main K.ks) (hf : fX3_elsewhere v1 w = some r) (hr : RI K .int r w) : XW K 0 [some (.ref 19), some (.int v1), none, none] [] w := by
  unfold fX3_elsewhere at hf
  refine x_iconst G (v := 0) dX3_elsewhere_0 (by decide) ?_
  refine x_istore_n G (lv' := [some (.ref 19), some (.int v1), some (.int (0 : Int32)), none]) dX3_elsewhere_1 rfl rfl rfl rfl ?_
  refine x_iconst G (v := 0) dX3_elsewhere_2 (by decide) ?_
  refine x_istore_n G (lv' := [some (.ref 19), some (.int v1), some (.int (0 : Int32)), some (.int (0 : Int32))]) dX3_elsewhere_3 rfl rfl rfl rfl ?_
  exact XW.sub (lv' := [some (.ref 19), some (.int v1), some (.int (0 : Int32)), some (.int (0 : Int32))]) (And.intro rfl (And.intro rfl (And.intro rfl (And.intro rfl trivial)))) (xX3_elsewhere_4 G M hr FU _ _ _ hf)

theorem mX3_elsewhere {l : Launch} {S : KS} {w : Wd} (hI : Inj S) (M : Main S) {v1 : Int32} {r : Int32} (hf : fX3_elsewhere v1 w = some r) : CI l yX3_elsewhere cX3_elsewhere 4 (some .int) 1 S [.ref 19, .int v1] w r w := by
  intro sz
  refine mk_entry rfl (by decide +kernel) hI 2 rfl rfl (fun K h1 h2 h3 h4 h5 h6 G => ?_)
  subst h2
  exact xX3_elsewhere_e G M hf ⟨h3, by rw [h4, h6], h5⟩

set_option maxHeartbeats 4000000 in
set_option maxRecDepth 100000 in
theorem xX4_enact_e {K : KT} {v1 : Int32} {v2 : Int32} {w : Wd} {r : Int32 × Wd} (G : GK K cX4_enact RX4 3 4) (M : Main K.ks) (hf : fX4_enact v1 v2 w = some r) (hr : RI K .int r.1 r.2) : XW K 0 [some (.ref 106), some (.int v1), some (.int v2)] [] w := by
  unfold fX4_enact at hf
  refine x_aload_n G dX4_enact_0 rfl rfl ?_
  refine x_getI G (kd106 M) 0 rfl cl4 rfl wf_X4_9 dX4_enact_1 ?_
  refine x_bipush G (v := 20) dX4_enact_4 (by decide) ?_
  refine x_icmplt G (tgt := 12) dX4_enact_6 (by decide) hf (fun c_1 hf => ?_) (fun c_1 hf => ?_)
  · refine x_aload_n G dX4_enact_12 rfl rfl ?_
    refine x_getR G (kd106 M) 1 (b := 107) rfl cl4 rfl wf_X4_15 dX4_enact_13 ?_
    refine x_aload_n G dX4_enact_16 rfl rfl ?_
    refine x_getI G (kd106 M) 0 rfl cl4 rfl wf_X4_9 dX4_enact_17 ?_
    refine x_iload_n G dX4_enact_20 rfl rfl ?_
    refine x_iast G (kd107 M) dX4_enact_21 hf (fun hb_2 hf => ?_)
    refine nwr hf (fun w_3 hf => ?_)
    refine x_aload_n G dX4_enact_22 rfl rfl ?_
    refine x_getR G (kd106 M) 2 (b := 108) rfl cl4 rfl wf_X4_19 dX4_enact_23 ?_
    refine x_aload_n G dX4_enact_26 rfl rfl ?_
    refine x_getI G (kd106 M) 0 rfl cl4 rfl wf_X4_9 dX4_enact_27 ?_
    refine x_iload_n G dX4_enact_30 rfl rfl ?_
    refine x_iast G (kd108 M) dX4_enact_31 hf (fun hb_4 hf => ?_)
    refine nwr hf (fun w_5 hf => ?_)
    refine x_aload_n G dX4_enact_32 rfl rfl ?_
    refine x_getR G (kd106 M) 3 (b := 109) rfl cl4 rfl wf_X4_22 dX4_enact_33 ?_
    refine x_aload_n G dX4_enact_36 rfl rfl ?_
    refine x_getI G (kd106 M) 0 rfl cl4 rfl wf_X4_9 dX4_enact_37 ?_
    refine x_aload_n G dX4_enact_40 rfl rfl ?_
    refine x_getI G (kd106 M) 8 rfl cl4 rfl wf_X4_40 dX4_enact_41 ?_
    refine x_bipush G (v := 60) dX4_enact_44 (by decide) ?_
    refine x_min G wm_X4_52 wmin_1 wmin_2 wmin_3 rfl rfl dX4_enact_46 ?_
    refine x_iast G (kd109 M) dX4_enact_49 hf (fun hb_6 hf => ?_)
    refine nwr hf (fun w_7 hf => ?_)
    refine x_aload_n G dX4_enact_50 rfl rfl ?_
    refine x_getR G (kd106 M) 5 (b := 111) rfl cl4 rfl wf_X4_30 dX4_enact_51 ?_
    refine x_iconst G (v := 0) dX4_enact_54 (by decide) ?_
    refine x_aload_n G dX4_enact_55 rfl rfl ?_
    refine x_getR G (kd106 M) 4 (b := 110) rfl cl4 rfl wf_X4_27 dX4_enact_56 ?_
    refine x_aload_n G dX4_enact_59 rfl rfl ?_
    refine x_getI G (kd106 M) 0 rfl cl4 rfl wf_X4_9 dX4_enact_60 ?_
    refine x_aald G (kd110 M) (kn := 2) (by decide) dX4_enact_63 hf (fun hb_8 hf => ?_)
    refine x_iconst G (v := 0) dX4_enact_64 (by decide) ?_
    refine x_aload_n G dX4_enact_65 rfl rfl ?_
    refine x_getR G (kd106 M) 3 (b := 109) rfl cl4 rfl wf_X4_22 dX4_enact_66 ?_
    refine x_aload_n G dX4_enact_69 rfl rfl ?_
    refine x_getI G (kd106 M) 0 rfl cl4 rfl wf_X4_9 dX4_enact_70 ?_
    refine x_iald0 G (kd109 M) dX4_enact_73 hb_8 ?_
    refine x_cpyI G (kd111 M) (stepOk M hb_8) wm_X4_58 dX4_enact_74 rfl rfl hf (fun hf => ?_)
    refine nwr hf (fun w_9 hf => ?_)
    refine x_aload_n G dX4_enact_77 rfl rfl ?_
    refine x_dup G dX4_enact_78 rfl ?_
    refine x_getI G (kd106 M) 0 rfl cl4 rfl wf_X4_9 dX4_enact_79 ?_
    refine x_iconst G (v := 1) dX4_enact_82 (by decide) ?_
    refine x_iadd G dX4_enact_83 ?_
    refine x_putI G (kd106 M) 0 rfl cl4 rfl wf_X4_9 rfl rfl rfl dX4_enact_84 ?_
    refine nwr hf (fun w_10 hf => ?_)
    refine x_aload_n G dX4_enact_87 rfl rfl ?_
    refine x_getI G (kd106 M) 0 rfl cl4 rfl wf_X4_9 dX4_enact_88 ?_
    refine x_iconst G (v := 1) dX4_enact_91 (by decide) ?_
    refine x_isub G dX4_enact_92 ?_
    exact x_iretW G hf hr dX4_enact_93
  · refine x_bipush G (v := -2) dX4_enact_9 (by decide) ?_
    exact x_iretW G hf hr dX4_enact_11

theorem mX4_enact {l : Launch} {S : KS} {w : Wd} (hI : Inj S) (M : Main S) {v1 : Int32} {v2 : Int32} {r : Int32 × Wd} (hf : fX4_enact v1 v2 w = some r) : CI l yX4_enact cX4_enact 3 (some .int) 4 S [.ref 106, .int v1, .int v2] w r.1 r.2 := by
  intro sz
  refine mk_entry rfl (by decide +kernel) hI 0 rfl rfl (fun K h1 h2 h3 h4 h5 h6 G => ?_)
  subst h2
  exact xX4_enact_e G M hf ⟨h3, by rw [h4, h6], h5⟩

set_option maxHeartbeats 4000000 in
set_option maxRecDepth 100000 in
theorem xX4_firstFault_77 {K : KT} {w : Wd} {r : Int32 × Wd} (G : GK K cX4_firstFault RX4 3 201) (M : Main K.ks) (hf : fX4_firstFault_77 w = some r) (hr : RI K .int r.1 r.2) : XW K 77 [some (.ref 106), none, none] [] w := by
  unfold fX4_firstFault_77 at hf
  refine x_aload_n G dX4_firstFault_77 rfl rfl ?_
  refine x_getI G (kd106 M) 11 rfl cl4 rfl wf_X4_49 dX4_firstFault_78 ?_
  exact x_iretW G hf hr dX4_firstFault_81

set_option maxHeartbeats 4000000 in
set_option maxRecDepth 100000 in
theorem xX4_firstFault_15 {K : KT} {r : Int32 × Wd} (G : GK K cX4_firstFault RX4 3 201) (M : Main K.ks) (hr : RI K .int r.1 r.2) : ∀ (n : Nat) (v1 : Nat) (v2 : Int32) (w : Wd), IsTape K.ks v1 → fX4_firstFault_15 n v1 v2 w = some r → XW K 15 [some (.ref 106), some (.ref v1), some (.int v2)] [] w := by
  intro n
  induction n with
  | zero =>
    intro v1 v2 w hv1 hf
    unfold fX4_firstFault_15 at hf
    cases hf
  | succ n ih =>
    intro v1 v2 w hv1 hf
    unfold fX4_firstFault_15 at hf
    refine x_iload_n G dX4_firstFault_15 rfl rfl ?_
    refine x_aload_n G dX4_firstFault_16 rfl rfl ?_
    refine x_getI G (kd106 M) 9 rfl cl4 rfl wf_X4_43 dX4_firstFault_17 ?_
    refine x_icmpge G (tgt := 42) dX4_firstFault_20 (by decide) hf (fun c_1 hf => ?_) (fun c_1 hf => ?_)
    · refine x_aload_n G dX4_firstFault_23 rfl rfl ?_
      refine x_getR G (kd106 M) 7 (b := 113) rfl cl4 rfl wf_X4_37 dX4_firstFault_24 ?_
      refine x_iload_n G dX4_firstFault_27 rfl rfl ?_
      refine x_aload_n G dX4_firstFault_28 rfl rfl ?_
      refine x_getR G hv1.1 2 (b := (v1 + 1)) rfl cl8 rfl wf_X4_155 dX4_firstFault_29 ?_
      refine x_iload_n G dX4_firstFault_32 rfl rfl ?_
      refine x_lald G hv1.2 dX4_firstFault_33 hf (fun hb_2 hf => ?_)
      refine x_l2i G dX4_firstFault_34 ?_
      refine x_iast0 G (kd113 M) dX4_firstFault_35 hb_2 ?_
      refine nwr hf (fun w_3 hf => ?_)
      refine x_iinc G (lv' := [some (.ref 106), some (.ref v1), some (.int (v2 + (1 : Int32)))]) (v := 1) dX4_firstFault_36 rfl (by decide) rfl rfl rfl ?_
      refine x_goto G (tgt := 15) dX4_firstFault_39 (by decide) ?_
      exact XW.sub (lv' := [some (.ref 106), some (.ref v1), some (.int (v2 + (1 : Int32)))]) (And.intro rfl (And.intro rfl (And.intro rfl trivial))) (ih _ _ _ hv1 hf)
    · refine x_aload_n G dX4_firstFault_42 rfl rfl ?_
      refine x_iconst G (v := 0) dX4_firstFault_43 (by decide) ?_
      refine x_putI G (kd106 M) 8 rfl cl4 rfl wf_X4_40 rfl rfl rfl dX4_firstFault_44 ?_
      refine nwr hf (fun w_4 hf => ?_)
      refine x_aload_n G dX4_firstFault_47 rfl rfl ?_
      refine x_iconst G (v := 0) dX4_firstFault_48 (by decide) ?_
      refine x_putI G (kd106 M) 10 rfl cl4 rfl wf_X4_46 rfl rfl rfl dX4_firstFault_49 ?_
      refine nwr hf (fun w_5 hf => ?_)
      refine x_aload_n G dX4_firstFault_52 rfl rfl ?_
      refine x_iconst G (v := -1) dX4_firstFault_53 (by decide) ?_
      refine x_putI G (kd106 M) 11 rfl cl4 rfl wf_X4_49 rfl rfl rfl dX4_firstFault_54 ?_
      refine nwr hf (fun w_6 hf => ?_)
      refine x_aload_n G dX4_firstFault_57 rfl rfl ?_
      refine x_iconst G (v := 0) dX4_firstFault_58 (by decide) ?_
      obtain ⟨v_7, hv_7, hf⟩ := bnd hf
      refine x_virV G (As := [.int (0 : Int32)]) (mKRO G.2.2.2.2.2.2.1 M hv_7) mv_X4_158 (kd106 M) cl4 rfl rfl rfl rfl rfl dX4_firstFault_59 ?_
      refine x_aload_n G dX4_firstFault_62 rfl rfl ?_
      refine x_getI G (kd106 M) 10 rfl cl4 rfl wf_X4_46 dX4_firstFault_63 ?_
      refine x_aload_n G dX4_firstFault_66 rfl rfl ?_
      refine x_getI G (kd106 M) 9 rfl cl4 rfl wf_X4_43 dX4_firstFault_67 ?_
      refine x_icmpge G (tgt := 77) dX4_firstFault_70 (by decide) hf (fun c_8 hf => ?_) (fun c_8 hf => ?_)
      · refine x_aload_n G dX4_firstFault_73 rfl rfl ?_
        obtain ⟨v_9, hv_9, hf⟩ := bnd hf
        refine x_virV G (As := []) (mX4_fail G.2.2.2.2.2.2.1 M hv_9) mv_X4_162 (kd106 M) cl4 rfl rfl rfl rfl rfl dX4_firstFault_74 ?_
        exact XW.sub (lv' := [some (.ref 106), none, none]) (And.intro rfl trivial) (xX4_firstFault_77 G M hf hr)
      · exact XW.sub (lv' := [some (.ref 106), none, none]) (And.intro rfl trivial) (xX4_firstFault_77 G M hf hr)

set_option maxHeartbeats 4000000 in
set_option maxRecDepth 100000 in
theorem xX4_firstFault_e {K : KT} {v1 : Nat} {w : Wd} {r : Int32 × Wd} (G : GK K cX4_firstFault RX4 3 201) (M : Main K.ks) (hv1 : IsTape K.ks v1) (hf : fX4_firstFault v1 w = some r) (hr : RI K .int r.1 r.2) : XW K 0 [some (.ref 106), some (.ref v1), none] [] w := by
  unfold fX4_firstFault at hf
  refine x_aload_n G dX4_firstFault_0 rfl rfl ?_
  refine x_aload_n G dX4_firstFault_1 rfl rfl ?_
  refine x_getI G hv1.1 1 rfl cl8 rfl wf_X4_150 dX4_firstFault_2 ?_
  refine x_bipush G (v := 100) dX4_firstFault_5 (by decide) ?_
  refine x_min G wm_X4_52 wmin_1 wmin_2 wmin_3 rfl rfl dX4_firstFault_7 ?_
  refine x_putI G (kd106 M) 9 rfl cl4 rfl wf_X4_43 rfl rfl rfl dX4_firstFault_10 ?_
  refine nwr hf (fun w_1 hf => ?_)
  refine x_iconst G (v := 0) dX4_firstFault_13 (by decide) ?_
  refine x_istore_n G (lv' := [some (.ref 106), some (.ref v1), some (.int (0 : Int32))]) dX4_firstFault_14 rfl rfl rfl rfl ?_
  exact XW.sub (lv' := [some (.ref 106), some (.ref v1), some (.int (0 : Int32))]) (And.intro rfl (And.intro rfl (And.intro rfl trivial))) (xX4_firstFault_15 G M hr FU _ _ _ hv1 hf)

theorem mX4_firstFault {l : Launch} {S : KS} {w : Wd} (hI : Inj S) (M : Main S) {v1 : Nat} (hv1 : IsTape S v1) {r : Int32 × Wd} (hf : fX4_firstFault v1 w = some r) : CI l yX4_firstFault cX4_firstFault 3 (some .int) 201 S [.ref 106, .ref v1] w r.1 r.2 := by
  intro sz
  refine mk_entry rfl (by decide +kernel) hI 1 rfl rfl (fun K h1 h2 h3 h4 h5 h6 G => ?_)
  subst h2
  exact xX4_firstFault_e G M hv1 hf ⟨h3, by rw [h4, h6], h5⟩

set_option maxHeartbeats 4000000 in
set_option maxRecDepth 100000 in
theorem xX5_firstBearing_2 {K : KT} {w : Wd} {r : Int32} (G : GK K cX5_firstBearing RX5 4 2) (M : Main K.ks) (hr : RI K .int r w) : ∀ (n : Nat) (v0 : Nat) (v1 : Int32) (v2 : Int32) (v3 : Int32), IsLine K.ks v0 → fX5_firstBearing_2 w n v0 v1 v2 v3 = some r → XW K 2 [some (.ref v0), some (.int v1), some (.int v2), some (.int v3)] [] w := by
  intro n
  induction n with
  | zero =>
    intro v0 v1 v2 v3 hv0 hf
    unfold fX5_firstBearing_2 at hf
    cases hf
  | succ n ih =>
    intro v0 v1 v2 v3 hv0 hf
    unfold fX5_firstBearing_2 at hf
    refine x_iload_n G dX5_firstBearing_2 rfl rfl ?_
    refine x_bipush G (v := 50) dX5_firstBearing_3 (by decide) ?_
    refine x_icmpgt G (tgt := 33) dX5_firstBearing_5 (by decide) hf (fun c_1 hf => ?_) (fun c_1 hf => ?_)
    · refine x_iconst G (v := -1) dX5_firstBearing_33 (by decide) ?_
      exact x_iretP G hf hr dX5_firstBearing_34
    · refine x_aload_n G dX5_firstBearing_8 rfl rfl ?_
      refine x_iload_n G dX5_firstBearing_9 rfl rfl ?_
      refine x_iload_n G dX5_firstBearing_10 rfl rfl ?_
      obtain ⟨v_2, hv_2, hf⟩ := bnd hf
      refine x_virI G (As := [.int v1, .int v3]) (mX5_strength G.2.2.2.2.2.2.1 M hv0 hv_2) mv_X5_67 hv0.1 cl5 rfl rfl rfl rfl rfl dX5_firstBearing_11 ?_
      refine x_iload_n G dX5_firstBearing_14 rfl rfl ?_
      refine x_icmplt G (tgt := 27) dX5_firstBearing_15 (by decide) hf (fun c_3 hf => ?_) (fun c_3 hf => ?_)
      · refine x_iinc G (lv' := [some (.ref v0), some (.int v1), some (.int v2), some (.int (v3 + (1 : Int32)))]) (v := 1) dX5_firstBearing_27 rfl (by decide) rfl rfl rfl ?_
        refine x_goto G (tgt := 2) dX5_firstBearing_30 (by decide) ?_
        exact XW.sub (lv' := [some (.ref v0), some (.int v1), some (.int v2), some (.int (v3 + (1 : Int32)))]) (And.intro rfl (And.intro rfl (And.intro rfl (And.intro rfl trivial)))) (ih _ _ _ _ hv0 hf)
      · refine x_aload_n G dX5_firstBearing_18 rfl rfl ?_
        refine x_getR G hv0.1 8 (b := (v0 + 4)) rfl cl5 rfl wf_X5_37 dX5_firstBearing_19 ?_
        refine x_iload_n G dX5_firstBearing_22 rfl rfl ?_
        refine x_iald G hv0.2.2.2.2.1 dX5_firstBearing_23 hf (fun hb_4 hf => ?_)
        refine x_iload_n G dX5_firstBearing_24 rfl rfl ?_
        refine x_iadd G dX5_firstBearing_25 ?_
        exact x_iretP G hf hr dX5_firstBearing_26

set_option maxHeartbeats 4000000 in
set_option maxRecDepth 100000 in
theorem xX5_firstBearing_e {K : KT} {v0 : Nat} {v1 : Int32} {v2 : Int32} {w : Wd} {r : Int32} (G : GK K cX5_firstBearing RX5 4 2) (M : Main K.ks) (hv0 : IsLine K.ks v0) (hf : fX5_firstBearing v0 v1 v2 w = some r) (hr : RI K .int r w) : XW K 0 [some (.ref v0), some (.int v1), some (.int v2), none] [] w := by
  unfold fX5_firstBearing at hf
  refine x_iconst G (v := 0) dX5_firstBearing_0 (by decide) ?_
  refine x_istore_n G (lv' := [some (.ref v0), some (.int v1), some (.int v2), some (.int (0 : Int32))]) dX5_firstBearing_1 rfl rfl rfl rfl ?_
  exact XW.sub (lv' := [some (.ref v0), some (.int v1), some (.int v2), some (.int (0 : Int32))]) (And.intro rfl (And.intro rfl (And.intro rfl (And.intro rfl trivial)))) (xX5_firstBearing_2 G M hr FU _ _ _ _ hv0 hf)

theorem mX5_firstBearing {l : Launch} {S : KS} {w : Wd} (hI : Inj S) (M : Main S) {v0 : Nat} {v1 : Int32} {v2 : Int32} (hv0 : IsLine S v0) {r : Int32} (hf : fX5_firstBearing v0 v1 v2 w = some r) : CI l yX5_firstBearing cX5_firstBearing 4 (some .int) 2 S [.ref v0, .int v1, .int v2] w r w := by
  intro sz
  refine mk_entry rfl (by decide +kernel) hI 1 rfl rfl (fun K h1 h2 h3 h4 h5 h6 G => ?_)
  subst h2
  exact xX5_firstBearing_e G M hv0 hf ⟨h3, by rw [h4, h6], h5⟩

set_option maxHeartbeats 4000000 in
set_option maxRecDepth 100000 in
theorem xX5_start_e {K : KT} {v0 : Nat} {v2 : Int32} {v3 : Int32} {w : Wd} {r : Wd} (G : GK K cX5_start RX5 4 5) (M : Main K.ks) (hv0 : IsLine K.ks v0) (hf : fX5_start v0 v2 v3 w = some r) (hr : RV K r) : XW K 0 [some (.ref v0), some (.ref 102), some (.int v2), some (.int v3)] [] w := by
  unfold fX5_start at hf
  refine x_aload_n G dX5_start_0 rfl rfl ?_
  refine x_iload_n G dX5_start_1 rfl rfl ?_
  refine x_putI G hv0.1 0 rfl cl5 rfl wf_X5_9 rfl rfl rfl dX5_start_2 ?_
  refine nwr hf (fun w_1 hf => ?_)
  refine x_aload_n G dX5_start_5 rfl rfl ?_
  refine x_iload_n G dX5_start_6 rfl rfl ?_
  refine x_putI G hv0.1 1 rfl cl5 rfl wf_X5_15 rfl rfl rfl dX5_start_7 ?_
  refine nwr hf (fun w_2 hf => ?_)
  refine x_aload_n G dX5_start_10 rfl rfl ?_
  refine x_iconst G (v := 0) dX5_start_11 (by decide) ?_
  refine x_putI G hv0.1 2 rfl cl5 rfl wf_X5_18 rfl rfl rfl dX5_start_12 ?_
  refine nwr hf (fun w_3 hf => ?_)
  refine x_aload_n G dX5_start_15 rfl rfl ?_
  refine x_aload_n G dX5_start_16 rfl rfl ?_
  refine x_getI G (kd102 M) 0 rfl cl7 rfl wf_X5_46 dX5_start_17 ?_
  refine x_putI G hv0.1 3 rfl cl5 rfl wf_X5_21 rfl rfl rfl dX5_start_20 ?_
  refine nwr hf (fun w_4 hf => ?_)
  refine x_aload_n G dX5_start_23 rfl rfl ?_
  refine x_aload_n G dX5_start_24 rfl rfl ?_
  refine x_getI G (kd102 M) 0 rfl cl7 rfl wf_X5_46 dX5_start_25 ?_
  refine x_putI G hv0.1 4 rfl cl5 rfl wf_X5_24 rfl rfl rfl dX5_start_28 ?_
  refine nwr hf (fun w_5 hf => ?_)
  refine x_aload_n G dX5_start_31 rfl rfl ?_
  refine x_getR G (kd102 M) 1 (b := 103) rfl cl7 rfl wf_X5_49 dX5_start_32 ?_
  refine x_aload_n G dX5_start_35 rfl rfl ?_
  refine x_getR G hv0.1 5 (b := (v0 + 1)) rfl cl5 rfl wf_X5_27 dX5_start_36 ?_
  obtain ⟨v_6, hv_6, hf⟩ := bnd hf
  refine x_nesV G (As := [.ref 103, .ref (v0 + 1)]) (mX11_copyRow G.2.2.2.2.2.2.1 M (kd103 M) hv0.2.1 hv_6) mn_X5_50 rfl rfl rfl rfl rfl dX5_start_39 ?_
  refine x_aload_n G dX5_start_42 rfl rfl ?_
  refine x_getR G (kd102 M) 2 (b := 104) rfl cl7 rfl wf_X5_54 dX5_start_43 ?_
  refine x_aload_n G dX5_start_46 rfl rfl ?_
  refine x_getR G hv0.1 6 (b := (v0 + 2)) rfl cl5 rfl wf_X5_31 dX5_start_47 ?_
  obtain ⟨v_7, hv_7, hf⟩ := bnd hf
  refine x_nesV G (As := [.ref 104, .ref (v0 + 2)]) (mX11_copyRow G.2.2.2.2.2.2.1 M (kd104 M) hv0.2.2.1 hv_7) mn_X5_50 rfl rfl rfl rfl rfl dX5_start_50 ?_
  refine x_aload_n G dX5_start_53 rfl rfl ?_
  refine x_getR G hv0.1 7 (b := (v0 + 3)) rfl cl5 rfl wf_X5_34 dX5_start_54 ?_
  refine x_iconst G (v := 0) dX5_start_57 (by decide) ?_
  refine x_staV G (As := [.ref (v0 + 3), .int (0 : Int32)]) (mFillI G.2.2.2.2.2.2.1 hv0.2.2.2.1) ms_X5_55 rfl rfl rfl rfl rfl dX5_start_58 ?_
  refine nwr hf (fun w_8 hf => ?_)
  refine x_aload_n G dX5_start_61 rfl rfl ?_
  refine x_getR G hv0.1 8 (b := (v0 + 4)) rfl cl5 rfl wf_X5_37 dX5_start_62 ?_
  refine x_bipush G (v := -9) dX5_start_65 (by decide) ?_
  refine x_staV G (As := [.ref (v0 + 4), .int (-9 : Int32)]) (mFillI G.2.2.2.2.2.2.1 hv0.2.2.2.2.1) ms_X5_55 rfl rfl rfl rfl rfl dX5_start_67 ?_
  refine nwr hf (fun w_9 hf => ?_)
  refine x_aload_n G dX5_start_70 rfl rfl ?_
  refine x_getR G hv0.1 9 (b := (v0 + 5)) rfl cl5 rfl wf_X5_40 dX5_start_71 ?_
  refine x_iconst G (v := 0) dX5_start_74 (by decide) ?_
  refine x_staV G (As := [.ref (v0 + 5), .int (0 : Int32)]) (mFillI G.2.2.2.2.2.2.1 hv0.2.2.2.2.2.1) ms_X5_55 rfl rfl rfl rfl rfl dX5_start_75 ?_
  refine nwr hf (fun w_10 hf => ?_)
  refine x_aload_n G dX5_start_78 rfl rfl ?_
  refine x_getR G hv0.1 10 (b := (v0 + 6)) rfl cl5 rfl wf_X5_43 dX5_start_79 ?_
  refine x_iconst G (v := 0) dX5_start_82 (by decide) ?_
  refine x_staV G (As := [.ref (v0 + 6), .int (0 : Int32)]) (mFillI G.2.2.2.2.2.2.1 hv0.2.2.2.2.2.2) ms_X5_55 rfl rfl rfl rfl rfl dX5_start_83 ?_
  refine nwr hf (fun w_11 hf => ?_)
  exact x_vretW G hf hr dX5_start_86

theorem mX5_start {l : Launch} {S : KS} {w : Wd} (hI : Inj S) (M : Main S) {v0 : Nat} {v2 : Int32} {v3 : Int32} (hv0 : IsLine S v0) {r : Wd} (hf : fX5_start v0 v2 v3 w = some r) : CV l yX5_start cX5_start 4 none 5 S [.ref v0, .ref 102, .int v2, .int v3] w r := by
  intro sz
  refine mk_entry rfl (by decide +kernel) hI 0 rfl rfl (fun K h1 h2 h3 h4 h5 h6 G => ?_)
  subst h2
  exact xX5_start_e G M hv0 hf ⟨h3, by rw [h4, h6], h5⟩

set_option maxHeartbeats 4000000 in
set_option maxRecDepth 100000 in
theorem xX6_latest_7 {K : KT} {w : Wd} {r : Int32} (G : GK K cX6_latest RX6 4 1) (M : Main K.ks) (hr : RI K .int r w) : ∀ (n : Nat) (v1 : Int32) (v2 : Int32) (v3 : Int32), fX6_latest_7 w n v1 v2 v3 = some r → XW K 7 [some (.ref 30), some (.int v1), some (.int v2), some (.int v3)] [] w := by
  intro n
  induction n with
  | zero =>
    intro v1 v2 v3 hf
    unfold fX6_latest_7 at hf
    cases hf
  | succ n ih =>
    intro v1 v2 v3 hf
    unfold fX6_latest_7 at hf
    refine x_iload_n G dX6_latest_7 rfl rfl ?_
    refine x_iflt G (tgt := 39) dX6_latest_8 (by decide) hf (fun c_1 hf => ?_) (fun c_1 hf => ?_)
    · refine x_iconst G (v := -1) dX6_latest_39 (by decide) ?_
      exact x_iretP G hf hr dX6_latest_40
    · refine x_aload_n G dX6_latest_11 rfl rfl ?_
      refine x_getR G (kd30 M) 1 (b := 31) rfl cl6 rfl wf_X6_15 dX6_latest_12 ?_
      refine x_iload_n G dX6_latest_15 rfl rfl ?_
      refine x_iald G (kd31 M) dX6_latest_16 hf (fun hb_2 hf => ?_)
      refine x_iload_n G dX6_latest_17 rfl rfl ?_
      refine x_icmpne G (tgt := 33) dX6_latest_18 (by decide) hf (fun c_3 hf => ?_) (fun c_3 hf => ?_)
      · refine x_aload_n G dX6_latest_21 rfl rfl ?_
        refine x_getR G (kd30 M) 4 (b := 34) rfl cl6 rfl wf_X6_25 dX6_latest_22 ?_
        refine x_iload_n G dX6_latest_25 rfl rfl ?_
        refine x_iald0 G (kd34 M) dX6_latest_26 hb_2 ?_
        refine x_iload_n G dX6_latest_27 rfl rfl ?_
        refine x_icmpgt G (tgt := 33) dX6_latest_28 (by decide) hf (fun c_4 hf => ?_) (fun c_4 hf => ?_)
        · refine x_iinc G (lv' := [some (.ref 30), some (.int v1), some (.int v2), some (.int (v3 + (-1 : Int32)))]) (v := -1) dX6_latest_33 rfl (by decide) rfl rfl rfl ?_
          refine x_goto G (tgt := 7) dX6_latest_36 (by decide) ?_
          exact XW.sub (lv' := [some (.ref 30), some (.int v1), some (.int v2), some (.int (v3 + (-1 : Int32)))]) (And.intro rfl (And.intro rfl (And.intro rfl (And.intro rfl trivial)))) (ih _ _ _ hf)
        · refine x_iload_n G dX6_latest_31 rfl rfl ?_
          exact x_iretP G hf hr dX6_latest_32
      · refine x_iinc G (lv' := [some (.ref 30), some (.int v1), some (.int v2), some (.int (v3 + (-1 : Int32)))]) (v := -1) dX6_latest_33 rfl (by decide) rfl rfl rfl ?_
        refine x_goto G (tgt := 7) dX6_latest_36 (by decide) ?_
        exact XW.sub (lv' := [some (.ref 30), some (.int v1), some (.int v2), some (.int (v3 + (-1 : Int32)))]) (And.intro rfl (And.intro rfl (And.intro rfl (And.intro rfl trivial)))) (ih _ _ _ hf)

set_option maxHeartbeats 4000000 in
set_option maxRecDepth 100000 in
theorem xX6_latest_e {K : KT} {v1 : Int32} {v2 : Int32} {w : Wd} {r : Int32} (G : GK K cX6_latest RX6 4 1) (M : Main K.ks) (hf : fX6_latest v1 v2 w = some r) (hr : RI K .int r w) : XW K 0 [some (.ref 30), some (.int v1), some (.int v2), none] [] w := by
  unfold fX6_latest at hf
  refine x_aload_n G dX6_latest_0 rfl rfl ?_
  refine x_getI G (kd30 M) 0 rfl cl6 rfl wf_X6_9 dX6_latest_1 ?_
  refine x_iconst G (v := 1) dX6_latest_4 (by decide) ?_
  refine x_isub G dX6_latest_5 ?_
  refine x_istore_n G (lv' := [some (.ref 30), some (.int v1), some (.int v2), some (.int ((w.1 30 0) - (1 : Int32)))]) dX6_latest_6 rfl rfl rfl rfl ?_
  exact XW.sub (lv' := [some (.ref 30), some (.int v1), some (.int v2), some (.int ((w.1 30 0) - (1 : Int32)))]) (And.intro rfl (And.intro rfl (And.intro rfl (And.intro rfl trivial)))) (xX6_latest_7 G M hr FU _ _ _ hf)

theorem mX6_latest {l : Launch} {S : KS} {w : Wd} (hI : Inj S) (M : Main S) {v1 : Int32} {v2 : Int32} {r : Int32} (hf : fX6_latest v1 v2 w = some r) : CI l yX6_latest cX6_latest 4 (some .int) 1 S [.ref 30, .int v1, .int v2] w r w := by
  intro sz
  refine mk_entry rfl (by decide +kernel) hI 1 rfl rfl (fun K h1 h2 h3 h4 h5 h6 G => ?_)
  subst h2
  exact xX6_latest_e G M hf ⟨h3, by rw [h4, h6], h5⟩

set_option maxHeartbeats 4000000 in
set_option maxRecDepth 100000 in
theorem xX6_note_e {K : KT} {v1 : Int32} {v2 : Int32} {v3 : Int32} {v4 : Int32} {w : Wd} {r : Wd} (G : GK K cX6_note RX6 5 1) (M : Main K.ks) (hf : fX6_note v1 v2 v3 v4 w = some r) (hr : RV K r) : XW K 0 [some (.ref 30), some (.int v1), some (.int v2), some (.int v3), some (.int v4)] [] w := by
  unfold fX6_note at hf
  refine x_aload_n G dX6_note_0 rfl rfl ?_
  refine x_getI G (kd30 M) 0 rfl cl6 rfl wf_X6_9 dX6_note_1 ?_
  refine x_sipush G (v := 200) dX6_note_4 (by decide) ?_
  refine x_icmplt G (tgt := 11) dX6_note_7 (by decide) hf (fun c_1 hf => ?_) (fun c_1 hf => ?_)
  · refine x_aload_n G dX6_note_11 rfl rfl ?_
    refine x_getR G (kd30 M) 1 (b := 31) rfl cl6 rfl wf_X6_15 dX6_note_12 ?_
    refine x_aload_n G dX6_note_15 rfl rfl ?_
    refine x_getI G (kd30 M) 0 rfl cl6 rfl wf_X6_9 dX6_note_16 ?_
    refine x_iload_n G dX6_note_19 rfl rfl ?_
    refine x_iast G (kd31 M) dX6_note_20 hf (fun hb_2 hf => ?_)
    refine nwr hf (fun w_3 hf => ?_)
    refine x_aload_n G dX6_note_21 rfl rfl ?_
    refine x_getR G (kd30 M) 2 (b := 32) rfl cl6 rfl wf_X6_19 dX6_note_22 ?_
    refine x_aload_n G dX6_note_25 rfl rfl ?_
    refine x_getI G (kd30 M) 0 rfl cl6 rfl wf_X6_9 dX6_note_26 ?_
    refine x_iload_n G dX6_note_29 rfl rfl ?_
    refine x_iast G (kd32 M) dX6_note_30 hf (fun hb_4 hf => ?_)
    refine nwr hf (fun w_5 hf => ?_)
    refine x_aload_n G dX6_note_31 rfl rfl ?_
    refine x_getR G (kd30 M) 3 (b := 33) rfl cl6 rfl wf_X6_22 dX6_note_32 ?_
    refine x_aload_n G dX6_note_35 rfl rfl ?_
    refine x_getI G (kd30 M) 0 rfl cl6 rfl wf_X6_9 dX6_note_36 ?_
    refine x_iload_n G dX6_note_39 rfl rfl ?_
    refine x_iast G (kd33 M) dX6_note_40 hf (fun hb_6 hf => ?_)
    refine nwr hf (fun w_7 hf => ?_)
    refine x_aload_n G dX6_note_41 rfl rfl ?_
    refine x_getR G (kd30 M) 4 (b := 34) rfl cl6 rfl wf_X6_25 dX6_note_42 ?_
    refine x_aload_n G dX6_note_45 rfl rfl ?_
    refine x_getI G (kd30 M) 0 rfl cl6 rfl wf_X6_9 dX6_note_46 ?_
    refine x_iload G dX6_note_49 rfl ?_
    refine x_iast G (kd34 M) dX6_note_51 hf (fun hb_8 hf => ?_)
    refine nwr hf (fun w_9 hf => ?_)
    refine x_aload_n G dX6_note_52 rfl rfl ?_
    refine x_dup G dX6_note_53 rfl ?_
    refine x_getI G (kd30 M) 0 rfl cl6 rfl wf_X6_9 dX6_note_54 ?_
    refine x_iconst G (v := 1) dX6_note_57 (by decide) ?_
    refine x_iadd G dX6_note_58 ?_
    refine x_putI G (kd30 M) 0 rfl cl6 rfl wf_X6_9 rfl rfl rfl dX6_note_59 ?_
    refine nwr hf (fun w_10 hf => ?_)
    exact x_vretW G hf hr dX6_note_62
  · exact x_vretW G hf hr dX6_note_10

theorem mX6_note {l : Launch} {S : KS} {w : Wd} (hI : Inj S) (M : Main S) {v1 : Int32} {v2 : Int32} {v3 : Int32} {v4 : Int32} {r : Wd} (hf : fX6_note v1 v2 v3 v4 w = some r) : CV l yX6_note cX6_note 5 none 1 S [.ref 30, .int v1, .int v2, .int v3, .int v4] w r := by
  intro sz
  refine mk_entry rfl (by decide +kernel) hI 0 rfl rfl (fun K h1 h2 h3 h4 h5 h6 G => ?_)
  subst h2
  exact xX6_note_e G M hf ⟨h3, by rw [h4, h6], h5⟩

set_option maxHeartbeats 4000000 in
set_option maxRecDepth 100000 in
theorem xX7_nextCell_5 {K : KT} {w : Wd} {r : Int32} (G : GK K cX7_nextCell RX7 6 2) (M : Main K.ks) (hr : RI K .int r w) : ∀ (n : Nat) (v1 : Int32) (v2 : Int32) (v3 : Int32) (v4 : Int32), fX7_nextCell_5 w n v1 v2 v3 v4 = some r → XW K 5 [some (.ref 102), some (.int v1), some (.int v2), some (.int v3), some (.int v4), none] [] w := by
  intro n
  induction n with
  | zero =>
    intro v1 v2 v3 v4 hf
    unfold fX7_nextCell_5 at hf
    cases hf
  | succ n ih =>
    intro v1 v2 v3 v4 hf
    unfold fX7_nextCell_5 at hf
    refine x_iload G dX7_nextCell_5 rfl ?_
    refine x_iconst G (v := 4) dX7_nextCell_7 (by decide) ?_
    refine x_icmpge G (tgt := 72) dX7_nextCell_8 (by decide) hf (fun c_1 hf => ?_) (fun c_1 hf => ?_)
    · refine x_iload_n G dX7_nextCell_11 rfl rfl ?_
      refine x_iload G dX7_nextCell_12 rfl ?_
      obtain ⟨v_2, hv_2, hf⟩ := bnd hf
      refine x_nesI G (As := [.int v1, .int v4]) (mX11_beside G.2.2.2.2.2.2.1 M hv_2) mn_X7_60 rfl rfl rfl rfl rfl dX7_nextCell_14 ?_
      refine x_istore G (lv' := [some (.ref 102), some (.int v1), some (.int v2), some (.int v3), some (.int v4), some (.int v_2)]) dX7_nextCell_17 rfl rfl rfl ?_
      refine x_iload G dX7_nextCell_19 rfl ?_
      refine x_iconst G (v := -1) dX7_nextCell_21 (by decide) ?_
      refine x_icmpeq G (tgt := 66) dX7_nextCell_22 (by decide) hf (fun c_3 hf => ?_) (fun c_3 hf => ?_)
      · refine x_iinc G (lv' := [some (.ref 102), some (.int v1), some (.int v2), some (.int v3), some (.int (v4 + (1 : Int32))), some (.int v_2)]) (v := 1) dX7_nextCell_66 rfl (by decide) rfl rfl rfl ?_
        refine x_goto G (tgt := 5) dX7_nextCell_69 (by decide) ?_
        exact XW.sub (lv' := [some (.ref 102), some (.int v1), some (.int v2), some (.int v3), some (.int (v4 + (1 : Int32))), none]) (And.intro rfl (And.intro rfl (And.intro rfl (And.intro rfl (And.intro rfl trivial))))) (ih _ _ _ _ hf)
      · refine x_iload G dX7_nextCell_25 rfl ?_
        refine x_iload_n G dX7_nextCell_27 rfl rfl ?_
        obtain ⟨v_4, hv_4, hf⟩ := bnd hf
        refine x_nesI G (As := [.int v_2, .int v2]) (mX11_near G.2.2.2.2.2.2.1 M hv_4) mn_X7_54 rfl rfl rfl rfl rfl dX7_nextCell_28 ?_
        refine x_iload_n G dX7_nextCell_31 rfl rfl ?_
        refine x_iload_n G dX7_nextCell_32 rfl rfl ?_
        obtain ⟨v_5, hv_5, hf⟩ := bnd hf
        refine x_nesI G (As := [.int v1, .int v2]) (mX11_near G.2.2.2.2.2.2.1 M hv_5) mn_X7_54 rfl rfl rfl rfl rfl dX7_nextCell_33 ?_
        refine x_icmplt G (tgt := 42) dX7_nextCell_36 (by decide) hf (fun c_6 hf => ?_) (fun c_6 hf => ?_)
        · refine x_iload_n G dX7_nextCell_42 rfl rfl ?_
          refine x_iload_n G dX7_nextCell_43 rfl rfl ?_
          refine x_icmpeq G (tgt := 63) dX7_nextCell_44 (by decide) hf (fun c_7 hf => ?_) (fun c_7 hf => ?_)
          · refine x_iload G dX7_nextCell_63 rfl ?_
            refine x_istore_n G (lv' := [some (.ref 102), some (.int v1), some (.int v2), some (.int v_2), some (.int v4), some (.int v_2)]) dX7_nextCell_65 rfl rfl rfl rfl ?_
            refine x_iinc G (lv' := [some (.ref 102), some (.int v1), some (.int v2), some (.int v_2), some (.int (v4 + (1 : Int32))), some (.int v_2)]) (v := 1) dX7_nextCell_66 rfl (by decide) rfl rfl rfl ?_
            refine x_goto G (tgt := 5) dX7_nextCell_69 (by decide) ?_
            exact XW.sub (lv' := [some (.ref 102), some (.int v1), some (.int v2), some (.int v_2), some (.int (v4 + (1 : Int32))), none]) (And.intro rfl (And.intro rfl (And.intro rfl (And.intro rfl (And.intro rfl trivial))))) (ih _ _ _ _ hf)
          · refine x_aload_n G dX7_nextCell_47 rfl rfl ?_
            refine x_getR G (kd102 M) 3 (b := 105) rfl cl7 rfl wf_X7_22 dX7_nextCell_48 ?_
            refine x_iload G dX7_nextCell_51 rfl ?_
            refine x_iald G (kd105 M) dX7_nextCell_53 hf (fun hb_8 hf => ?_)
            refine x_aload_n G dX7_nextCell_54 rfl rfl ?_
            refine x_getR G (kd102 M) 3 (b := 105) rfl cl7 rfl wf_X7_22 dX7_nextCell_55 ?_
            refine x_iload_n G dX7_nextCell_58 rfl rfl ?_
            refine x_iald G (kd105 M) dX7_nextCell_59 hf (fun hb_9 hf => ?_)
            refine x_icmpge G (tgt := 66) dX7_nextCell_60 (by decide) hf (fun c_10 hf => ?_) (fun c_10 hf => ?_)
            · refine x_iload G dX7_nextCell_63 rfl ?_
              refine x_istore_n G (lv' := [some (.ref 102), some (.int v1), some (.int v2), some (.int v_2), some (.int v4), some (.int v_2)]) dX7_nextCell_65 rfl rfl rfl rfl ?_
              refine x_iinc G (lv' := [some (.ref 102), some (.int v1), some (.int v2), some (.int v_2), some (.int (v4 + (1 : Int32))), some (.int v_2)]) (v := 1) dX7_nextCell_66 rfl (by decide) rfl rfl rfl ?_
              refine x_goto G (tgt := 5) dX7_nextCell_69 (by decide) ?_
              exact XW.sub (lv' := [some (.ref 102), some (.int v1), some (.int v2), some (.int v_2), some (.int (v4 + (1 : Int32))), none]) (And.intro rfl (And.intro rfl (And.intro rfl (And.intro rfl (And.intro rfl trivial))))) (ih _ _ _ _ hf)
            · refine x_iinc G (lv' := [some (.ref 102), some (.int v1), some (.int v2), some (.int v3), some (.int (v4 + (1 : Int32))), some (.int v_2)]) (v := 1) dX7_nextCell_66 rfl (by decide) rfl rfl rfl ?_
              refine x_goto G (tgt := 5) dX7_nextCell_69 (by decide) ?_
              exact XW.sub (lv' := [some (.ref 102), some (.int v1), some (.int v2), some (.int v3), some (.int (v4 + (1 : Int32))), none]) (And.intro rfl (And.intro rfl (And.intro rfl (And.intro rfl (And.intro rfl trivial))))) (ih _ _ _ _ hf)
        · refine x_goto G (tgt := 66) dX7_nextCell_39 (by decide) ?_
          refine x_iinc G (lv' := [some (.ref 102), some (.int v1), some (.int v2), some (.int v3), some (.int (v4 + (1 : Int32))), some (.int v_2)]) (v := 1) dX7_nextCell_66 rfl (by decide) rfl rfl rfl ?_
          refine x_goto G (tgt := 5) dX7_nextCell_69 (by decide) ?_
          exact XW.sub (lv' := [some (.ref 102), some (.int v1), some (.int v2), some (.int v3), some (.int (v4 + (1 : Int32))), none]) (And.intro rfl (And.intro rfl (And.intro rfl (And.intro rfl (And.intro rfl trivial))))) (ih _ _ _ _ hf)
    · refine x_iload_n G dX7_nextCell_72 rfl rfl ?_
      exact x_iretP G hf hr dX7_nextCell_73

set_option maxHeartbeats 4000000 in
set_option maxRecDepth 100000 in
theorem xX7_nextCell_e {K : KT} {v1 : Int32} {v2 : Int32} {w : Wd} {r : Int32} (G : GK K cX7_nextCell RX7 6 2) (M : Main K.ks) (hf : fX7_nextCell v1 v2 w = some r) (hr : RI K .int r w) : XW K 0 [some (.ref 102), some (.int v1), some (.int v2), none, none, none] [] w := by
  unfold fX7_nextCell at hf
  refine x_iload_n G dX7_nextCell_0 rfl rfl ?_
  refine x_istore_n G (lv' := [some (.ref 102), some (.int v1), some (.int v2), some (.int v1), none, none]) dX7_nextCell_1 rfl rfl rfl rfl ?_
  refine x_iconst G (v := 0) dX7_nextCell_2 (by decide) ?_
  refine x_istore G (lv' := [some (.ref 102), some (.int v1), some (.int v2), some (.int v1), some (.int (0 : Int32)), none]) dX7_nextCell_3 rfl rfl rfl ?_
  exact XW.sub (lv' := [some (.ref 102), some (.int v1), some (.int v2), some (.int v1), some (.int (0 : Int32)), none]) (And.intro rfl (And.intro rfl (And.intro rfl (And.intro rfl (And.intro rfl trivial))))) (xX7_nextCell_5 G M hr FU _ _ _ _ hf)

theorem mX7_nextCell {l : Launch} {S : KS} {w : Wd} (hI : Inj S) (M : Main S) {v1 : Int32} {v2 : Int32} {r : Int32} (hf : fX7_nextCell v1 v2 w = some r) : CI l yX7_nextCell cX7_nextCell 6 (some .int) 2 S [.ref 102, .int v1, .int v2] w r w := by
  intro sz
  refine mk_entry rfl (by decide +kernel) hI 3 rfl rfl (fun K h1 h2 h3 h4 h5 h6 G => ?_)
  subst h2
  exact xX7_nextCell_e G M hf ⟨h3, by rw [h4, h6], h5⟩

set_option maxHeartbeats 4000000 in
set_option maxRecDepth 100000 in
theorem xX7_follow_17 {K : KT} {r : Wd} (G : GK K cX7_follow RX7 7 3) (M : Main K.ks) (hr : RV K r) : ∀ (n : Nat) (v2 : Int32) (v3 : Int32) (v4 : Int32) (v5 : Int32) (v6 : Int32) (w : Wd), fX7_follow_17 n v2 v3 v4 v5 v6 w = some r → XW K 17 [some (.ref 102), none, some (.int v2), some (.int v3), some (.int v4), some (.int v5), some (.int v6)] [] w := by
  intro n
  induction n with
  | zero =>
    intro v2 v3 v4 v5 v6 w hf
    unfold fX7_follow_17 at hf
    cases hf
  | succ n ih =>
    intro v2 v3 v4 v5 v6 w hf
    unfold fX7_follow_17 at hf
    refine x_iload G dX7_follow_17 rfl ?_
    refine x_aload_n G dX7_follow_19 rfl rfl ?_
    refine x_getI G (kd102 M) 0 rfl cl7 rfl wf_X7_9 dX7_follow_20 ?_
    refine x_icmpge G (tgt := 71) dX7_follow_23 (by decide) hf (fun c_1 hf => ?_) (fun c_1 hf => ?_)
    · refine x_iload G dX7_follow_26 rfl ?_
      refine x_bipush G (v := 19) dX7_follow_28 (by decide) ?_
      refine x_icmpge G (tgt := 71) dX7_follow_30 (by decide) hf (fun c_2 hf => ?_) (fun c_2 hf => ?_)
      · refine x_aload_n G dX7_follow_33 rfl rfl ?_
        refine x_getR G (kd102 M) 1 (b := 103) rfl cl7 rfl wf_X7_15 dX7_follow_34 ?_
        refine x_iload G dX7_follow_37 rfl ?_
        refine x_iload G dX7_follow_39 rfl ?_
        refine x_iast G (kd103 M) dX7_follow_41 hf (fun hb_3 hf => ?_)
        refine nwr hf (fun w_4 hf => ?_)
        refine x_aload_n G dX7_follow_42 rfl rfl ?_
        refine x_getR G (kd102 M) 2 (b := 104) rfl cl7 rfl wf_X7_19 dX7_follow_43 ?_
        refine x_iload G dX7_follow_46 rfl ?_
        refine x_iload_n G dX7_follow_48 rfl rfl ?_
        refine x_iload G dX7_follow_49 rfl ?_
        refine x_iload G dX7_follow_51 rfl ?_
        refine x_imul G dX7_follow_53 ?_
        refine x_isub G dX7_follow_54 ?_
        refine x_iast0 G (kd104 M) dX7_follow_55 hb_3 ?_
        refine nwr hf (fun w_5 hf => ?_)
        refine x_aload_n G dX7_follow_56 rfl rfl ?_
        refine x_iload G dX7_follow_57 rfl ?_
        refine x_iload_n G dX7_follow_59 rfl rfl ?_
        obtain ⟨v_6, hv_6, hf⟩ := bnd hf
        refine x_virI G (As := [.int v5, .int v2]) (mX7_nextCell G.2.2.2.2.2.2.1 M hv_6) mv_X7_57 (kd102 M) cl7 rfl rfl rfl rfl rfl dX7_follow_60 ?_
        refine x_istore G (lv' := [some (.ref 102), none, some (.int v2), some (.int v3), some (.int v4), some (.int v_6), some (.int v6)]) dX7_follow_63 rfl rfl rfl ?_
        refine x_iinc G (lv' := [some (.ref 102), none, some (.int v2), some (.int v3), some (.int v4), some (.int v_6), some (.int (v6 + (1 : Int32)))]) (v := 1) dX7_follow_65 rfl (by decide) rfl rfl rfl ?_
        refine x_goto G (tgt := 17) dX7_follow_68 (by decide) ?_
        exact XW.sub (lv' := [some (.ref 102), none, some (.int v2), some (.int v3), some (.int v4), some (.int v_6), some (.int (v6 + (1 : Int32)))]) (And.intro rfl (And.intro rfl (And.intro rfl (And.intro rfl (And.intro rfl (And.intro rfl trivial)))))) (ih _ _ _ _ _ _ hf)
      · exact x_vretW G hf hr dX7_follow_71
    · exact x_vretW G hf hr dX7_follow_71

set_option maxHeartbeats 4000000 in
set_option maxRecDepth 100000 in
theorem xX7_follow_e {K : KT} {v1 : Int32} {v2 : Int32} {v3 : Int32} {v4 : Int32} {w : Wd} {r : Wd} (G : GK K cX7_follow RX7 7 3) (M : Main K.ks) (hf : fX7_follow v1 v2 v3 v4 w = some r) (hr : RV K r) : XW K 0 [some (.ref 102), some (.int v1), some (.int v2), some (.int v3), some (.int v4), none, none] [] w := by
  unfold fX7_follow at hf
  refine x_iload_n G dX7_follow_0 rfl rfl ?_
  refine x_istore G (lv' := [some (.ref 102), some (.int v1), some (.int v2), some (.int v3), some (.int v4), some (.int v1), none]) dX7_follow_1 rfl rfl rfl ?_
  refine x_aload_n G dX7_follow_3 rfl rfl ?_
  refine x_iload_n G dX7_follow_4 rfl rfl ?_
  refine x_iload_n G dX7_follow_5 rfl rfl ?_
  obtain ⟨v_1, hv_1, hf⟩ := bnd hf
  refine x_nesI G (As := [.int v1, .int v2]) (mX11_near G.2.2.2.2.2.2.1 M hv_1) mn_X7_54 rfl rfl rfl rfl rfl dX7_follow_6 ?_
  refine x_iconst G (v := 1) dX7_follow_9 (by decide) ?_
  refine x_iadd G dX7_follow_10 ?_
  refine x_putI G (kd102 M) 0 rfl cl7 rfl wf_X7_9 rfl rfl rfl dX7_follow_11 ?_
  refine nwr hf (fun w_2 hf => ?_)
  refine x_iconst G (v := 0) dX7_follow_14 (by decide) ?_
  refine x_istore G (lv' := [some (.ref 102), some (.int v1), some (.int v2), some (.int v3), some (.int v4), some (.int v1), some (.int (0 : Int32))]) dX7_follow_15 rfl rfl rfl ?_
  exact XW.sub (lv' := [some (.ref 102), none, some (.int v2), some (.int v3), some (.int v4), some (.int v1), some (.int (0 : Int32))]) (And.intro rfl (And.intro rfl (And.intro rfl (And.intro rfl (And.intro rfl (And.intro rfl trivial)))))) (xX7_follow_17 G M hr FU _ _ _ _ _ _ hf)

theorem mX7_follow {l : Launch} {S : KS} {w : Wd} (hI : Inj S) (M : Main S) {v1 : Int32} {v2 : Int32} {v3 : Int32} {v4 : Int32} {r : Wd} (hf : fX7_follow v1 v2 v3 v4 w = some r) : CV l yX7_follow cX7_follow 7 none 3 S [.ref 102, .int v1, .int v2, .int v3, .int v4] w r := by
  intro sz
  refine mk_entry rfl (by decide +kernel) hI 2 rfl rfl (fun K h1 h2 h3 h4 h5 h6 G => ?_)
  subst h2
  exact xX7_follow_e G M hf ⟨h3, by rw [h4, h6], h5⟩

set_option maxHeartbeats 4000000 in
set_option maxRecDepth 100000 in
theorem xX7_leastDig_214 {K : KT} {v2 : Int32} {v3 : Int32} {v4 : Int32} {v5 : Int32} {v6 : Int32} {v7 : Int32} {v8 : Int32} {v9 : Int32} {v10 : Int32} {v11 : Int32} {v12 : Int32} {v13 : Int32} {w : Wd} {r : Int32 × Wd} (G : GK K cX7_leastDig RX7 14 4) (M : Main K.ks) (k73 : Int32 → Int32 → Int32 → Int32 → Int32 → Int32 → Int32 → Int32 → Int32 → Wd → Option (Int32 × Wd)) (hk73 : ∀ (v2 : Int32) (v3 : Int32) (v4 : Int32) (v5 : Int32) (v6 : Int32) (v7 : Int32) (v8 : Int32) (v9 : Int32) (v10 : Int32) (w : Wd), k73 v2 v3 v4 v5 v6 v7 v8 v9 v10 w = some r → XW K 73 [some (.ref 102), some (.ref 2), some (.int v2), some (.int v3), some (.int v4), some (.int v5), some (.int v6), some (.int v7), some (.int v8), some (.int v9), some (.int v10), none, none, none] [] w) (k82 : Int32 → Int32 → Int32 → Int32 → Int32 → Int32 → Int32 → Int32 → Int32 → Int32 → Wd → Option (Int32 × Wd)) (hk82 : ∀ (v2 : Int32) (v3 : Int32) (v4 : Int32) (v5 : Int32) (v6 : Int32) (v7 : Int32) (v8 : Int32) (v9 : Int32) (v10 : Int32) (v11 : Int32) (w : Wd), k82 v2 v3 v4 v5 v6 v7 v8 v9 v10 v11 w = some r → XW K 82 [some (.ref 102), some (.ref 2), some (.int v2), some (.int v3), some (.int v4), some (.int v5), some (.int v6), some (.int v7), some (.int v8), some (.int v9), some (.int v10), some (.int v11), none, none] [] w) (hf : fX7_leastDig_214 k73 k82 v2 v3 v4 v5 v6 v7 v8 v9 v10 v11 v12 v13 w = some r) (hr : RI K .int r.1 r.2) : XW K 214 [some (.ref 102), some (.ref 2), some (.int v2), some (.int v3), some (.int v4), some (.int v5), some (.int v6), some (.int v7), some (.int v8), some (.int v9), some (.int v10), some (.int v11), some (.int v12), some (.int v13)] [] w := by
  unfold fX7_leastDig_214 at hf
  refine x_iload G dX7_leastDig_214 rfl ?_
  refine x_ldc G wc_X7_31 dX7_leastDig_216 ?_
  refine x_icmpge G (tgt := 248) dX7_leastDig_218 (by decide) hf (fun c_1 hf => ?_) (fun c_1 hf => ?_)
  · refine x_aload_n G dX7_leastDig_221 rfl rfl ?_
    refine x_getR G (kd102 M) 3 (b := 105) rfl cl7 rfl wf_X7_22 dX7_leastDig_222 ?_
    refine x_iload G dX7_leastDig_225 rfl ?_
    refine x_iload G dX7_leastDig_227 rfl ?_
    refine x_aload_n G dX7_leastDig_229 rfl rfl ?_
    refine x_iload G dX7_leastDig_230 rfl ?_
    refine x_iload G dX7_leastDig_232 rfl ?_
    refine x_iload G dX7_leastDig_234 rfl ?_
    refine x_iload G dX7_leastDig_236 rfl ?_
    refine x_iload G dX7_leastDig_238 rfl ?_
    refine x_iadd G dX7_leastDig_240 ?_
    refine x_imul G dX7_leastDig_241 ?_
    refine x_isub G dX7_leastDig_242 ?_
    obtain ⟨v_2, hv_2, hf⟩ := bnd hf
    refine x_virI G (As := [.int v12, .int (v4 - (v5 * (v11 + v10)))]) (mX2_digAt G.2.2.2.2.2.2.1 M hv_2) mv_X7_51 (kd2 M) cl2 rfl rfl rfl rfl rfl dX7_leastDig_243 ?_
    refine x_iadd G dX7_leastDig_246 ?_
    refine x_iast G (kd105 M) dX7_leastDig_247 hf (fun hb_3 hf => ?_)
    refine nwr hf (fun w_4 hf => ?_)
    refine x_iinc G (lv' := [some (.ref 102), some (.ref 2), some (.int v2), some (.int v3), some (.int v4), some (.int v5), some (.int v6), some (.int v7), some (.int v8), some (.int v9), some (.int v10), some (.int (v11 + (-1 : Int32))), some (.int v12), some (.int v13)]) (v := -1) dX7_leastDig_248 rfl (by decide) rfl rfl rfl ?_
    refine x_goto G (tgt := 82) dX7_leastDig_251 (by decide) ?_
    exact XW.sub (lv' := [some (.ref 102), some (.ref 2), some (.int v2), some (.int v3), some (.int v4), some (.int v5), some (.int v6), some (.int v7), some (.int v8), some (.int v9), some (.int v10), some (.int (v11 + (-1 : Int32))), none, none]) (And.intro rfl (And.intro rfl (And.intro rfl (And.intro rfl (And.intro rfl (And.intro rfl (And.intro rfl (And.intro rfl (And.intro rfl (And.intro rfl (And.intro rfl (And.intro rfl trivial)))))))))))) (hk82 _ _ _ _ _ _ _ _ _ _ _ hf)
  · refine x_iinc G (lv' := [some (.ref 102), some (.ref 2), some (.int v2), some (.int v3), some (.int v4), some (.int v5), some (.int v6), some (.int v7), some (.int v8), some (.int v9), some (.int v10), some (.int (v11 + (-1 : Int32))), some (.int v12), some (.int v13)]) (v := -1) dX7_leastDig_248 rfl (by decide) rfl rfl rfl ?_
    refine x_goto G (tgt := 82) dX7_leastDig_251 (by decide) ?_
    exact XW.sub (lv' := [some (.ref 102), some (.ref 2), some (.int v2), some (.int v3), some (.int v4), some (.int v5), some (.int v6), some (.int v7), some (.int v8), some (.int v9), some (.int v10), some (.int (v11 + (-1 : Int32))), none, none]) (And.intro rfl (And.intro rfl (And.intro rfl (And.intro rfl (And.intro rfl (And.intro rfl (And.intro rfl (And.intro rfl (And.intro rfl (And.intro rfl (And.intro rfl (And.intro rfl trivial)))))))))))) (hk82 _ _ _ _ _ _ _ _ _ _ _ hf)

set_option maxHeartbeats 4000000 in
set_option maxRecDepth 100000 in
theorem xX7_leastDig_179 {K : KT} {v2 : Int32} {v3 : Int32} {v4 : Int32} {v5 : Int32} {v6 : Int32} {v7 : Int32} {v8 : Int32} {v9 : Int32} {v10 : Int32} {v11 : Int32} {v12 : Int32} {v13 : Int32} {w : Wd} {r : Int32 × Wd} (G : GK K cX7_leastDig RX7 14 4) (M : Main K.ks) (k73 : Int32 → Int32 → Int32 → Int32 → Int32 → Int32 → Int32 → Int32 → Int32 → Wd → Option (Int32 × Wd)) (hk73 : ∀ (v2 : Int32) (v3 : Int32) (v4 : Int32) (v5 : Int32) (v6 : Int32) (v7 : Int32) (v8 : Int32) (v9 : Int32) (v10 : Int32) (w : Wd), k73 v2 v3 v4 v5 v6 v7 v8 v9 v10 w = some r → XW K 73 [some (.ref 102), some (.ref 2), some (.int v2), some (.int v3), some (.int v4), some (.int v5), some (.int v6), some (.int v7), some (.int v8), some (.int v9), some (.int v10), none, none, none] [] w) (k82 : Int32 → Int32 → Int32 → Int32 → Int32 → Int32 → Int32 → Int32 → Int32 → Int32 → Wd → Option (Int32 × Wd)) (hk82 : ∀ (v2 : Int32) (v3 : Int32) (v4 : Int32) (v5 : Int32) (v6 : Int32) (v7 : Int32) (v8 : Int32) (v9 : Int32) (v10 : Int32) (v11 : Int32) (w : Wd), k82 v2 v3 v4 v5 v6 v7 v8 v9 v10 v11 w = some r → XW K 82 [some (.ref 102), some (.ref 2), some (.int v2), some (.int v3), some (.int v4), some (.int v5), some (.int v6), some (.int v7), some (.int v8), some (.int v9), some (.int v10), some (.int v11), none, none] [] w) (hf : fX7_leastDig_179 k73 k82 v2 v3 v4 v5 v6 v7 v8 v9 v10 v11 v12 v13 w = some r) (hr : RI K .int r.1 r.2) : XW K 179 [some (.ref 102), some (.ref 2), some (.int v2), some (.int v3), some (.int v4), some (.int v5), some (.int v6), some (.int v7), some (.int v8), some (.int v9), some (.int v10), some (.int v11), some (.int v12), some (.int v13)] [] w := by
  unfold fX7_leastDig_179 at hf
  refine x_iload G dX7_leastDig_179 rfl ?_
  refine x_iload G dX7_leastDig_181 rfl ?_
  refine x_icmpge G (tgt := 214) dX7_leastDig_183 (by decide) hf (fun c_1 hf => ?_) (fun c_1 hf => ?_)
  · refine x_iload G dX7_leastDig_186 rfl ?_
    refine x_iload G dX7_leastDig_188 rfl ?_
    refine x_iadd G dX7_leastDig_190 ?_
    obtain ⟨v_2, hv_2, hf⟩ := bnd hf
    refine x_nesI G (As := [.int (v12 + v9)]) (mX11_isCell G.2.2.2.2.2.2.1 M hv_2) mn_X7_38 rfl rfl rfl rfl rfl dX7_leastDig_191 ?_
    refine x_ifeqB G (tgt := 214) dX7_leastDig_194 (by decide) hf (fun c_3 hf => ?_) (fun c_3 hf => ?_)
    · refine x_iload G dX7_leastDig_197 rfl ?_
      refine x_aload_n G dX7_leastDig_199 rfl rfl ?_
      refine x_getR G (kd102 M) 3 (b := 105) rfl cl7 rfl wf_X7_22 dX7_leastDig_200 ?_
      refine x_iload G dX7_leastDig_203 rfl ?_
      refine x_iload G dX7_leastDig_205 rfl ?_
      refine x_iadd G dX7_leastDig_207 ?_
      refine x_iald G (kd105 M) dX7_leastDig_208 hf (fun hb_4 hf => ?_)
      refine x_min G wm_X7_47 wmin_1 wmin_2 wmin_3 rfl rfl dX7_leastDig_209 ?_
      refine x_istore G (lv' := [some (.ref 102), some (.ref 2), some (.int v2), some (.int v3), some (.int v4), some (.int v5), some (.int v6), some (.int v7), some (.int v8), some (.int v9), some (.int v10), some (.int v11), some (.int v12), some (.int (mmin v13 (ri w 105 (v12 + v9))))]) dX7_leastDig_212 rfl rfl rfl ?_
      exact XW.sub (lv' := [some (.ref 102), some (.ref 2), some (.int v2), some (.int v3), some (.int v4), some (.int v5), some (.int v6), some (.int v7), some (.int v8), some (.int v9), some (.int v10), some (.int v11), some (.int v12), some (.int (mmin v13 (ri w 105 (v12 + v9))))]) (And.intro rfl (And.intro rfl (And.intro rfl (And.intro rfl (And.intro rfl (And.intro rfl (And.intro rfl (And.intro rfl (And.intro rfl (And.intro rfl (And.intro rfl (And.intro rfl (And.intro rfl (And.intro rfl trivial)))))))))))))) (xX7_leastDig_214 G M k73 hk73 k82 hk82 hf hr)
    · exact (xX7_leastDig_214 G M k73 hk73 k82 hk82 hf hr)
  · exact (xX7_leastDig_214 G M k73 hk73 k82 hk82 hf hr)

set_option maxHeartbeats 4000000 in
set_option maxRecDepth 100000 in
theorem xX7_leastDig_142 {K : KT} {v2 : Int32} {v3 : Int32} {v4 : Int32} {v5 : Int32} {v6 : Int32} {v7 : Int32} {v8 : Int32} {v9 : Int32} {v10 : Int32} {v11 : Int32} {v12 : Int32} {s0 : Int32} {w : Wd} {r : Int32 × Wd} (G : GK K cX7_leastDig RX7 14 4) (M : Main K.ks) (k73 : Int32 → Int32 → Int32 → Int32 → Int32 → Int32 → Int32 → Int32 → Int32 → Wd → Option (Int32 × Wd)) (hk73 : ∀ (v2 : Int32) (v3 : Int32) (v4 : Int32) (v5 : Int32) (v6 : Int32) (v7 : Int32) (v8 : Int32) (v9 : Int32) (v10 : Int32) (w : Wd), k73 v2 v3 v4 v5 v6 v7 v8 v9 v10 w = some r → XW K 73 [some (.ref 102), some (.ref 2), some (.int v2), some (.int v3), some (.int v4), some (.int v5), some (.int v6), some (.int v7), some (.int v8), some (.int v9), some (.int v10), none, none, none] [] w) (k82 : Int32 → Int32 → Int32 → Int32 → Int32 → Int32 → Int32 → Int32 → Int32 → Int32 → Wd → Option (Int32 × Wd)) (hk82 : ∀ (v2 : Int32) (v3 : Int32) (v4 : Int32) (v5 : Int32) (v6 : Int32) (v7 : Int32) (v8 : Int32) (v9 : Int32) (v10 : Int32) (v11 : Int32) (w : Wd), k82 v2 v3 v4 v5 v6 v7 v8 v9 v10 v11 w = some r → XW K 82 [some (.ref 102), some (.ref 2), some (.int v2), some (.int v3), some (.int v4), some (.int v5), some (.int v6), some (.int v7), some (.int v8), some (.int v9), some (.int v10), some (.int v11), none, none] [] w) (hf : fX7_leastDig_142 k73 k82 v2 v3 v4 v5 v6 v7 v8 v9 v10 v11 v12 s0 w = some r) (hr : RI K .int r.1 r.2) : XW K 142 [some (.ref 102), some (.ref 2), some (.int v2), some (.int v3), some (.int v4), some (.int v5), some (.int v6), some (.int v7), some (.int v8), some (.int v9), some (.int v10), some (.int v11), some (.int v12), none] [.int s0] w := by
  unfold fX7_leastDig_142 at hf
  refine x_istore G (lv' := [some (.ref 102), some (.ref 2), some (.int v2), some (.int v3), some (.int v4), some (.int v5), some (.int v6), some (.int v7), some (.int v8), some (.int v9), some (.int v10), some (.int v11), some (.int v12), some (.int s0)]) dX7_leastDig_142 rfl rfl rfl ?_
  refine x_iload G dX7_leastDig_144 rfl ?_
  refine x_iload G dX7_leastDig_146 rfl ?_
  refine x_icmpge G (tgt := 179) dX7_leastDig_148 (by decide) hf (fun c_1 hf => ?_) (fun c_1 hf => ?_)
  · refine x_iload G dX7_leastDig_151 rfl ?_
    refine x_iload G dX7_leastDig_153 rfl ?_
    refine x_iadd G dX7_leastDig_155 ?_
    obtain ⟨v_2, hv_2, hf⟩ := bnd hf
    refine x_nesI G (As := [.int (v12 + v8)]) (mX11_isCell G.2.2.2.2.2.2.1 M hv_2) mn_X7_38 rfl rfl rfl rfl rfl dX7_leastDig_156 ?_
    refine x_ifeqB G (tgt := 179) dX7_leastDig_159 (by decide) hf (fun c_3 hf => ?_) (fun c_3 hf => ?_)
    · refine x_iload G dX7_leastDig_162 rfl ?_
      refine x_aload_n G dX7_leastDig_164 rfl rfl ?_
      refine x_getR G (kd102 M) 3 (b := 105) rfl cl7 rfl wf_X7_22 dX7_leastDig_165 ?_
      refine x_iload G dX7_leastDig_168 rfl ?_
      refine x_iload G dX7_leastDig_170 rfl ?_
      refine x_iadd G dX7_leastDig_172 ?_
      refine x_iald G (kd105 M) dX7_leastDig_173 hf (fun hb_4 hf => ?_)
      refine x_min G wm_X7_47 wmin_1 wmin_2 wmin_3 rfl rfl dX7_leastDig_174 ?_
      refine x_istore G (lv' := [some (.ref 102), some (.ref 2), some (.int v2), some (.int v3), some (.int v4), some (.int v5), some (.int v6), some (.int v7), some (.int v8), some (.int v9), some (.int v10), some (.int v11), some (.int v12), some (.int (mmin s0 (ri w 105 (v12 + v8))))]) dX7_leastDig_177 rfl rfl rfl ?_
      exact XW.sub (lv' := [some (.ref 102), some (.ref 2), some (.int v2), some (.int v3), some (.int v4), some (.int v5), some (.int v6), some (.int v7), some (.int v8), some (.int v9), some (.int v10), some (.int v11), some (.int v12), some (.int (mmin s0 (ri w 105 (v12 + v8))))]) (And.intro rfl (And.intro rfl (And.intro rfl (And.intro rfl (And.intro rfl (And.intro rfl (And.intro rfl (And.intro rfl (And.intro rfl (And.intro rfl (And.intro rfl (And.intro rfl (And.intro rfl (And.intro rfl trivial)))))))))))))) (xX7_leastDig_179 G M k73 hk73 k82 hk82 hf hr)
    · exact XW.sub (lv' := [some (.ref 102), some (.ref 2), some (.int v2), some (.int v3), some (.int v4), some (.int v5), some (.int v6), some (.int v7), some (.int v8), some (.int v9), some (.int v10), some (.int v11), some (.int v12), some (.int s0)]) (And.intro rfl (And.intro rfl (And.intro rfl (And.intro rfl (And.intro rfl (And.intro rfl (And.intro rfl (And.intro rfl (And.intro rfl (And.intro rfl (And.intro rfl (And.intro rfl (And.intro rfl (And.intro rfl trivial)))))))))))))) (xX7_leastDig_179 G M k73 hk73 k82 hk82 hf hr)
  · exact XW.sub (lv' := [some (.ref 102), some (.ref 2), some (.int v2), some (.int v3), some (.int v4), some (.int v5), some (.int v6), some (.int v7), some (.int v8), some (.int v9), some (.int v10), some (.int v11), some (.int v12), some (.int s0)]) (And.intro rfl (And.intro rfl (And.intro rfl (And.intro rfl (And.intro rfl (And.intro rfl (And.intro rfl (And.intro rfl (And.intro rfl (And.intro rfl (And.intro rfl (And.intro rfl (And.intro rfl (And.intro rfl trivial)))))))))))))) (xX7_leastDig_179 G M k73 hk73 k82 hk82 hf hr)

set_option maxHeartbeats 4000000 in
set_option maxRecDepth 100000 in
theorem xX7_leastDig_130 {K : KT} {v2 : Int32} {v3 : Int32} {v4 : Int32} {v5 : Int32} {v6 : Int32} {v7 : Int32} {v8 : Int32} {v9 : Int32} {v10 : Int32} {v11 : Int32} {v12 : Int32} {w : Wd} {r : Int32 × Wd} (G : GK K cX7_leastDig RX7 14 4) (M : Main K.ks) (k73 : Int32 → Int32 → Int32 → Int32 → Int32 → Int32 → Int32 → Int32 → Int32 → Wd → Option (Int32 × Wd)) (hk73 : ∀ (v2 : Int32) (v3 : Int32) (v4 : Int32) (v5 : Int32) (v6 : Int32) (v7 : Int32) (v8 : Int32) (v9 : Int32) (v10 : Int32) (w : Wd), k73 v2 v3 v4 v5 v6 v7 v8 v9 v10 w = some r → XW K 73 [some (.ref 102), some (.ref 2), some (.int v2), some (.int v3), some (.int v4), some (.int v5), some (.int v6), some (.int v7), some (.int v8), some (.int v9), some (.int v10), none, none, none] [] w) (k82 : Int32 → Int32 → Int32 → Int32 → Int32 → Int32 → Int32 → Int32 → Int32 → Int32 → Wd → Option (Int32 × Wd)) (hk82 : ∀ (v2 : Int32) (v3 : Int32) (v4 : Int32) (v5 : Int32) (v6 : Int32) (v7 : Int32) (v8 : Int32) (v9 : Int32) (v10 : Int32) (v11 : Int32) (w : Wd), k82 v2 v3 v4 v5 v6 v7 v8 v9 v10 v11 w = some r → XW K 82 [some (.ref 102), some (.ref 2), some (.int v2), some (.int v3), some (.int v4), some (.int v5), some (.int v6), some (.int v7), some (.int v8), some (.int v9), some (.int v10), some (.int v11), none, none] [] w) (hf : fX7_leastDig_130 k73 k82 v2 v3 v4 v5 v6 v7 v8 v9 v10 v11 v12 w = some r) (hr : RI K .int r.1 r.2) : XW K 130 [some (.ref 102), some (.ref 2), some (.int v2), some (.int v3), some (.int v4), some (.int v5), some (.int v6), some (.int v7), some (.int v8), some (.int v9), some (.int v10), some (.int v11), some (.int v12), none] [] w := by
  unfold fX7_leastDig_130 at hf
  refine x_iload G dX7_leastDig_130 rfl ?_
  refine x_iload_n G dX7_leastDig_132 rfl rfl ?_
  refine x_icmpne G (tgt := 140) dX7_leastDig_133 (by decide) hf (fun c_1 hf => ?_) (fun c_1 hf => ?_)
  · refine x_iconst G (v := 0) dX7_leastDig_136 (by decide) ?_
    refine x_goto G (tgt := 142) dX7_leastDig_137 (by decide) ?_
    exact (xX7_leastDig_142 G M k73 hk73 k82 hk82 hf hr)
  · refine x_ldc G wc_X7_31 dX7_leastDig_140 ?_
    exact (xX7_leastDig_142 G M k73 hk73 k82 hk82 hf hr)

set_option maxHeartbeats 4000000 in
set_option maxRecDepth 100000 in
theorem xX7_leastDig_82 {K : KT} {r : Int32 × Wd} (G : GK K cX7_leastDig RX7 14 4) (M : Main K.ks) (k73 : Int32 → Int32 → Int32 → Int32 → Int32 → Int32 → Int32 → Int32 → Int32 → Wd → Option (Int32 × Wd)) (hk73 : ∀ (v2 : Int32) (v3 : Int32) (v4 : Int32) (v5 : Int32) (v6 : Int32) (v7 : Int32) (v8 : Int32) (v9 : Int32) (v10 : Int32) (w : Wd), k73 v2 v3 v4 v5 v6 v7 v8 v9 v10 w = some r → XW K 73 [some (.ref 102), some (.ref 2), some (.int v2), some (.int v3), some (.int v4), some (.int v5), some (.int v6), some (.int v7), some (.int v8), some (.int v9), some (.int v10), none, none, none] [] w) (hr : RI K .int r.1 r.2) : ∀ (n : Nat) (v2 : Int32) (v3 : Int32) (v4 : Int32) (v5 : Int32) (v6 : Int32) (v7 : Int32) (v8 : Int32) (v9 : Int32) (v10 : Int32) (v11 : Int32) (w : Wd), fX7_leastDig_82 k73 n v2 v3 v4 v5 v6 v7 v8 v9 v10 v11 w = some r → XW K 82 [some (.ref 102), some (.ref 2), some (.int v2), some (.int v3), some (.int v4), some (.int v5), some (.int v6), some (.int v7), some (.int v8), some (.int v9), some (.int v10), some (.int v11), none, none] [] w := by
  intro n
  induction n with
  | zero =>
    intro v2 v3 v4 v5 v6 v7 v8 v9 v10 v11 w hf
    unfold fX7_leastDig_82 at hf
    cases hf
  | succ n ih =>
    intro v2 v3 v4 v5 v6 v7 v8 v9 v10 v11 w hf
    unfold fX7_leastDig_82 at hf
    refine x_iload G dX7_leastDig_82 rfl ?_
    refine x_iflt G (tgt := 254) dX7_leastDig_84 (by decide) hf (fun c_1 hf => ?_) (fun c_1 hf => ?_)
    · refine x_iinc G (lv' := [some (.ref 102), some (.ref 2), some (.int v2), some (.int v3), some (.int v4), some (.int v5), some (.int v6), some (.int v7), some (.int v8), some (.int v9), some (.int (v10 + (-1 : Int32))), some (.int v11), none, none]) (v := -1) dX7_leastDig_254 rfl (by decide) rfl rfl rfl ?_
      refine x_goto G (tgt := 73) dX7_leastDig_257 (by decide) ?_
      exact XW.sub (lv' := [some (.ref 102), some (.ref 2), some (.int v2), some (.int v3), some (.int v4), some (.int v5), some (.int v6), some (.int v7), some (.int v8), some (.int v9), some (.int (v10 + (-1 : Int32))), none, none, none]) (And.intro rfl (And.intro rfl (And.intro rfl (And.intro rfl (And.intro rfl (And.intro rfl (And.intro rfl (And.intro rfl (And.intro rfl (And.intro rfl (And.intro rfl trivial))))))))))) (hk73 _ _ _ _ _ _ _ _ _ _ hf)
    · refine x_iload_n G dX7_leastDig_87 rfl rfl ?_
      refine x_iload G dX7_leastDig_88 rfl ?_
      refine x_iload G dX7_leastDig_90 rfl ?_
      refine x_imul G dX7_leastDig_92 ?_
      refine x_iadd G dX7_leastDig_93 ?_
      refine x_iload G dX7_leastDig_94 rfl ?_
      refine x_iload G dX7_leastDig_96 rfl ?_
      refine x_imul G dX7_leastDig_98 ?_
      refine x_iadd G dX7_leastDig_99 ?_
      refine x_istore G (lv' := [some (.ref 102), some (.ref 2), some (.int v2), some (.int v3), some (.int v4), some (.int v5), some (.int v6), some (.int v7), some (.int v8), some (.int v9), some (.int v10), some (.int v11), some (.int ((v2 + (v11 * v8)) + (v10 * v9))), none]) dX7_leastDig_100 rfl rfl rfl ?_
      refine x_iload G dX7_leastDig_102 rfl ?_
      obtain ⟨v_2, hv_2, hf⟩ := bnd hf
      refine x_nesI G (As := [.int ((v2 + (v11 * v8)) + (v10 * v9))]) (mX11_isCell G.2.2.2.2.2.2.1 M hv_2) mn_X7_38 rfl rfl rfl rfl rfl dX7_leastDig_104 ?_
      refine x_ifeqB G (tgt := 248) dX7_leastDig_107 (by decide) hf (fun c_3 hf => ?_) (fun c_3 hf => ?_)
      · refine x_iload G dX7_leastDig_110 rfl ?_
        refine x_iload_n G dX7_leastDig_112 rfl rfl ?_
        refine x_icmpeq G (tgt := 130) dX7_leastDig_113 (by decide) hf (fun c_4 hf => ?_) (fun c_4 hf => ?_)
        · exact XW.sub (lv' := [some (.ref 102), some (.ref 2), some (.int v2), some (.int v3), some (.int v4), some (.int v5), some (.int v6), some (.int v7), some (.int v8), some (.int v9), some (.int v10), some (.int v11), some (.int ((v2 + (v11 * v8)) + (v10 * v9))), none]) (And.intro rfl (And.intro rfl (And.intro rfl (And.intro rfl (And.intro rfl (And.intro rfl (And.intro rfl (And.intro rfl (And.intro rfl (And.intro rfl (And.intro rfl (And.intro rfl (And.intro rfl trivial))))))))))))) (xX7_leastDig_130 G M k73 hk73 (fX7_leastDig_82 k73 n) ih hf hr)
        · refine x_aload_n G dX7_leastDig_116 rfl rfl ?_
          refine x_getR G (kd2 M) 4 (b := 7) rfl cl2 rfl wf_X7_42 dX7_leastDig_117 ?_
          refine x_iload G dX7_leastDig_120 rfl ?_
          refine x_iald G (kd7 M) dX7_leastDig_122 hf (fun hb_5 hf => ?_)
          refine x_iconst G (v := 1) dX7_leastDig_123 (by decide) ?_
          refine x_icmpne G (tgt := 130) dX7_leastDig_124 (by decide) hf (fun c_6 hf => ?_) (fun c_6 hf => ?_)
          · refine x_goto G (tgt := 248) dX7_leastDig_127 (by decide) ?_
            refine x_iinc G (lv' := [some (.ref 102), some (.ref 2), some (.int v2), some (.int v3), some (.int v4), some (.int v5), some (.int v6), some (.int v7), some (.int v8), some (.int v9), some (.int v10), some (.int (v11 + (-1 : Int32))), some (.int ((v2 + (v11 * v8)) + (v10 * v9))), none]) (v := -1) dX7_leastDig_248 rfl (by decide) rfl rfl rfl ?_
            refine x_goto G (tgt := 82) dX7_leastDig_251 (by decide) ?_
            exact XW.sub (lv' := [some (.ref 102), some (.ref 2), some (.int v2), some (.int v3), some (.int v4), some (.int v5), some (.int v6), some (.int v7), some (.int v8), some (.int v9), some (.int v10), some (.int (v11 + (-1 : Int32))), none, none]) (And.intro rfl (And.intro rfl (And.intro rfl (And.intro rfl (And.intro rfl (And.intro rfl (And.intro rfl (And.intro rfl (And.intro rfl (And.intro rfl (And.intro rfl (And.intro rfl trivial)))))))))))) (ih _ _ _ _ _ _ _ _ _ _ _ hf)
          · exact XW.sub (lv' := [some (.ref 102), some (.ref 2), some (.int v2), some (.int v3), some (.int v4), some (.int v5), some (.int v6), some (.int v7), some (.int v8), some (.int v9), some (.int v10), some (.int v11), some (.int ((v2 + (v11 * v8)) + (v10 * v9))), none]) (And.intro rfl (And.intro rfl (And.intro rfl (And.intro rfl (And.intro rfl (And.intro rfl (And.intro rfl (And.intro rfl (And.intro rfl (And.intro rfl (And.intro rfl (And.intro rfl (And.intro rfl trivial))))))))))))) (xX7_leastDig_130 G M k73 hk73 (fX7_leastDig_82 k73 n) ih hf hr)
      · refine x_iinc G (lv' := [some (.ref 102), some (.ref 2), some (.int v2), some (.int v3), some (.int v4), some (.int v5), some (.int v6), some (.int v7), some (.int v8), some (.int v9), some (.int v10), some (.int (v11 + (-1 : Int32))), some (.int ((v2 + (v11 * v8)) + (v10 * v9))), none]) (v := -1) dX7_leastDig_248 rfl (by decide) rfl rfl rfl ?_
        refine x_goto G (tgt := 82) dX7_leastDig_251 (by decide) ?_
        exact XW.sub (lv' := [some (.ref 102), some (.ref 2), some (.int v2), some (.int v3), some (.int v4), some (.int v5), some (.int v6), some (.int v7), some (.int v8), some (.int v9), some (.int v10), some (.int (v11 + (-1 : Int32))), none, none]) (And.intro rfl (And.intro rfl (And.intro rfl (And.intro rfl (And.intro rfl (And.intro rfl (And.intro rfl (And.intro rfl (And.intro rfl (And.intro rfl (And.intro rfl (And.intro rfl trivial)))))))))))) (ih _ _ _ _ _ _ _ _ _ _ _ hf)

set_option maxHeartbeats 4000000 in
set_option maxRecDepth 100000 in
theorem xX7_leastDig_73 {K : KT} {r : Int32 × Wd} (G : GK K cX7_leastDig RX7 14 4) (M : Main K.ks) (hr : RI K .int r.1 r.2) : ∀ (n : Nat) (v2 : Int32) (v3 : Int32) (v4 : Int32) (v5 : Int32) (v6 : Int32) (v7 : Int32) (v8 : Int32) (v9 : Int32) (v10 : Int32) (w : Wd), fX7_leastDig_73 n v2 v3 v4 v5 v6 v7 v8 v9 v10 w = some r → XW K 73 [some (.ref 102), some (.ref 2), some (.int v2), some (.int v3), some (.int v4), some (.int v5), some (.int v6), some (.int v7), some (.int v8), some (.int v9), some (.int v10), none, none, none] [] w := by
  intro n
  induction n with
  | zero =>
    intro v2 v3 v4 v5 v6 v7 v8 v9 v10 w hf
    unfold fX7_leastDig_73 at hf
    cases hf
  | succ n ih =>
    intro v2 v3 v4 v5 v6 v7 v8 v9 v10 w hf
    unfold fX7_leastDig_73 at hf
    refine x_iload G dX7_leastDig_73 rfl ?_
    refine x_iflt G (tgt := 260) dX7_leastDig_75 (by decide) hf (fun c_1 hf => ?_) (fun c_1 hf => ?_)
    · refine x_aload_n G dX7_leastDig_260 rfl rfl ?_
      refine x_getR G (kd102 M) 3 (b := 105) rfl cl7 rfl wf_X7_22 dX7_leastDig_261 ?_
      refine x_iload_n G dX7_leastDig_264 rfl rfl ?_
      refine x_iald G (kd105 M) dX7_leastDig_265 hf (fun hb_2 hf => ?_)
      exact x_iretW G hf hr dX7_leastDig_266
    · refine x_iload G dX7_leastDig_78 rfl ?_
      refine x_istore G (lv' := [some (.ref 102), some (.ref 2), some (.int v2), some (.int v3), some (.int v4), some (.int v5), some (.int v6), some (.int v7), some (.int v8), some (.int v9), some (.int v10), some (.int v6), none, none]) dX7_leastDig_80 rfl rfl rfl ?_
      exact XW.sub (lv' := [some (.ref 102), some (.ref 2), some (.int v2), some (.int v3), some (.int v4), some (.int v5), some (.int v6), some (.int v7), some (.int v8), some (.int v9), some (.int v10), some (.int v6), none, none]) (And.intro rfl (And.intro rfl (And.intro rfl (And.intro rfl (And.intro rfl (And.intro rfl (And.intro rfl (And.intro rfl (And.intro rfl (And.intro rfl (And.intro rfl (And.intro rfl trivial)))))))))))) (xX7_leastDig_82 G M (fX7_leastDig_73 n) ih hr FU _ _ _ _ _ _ _ _ _ _ _ hf)

set_option maxHeartbeats 4000000 in
set_option maxRecDepth 100000 in
theorem xX7_leastDig_58 {K : KT} {v2 : Int32} {v3 : Int32} {v4 : Int32} {v5 : Int32} {v6 : Int32} {v7 : Int32} {v8 : Int32} {s0 : Int32} {w : Wd} {r : Int32 × Wd} (G : GK K cX7_leastDig RX7 14 4) (M : Main K.ks) (hf : fX7_leastDig_58 v2 v3 v4 v5 v6 v7 v8 s0 w = some r) (hr : RI K .int r.1 r.2) : XW K 58 [some (.ref 102), some (.ref 2), some (.int v2), some (.int v3), some (.int v4), some (.int v5), some (.int v6), some (.int v7), some (.int v8), none, none, none, none, none] [.int s0] w := by
  unfold fX7_leastDig_58 at hf
  refine x_istore G (lv' := [some (.ref 102), some (.ref 2), some (.int v2), some (.int v3), some (.int v4), some (.int v5), some (.int v6), some (.int v7), some (.int v8), some (.int s0), none, none, none, none]) dX7_leastDig_58 rfl rfl rfl ?_
  refine x_aload_n G dX7_leastDig_60 rfl rfl ?_
  refine x_getR G (kd102 M) 3 (b := 105) rfl cl7 rfl wf_X7_22 dX7_leastDig_61 ?_
  refine x_ldc G wc_X7_31 dX7_leastDig_64 ?_
  refine x_staV G (As := [.ref 105, .int (1000000 : Int32)]) (mFillI G.2.2.2.2.2.2.1 (kd105 M)) ms_X7_32 rfl rfl rfl rfl rfl dX7_leastDig_66 ?_
  refine nwr hf (fun w_1 hf => ?_)
  refine x_iload G dX7_leastDig_69 rfl ?_
  refine x_istore G (lv' := [some (.ref 102), some (.ref 2), some (.int v2), some (.int v3), some (.int v4), some (.int v5), some (.int v6), some (.int v7), some (.int v8), some (.int s0), some (.int v7), none, none, none]) dX7_leastDig_71 rfl rfl rfl ?_
  exact XW.sub (lv' := [some (.ref 102), some (.ref 2), some (.int v2), some (.int v3), some (.int v4), some (.int v5), some (.int v6), some (.int v7), some (.int v8), some (.int s0), some (.int v7), none, none, none]) (And.intro rfl (And.intro rfl (And.intro rfl (And.intro rfl (And.intro rfl (And.intro rfl (And.intro rfl (And.intro rfl (And.intro rfl (And.intro rfl (And.intro rfl trivial))))))))))) (xX7_leastDig_73 G M hr FU _ _ _ _ _ _ _ _ _ _ hf)

set_option maxHeartbeats 4000000 in
set_option maxRecDepth 100000 in
theorem xX7_leastDig_44 {K : KT} {v2 : Int32} {v3 : Int32} {v4 : Int32} {v5 : Int32} {v6 : Int32} {v7 : Int32} {s0 : Int32} {w : Wd} {r : Int32 × Wd} (G : GK K cX7_leastDig RX7 14 4) (M : Main K.ks) (hf : fX7_leastDig_44 v2 v3 v4 v5 v6 v7 s0 w = some r) (hr : RI K .int r.1 r.2) : XW K 44 [some (.ref 102), some (.ref 2), some (.int v2), some (.int v3), some (.int v4), some (.int v5), some (.int v6), some (.int v7), none, none, none, none, none, none] [.int s0] w := by
  unfold fX7_leastDig_44 at hf
  refine x_istore G (lv' := [some (.ref 102), some (.ref 2), some (.int v2), some (.int v3), some (.int v4), some (.int v5), some (.int v6), some (.int v7), some (.int s0), none, none, none, none, none]) dX7_leastDig_44 rfl rfl rfl ?_
  refine x_iload_n G dX7_leastDig_46 rfl rfl ?_
  refine x_iload_n G dX7_leastDig_47 rfl rfl ?_
  refine x_icmple G (tgt := 56) dX7_leastDig_48 (by decide) hf (fun c_1 hf => ?_) (fun c_1 hf => ?_)
  · refine x_bipush G (v := 10) dX7_leastDig_51 (by decide) ?_
    refine x_goto G (tgt := 58) dX7_leastDig_53 (by decide) ?_
    exact XW.sub (lv' := [some (.ref 102), some (.ref 2), some (.int v2), some (.int v3), some (.int v4), some (.int v5), some (.int v6), some (.int v7), some (.int s0), none, none, none, none, none]) (And.intro rfl (And.intro rfl (And.intro rfl (And.intro rfl (And.intro rfl (And.intro rfl (And.intro rfl (And.intro rfl (And.intro rfl trivial))))))))) (xX7_leastDig_58 G M hf hr)
  · refine x_bipush G (v := -10) dX7_leastDig_56 (by decide) ?_
    exact XW.sub (lv' := [some (.ref 102), some (.ref 2), some (.int v2), some (.int v3), some (.int v4), some (.int v5), some (.int v6), some (.int v7), some (.int s0), none, none, none, none, none]) (And.intro rfl (And.intro rfl (And.intro rfl (And.intro rfl (And.intro rfl (And.intro rfl (And.intro rfl (And.intro rfl (And.intro rfl trivial))))))))) (xX7_leastDig_58 G M hf hr)

set_option maxHeartbeats 4000000 in
set_option maxRecDepth 100000 in
theorem xX7_leastDig_e {K : KT} {v2 : Int32} {v3 : Int32} {v4 : Int32} {v5 : Int32} {w : Wd} {r : Int32 × Wd} (G : GK K cX7_leastDig RX7 14 4) (M : Main K.ks) (hf : fX7_leastDig v2 v3 v4 v5 w = some r) (hr : RI K .int r.1 r.2) : XW K 0 [some (.ref 102), some (.ref 2), some (.int v2), some (.int v3), some (.int v4), some (.int v5), none, none, none, none, none, none, none, none] [] w := by
  unfold fX7_leastDig at hf
  refine x_iload_n G dX7_leastDig_0 rfl rfl ?_
  refine x_bipush G (v := 10) dX7_leastDig_1 (by decide) ?_
  refine x_irem' G dX7_leastDig_3 (by decide) ?_
  refine x_iload_n G dX7_leastDig_4 rfl rfl ?_
  refine x_bipush G (v := 10) dX7_leastDig_5 (by decide) ?_
  refine x_irem' G dX7_leastDig_7 (by decide) ?_
  refine x_isub G dX7_leastDig_8 ?_
  refine x_abs G wm_X7_25 wabs_1 wabs_2 wabs_3 rfl rfl dX7_leastDig_9 ?_
  refine x_istore G (lv' := [some (.ref 102), some (.ref 2), some (.int v2), some (.int v3), some (.int v4), some (.int v5), some (.int (mabs ((jrm v3 (10 : Int32)) - (jrm v2 (10 : Int32))))), none, none, none, none, none, none, none]) dX7_leastDig_12 rfl rfl rfl ?_
  refine x_iload_n G dX7_leastDig_14 rfl rfl ?_
  refine x_bipush G (v := 10) dX7_leastDig_15 (by decide) ?_
  refine x_idiv G dX7_leastDig_17 (by decide) ?_
  refine x_iload_n G dX7_leastDig_18 rfl rfl ?_
  refine x_bipush G (v := 10) dX7_leastDig_19 (by decide) ?_
  refine x_idiv G dX7_leastDig_21 (by decide) ?_
  refine x_isub G dX7_leastDig_22 ?_
  refine x_abs G wm_X7_25 wabs_1 wabs_2 wabs_3 rfl rfl dX7_leastDig_23 ?_
  refine x_istore G (lv' := [some (.ref 102), some (.ref 2), some (.int v2), some (.int v3), some (.int v4), some (.int v5), some (.int (mabs ((jrm v3 (10 : Int32)) - (jrm v2 (10 : Int32))))), some (.int (mabs ((v3 / (10 : Int32)) - (v2 / (10 : Int32))))), none, none, none, none, none, none]) dX7_leastDig_26 rfl rfl rfl ?_
  refine x_iload_n G dX7_leastDig_28 rfl rfl ?_
  refine x_bipush G (v := 10) dX7_leastDig_29 (by decide) ?_
  refine x_irem' G dX7_leastDig_31 (by decide) ?_
  refine x_iload_n G dX7_leastDig_32 rfl rfl ?_
  refine x_bipush G (v := 10) dX7_leastDig_33 (by decide) ?_
  refine x_irem' G dX7_leastDig_35 (by decide) ?_
  refine x_icmple G (tgt := 43) dX7_leastDig_36 (by decide) hf (fun c_1 hf => ?_) (fun c_1 hf => ?_)
  · refine x_iconst G (v := 1) dX7_leastDig_39 (by decide) ?_
    refine x_goto G (tgt := 44) dX7_leastDig_40 (by decide) ?_
    exact XW.sub (lv' := [some (.ref 102), some (.ref 2), some (.int v2), some (.int v3), some (.int v4), some (.int v5), some (.int (mabs ((jrm v3 (10 : Int32)) - (jrm v2 (10 : Int32))))), some (.int (mabs ((v3 / (10 : Int32)) - (v2 / (10 : Int32))))), none, none, none, none, none, none]) (And.intro rfl (And.intro rfl (And.intro rfl (And.intro rfl (And.intro rfl (And.intro rfl (And.intro rfl (And.intro rfl trivial)))))))) (xX7_leastDig_44 G M hf hr)
  · refine x_iconst G (v := -1) dX7_leastDig_43 (by decide) ?_
    exact XW.sub (lv' := [some (.ref 102), some (.ref 2), some (.int v2), some (.int v3), some (.int v4), some (.int v5), some (.int (mabs ((jrm v3 (10 : Int32)) - (jrm v2 (10 : Int32))))), some (.int (mabs ((v3 / (10 : Int32)) - (v2 / (10 : Int32))))), none, none, none, none, none, none]) (And.intro rfl (And.intro rfl (And.intro rfl (And.intro rfl (And.intro rfl (And.intro rfl (And.intro rfl (And.intro rfl trivial)))))))) (xX7_leastDig_44 G M hf hr)

theorem mX7_leastDig {l : Launch} {S : KS} {w : Wd} (hI : Inj S) (M : Main S) {v2 : Int32} {v3 : Int32} {v4 : Int32} {v5 : Int32} {r : Int32 × Wd} (hf : fX7_leastDig v2 v3 v4 v5 w = some r) : CI l yX7_leastDig cX7_leastDig 14 (some .int) 4 S [.ref 102, .ref 2, .int v2, .int v3, .int v4, .int v5] w r.1 r.2 := by
  intro sz
  refine mk_entry rfl (by decide +kernel) hI 8 rfl rfl (fun K h1 h2 h3 h4 h5 h6 G => ?_)
  subst h2
  exact xX7_leastDig_e G M hf ⟨h3, by rw [h4, h6], h5⟩

set_option maxHeartbeats 4000000 in
set_option maxRecDepth 100000 in
theorem xX8_holdsRow_e {K : KT} {v0 : Nat} {w : Wd} {r : Bool} (G : GK K cX8_holdsRow RX8 1 2) (M : Main K.ks) (hv0 : IsTape K.ks v0) (hf : fX8_holdsRow v0 w = some r) (hr : RI K .boolean (bI r) w) : XW K 0 [some (.ref v0)] [] w := by
  unfold fX8_holdsRow at hf
  refine x_aload_n G dX8_holdsRow_0 rfl rfl ?_
  refine x_getI G hv0.1 0 rfl cl8 rfl wf_X8_9 dX8_holdsRow_1 ?_
  refine x_iconst G (v := 1) dX8_holdsRow_4 (by decide) ?_
  refine x_iconst G (v := 5) dX8_holdsRow_5 (by decide) ?_
  obtain ⟨v_1, hv_1, hf⟩ := bnd hf
  refine x_nesI G (As := [.int (w.1 v0 0), .int (1 : Int32), .int (5 : Int32)]) (mX11_within G.2.2.2.2.2.2.1 M hv_1) mn_X8_26 rfl rfl rfl rfl rfl dX8_holdsRow_6 ?_
  exact x_zretP G hf hr dX8_holdsRow_9

theorem mX8_holdsRow {l : Launch} {S : KS} {w : Wd} (hI : Inj S) (M : Main S) {v0 : Nat} (hv0 : IsTape S v0) {r : Bool} (hf : fX8_holdsRow v0 w = some r) : CI l yX8_holdsRow cX8_holdsRow 1 (some .boolean) 2 S [.ref v0] w (bI r) w := by
  intro sz
  refine mk_entry rfl (by decide +kernel) hI 0 rfl rfl (fun K h1 h2 h3 h4 h5 h6 G => ?_)
  subst h2
  exact xX8_holdsRow_e G M hv0 hf ⟨h3, by rw [h4, h6], h5⟩

set_option maxHeartbeats 4000000 in
set_option maxRecDepth 100000 in
theorem xX8_narrowed_e {K : KT} {v0 : Nat} {v1 : Int64} {w : Wd} {r : Int64} (G : GK K cX8_narrowed RX8 3 1) (M : Main K.ks) (hv0 : IsTape K.ks v0) (hf : fX8_narrowed v0 v1 w = some r) (hr : RJ K .long r w) : XW K 0 [some (.ref v0), some (.long v1), none] [] w := by
  unfold fX8_narrowed at hf
  refine x_aload_n G dX8_narrowed_0 rfl rfl ?_
  refine x_getI G hv0.1 0 rfl cl8 rfl wf_X8_9 dX8_narrowed_1 ?_
  rcases ite_or hf with ⟨c_1, hf⟩ | ⟨c_1, hf⟩
  · refine x_swIn G (tgt := 36) (off := 32) (k := 1) dX8_narrowed_4 c_1 (by decide) (by decide) (by decide) (by decide) ?_
    refine x_lload_n G dX8_narrowed_36 rfl rfl ?_
    refine x_l2i G dX8_narrowed_37 ?_
    refine x_i2b G dX8_narrowed_38 ?_
    refine x_i2l G dX8_narrowed_39 ?_
    exact x_lretP G hf hr dX8_narrowed_40
  rcases ite_or hf with ⟨c_2, hf⟩ | ⟨c_2, hf⟩
  · refine x_swIn G (tgt := 41) (off := 37) (k := 2) dX8_narrowed_4 c_2 (by decide) (by decide) (by decide) (by decide) ?_
    refine x_lload_n G dX8_narrowed_41 rfl rfl ?_
    refine x_l2i G dX8_narrowed_42 ?_
    refine x_i2s G dX8_narrowed_43 ?_
    refine x_i2l G dX8_narrowed_44 ?_
    exact x_lretP G hf hr dX8_narrowed_45
  rcases ite_or hf with ⟨c_3, hf⟩ | ⟨c_3, hf⟩
  · refine x_swIn G (tgt := 46) (off := 42) (k := 3) dX8_narrowed_4 c_3 (by decide) (by decide) (by decide) (by decide) ?_
    refine x_lload_n G dX8_narrowed_46 rfl rfl ?_
    refine x_l2i G dX8_narrowed_47 ?_
    refine x_i2l G dX8_narrowed_48 ?_
    exact x_lretP G hf hr dX8_narrowed_49
  rcases ite_or hf with ⟨c_4, hf⟩ | ⟨c_4, hf⟩
  · refine x_swIn G (tgt := 50) (off := 46) (k := 4) dX8_narrowed_4 c_4 (by decide) (by decide) (by decide) (by decide) ?_
    refine x_lload_n G dX8_narrowed_50 rfl rfl ?_
    exact x_lretP G hf hr dX8_narrowed_51
  refine x_swDef G (tgt := 52) dX8_narrowed_4 (by decide) [1, 2, 3, 4] (List.forall_mem_cons.mpr ⟨nek c_1 (by decide), (List.forall_mem_cons.mpr ⟨nek c_2 (by decide), (List.forall_mem_cons.mpr ⟨nek c_3 (by decide), (List.forall_mem_cons.mpr ⟨nek c_4 (by decide), (fun _ h => absurd h List.not_mem_nil)⟩)⟩)⟩)⟩) (by decide +kernel) ?_
  refine x_lload_n G dX8_narrowed_52 rfl rfl ?_
  refine x_lconst G (v := 0) dX8_narrowed_53 (by decide) ?_
  refine x_lcmp G dX8_narrowed_54 ?_
  refine x_ceq G (tgt := 62) dX8_narrowed_55 (by decide) hf (fun c_5 hf => ?_) (fun c_5 hf => ?_)
  · refine x_lconst G (v := 0) dX8_narrowed_62 (by decide) ?_
    exact x_lretP G hf hr dX8_narrowed_63
  · refine x_lconst G (v := 1) dX8_narrowed_58 (by decide) ?_
    refine x_goto G (tgt := 63) dX8_narrowed_59 (by decide) ?_
    exact x_lretP G hf hr dX8_narrowed_63

theorem mX8_narrowed {l : Launch} {S : KS} {w : Wd} (hI : Inj S) (M : Main S) {v0 : Nat} {v1 : Int64} (hv0 : IsTape S v0) {r : Int64} (hf : fX8_narrowed v0 v1 w = some r) : CJ l yX8_narrowed cX8_narrowed 3 (some .long) 1 S [.ref v0, .long v1] w r w := by
  intro sz
  refine mk_entry rfl (by decide +kernel) hI 0 rfl rfl (fun K h1 h2 h3 h4 h5 h6 G => ?_)
  subst h2
  exact xX8_narrowed_e G M hv0 hf ⟨h3, by rw [h4, h6], h5⟩

set_option maxHeartbeats 4000000 in
set_option maxRecDepth 100000 in
theorem xX9_learn_15 {K : KT} {r : Wd} (G : GK K cX9_learn RX9 3 1) (M : Main K.ks) (hr : RV K r) : ∀ (n : Nat) (v1 : Nat) (v2 : Int32) (w : Wd), IsTape K.ks v1 → fX9_learn_15 n v1 v2 w = some r → XW K 15 [some (.ref 100), some (.ref v1), some (.int v2)] [] w := by
  intro n
  induction n with
  | zero =>
    intro v1 v2 w hv1 hf
    unfold fX9_learn_15 at hf
    cases hf
  | succ n ih =>
    intro v1 v2 w hv1 hf
    unfold fX9_learn_15 at hf
    refine x_iload_n G dX9_learn_15 rfl rfl ?_
    refine x_aload_n G dX9_learn_16 rfl rfl ?_
    refine x_getI G (kd100 M) 0 rfl cl9 rfl wf_X9_9 dX9_learn_17 ?_
    refine x_icmpge G (tgt := 42) dX9_learn_20 (by decide) hf (fun c_1 hf => ?_) (fun c_1 hf => ?_)
    · refine x_aload_n G dX9_learn_23 rfl rfl ?_
      refine x_getR G (kd100 M) 1 (b := 101) rfl cl9 rfl wf_X9_15 dX9_learn_24 ?_
      refine x_iload_n G dX9_learn_27 rfl rfl ?_
      refine x_aload_n G dX9_learn_28 rfl rfl ?_
      refine x_getR G hv1.1 2 (b := (v1 + 1)) rfl cl8 rfl wf_X9_28 dX9_learn_29 ?_
      refine x_iload_n G dX9_learn_32 rfl rfl ?_
      refine x_lald G hv1.2 dX9_learn_33 hf (fun hb_2 hf => ?_)
      refine x_l2i G dX9_learn_34 ?_
      refine x_iast G (kd101 M) dX9_learn_35 hf (fun hb_3 hf => ?_)
      refine nwr hf (fun w_4 hf => ?_)
      refine x_iinc G (lv' := [some (.ref 100), some (.ref v1), some (.int (v2 + (1 : Int32)))]) (v := 1) dX9_learn_36 rfl (by decide) rfl rfl rfl ?_
      refine x_goto G (tgt := 15) dX9_learn_39 (by decide) ?_
      exact XW.sub (lv' := [some (.ref 100), some (.ref v1), some (.int (v2 + (1 : Int32)))]) (And.intro rfl (And.intro rfl (And.intro rfl trivial))) (ih _ _ _ hv1 hf)
    · exact x_vretW G hf hr dX9_learn_42

set_option maxHeartbeats 4000000 in
set_option maxRecDepth 100000 in
theorem xX9_learn_e {K : KT} {v1 : Nat} {w : Wd} {r : Wd} (G : GK K cX9_learn RX9 3 1) (M : Main K.ks) (hv1 : IsTape K.ks v1) (hf : fX9_learn v1 w = some r) (hr : RV K r) : XW K 0 [some (.ref 100), some (.ref v1), none] [] w := by
  unfold fX9_learn at hf
  refine x_aload_n G dX9_learn_0 rfl rfl ?_
  refine x_aload_n G dX9_learn_1 rfl rfl ?_
  refine x_getI G hv1.1 1 rfl cl8 rfl wf_X9_19 dX9_learn_2 ?_
  refine x_bipush G (v := 60) dX9_learn_5 (by decide) ?_
  refine x_min G wm_X9_22 wmin_1 wmin_2 wmin_3 rfl rfl dX9_learn_7 ?_
  refine x_putI G (kd100 M) 0 rfl cl9 rfl wf_X9_9 rfl rfl rfl dX9_learn_10 ?_
  refine nwr hf (fun w_1 hf => ?_)
  refine x_iconst G (v := 0) dX9_learn_13 (by decide) ?_
  refine x_istore_n G (lv' := [some (.ref 100), some (.ref v1), some (.int (0 : Int32))]) dX9_learn_14 rfl rfl rfl rfl ?_
  exact XW.sub (lv' := [some (.ref 100), some (.ref v1), some (.int (0 : Int32))]) (And.intro rfl (And.intro rfl (And.intro rfl trivial))) (xX9_learn_15 G M hr FU _ _ _ hv1 hf)

theorem mX9_learn {l : Launch} {S : KS} {w : Wd} (hI : Inj S) (M : Main S) {v1 : Nat} (hv1 : IsTape S v1) {r : Wd} (hf : fX9_learn v1 w = some r) : CV l yX9_learn cX9_learn 3 none 1 S [.ref 100, .ref v1] w r := by
  intro sz
  refine mk_entry rfl (by decide +kernel) hI 1 rfl rfl (fun K h1 h2 h3 h4 h5 h6 G => ?_)
  subst h2
  exact xX9_learn_e G M hv1 hf ⟨h3, by rw [h4, h6], h5⟩

set_option maxHeartbeats 4000000 in
set_option maxRecDepth 100000 in
theorem xX10_foulCellars_4 {K : KT} {z : Nat} {w : Wd} {r : Int32} (G : GK K cX10_foulCellars RX10 3 1) (M : Main K.ks) (hz : IsCity K.ks z) (hr : RI K .int r w) : ∀ (n : Nat) (v1 : Int32) (v2 : Int32), fX10_foulCellars_4 z w n v1 v2 = some r → XW K 4 [some (.ref (z + 14)), some (.int v1), some (.int v2)] [] w := by
  intro n
  induction n with
  | zero =>
    intro v1 v2 hf
    unfold fX10_foulCellars_4 at hf
    cases hf
  | succ n ih =>
    intro v1 v2 hf
    unfold fX10_foulCellars_4 at hf
    refine x_iload_n G dX10_foulCellars_4 rfl rfl ?_
    refine x_bipush G (v := 100) dX10_foulCellars_5 (by decide) ?_
    refine x_icmpge G (tgt := 28) dX10_foulCellars_7 (by decide) hf (fun c_1 hf => ?_) (fun c_1 hf => ?_)
    · refine x_aload_n G dX10_foulCellars_10 rfl rfl ?_
      refine x_getR G (ic14 hz) 2 (b := (z + 17)) rfl cl10 rfl wf_X10_18 dX10_foulCellars_11 ?_
      refine x_iload_n G dX10_foulCellars_14 rfl rfl ?_
      refine x_iald G (ic17 hz) dX10_foulCellars_15 hf (fun hb_2 hf => ?_)
      refine x_ifle G (tgt := 22) dX10_foulCellars_16 (by decide) hf (fun c_3 hf => ?_) (fun c_3 hf => ?_)
      · refine x_iinc G (lv' := [some (.ref (z + 14)), some (.int (v1 + (1 : Int32))), some (.int v2)]) (v := 1) dX10_foulCellars_19 rfl (by decide) rfl rfl rfl ?_
        refine x_iinc G (lv' := [some (.ref (z + 14)), some (.int (v1 + (1 : Int32))), some (.int (v2 + (1 : Int32)))]) (v := 1) dX10_foulCellars_22 rfl (by decide) rfl rfl rfl ?_
        refine x_goto G (tgt := 4) dX10_foulCellars_25 (by decide) ?_
        exact XW.sub (lv' := [some (.ref (z + 14)), some (.int (v1 + (1 : Int32))), some (.int (v2 + (1 : Int32)))]) (And.intro rfl (And.intro rfl (And.intro rfl trivial))) (ih _ _ hf)
      · refine x_iinc G (lv' := [some (.ref (z + 14)), some (.int v1), some (.int (v2 + (1 : Int32)))]) (v := 1) dX10_foulCellars_22 rfl (by decide) rfl rfl rfl ?_
        refine x_goto G (tgt := 4) dX10_foulCellars_25 (by decide) ?_
        exact XW.sub (lv' := [some (.ref (z + 14)), some (.int v1), some (.int (v2 + (1 : Int32)))]) (And.intro rfl (And.intro rfl (And.intro rfl trivial))) (ih _ _ hf)
    · refine x_iload_n G dX10_foulCellars_28 rfl rfl ?_
      exact x_iretP G hf hr dX10_foulCellars_29

set_option maxHeartbeats 4000000 in
set_option maxRecDepth 100000 in
theorem xX10_foulCellars_e {K : KT} {z : Nat} {w : Wd} {r : Int32} (G : GK K cX10_foulCellars RX10 3 1) (M : Main K.ks) (hz : IsCity K.ks z) (hf : fX10_foulCellars z w = some r) (hr : RI K .int r w) : XW K 0 [some (.ref (z + 14)), none, none] [] w := by
  unfold fX10_foulCellars at hf
  refine x_iconst G (v := 0) dX10_foulCellars_0 (by decide) ?_
  refine x_istore_n G (lv' := [some (.ref (z + 14)), some (.int (0 : Int32)), none]) dX10_foulCellars_1 rfl rfl rfl rfl ?_
  refine x_iconst G (v := 0) dX10_foulCellars_2 (by decide) ?_
  refine x_istore_n G (lv' := [some (.ref (z + 14)), some (.int (0 : Int32)), some (.int (0 : Int32))]) dX10_foulCellars_3 rfl rfl rfl rfl ?_
  exact XW.sub (lv' := [some (.ref (z + 14)), some (.int (0 : Int32)), some (.int (0 : Int32))]) (And.intro rfl (And.intro rfl (And.intro rfl trivial))) (xX10_foulCellars_4 G M hz hr FU _ _ hf)

theorem mX10_foulCellars {l : Launch} {S : KS} {w : Wd} (hI : Inj S) (M : Main S) {z : Nat} (hz : IsCity S z) {r : Int32} (hf : fX10_foulCellars z w = some r) : CI l yX10_foulCellars cX10_foulCellars 3 (some .int) 1 S [.ref (z + 14)] w r w := by
  intro sz
  refine mk_entry rfl (by decide +kernel) hI 2 rfl rfl (fun K h1 h2 h3 h4 h5 h6 G => ?_)
  subst h2
  exact xX10_foulCellars_e G M hz hf ⟨h3, by rw [h4, h6], h5⟩

set_option maxHeartbeats 4000000 in
set_option maxRecDepth 100000 in
theorem xX11_isTape_e {K : KT} {v0 : Int32} {w : Wd} {r : Bool} (G : GK K cX11_isTape RX11 1 2) (M : Main K.ks) (hf : fX11_isTape v0 w = some r) (hr : RI K .boolean (bI r) w) : XW K 0 [some (.int v0)] [] w := by
  unfold fX11_isTape at hf
  refine x_iload_n G dX11_isTape_0 rfl rfl ?_
  refine x_iconst G (v := 0) dX11_isTape_1 (by decide) ?_
  refine x_iconst G (v := 5) dX11_isTape_2 (by decide) ?_
  obtain ⟨v_1, hv_1, hf⟩ := bnd hf
  refine x_staI G (As := [.int v0, .int (0 : Int32), .int (5 : Int32)]) (mX11_within G.2.2.2.2.2.2.1 M hv_1) ms_X11_96 rfl rfl rfl rfl rfl dX11_isTape_3 ?_
  exact x_zretP G hf hr dX11_isTape_6

theorem mX11_isTape {l : Launch} {S : KS} {w : Wd} (hI : Inj S) (M : Main S) {v0 : Int32} {r : Bool} (hf : fX11_isTape v0 w = some r) : CI l yX11_isTape cX11_isTape 1 (some .boolean) 2 S [.int v0] w (bI r) w := by
  intro sz
  refine mk_entry rfl (by decide +kernel) hI 0 rfl rfl (fun K h1 h2 h3 h4 h5 h6 G => ?_)
  subst h2
  exact xX11_isTape_e G M hf ⟨h3, by rw [h4, h6], h5⟩

set_option maxHeartbeats 4000000 in
set_option maxRecDepth 100000 in
theorem xX11_refuse_e {K : KT} {v1 : Int32} {w : Wd} {r : Int32 × Wd} (G : GK K cX11_refuse RX11 2 1) (M : Main K.ks) (hf : fX11_refuse v1 w = some r) (hr : RI K .int r.1 r.2) : XW K 0 [some (.ref 0), some (.int v1)] [] w := by
  unfold fX11_refuse at hf
  refine x_aload_n G dX11_refuse_0 rfl rfl ?_
  refine x_dup G dX11_refuse_1 rfl ?_
  refine x_getI G (kd0 M) 7 rfl cl11 rfl wf_X11_54 dX11_refuse_2 ?_
  refine x_iconst G (v := 1) dX11_refuse_5 (by decide) ?_
  refine x_iadd G dX11_refuse_6 ?_
  refine x_putI G (kd0 M) 7 rfl cl11 rfl wf_X11_54 rfl rfl rfl dX11_refuse_7 ?_
  refine nwr hf (fun w_1 hf => ?_)
  refine x_iload_n G dX11_refuse_10 rfl rfl ?_
  exact x_iretW G hf hr dX11_refuse_11

theorem mX11_refuse {l : Launch} {S : KS} {w : Wd} (hI : Inj S) (M : Main S) {v1 : Int32} {r : Int32 × Wd} (hf : fX11_refuse v1 w = some r) : CI l yX11_refuse cX11_refuse 2 (some .int) 1 S [.ref 0, .int v1] w r.1 r.2 := by
  intro sz
  refine mk_entry rfl (by decide +kernel) hI 0 rfl rfl (fun K h1 h2 h3 h4 h5 h6 G => ?_)
  subst h2
  exact xX11_refuse_e G M hf ⟨h3, by rw [h4, h6], h5⟩

set_option maxHeartbeats 4000000 in
set_option maxRecDepth 100000 in
theorem xX11_back_46 {K : KT} {w : Wd} {r : Int32 × Wd} (G : GK K cX11_back RX11 3 7) (M : Main K.ks) (hf : fX11_back_46 w = some r) (hr : RI K .int r.1 r.2) : XW K 46 [some (.ref 0), none, none] [] w := by
  unfold fX11_back_46 at hf
  refine x_aload_n G dX11_back_46 rfl rfl ?_
  refine x_bipush G (v := -12) dX11_back_47 (by decide) ?_
  obtain ⟨v_1, hv_1, hf⟩ := bnd hf
  refine x_virI G (As := [.int (-12 : Int32)]) (mX11_refuse G.2.2.2.2.2.2.1 M hv_1) mv_X11_152 (kd0 M) cl11 rfl rfl rfl rfl rfl dX11_back_49 ?_
  exact x_iretW G hf hr dX11_back_52

set_option maxHeartbeats 4000000 in
set_option maxRecDepth 100000 in
theorem xX11_back_e {K : KT} {v1 : Int32} {w : Wd} {r : Int32 × Wd} (G : GK K cX11_back RX11 3 7) (M : Main K.ks) (hIm : IM K.ks w) (hf : fX11_back v1 w = some r) (hr : RI K .int r.1 r.2) : XW K 0 [some (.ref 0), some (.int v1), none] [] w := by
  unfold fX11_back at hf
  refine x_iload_n G dX11_back_0 rfl rfl ?_
  obtain ⟨v_1, hv_1, hf⟩ := bnd hf
  refine x_staI G (As := [.int v1]) (mX11_isTape G.2.2.2.2.2.2.1 M hv_1) ms_X11_146 rfl rfl rfl rfl rfl dX11_back_1 ?_
  refine x_ifneB G (tgt := 9) dX11_back_4 (by decide) hf (fun c_2 hf => ?_) (fun c_2 hf => ?_)
  · refine x_aload_n G dX11_back_9 rfl rfl ?_
    refine x_getR G (kd0 M) 5 (b := 134) rfl cl11 rfl wf_X11_46 dX11_back_10 ?_
    refine x_iload_n G dX11_back_13 rfl rfl ?_
    refine x_aald G (kd134 M) (kn := 1) (by decide) dX11_back_14 hf (fun hb_3 hf => ?_)
    refine x_astore_n G (lv' := [some (.ref 0), some (.int v1), some (.ref (135 + 2 * (v1).toNatClampNeg))]) dX11_back_15 rfl rfl rfl rfl ?_
    refine x_aload_n G dX11_back_16 rfl rfl ?_
    refine x_getI G (tapeOk M hb_3).1 0 rfl cl8 rfl wf_X11_149 dX11_back_17 ?_
    refine x_ifne G (tgt := 30) dX11_back_20 (by decide) hf (fun c_4 hf => ?_) (fun c_4 hf => ?_)
    · refine x_aload_n G dX11_back_23 rfl rfl ?_
      refine x_bipush G (v := -11) dX11_back_24 (by decide) ?_
      obtain ⟨v_5, hv_5, hf⟩ := bnd hf
      refine x_virI G (As := [.int (-11 : Int32)]) (mX11_refuse G.2.2.2.2.2.2.1 M hv_5) mv_X11_152 (kd0 M) cl11 rfl rfl rfl rfl rfl dX11_back_26 ?_
      exact x_iretW G hf hr dX11_back_29
    · refine x_aload_n G dX11_back_30 rfl rfl ?_
      refine x_getI G (tapeOk M hb_3).1 0 rfl cl8 rfl wf_X11_149 dX11_back_31 ?_
      refine x_bipush G (v := 6) dX11_back_34 (by decide) ?_
      refine x_icmpne G (tgt := 46) dX11_back_36 (by decide) hf (fun c_6 hf => ?_) (fun c_6 hf => ?_)
      · refine x_aload_n G dX11_back_39 rfl rfl ?_
        refine x_getN G (tapeOk M hb_3).1 3 (b := (imZ (135 + 2 * (v1).toNatClampNeg) + 1)) rfl cl8 rfl wf_X11_405 dX11_back_40 hf (fun hn_9 hf => ?_) (fun hn_7 hf => ?_)
        · refine x_ifnonnullN G dX11_back_43 ?_
          exact XW.sub (lv' := [some (.ref 0), none, none]) (And.intro rfl trivial) (xX11_back_46 G M hf hr)
        · refine x_ifnonnullR G (tgt := 53) dX11_back_43 (by decide) ?_
          refine x_aload_n G dX11_back_53 rfl rfl ?_
          refine x_getR G (kd0 M) 0 (b := 1) rfl cl11 rfl wf_X11_10 dX11_back_54 ?_
          refine x_aload_n G dX11_back_57 rfl rfl ?_
          refine x_getNr G (tapeOk M hb_3).1 3 (b := (imZ (135 + 2 * (v1).toNatClampNeg) + 1)) rfl cl8 rfl wf_X11_405 dX11_back_58 hn_7 ?_
          obtain ⟨v_8, hv_8, hf⟩ := bnd hf
          refine x_virV G (As := [.ref (imZ (135 + 2 * (v1).toNatClampNeg) + 1)]) (mX0_become G.2.2.2.2.2.2.1 M M.2 (hIm _ (tapeOk M hb_3) hn_7) hv_8) mv_X11_408 (kd1 M) cl0 rfl rfl rfl rfl rfl dX11_back_61 ?_
          refine x_aload_n G dX11_back_64 rfl rfl ?_
          refine x_getR G (kd0 M) 0 (b := 1) rfl cl11 rfl wf_X11_10 dX11_back_65 ?_
          refine x_getI G (kd1 M) 6 rfl cl0 rfl wf_X11_337 dX11_back_68 ?_
          exact x_iretW G hf hr dX11_back_71
      · exact XW.sub (lv' := [some (.ref 0), none, none]) (And.intro rfl trivial) (xX11_back_46 G M hf hr)
  · refine x_iconst G (v := -1) dX11_back_7 (by decide) ?_
    exact x_iretW G hf hr dX11_back_8

theorem mX11_back {l : Launch} {S : KS} {w : Wd} (hI : Inj S) (M : Main S) {v1 : Int32} (hIm : IM S w) {r : Int32 × Wd} (hf : fX11_back v1 w = some r) : CI l yX11_back cX11_back 3 (some .int) 7 S [.ref 0, .int v1] w r.1 r.2 := by
  intro sz
  refine mk_entry rfl (by decide +kernel) hI 1 rfl rfl (fun K h1 h2 h3 h4 h5 h6 G => ?_)
  subst h2
  exact xX11_back_e G M hIm hf ⟨h3, by rw [h4, h6], h5⟩

set_option maxHeartbeats 4000000 in
set_option maxRecDepth 100000 in
theorem xX11_isLine_e {K : KT} {v1 : Int32} {w : Wd} {r : Bool} (G : GK K cX11_isLine RX11 2 2) (M : Main K.ks) (hf : fX11_isLine v1 w = some r) (hr : RI K .boolean (bI r) w) : XW K 0 [some (.ref 0), some (.int v1)] [] w := by
  unfold fX11_isLine at hf
  refine x_iload_n G dX11_isLine_0 rfl rfl ?_
  refine x_iconst G (v := 0) dX11_isLine_1 (by decide) ?_
  refine x_aload_n G dX11_isLine_2 rfl rfl ?_
  refine x_getR G (kd0 M) 0 (b := 1) rfl cl11 rfl wf_X11_10 dX11_isLine_3 ?_
  refine x_getI G (kd1 M) 5 rfl cl0 rfl wf_X11_217 dX11_isLine_6 ?_
  refine x_iconst G (v := 1) dX11_isLine_9 (by decide) ?_
  refine x_isub G dX11_isLine_10 ?_
  obtain ⟨v_1, hv_1, hf⟩ := bnd hf
  refine x_staI G (As := [.int v1, .int (0 : Int32), .int ((w.1 1 5) - (1 : Int32))]) (mX11_within G.2.2.2.2.2.2.1 M hv_1) ms_X11_96 rfl rfl rfl rfl rfl dX11_isLine_11 ?_
  exact x_zretP G hf hr dX11_isLine_14

theorem mX11_isLine {l : Launch} {S : KS} {w : Wd} (hI : Inj S) (M : Main S) {v1 : Int32} {r : Bool} (hf : fX11_isLine v1 w = some r) : CI l yX11_isLine cX11_isLine 2 (some .boolean) 2 S [.ref 0, .int v1] w (bI r) w := by
  intro sz
  refine mk_entry rfl (by decide +kernel) hI 0 rfl rfl (fun K h1 h2 h3 h4 h5 h6 G => ?_)
  subst h2
  exact xX11_isLine_e G M hf ⟨h3, by rw [h4, h6], h5⟩

set_option maxHeartbeats 4000000 in
set_option maxRecDepth 100000 in
theorem xX11_isOnLine_e {K : KT} {v1 : Int32} {v2 : Int32} {w : Wd} {r : Bool} (G : GK K cX11_isOnLine RX11 3 3) (M : Main K.ks) (hf : fX11_isOnLine v1 v2 w = some r) (hr : RI K .boolean (bI r) w) : XW K 0 [some (.ref 0), some (.int v1), some (.int v2)] [] w := by
  unfold fX11_isOnLine at hf
  refine x_aload_n G dX11_isOnLine_0 rfl rfl ?_
  refine x_iload_n G dX11_isOnLine_1 rfl rfl ?_
  obtain ⟨v_1, hv_1, hf⟩ := bnd hf
  refine x_virI G (As := [.int v1]) (mX11_isLine G.2.2.2.2.2.2.1 M hv_1) mv_X11_230 (kd0 M) cl11 rfl rfl rfl rfl rfl dX11_isOnLine_2 ?_
  refine x_ifeqB G (tgt := 34) dX11_isOnLine_5 (by decide) hf (fun c_2 hf => ?_) (fun c_2 hf => ?_)
  · refine x_iload_n G dX11_isOnLine_8 rfl rfl ?_
    refine x_iconst G (v := 0) dX11_isOnLine_9 (by decide) ?_
    refine x_aload_n G dX11_isOnLine_10 rfl rfl ?_
    refine x_getR G (kd0 M) 0 (b := 1) rfl cl11 rfl wf_X11_10 dX11_isOnLine_11 ?_
    refine x_getR G (kd1 M) 4 (b := 35) rfl cl0 rfl wf_X11_220 dX11_isOnLine_14 ?_
    refine x_iload_n G dX11_isOnLine_17 rfl rfl ?_
    refine x_aald G (kd35 M) (kn := 0) (by decide) dX11_isOnLine_18 hf (fun hb_3 hf => ?_)
    refine x_getI G (lineOkM M hb_3).1 3 rfl cl5 rfl wf_X11_257 dX11_isOnLine_19 ?_
    refine x_iconst G (v := 1) dX11_isOnLine_22 (by decide) ?_
    refine x_isub G dX11_isOnLine_23 ?_
    obtain ⟨v_4, hv_4, hf⟩ := bnd hf
    refine x_staI G (As := [.int v2, .int (0 : Int32), .int ((w.1 (36 + 7 * (v1).toNatClampNeg) 3) - (1 : Int32))]) (mX11_within G.2.2.2.2.2.2.1 M hv_4) ms_X11_96 rfl rfl rfl rfl rfl dX11_isOnLine_24 ?_
    refine x_ifeqB G (tgt := 34) dX11_isOnLine_27 (by decide) hf (fun c_5 hf => ?_) (fun c_5 hf => ?_)
    · refine x_iconst G (v := 1) dX11_isOnLine_30 (by decide) ?_
      refine x_goto G (tgt := 35) dX11_isOnLine_31 (by decide) ?_
      exact x_zretP G hf hr dX11_isOnLine_35
    · refine x_iconst G (v := 0) dX11_isOnLine_34 (by decide) ?_
      exact x_zretP G hf hr dX11_isOnLine_35
  · refine x_iconst G (v := 0) dX11_isOnLine_34 (by decide) ?_
    exact x_zretP G hf hr dX11_isOnLine_35

theorem mX11_isOnLine {l : Launch} {S : KS} {w : Wd} (hI : Inj S) (M : Main S) {v1 : Int32} {v2 : Int32} {r : Bool} (hf : fX11_isOnLine v1 v2 w = some r) : CI l yX11_isOnLine cX11_isOnLine 3 (some .boolean) 3 S [.ref 0, .int v1, .int v2] w (bI r) w := by
  intro sz
  refine mk_entry rfl (by decide +kernel) hI 0 rfl rfl (fun K h1 h2 h3 h4 h5 h6 G => ?_)
  subst h2
  exact xX11_isOnLine_e G M hf ⟨h3, by rw [h4, h6], h5⟩

set_option maxHeartbeats 4000000 in
set_option maxRecDepth 100000 in
theorem xX11_bad_46 {K : KT} {v2 : Int32} {v4 : Nat} {s0 : Int32} {w : Wd} {r : Int32 × Wd} (G : GK K cX11_bad RX11 6 4) (M : Main K.ks) (hv4 : IsLine K.ks v4) (hf : fX11_bad_46 v2 v4 s0 w = some r) (hr : RI K .int r.1 r.2) : XW K 46 [none, none, some (.int v2), none, some (.ref v4), none] [.int s0] w := by
  unfold fX11_bad_46 at hf
  refine x_istore G (lv' := [none, none, some (.int v2), none, some (.ref v4), some (.int s0)]) dX11_bad_46 rfl rfl rfl ?_
  refine x_aload G dX11_bad_48 rfl ?_
  refine x_getR G hv4.1 10 (b := (v4 + 6)) rfl cl5 rfl wf_X11_254 dX11_bad_50 ?_
  refine x_iload_n G dX11_bad_53 rfl rfl ?_
  refine x_iald G hv4.2.2.2.2.2.2 dX11_bad_54 hf (fun hb_1 hf => ?_)
  refine x_iload G dX11_bad_55 rfl ?_
  refine x_icmpne G (tgt := 62) dX11_bad_57 (by decide) hf (fun c_2 hf => ?_) (fun c_2 hf => ?_)
  · refine x_iconst G (v := 0) dX11_bad_60 (by decide) ?_
    exact x_iretW G hf hr dX11_bad_61
  · refine x_aload G dX11_bad_62 rfl ?_
    refine x_getR G hv4.1 10 (b := (v4 + 6)) rfl cl5 rfl wf_X11_254 dX11_bad_64 ?_
    refine x_iload_n G dX11_bad_67 rfl rfl ?_
    refine x_iload G dX11_bad_68 rfl ?_
    refine x_iast0 G hv4.2.2.2.2.2.2 dX11_bad_70 hb_1 ?_
    refine nwr hf (fun w_3 hf => ?_)
    refine x_iconst G (v := 1) dX11_bad_71 (by decide) ?_
    exact x_iretW G hf hr dX11_bad_72

set_option maxHeartbeats 4000000 in
set_option maxRecDepth 100000 in
theorem xX11_bad_e {K : KT} {v1 : Int32} {v2 : Int32} {v3 : Int32} {w : Wd} {r : Int32 × Wd} (G : GK K cX11_bad RX11 6 4) (M : Main K.ks) (hf : fX11_bad v1 v2 v3 w = some r) (hr : RI K .int r.1 r.2) : XW K 0 [some (.ref 0), some (.int v1), some (.int v2), some (.int v3), none, none] [] w := by
  unfold fX11_bad at hf
  refine x_aload_n G dX11_bad_0 rfl rfl ?_
  refine x_iload_n G dX11_bad_1 rfl rfl ?_
  refine x_iload_n G dX11_bad_2 rfl rfl ?_
  obtain ⟨v_1, hv_1, hf⟩ := bnd hf
  refine x_virI G (As := [.int v1, .int v2]) (mX11_isOnLine G.2.2.2.2.2.2.1 M hv_1) mv_X11_235 (kd0 M) cl11 rfl rfl rfl rfl rfl dX11_bad_3 ?_
  refine x_ifneB G (tgt := 11) dX11_bad_6 (by decide) hf (fun c_2 hf => ?_) (fun c_2 hf => ?_)
  · refine x_aload_n G dX11_bad_11 rfl rfl ?_
    refine x_getR G (kd0 M) 0 (b := 1) rfl cl11 rfl wf_X11_10 dX11_bad_12 ?_
    refine x_getR G (kd1 M) 4 (b := 35) rfl cl0 rfl wf_X11_220 dX11_bad_15 ?_
    refine x_iload_n G dX11_bad_18 rfl rfl ?_
    refine x_aald G (kd35 M) (kn := 0) (by decide) dX11_bad_19 hf (fun hb_3 hf => ?_)
    refine x_astore G (lv' := [some (.ref 0), some (.int v1), some (.int v2), some (.int v3), some (.ref (36 + 7 * (v1).toNatClampNeg)), none]) dX11_bad_20 rfl rfl rfl ?_
    refine x_aload G dX11_bad_22 rfl ?_
    refine x_getR G (lineOkM M hb_3).1 8 (b := ((36 + 7 * (v1).toNatClampNeg) + 4)) rfl cl5 rfl wf_X11_248 dX11_bad_24 ?_
    refine x_iload_n G dX11_bad_27 rfl rfl ?_
    refine x_iald G (lineOkM M hb_3).2.2.2.2.1 dX11_bad_28 hf (fun hb_4 hf => ?_)
    refine x_bipush G (v := -9) dX11_bad_29 (by decide) ?_
    refine x_icmpne G (tgt := 37) dX11_bad_31 (by decide) hf (fun c_5 hf => ?_) (fun c_5 hf => ?_)
    · refine x_bipush G (v := -4) dX11_bad_34 (by decide) ?_
      exact x_iretW G hf hr dX11_bad_36
    · refine x_iload_n G dX11_bad_37 rfl rfl ?_
      refine x_ifeq G (tgt := 45) dX11_bad_38 (by decide) hf (fun c_6 hf => ?_) (fun c_6 hf => ?_)
      · refine x_iconst G (v := 0) dX11_bad_45 (by decide) ?_
        exact XW.sub (lv' := [none, none, some (.int v2), none, some (.ref (36 + 7 * (v1).toNatClampNeg)), none]) (And.intro rfl (And.intro rfl trivial)) (xX11_bad_46 G M (lineOkM M hb_3) hf hr)
      · refine x_iconst G (v := 1) dX11_bad_41 (by decide) ?_
        refine x_goto G (tgt := 46) dX11_bad_42 (by decide) ?_
        exact XW.sub (lv' := [none, none, some (.int v2), none, some (.ref (36 + 7 * (v1).toNatClampNeg)), none]) (And.intro rfl (And.intro rfl trivial)) (xX11_bad_46 G M (lineOkM M hb_3) hf hr)
  · refine x_iconst G (v := -1) dX11_bad_9 (by decide) ?_
    exact x_iretW G hf hr dX11_bad_10

theorem mX11_bad {l : Launch} {S : KS} {w : Wd} (hI : Inj S) (M : Main S) {v1 : Int32} {v2 : Int32} {v3 : Int32} {r : Int32 × Wd} (hf : fX11_bad v1 v2 v3 w = some r) : CI l yX11_bad cX11_bad 6 (some .int) 4 S [.ref 0, .int v1, .int v2, .int v3] w r.1 r.2 := by
  intro sz
  refine mk_entry rfl (by decide +kernel) hI 2 rfl rfl (fun K h1 h2 h3 h4 h5 h6 G => ?_)
  subst h2
  exact xX11_bad_e G M hf ⟨h3, by rw [h4, h6], h5⟩

