theorem dX11_kiln_0 : decode cX11_kiln 0 = .ok (.iload_n 1, 1) := by decide +kernel
theorem dX11_kiln_1 : decode cX11_kiln 1 = .ok (.iconst 0, 1) := by decide +kernel
theorem dX11_kiln_2 : decode cX11_kiln 2 = .ok (.sipush 9999, 3) := by decide +kernel
theorem dX11_kiln_5 : decode cX11_kiln 5 = .ok (.invokestatic 96, 3) := by decide +kernel
theorem dX11_kiln_8 : decode cX11_kiln 8 = .ok (.ifCond .ne 5, 3) := by decide +kernel
theorem dX11_kiln_11 : decode cX11_kiln 11 = .ok (.iconst (-1), 1) := by decide +kernel
theorem dX11_kiln_12 : decode cX11_kiln 12 = .ok (.ireturn, 1) := by decide +kernel
theorem dX11_kiln_13 : decode cX11_kiln 13 = .ok (.aload_n 0, 1) := by decide +kernel
theorem dX11_kiln_14 : decode cX11_kiln 14 = .ok (.getfield 10, 3) := by decide +kernel
theorem dX11_kiln_17 : decode cX11_kiln 17 = .ok (.getfield 261, 3) := by decide +kernel
theorem dX11_kiln_20 : decode cX11_kiln 20 = .ok (.istore_n 2, 1) := by decide +kernel
theorem dX11_kiln_21 : decode cX11_kiln 21 = .ok (.aload_n 0, 1) := by decide +kernel
theorem dX11_kiln_22 : decode cX11_kiln 22 = .ok (.getfield 10, 3) := by decide +kernel
theorem dX11_kiln_25 : decode cX11_kiln 25 = .ok (.iload_n 1, 1) := by decide +kernel
theorem dX11_kiln_26 : decode cX11_kiln 26 = .ok (.putfield 261, 3) := by decide +kernel
theorem dX11_kiln_29 : decode cX11_kiln 29 = .ok (.iload_n 2, 1) := by decide +kernel
theorem dX11_kiln_30 : decode cX11_kiln 30 = .ok (.ireturn, 1) := by decide +kernel
theorem dX11_lasts_0 : decode cX11_lasts 0 = .ok (.iload_n 1, 1) := by decide +kernel
theorem dX11_lasts_1 : decode cX11_lasts 1 = .ok (.invokestatic 88, 3) := by decide +kernel
theorem dX11_lasts_4 : decode cX11_lasts 4 = .ok (.ifCond .eq 7, 3) := by decide +kernel
theorem dX11_lasts_7 : decode cX11_lasts 7 = .ok (.iload_n 2, 1) := by decide +kernel
theorem dX11_lasts_8 : decode cX11_lasts 8 = .ok (.ifCond .ge 5, 3) := by decide +kernel
theorem dX11_lasts_11 : decode cX11_lasts 11 = .ok (.iconst (-1), 1) := by decide +kernel
theorem dX11_lasts_12 : decode cX11_lasts 12 = .ok (.ireturn, 1) := by decide +kernel
theorem dX11_lasts_13 : decode cX11_lasts 13 = .ok (.aload_n 0, 1) := by decide +kernel
theorem dX11_lasts_14 : decode cX11_lasts 14 = .ok (.iload_n 1, 1) := by decide +kernel
theorem dX11_lasts_15 : decode cX11_lasts 15 = .ok (.invokevirtual 134, 3) := by decide +kernel
theorem dX11_lasts_18 : decode cX11_lasts 18 = .ok (.i2l, 1) := by decide +kernel
theorem dX11_lasts_19 : decode cX11_lasts 19 = .ok (.aload_n 0, 1) := by decide +kernel
theorem dX11_lasts_20 : decode cX11_lasts 20 = .ok (.getfield 10, 3) := by decide +kernel
theorem dX11_lasts_23 : decode cX11_lasts 23 = .ok (.getfield 116, 3) := by decide +kernel
theorem dX11_lasts_26 : decode cX11_lasts 26 = .ok (.iload_n 1, 1) := by decide +kernel
theorem dX11_lasts_27 : decode cX11_lasts 27 = .ok (.invokevirtual 305, 3) := by decide +kernel
theorem dX11_lasts_30 : decode cX11_lasts 30 = .ok (.lsub, 1) := by decide +kernel
theorem dX11_lasts_31 : decode cX11_lasts 31 = .ok (.lstore_n 3, 1) := by decide +kernel
theorem dX11_lasts_32 : decode cX11_lasts 32 = .ok (.lload_n 3, 1) := by decide +kernel
theorem dX11_lasts_33 : decode cX11_lasts 33 = .ok (.lconst 0, 1) := by decide +kernel
theorem dX11_lasts_34 : decode cX11_lasts 34 = .ok (.lcmp, 1) := by decide +kernel
theorem dX11_lasts_35 : decode cX11_lasts 35 = .ok (.ifCond .gt 5, 3) := by decide +kernel
theorem dX11_lasts_38 : decode cX11_lasts 38 = .ok (.iconst 0, 1) := by decide +kernel
theorem dX11_lasts_39 : decode cX11_lasts 39 = .ok (.ireturn, 1) := by decide +kernel
theorem dX11_lasts_40 : decode cX11_lasts 40 = .ok (.iload_n 2, 1) := by decide +kernel
theorem dX11_lasts_41 : decode cX11_lasts 41 = .ok (.ifCond .ne 10, 3) := by decide +kernel
theorem dX11_lasts_44 : decode cX11_lasts 44 = .ok (.aload_n 0, 1) := by decide +kernel
theorem dX11_lasts_45 : decode cX11_lasts 45 = .ok (.bipush (-16), 2) := by decide +kernel
theorem dX11_lasts_47 : decode cX11_lasts 47 = .ok (.invokevirtual 152, 3) := by decide +kernel
theorem dX11_lasts_50 : decode cX11_lasts 50 = .ok (.ireturn, 1) := by decide +kernel
theorem dX11_lasts_51 : decode cX11_lasts 51 = .ok (.lload_n 3, 1) := by decide +kernel
theorem dX11_lasts_52 : decode cX11_lasts 52 = .ok (.lconst 1, 1) := by decide +kernel
theorem dX11_lasts_53 : decode cX11_lasts 53 = .ok (.lsub, 1) := by decide +kernel
theorem dX11_lasts_54 : decode cX11_lasts 54 = .ok (.iload_n 2, 1) := by decide +kernel
theorem dX11_lasts_55 : decode cX11_lasts 55 = .ok (.i2l, 1) := by decide +kernel
theorem dX11_lasts_56 : decode cX11_lasts 56 = .ok (.ldiv, 1) := by decide +kernel
theorem dX11_lasts_57 : decode cX11_lasts 57 = .ok (.lconst 1, 1) := by decide +kernel
theorem dX11_lasts_58 : decode cX11_lasts 58 = .ok (.ladd, 1) := by decide +kernel
theorem dX11_lasts_59 : decode cX11_lasts 59 = .ok (.l2i, 1) := by decide +kernel
theorem dX11_lasts_60 : decode cX11_lasts 60 = .ok (.ireturn, 1) := by decide +kernel
theorem dX11_law_0 : decode cX11_law 0 = .ok (.iload_n 1, 1) := by decide +kernel
theorem dX11_law_1 : decode cX11_law 1 = .ok (.iconst 0, 1) := by decide +kernel
theorem dX11_law_2 : decode cX11_law 2 = .ok (.iconst 2, 1) := by decide +kernel
theorem dX11_law_3 : decode cX11_law 3 = .ok (.invokestatic 96, 3) := by decide +kernel
theorem dX11_law_6 : decode cX11_law 6 = .ok (.ifCond .eq 21, 3) := by decide +kernel
theorem dX11_law_9 : decode cX11_law 9 = .ok (.iload_n 2, 1) := by decide +kernel
theorem dX11_law_10 : decode cX11_law 10 = .ok (.iconst 0, 1) := by decide +kernel
theorem dX11_law_11 : decode cX11_law 11 = .ok (.sipush 4999, 3) := by decide +kernel
theorem dX11_law_14 : decode cX11_law 14 = .ok (.invokestatic 96, 3) := by decide +kernel
theorem dX11_law_17 : decode cX11_law 17 = .ok (.ifCond .eq 10, 3) := by decide +kernel
theorem dX11_law_20 : decode cX11_law 20 = .ok (.iload_n 3, 1) := by decide +kernel
theorem dX11_law_21 : decode cX11_law 21 = .ok (.invokestatic 146, 3) := by decide +kernel
theorem dX11_law_24 : decode cX11_law 24 = .ok (.ifCond .ne 5, 3) := by decide +kernel
theorem dX11_law_27 : decode cX11_law 27 = .ok (.iconst (-1), 1) := by decide +kernel
theorem dX11_law_28 : decode cX11_law 28 = .ok (.ireturn, 1) := by decide +kernel
theorem dX11_law_29 : decode cX11_law 29 = .ok (.iload_n 2, 1) := by decide +kernel
theorem dX11_law_30 : decode cX11_law 30 = .ok (.aload_n 0, 1) := by decide +kernel
theorem dX11_law_31 : decode cX11_law 31 = .ok (.getfield 10, 3) := by decide +kernel
theorem dX11_law_34 : decode cX11_law 34 = .ok (.invokevirtual 190, 3) := by decide +kernel
theorem dX11_law_37 : decode cX11_law 37 = .ok (.if_icmp .ge 6, 3) := by decide +kernel
theorem dX11_law_40 : decode cX11_law 40 = .ok (.bipush (-4), 2) := by decide +kernel
theorem dX11_law_42 : decode cX11_law 42 = .ok (.ireturn, 1) := by decide +kernel
theorem dX11_law_43 : decode cX11_law 43 = .ok (.aload_n 0, 1) := by decide +kernel
theorem dX11_law_44 : decode cX11_law 44 = .ok (.getfield 46, 3) := by decide +kernel
theorem dX11_law_47 : decode cX11_law 47 = .ok (.iload_n 3, 1) := by decide +kernel
theorem dX11_law_48 : decode cX11_law 48 = .ok (.aaload, 1) := by decide +kernel
theorem dX11_law_49 : decode cX11_law 49 = .ok (.astore 4, 2) := by decide +kernel
theorem dX11_law_51 : decode cX11_law 51 = .ok (.aload 4, 2) := by decide +kernel
theorem dX11_law_53 : decode cX11_law 53 = .ok (.getfield 149, 3) := by decide +kernel
theorem dX11_law_56 : decode cX11_law 56 = .ok (.ifCond .ne 10, 3) := by decide +kernel
theorem dX11_law_59 : decode cX11_law 59 = .ok (.aload_n 0, 1) := by decide +kernel
theorem dX11_law_60 : decode cX11_law 60 = .ok (.bipush (-11), 2) := by decide +kernel
theorem dX11_law_62 : decode cX11_law 62 = .ok (.invokevirtual 152, 3) := by decide +kernel
theorem dX11_law_65 : decode cX11_law 65 = .ok (.ireturn, 1) := by decide +kernel
theorem dX11_law_66 : decode cX11_law 66 = .ok (.aload 4, 2) := by decide +kernel
theorem dX11_law_68 : decode cX11_law 68 = .ok (.getfield 149, 3) := by decide +kernel
theorem dX11_law_71 : decode cX11_law 71 = .ok (.iconst 1, 1) := by decide +kernel
theorem dX11_law_72 : decode cX11_law 72 = .ok (.if_icmp .eq 10, 3) := by decide +kernel
theorem dX11_law_75 : decode cX11_law 75 = .ok (.aload_n 0, 1) := by decide +kernel
theorem dX11_law_76 : decode cX11_law 76 = .ok (.bipush (-12), 2) := by decide +kernel
theorem dX11_law_78 : decode cX11_law 78 = .ok (.invokevirtual 152, 3) := by decide +kernel
theorem dX11_law_81 : decode cX11_law 81 = .ok (.ireturn, 1) := by decide +kernel
theorem dX11_law_82 : decode cX11_law 82 = .ok (.aload_n 0, 1) := by decide +kernel
theorem dX11_law_83 : decode cX11_law 83 = .ok (.getfield 40, 3) := by decide +kernel
theorem dX11_law_86 : decode cX11_law 86 = .ok (.aload 4, 2) := by decide +kernel
theorem dX11_law_88 : decode cX11_law 88 = .ok (.invokevirtual 366, 3) := by decide +kernel
theorem dX11_law_91 : decode cX11_law 91 = .ok (.istore 5, 2) := by decide +kernel
theorem dX11_law_93 : decode cX11_law 93 = .ok (.iload 5, 2) := by decide +kernel
theorem dX11_law_95 : decode cX11_law 95 = .ok (.ifCond .lt 9, 3) := by decide +kernel
theorem dX11_law_98 : decode cX11_law 98 = .ok (.bipush (-100), 2) := by decide +kernel
theorem dX11_law_100 : decode cX11_law 100 = .ok (.iload 5, 2) := by decide +kernel
theorem dX11_law_102 : decode cX11_law 102 = .ok (.isub, 1) := by decide +kernel
theorem dX11_law_103 : decode cX11_law 103 = .ok (.ireturn, 1) := by decide +kernel
theorem dX11_law_104 : decode cX11_law 104 = .ok (.aload_n 0, 1) := by decide +kernel
theorem dX11_law_105 : decode cX11_law 105 = .ok (.getfield 40, 3) := by decide +kernel
theorem dX11_law_108 : decode cX11_law 108 = .ok (.getfield 75, 3) := by decide +kernel
theorem dX11_law_111 : decode cX11_law 111 = .ok (.bipush 20, 2) := by decide +kernel
theorem dX11_law_113 : decode cX11_law 113 = .ok (.if_icmp .ge 13, 3) := by decide +kernel
theorem dX11_law_116 : decode cX11_law 116 = .ok (.aload 4, 2) := by decide +kernel
theorem dX11_law_118 : decode cX11_law 118 = .ok (.getfield 155, 3) := by decide +kernel
theorem dX11_law_121 : decode cX11_law 121 = .ok (.bipush 60, 2) := by decide +kernel
theorem dX11_law_123 : decode cX11_law 123 = .ok (.if_icmp .le 6, 3) := by decide +kernel
theorem dX11_law_126 : decode cX11_law 126 = .ok (.bipush (-2), 2) := by decide +kernel
theorem dX11_law_128 : decode cX11_law 128 = .ok (.ireturn, 1) := by decide +kernel
theorem dX11_law_129 : decode cX11_law 129 = .ok (.aload_n 0, 1) := by decide +kernel
theorem dX11_law_130 : decode cX11_law 130 = .ok (.getfield 40, 3) := by decide +kernel
theorem dX11_law_133 : decode cX11_law 133 = .ok (.iload_n 1, 1) := by decide +kernel
theorem dX11_law_134 : decode cX11_law 134 = .ok (.iload_n 2, 1) := by decide +kernel
theorem dX11_law_135 : decode cX11_law 135 = .ok (.invokevirtual 370, 3) := by decide +kernel
theorem dX11_law_138 : decode cX11_law 138 = .ok (.ireturn, 1) := by decide +kernel
theorem dX11_lift_0 : decode cX11_lift 0 = .ok (.iload_n 1, 1) := by decide +kernel
theorem dX11_lift_1 : decode cX11_lift 1 = .ok (.invokestatic 88, 3) := by decide +kernel
theorem dX11_lift_4 : decode cX11_lift 4 = .ok (.ifCond .eq 33, 3) := by decide +kernel
theorem dX11_lift_7 : decode cX11_lift 7 = .ok (.iload_n 2, 1) := by decide +kernel
theorem dX11_lift_8 : decode cX11_lift 8 = .ok (.invokestatic 88, 3) := by decide +kernel
theorem dX11_lift_11 : decode cX11_lift 11 = .ok (.ifCond .eq 26, 3) := by decide +kernel
theorem dX11_lift_14 : decode cX11_lift 14 = .ok (.iload_n 3, 1) := by decide +kernel
theorem dX11_lift_15 : decode cX11_lift 15 = .ok (.iconst 1, 1) := by decide +kernel
theorem dX11_lift_16 : decode cX11_lift 16 = .ok (.sipush 9999, 3) := by decide +kernel
theorem dX11_lift_19 : decode cX11_lift 19 = .ok (.invokestatic 96, 3) := by decide +kernel
theorem dX11_lift_22 : decode cX11_lift 22 = .ok (.ifCond .eq 15, 3) := by decide +kernel
theorem dX11_lift_25 : decode cX11_lift 25 = .ok (.iload 4, 2) := by decide +kernel
theorem dX11_lift_27 : decode cX11_lift 27 = .ok (.iconst 0, 1) := by decide +kernel
theorem dX11_lift_28 : decode cX11_lift 28 = .ok (.sipush 9999, 3) := by decide +kernel
theorem dX11_lift_31 : decode cX11_lift 31 = .ok (.invokestatic 96, 3) := by decide +kernel
theorem dX11_lift_34 : decode cX11_lift 34 = .ok (.ifCond .ne 5, 3) := by decide +kernel
theorem dX11_lift_37 : decode cX11_lift 37 = .ok (.iconst (-1), 1) := by decide +kernel
theorem dX11_lift_38 : decode cX11_lift 38 = .ok (.ireturn, 1) := by decide +kernel
theorem dX11_lift_39 : decode cX11_lift 39 = .ok (.iload_n 2, 1) := by decide +kernel
theorem dX11_lift_40 : decode cX11_lift 40 = .ok (.iload_n 1, 1) := by decide +kernel
theorem dX11_lift_41 : decode cX11_lift 41 = .ok (.if_icmp .ne 5, 3) := by decide +kernel
theorem dX11_lift_44 : decode cX11_lift 44 = .ok (.iconst (-1), 1) := by decide +kernel
theorem dX11_lift_45 : decode cX11_lift 45 = .ok (.ireturn, 1) := by decide +kernel
theorem dX11_lift_46 : decode cX11_lift 46 = .ok (.aload_n 0, 1) := by decide +kernel
theorem dX11_lift_47 : decode cX11_lift 47 = .ok (.getfield 10, 3) := by decide +kernel
theorem dX11_lift_50 : decode cX11_lift 50 = .ok (.getfield 278, 3) := by decide +kernel
theorem dX11_lift_53 : decode cX11_lift 53 = .ok (.astore 5, 2) := by decide +kernel
theorem dX11_lift_55 : decode cX11_lift 55 = .ok (.aload 5, 2) := by decide +kernel
theorem dX11_lift_57 : decode cX11_lift 57 = .ok (.getfield 282, 3) := by decide +kernel
theorem dX11_lift_60 : decode cX11_lift 60 = .ok (.iload_n 1, 1) := by decide +kernel
theorem dX11_lift_61 : decode cX11_lift 61 = .ok (.iaload, 1) := by decide +kernel
theorem dX11_lift_62 : decode cX11_lift 62 = .ok (.iconst 2, 1) := by decide +kernel
theorem dX11_lift_63 : decode cX11_lift 63 = .ok (.if_icmp .ne 6, 3) := by decide +kernel
theorem dX11_lift_66 : decode cX11_lift 66 = .ok (.bipush (-3), 2) := by decide +kernel
theorem dX11_lift_68 : decode cX11_lift 68 = .ok (.ireturn, 1) := by decide +kernel
theorem dX11_lift_69 : decode cX11_lift 69 = .ok (.aload 5, 2) := by decide +kernel
theorem dX11_lift_71 : decode cX11_lift 71 = .ok (.iload_n 1, 1) := by decide +kernel
theorem dX11_lift_72 : decode cX11_lift 72 = .ok (.invokevirtual 287, 3) := by decide +kernel
theorem dX11_lift_75 : decode cX11_lift 75 = .ok (.bipush 12, 2) := by decide +kernel
theorem dX11_lift_77 : decode cX11_lift 77 = .ok (.if_icmp .lt 6, 3) := by decide +kernel
theorem dX11_lift_80 : decode cX11_lift 80 = .ok (.bipush (-2), 2) := by decide +kernel
theorem dX11_lift_82 : decode cX11_lift 82 = .ok (.ireturn, 1) := by decide +kernel
theorem dX11_lift_83 : decode cX11_lift 83 = .ok (.aload 5, 2) := by decide +kernel
theorem dX11_lift_85 : decode cX11_lift 85 = .ok (.getfield 282, 3) := by decide +kernel
theorem dX11_lift_88 : decode cX11_lift 88 = .ok (.iload_n 1, 1) := by decide +kernel
theorem dX11_lift_89 : decode cX11_lift 89 = .ok (.iconst 1, 1) := by decide +kernel
theorem dX11_lift_90 : decode cX11_lift 90 = .ok (.iastore, 1) := by decide +kernel
theorem dX11_lift_91 : decode cX11_lift 91 = .ok (.aload 5, 2) := by decide +kernel
theorem dX11_lift_93 : decode cX11_lift 93 = .ok (.getfield 290, 3) := by decide +kernel
theorem dX11_lift_96 : decode cX11_lift 96 = .ok (.iload_n 1, 1) := by decide +kernel
theorem dX11_lift_97 : decode cX11_lift 97 = .ok (.iload_n 2, 1) := by decide +kernel
theorem dX11_lift_98 : decode cX11_lift 98 = .ok (.iastore, 1) := by decide +kernel
theorem dX11_lift_99 : decode cX11_lift 99 = .ok (.aload 5, 2) := by decide +kernel
theorem dX11_lift_101 : decode cX11_lift 101 = .ok (.getfield 293, 3) := by decide +kernel
theorem dX11_lift_104 : decode cX11_lift 104 = .ok (.iload_n 1, 1) := by decide +kernel
theorem dX11_lift_105 : decode cX11_lift 105 = .ok (.iload_n 3, 1) := by decide +kernel
theorem dX11_lift_106 : decode cX11_lift 106 = .ok (.iastore, 1) := by decide +kernel
theorem dX11_lift_107 : decode cX11_lift 107 = .ok (.aload 5, 2) := by decide +kernel
theorem dX11_lift_109 : decode cX11_lift 109 = .ok (.getfield 296, 3) := by decide +kernel
theorem dX11_lift_112 : decode cX11_lift 112 = .ok (.iload_n 1, 1) := by decide +kernel
theorem dX11_lift_113 : decode cX11_lift 113 = .ok (.iload 4, 2) := by decide +kernel
theorem dX11_lift_115 : decode cX11_lift 115 = .ok (.iastore, 1) := by decide +kernel
theorem dX11_lift_116 : decode cX11_lift 116 = .ok (.aload 5, 2) := by decide +kernel
theorem dX11_lift_118 : decode cX11_lift 118 = .ok (.getfield 299, 3) := by decide +kernel
theorem dX11_lift_121 : decode cX11_lift 121 = .ok (.iload_n 1, 1) := by decide +kernel
theorem dX11_lift_122 : decode cX11_lift 122 = .ok (.iconst 0, 1) := by decide +kernel
theorem dX11_lift_123 : decode cX11_lift 123 = .ok (.iastore, 1) := by decide +kernel
theorem dX11_lift_124 : decode cX11_lift 124 = .ok (.iconst 0, 1) := by decide +kernel
theorem dX11_lift_125 : decode cX11_lift 125 = .ok (.ireturn, 1) := by decide +kernel
theorem dX11_map_0 : decode cX11_map 0 = .ok (.iload_n 1, 1) := by decide +kernel
theorem dX11_map_1 : decode cX11_map 1 = .ok (.invokestatic 88, 3) := by decide +kernel
theorem dX11_map_4 : decode cX11_map 4 = .ok (.ifCond .eq 22, 3) := by decide +kernel
theorem dX11_map_7 : decode cX11_map 7 = .ok (.iload_n 1, 1) := by decide +kernel
theorem dX11_map_8 : decode cX11_map 8 = .ok (.iload_n 2, 1) := by decide +kernel
theorem dX11_map_9 : decode cX11_map 9 = .ok (.invokestatic 170, 3) := by decide +kernel
theorem dX11_map_12 : decode cX11_map 12 = .ok (.ifCond .eq 14, 3) := by decide +kernel
theorem dX11_map_15 : decode cX11_map 15 = .ok (.iload_n 3, 1) := by decide +kernel
theorem dX11_map_16 : decode cX11_map 16 = .ok (.iconst 0, 1) := by decide +kernel
theorem dX11_map_17 : decode cX11_map 17 = .ok (.sipush 300, 3) := by decide +kernel
theorem dX11_map_20 : decode cX11_map 20 = .ok (.invokestatic 96, 3) := by decide +kernel
theorem dX11_map_23 : decode cX11_map 23 = .ok (.ifCond .ne 5, 3) := by decide +kernel
theorem dX11_map_26 : decode cX11_map 26 = .ok (.iconst (-1), 1) := by decide +kernel
theorem dX11_map_27 : decode cX11_map 27 = .ok (.ireturn, 1) := by decide +kernel
theorem dX11_map_28 : decode cX11_map 28 = .ok (.aload_n 0, 1) := by decide +kernel
theorem dX11_map_29 : decode cX11_map 29 = .ok (.getfield 10, 3) := by decide +kernel
theorem dX11_map_32 : decode cX11_map 32 = .ok (.getfield 183, 3) := by decide +kernel
theorem dX11_map_35 : decode cX11_map 35 = .ok (.getfield 187, 3) := by decide +kernel
theorem dX11_map_38 : decode cX11_map 38 = .ok (.sipush 200, 3) := by decide +kernel
theorem dX11_map_41 : decode cX11_map 41 = .ok (.if_icmp .lt 6, 3) := by decide +kernel
theorem dX11_map_44 : decode cX11_map 44 = .ok (.bipush (-2), 2) := by decide +kernel
theorem dX11_map_46 : decode cX11_map 46 = .ok (.ireturn, 1) := by decide +kernel
theorem dX11_map_47 : decode cX11_map 47 = .ok (.aload_n 0, 1) := by decide +kernel
theorem dX11_map_48 : decode cX11_map 48 = .ok (.getfield 10, 3) := by decide +kernel
theorem dX11_map_51 : decode cX11_map 51 = .ok (.getfield 183, 3) := by decide +kernel
theorem dX11_map_54 : decode cX11_map 54 = .ok (.iload_n 1, 1) := by decide +kernel
theorem dX11_map_55 : decode cX11_map 55 = .ok (.iload_n 2, 1) := by decide +kernel
theorem dX11_map_56 : decode cX11_map 56 = .ok (.iload_n 3, 1) := by decide +kernel
theorem dX11_map_57 : decode cX11_map 57 = .ok (.aload_n 0, 1) := by decide +kernel
theorem dX11_map_58 : decode cX11_map 58 = .ok (.getfield 10, 3) := by decide +kernel
theorem dX11_map_61 : decode cX11_map 61 = .ok (.invokevirtual 190, 3) := by decide +kernel
theorem dX11_map_64 : decode cX11_map 64 = .ok (.invokevirtual 194, 3) := by decide +kernel
theorem dX11_map_67 : decode cX11_map 67 = .ok (.aload_n 0, 1) := by decide +kernel
theorem dX11_map_68 : decode cX11_map 68 = .ok (.getfield 10, 3) := by decide +kernel
theorem dX11_map_71 : decode cX11_map 71 = .ok (.getfield 183, 3) := by decide +kernel
theorem dX11_map_74 : decode cX11_map 74 = .ok (.getfield 187, 3) := by decide +kernel
theorem dX11_map_77 : decode cX11_map 77 = .ok (.ireturn, 1) := by decide +kernel
theorem dX11_mapOf_0 : decode cX11_mapOf 0 = .ok (.iload_n 1, 1) := by decide +kernel
theorem dX11_mapOf_1 : decode cX11_mapOf 1 = .ok (.invokestatic 88, 3) := by decide +kernel
theorem dX11_mapOf_4 : decode cX11_mapOf 4 = .ok (.ifCond .eq 23, 3) := by decide +kernel
theorem dX11_mapOf_7 : decode cX11_mapOf 7 = .ok (.iload_n 2, 1) := by decide +kernel
theorem dX11_mapOf_8 : decode cX11_mapOf 8 = .ok (.iconst 0, 1) := by decide +kernel
theorem dX11_mapOf_9 : decode cX11_mapOf 9 = .ok (.iconst 1, 1) := by decide +kernel
theorem dX11_mapOf_10 : decode cX11_mapOf 10 = .ok (.invokestatic 96, 3) := by decide +kernel
theorem dX11_mapOf_13 : decode cX11_mapOf 13 = .ok (.ifCond .eq 14, 3) := by decide +kernel
theorem dX11_mapOf_16 : decode cX11_mapOf 16 = .ok (.iload_n 3, 1) := by decide +kernel
theorem dX11_mapOf_17 : decode cX11_mapOf 17 = .ok (.iconst 0, 1) := by decide +kernel
theorem dX11_mapOf_18 : decode cX11_mapOf 18 = .ok (.sipush 4999, 3) := by decide +kernel
theorem dX11_mapOf_21 : decode cX11_mapOf 21 = .ok (.invokestatic 96, 3) := by decide +kernel
theorem dX11_mapOf_24 : decode cX11_mapOf 24 = .ok (.ifCond .ne 5, 3) := by decide +kernel
theorem dX11_mapOf_27 : decode cX11_mapOf 27 = .ok (.iconst (-1), 1) := by decide +kernel
theorem dX11_mapOf_28 : decode cX11_mapOf 28 = .ok (.ireturn, 1) := by decide +kernel
theorem dX11_mapOf_29 : decode cX11_mapOf 29 = .ok (.aload_n 0, 1) := by decide +kernel
theorem dX11_mapOf_30 : decode cX11_mapOf 30 = .ok (.getfield 10, 3) := by decide +kernel
theorem dX11_mapOf_33 : decode cX11_mapOf 33 = .ok (.getfield 183, 3) := by decide +kernel
theorem dX11_mapOf_36 : decode cX11_mapOf 36 = .ok (.iload_n 1, 1) := by decide +kernel
theorem dX11_mapOf_37 : decode cX11_mapOf 37 = .ok (.iload_n 3, 1) := by decide +kernel
theorem dX11_mapOf_38 : decode cX11_mapOf 38 = .ok (.invokevirtual 198, 3) := by decide +kernel
theorem dX11_mapOf_41 : decode cX11_mapOf 41 = .ok (.istore 4, 2) := by decide +kernel
theorem dX11_mapOf_43 : decode cX11_mapOf 43 = .ok (.iload 4, 2) := by decide +kernel
theorem dX11_mapOf_45 : decode cX11_mapOf 45 = .ok (.ifCond .ge 6, 3) := by decide +kernel
theorem dX11_mapOf_48 : decode cX11_mapOf 48 = .ok (.bipush (-9), 2) := by decide +kernel
theorem dX11_mapOf_50 : decode cX11_mapOf 50 = .ok (.ireturn, 1) := by decide +kernel
theorem dX11_mapOf_51 : decode cX11_mapOf 51 = .ok (.iload_n 2, 1) := by decide +kernel
theorem dX11_mapOf_52 : decode cX11_mapOf 52 = .ok (.ifCond .ne 19, 3) := by decide +kernel
theorem dX11_mapOf_55 : decode cX11_mapOf 55 = .ok (.aload_n 0, 1) := by decide +kernel
theorem dX11_mapOf_56 : decode cX11_mapOf 56 = .ok (.getfield 10, 3) := by decide +kernel
theorem dX11_mapOf_59 : decode cX11_mapOf 59 = .ok (.getfield 183, 3) := by decide +kernel
theorem dX11_mapOf_62 : decode cX11_mapOf 62 = .ok (.getfield 201, 3) := by decide +kernel
theorem dX11_mapOf_65 : decode cX11_mapOf 65 = .ok (.iload 4, 2) := by decide +kernel
theorem dX11_mapOf_67 : decode cX11_mapOf 67 = .ok (.iaload, 1) := by decide +kernel
theorem dX11_mapOf_68 : decode cX11_mapOf 68 = .ok (.goto 16, 3) := by decide +kernel
theorem dX11_mapOf_71 : decode cX11_mapOf 71 = .ok (.aload_n 0, 1) := by decide +kernel
theorem dX11_mapOf_72 : decode cX11_mapOf 72 = .ok (.getfield 10, 3) := by decide +kernel
theorem dX11_mapOf_75 : decode cX11_mapOf 75 = .ok (.getfield 183, 3) := by decide +kernel
theorem dX11_mapOf_78 : decode cX11_mapOf 78 = .ok (.getfield 202, 3) := by decide +kernel
theorem dX11_mapOf_81 : decode cX11_mapOf 81 = .ok (.iload 4, 2) := by decide +kernel
theorem dX11_mapOf_83 : decode cX11_mapOf 83 = .ok (.iaload, 1) := by decide +kernel
theorem dX11_mapOf_84 : decode cX11_mapOf 84 = .ok (.ireturn, 1) := by decide +kernel
theorem dX11_mostOf_0 : decode cX11_mostOf 0 = .ok (.iload_n 0, 1) := by decide +kernel
theorem dX11_mostOf_1 : decode cX11_mostOf 1 = .ok (.tableswitch 44 0 3 #[31, 35, 37, 41], 31) := by decide +kernel
theorem dX11_mostOf_32 : decode cX11_mostOf 32 = .ok (.sipush 300, 3) := by decide +kernel
theorem dX11_mostOf_35 : decode cX11_mostOf 35 = .ok (.ireturn, 1) := by decide +kernel
theorem dX11_mostOf_36 : decode cX11_mostOf 36 = .ok (.iconst 3, 1) := by decide +kernel
theorem dX11_mostOf_37 : decode cX11_mostOf 37 = .ok (.ireturn, 1) := by decide +kernel
theorem dX11_mostOf_38 : decode cX11_mostOf 38 = .ok (.sipush 9999, 3) := by decide +kernel
theorem dX11_mostOf_41 : decode cX11_mostOf 41 = .ok (.ireturn, 1) := by decide +kernel
theorem dX11_mostOf_42 : decode cX11_mostOf 42 = .ok (.bipush 99, 2) := by decide +kernel
theorem dX11_mostOf_44 : decode cX11_mostOf 44 = .ok (.ireturn, 1) := by decide +kernel
theorem dX11_mostOf_45 : decode cX11_mostOf 45 = .ok (.iconst 1, 1) := by decide +kernel
theorem dX11_mostOf_46 : decode cX11_mostOf 46 = .ok (.ireturn, 1) := by decide +kernel
theorem dX11_old_0 : decode cX11_old 0 = .ok (.iload_n 1, 1) := by decide +kernel
theorem dX11_old_1 : decode cX11_old 1 = .ok (.invokestatic 88, 3) := by decide +kernel
theorem dX11_old_4 : decode cX11_old 4 = .ok (.ifCond .eq 11, 3) := by decide +kernel
theorem dX11_old_7 : decode cX11_old 7 = .ok (.iload_n 1, 1) := by decide +kernel
theorem dX11_old_8 : decode cX11_old 8 = .ok (.iload_n 2, 1) := by decide +kernel
theorem dX11_old_9 : decode cX11_old 9 = .ok (.invokestatic 170, 3) := by decide +kernel
theorem dX11_old_12 : decode cX11_old 12 = .ok (.ifCond .ne 5, 3) := by decide +kernel
theorem dX11_old_15 : decode cX11_old 15 = .ok (.iconst (-1), 1) := by decide +kernel
theorem dX11_old_16 : decode cX11_old 16 = .ok (.ireturn, 1) := by decide +kernel
theorem dX11_old_17 : decode cX11_old 17 = .ok (.iload_n 3, 1) := by decide +kernel
theorem dX11_old_18 : decode cX11_old 18 = .ok (.iconst 0, 1) := by decide +kernel
theorem dX11_old_19 : decode cX11_old 19 = .ok (.sipush 300, 3) := by decide +kernel
theorem dX11_old_22 : decode cX11_old 22 = .ok (.invokestatic 96, 3) := by decide +kernel
theorem dX11_old_25 : decode cX11_old 25 = .ok (.ifCond .eq 14, 3) := by decide +kernel
theorem dX11_old_28 : decode cX11_old 28 = .ok (.iload 4, 2) := by decide +kernel
theorem dX11_old_30 : decode cX11_old 30 = .ok (.iconst 0, 1) := by decide +kernel
theorem dX11_old_31 : decode cX11_old 31 = .ok (.bipush 9, 2) := by decide +kernel
theorem dX11_old_33 : decode cX11_old 33 = .ok (.invokestatic 96, 3) := by decide +kernel
theorem dX11_old_36 : decode cX11_old 36 = .ok (.ifCond .ne 5, 3) := by decide +kernel
theorem dX11_old_39 : decode cX11_old 39 = .ok (.iconst (-1), 1) := by decide +kernel
theorem dX11_old_40 : decode cX11_old 40 = .ok (.ireturn, 1) := by decide +kernel
theorem dX11_old_41 : decode cX11_old 41 = .ok (.aload_n 0, 1) := by decide +kernel
theorem dX11_old_42 : decode cX11_old 42 = .ok (.getfield 10, 3) := by decide +kernel
theorem dX11_old_45 : decode cX11_old 45 = .ok (.getfield 78, 3) := by decide +kernel
theorem dX11_old_48 : decode cX11_old 48 = .ok (.getfield 174, 3) := by decide +kernel
theorem dX11_old_51 : decode cX11_old 51 = .ok (.iload_n 1, 1) := by decide +kernel
theorem dX11_old_52 : decode cX11_old 52 = .ok (.iload_n 2, 1) := by decide +kernel
theorem dX11_old_53 : decode cX11_old 53 = .ok (.iastore, 1) := by decide +kernel
theorem dX11_old_54 : decode cX11_old 54 = .ok (.aload_n 0, 1) := by decide +kernel
theorem dX11_old_55 : decode cX11_old 55 = .ok (.getfield 10, 3) := by decide +kernel
theorem dX11_old_58 : decode cX11_old 58 = .ok (.getfield 78, 3) := by decide +kernel
theorem dX11_old_61 : decode cX11_old 61 = .ok (.getfield 177, 3) := by decide +kernel
theorem dX11_old_64 : decode cX11_old 64 = .ok (.iload_n 1, 1) := by decide +kernel
theorem dX11_old_65 : decode cX11_old 65 = .ok (.iload_n 3, 1) := by decide +kernel
theorem dX11_old_66 : decode cX11_old 66 = .ok (.iastore, 1) := by decide +kernel
theorem dX11_old_67 : decode cX11_old 67 = .ok (.aload_n 0, 1) := by decide +kernel
theorem dX11_old_68 : decode cX11_old 68 = .ok (.getfield 10, 3) := by decide +kernel
theorem dX11_old_71 : decode cX11_old 71 = .ok (.getfield 78, 3) := by decide +kernel
theorem dX11_old_74 : decode cX11_old 74 = .ok (.getfield 180, 3) := by decide +kernel
theorem dX11_old_77 : decode cX11_old 77 = .ok (.iload_n 1, 1) := by decide +kernel
theorem dX11_old_78 : decode cX11_old 78 = .ok (.iload 4, 2) := by decide +kernel
theorem dX11_old_80 : decode cX11_old 80 = .ok (.iastore, 1) := by decide +kernel
theorem dX11_old_81 : decode cX11_old 81 = .ok (.iconst 0, 1) := by decide +kernel
theorem dX11_old_82 : decode cX11_old 82 = .ok (.ireturn, 1) := by decide +kernel
theorem dX11_spillTank_0 : decode cX11_spillTank 0 = .ok (.aload_n 0, 1) := by decide +kernel
theorem dX11_spillTank_1 : decode cX11_spillTank 1 = .ok (.getfield 10, 3) := by decide +kernel
theorem dX11_spillTank_4 : decode cX11_spillTank 4 = .ok (.getfield 278, 3) := by decide +kernel
theorem dX11_spillTank_7 : decode cX11_spillTank 7 = .ok (.astore_n 2, 1) := by decide +kernel
theorem dX11_spillTank_8 : decode cX11_spillTank 8 = .ok (.aload_n 2, 1) := by decide +kernel
theorem dX11_spillTank_9 : decode cX11_spillTank 9 = .ok (.getfield 322, 3) := by decide +kernel
theorem dX11_spillTank_12 : decode cX11_spillTank 12 = .ok (.iload_n 1, 1) := by decide +kernel
theorem dX11_spillTank_13 : decode cX11_spillTank 13 = .ok (.iaload, 1) := by decide +kernel
theorem dX11_spillTank_14 : decode cX11_spillTank 14 = .ok (.aload_n 2, 1) := by decide +kernel
theorem dX11_spillTank_15 : decode cX11_spillTank 15 = .ok (.getfield 325, 3) := by decide +kernel
theorem dX11_spillTank_18 : decode cX11_spillTank 18 = .ok (.iload_n 1, 1) := by decide +kernel
theorem dX11_spillTank_19 : decode cX11_spillTank 19 = .ok (.iaload, 1) := by decide +kernel
theorem dX11_spillTank_20 : decode cX11_spillTank 20 = .ok (.iadd, 1) := by decide +kernel
theorem dX11_spillTank_21 : decode cX11_spillTank 21 = .ok (.aload_n 2, 1) := by decide +kernel
theorem dX11_spillTank_22 : decode cX11_spillTank 22 = .ok (.getfield 309, 3) := by decide +kernel
theorem dX11_spillTank_25 : decode cX11_spillTank 25 = .ok (.iload_n 1, 1) := by decide +kernel
theorem dX11_spillTank_26 : decode cX11_spillTank 26 = .ok (.iaload, 1) := by decide +kernel
theorem dX11_spillTank_27 : decode cX11_spillTank 27 = .ok (.isub, 1) := by decide +kernel
theorem dX11_spillTank_28 : decode cX11_spillTank 28 = .ok (.istore_n 3, 1) := by decide +kernel
theorem dX11_spillTank_29 : decode cX11_spillTank 29 = .ok (.iload_n 3, 1) := by decide +kernel
theorem dX11_spillTank_30 : decode cX11_spillTank 30 = .ok (.ifCond .gt 4, 3) := by decide +kernel
theorem dX11_spillTank_33 : decode cX11_spillTank 33 = .ok (.return_, 1) := by decide +kernel
theorem dX11_spillTank_34 : decode cX11_spillTank 34 = .ok (.iload_n 3, 1) := by decide +kernel
theorem dX11_spillTank_35 : decode cX11_spillTank 35 = .ok (.aload_n 2, 1) := by decide +kernel
theorem dX11_spillTank_36 : decode cX11_spillTank 36 = .ok (.getfield 325, 3) := by decide +kernel
theorem dX11_spillTank_39 : decode cX11_spillTank 39 = .ok (.iload_n 1, 1) := by decide +kernel
theorem dX11_spillTank_40 : decode cX11_spillTank 40 = .ok (.iaload, 1) := by decide +kernel
theorem dX11_spillTank_41 : decode cX11_spillTank 41 = .ok (.invokestatic 328, 3) := by decide +kernel
theorem dX11_spillTank_44 : decode cX11_spillTank 44 = .ok (.istore 4, 2) := by decide +kernel
theorem dX11_spillTank_46 : decode cX11_spillTank 46 = .ok (.aload_n 2, 1) := by decide +kernel
theorem dX11_spillTank_47 : decode cX11_spillTank 47 = .ok (.getfield 325, 3) := by decide +kernel
theorem dX11_spillTank_50 : decode cX11_spillTank 50 = .ok (.iload_n 1, 1) := by decide +kernel
theorem dX11_spillTank_51 : decode cX11_spillTank 51 = .ok (.dup2, 1) := by decide +kernel
theorem dX11_spillTank_52 : decode cX11_spillTank 52 = .ok (.iaload, 1) := by decide +kernel
theorem dX11_spillTank_53 : decode cX11_spillTank 53 = .ok (.iload 4, 2) := by decide +kernel
theorem dX11_spillTank_55 : decode cX11_spillTank 55 = .ok (.isub, 1) := by decide +kernel
theorem dX11_spillTank_56 : decode cX11_spillTank 56 = .ok (.iastore, 1) := by decide +kernel
theorem dX11_spillTank_57 : decode cX11_spillTank 57 = .ok (.aload_n 2, 1) := by decide +kernel
theorem dX11_spillTank_58 : decode cX11_spillTank 58 = .ok (.getfield 322, 3) := by decide +kernel
theorem dX11_spillTank_61 : decode cX11_spillTank 61 = .ok (.iload_n 1, 1) := by decide +kernel
theorem dX11_spillTank_62 : decode cX11_spillTank 62 = .ok (.dup2, 1) := by decide +kernel
theorem dX11_spillTank_63 : decode cX11_spillTank 63 = .ok (.iaload, 1) := by decide +kernel
theorem dX11_spillTank_64 : decode cX11_spillTank 64 = .ok (.iload_n 3, 1) := by decide +kernel
theorem dX11_spillTank_65 : decode cX11_spillTank 65 = .ok (.iload 4, 2) := by decide +kernel
theorem dX11_spillTank_67 : decode cX11_spillTank 67 = .ok (.isub, 1) := by decide +kernel
theorem dX11_spillTank_68 : decode cX11_spillTank 68 = .ok (.isub, 1) := by decide +kernel
theorem dX11_spillTank_69 : decode cX11_spillTank 69 = .ok (.iastore, 1) := by decide +kernel
theorem dX11_spillTank_70 : decode cX11_spillTank 70 = .ok (.aload_n 0, 1) := by decide +kernel
theorem dX11_spillTank_71 : decode cX11_spillTank 71 = .ok (.getfield 10, 3) := by decide +kernel
theorem dX11_spillTank_74 : decode cX11_spillTank 74 = .ok (.getfield 116, 3) := by decide +kernel
theorem dX11_spillTank_77 : decode cX11_spillTank 77 = .ok (.getfield 125, 3) := by decide +kernel
theorem dX11_spillTank_80 : decode cX11_spillTank 80 = .ok (.iload_n 1, 1) := by decide +kernel
theorem dX11_spillTank_81 : decode cX11_spillTank 81 = .ok (.dup2, 1) := by decide +kernel
theorem dX11_spillTank_82 : decode cX11_spillTank 82 = .ok (.iaload, 1) := by decide +kernel
theorem dX11_spillTank_83 : decode cX11_spillTank 83 = .ok (.iload 4, 2) := by decide +kernel
theorem dX11_spillTank_85 : decode cX11_spillTank 85 = .ok (.iadd, 1) := by decide +kernel
theorem dX11_spillTank_86 : decode cX11_spillTank 86 = .ok (.iastore, 1) := by decide +kernel
theorem dX11_spillTank_87 : decode cX11_spillTank 87 = .ok (.aload_n 0, 1) := by decide +kernel
theorem dX11_spillTank_88 : decode cX11_spillTank 88 = .ok (.getfield 10, 3) := by decide +kernel
theorem dX11_spillTank_91 : decode cX11_spillTank 91 = .ok (.getfield 116, 3) := by decide +kernel
theorem dX11_spillTank_94 : decode cX11_spillTank 94 = .ok (.getfield 120, 3) := by decide +kernel
theorem dX11_spillTank_97 : decode cX11_spillTank 97 = .ok (.iload_n 1, 1) := by decide +kernel
theorem dX11_spillTank_98 : decode cX11_spillTank 98 = .ok (.dup2, 1) := by decide +kernel
theorem dX11_spillTank_99 : decode cX11_spillTank 99 = .ok (.iaload, 1) := by decide +kernel
theorem dX11_spillTank_100 : decode cX11_spillTank 100 = .ok (.iload_n 3, 1) := by decide +kernel
theorem dX11_spillTank_101 : decode cX11_spillTank 101 = .ok (.iload 4, 2) := by decide +kernel
theorem dX11_spillTank_103 : decode cX11_spillTank 103 = .ok (.isub, 1) := by decide +kernel
theorem dX11_spillTank_104 : decode cX11_spillTank 104 = .ok (.iadd, 1) := by decide +kernel
theorem dX11_spillTank_105 : decode cX11_spillTank 105 = .ok (.iastore, 1) := by decide +kernel
theorem dX11_spillTank_106 : decode cX11_spillTank 106 = .ok (.return_, 1) := by decide +kernel
theorem dX11_out_0 : decode cX11_out 0 = .ok (.iload_n 1, 1) := by decide +kernel
theorem dX11_out_1 : decode cX11_out 1 = .ok (.invokestatic 88, 3) := by decide +kernel
theorem dX11_out_4 : decode cX11_out 4 = .ok (.ifCond .eq 25, 3) := by decide +kernel
theorem dX11_out_7 : decode cX11_out 7 = .ok (.iload_n 2, 1) := by decide +kernel
theorem dX11_out_8 : decode cX11_out 8 = .ok (.iconst 1, 1) := by decide +kernel
theorem dX11_out_9 : decode cX11_out 9 = .ok (.sipush 9999, 3) := by decide +kernel
theorem dX11_out_12 : decode cX11_out 12 = .ok (.invokestatic 96, 3) := by decide +kernel
theorem dX11_out_15 : decode cX11_out 15 = .ok (.ifCond .eq 14, 3) := by decide +kernel
theorem dX11_out_18 : decode cX11_out 18 = .ok (.iload_n 3, 1) := by decide +kernel
theorem dX11_out_19 : decode cX11_out 19 = .ok (.iconst 1, 1) := by decide +kernel
theorem dX11_out_20 : decode cX11_out 20 = .ok (.sipush 9999, 3) := by decide +kernel
theorem dX11_out_23 : decode cX11_out 23 = .ok (.invokestatic 96, 3) := by decide +kernel
theorem dX11_out_26 : decode cX11_out 26 = .ok (.ifCond .ne 5, 3) := by decide +kernel
theorem dX11_out_29 : decode cX11_out 29 = .ok (.iconst (-1), 1) := by decide +kernel
theorem dX11_out_30 : decode cX11_out 30 = .ok (.ireturn, 1) := by decide +kernel
theorem dX11_out_31 : decode cX11_out 31 = .ok (.iload 4, 2) := by decide +kernel
theorem dX11_out_33 : decode cX11_out 33 = .ok (.bipush (-128), 2) := by decide +kernel
theorem dX11_out_35 : decode cX11_out 35 = .ok (.bipush 127, 2) := by decide +kernel
theorem dX11_out_37 : decode cX11_out 37 = .ok (.invokestatic 96, 3) := by decide +kernel
theorem dX11_out_40 : decode cX11_out 40 = .ok (.ifCond .ne 5, 3) := by decide +kernel
theorem dX11_out_43 : decode cX11_out 43 = .ok (.iconst (-1), 1) := by decide +kernel
theorem dX11_out_44 : decode cX11_out 44 = .ok (.ireturn, 1) := by decide +kernel
theorem dX11_out_45 : decode cX11_out 45 = .ok (.aload_n 0, 1) := by decide +kernel
theorem dX11_out_46 : decode cX11_out 46 = .ok (.getfield 10, 3) := by decide +kernel
theorem dX11_out_49 : decode cX11_out 49 = .ok (.getfield 278, 3) := by decide +kernel
theorem dX11_out_52 : decode cX11_out 52 = .ok (.astore 5, 2) := by decide +kernel
theorem dX11_out_54 : decode cX11_out 54 = .ok (.aload 5, 2) := by decide +kernel
theorem dX11_out_56 : decode cX11_out 56 = .ok (.getfield 282, 3) := by decide +kernel
theorem dX11_out_59 : decode cX11_out 59 = .ok (.iload_n 1, 1) := by decide +kernel
theorem dX11_out_60 : decode cX11_out 60 = .ok (.iaload, 1) := by decide +kernel
theorem dX11_out_61 : decode cX11_out 61 = .ok (.iconst 1, 1) := by decide +kernel
theorem dX11_out_62 : decode cX11_out 62 = .ok (.if_icmp .ne 6, 3) := by decide +kernel
theorem dX11_out_65 : decode cX11_out 65 = .ok (.bipush (-3), 2) := by decide +kernel
theorem dX11_out_67 : decode cX11_out 67 = .ok (.ireturn, 1) := by decide +kernel
theorem dX11_out_68 : decode cX11_out 68 = .ok (.aload 5, 2) := by decide +kernel
theorem dX11_out_70 : decode cX11_out 70 = .ok (.iload_n 1, 1) := by decide +kernel
theorem dX11_out_71 : decode cX11_out 71 = .ok (.invokevirtual 287, 3) := by decide +kernel
theorem dX11_out_74 : decode cX11_out 74 = .ok (.bipush 12, 2) := by decide +kernel
theorem dX11_out_76 : decode cX11_out 76 = .ok (.if_icmp .lt 6, 3) := by decide +kernel
theorem dX11_out_79 : decode cX11_out 79 = .ok (.bipush (-2), 2) := by decide +kernel
theorem dX11_out_81 : decode cX11_out 81 = .ok (.ireturn, 1) := by decide +kernel
theorem dX11_out_82 : decode cX11_out 82 = .ok (.aload 5, 2) := by decide +kernel
theorem dX11_out_84 : decode cX11_out 84 = .ok (.getfield 282, 3) := by decide +kernel
theorem dX11_out_87 : decode cX11_out 87 = .ok (.iload_n 1, 1) := by decide +kernel
theorem dX11_out_88 : decode cX11_out 88 = .ok (.iconst 2, 1) := by decide +kernel
theorem dX11_out_89 : decode cX11_out 89 = .ok (.iastore, 1) := by decide +kernel
theorem dX11_out_90 : decode cX11_out 90 = .ok (.aload 5, 2) := by decide +kernel
theorem dX11_out_92 : decode cX11_out 92 = .ok (.getfield 309, 3) := by decide +kernel
theorem dX11_out_95 : decode cX11_out 95 = .ok (.iload_n 1, 1) := by decide +kernel
theorem dX11_out_96 : decode cX11_out 96 = .ok (.iload_n 2, 1) := by decide +kernel
theorem dX11_out_97 : decode cX11_out 97 = .ok (.iastore, 1) := by decide +kernel
theorem dX11_out_98 : decode cX11_out 98 = .ok (.aload 5, 2) := by decide +kernel
theorem dX11_out_100 : decode cX11_out 100 = .ok (.getfield 312, 3) := by decide +kernel
theorem dX11_out_103 : decode cX11_out 103 = .ok (.iload_n 1, 1) := by decide +kernel
theorem dX11_out_104 : decode cX11_out 104 = .ok (.iload_n 3, 1) := by decide +kernel
theorem dX11_out_105 : decode cX11_out 105 = .ok (.iastore, 1) := by decide +kernel
theorem dX11_out_106 : decode cX11_out 106 = .ok (.aload 5, 2) := by decide +kernel
theorem dX11_out_108 : decode cX11_out 108 = .ok (.getfield 315, 3) := by decide +kernel
theorem dX11_out_111 : decode cX11_out 111 = .ok (.iload_n 1, 1) := by decide +kernel
theorem dX11_out_112 : decode cX11_out 112 = .ok (.iload 4, 2) := by decide +kernel
theorem dX11_out_114 : decode cX11_out 114 = .ok (.iastore, 1) := by decide +kernel
theorem dX11_out_115 : decode cX11_out 115 = .ok (.aload_n 0, 1) := by decide +kernel
theorem dX11_out_116 : decode cX11_out 116 = .ok (.iload_n 1, 1) := by decide +kernel
theorem dX11_out_117 : decode cX11_out 117 = .ok (.invokevirtual 318, 3) := by decide +kernel
theorem dX11_out_120 : decode cX11_out 120 = .ok (.iconst 0, 1) := by decide +kernel
theorem dX11_out_121 : decode cX11_out 121 = .ok (.ireturn, 1) := by decide +kernel
theorem dX11_put_0 : decode cX11_put 0 = .ok (.iload_n 1, 1) := by decide +kernel
theorem dX11_put_1 : decode cX11_put 1 = .ok (.invokestatic 146, 3) := by decide +kernel
theorem dX11_put_4 : decode cX11_put 4 = .ok (.ifCond .ne 5, 3) := by decide +kernel
theorem dX11_put_7 : decode cX11_put 7 = .ok (.iconst (-1), 1) := by decide +kernel
theorem dX11_put_8 : decode cX11_put 8 = .ok (.ireturn, 1) := by decide +kernel
theorem dX11_put_9 : decode cX11_put 9 = .ok (.aload_n 0, 1) := by decide +kernel
theorem dX11_put_10 : decode cX11_put 10 = .ok (.getfield 46, 3) := by decide +kernel
theorem dX11_put_13 : decode cX11_put 13 = .ok (.iload_n 1, 1) := by decide +kernel
theorem dX11_put_14 : decode cX11_put 14 = .ok (.aaload, 1) := by decide +kernel
theorem dX11_put_15 : decode cX11_put 15 = .ok (.astore 5, 2) := by decide +kernel
theorem dX11_put_17 : decode cX11_put 17 = .ok (.aload 5, 2) := by decide +kernel
theorem dX11_put_19 : decode cX11_put 19 = .ok (.getfield 149, 3) := by decide +kernel
theorem dX11_put_22 : decode cX11_put 22 = .ok (.ifCond .ne 10, 3) := by decide +kernel
theorem dX11_put_25 : decode cX11_put 25 = .ok (.aload_n 0, 1) := by decide +kernel
theorem dX11_put_26 : decode cX11_put 26 = .ok (.bipush (-11), 2) := by decide +kernel
theorem dX11_put_28 : decode cX11_put 28 = .ok (.invokevirtual 152, 3) := by decide +kernel
theorem dX11_put_31 : decode cX11_put 31 = .ok (.ireturn, 1) := by decide +kernel
theorem dX11_put_32 : decode cX11_put 32 = .ok (.aload 5, 2) := by decide +kernel
theorem dX11_put_34 : decode cX11_put 34 = .ok (.getfield 149, 3) := by decide +kernel
theorem dX11_put_37 : decode cX11_put 37 = .ok (.bipush 6, 2) := by decide +kernel
theorem dX11_put_39 : decode cX11_put 39 = .ok (.if_icmp .ne 10, 3) := by decide +kernel
theorem dX11_put_42 : decode cX11_put 42 = .ok (.aload_n 0, 1) := by decide +kernel
theorem dX11_put_43 : decode cX11_put 43 = .ok (.bipush (-12), 2) := by decide +kernel
theorem dX11_put_45 : decode cX11_put 45 = .ok (.invokevirtual 152, 3) := by decide +kernel
theorem dX11_put_48 : decode cX11_put 48 = .ok (.ireturn, 1) := by decide +kernel
theorem dX11_put_49 : decode cX11_put 49 = .ok (.iload_n 2, 1) := by decide +kernel
theorem dX11_put_50 : decode cX11_put 50 = .ok (.iconst 0, 1) := by decide +kernel
theorem dX11_put_51 : decode cX11_put 51 = .ok (.aload 5, 2) := by decide +kernel
theorem dX11_put_53 : decode cX11_put 53 = .ok (.getfield 155, 3) := by decide +kernel
theorem dX11_put_56 : decode cX11_put 56 = .ok (.iconst 1, 1) := by decide +kernel
theorem dX11_put_57 : decode cX11_put 57 = .ok (.isub, 1) := by decide +kernel
theorem dX11_put_58 : decode cX11_put 58 = .ok (.invokestatic 96, 3) := by decide +kernel
theorem dX11_put_61 : decode cX11_put 61 = .ok (.ifCond .ne 10, 3) := by decide +kernel
theorem dX11_put_64 : decode cX11_put 64 = .ok (.aload_n 0, 1) := by decide +kernel
theorem dX11_put_65 : decode cX11_put 65 = .ok (.bipush (-13), 2) := by decide +kernel
theorem dX11_put_67 : decode cX11_put 67 = .ok (.invokevirtual 152, 3) := by decide +kernel
theorem dX11_put_70 : decode cX11_put 70 = .ok (.ireturn, 1) := by decide +kernel
theorem dX11_put_71 : decode cX11_put 71 = .ok (.aload 5, 2) := by decide +kernel
theorem dX11_put_73 : decode cX11_put 73 = .ok (.getfield 392, 3) := by decide +kernel
theorem dX11_put_76 : decode cX11_put 76 = .ok (.iload_n 2, 1) := by decide +kernel
theorem dX11_put_77 : decode cX11_put 77 = .ok (.aload 5, 2) := by decide +kernel
theorem dX11_put_79 : decode cX11_put 79 = .ok (.lload_n 3, 1) := by decide +kernel
theorem dX11_put_80 : decode cX11_put 80 = .ok (.invokevirtual 414, 3) := by decide +kernel
theorem dX11_put_83 : decode cX11_put 83 = .ok (.lastore, 1) := by decide +kernel
theorem dX11_put_84 : decode cX11_put 84 = .ok (.iconst 1, 1) := by decide +kernel
theorem dX11_put_85 : decode cX11_put 85 = .ok (.ireturn, 1) := by decide +kernel
theorem dX11_rain_0 : decode cX11_rain 0 = .ok (.iload_n 1, 1) := by decide +kernel
theorem dX11_rain_1 : decode cX11_rain 1 = .ok (.iconst 0, 1) := by decide +kernel
theorem dX11_rain_2 : decode cX11_rain 2 = .ok (.sipush 200, 3) := by decide +kernel
theorem dX11_rain_5 : decode cX11_rain 5 = .ok (.invokestatic 96, 3) := by decide +kernel
theorem dX11_rain_8 : decode cX11_rain 8 = .ok (.ifCond .ne 5, 3) := by decide +kernel
theorem dX11_rain_11 : decode cX11_rain 11 = .ok (.iconst (-1), 1) := by decide +kernel
theorem dX11_rain_12 : decode cX11_rain 12 = .ok (.ireturn, 1) := by decide +kernel
theorem dX11_rain_13 : decode cX11_rain 13 = .ok (.aload_n 0, 1) := by decide +kernel
theorem dX11_rain_14 : decode cX11_rain 14 = .ok (.getfield 10, 3) := by decide +kernel
theorem dX11_rain_17 : decode cX11_rain 17 = .ok (.getfield 116, 3) := by decide +kernel
theorem dX11_rain_20 : decode cX11_rain 20 = .ok (.getfield 275, 3) := by decide +kernel
theorem dX11_rain_23 : decode cX11_rain 23 = .ok (.istore_n 2, 1) := by decide +kernel
theorem dX11_rain_24 : decode cX11_rain 24 = .ok (.aload_n 0, 1) := by decide +kernel
theorem dX11_rain_25 : decode cX11_rain 25 = .ok (.getfield 10, 3) := by decide +kernel
theorem dX11_rain_28 : decode cX11_rain 28 = .ok (.getfield 116, 3) := by decide +kernel
theorem dX11_rain_31 : decode cX11_rain 31 = .ok (.iload_n 1, 1) := by decide +kernel
theorem dX11_rain_32 : decode cX11_rain 32 = .ok (.putfield 275, 3) := by decide +kernel
theorem dX11_rain_35 : decode cX11_rain 35 = .ok (.iload_n 2, 1) := by decide +kernel
theorem dX11_rain_36 : decode cX11_rain 36 = .ok (.ireturn, 1) := by decide +kernel
theorem dX11_route_0 : decode cX11_route 0 = .ok (.iload_n 1, 1) := by decide +kernel
theorem dX11_route_1 : decode cX11_route 1 = .ok (.invokestatic 88, 3) := by decide +kernel
theorem dX11_route_4 : decode cX11_route 4 = .ok (.ifCond .eq 37, 3) := by decide +kernel
theorem dX11_route_7 : decode cX11_route 7 = .ok (.iload_n 2, 1) := by decide +kernel
theorem dX11_route_8 : decode cX11_route 8 = .ok (.invokestatic 88, 3) := by decide +kernel
theorem dX11_route_11 : decode cX11_route 11 = .ok (.ifCond .eq 30, 3) := by decide +kernel
theorem dX11_route_14 : decode cX11_route 14 = .ok (.iload_n 1, 1) := by decide +kernel
theorem dX11_route_15 : decode cX11_route 15 = .ok (.iload_n 2, 1) := by decide +kernel
theorem dX11_route_16 : decode cX11_route 16 = .ok (.if_icmp .eq 25, 3) := by decide +kernel
theorem dX11_route_19 : decode cX11_route 19 = .ok (.iload_n 3, 1) := by decide +kernel
theorem dX11_route_20 : decode cX11_route 20 = .ok (.iconst 0, 1) := by decide +kernel
theorem dX11_route_21 : decode cX11_route 21 = .ok (.sipush 300, 3) := by decide +kernel
theorem dX11_route_24 : decode cX11_route 24 = .ok (.invokestatic 96, 3) := by decide +kernel
theorem dX11_route_27 : decode cX11_route 27 = .ok (.ifCond .eq 14, 3) := by decide +kernel
theorem dX11_route_30 : decode cX11_route 30 = .ok (.iload 4, 2) := by decide +kernel
theorem dX11_route_32 : decode cX11_route 32 = .ok (.iconst 1, 1) := by decide +kernel
theorem dX11_route_33 : decode cX11_route 33 = .ok (.bipush 9, 2) := by decide +kernel
theorem dX11_route_35 : decode cX11_route 35 = .ok (.invokestatic 96, 3) := by decide +kernel
theorem dX11_route_38 : decode cX11_route 38 = .ok (.ifCond .ne 5, 3) := by decide +kernel
theorem dX11_route_41 : decode cX11_route 41 = .ok (.iconst (-1), 1) := by decide +kernel
theorem dX11_route_42 : decode cX11_route 42 = .ok (.ireturn, 1) := by decide +kernel
theorem dX11_route_43 : decode cX11_route 43 = .ok (.iload_n 3, 1) := by decide +kernel
theorem dX11_route_44 : decode cX11_route 44 = .ok (.iload 4, 2) := by decide +kernel
theorem dX11_route_46 : decode cX11_route 46 = .ok (.iload_n 1, 1) := by decide +kernel
theorem dX11_route_47 : decode cX11_route 47 = .ok (.iload_n 2, 1) := by decide +kernel
theorem dX11_route_48 : decode cX11_route 48 = .ok (.invokestatic 203, 3) := by decide +kernel
theorem dX11_route_51 : decode cX11_route 51 = .ok (.imul, 1) := by decide +kernel
theorem dX11_route_52 : decode cX11_route 52 = .ok (.isub, 1) := by decide +kernel
theorem dX11_route_53 : decode cX11_route 53 = .ok (.ifCond .ge 6, 3) := by decide +kernel
theorem dX11_route_56 : decode cX11_route 56 = .ok (.bipush (-3), 2) := by decide +kernel
theorem dX11_route_58 : decode cX11_route 58 = .ok (.ireturn, 1) := by decide +kernel
theorem dX11_route_59 : decode cX11_route 59 = .ok (.aload_n 0, 1) := by decide +kernel
theorem dX11_route_60 : decode cX11_route 60 = .ok (.getfield 33, 3) := by decide +kernel
theorem dX11_route_63 : decode cX11_route 63 = .ok (.aload_n 0, 1) := by decide +kernel
theorem dX11_route_64 : decode cX11_route 64 = .ok (.getfield 10, 3) := by decide +kernel
theorem dX11_route_67 : decode cX11_route 67 = .ok (.getfield 78, 3) := by decide +kernel
theorem dX11_route_70 : decode cX11_route 70 = .ok (.iload_n 1, 1) := by decide +kernel
theorem dX11_route_71 : decode cX11_route 71 = .ok (.iload_n 2, 1) := by decide +kernel
theorem dX11_route_72 : decode cX11_route 72 = .ok (.iload_n 3, 1) := by decide +kernel
theorem dX11_route_73 : decode cX11_route 73 = .ok (.iload 4, 2) := by decide +kernel
theorem dX11_route_75 : decode cX11_route 75 = .ok (.invokevirtual 206, 3) := by decide +kernel
theorem dX11_route_78 : decode cX11_route 78 = .ok (.istore 5, 2) := by decide +kernel
theorem dX11_route_80 : decode cX11_route 80 = .ok (.iload 5, 2) := by decide +kernel
theorem dX11_route_82 : decode cX11_route 82 = .ok (.ldc 210, 2) := by decide +kernel
theorem dX11_route_84 : decode cX11_route 84 = .ok (.if_icmp .lt 6, 3) := by decide +kernel
theorem dX11_route_87 : decode cX11_route 87 = .ok (.bipush (-3), 2) := by decide +kernel
theorem dX11_route_89 : decode cX11_route 89 = .ok (.ireturn, 1) := by decide +kernel
theorem dX11_route_90 : decode cX11_route 90 = .ok (.aload_n 0, 1) := by decide +kernel
theorem dX11_route_91 : decode cX11_route 91 = .ok (.getfield 33, 3) := by decide +kernel
theorem dX11_route_94 : decode cX11_route 94 = .ok (.iload_n 1, 1) := by decide +kernel
theorem dX11_route_95 : decode cX11_route 95 = .ok (.iload_n 2, 1) := by decide +kernel
theorem dX11_route_96 : decode cX11_route 96 = .ok (.iload_n 3, 1) := by decide +kernel
theorem dX11_route_97 : decode cX11_route 97 = .ok (.iload 4, 2) := by decide +kernel
theorem dX11_route_99 : decode cX11_route 99 = .ok (.invokevirtual 211, 3) := by decide +kernel
theorem dX11_route_102 : decode cX11_route 102 = .ok (.iload 5, 2) := by decide +kernel
theorem dX11_route_104 : decode cX11_route 104 = .ok (.ireturn, 1) := by decide +kernel
theorem dX11_set_0 : decode cX11_set 0 = .ok (.aload_n 0, 1) := by decide +kernel
theorem dX11_set_1 : decode cX11_set 1 = .ok (.getfield 10, 3) := by decide +kernel
theorem dX11_set_4 : decode cX11_set 4 = .ok (.getfield 78, 3) := by decide +kernel
theorem dX11_set_7 : decode cX11_set 7 = .ok (.iload_n 2, 1) := by decide +kernel
theorem dX11_set_8 : decode cX11_set 8 = .ok (.invokevirtual 82, 3) := by decide +kernel
theorem dX11_set_11 : decode cX11_set 11 = .ok (.astore 4, 2) := by decide +kernel
theorem dX11_set_13 : decode cX11_set 13 = .ok (.iload_n 1, 1) := by decide +kernel
theorem dX11_set_14 : decode cX11_set 14 = .ok (.invokestatic 88, 3) := by decide +kernel
theorem dX11_set_17 : decode cX11_set 17 = .ok (.ifCond .eq 8, 3) := by decide +kernel
theorem dX11_set_20 : decode cX11_set 20 = .ok (.aload 4, 2) := by decide +kernel
theorem dX11_set_22 : decode cX11_set 22 = .ok (.ifnonnull 5, 3) := by decide +kernel
theorem dX11_set_25 : decode cX11_set 25 = .ok (.iconst (-1), 1) := by decide +kernel
theorem dX11_set_26 : decode cX11_set 26 = .ok (.ireturn, 1) := by decide +kernel
theorem dX11_set_27 : decode cX11_set 27 = .ok (.iload_n 3, 1) := by decide +kernel
theorem dX11_set_28 : decode cX11_set 28 = .ok (.iconst 0, 1) := by decide +kernel
theorem dX11_set_29 : decode cX11_set 29 = .ok (.iload_n 2, 1) := by decide +kernel
theorem dX11_set_30 : decode cX11_set 30 = .ok (.invokestatic 92, 3) := by decide +kernel
theorem dX11_set_33 : decode cX11_set 33 = .ok (.invokestatic 96, 3) := by decide +kernel
theorem dX11_set_36 : decode cX11_set 36 = .ok (.ifCond .ne 5, 3) := by decide +kernel
theorem dX11_set_39 : decode cX11_set 39 = .ok (.iconst (-1), 1) := by decide +kernel
theorem dX11_set_40 : decode cX11_set 40 = .ok (.ireturn, 1) := by decide +kernel
theorem dX11_set_41 : decode cX11_set 41 = .ok (.aload 4, 2) := by decide +kernel
theorem dX11_set_43 : decode cX11_set 43 = .ok (.iload_n 1, 1) := by decide +kernel
theorem dX11_set_44 : decode cX11_set 44 = .ok (.iaload, 1) := by decide +kernel
theorem dX11_set_45 : decode cX11_set 45 = .ok (.istore 5, 2) := by decide +kernel
theorem dX11_set_47 : decode cX11_set 47 = .ok (.aload 4, 2) := by decide +kernel
theorem dX11_set_49 : decode cX11_set 49 = .ok (.iload_n 1, 1) := by decide +kernel
theorem dX11_set_50 : decode cX11_set 50 = .ok (.iload_n 3, 1) := by decide +kernel
theorem dX11_set_51 : decode cX11_set 51 = .ok (.iastore, 1) := by decide +kernel
theorem dX11_set_52 : decode cX11_set 52 = .ok (.iload 5, 2) := by decide +kernel
theorem dX11_set_54 : decode cX11_set 54 = .ok (.ireturn, 1) := by decide +kernel
theorem dX11_share_0 : decode cX11_share 0 = .ok (.iload_n 1, 1) := by decide +kernel
theorem dX11_share_1 : decode cX11_share 1 = .ok (.iconst 0, 1) := by decide +kernel
theorem dX11_share_2 : decode cX11_share 2 = .ok (.ldc_w 380, 3) := by decide +kernel
theorem dX11_share_5 : decode cX11_share 5 = .ok (.invokestatic 96, 3) := by decide +kernel
theorem dX11_share_8 : decode cX11_share 8 = .ok (.ifCond .eq 13, 3) := by decide +kernel
theorem dX11_share_11 : decode cX11_share 11 = .ok (.iload_n 2, 1) := by decide +kernel
theorem dX11_share_12 : decode cX11_share 12 = .ok (.iconst 0, 1) := by decide +kernel
theorem dX11_share_13 : decode cX11_share 13 = .ok (.bipush 9, 2) := by decide +kernel
theorem dX11_share_15 : decode cX11_share 15 = .ok (.invokestatic 96, 3) := by decide +kernel
theorem dX11_share_18 : decode cX11_share 18 = .ok (.ifCond .ne 5, 3) := by decide +kernel
theorem dX11_share_21 : decode cX11_share 21 = .ok (.iconst (-1), 1) := by decide +kernel
theorem dX11_share_22 : decode cX11_share 22 = .ok (.ireturn, 1) := by decide +kernel
theorem dX11_share_23 : decode cX11_share 23 = .ok (.lconst 0, 1) := by decide +kernel
theorem dX11_share_24 : decode cX11_share 24 = .ok (.lstore_n 3, 1) := by decide +kernel
theorem dX11_share_25 : decode cX11_share 25 = .ok (.iconst 0, 1) := by decide +kernel
theorem dX11_share_26 : decode cX11_share 26 = .ok (.istore 5, 2) := by decide +kernel
theorem dX11_share_28 : decode cX11_share 28 = .ok (.iload 5, 2) := by decide +kernel
theorem dX11_share_30 : decode cX11_share 30 = .ok (.bipush 10, 2) := by decide +kernel
theorem dX11_share_32 : decode cX11_share 32 = .ok (.if_icmp .ge 25, 3) := by decide +kernel
theorem dX11_share_35 : decode cX11_share 35 = .ok (.lload_n 3, 1) := by decide +kernel
theorem dX11_share_36 : decode cX11_share 36 = .ok (.aload_n 0, 1) := by decide +kernel
theorem dX11_share_37 : decode cX11_share 37 = .ok (.getfield 10, 3) := by decide +kernel
theorem dX11_share_40 : decode cX11_share 40 = .ok (.getfield 78, 3) := by decide +kernel
theorem dX11_share_43 : decode cX11_share 43 = .ok (.iload 5, 2) := by decide +kernel
theorem dX11_share_45 : decode cX11_share 45 = .ok (.invokevirtual 396, 3) := by decide +kernel
theorem dX11_share_48 : decode cX11_share 48 = .ok (.i2l, 1) := by decide +kernel
theorem dX11_share_49 : decode cX11_share 49 = .ok (.ladd, 1) := by decide +kernel
theorem dX11_share_50 : decode cX11_share 50 = .ok (.lstore_n 3, 1) := by decide +kernel
theorem dX11_share_51 : decode cX11_share 51 = .ok (.iinc 5 1, 3) := by decide +kernel
theorem dX11_share_54 : decode cX11_share 54 = .ok (.goto (-26), 3) := by decide +kernel
theorem dX11_share_57 : decode cX11_share 57 = .ok (.lload_n 3, 1) := by decide +kernel
theorem dX11_share_58 : decode cX11_share 58 = .ok (.lconst 0, 1) := by decide +kernel
theorem dX11_share_59 : decode cX11_share 59 = .ok (.lcmp, 1) := by decide +kernel
theorem dX11_share_60 : decode cX11_share 60 = .ok (.ifCond .gt 10, 3) := by decide +kernel
theorem dX11_share_63 : decode cX11_share 63 = .ok (.aload_n 0, 1) := by decide +kernel
theorem dX11_share_64 : decode cX11_share 64 = .ok (.bipush (-16), 2) := by decide +kernel
theorem dX11_share_66 : decode cX11_share 66 = .ok (.invokevirtual 152, 3) := by decide +kernel
theorem dX11_share_69 : decode cX11_share 69 = .ok (.ireturn, 1) := by decide +kernel
theorem dX11_share_70 : decode cX11_share 70 = .ok (.iload_n 1, 1) := by decide +kernel
theorem dX11_share_71 : decode cX11_share 71 = .ok (.i2l, 1) := by decide +kernel
theorem dX11_share_72 : decode cX11_share 72 = .ok (.aload_n 0, 1) := by decide +kernel
theorem dX11_share_73 : decode cX11_share 73 = .ok (.getfield 10, 3) := by decide +kernel
theorem dX11_share_76 : decode cX11_share 76 = .ok (.getfield 78, 3) := by decide +kernel
theorem dX11_share_79 : decode cX11_share 79 = .ok (.iload_n 2, 1) := by decide +kernel
theorem dX11_share_80 : decode cX11_share 80 = .ok (.invokevirtual 396, 3) := by decide +kernel
theorem dX11_share_83 : decode cX11_share 83 = .ok (.i2l, 1) := by decide +kernel
theorem dX11_share_84 : decode cX11_share 84 = .ok (.lmul, 1) := by decide +kernel
theorem dX11_share_85 : decode cX11_share 85 = .ok (.lstore 5, 2) := by decide +kernel
theorem dX11_share_87 : decode cX11_share 87 = .ok (.iload_n 1, 1) := by decide +kernel
theorem dX11_share_88 : decode cX11_share 88 = .ok (.i2l, 1) := by decide +kernel
theorem dX11_share_89 : decode cX11_share 89 = .ok (.lstore 7, 2) := by decide +kernel
theorem dX11_share_91 : decode cX11_share 91 = .ok (.iconst 0, 1) := by decide +kernel
theorem dX11_share_92 : decode cX11_share 92 = .ok (.istore 9, 2) := by decide +kernel
theorem dX11_share_94 : decode cX11_share 94 = .ok (.iconst 0, 1) := by decide +kernel
theorem dX11_share_95 : decode cX11_share 95 = .ok (.istore 10, 2) := by decide +kernel
theorem dX11_share_97 : decode cX11_share 97 = .ok (.iload 10, 2) := by decide +kernel
theorem dX11_share_99 : decode cX11_share 99 = .ok (.bipush 10, 2) := by decide +kernel
theorem dX11_share_101 : decode cX11_share 101 = .ok (.if_icmp .ge 70, 3) := by decide +kernel
theorem dX11_share_104 : decode cX11_share 104 = .ok (.iload_n 1, 1) := by decide +kernel
theorem dX11_share_105 : decode cX11_share 105 = .ok (.i2l, 1) := by decide +kernel
theorem dX11_share_106 : decode cX11_share 106 = .ok (.aload_n 0, 1) := by decide +kernel
theorem dX11_share_107 : decode cX11_share 107 = .ok (.getfield 10, 3) := by decide +kernel
theorem dX11_share_110 : decode cX11_share 110 = .ok (.getfield 78, 3) := by decide +kernel
theorem dX11_share_113 : decode cX11_share 113 = .ok (.iload 10, 2) := by decide +kernel
theorem dX11_share_115 : decode cX11_share 115 = .ok (.invokevirtual 396, 3) := by decide +kernel
theorem dX11_share_118 : decode cX11_share 118 = .ok (.i2l, 1) := by decide +kernel
theorem dX11_share_119 : decode cX11_share 119 = .ok (.lmul, 1) := by decide +kernel
theorem dX11_share_120 : decode cX11_share 120 = .ok (.lstore 11, 2) := by decide +kernel
theorem dX11_share_122 : decode cX11_share 122 = .ok (.lload 7, 2) := by decide +kernel
theorem dX11_share_124 : decode cX11_share 124 = .ok (.lload 11, 2) := by decide +kernel
theorem dX11_share_126 : decode cX11_share 126 = .ok (.lload_n 3, 1) := by decide +kernel
theorem dX11_share_127 : decode cX11_share 127 = .ok (.ldiv, 1) := by decide +kernel
theorem dX11_share_128 : decode cX11_share 128 = .ok (.lsub, 1) := by decide +kernel
theorem dX11_share_129 : decode cX11_share 129 = .ok (.lstore 7, 2) := by decide +kernel
theorem dX11_share_131 : decode cX11_share 131 = .ok (.lload 11, 2) := by decide +kernel
theorem dX11_share_133 : decode cX11_share 133 = .ok (.lload_n 3, 1) := by decide +kernel
theorem dX11_share_134 : decode cX11_share 134 = .ok (.lrem, 1) := by decide +kernel
theorem dX11_share_135 : decode cX11_share 135 = .ok (.lload 5, 2) := by decide +kernel
theorem dX11_share_137 : decode cX11_share 137 = .ok (.lload_n 3, 1) := by decide +kernel
theorem dX11_share_138 : decode cX11_share 138 = .ok (.lrem, 1) := by decide +kernel
theorem dX11_share_139 : decode cX11_share 139 = .ok (.lsub, 1) := by decide +kernel
theorem dX11_share_140 : decode cX11_share 140 = .ok (.lstore 13, 2) := by decide +kernel
theorem dX11_share_142 : decode cX11_share 142 = .ok (.lload 13, 2) := by decide +kernel
theorem dX11_share_144 : decode cX11_share 144 = .ok (.lconst 0, 1) := by decide +kernel
theorem dX11_share_145 : decode cX11_share 145 = .ok (.lcmp, 1) := by decide +kernel
theorem dX11_share_146 : decode cX11_share 146 = .ok (.ifCond .gt 16, 3) := by decide +kernel
theorem dX11_share_149 : decode cX11_share 149 = .ok (.lload 13, 2) := by decide +kernel
theorem dX11_share_151 : decode cX11_share 151 = .ok (.lconst 0, 1) := by decide +kernel
theorem dX11_share_152 : decode cX11_share 152 = .ok (.lcmp, 1) := by decide +kernel
theorem dX11_share_153 : decode cX11_share 153 = .ok (.ifCond .ne 12, 3) := by decide +kernel
theorem dX11_share_156 : decode cX11_share 156 = .ok (.iload 10, 2) := by decide +kernel
theorem dX11_share_158 : decode cX11_share 158 = .ok (.iload_n 2, 1) := by decide +kernel
theorem dX11_share_159 : decode cX11_share 159 = .ok (.if_icmp .ge 6, 3) := by decide +kernel
theorem dX11_share_162 : decode cX11_share 162 = .ok (.iinc 9 1, 3) := by decide +kernel
theorem dX11_share_165 : decode cX11_share 165 = .ok (.iinc 10 1, 3) := by decide +kernel
theorem dX11_share_168 : decode cX11_share 168 = .ok (.goto (-71), 3) := by decide +kernel
theorem dX11_share_171 : decode cX11_share 171 = .ok (.lload 5, 2) := by decide +kernel
theorem dX11_share_173 : decode cX11_share 173 = .ok (.lload_n 3, 1) := by decide +kernel
theorem dX11_share_174 : decode cX11_share 174 = .ok (.ldiv, 1) := by decide +kernel
theorem dX11_share_175 : decode cX11_share 175 = .ok (.l2i, 1) := by decide +kernel
theorem dX11_share_176 : decode cX11_share 176 = .ok (.iload 9, 2) := by decide +kernel
theorem dX11_share_178 : decode cX11_share 178 = .ok (.i2l, 1) := by decide +kernel
theorem dX11_share_179 : decode cX11_share 179 = .ok (.lload 7, 2) := by decide +kernel
theorem dX11_share_181 : decode cX11_share 181 = .ok (.lcmp, 1) := by decide +kernel
theorem dX11_share_182 : decode cX11_share 182 = .ok (.ifCond .ge 7, 3) := by decide +kernel
theorem dX11_share_185 : decode cX11_share 185 = .ok (.iconst 1, 1) := by decide +kernel
theorem dX11_share_186 : decode cX11_share 186 = .ok (.goto 4, 3) := by decide +kernel
theorem dX11_share_189 : decode cX11_share 189 = .ok (.iconst 0, 1) := by decide +kernel
theorem dX11_share_190 : decode cX11_share 190 = .ok (.iadd, 1) := by decide +kernel
theorem dX11_share_191 : decode cX11_share 191 = .ok (.ireturn, 1) := by decide +kernel
theorem dX11_size_0 : decode cX11_size 0 = .ok (.aload_n 0, 1) := by decide +kernel
theorem dX11_size_1 : decode cX11_size 1 = .ok (.iload_n 1, 1) := by decide +kernel
theorem dX11_size_2 : decode cX11_size 2 = .ok (.invokevirtual 230, 3) := by decide +kernel
theorem dX11_size_5 : decode cX11_size 5 = .ok (.ifCond .eq 18, 3) := by decide +kernel
theorem dX11_size_8 : decode cX11_size 8 = .ok (.aload_n 0, 1) := by decide +kernel
theorem dX11_size_9 : decode cX11_size 9 = .ok (.getfield 10, 3) := by decide +kernel
theorem dX11_size_12 : decode cX11_size 12 = .ok (.getfield 220, 3) := by decide +kernel
theorem dX11_size_15 : decode cX11_size 15 = .ok (.iload_n 1, 1) := by decide +kernel
theorem dX11_size_16 : decode cX11_size 16 = .ok (.aaload, 1) := by decide +kernel
theorem dX11_size_17 : decode cX11_size 17 = .ok (.getfield 257, 3) := by decide +kernel
theorem dX11_size_20 : decode cX11_size 20 = .ok (.goto 4, 3) := by decide +kernel
theorem dX11_size_23 : decode cX11_size 23 = .ok (.iconst (-1), 1) := by decide +kernel
theorem dX11_size_24 : decode cX11_size 24 = .ok (.ireturn, 1) := by decide +kernel
theorem dX11_stop_0 : decode cX11_stop 0 = .ok (.aload_n 0, 1) := by decide +kernel
theorem dX11_stop_1 : decode cX11_stop 1 = .ok (.iload_n 1, 1) := by decide +kernel
theorem dX11_stop_2 : decode cX11_stop 2 = .ok (.iconst 1, 1) := by decide +kernel
theorem dX11_stop_3 : decode cX11_stop 3 = .ok (.invokevirtual 302, 3) := by decide +kernel
theorem dX11_stop_6 : decode cX11_stop 6 = .ok (.ifCond .ne 5, 3) := by decide +kernel
theorem dX11_stop_9 : decode cX11_stop 9 = .ok (.iconst (-1), 1) := by decide +kernel
theorem dX11_stop_10 : decode cX11_stop 10 = .ok (.ireturn, 1) := by decide +kernel
theorem dX11_stop_11 : decode cX11_stop 11 = .ok (.iload_n 2, 1) := by decide +kernel
theorem dX11_stop_12 : decode cX11_stop 12 = .ok (.ifCond .eq 7, 3) := by decide +kernel
theorem dX11_stop_15 : decode cX11_stop 15 = .ok (.iconst 1, 1) := by decide +kernel
theorem dX11_stop_16 : decode cX11_stop 16 = .ok (.goto 4, 3) := by decide +kernel
theorem dX11_stop_19 : decode cX11_stop 19 = .ok (.iconst 0, 1) := by decide +kernel
theorem dX11_stop_20 : decode cX11_stop 20 = .ok (.istore_n 3, 1) := by decide +kernel
theorem dX11_stop_21 : decode cX11_stop 21 = .ok (.aload_n 0, 1) := by decide +kernel
theorem dX11_stop_22 : decode cX11_stop 22 = .ok (.getfield 10, 3) := by decide +kernel
theorem dX11_stop_25 : decode cX11_stop 25 = .ok (.getfield 278, 3) := by decide +kernel
theorem dX11_stop_28 : decode cX11_stop 28 = .ok (.getfield 299, 3) := by decide +kernel
theorem dX11_stop_31 : decode cX11_stop 31 = .ok (.iload_n 1, 1) := by decide +kernel
theorem dX11_stop_32 : decode cX11_stop 32 = .ok (.iaload, 1) := by decide +kernel
theorem dX11_stop_33 : decode cX11_stop 33 = .ok (.iload_n 3, 1) := by decide +kernel
theorem dX11_stop_34 : decode cX11_stop 34 = .ok (.if_icmp .ne 5, 3) := by decide +kernel
theorem dX11_stop_37 : decode cX11_stop 37 = .ok (.iconst 0, 1) := by decide +kernel
theorem dX11_stop_38 : decode cX11_stop 38 = .ok (.ireturn, 1) := by decide +kernel
theorem dX11_stop_39 : decode cX11_stop 39 = .ok (.aload_n 0, 1) := by decide +kernel
theorem dX11_stop_40 : decode cX11_stop 40 = .ok (.getfield 10, 3) := by decide +kernel
theorem dX11_stop_43 : decode cX11_stop 43 = .ok (.getfield 278, 3) := by decide +kernel
theorem dX11_stop_46 : decode cX11_stop 46 = .ok (.getfield 299, 3) := by decide +kernel
theorem dX11_stop_49 : decode cX11_stop 49 = .ok (.iload_n 1, 1) := by decide +kernel
theorem dX11_stop_50 : decode cX11_stop 50 = .ok (.iload_n 3, 1) := by decide +kernel
theorem dX11_stop_51 : decode cX11_stop 51 = .ok (.iastore, 1) := by decide +kernel
theorem dX11_stop_52 : decode cX11_stop 52 = .ok (.iconst 1, 1) := by decide +kernel
theorem dX11_stop_53 : decode cX11_stop 53 = .ok (.ireturn, 1) := by decide +kernel
theorem dX11_take_0 : decode cX11_take 0 = .ok (.iload_n 1, 1) := by decide +kernel
theorem dX11_take_1 : decode cX11_take 1 = .ok (.iconst 1, 1) := by decide +kernel
theorem dX11_take_2 : decode cX11_take 2 = .ok (.bipush 9, 2) := by decide +kernel
theorem dX11_take_4 : decode cX11_take 4 = .ok (.invokestatic 96, 3) := by decide +kernel
theorem dX11_take_7 : decode cX11_take 7 = .ok (.ifCond .eq 12, 3) := by decide +kernel
theorem dX11_take_10 : decode cX11_take 10 = .ok (.iload_n 2, 1) := by decide +kernel
theorem dX11_take_11 : decode cX11_take 11 = .ok (.iconst 0, 1) := by decide +kernel
theorem dX11_take_12 : decode cX11_take 12 = .ok (.iconst 1, 1) := by decide +kernel
theorem dX11_take_13 : decode cX11_take 13 = .ok (.invokestatic 96, 3) := by decide +kernel
theorem dX11_take_16 : decode cX11_take 16 = .ok (.ifCond .ne 5, 3) := by decide +kernel
theorem dX11_take_19 : decode cX11_take 19 = .ok (.iconst (-1), 1) := by decide +kernel
theorem dX11_take_20 : decode cX11_take 20 = .ok (.ireturn, 1) := by decide +kernel
theorem dX11_take_21 : decode cX11_take 21 = .ok (.aload_n 0, 1) := by decide +kernel
theorem dX11_take_22 : decode cX11_take 22 = .ok (.getfield 33, 3) := by decide +kernel
theorem dX11_take_25 : decode cX11_take 25 = .ok (.getfield 74, 3) := by decide +kernel
theorem dX11_take_28 : decode cX11_take 28 = .ok (.ifCond .ne 6, 3) := by decide +kernel
theorem dX11_take_31 : decode cX11_take 31 = .ok (.bipush (-3), 2) := by decide +kernel
theorem dX11_take_33 : decode cX11_take 33 = .ok (.ireturn, 1) := by decide +kernel
theorem dX11_take_34 : decode cX11_take 34 = .ok (.aload_n 0, 1) := by decide +kernel
theorem dX11_take_35 : decode cX11_take 35 = .ok (.getfield 10, 3) := by decide +kernel
theorem dX11_take_38 : decode cX11_take 38 = .ok (.getfield 217, 3) := by decide +kernel
theorem dX11_take_41 : decode cX11_take 41 = .ok (.bipush 8, 2) := by decide +kernel
theorem dX11_take_43 : decode cX11_take 43 = .ok (.if_icmp .lt 6, 3) := by decide +kernel
theorem dX11_take_46 : decode cX11_take 46 = .ok (.bipush (-2), 2) := by decide +kernel
theorem dX11_take_48 : decode cX11_take 48 = .ok (.ireturn, 1) := by decide +kernel
theorem dX11_take_49 : decode cX11_take 49 = .ok (.aload_n 0, 1) := by decide +kernel
theorem dX11_take_50 : decode cX11_take 50 = .ok (.getfield 10, 3) := by decide +kernel
theorem dX11_take_53 : decode cX11_take 53 = .ok (.getfield 220, 3) := by decide +kernel
theorem dX11_take_56 : decode cX11_take 56 = .ok (.aload_n 0, 1) := by decide +kernel
theorem dX11_take_57 : decode cX11_take 57 = .ok (.getfield 10, 3) := by decide +kernel
theorem dX11_take_60 : decode cX11_take 60 = .ok (.getfield 217, 3) := by decide +kernel
theorem dX11_take_63 : decode cX11_take 63 = .ok (.aaload, 1) := by decide +kernel
theorem dX11_take_64 : decode cX11_take 64 = .ok (.aload_n 0, 1) := by decide +kernel
theorem dX11_take_65 : decode cX11_take 65 = .ok (.getfield 33, 3) := by decide +kernel
theorem dX11_take_68 : decode cX11_take 68 = .ok (.iload_n 1, 1) := by decide +kernel
theorem dX11_take_69 : decode cX11_take 69 = .ok (.iload_n 2, 1) := by decide +kernel
theorem dX11_take_70 : decode cX11_take 70 = .ok (.invokevirtual 224, 3) := by decide +kernel
theorem dX11_take_73 : decode cX11_take 73 = .ok (.aload_n 0, 1) := by decide +kernel
theorem dX11_take_74 : decode cX11_take 74 = .ok (.getfield 10, 3) := by decide +kernel
theorem dX11_take_77 : decode cX11_take 77 = .ok (.dup, 1) := by decide +kernel
theorem dX11_take_78 : decode cX11_take 78 = .ok (.getfield 217, 3) := by decide +kernel
theorem dX11_take_81 : decode cX11_take 81 = .ok (.iconst 1, 1) := by decide +kernel
theorem dX11_take_82 : decode cX11_take 82 = .ok (.iadd, 1) := by decide +kernel
theorem dX11_take_83 : decode cX11_take 83 = .ok (.putfield 217, 3) := by decide +kernel
theorem dX11_take_86 : decode cX11_take 86 = .ok (.aload_n 0, 1) := by decide +kernel
theorem dX11_take_87 : decode cX11_take 87 = .ok (.getfield 10, 3) := by decide +kernel
theorem dX11_take_90 : decode cX11_take 90 = .ok (.getfield 217, 3) := by decide +kernel
theorem dX11_take_93 : decode cX11_take 93 = .ok (.iconst 1, 1) := by decide +kernel
theorem dX11_take_94 : decode cX11_take 94 = .ok (.isub, 1) := by decide +kernel
theorem dX11_take_95 : decode cX11_take 95 = .ok (.ireturn, 1) := by decide +kernel
theorem dX11_tape_0 : decode cX11_tape 0 = .ok (.iload_n 1, 1) := by decide +kernel
theorem dX11_tape_1 : decode cX11_tape 1 = .ok (.invokestatic 146, 3) := by decide +kernel
theorem dX11_tape_4 : decode cX11_tape 4 = .ok (.ifCond .eq 18, 3) := by decide +kernel
theorem dX11_tape_7 : decode cX11_tape 7 = .ok (.iload_n 2, 1) := by decide +kernel
theorem dX11_tape_8 : decode cX11_tape 8 = .ok (.iconst 1, 1) := by decide +kernel
theorem dX11_tape_9 : decode cX11_tape 9 = .ok (.iconst 5, 1) := by decide +kernel
theorem dX11_tape_10 : decode cX11_tape 10 = .ok (.invokestatic 96, 3) := by decide +kernel
theorem dX11_tape_13 : decode cX11_tape 13 = .ok (.ifCond .eq 9, 3) := by decide +kernel
theorem dX11_tape_16 : decode cX11_tape 16 = .ok (.iload_n 3, 1) := by decide +kernel
theorem dX11_tape_17 : decode cX11_tape 17 = .ok (.bipush 100, 2) := by decide +kernel
theorem dX11_tape_19 : decode cX11_tape 19 = .ok (.if_icmp .le 5, 3) := by decide +kernel
theorem dX11_tape_22 : decode cX11_tape 22 = .ok (.iconst (-1), 1) := by decide +kernel
theorem dX11_tape_23 : decode cX11_tape 23 = .ok (.ireturn, 1) := by decide +kernel
theorem dX11_tape_24 : decode cX11_tape 24 = .ok (.iload_n 3, 1) := by decide +kernel
theorem dX11_tape_25 : decode cX11_tape 25 = .ok (.ifCond .ge 10, 3) := by decide +kernel
theorem dX11_tape_28 : decode cX11_tape 28 = .ok (.aload_n 0, 1) := by decide +kernel
theorem dX11_tape_29 : decode cX11_tape 29 = .ok (.bipush (-14), 2) := by decide +kernel
theorem dX11_tape_31 : decode cX11_tape 31 = .ok (.invokevirtual 152, 3) := by decide +kernel
theorem dX11_tape_34 : decode cX11_tape 34 = .ok (.ireturn, 1) := by decide +kernel
theorem dX11_tape_35 : decode cX11_tape 35 = .ok (.aload_n 0, 1) := by decide +kernel
theorem dX11_tape_36 : decode cX11_tape 36 = .ok (.getfield 46, 3) := by decide +kernel
theorem dX11_tape_39 : decode cX11_tape 39 = .ok (.iload_n 1, 1) := by decide +kernel
theorem dX11_tape_40 : decode cX11_tape 40 = .ok (.aaload, 1) := by decide +kernel
theorem dX11_tape_41 : decode cX11_tape 41 = .ok (.astore 4, 2) := by decide +kernel
theorem dX11_tape_43 : decode cX11_tape 43 = .ok (.aload 4, 2) := by decide +kernel
theorem dX11_tape_45 : decode cX11_tape 45 = .ok (.iload_n 2, 1) := by decide +kernel
theorem dX11_tape_46 : decode cX11_tape 46 = .ok (.putfield 149, 3) := by decide +kernel
theorem dX11_tape_49 : decode cX11_tape 49 = .ok (.aload 4, 2) := by decide +kernel
theorem dX11_tape_51 : decode cX11_tape 51 = .ok (.iload_n 3, 1) := by decide +kernel
theorem dX11_tape_52 : decode cX11_tape 52 = .ok (.putfield 155, 3) := by decide +kernel
theorem dX11_tape_55 : decode cX11_tape 55 = .ok (.aload 4, 2) := by decide +kernel
theorem dX11_tape_57 : decode cX11_tape 57 = .ok (.getfield 392, 3) := by decide +kernel
theorem dX11_tape_60 : decode cX11_tape 60 = .ok (.lconst 0, 1) := by decide +kernel
theorem dX11_tape_61 : decode cX11_tape 61 = .ok (.invokestatic 399, 3) := by decide +kernel
theorem dX11_tape_64 : decode cX11_tape 64 = .ok (.iload_n 3, 1) := by decide +kernel
theorem dX11_tape_65 : decode cX11_tape 65 = .ok (.ireturn, 1) := by decide +kernel
set_option maxHeartbeats 4000000 in
set_option maxRecDepth 100000 in
theorem xX11_kiln_e {K : KT} {v1 : Int32} {w : Wd} {r : Int32 × Wd} (G : GK K cX11_kiln RX11 3 2) (M : Main K.ks) (hf : fX11_kiln v1 w = some r) (hr : RI K .int r.1 r.2) : XW K 0 [some (.ref 0), some (.int v1), none] [] w := by
  unfold fX11_kiln at hf
  refine x_iload_n G dX11_kiln_0 rfl rfl ?_
  refine x_iconst G (v := 0) dX11_kiln_1 (by decide) ?_
  refine x_sipush G (v := 9999) dX11_kiln_2 (by decide) ?_
  obtain ⟨v_1, hv_1, hf⟩ := bnd hf
  refine x_staI G (As := [.int v1, .int (0 : Int32), .int (9999 : Int32)]) (mX11_within G.2.2.2.2.2.2.1 M hv_1) ms_X11_96 rfl rfl rfl rfl rfl dX11_kiln_5 ?_
  refine x_ifneB G (tgt := 13) dX11_kiln_8 (by decide) hf (fun c_2 hf => ?_) (fun c_2 hf => ?_)
  · refine x_aload_n G dX11_kiln_13 rfl rfl ?_
    refine x_getR G (kd0 M) 0 (b := 1) rfl cl11 rfl wf_X11_10 dX11_kiln_14 ?_
    refine x_getI G (kd1 M) 8 rfl cl0 rfl wf_X11_261 dX11_kiln_17 ?_
    refine x_istore_n G (lv' := [some (.ref 0), some (.int v1), some (.int (w.1 1 8))]) dX11_kiln_20 rfl rfl rfl rfl ?_
    refine x_aload_n G dX11_kiln_21 rfl rfl ?_
    refine x_getR G (kd0 M) 0 (b := 1) rfl cl11 rfl wf_X11_10 dX11_kiln_22 ?_
    refine x_iload_n G dX11_kiln_25 rfl rfl ?_
    refine x_putI G (kd1 M) 8 rfl cl0 rfl wf_X11_261 rfl rfl rfl dX11_kiln_26 ?_
    refine nwr hf (fun w_3 hf => ?_)
    refine x_iload_n G dX11_kiln_29 rfl rfl ?_
    exact x_iretW G hf hr dX11_kiln_30
  · refine x_iconst G (v := -1) dX11_kiln_11 (by decide) ?_
    exact x_iretW G hf hr dX11_kiln_12

theorem mX11_kiln {l : Launch} {S : KS} {w : Wd} (hI : Inj S) (M : Main S) {v1 : Int32} {r : Int32 × Wd} (hf : fX11_kiln v1 w = some r) : CI l yX11_kiln cX11_kiln 3 (some .int) 2 S [.ref 0, .int v1] w r.1 r.2 := by
  intro sz
  refine mk_entry rfl (by decide +kernel) hI 1 rfl rfl (fun K h1 h2 h3 h4 h5 h6 G => ?_)
  subst h2
  exact xX11_kiln_e G M hf ⟨h3, by rw [h4, h6], h5⟩

set_option maxHeartbeats 4000000 in
set_option maxRecDepth 100000 in
theorem xX11_lasts_e {K : KT} {v1 : Int32} {v2 : Int32} {w : Wd} {r : Int32 × Wd} (G : GK K cX11_lasts RX11 5 5) (M : Main K.ks) (hf : fX11_lasts v1 v2 w = some r) (hr : RI K .int r.1 r.2) : XW K 0 [some (.ref 0), some (.int v1), some (.int v2), none, none] [] w := by
  unfold fX11_lasts at hf
  refine x_iload_n G dX11_lasts_0 rfl rfl ?_
  obtain ⟨v_1, hv_1, hf⟩ := bnd hf
  refine x_staI G (As := [.int v1]) (mX11_isCell G.2.2.2.2.2.2.1 M hv_1) ms_X11_88 rfl rfl rfl rfl rfl dX11_lasts_1 ?_
  refine x_ifeqB G (tgt := 11) dX11_lasts_4 (by decide) hf (fun c_2 hf => ?_) (fun c_2 hf => ?_)
  · refine x_iload_n G dX11_lasts_7 rfl rfl ?_
    refine x_ifge G (tgt := 13) dX11_lasts_8 (by decide) hf (fun c_3 hf => ?_) (fun c_3 hf => ?_)
    · refine x_iconst G (v := -1) dX11_lasts_11 (by decide) ?_
      exact x_iretW G hf hr dX11_lasts_12
    · refine x_aload_n G dX11_lasts_13 rfl rfl ?_
      refine x_iload_n G dX11_lasts_14 rfl rfl ?_
      obtain ⟨v_4, hv_4, hf⟩ := bnd hf
      refine x_virI G (As := [.int v1]) (mX11_holdNow G.2.2.2.2.2.2.1 M hv_4) mv_X11_134 (kd0 M) cl11 rfl rfl rfl rfl rfl dX11_lasts_15 ?_
      refine x_i2l G dX11_lasts_18 ?_
      refine x_aload_n G dX11_lasts_19 rfl rfl ?_
      refine x_getR G (kd0 M) 0 (b := 1) rfl cl11 rfl wf_X11_10 dX11_lasts_20 ?_
      refine x_getR G (kd1 M) 1 (b := 14) rfl cl0 rfl wf_X11_116 dX11_lasts_23 ?_
      refine x_iload_n G dX11_lasts_26 rfl rfl ?_
      obtain ⟨v_5, hv_5, hf⟩ := bnd hf
      refine x_virJ G (As := [.int v1]) (mX10_inDrain G.2.2.2.2.2.2.1 M hv_5) mv_X11_305 (kd14 M) cl10 rfl rfl rfl rfl rfl dX11_lasts_27 ?_
      refine x_lsub G dX11_lasts_30 ?_
      refine x_lstore_n G (lv' := [some (.ref 0), some (.int v1), some (.int v2), some (.long (v_4.1.toInt64 - v_5)), none]) dX11_lasts_31 rfl rfl rfl rfl ?_
      refine x_lload_n G dX11_lasts_32 rfl rfl ?_
      refine x_lconst G (v := 0) dX11_lasts_33 (by decide) ?_
      refine x_lcmp G dX11_lasts_34 ?_
      refine x_cgt G (tgt := 40) dX11_lasts_35 (by decide) hf (fun c_6 hf => ?_) (fun c_6 hf => ?_)
      · refine x_iload_n G dX11_lasts_40 rfl rfl ?_
        refine x_ifne G (tgt := 51) dX11_lasts_41 (by decide) hf (fun c_7 hf => ?_) (fun c_7 hf => ?_)
        · refine x_aload_n G dX11_lasts_44 rfl rfl ?_
          refine x_bipush G (v := -16) dX11_lasts_45 (by decide) ?_
          obtain ⟨v_8, hv_8, hf⟩ := bnd hf
          refine x_virI G (As := [.int (-16 : Int32)]) (mX11_refuse G.2.2.2.2.2.2.1 M hv_8) mv_X11_152 (kd0 M) cl11 rfl rfl rfl rfl rfl dX11_lasts_47 ?_
          exact x_iretW G hf hr dX11_lasts_50
        · refine x_lload_n G dX11_lasts_51 rfl rfl ?_
          refine x_lconst G (v := 1) dX11_lasts_52 (by decide) ?_
          refine x_lsub G dX11_lasts_53 ?_
          refine x_iload_n G dX11_lasts_54 rfl rfl ?_
          refine x_i2l G dX11_lasts_55 ?_
          refine x_ldivC G dX11_lasts_56 hf (fun hf => ?_)
          refine x_lconst G (v := 1) dX11_lasts_57 (by decide) ?_
          refine x_ladd G dX11_lasts_58 ?_
          refine x_l2i G dX11_lasts_59 ?_
          exact x_iretW G hf hr dX11_lasts_60
      · refine x_iconst G (v := 0) dX11_lasts_38 (by decide) ?_
        exact x_iretW G hf hr dX11_lasts_39
  · refine x_iconst G (v := -1) dX11_lasts_11 (by decide) ?_
    exact x_iretW G hf hr dX11_lasts_12

theorem mX11_lasts {l : Launch} {S : KS} {w : Wd} (hI : Inj S) (M : Main S) {v1 : Int32} {v2 : Int32} {r : Int32 × Wd} (hf : fX11_lasts v1 v2 w = some r) : CI l yX11_lasts cX11_lasts 5 (some .int) 5 S [.ref 0, .int v1, .int v2] w r.1 r.2 := by
  intro sz
  refine mk_entry rfl (by decide +kernel) hI 2 rfl rfl (fun K h1 h2 h3 h4 h5 h6 G => ?_)
  subst h2
  exact xX11_lasts_e G M hf ⟨h3, by rw [h4, h6], h5⟩

set_option maxHeartbeats 4000000 in
set_option maxRecDepth 100000 in
theorem xX11_law_e {K : KT} {v1 : Int32} {v2 : Int32} {v3 : Int32} {w : Wd} {r : Int32 × Wd} (G : GK K cX11_law RX11 6 202) (M : Main K.ks) (hf : fX11_law v1 v2 v3 w = some r) (hr : RI K .int r.1 r.2) : XW K 0 [some (.ref 0), some (.int v1), some (.int v2), some (.int v3), none, none] [] w := by
  unfold fX11_law at hf
  refine x_iload_n G dX11_law_0 rfl rfl ?_
  refine x_iconst G (v := 0) dX11_law_1 (by decide) ?_
  refine x_iconst G (v := 2) dX11_law_2 (by decide) ?_
  obtain ⟨v_1, hv_1, hf⟩ := bnd hf
  refine x_staI G (As := [.int v1, .int (0 : Int32), .int (2 : Int32)]) (mX11_within G.2.2.2.2.2.2.1 M hv_1) ms_X11_96 rfl rfl rfl rfl rfl dX11_law_3 ?_
  refine x_ifeqB G (tgt := 27) dX11_law_6 (by decide) hf (fun c_2 hf => ?_) (fun c_2 hf => ?_)
  · refine x_iload_n G dX11_law_9 rfl rfl ?_
    refine x_iconst G (v := 0) dX11_law_10 (by decide) ?_
    refine x_sipush G (v := 4999) dX11_law_11 (by decide) ?_
    obtain ⟨v_3, hv_3, hf⟩ := bnd hf
    refine x_staI G (As := [.int v2, .int (0 : Int32), .int (4999 : Int32)]) (mX11_within G.2.2.2.2.2.2.1 M hv_3) ms_X11_96 rfl rfl rfl rfl rfl dX11_law_14 ?_
    refine x_ifeqB G (tgt := 27) dX11_law_17 (by decide) hf (fun c_4 hf => ?_) (fun c_4 hf => ?_)
    · refine x_iload_n G dX11_law_20 rfl rfl ?_
      obtain ⟨v_5, hv_5, hf⟩ := bnd hf
      refine x_staI G (As := [.int v3]) (mX11_isTape G.2.2.2.2.2.2.1 M hv_5) ms_X11_146 rfl rfl rfl rfl rfl dX11_law_21 ?_
      refine x_ifneB G (tgt := 29) dX11_law_24 (by decide) hf (fun c_6 hf => ?_) (fun c_6 hf => ?_)
      · refine x_iload_n G dX11_law_29 rfl rfl ?_
        refine x_aload_n G dX11_law_30 rfl rfl ?_
        refine x_getR G (kd0 M) 0 (b := 1) rfl cl11 rfl wf_X11_10 dX11_law_31 ?_
        obtain ⟨v_7, hv_7, hf⟩ := bnd hf
        refine x_virI G (As := []) (mX0_today G.2.2.2.2.2.2.1 M hv_7) mv_X11_190 (kd1 M) cl0 rfl rfl rfl rfl rfl dX11_law_34 ?_
        refine x_icmpge G (tgt := 43) dX11_law_37 (by decide) hf (fun c_8 hf => ?_) (fun c_8 hf => ?_)
        · refine x_bipush G (v := -4) dX11_law_40 (by decide) ?_
          exact x_iretW G hf hr dX11_law_42
        · refine x_aload_n G dX11_law_43 rfl rfl ?_
          refine x_getR G (kd0 M) 5 (b := 134) rfl cl11 rfl wf_X11_46 dX11_law_44 ?_
          refine x_iload_n G dX11_law_47 rfl rfl ?_
          refine x_aald G (kd134 M) (kn := 1) (by decide) dX11_law_48 hf (fun hb_9 hf => ?_)
          refine x_astore G (lv' := [some (.ref 0), some (.int v1), some (.int v2), some (.int v3), some (.ref (135 + 2 * (v3).toNatClampNeg)), none]) dX11_law_49 rfl rfl rfl ?_
          refine x_aload G dX11_law_51 rfl ?_
          refine x_getI G (tapeOk M hb_9).1 0 rfl cl8 rfl wf_X11_149 dX11_law_53 ?_
          refine x_ifne G (tgt := 66) dX11_law_56 (by decide) hf (fun c_10 hf => ?_) (fun c_10 hf => ?_)
          · refine x_aload_n G dX11_law_59 rfl rfl ?_
            refine x_bipush G (v := -11) dX11_law_60 (by decide) ?_
            obtain ⟨v_11, hv_11, hf⟩ := bnd hf
            refine x_virI G (As := [.int (-11 : Int32)]) (mX11_refuse G.2.2.2.2.2.2.1 M hv_11) mv_X11_152 (kd0 M) cl11 rfl rfl rfl rfl rfl dX11_law_62 ?_
            exact x_iretW G hf hr dX11_law_65
          · refine x_aload G dX11_law_66 rfl ?_
            refine x_getI G (tapeOk M hb_9).1 0 rfl cl8 rfl wf_X11_149 dX11_law_68 ?_
            refine x_iconst G (v := 1) dX11_law_71 (by decide) ?_
            refine x_icmpeq G (tgt := 82) dX11_law_72 (by decide) hf (fun c_12 hf => ?_) (fun c_12 hf => ?_)
            · refine x_aload_n G dX11_law_82 rfl rfl ?_
              refine x_getR G (kd0 M) 4 (b := 106) rfl cl11 rfl wf_X11_40 dX11_law_83 ?_
              refine x_aload G dX11_law_86 rfl ?_
              obtain ⟨v_13, hv_13, hf⟩ := bnd hf
              refine x_virI G (As := [.ref (135 + 2 * (v3).toNatClampNeg)]) (mX4_firstFault G.2.2.2.2.2.2.1 M (tapeOk M hb_9) hv_13) mv_X11_366 (kd106 M) cl4 rfl rfl rfl rfl rfl dX11_law_88 ?_
              refine x_istore G (lv' := [some (.ref 0), some (.int v1), some (.int v2), some (.int v3), some (.ref (135 + 2 * (v3).toNatClampNeg)), some (.int v_13.1)]) dX11_law_91 rfl rfl rfl ?_
              refine x_iload G dX11_law_93 rfl ?_
              refine x_iflt G (tgt := 104) dX11_law_95 (by decide) hf (fun c_14 hf => ?_) (fun c_14 hf => ?_)
              · refine x_aload_n G dX11_law_104 rfl rfl ?_
                refine x_getR G (kd0 M) 4 (b := 106) rfl cl11 rfl wf_X11_40 dX11_law_105 ?_
                refine x_getI G (kd106 M) 0 rfl cl4 rfl wf_X11_75 dX11_law_108 ?_
                refine x_bipush G (v := 20) dX11_law_111 (by decide) ?_
                refine x_icmpge G (tgt := 126) dX11_law_113 (by decide) hf (fun c_15 hf => ?_) (fun c_15 hf => ?_)
                · refine x_aload G dX11_law_116 rfl ?_
                  refine x_getI G (tapeOk M hb_9).1 1 rfl cl8 rfl wf_X11_155 dX11_law_118 ?_
                  refine x_bipush G (v := 60) dX11_law_121 (by decide) ?_
                  refine x_icmple G (tgt := 129) dX11_law_123 (by decide) hf (fun c_16 hf => ?_) (fun c_16 hf => ?_)
                  · refine x_bipush G (v := -2) dX11_law_126 (by decide) ?_
                    exact x_iretW G hf hr dX11_law_128
                  · refine x_aload_n G dX11_law_129 rfl rfl ?_
                    refine x_getR G (kd0 M) 4 (b := 106) rfl cl11 rfl wf_X11_40 dX11_law_130 ?_
                    refine x_iload_n G dX11_law_133 rfl rfl ?_
                    refine x_iload_n G dX11_law_134 rfl rfl ?_
                    obtain ⟨v_17, hv_17, hf⟩ := bnd hf
                    refine x_virI G (As := [.int v1, .int v2]) (mX4_enact G.2.2.2.2.2.2.1 M hv_17) mv_X11_370 (kd106 M) cl4 rfl rfl rfl rfl rfl dX11_law_135 ?_
                    exact x_iretW G hf hr dX11_law_138
                · refine x_bipush G (v := -2) dX11_law_126 (by decide) ?_
                  exact x_iretW G hf hr dX11_law_128
              · refine x_bipush G (v := -100) dX11_law_98 (by decide) ?_
                refine x_iload G dX11_law_100 rfl ?_
                refine x_isub G dX11_law_102 ?_
                exact x_iretW G hf hr dX11_law_103
            · refine x_aload_n G dX11_law_75 rfl rfl ?_
              refine x_bipush G (v := -12) dX11_law_76 (by decide) ?_
              obtain ⟨v_18, hv_18, hf⟩ := bnd hf
              refine x_virI G (As := [.int (-12 : Int32)]) (mX11_refuse G.2.2.2.2.2.2.1 M hv_18) mv_X11_152 (kd0 M) cl11 rfl rfl rfl rfl rfl dX11_law_78 ?_
              exact x_iretW G hf hr dX11_law_81
      · refine x_iconst G (v := -1) dX11_law_27 (by decide) ?_
        exact x_iretW G hf hr dX11_law_28
    · refine x_iconst G (v := -1) dX11_law_27 (by decide) ?_
      exact x_iretW G hf hr dX11_law_28
  · refine x_iconst G (v := -1) dX11_law_27 (by decide) ?_
    exact x_iretW G hf hr dX11_law_28

theorem mX11_law {l : Launch} {S : KS} {w : Wd} (hI : Inj S) (M : Main S) {v1 : Int32} {v2 : Int32} {v3 : Int32} {r : Int32 × Wd} (hf : fX11_law v1 v2 v3 w = some r) : CI l yX11_law cX11_law 6 (some .int) 202 S [.ref 0, .int v1, .int v2, .int v3] w r.1 r.2 := by
  intro sz
  refine mk_entry rfl (by decide +kernel) hI 2 rfl rfl (fun K h1 h2 h3 h4 h5 h6 G => ?_)
  subst h2
  exact xX11_law_e G M hf ⟨h3, by rw [h4, h6], h5⟩

set_option maxHeartbeats 4000000 in
set_option maxRecDepth 100000 in
theorem xX11_lift_e {K : KT} {v1 : Int32} {v2 : Int32} {v3 : Int32} {v4 : Int32} {w : Wd} {r : Int32 × Wd} (G : GK K cX11_lift RX11 6 3) (M : Main K.ks) (hf : fX11_lift v1 v2 v3 v4 w = some r) (hr : RI K .int r.1 r.2) : XW K 0 [some (.ref 0), some (.int v1), some (.int v2), some (.int v3), some (.int v4), none] [] w := by
  unfold fX11_lift at hf
  refine x_iload_n G dX11_lift_0 rfl rfl ?_
  obtain ⟨v_1, hv_1, hf⟩ := bnd hf
  refine x_staI G (As := [.int v1]) (mX11_isCell G.2.2.2.2.2.2.1 M hv_1) ms_X11_88 rfl rfl rfl rfl rfl dX11_lift_1 ?_
  refine x_ifeqB G (tgt := 37) dX11_lift_4 (by decide) hf (fun c_2 hf => ?_) (fun c_2 hf => ?_)
  · refine x_iload_n G dX11_lift_7 rfl rfl ?_
    obtain ⟨v_3, hv_3, hf⟩ := bnd hf
    refine x_staI G (As := [.int v2]) (mX11_isCell G.2.2.2.2.2.2.1 M hv_3) ms_X11_88 rfl rfl rfl rfl rfl dX11_lift_8 ?_
    refine x_ifeqB G (tgt := 37) dX11_lift_11 (by decide) hf (fun c_4 hf => ?_) (fun c_4 hf => ?_)
    · refine x_iload_n G dX11_lift_14 rfl rfl ?_
      refine x_iconst G (v := 1) dX11_lift_15 (by decide) ?_
      refine x_sipush G (v := 9999) dX11_lift_16 (by decide) ?_
      obtain ⟨v_5, hv_5, hf⟩ := bnd hf
      refine x_staI G (As := [.int v3, .int (1 : Int32), .int (9999 : Int32)]) (mX11_within G.2.2.2.2.2.2.1 M hv_5) ms_X11_96 rfl rfl rfl rfl rfl dX11_lift_19 ?_
      refine x_ifeqB G (tgt := 37) dX11_lift_22 (by decide) hf (fun c_6 hf => ?_) (fun c_6 hf => ?_)
      · refine x_iload G dX11_lift_25 rfl ?_
        refine x_iconst G (v := 0) dX11_lift_27 (by decide) ?_
        refine x_sipush G (v := 9999) dX11_lift_28 (by decide) ?_
        obtain ⟨v_7, hv_7, hf⟩ := bnd hf
        refine x_staI G (As := [.int v4, .int (0 : Int32), .int (9999 : Int32)]) (mX11_within G.2.2.2.2.2.2.1 M hv_7) ms_X11_96 rfl rfl rfl rfl rfl dX11_lift_31 ?_
        refine x_ifneB G (tgt := 39) dX11_lift_34 (by decide) hf (fun c_8 hf => ?_) (fun c_8 hf => ?_)
        · refine x_iload_n G dX11_lift_39 rfl rfl ?_
          refine x_iload_n G dX11_lift_40 rfl rfl ?_
          refine x_icmpne G (tgt := 46) dX11_lift_41 (by decide) hf (fun c_9 hf => ?_) (fun c_9 hf => ?_)
          · refine x_iconst G (v := -1) dX11_lift_44 (by decide) ?_
            exact x_iretW G hf hr dX11_lift_45
          · refine x_aload_n G dX11_lift_46 rfl rfl ?_
            refine x_getR G (kd0 M) 0 (b := 1) rfl cl11 rfl wf_X11_10 dX11_lift_47 ?_
            refine x_getR G (kd1 M) 2 (b := 19) rfl cl0 rfl wf_X11_278 dX11_lift_50 ?_
            refine x_astore G (lv' := [some (.ref 0), some (.int v1), some (.int v2), some (.int v3), some (.int v4), some (.ref 19)]) dX11_lift_53 rfl rfl rfl ?_
            refine x_aload G dX11_lift_55 rfl ?_
            refine x_getR G (kd19 M) 0 (b := 20) rfl cl3 rfl wf_X11_282 dX11_lift_57 ?_
            refine x_iload_n G dX11_lift_60 rfl rfl ?_
            refine x_iald G (kd20 M) dX11_lift_61 hf (fun hb_10 hf => ?_)
            refine x_iconst G (v := 2) dX11_lift_62 (by decide) ?_
            refine x_icmpne G (tgt := 69) dX11_lift_63 (by decide) hf (fun c_11 hf => ?_) (fun c_11 hf => ?_)
            · refine x_bipush G (v := -3) dX11_lift_66 (by decide) ?_
              exact x_iretW G hf hr dX11_lift_68
            · refine x_aload G dX11_lift_69 rfl ?_
              refine x_iload_n G dX11_lift_71 rfl rfl ?_
              obtain ⟨v_12, hv_12, hf⟩ := bnd hf
              refine x_virI G (As := [.int v1]) (mX3_elsewhere G.2.2.2.2.2.2.1 M hv_12) mv_X11_287 (kd19 M) cl3 rfl rfl rfl rfl rfl dX11_lift_72 ?_
              refine x_bipush G (v := 12) dX11_lift_75 (by decide) ?_
              refine x_icmplt G (tgt := 83) dX11_lift_77 (by decide) hf (fun c_13 hf => ?_) (fun c_13 hf => ?_)
              · refine x_aload G dX11_lift_83 rfl ?_
                refine x_getR G (kd19 M) 0 (b := 20) rfl cl3 rfl wf_X11_282 dX11_lift_85 ?_
                refine x_iload_n G dX11_lift_88 rfl rfl ?_
                refine x_iconst G (v := 1) dX11_lift_89 (by decide) ?_
                refine x_iast0 G (kd20 M) dX11_lift_90 hb_10 ?_
                refine nwr hf (fun w_14 hf => ?_)
                refine x_aload G dX11_lift_91 rfl ?_
                refine x_getR G (kd19 M) 1 (b := 21) rfl cl3 rfl wf_X11_290 dX11_lift_93 ?_
                refine x_iload_n G dX11_lift_96 rfl rfl ?_
                refine x_iload_n G dX11_lift_97 rfl rfl ?_
                refine x_iast0 G (kd21 M) dX11_lift_98 hb_10 ?_
                refine nwr hf (fun w_15 hf => ?_)
                refine x_aload G dX11_lift_99 rfl ?_
                refine x_getR G (kd19 M) 2 (b := 22) rfl cl3 rfl wf_X11_293 dX11_lift_101 ?_
                refine x_iload_n G dX11_lift_104 rfl rfl ?_
                refine x_iload_n G dX11_lift_105 rfl rfl ?_
                refine x_iast0 G (kd22 M) dX11_lift_106 hb_10 ?_
                refine nwr hf (fun w_16 hf => ?_)
                refine x_aload G dX11_lift_107 rfl ?_
                refine x_getR G (kd19 M) 3 (b := 23) rfl cl3 rfl wf_X11_296 dX11_lift_109 ?_
                refine x_iload_n G dX11_lift_112 rfl rfl ?_
                refine x_iload G dX11_lift_113 rfl ?_
                refine x_iast0 G (kd23 M) dX11_lift_115 hb_10 ?_
                refine nwr hf (fun w_17 hf => ?_)
                refine x_aload G dX11_lift_116 rfl ?_
                refine x_getR G (kd19 M) 4 (b := 24) rfl cl3 rfl wf_X11_299 dX11_lift_118 ?_
                refine x_iload_n G dX11_lift_121 rfl rfl ?_
                refine x_iconst G (v := 0) dX11_lift_122 (by decide) ?_
                refine x_iast0 G (kd24 M) dX11_lift_123 hb_10 ?_
                refine nwr hf (fun w_18 hf => ?_)
                refine x_iconst G (v := 0) dX11_lift_124 (by decide) ?_
                exact x_iretW G hf hr dX11_lift_125
              · refine x_bipush G (v := -2) dX11_lift_80 (by decide) ?_
                exact x_iretW G hf hr dX11_lift_82
        · refine x_iconst G (v := -1) dX11_lift_37 (by decide) ?_
          exact x_iretW G hf hr dX11_lift_38
      · refine x_iconst G (v := -1) dX11_lift_37 (by decide) ?_
        exact x_iretW G hf hr dX11_lift_38
    · refine x_iconst G (v := -1) dX11_lift_37 (by decide) ?_
      exact x_iretW G hf hr dX11_lift_38
  · refine x_iconst G (v := -1) dX11_lift_37 (by decide) ?_
    exact x_iretW G hf hr dX11_lift_38

theorem mX11_lift {l : Launch} {S : KS} {w : Wd} (hI : Inj S) (M : Main S) {v1 : Int32} {v2 : Int32} {v3 : Int32} {v4 : Int32} {r : Int32 × Wd} (hf : fX11_lift v1 v2 v3 v4 w = some r) : CI l yX11_lift cX11_lift 6 (some .int) 3 S [.ref 0, .int v1, .int v2, .int v3, .int v4] w r.1 r.2 := by
  intro sz
  refine mk_entry rfl (by decide +kernel) hI 1 rfl rfl (fun K h1 h2 h3 h4 h5 h6 G => ?_)
  subst h2
  exact xX11_lift_e G M hf ⟨h3, by rw [h4, h6], h5⟩

set_option maxHeartbeats 4000000 in
set_option maxRecDepth 100000 in
theorem xX11_map_e {K : KT} {v1 : Int32} {v2 : Int32} {v3 : Int32} {w : Wd} {r : Int32 × Wd} (G : GK K cX11_map RX11 4 4) (M : Main K.ks) (hf : fX11_map v1 v2 v3 w = some r) (hr : RI K .int r.1 r.2) : XW K 0 [some (.ref 0), some (.int v1), some (.int v2), some (.int v3)] [] w := by
  unfold fX11_map at hf
  refine x_iload_n G dX11_map_0 rfl rfl ?_
  obtain ⟨v_1, hv_1, hf⟩ := bnd hf
  refine x_staI G (As := [.int v1]) (mX11_isCell G.2.2.2.2.2.2.1 M hv_1) ms_X11_88 rfl rfl rfl rfl rfl dX11_map_1 ?_
  refine x_ifeqB G (tgt := 26) dX11_map_4 (by decide) hf (fun c_2 hf => ?_) (fun c_2 hf => ?_)
  · refine x_iload_n G dX11_map_7 rfl rfl ?_
    refine x_iload_n G dX11_map_8 rfl rfl ?_
    obtain ⟨v_3, hv_3, hf⟩ := bnd hf
    refine x_staI G (As := [.int v1, .int v2]) (mX11_isDown G.2.2.2.2.2.2.1 M hv_3) ms_X11_170 rfl rfl rfl rfl rfl dX11_map_9 ?_
    refine x_ifeqB G (tgt := 26) dX11_map_12 (by decide) hf (fun c_4 hf => ?_) (fun c_4 hf => ?_)
    · refine x_iload_n G dX11_map_15 rfl rfl ?_
      refine x_iconst G (v := 0) dX11_map_16 (by decide) ?_
      refine x_sipush G (v := 300) dX11_map_17 (by decide) ?_
      obtain ⟨v_5, hv_5, hf⟩ := bnd hf
      refine x_staI G (As := [.int v3, .int (0 : Int32), .int (300 : Int32)]) (mX11_within G.2.2.2.2.2.2.1 M hv_5) ms_X11_96 rfl rfl rfl rfl rfl dX11_map_20 ?_
      refine x_ifneB G (tgt := 28) dX11_map_23 (by decide) hf (fun c_6 hf => ?_) (fun c_6 hf => ?_)
      · refine x_aload_n G dX11_map_28 rfl rfl ?_
        refine x_getR G (kd0 M) 0 (b := 1) rfl cl11 rfl wf_X11_10 dX11_map_29 ?_
        refine x_getR G (kd1 M) 3 (b := 30) rfl cl0 rfl wf_X11_183 dX11_map_32 ?_
        refine x_getI G (kd30 M) 0 rfl cl6 rfl wf_X11_187 dX11_map_35 ?_
        refine x_sipush G (v := 200) dX11_map_38 (by decide) ?_
        refine x_icmplt G (tgt := 47) dX11_map_41 (by decide) hf (fun c_7 hf => ?_) (fun c_7 hf => ?_)
        · refine x_aload_n G dX11_map_47 rfl rfl ?_
          refine x_getR G (kd0 M) 0 (b := 1) rfl cl11 rfl wf_X11_10 dX11_map_48 ?_
          refine x_getR G (kd1 M) 3 (b := 30) rfl cl0 rfl wf_X11_183 dX11_map_51 ?_
          refine x_iload_n G dX11_map_54 rfl rfl ?_
          refine x_iload_n G dX11_map_55 rfl rfl ?_
          refine x_iload_n G dX11_map_56 rfl rfl ?_
          refine x_aload_n G dX11_map_57 rfl rfl ?_
          refine x_getR G (kd0 M) 0 (b := 1) rfl cl11 rfl wf_X11_10 dX11_map_58 ?_
          obtain ⟨v_8, hv_8, hf⟩ := bnd hf
          refine x_virI G (As := []) (mX0_today G.2.2.2.2.2.2.1 M hv_8) mv_X11_190 (kd1 M) cl0 rfl rfl rfl rfl rfl dX11_map_61 ?_
          obtain ⟨v_9, hv_9, hf⟩ := bnd hf
          refine x_virV G (As := [.int v1, .int v2, .int v3, .int v_8]) (mX6_note G.2.2.2.2.2.2.1 M hv_9) mv_X11_194 (kd30 M) cl6 rfl rfl rfl rfl rfl dX11_map_64 ?_
          refine x_aload_n G dX11_map_67 rfl rfl ?_
          refine x_getR G (kd0 M) 0 (b := 1) rfl cl11 rfl wf_X11_10 dX11_map_68 ?_
          refine x_getR G (kd1 M) 3 (b := 30) rfl cl0 rfl wf_X11_183 dX11_map_71 ?_
          refine x_getI G (kd30 M) 0 rfl cl6 rfl wf_X11_187 dX11_map_74 ?_
          exact x_iretW G hf hr dX11_map_77
        · refine x_bipush G (v := -2) dX11_map_44 (by decide) ?_
          exact x_iretW G hf hr dX11_map_46
      · refine x_iconst G (v := -1) dX11_map_26 (by decide) ?_
        exact x_iretW G hf hr dX11_map_27
    · refine x_iconst G (v := -1) dX11_map_26 (by decide) ?_
      exact x_iretW G hf hr dX11_map_27
  · refine x_iconst G (v := -1) dX11_map_26 (by decide) ?_
    exact x_iretW G hf hr dX11_map_27

theorem mX11_map {l : Launch} {S : KS} {w : Wd} (hI : Inj S) (M : Main S) {v1 : Int32} {v2 : Int32} {v3 : Int32} {r : Int32 × Wd} (hf : fX11_map v1 v2 v3 w = some r) : CI l yX11_map cX11_map 4 (some .int) 4 S [.ref 0, .int v1, .int v2, .int v3] w r.1 r.2 := by
  intro sz
  refine mk_entry rfl (by decide +kernel) hI 0 rfl rfl (fun K h1 h2 h3 h4 h5 h6 G => ?_)
  subst h2
  exact xX11_map_e G M hf ⟨h3, by rw [h4, h6], h5⟩

set_option maxHeartbeats 4000000 in
set_option maxRecDepth 100000 in
theorem xX11_mapOf_e {K : KT} {v1 : Int32} {v2 : Int32} {v3 : Int32} {w : Wd} {r : Int32} (G : GK K cX11_mapOf RX11 5 3) (M : Main K.ks) (hf : fX11_mapOf v1 v2 v3 w = some r) (hr : RI K .int r w) : XW K 0 [some (.ref 0), some (.int v1), some (.int v2), some (.int v3), none] [] w := by
  unfold fX11_mapOf at hf
  refine x_iload_n G dX11_mapOf_0 rfl rfl ?_
  obtain ⟨v_1, hv_1, hf⟩ := bnd hf
  refine x_staI G (As := [.int v1]) (mX11_isCell G.2.2.2.2.2.2.1 M hv_1) ms_X11_88 rfl rfl rfl rfl rfl dX11_mapOf_1 ?_
  refine x_ifeqB G (tgt := 27) dX11_mapOf_4 (by decide) hf (fun c_2 hf => ?_) (fun c_2 hf => ?_)
  · refine x_iload_n G dX11_mapOf_7 rfl rfl ?_
    refine x_iconst G (v := 0) dX11_mapOf_8 (by decide) ?_
    refine x_iconst G (v := 1) dX11_mapOf_9 (by decide) ?_
    obtain ⟨v_3, hv_3, hf⟩ := bnd hf
    refine x_staI G (As := [.int v2, .int (0 : Int32), .int (1 : Int32)]) (mX11_within G.2.2.2.2.2.2.1 M hv_3) ms_X11_96 rfl rfl rfl rfl rfl dX11_mapOf_10 ?_
    refine x_ifeqB G (tgt := 27) dX11_mapOf_13 (by decide) hf (fun c_4 hf => ?_) (fun c_4 hf => ?_)
    · refine x_iload_n G dX11_mapOf_16 rfl rfl ?_
      refine x_iconst G (v := 0) dX11_mapOf_17 (by decide) ?_
      refine x_sipush G (v := 4999) dX11_mapOf_18 (by decide) ?_
      obtain ⟨v_5, hv_5, hf⟩ := bnd hf
      refine x_staI G (As := [.int v3, .int (0 : Int32), .int (4999 : Int32)]) (mX11_within G.2.2.2.2.2.2.1 M hv_5) ms_X11_96 rfl rfl rfl rfl rfl dX11_mapOf_21 ?_
      refine x_ifneB G (tgt := 29) dX11_mapOf_24 (by decide) hf (fun c_6 hf => ?_) (fun c_6 hf => ?_)
      · refine x_aload_n G dX11_mapOf_29 rfl rfl ?_
        refine x_getR G (kd0 M) 0 (b := 1) rfl cl11 rfl wf_X11_10 dX11_mapOf_30 ?_
        refine x_getR G (kd1 M) 3 (b := 30) rfl cl0 rfl wf_X11_183 dX11_mapOf_33 ?_
        refine x_iload_n G dX11_mapOf_36 rfl rfl ?_
        refine x_iload_n G dX11_mapOf_37 rfl rfl ?_
        obtain ⟨v_7, hv_7, hf⟩ := bnd hf
        refine x_virI G (As := [.int v1, .int v3]) (mX6_latest G.2.2.2.2.2.2.1 M hv_7) mv_X11_198 (kd30 M) cl6 rfl rfl rfl rfl rfl dX11_mapOf_38 ?_
        refine x_istore G (lv' := [some (.ref 0), some (.int v1), some (.int v2), some (.int v3), some (.int v_7)]) dX11_mapOf_41 rfl rfl rfl ?_
        refine x_iload G dX11_mapOf_43 rfl ?_
        refine x_ifge G (tgt := 51) dX11_mapOf_45 (by decide) hf (fun c_8 hf => ?_) (fun c_8 hf => ?_)
        · refine x_bipush G (v := -9) dX11_mapOf_48 (by decide) ?_
          exact x_iretP G hf hr dX11_mapOf_50
        · refine x_iload_n G dX11_mapOf_51 rfl rfl ?_
          refine x_ifne G (tgt := 71) dX11_mapOf_52 (by decide) hf (fun c_9 hf => ?_) (fun c_9 hf => ?_)
          · refine x_aload_n G dX11_mapOf_55 rfl rfl ?_
            refine x_getR G (kd0 M) 0 (b := 1) rfl cl11 rfl wf_X11_10 dX11_mapOf_56 ?_
            refine x_getR G (kd1 M) 3 (b := 30) rfl cl0 rfl wf_X11_183 dX11_mapOf_59 ?_
            refine x_getR G (kd30 M) 2 (b := 32) rfl cl6 rfl wf_X11_201 dX11_mapOf_62 ?_
            refine x_iload G dX11_mapOf_65 rfl ?_
            refine x_iald G (kd32 M) dX11_mapOf_67 hf (fun hb_10 hf => ?_)
            refine x_goto G (tgt := 84) dX11_mapOf_68 (by decide) ?_
            exact x_iretP G hf hr dX11_mapOf_84
          · refine x_aload_n G dX11_mapOf_71 rfl rfl ?_
            refine x_getR G (kd0 M) 0 (b := 1) rfl cl11 rfl wf_X11_10 dX11_mapOf_72 ?_
            refine x_getR G (kd1 M) 3 (b := 30) rfl cl0 rfl wf_X11_183 dX11_mapOf_75 ?_
            refine x_getR G (kd30 M) 3 (b := 33) rfl cl6 rfl wf_X11_202 dX11_mapOf_78 ?_
            refine x_iload G dX11_mapOf_81 rfl ?_
            refine x_iald G (kd33 M) dX11_mapOf_83 hf (fun hb_11 hf => ?_)
            exact x_iretP G hf hr dX11_mapOf_84
      · refine x_iconst G (v := -1) dX11_mapOf_27 (by decide) ?_
        exact x_iretP G hf hr dX11_mapOf_28
    · refine x_iconst G (v := -1) dX11_mapOf_27 (by decide) ?_
      exact x_iretP G hf hr dX11_mapOf_28
  · refine x_iconst G (v := -1) dX11_mapOf_27 (by decide) ?_
    exact x_iretP G hf hr dX11_mapOf_28

theorem mX11_mapOf {l : Launch} {S : KS} {w : Wd} (hI : Inj S) (M : Main S) {v1 : Int32} {v2 : Int32} {v3 : Int32} {r : Int32} (hf : fX11_mapOf v1 v2 v3 w = some r) : CI l yX11_mapOf cX11_mapOf 5 (some .int) 3 S [.ref 0, .int v1, .int v2, .int v3] w r w := by
  intro sz
  refine mk_entry rfl (by decide +kernel) hI 1 rfl rfl (fun K h1 h2 h3 h4 h5 h6 G => ?_)
  subst h2
  exact xX11_mapOf_e G M hf ⟨h3, by rw [h4, h6], h5⟩

set_option maxHeartbeats 4000000 in
set_option maxRecDepth 100000 in
theorem xX11_mostOf_e {K : KT} {v0 : Int32} {w : Wd} {r : Int32} (G : GK K cX11_mostOf RX11 1 1) (M : Main K.ks) (hf : fX11_mostOf v0 w = some r) (hr : RI K .int r w) : XW K 0 [some (.int v0)] [] w := by
  unfold fX11_mostOf at hf
  refine x_iload_n G dX11_mostOf_0 rfl rfl ?_
  rcases ite_or hf with ⟨c_1, hf⟩ | ⟨c_1, hf⟩
  · refine x_swIn G (tgt := 32) (off := 31) (k := 0) dX11_mostOf_1 c_1 (by decide) (by decide) (by decide) (by decide) ?_
    refine x_sipush G (v := 300) dX11_mostOf_32 (by decide) ?_
    exact x_iretP G hf hr dX11_mostOf_35
  rcases ite_or hf with ⟨c_2, hf⟩ | ⟨c_2, hf⟩
  · refine x_swIn G (tgt := 36) (off := 35) (k := 1) dX11_mostOf_1 c_2 (by decide) (by decide) (by decide) (by decide) ?_
    refine x_iconst G (v := 3) dX11_mostOf_36 (by decide) ?_
    exact x_iretP G hf hr dX11_mostOf_37
  rcases ite_or hf with ⟨c_3, hf⟩ | ⟨c_3, hf⟩
  · refine x_swIn G (tgt := 38) (off := 37) (k := 2) dX11_mostOf_1 c_3 (by decide) (by decide) (by decide) (by decide) ?_
    refine x_sipush G (v := 9999) dX11_mostOf_38 (by decide) ?_
    exact x_iretP G hf hr dX11_mostOf_41
  rcases ite_or hf with ⟨c_4, hf⟩ | ⟨c_4, hf⟩
  · refine x_swIn G (tgt := 42) (off := 41) (k := 3) dX11_mostOf_1 c_4 (by decide) (by decide) (by decide) (by decide) ?_
    refine x_bipush G (v := 99) dX11_mostOf_42 (by decide) ?_
    exact x_iretP G hf hr dX11_mostOf_44
  refine x_swDef G (tgt := 45) dX11_mostOf_1 (by decide) [0, 1, 2, 3] (List.forall_mem_cons.mpr ⟨nek c_1 (by decide), (List.forall_mem_cons.mpr ⟨nek c_2 (by decide), (List.forall_mem_cons.mpr ⟨nek c_3 (by decide), (List.forall_mem_cons.mpr ⟨nek c_4 (by decide), (fun _ h => absurd h List.not_mem_nil)⟩)⟩)⟩)⟩) (by decide +kernel) ?_
  refine x_iconst G (v := 1) dX11_mostOf_45 (by decide) ?_
  exact x_iretP G hf hr dX11_mostOf_46

theorem mX11_mostOf {l : Launch} {S : KS} {w : Wd} (hI : Inj S) (M : Main S) {v0 : Int32} {r : Int32} (hf : fX11_mostOf v0 w = some r) : CI l yX11_mostOf cX11_mostOf 1 (some .int) 1 S [.int v0] w r w := by
  intro sz
  refine mk_entry rfl (by decide +kernel) hI 0 rfl rfl (fun K h1 h2 h3 h4 h5 h6 G => ?_)
  subst h2
  exact xX11_mostOf_e G M hf ⟨h3, by rw [h4, h6], h5⟩

set_option maxHeartbeats 4000000 in
set_option maxRecDepth 100000 in
theorem xX11_old_e {K : KT} {v1 : Int32} {v2 : Int32} {v3 : Int32} {v4 : Int32} {w : Wd} {r : Int32 × Wd} (G : GK K cX11_old RX11 5 4) (M : Main K.ks) (hf : fX11_old v1 v2 v3 v4 w = some r) (hr : RI K .int r.1 r.2) : XW K 0 [some (.ref 0), some (.int v1), some (.int v2), some (.int v3), some (.int v4)] [] w := by
  unfold fX11_old at hf
  refine x_iload_n G dX11_old_0 rfl rfl ?_
  obtain ⟨v_1, hv_1, hf⟩ := bnd hf
  refine x_staI G (As := [.int v1]) (mX11_isCell G.2.2.2.2.2.2.1 M hv_1) ms_X11_88 rfl rfl rfl rfl rfl dX11_old_1 ?_
  refine x_ifeqB G (tgt := 15) dX11_old_4 (by decide) hf (fun c_2 hf => ?_) (fun c_2 hf => ?_)
  · refine x_iload_n G dX11_old_7 rfl rfl ?_
    refine x_iload_n G dX11_old_8 rfl rfl ?_
    obtain ⟨v_3, hv_3, hf⟩ := bnd hf
    refine x_staI G (As := [.int v1, .int v2]) (mX11_isDown G.2.2.2.2.2.2.1 M hv_3) ms_X11_170 rfl rfl rfl rfl rfl dX11_old_9 ?_
    refine x_ifneB G (tgt := 17) dX11_old_12 (by decide) hf (fun c_4 hf => ?_) (fun c_4 hf => ?_)
    · refine x_iload_n G dX11_old_17 rfl rfl ?_
      refine x_iconst G (v := 0) dX11_old_18 (by decide) ?_
      refine x_sipush G (v := 300) dX11_old_19 (by decide) ?_
      obtain ⟨v_5, hv_5, hf⟩ := bnd hf
      refine x_staI G (As := [.int v3, .int (0 : Int32), .int (300 : Int32)]) (mX11_within G.2.2.2.2.2.2.1 M hv_5) ms_X11_96 rfl rfl rfl rfl rfl dX11_old_22 ?_
      refine x_ifeqB G (tgt := 39) dX11_old_25 (by decide) hf (fun c_6 hf => ?_) (fun c_6 hf => ?_)
      · refine x_iload G dX11_old_28 rfl ?_
        refine x_iconst G (v := 0) dX11_old_30 (by decide) ?_
        refine x_bipush G (v := 9) dX11_old_31 (by decide) ?_
        obtain ⟨v_7, hv_7, hf⟩ := bnd hf
        refine x_staI G (As := [.int v4, .int (0 : Int32), .int (9 : Int32)]) (mX11_within G.2.2.2.2.2.2.1 M hv_7) ms_X11_96 rfl rfl rfl rfl rfl dX11_old_33 ?_
        refine x_ifneB G (tgt := 41) dX11_old_36 (by decide) hf (fun c_8 hf => ?_) (fun c_8 hf => ?_)
        · refine x_aload_n G dX11_old_41 rfl rfl ?_
          refine x_getR G (kd0 M) 0 (b := 1) rfl cl11 rfl wf_X11_10 dX11_old_42 ?_
          refine x_getR G (kd1 M) 0 (b := 2) rfl cl0 rfl wf_X11_78 dX11_old_45 ?_
          refine x_getR G (kd2 M) 6 (b := 9) rfl cl2 rfl wf_X11_174 dX11_old_48 ?_
          refine x_iload_n G dX11_old_51 rfl rfl ?_
          refine x_iload_n G dX11_old_52 rfl rfl ?_
          refine x_iast G (kd9 M) dX11_old_53 hf (fun hb_9 hf => ?_)
          refine nwr hf (fun w_10 hf => ?_)
          refine x_aload_n G dX11_old_54 rfl rfl ?_
          refine x_getR G (kd0 M) 0 (b := 1) rfl cl11 rfl wf_X11_10 dX11_old_55 ?_
          refine x_getR G (kd1 M) 0 (b := 2) rfl cl0 rfl wf_X11_78 dX11_old_58 ?_
          refine x_getR G (kd2 M) 7 (b := 10) rfl cl2 rfl wf_X11_177 dX11_old_61 ?_
          refine x_iload_n G dX11_old_64 rfl rfl ?_
          refine x_iload_n G dX11_old_65 rfl rfl ?_
          refine x_iast0 G (kd10 M) dX11_old_66 hb_9 ?_
          refine nwr hf (fun w_11 hf => ?_)
          refine x_aload_n G dX11_old_67 rfl rfl ?_
          refine x_getR G (kd0 M) 0 (b := 1) rfl cl11 rfl wf_X11_10 dX11_old_68 ?_
          refine x_getR G (kd1 M) 0 (b := 2) rfl cl0 rfl wf_X11_78 dX11_old_71 ?_
          refine x_getR G (kd2 M) 8 (b := 11) rfl cl2 rfl wf_X11_180 dX11_old_74 ?_
          refine x_iload_n G dX11_old_77 rfl rfl ?_
          refine x_iload G dX11_old_78 rfl ?_
          refine x_iast0 G (kd11 M) dX11_old_80 hb_9 ?_
          refine nwr hf (fun w_12 hf => ?_)
          refine x_iconst G (v := 0) dX11_old_81 (by decide) ?_
          exact x_iretW G hf hr dX11_old_82
        · refine x_iconst G (v := -1) dX11_old_39 (by decide) ?_
          exact x_iretW G hf hr dX11_old_40
      · refine x_iconst G (v := -1) dX11_old_39 (by decide) ?_
        exact x_iretW G hf hr dX11_old_40
    · refine x_iconst G (v := -1) dX11_old_15 (by decide) ?_
      exact x_iretW G hf hr dX11_old_16
  · refine x_iconst G (v := -1) dX11_old_15 (by decide) ?_
    exact x_iretW G hf hr dX11_old_16

theorem mX11_old {l : Launch} {S : KS} {w : Wd} (hI : Inj S) (M : Main S) {v1 : Int32} {v2 : Int32} {v3 : Int32} {v4 : Int32} {r : Int32 × Wd} (hf : fX11_old v1 v2 v3 v4 w = some r) : CI l yX11_old cX11_old 5 (some .int) 4 S [.ref 0, .int v1, .int v2, .int v3, .int v4] w r.1 r.2 := by
  intro sz
  refine mk_entry rfl (by decide +kernel) hI 0 rfl rfl (fun K h1 h2 h3 h4 h5 h6 G => ?_)
  subst h2
  exact xX11_old_e G M hf ⟨h3, by rw [h4, h6], h5⟩

set_option maxHeartbeats 4000000 in
set_option maxRecDepth 100000 in
theorem xX11_spillTank_e {K : KT} {v1 : Int32} {w : Wd} {r : Wd} (G : GK K cX11_spillTank RX11 5 1) (M : Main K.ks) (hf : fX11_spillTank v1 w = some r) (hr : RV K r) : XW K 0 [some (.ref 0), some (.int v1), none, none, none] [] w := by
  unfold fX11_spillTank at hf
  refine x_aload_n G dX11_spillTank_0 rfl rfl ?_
  refine x_getR G (kd0 M) 0 (b := 1) rfl cl11 rfl wf_X11_10 dX11_spillTank_1 ?_
  refine x_getR G (kd1 M) 2 (b := 19) rfl cl0 rfl wf_X11_278 dX11_spillTank_4 ?_
  refine x_astore_n G (lv' := [some (.ref 0), some (.int v1), some (.ref 19), none, none]) dX11_spillTank_7 rfl rfl rfl rfl ?_
  refine x_aload_n G dX11_spillTank_8 rfl rfl ?_
  refine x_getR G (kd19 M) 8 (b := 28) rfl cl3 rfl wf_X11_322 dX11_spillTank_9 ?_
  refine x_iload_n G dX11_spillTank_12 rfl rfl ?_
  refine x_iald G (kd28 M) dX11_spillTank_13 hf (fun hb_1 hf => ?_)
  refine x_aload_n G dX11_spillTank_14 rfl rfl ?_
  refine x_getR G (kd19 M) 9 (b := 29) rfl cl3 rfl wf_X11_325 dX11_spillTank_15 ?_
  refine x_iload_n G dX11_spillTank_18 rfl rfl ?_
  refine x_iald0 G (kd29 M) dX11_spillTank_19 hb_1 ?_
  refine x_iadd G dX11_spillTank_20 ?_
  refine x_aload_n G dX11_spillTank_21 rfl rfl ?_
  refine x_getR G (kd19 M) 5 (b := 25) rfl cl3 rfl wf_X11_309 dX11_spillTank_22 ?_
  refine x_iload_n G dX11_spillTank_25 rfl rfl ?_
  refine x_iald0 G (kd25 M) dX11_spillTank_26 hb_1 ?_
  refine x_isub G dX11_spillTank_27 ?_
  refine x_istore_n G (lv' := [some (.ref 0), some (.int v1), some (.ref 19), some (.int (((ri w 28 v1) + (ri w 29 v1)) - (ri w 25 v1))), none]) dX11_spillTank_28 rfl rfl rfl rfl ?_
  refine x_iload_n G dX11_spillTank_29 rfl rfl ?_
  refine x_ifgt G (tgt := 34) dX11_spillTank_30 (by decide) hf (fun c_2 hf => ?_) (fun c_2 hf => ?_)
  · refine x_iload_n G dX11_spillTank_34 rfl rfl ?_
    refine x_aload_n G dX11_spillTank_35 rfl rfl ?_
    refine x_getR G (kd19 M) 9 (b := 29) rfl cl3 rfl wf_X11_325 dX11_spillTank_36 ?_
    refine x_iload_n G dX11_spillTank_39 rfl rfl ?_
    refine x_iald0 G (kd29 M) dX11_spillTank_40 hb_1 ?_
    refine x_min G wm_X11_328 wmin_1 wmin_2 wmin_3 rfl rfl dX11_spillTank_41 ?_
    refine x_istore G (lv' := [some (.ref 0), some (.int v1), some (.ref 19), some (.int (((ri w 28 v1) + (ri w 29 v1)) - (ri w 25 v1))), some (.int (mmin (((ri w 28 v1) + (ri w 29 v1)) - (ri w 25 v1)) (ri w 29 v1)))]) dX11_spillTank_44 rfl rfl rfl ?_
    refine x_aload_n G dX11_spillTank_46 rfl rfl ?_
    refine x_getR G (kd19 M) 9 (b := 29) rfl cl3 rfl wf_X11_325 dX11_spillTank_47 ?_
    refine x_iload_n G dX11_spillTank_50 rfl rfl ?_
    refine x_dup2 G dX11_spillTank_51 rfl rfl ?_
    refine x_iald0 G (kd29 M) dX11_spillTank_52 hb_1 ?_
    refine x_iload G dX11_spillTank_53 rfl ?_
    refine x_isub G dX11_spillTank_55 ?_
    refine x_iast0 G (kd29 M) dX11_spillTank_56 hb_1 ?_
    refine nwr hf (fun w_3 hf => ?_)
    refine x_aload_n G dX11_spillTank_57 rfl rfl ?_
    refine x_getR G (kd19 M) 8 (b := 28) rfl cl3 rfl wf_X11_322 dX11_spillTank_58 ?_
    refine x_iload_n G dX11_spillTank_61 rfl rfl ?_
    refine x_dup2 G dX11_spillTank_62 rfl rfl ?_
    refine x_iald0 G (kd28 M) dX11_spillTank_63 hb_1 ?_
    refine x_iload_n G dX11_spillTank_64 rfl rfl ?_
    refine x_iload G dX11_spillTank_65 rfl ?_
    refine x_isub G dX11_spillTank_67 ?_
    refine x_isub G dX11_spillTank_68 ?_
    refine x_iast0 G (kd28 M) dX11_spillTank_69 hb_1 ?_
    refine nwr hf (fun w_4 hf => ?_)
    refine x_aload_n G dX11_spillTank_70 rfl rfl ?_
    refine x_getR G (kd0 M) 0 (b := 1) rfl cl11 rfl wf_X11_10 dX11_spillTank_71 ?_
    refine x_getR G (kd1 M) 1 (b := 14) rfl cl0 rfl wf_X11_116 dX11_spillTank_74 ?_
    refine x_getR G (kd14 M) 1 (b := 16) rfl cl10 rfl wf_X11_125 dX11_spillTank_77 ?_
    refine x_iload_n G dX11_spillTank_80 rfl rfl ?_
    refine x_dup2 G dX11_spillTank_81 rfl rfl ?_
    refine x_iald0 G (kd16 M) dX11_spillTank_82 hb_1 ?_
    refine x_iload G dX11_spillTank_83 rfl ?_
    refine x_iadd G dX11_spillTank_85 ?_
    refine x_iast0 G (kd16 M) dX11_spillTank_86 hb_1 ?_
    refine nwr hf (fun w_5 hf => ?_)
    refine x_aload_n G dX11_spillTank_87 rfl rfl ?_
    refine x_getR G (kd0 M) 0 (b := 1) rfl cl11 rfl wf_X11_10 dX11_spillTank_88 ?_
    refine x_getR G (kd1 M) 1 (b := 14) rfl cl0 rfl wf_X11_116 dX11_spillTank_91 ?_
    refine x_getR G (kd14 M) 0 (b := 15) rfl cl10 rfl wf_X11_120 dX11_spillTank_94 ?_
    refine x_iload_n G dX11_spillTank_97 rfl rfl ?_
    refine x_dup2 G dX11_spillTank_98 rfl rfl ?_
    refine x_iald0 G (kd15 M) dX11_spillTank_99 hb_1 ?_
    refine x_iload_n G dX11_spillTank_100 rfl rfl ?_
    refine x_iload G dX11_spillTank_101 rfl ?_
    refine x_isub G dX11_spillTank_103 ?_
    refine x_iadd G dX11_spillTank_104 ?_
    refine x_iast0 G (kd15 M) dX11_spillTank_105 hb_1 ?_
    refine nwr hf (fun w_6 hf => ?_)
    exact x_vretW G hf hr dX11_spillTank_106
  · exact x_vretW G hf hr dX11_spillTank_33

theorem mX11_spillTank {l : Launch} {S : KS} {w : Wd} (hI : Inj S) (M : Main S) {v1 : Int32} {r : Wd} (hf : fX11_spillTank v1 w = some r) : CV l yX11_spillTank cX11_spillTank 5 none 1 S [.ref 0, .int v1] w r := by
  intro sz
  refine mk_entry rfl (by decide +kernel) hI 3 rfl rfl (fun K h1 h2 h3 h4 h5 h6 G => ?_)
  subst h2
  exact xX11_spillTank_e G M hf ⟨h3, by rw [h4, h6], h5⟩

set_option maxHeartbeats 4000000 in
set_option maxRecDepth 100000 in
theorem xX11_out_e {K : KT} {v1 : Int32} {v2 : Int32} {v3 : Int32} {v4 : Int32} {w : Wd} {r : Int32 × Wd} (G : GK K cX11_out RX11 6 3) (M : Main K.ks) (hf : fX11_out v1 v2 v3 v4 w = some r) (hr : RI K .int r.1 r.2) : XW K 0 [some (.ref 0), some (.int v1), some (.int v2), some (.int v3), some (.int v4), none] [] w := by
  unfold fX11_out at hf
  refine x_iload_n G dX11_out_0 rfl rfl ?_
  obtain ⟨v_1, hv_1, hf⟩ := bnd hf
  refine x_staI G (As := [.int v1]) (mX11_isCell G.2.2.2.2.2.2.1 M hv_1) ms_X11_88 rfl rfl rfl rfl rfl dX11_out_1 ?_
  refine x_ifeqB G (tgt := 29) dX11_out_4 (by decide) hf (fun c_2 hf => ?_) (fun c_2 hf => ?_)
  · refine x_iload_n G dX11_out_7 rfl rfl ?_
    refine x_iconst G (v := 1) dX11_out_8 (by decide) ?_
    refine x_sipush G (v := 9999) dX11_out_9 (by decide) ?_
    obtain ⟨v_3, hv_3, hf⟩ := bnd hf
    refine x_staI G (As := [.int v2, .int (1 : Int32), .int (9999 : Int32)]) (mX11_within G.2.2.2.2.2.2.1 M hv_3) ms_X11_96 rfl rfl rfl rfl rfl dX11_out_12 ?_
    refine x_ifeqB G (tgt := 29) dX11_out_15 (by decide) hf (fun c_4 hf => ?_) (fun c_4 hf => ?_)
    · refine x_iload_n G dX11_out_18 rfl rfl ?_
      refine x_iconst G (v := 1) dX11_out_19 (by decide) ?_
      refine x_sipush G (v := 9999) dX11_out_20 (by decide) ?_
      obtain ⟨v_5, hv_5, hf⟩ := bnd hf
      refine x_staI G (As := [.int v3, .int (1 : Int32), .int (9999 : Int32)]) (mX11_within G.2.2.2.2.2.2.1 M hv_5) ms_X11_96 rfl rfl rfl rfl rfl dX11_out_23 ?_
      refine x_ifneB G (tgt := 31) dX11_out_26 (by decide) hf (fun c_6 hf => ?_) (fun c_6 hf => ?_)
      · refine x_iload G dX11_out_31 rfl ?_
        refine x_bipush G (v := -128) dX11_out_33 (by decide) ?_
        refine x_bipush G (v := 127) dX11_out_35 (by decide) ?_
        obtain ⟨v_7, hv_7, hf⟩ := bnd hf
        refine x_staI G (As := [.int v4, .int (-128 : Int32), .int (127 : Int32)]) (mX11_within G.2.2.2.2.2.2.1 M hv_7) ms_X11_96 rfl rfl rfl rfl rfl dX11_out_37 ?_
        refine x_ifneB G (tgt := 45) dX11_out_40 (by decide) hf (fun c_8 hf => ?_) (fun c_8 hf => ?_)
        · refine x_aload_n G dX11_out_45 rfl rfl ?_
          refine x_getR G (kd0 M) 0 (b := 1) rfl cl11 rfl wf_X11_10 dX11_out_46 ?_
          refine x_getR G (kd1 M) 2 (b := 19) rfl cl0 rfl wf_X11_278 dX11_out_49 ?_
          refine x_astore G (lv' := [some (.ref 0), some (.int v1), some (.int v2), some (.int v3), some (.int v4), some (.ref 19)]) dX11_out_52 rfl rfl rfl ?_
          refine x_aload G dX11_out_54 rfl ?_
          refine x_getR G (kd19 M) 0 (b := 20) rfl cl3 rfl wf_X11_282 dX11_out_56 ?_
          refine x_iload_n G dX11_out_59 rfl rfl ?_
          refine x_iald G (kd20 M) dX11_out_60 hf (fun hb_9 hf => ?_)
          refine x_iconst G (v := 1) dX11_out_61 (by decide) ?_
          refine x_icmpne G (tgt := 68) dX11_out_62 (by decide) hf (fun c_10 hf => ?_) (fun c_10 hf => ?_)
          · refine x_bipush G (v := -3) dX11_out_65 (by decide) ?_
            exact x_iretW G hf hr dX11_out_67
          · refine x_aload G dX11_out_68 rfl ?_
            refine x_iload_n G dX11_out_70 rfl rfl ?_
            obtain ⟨v_11, hv_11, hf⟩ := bnd hf
            refine x_virI G (As := [.int v1]) (mX3_elsewhere G.2.2.2.2.2.2.1 M hv_11) mv_X11_287 (kd19 M) cl3 rfl rfl rfl rfl rfl dX11_out_71 ?_
            refine x_bipush G (v := 12) dX11_out_74 (by decide) ?_
            refine x_icmplt G (tgt := 82) dX11_out_76 (by decide) hf (fun c_12 hf => ?_) (fun c_12 hf => ?_)
            · refine x_aload G dX11_out_82 rfl ?_
              refine x_getR G (kd19 M) 0 (b := 20) rfl cl3 rfl wf_X11_282 dX11_out_84 ?_
              refine x_iload_n G dX11_out_87 rfl rfl ?_
              refine x_iconst G (v := 2) dX11_out_88 (by decide) ?_
              refine x_iast0 G (kd20 M) dX11_out_89 hb_9 ?_
              refine nwr hf (fun w_13 hf => ?_)
              refine x_aload G dX11_out_90 rfl ?_
              refine x_getR G (kd19 M) 5 (b := 25) rfl cl3 rfl wf_X11_309 dX11_out_92 ?_
              refine x_iload_n G dX11_out_95 rfl rfl ?_
              refine x_iload_n G dX11_out_96 rfl rfl ?_
              refine x_iast0 G (kd25 M) dX11_out_97 hb_9 ?_
              refine nwr hf (fun w_14 hf => ?_)
              refine x_aload G dX11_out_98 rfl ?_
              refine x_getR G (kd19 M) 6 (b := 26) rfl cl3 rfl wf_X11_312 dX11_out_100 ?_
              refine x_iload_n G dX11_out_103 rfl rfl ?_
              refine x_iload_n G dX11_out_104 rfl rfl ?_
              refine x_iast0 G (kd26 M) dX11_out_105 hb_9 ?_
              refine nwr hf (fun w_15 hf => ?_)
              refine x_aload G dX11_out_106 rfl ?_
              refine x_getR G (kd19 M) 7 (b := 27) rfl cl3 rfl wf_X11_315 dX11_out_108 ?_
              refine x_iload_n G dX11_out_111 rfl rfl ?_
              refine x_iload G dX11_out_112 rfl ?_
              refine x_iast0 G (kd27 M) dX11_out_114 hb_9 ?_
              refine nwr hf (fun w_16 hf => ?_)
              refine x_aload_n G dX11_out_115 rfl rfl ?_
              refine x_iload_n G dX11_out_116 rfl rfl ?_
              obtain ⟨v_17, hv_17, hf⟩ := bnd hf
              refine x_virV G (As := [.int v1]) (mX11_spillTank G.2.2.2.2.2.2.1 M hv_17) mv_X11_318 (kd0 M) cl11 rfl rfl rfl rfl rfl dX11_out_117 ?_
              refine x_iconst G (v := 0) dX11_out_120 (by decide) ?_
              exact x_iretW G hf hr dX11_out_121
            · refine x_bipush G (v := -2) dX11_out_79 (by decide) ?_
              exact x_iretW G hf hr dX11_out_81
        · refine x_iconst G (v := -1) dX11_out_43 (by decide) ?_
          exact x_iretW G hf hr dX11_out_44
      · refine x_iconst G (v := -1) dX11_out_29 (by decide) ?_
        exact x_iretW G hf hr dX11_out_30
    · refine x_iconst G (v := -1) dX11_out_29 (by decide) ?_
      exact x_iretW G hf hr dX11_out_30
  · refine x_iconst G (v := -1) dX11_out_29 (by decide) ?_
    exact x_iretW G hf hr dX11_out_30

theorem mX11_out {l : Launch} {S : KS} {w : Wd} (hI : Inj S) (M : Main S) {v1 : Int32} {v2 : Int32} {v3 : Int32} {v4 : Int32} {r : Int32 × Wd} (hf : fX11_out v1 v2 v3 v4 w = some r) : CI l yX11_out cX11_out 6 (some .int) 3 S [.ref 0, .int v1, .int v2, .int v3, .int v4] w r.1 r.2 := by
  intro sz
  refine mk_entry rfl (by decide +kernel) hI 1 rfl rfl (fun K h1 h2 h3 h4 h5 h6 G => ?_)
  subst h2
  exact xX11_out_e G M hf ⟨h3, by rw [h4, h6], h5⟩

set_option maxHeartbeats 4000000 in
set_option maxRecDepth 100000 in
theorem xX11_put_e {K : KT} {v1 : Int32} {v2 : Int32} {v3 : Int64} {w : Wd} {r : Int32 × Wd} (G : GK K cX11_put RX11 6 3) (M : Main K.ks) (hf : fX11_put v1 v2 v3 w = some r) (hr : RI K .int r.1 r.2) : XW K 0 [some (.ref 0), some (.int v1), some (.int v2), some (.long v3), none, none] [] w := by
  unfold fX11_put at hf
  refine x_iload_n G dX11_put_0 rfl rfl ?_
  obtain ⟨v_1, hv_1, hf⟩ := bnd hf
  refine x_staI G (As := [.int v1]) (mX11_isTape G.2.2.2.2.2.2.1 M hv_1) ms_X11_146 rfl rfl rfl rfl rfl dX11_put_1 ?_
  refine x_ifneB G (tgt := 9) dX11_put_4 (by decide) hf (fun c_2 hf => ?_) (fun c_2 hf => ?_)
  · refine x_aload_n G dX11_put_9 rfl rfl ?_
    refine x_getR G (kd0 M) 5 (b := 134) rfl cl11 rfl wf_X11_46 dX11_put_10 ?_
    refine x_iload_n G dX11_put_13 rfl rfl ?_
    refine x_aald G (kd134 M) (kn := 1) (by decide) dX11_put_14 hf (fun hb_3 hf => ?_)
    refine x_astore G (lv' := [some (.ref 0), some (.int v1), some (.int v2), some (.long v3), none, some (.ref (135 + 2 * (v1).toNatClampNeg))]) dX11_put_15 rfl rfl rfl ?_
    refine x_aload G dX11_put_17 rfl ?_
    refine x_getI G (tapeOk M hb_3).1 0 rfl cl8 rfl wf_X11_149 dX11_put_19 ?_
    refine x_ifne G (tgt := 32) dX11_put_22 (by decide) hf (fun c_4 hf => ?_) (fun c_4 hf => ?_)
    · refine x_aload_n G dX11_put_25 rfl rfl ?_
      refine x_bipush G (v := -11) dX11_put_26 (by decide) ?_
      obtain ⟨v_5, hv_5, hf⟩ := bnd hf
      refine x_virI G (As := [.int (-11 : Int32)]) (mX11_refuse G.2.2.2.2.2.2.1 M hv_5) mv_X11_152 (kd0 M) cl11 rfl rfl rfl rfl rfl dX11_put_28 ?_
      exact x_iretW G hf hr dX11_put_31
    · refine x_aload G dX11_put_32 rfl ?_
      refine x_getI G (tapeOk M hb_3).1 0 rfl cl8 rfl wf_X11_149 dX11_put_34 ?_
      refine x_bipush G (v := 6) dX11_put_37 (by decide) ?_
      refine x_icmpne G (tgt := 49) dX11_put_39 (by decide) hf (fun c_6 hf => ?_) (fun c_6 hf => ?_)
      · refine x_aload_n G dX11_put_42 rfl rfl ?_
        refine x_bipush G (v := -12) dX11_put_43 (by decide) ?_
        obtain ⟨v_7, hv_7, hf⟩ := bnd hf
        refine x_virI G (As := [.int (-12 : Int32)]) (mX11_refuse G.2.2.2.2.2.2.1 M hv_7) mv_X11_152 (kd0 M) cl11 rfl rfl rfl rfl rfl dX11_put_45 ?_
        exact x_iretW G hf hr dX11_put_48
      · refine x_iload_n G dX11_put_49 rfl rfl ?_
        refine x_iconst G (v := 0) dX11_put_50 (by decide) ?_
        refine x_aload G dX11_put_51 rfl ?_
        refine x_getI G (tapeOk M hb_3).1 1 rfl cl8 rfl wf_X11_155 dX11_put_53 ?_
        refine x_iconst G (v := 1) dX11_put_56 (by decide) ?_
        refine x_isub G dX11_put_57 ?_
        obtain ⟨v_8, hv_8, hf⟩ := bnd hf
        refine x_staI G (As := [.int v2, .int (0 : Int32), .int ((w.1 (135 + 2 * (v1).toNatClampNeg) 1) - (1 : Int32))]) (mX11_within G.2.2.2.2.2.2.1 M hv_8) ms_X11_96 rfl rfl rfl rfl rfl dX11_put_58 ?_
        refine x_ifneB G (tgt := 71) dX11_put_61 (by decide) hf (fun c_9 hf => ?_) (fun c_9 hf => ?_)
        · refine x_aload G dX11_put_71 rfl ?_
          refine x_getR G (tapeOk M hb_3).1 2 (b := ((135 + 2 * (v1).toNatClampNeg) + 1)) rfl cl8 rfl wf_X11_392 dX11_put_73 ?_
          refine x_iload_n G dX11_put_76 rfl rfl ?_
          refine x_aload G dX11_put_77 rfl ?_
          refine x_lload_n G dX11_put_79 rfl rfl ?_
          obtain ⟨v_10, hv_10, hf⟩ := bnd hf
          refine x_virJ G (As := [.long v3]) (mX8_narrowed G.2.2.2.2.2.2.1 M (tapeOk M hb_3) hv_10) mv_X11_414 (tapeOk M hb_3).1 cl8 rfl rfl rfl rfl rfl dX11_put_80 ?_
          refine x_last G (tapeOk M hb_3).2 dX11_put_83 hf (fun hb_11 hf => ?_)
          refine nwr hf (fun w_12 hf => ?_)
          refine x_iconst G (v := 1) dX11_put_84 (by decide) ?_
          exact x_iretW G hf hr dX11_put_85
        · refine x_aload_n G dX11_put_64 rfl rfl ?_
          refine x_bipush G (v := -13) dX11_put_65 (by decide) ?_
          obtain ⟨v_13, hv_13, hf⟩ := bnd hf
          refine x_virI G (As := [.int (-13 : Int32)]) (mX11_refuse G.2.2.2.2.2.2.1 M hv_13) mv_X11_152 (kd0 M) cl11 rfl rfl rfl rfl rfl dX11_put_67 ?_
          exact x_iretW G hf hr dX11_put_70
  · refine x_iconst G (v := -1) dX11_put_7 (by decide) ?_
    exact x_iretW G hf hr dX11_put_8

theorem mX11_put {l : Launch} {S : KS} {w : Wd} (hI : Inj S) (M : Main S) {v1 : Int32} {v2 : Int32} {v3 : Int64} {r : Int32 × Wd} (hf : fX11_put v1 v2 v3 w = some r) : CI l yX11_put cX11_put 6 (some .int) 3 S [.ref 0, .int v1, .int v2, .long v3] w r.1 r.2 := by
  intro sz
  refine mk_entry rfl (by decide +kernel) hI 1 rfl rfl (fun K h1 h2 h3 h4 h5 h6 G => ?_)
  subst h2
  exact xX11_put_e G M hf ⟨h3, by rw [h4, h6], h5⟩

set_option maxHeartbeats 4000000 in
set_option maxRecDepth 100000 in
theorem xX11_rain_e {K : KT} {v1 : Int32} {w : Wd} {r : Int32 × Wd} (G : GK K cX11_rain RX11 3 2) (M : Main K.ks) (hf : fX11_rain v1 w = some r) (hr : RI K .int r.1 r.2) : XW K 0 [some (.ref 0), some (.int v1), none] [] w := by
  unfold fX11_rain at hf
  refine x_iload_n G dX11_rain_0 rfl rfl ?_
  refine x_iconst G (v := 0) dX11_rain_1 (by decide) ?_
  refine x_sipush G (v := 200) dX11_rain_2 (by decide) ?_
  obtain ⟨v_1, hv_1, hf⟩ := bnd hf
  refine x_staI G (As := [.int v1, .int (0 : Int32), .int (200 : Int32)]) (mX11_within G.2.2.2.2.2.2.1 M hv_1) ms_X11_96 rfl rfl rfl rfl rfl dX11_rain_5 ?_
  refine x_ifneB G (tgt := 13) dX11_rain_8 (by decide) hf (fun c_2 hf => ?_) (fun c_2 hf => ?_)
  · refine x_aload_n G dX11_rain_13 rfl rfl ?_
    refine x_getR G (kd0 M) 0 (b := 1) rfl cl11 rfl wf_X11_10 dX11_rain_14 ?_
    refine x_getR G (kd1 M) 1 (b := 14) rfl cl0 rfl wf_X11_116 dX11_rain_17 ?_
    refine x_getI G (kd14 M) 4 rfl cl10 rfl wf_X11_275 dX11_rain_20 ?_
    refine x_istore_n G (lv' := [some (.ref 0), some (.int v1), some (.int (w.1 14 4))]) dX11_rain_23 rfl rfl rfl rfl ?_
    refine x_aload_n G dX11_rain_24 rfl rfl ?_
    refine x_getR G (kd0 M) 0 (b := 1) rfl cl11 rfl wf_X11_10 dX11_rain_25 ?_
    refine x_getR G (kd1 M) 1 (b := 14) rfl cl0 rfl wf_X11_116 dX11_rain_28 ?_
    refine x_iload_n G dX11_rain_31 rfl rfl ?_
    refine x_putI G (kd14 M) 4 rfl cl10 rfl wf_X11_275 rfl rfl rfl dX11_rain_32 ?_
    refine nwr hf (fun w_3 hf => ?_)
    refine x_iload_n G dX11_rain_35 rfl rfl ?_
    exact x_iretW G hf hr dX11_rain_36
  · refine x_iconst G (v := -1) dX11_rain_11 (by decide) ?_
    exact x_iretW G hf hr dX11_rain_12

theorem mX11_rain {l : Launch} {S : KS} {w : Wd} (hI : Inj S) (M : Main S) {v1 : Int32} {r : Int32 × Wd} (hf : fX11_rain v1 w = some r) : CI l yX11_rain cX11_rain 3 (some .int) 2 S [.ref 0, .int v1] w r.1 r.2 := by
  intro sz
  refine mk_entry rfl (by decide +kernel) hI 1 rfl rfl (fun K h1 h2 h3 h4 h5 h6 G => ?_)
  subst h2
  exact xX11_rain_e G M hf ⟨h3, by rw [h4, h6], h5⟩

set_option maxHeartbeats 4000000 in
set_option maxRecDepth 100000 in
theorem xX11_route_e {K : KT} {v1 : Int32} {v2 : Int32} {v3 : Int32} {v4 : Int32} {w : Wd} {r : Int32 × Wd} (G : GK K cX11_route RX11 6 5) (M : Main K.ks) (hf : fX11_route v1 v2 v3 v4 w = some r) (hr : RI K .int r.1 r.2) : XW K 0 [some (.ref 0), some (.int v1), some (.int v2), some (.int v3), some (.int v4), none] [] w := by
  unfold fX11_route at hf
  refine x_iload_n G dX11_route_0 rfl rfl ?_
  obtain ⟨v_1, hv_1, hf⟩ := bnd hf
  refine x_staI G (As := [.int v1]) (mX11_isCell G.2.2.2.2.2.2.1 M hv_1) ms_X11_88 rfl rfl rfl rfl rfl dX11_route_1 ?_
  refine x_ifeqB G (tgt := 41) dX11_route_4 (by decide) hf (fun c_2 hf => ?_) (fun c_2 hf => ?_)
  · refine x_iload_n G dX11_route_7 rfl rfl ?_
    obtain ⟨v_3, hv_3, hf⟩ := bnd hf
    refine x_staI G (As := [.int v2]) (mX11_isCell G.2.2.2.2.2.2.1 M hv_3) ms_X11_88 rfl rfl rfl rfl rfl dX11_route_8 ?_
    refine x_ifeqB G (tgt := 41) dX11_route_11 (by decide) hf (fun c_4 hf => ?_) (fun c_4 hf => ?_)
    · refine x_iload_n G dX11_route_14 rfl rfl ?_
      refine x_iload_n G dX11_route_15 rfl rfl ?_
      refine x_icmpeq G (tgt := 41) dX11_route_16 (by decide) hf (fun c_5 hf => ?_) (fun c_5 hf => ?_)
      · refine x_iconst G (v := -1) dX11_route_41 (by decide) ?_
        exact x_iretW G hf hr dX11_route_42
      · refine x_iload_n G dX11_route_19 rfl rfl ?_
        refine x_iconst G (v := 0) dX11_route_20 (by decide) ?_
        refine x_sipush G (v := 300) dX11_route_21 (by decide) ?_
        obtain ⟨v_6, hv_6, hf⟩ := bnd hf
        refine x_staI G (As := [.int v3, .int (0 : Int32), .int (300 : Int32)]) (mX11_within G.2.2.2.2.2.2.1 M hv_6) ms_X11_96 rfl rfl rfl rfl rfl dX11_route_24 ?_
        refine x_ifeqB G (tgt := 41) dX11_route_27 (by decide) hf (fun c_7 hf => ?_) (fun c_7 hf => ?_)
        · refine x_iload G dX11_route_30 rfl ?_
          refine x_iconst G (v := 1) dX11_route_32 (by decide) ?_
          refine x_bipush G (v := 9) dX11_route_33 (by decide) ?_
          obtain ⟨v_8, hv_8, hf⟩ := bnd hf
          refine x_staI G (As := [.int v4, .int (1 : Int32), .int (9 : Int32)]) (mX11_within G.2.2.2.2.2.2.1 M hv_8) ms_X11_96 rfl rfl rfl rfl rfl dX11_route_35 ?_
          refine x_ifneB G (tgt := 43) dX11_route_38 (by decide) hf (fun c_9 hf => ?_) (fun c_9 hf => ?_)
          · refine x_iload_n G dX11_route_43 rfl rfl ?_
            refine x_iload G dX11_route_44 rfl ?_
            refine x_iload_n G dX11_route_46 rfl rfl ?_
            refine x_iload_n G dX11_route_47 rfl rfl ?_
            obtain ⟨v_10, hv_10, hf⟩ := bnd hf
            refine x_staI G (As := [.int v1, .int v2]) (mX11_near G.2.2.2.2.2.2.1 M hv_10) ms_X11_203 rfl rfl rfl rfl rfl dX11_route_48 ?_
            refine x_imul G dX11_route_51 ?_
            refine x_isub G dX11_route_52 ?_
            refine x_ifge G (tgt := 59) dX11_route_53 (by decide) hf (fun c_11 hf => ?_) (fun c_11 hf => ?_)
            · refine x_bipush G (v := -3) dX11_route_56 (by decide) ?_
              exact x_iretW G hf hr dX11_route_58
            · refine x_aload_n G dX11_route_59 rfl rfl ?_
              refine x_getR G (kd0 M) 3 (b := 102) rfl cl11 rfl wf_X11_33 dX11_route_60 ?_
              refine x_aload_n G dX11_route_63 rfl rfl ?_
              refine x_getR G (kd0 M) 0 (b := 1) rfl cl11 rfl wf_X11_10 dX11_route_64 ?_
              refine x_getR G (kd1 M) 0 (b := 2) rfl cl0 rfl wf_X11_78 dX11_route_67 ?_
              refine x_iload_n G dX11_route_70 rfl rfl ?_
              refine x_iload_n G dX11_route_71 rfl rfl ?_
              refine x_iload_n G dX11_route_72 rfl rfl ?_
              refine x_iload G dX11_route_73 rfl ?_
              obtain ⟨v_12, hv_12, hf⟩ := bnd hf
              refine x_virI G (As := [.ref 2, .int v1, .int v2, .int v3, .int v4]) (mX7_leastDig G.2.2.2.2.2.2.1 M hv_12) mv_X11_206 (kd102 M) cl7 rfl rfl rfl rfl rfl dX11_route_75 ?_
              refine x_istore G (lv' := [some (.ref 0), some (.int v1), some (.int v2), some (.int v3), some (.int v4), some (.int v_12.1)]) dX11_route_78 rfl rfl rfl ?_
              refine x_iload G dX11_route_80 rfl ?_
              refine x_ldc G wc_X11_210 dX11_route_82 ?_
              refine x_icmplt G (tgt := 90) dX11_route_84 (by decide) hf (fun c_13 hf => ?_) (fun c_13 hf => ?_)
              · refine x_aload_n G dX11_route_90 rfl rfl ?_
                refine x_getR G (kd0 M) 3 (b := 102) rfl cl11 rfl wf_X11_33 dX11_route_91 ?_
                refine x_iload_n G dX11_route_94 rfl rfl ?_
                refine x_iload_n G dX11_route_95 rfl rfl ?_
                refine x_iload_n G dX11_route_96 rfl rfl ?_
                refine x_iload G dX11_route_97 rfl ?_
                obtain ⟨v_14, hv_14, hf⟩ := bnd hf
                refine x_virV G (As := [.int v1, .int v2, .int v3, .int v4]) (mX7_follow G.2.2.2.2.2.2.1 M hv_14) mv_X11_211 (kd102 M) cl7 rfl rfl rfl rfl rfl dX11_route_99 ?_
                refine x_iload G dX11_route_102 rfl ?_
                exact x_iretW G hf hr dX11_route_104
              · refine x_bipush G (v := -3) dX11_route_87 (by decide) ?_
                exact x_iretW G hf hr dX11_route_89
          · refine x_iconst G (v := -1) dX11_route_41 (by decide) ?_
            exact x_iretW G hf hr dX11_route_42
        · refine x_iconst G (v := -1) dX11_route_41 (by decide) ?_
          exact x_iretW G hf hr dX11_route_42
    · refine x_iconst G (v := -1) dX11_route_41 (by decide) ?_
      exact x_iretW G hf hr dX11_route_42
  · refine x_iconst G (v := -1) dX11_route_41 (by decide) ?_
    exact x_iretW G hf hr dX11_route_42

theorem mX11_route {l : Launch} {S : KS} {w : Wd} (hI : Inj S) (M : Main S) {v1 : Int32} {v2 : Int32} {v3 : Int32} {v4 : Int32} {r : Int32 × Wd} (hf : fX11_route v1 v2 v3 v4 w = some r) : CI l yX11_route cX11_route 6 (some .int) 5 S [.ref 0, .int v1, .int v2, .int v3, .int v4] w r.1 r.2 := by
  intro sz
  refine mk_entry rfl (by decide +kernel) hI 1 rfl rfl (fun K h1 h2 h3 h4 h5 h6 G => ?_)
  subst h2
  exact xX11_route_e G M hf ⟨h3, by rw [h4, h6], h5⟩

set_option maxHeartbeats 4000000 in
set_option maxRecDepth 100000 in
theorem xX11_set_e {K : KT} {v1 : Int32} {v2 : Int32} {v3 : Int32} {w : Wd} {r : Int32 × Wd} (G : GK K cX11_set RX11 6 3) (M : Main K.ks) (hf : fX11_set v1 v2 v3 w = some r) (hr : RI K .int r.1 r.2) : XW K 0 [some (.ref 0), some (.int v1), some (.int v2), some (.int v3), none, none] [] w := by
  unfold fX11_set at hf
  refine x_aload_n G dX11_set_0 rfl rfl ?_
  refine x_getR G (kd0 M) 0 (b := 1) rfl cl11 rfl wf_X11_10 dX11_set_1 ?_
  refine x_getR G (kd1 M) 0 (b := 2) rfl cl0 rfl wf_X11_78 dX11_set_4 ?_
  refine x_iload_n G dX11_set_7 rfl rfl ?_
  obtain ⟨v_1, hv_1, hf⟩ := bnd hf
  refine x_virQ G (As := [.int v2]) (mX2_rowToSet G.2.2.2.2.2.2.1 M hv_1) mv_X11_82 (kd2 M) cl2 rfl rfl rfl rfl rfl dX11_set_8 ?_
  have hq_2 := rowQ M hv_1
  cases v_1 with
  | none =>
    refine x_astoreN G (lv' := [some (.ref 0), some (.int v1), some (.int v2), some (.int v3), some (.null), none]) dX11_set_11 rfl rfl rfl ?_
    refine x_iload_n G dX11_set_13 rfl rfl ?_
    obtain ⟨v_3, hv_3, hf⟩ := bnd hf
    refine x_staI G (As := [.int v1]) (mX11_isCell G.2.2.2.2.2.2.1 M hv_3) ms_X11_88 rfl rfl rfl rfl rfl dX11_set_14 ?_
    refine x_ifeqB G (tgt := 25) dX11_set_17 (by decide) hf (fun c_4 hf => ?_) (fun c_4 hf => ?_)
    · refine x_aloadN G dX11_set_20 rfl ?_
      refine x_ifnonnullN G dX11_set_22 ?_
      refine x_iconst G (v := -1) dX11_set_25 (by decide) ?_
      exact x_iretW G hf hr dX11_set_26
    · refine x_iconst G (v := -1) dX11_set_25 (by decide) ?_
      exact x_iretW G hf hr dX11_set_26
  | some qa =>
    refine x_astore G (lv' := [some (.ref 0), some (.int v1), some (.int v2), some (.int v3), some (.ref qa), none]) dX11_set_11 rfl rfl rfl ?_
    refine x_iload_n G dX11_set_13 rfl rfl ?_
    obtain ⟨v_5, hv_5, hf⟩ := bnd hf
    refine x_staI G (As := [.int v1]) (mX11_isCell G.2.2.2.2.2.2.1 M hv_5) ms_X11_88 rfl rfl rfl rfl rfl dX11_set_14 ?_
    refine x_ifeqB G (tgt := 25) dX11_set_17 (by decide) hf (fun c_6 hf => ?_) (fun c_6 hf => ?_)
    · refine x_aload G dX11_set_20 rfl ?_
      refine x_ifnonnullR G (tgt := 27) dX11_set_22 (by decide) ?_
      refine x_iload_n G dX11_set_27 rfl rfl ?_
      refine x_iconst G (v := 0) dX11_set_28 (by decide) ?_
      refine x_iload_n G dX11_set_29 rfl rfl ?_
      obtain ⟨v_7, hv_7, hf⟩ := bnd hf
      refine x_staI G (As := [.int v2]) (mX11_mostOf G.2.2.2.2.2.2.1 M hv_7) ms_X11_92 rfl rfl rfl rfl rfl dX11_set_30 ?_
      obtain ⟨v_8, hv_8, hf⟩ := bnd hf
      refine x_staI G (As := [.int v3, .int (0 : Int32), .int v_7]) (mX11_within G.2.2.2.2.2.2.1 M hv_8) ms_X11_96 rfl rfl rfl rfl rfl dX11_set_33 ?_
      refine x_ifneB G (tgt := 41) dX11_set_36 (by decide) hf (fun c_9 hf => ?_) (fun c_9 hf => ?_)
      · refine x_aload G dX11_set_41 rfl ?_
        refine x_iload_n G dX11_set_43 rfl rfl ?_
        refine x_iald G (hq_2 _ rfl) dX11_set_44 hf (fun hb_10 hf => ?_)
        refine x_istore G (lv' := [some (.ref 0), some (.int v1), some (.int v2), some (.int v3), some (.ref qa), some (.int (ri w qa v1))]) dX11_set_45 rfl rfl rfl ?_
        refine x_aload G dX11_set_47 rfl ?_
        refine x_iload_n G dX11_set_49 rfl rfl ?_
        refine x_iload_n G dX11_set_50 rfl rfl ?_
        refine x_iast0 G (hq_2 _ rfl) dX11_set_51 hb_10 ?_
        refine nwr hf (fun w_11 hf => ?_)
        refine x_iload G dX11_set_52 rfl ?_
        exact x_iretW G hf hr dX11_set_54
      · refine x_iconst G (v := -1) dX11_set_39 (by decide) ?_
        exact x_iretW G hf hr dX11_set_40
    · refine x_iconst G (v := -1) dX11_set_25 (by decide) ?_
      exact x_iretW G hf hr dX11_set_26

theorem mX11_set {l : Launch} {S : KS} {w : Wd} (hI : Inj S) (M : Main S) {v1 : Int32} {v2 : Int32} {v3 : Int32} {r : Int32 × Wd} (hf : fX11_set v1 v2 v3 w = some r) : CI l yX11_set cX11_set 6 (some .int) 3 S [.ref 0, .int v1, .int v2, .int v3] w r.1 r.2 := by
  intro sz
  refine mk_entry rfl (by decide +kernel) hI 2 rfl rfl (fun K h1 h2 h3 h4 h5 h6 G => ?_)
  subst h2
  exact xX11_set_e G M hf ⟨h3, by rw [h4, h6], h5⟩

set_option maxHeartbeats 4000000 in
set_option maxRecDepth 100000 in
theorem xX11_share_97 {K : KT} {r : Int32 × Wd} (G : GK K cX11_share RX11 15 2) (M : Main K.ks) (hr : RI K .int r.1 r.2) : ∀ (n : Nat) (v1 : Int32) (v2 : Int32) (v3 : Int64) (v5 : Int64) (v7 : Int64) (v9 : Int32) (v10 : Int32) (w : Wd), fX11_share_97 n v1 v2 v3 v5 v7 v9 v10 w = some r → XW K 97 [some (.ref 0), some (.int v1), some (.int v2), some (.long v3), none, some (.long v5), none, some (.long v7), none, some (.int v9), some (.int v10), none, none, none, none] [] w := by
  intro n
  induction n with
  | zero =>
    intro v1 v2 v3 v5 v7 v9 v10 w hf
    unfold fX11_share_97 at hf
    cases hf
  | succ n ih =>
    intro v1 v2 v3 v5 v7 v9 v10 w hf
    unfold fX11_share_97 at hf
    refine x_iload G dX11_share_97 rfl ?_
    refine x_bipush G (v := 10) dX11_share_99 (by decide) ?_
    refine x_icmpge G (tgt := 171) dX11_share_101 (by decide) hf (fun c_1 hf => ?_) (fun c_1 hf => ?_)
    · refine x_iload_n G dX11_share_104 rfl rfl ?_
      refine x_i2l G dX11_share_105 ?_
      refine x_aload_n G dX11_share_106 rfl rfl ?_
      refine x_getR G (kd0 M) 0 (b := 1) rfl cl11 rfl wf_X11_10 dX11_share_107 ?_
      refine x_getR G (kd1 M) 0 (b := 2) rfl cl0 rfl wf_X11_78 dX11_share_110 ?_
      refine x_iload G dX11_share_113 rfl ?_
      obtain ⟨v_2, hv_2, hf⟩ := bnd hf
      refine x_virI G (As := [.int v10]) (mX2_peopleOf G.2.2.2.2.2.2.1 M hv_2) mv_X11_396 (kd2 M) cl2 rfl rfl rfl rfl rfl dX11_share_115 ?_
      refine x_i2l G dX11_share_118 ?_
      refine x_lmul G dX11_share_119 ?_
      refine x_lstore G (lv' := [some (.ref 0), some (.int v1), some (.int v2), some (.long v3), none, some (.long v5), none, some (.long v7), none, some (.int v9), some (.int v10), some (.long (v1.toInt64 * v_2.toInt64)), none, none, none]) dX11_share_120 rfl rfl rfl ?_
      refine x_lload G dX11_share_122 rfl ?_
      refine x_lload G dX11_share_124 rfl ?_
      refine x_lload_n G dX11_share_126 rfl rfl ?_
      refine x_ldivC G dX11_share_127 hf (fun hf => ?_)
      refine x_lsub G dX11_share_128 ?_
      refine x_lstore G (lv' := [some (.ref 0), some (.int v1), some (.int v2), some (.long v3), none, some (.long v5), none, some (.long (v7 - ((v1.toInt64 * v_2.toInt64) / v3))), none, some (.int v9), some (.int v10), some (.long (v1.toInt64 * v_2.toInt64)), none, none, none]) dX11_share_129 rfl rfl rfl ?_
      refine x_lload G dX11_share_131 rfl ?_
      refine x_lload_n G dX11_share_133 rfl rfl ?_
      refine x_lremC G dX11_share_134 hf (fun hf => ?_)
      refine x_lload G dX11_share_135 rfl ?_
      refine x_lload_n G dX11_share_137 rfl rfl ?_
      refine x_lremC G dX11_share_138 hf (fun hf => ?_)
      refine x_lsub G dX11_share_139 ?_
      refine x_lstore G (lv' := [some (.ref 0), some (.int v1), some (.int v2), some (.long v3), none, some (.long v5), none, some (.long (v7 - ((v1.toInt64 * v_2.toInt64) / v3))), none, some (.int v9), some (.int v10), some (.long (v1.toInt64 * v_2.toInt64)), none, some (.long ((lrm (v1.toInt64 * v_2.toInt64) v3) - (lrm v5 v3))), none]) dX11_share_140 rfl rfl rfl ?_
      refine x_lload G dX11_share_142 rfl ?_
      refine x_lconst G (v := 0) dX11_share_144 (by decide) ?_
      refine x_lcmp G dX11_share_145 ?_
      refine x_cgt G (tgt := 162) dX11_share_146 (by decide) hf (fun c_3 hf => ?_) (fun c_3 hf => ?_)
      · refine x_iinc G (lv' := [some (.ref 0), some (.int v1), some (.int v2), some (.long v3), none, some (.long v5), none, some (.long (v7 - ((v1.toInt64 * v_2.toInt64) / v3))), none, some (.int (v9 + (1 : Int32))), some (.int v10), some (.long (v1.toInt64 * v_2.toInt64)), none, some (.long ((lrm (v1.toInt64 * v_2.toInt64) v3) - (lrm v5 v3))), none]) (v := 1) dX11_share_162 rfl (by decide) rfl rfl rfl ?_
        refine x_iinc G (lv' := [some (.ref 0), some (.int v1), some (.int v2), some (.long v3), none, some (.long v5), none, some (.long (v7 - ((v1.toInt64 * v_2.toInt64) / v3))), none, some (.int (v9 + (1 : Int32))), some (.int (v10 + (1 : Int32))), some (.long (v1.toInt64 * v_2.toInt64)), none, some (.long ((lrm (v1.toInt64 * v_2.toInt64) v3) - (lrm v5 v3))), none]) (v := 1) dX11_share_165 rfl (by decide) rfl rfl rfl ?_
        refine x_goto G (tgt := 97) dX11_share_168 (by decide) ?_
        exact XW.sub (lv' := [some (.ref 0), some (.int v1), some (.int v2), some (.long v3), none, some (.long v5), none, some (.long (v7 - ((v1.toInt64 * v_2.toInt64) / v3))), none, some (.int (v9 + (1 : Int32))), some (.int (v10 + (1 : Int32))), none, none, none, none]) (And.intro rfl (And.intro rfl (And.intro rfl (And.intro rfl (And.intro rfl (And.intro rfl (And.intro rfl (And.intro rfl trivial)))))))) (ih _ _ _ _ _ _ _ _ hf)
      · refine x_lload G dX11_share_149 rfl ?_
        refine x_lconst G (v := 0) dX11_share_151 (by decide) ?_
        refine x_lcmp G dX11_share_152 ?_
        refine x_cne G (tgt := 165) dX11_share_153 (by decide) hf (fun c_4 hf => ?_) (fun c_4 hf => ?_)
        · refine x_iload G dX11_share_156 rfl ?_
          refine x_iload_n G dX11_share_158 rfl rfl ?_
          refine x_icmpge G (tgt := 165) dX11_share_159 (by decide) hf (fun c_5 hf => ?_) (fun c_5 hf => ?_)
          · refine x_iinc G (lv' := [some (.ref 0), some (.int v1), some (.int v2), some (.long v3), none, some (.long v5), none, some (.long (v7 - ((v1.toInt64 * v_2.toInt64) / v3))), none, some (.int (v9 + (1 : Int32))), some (.int v10), some (.long (v1.toInt64 * v_2.toInt64)), none, some (.long ((lrm (v1.toInt64 * v_2.toInt64) v3) - (lrm v5 v3))), none]) (v := 1) dX11_share_162 rfl (by decide) rfl rfl rfl ?_
            refine x_iinc G (lv' := [some (.ref 0), some (.int v1), some (.int v2), some (.long v3), none, some (.long v5), none, some (.long (v7 - ((v1.toInt64 * v_2.toInt64) / v3))), none, some (.int (v9 + (1 : Int32))), some (.int (v10 + (1 : Int32))), some (.long (v1.toInt64 * v_2.toInt64)), none, some (.long ((lrm (v1.toInt64 * v_2.toInt64) v3) - (lrm v5 v3))), none]) (v := 1) dX11_share_165 rfl (by decide) rfl rfl rfl ?_
            refine x_goto G (tgt := 97) dX11_share_168 (by decide) ?_
            exact XW.sub (lv' := [some (.ref 0), some (.int v1), some (.int v2), some (.long v3), none, some (.long v5), none, some (.long (v7 - ((v1.toInt64 * v_2.toInt64) / v3))), none, some (.int (v9 + (1 : Int32))), some (.int (v10 + (1 : Int32))), none, none, none, none]) (And.intro rfl (And.intro rfl (And.intro rfl (And.intro rfl (And.intro rfl (And.intro rfl (And.intro rfl (And.intro rfl trivial)))))))) (ih _ _ _ _ _ _ _ _ hf)
          · refine x_iinc G (lv' := [some (.ref 0), some (.int v1), some (.int v2), some (.long v3), none, some (.long v5), none, some (.long (v7 - ((v1.toInt64 * v_2.toInt64) / v3))), none, some (.int v9), some (.int (v10 + (1 : Int32))), some (.long (v1.toInt64 * v_2.toInt64)), none, some (.long ((lrm (v1.toInt64 * v_2.toInt64) v3) - (lrm v5 v3))), none]) (v := 1) dX11_share_165 rfl (by decide) rfl rfl rfl ?_
            refine x_goto G (tgt := 97) dX11_share_168 (by decide) ?_
            exact XW.sub (lv' := [some (.ref 0), some (.int v1), some (.int v2), some (.long v3), none, some (.long v5), none, some (.long (v7 - ((v1.toInt64 * v_2.toInt64) / v3))), none, some (.int v9), some (.int (v10 + (1 : Int32))), none, none, none, none]) (And.intro rfl (And.intro rfl (And.intro rfl (And.intro rfl (And.intro rfl (And.intro rfl (And.intro rfl (And.intro rfl trivial)))))))) (ih _ _ _ _ _ _ _ _ hf)
        · refine x_iinc G (lv' := [some (.ref 0), some (.int v1), some (.int v2), some (.long v3), none, some (.long v5), none, some (.long (v7 - ((v1.toInt64 * v_2.toInt64) / v3))), none, some (.int v9), some (.int (v10 + (1 : Int32))), some (.long (v1.toInt64 * v_2.toInt64)), none, some (.long ((lrm (v1.toInt64 * v_2.toInt64) v3) - (lrm v5 v3))), none]) (v := 1) dX11_share_165 rfl (by decide) rfl rfl rfl ?_
          refine x_goto G (tgt := 97) dX11_share_168 (by decide) ?_
          exact XW.sub (lv' := [some (.ref 0), some (.int v1), some (.int v2), some (.long v3), none, some (.long v5), none, some (.long (v7 - ((v1.toInt64 * v_2.toInt64) / v3))), none, some (.int v9), some (.int (v10 + (1 : Int32))), none, none, none, none]) (And.intro rfl (And.intro rfl (And.intro rfl (And.intro rfl (And.intro rfl (And.intro rfl (And.intro rfl (And.intro rfl trivial)))))))) (ih _ _ _ _ _ _ _ _ hf)
    · refine x_lload G dX11_share_171 rfl ?_
      refine x_lload_n G dX11_share_173 rfl rfl ?_
      refine x_ldivC G dX11_share_174 hf (fun hf => ?_)
      refine x_l2i G dX11_share_175 ?_
      refine x_iload G dX11_share_176 rfl ?_
      refine x_i2l G dX11_share_178 ?_
      refine x_lload G dX11_share_179 rfl ?_
      refine x_lcmp G dX11_share_181 ?_
      refine x_cge G (tgt := 189) dX11_share_182 (by decide) hf (fun c_6 hf => ?_) (fun c_6 hf => ?_)
      · refine x_iconst G (v := 1) dX11_share_185 (by decide) ?_
        refine x_goto G (tgt := 190) dX11_share_186 (by decide) ?_
        refine x_iadd G dX11_share_190 ?_
        exact x_iretW G hf hr dX11_share_191
      · refine x_iconst G (v := 0) dX11_share_189 (by decide) ?_
        refine x_iadd G dX11_share_190 ?_
        exact x_iretW G hf hr dX11_share_191

set_option maxHeartbeats 4000000 in
set_option maxRecDepth 100000 in
theorem xX11_share_28 {K : KT} {r : Int32 × Wd} (G : GK K cX11_share RX11 15 2) (M : Main K.ks) (hr : RI K .int r.1 r.2) : ∀ (n : Nat) (v1 : Int32) (v2 : Int32) (v3 : Int64) (v5 : Int32) (w : Wd), fX11_share_28 n v1 v2 v3 v5 w = some r → XW K 28 [some (.ref 0), some (.int v1), some (.int v2), some (.long v3), none, some (.int v5), none, none, none, none, none, none, none, none, none] [] w := by
  intro n
  induction n with
  | zero =>
    intro v1 v2 v3 v5 w hf
    unfold fX11_share_28 at hf
    cases hf
  | succ n ih =>
    intro v1 v2 v3 v5 w hf
    unfold fX11_share_28 at hf
    refine x_iload G dX11_share_28 rfl ?_
    refine x_bipush G (v := 10) dX11_share_30 (by decide) ?_
    refine x_icmpge G (tgt := 57) dX11_share_32 (by decide) hf (fun c_1 hf => ?_) (fun c_1 hf => ?_)
    · refine x_lload_n G dX11_share_35 rfl rfl ?_
      refine x_aload_n G dX11_share_36 rfl rfl ?_
      refine x_getR G (kd0 M) 0 (b := 1) rfl cl11 rfl wf_X11_10 dX11_share_37 ?_
      refine x_getR G (kd1 M) 0 (b := 2) rfl cl0 rfl wf_X11_78 dX11_share_40 ?_
      refine x_iload G dX11_share_43 rfl ?_
      obtain ⟨v_2, hv_2, hf⟩ := bnd hf
      refine x_virI G (As := [.int v5]) (mX2_peopleOf G.2.2.2.2.2.2.1 M hv_2) mv_X11_396 (kd2 M) cl2 rfl rfl rfl rfl rfl dX11_share_45 ?_
      refine x_i2l G dX11_share_48 ?_
      refine x_ladd G dX11_share_49 ?_
      refine x_lstore_n G (lv' := [some (.ref 0), some (.int v1), some (.int v2), some (.long (v3 + v_2.toInt64)), none, some (.int v5), none, none, none, none, none, none, none, none, none]) dX11_share_50 rfl rfl rfl rfl ?_
      refine x_iinc G (lv' := [some (.ref 0), some (.int v1), some (.int v2), some (.long (v3 + v_2.toInt64)), none, some (.int (v5 + (1 : Int32))), none, none, none, none, none, none, none, none, none]) (v := 1) dX11_share_51 rfl (by decide) rfl rfl rfl ?_
      refine x_goto G (tgt := 28) dX11_share_54 (by decide) ?_
      exact XW.sub (lv' := [some (.ref 0), some (.int v1), some (.int v2), some (.long (v3 + v_2.toInt64)), none, some (.int (v5 + (1 : Int32))), none, none, none, none, none, none, none, none, none]) (And.intro rfl (And.intro rfl (And.intro rfl (And.intro rfl (And.intro rfl trivial))))) (ih _ _ _ _ _ hf)
    · refine x_lload_n G dX11_share_57 rfl rfl ?_
      refine x_lconst G (v := 0) dX11_share_58 (by decide) ?_
      refine x_lcmp G dX11_share_59 ?_
      refine x_cgt G (tgt := 70) dX11_share_60 (by decide) hf (fun c_3 hf => ?_) (fun c_3 hf => ?_)
      · refine x_iload_n G dX11_share_70 rfl rfl ?_
        refine x_i2l G dX11_share_71 ?_
        refine x_aload_n G dX11_share_72 rfl rfl ?_
        refine x_getR G (kd0 M) 0 (b := 1) rfl cl11 rfl wf_X11_10 dX11_share_73 ?_
        refine x_getR G (kd1 M) 0 (b := 2) rfl cl0 rfl wf_X11_78 dX11_share_76 ?_
        refine x_iload_n G dX11_share_79 rfl rfl ?_
        obtain ⟨v_4, hv_4, hf⟩ := bnd hf
        refine x_virI G (As := [.int v2]) (mX2_peopleOf G.2.2.2.2.2.2.1 M hv_4) mv_X11_396 (kd2 M) cl2 rfl rfl rfl rfl rfl dX11_share_80 ?_
        refine x_i2l G dX11_share_83 ?_
        refine x_lmul G dX11_share_84 ?_
        refine x_lstore G (lv' := [some (.ref 0), some (.int v1), some (.int v2), some (.long v3), none, some (.long (v1.toInt64 * v_4.toInt64)), none, none, none, none, none, none, none, none, none]) dX11_share_85 rfl rfl rfl ?_
        refine x_iload_n G dX11_share_87 rfl rfl ?_
        refine x_i2l G dX11_share_88 ?_
        refine x_lstore G (lv' := [some (.ref 0), some (.int v1), some (.int v2), some (.long v3), none, some (.long (v1.toInt64 * v_4.toInt64)), none, some (.long v1.toInt64), none, none, none, none, none, none, none]) dX11_share_89 rfl rfl rfl ?_
        refine x_iconst G (v := 0) dX11_share_91 (by decide) ?_
        refine x_istore G (lv' := [some (.ref 0), some (.int v1), some (.int v2), some (.long v3), none, some (.long (v1.toInt64 * v_4.toInt64)), none, some (.long v1.toInt64), none, some (.int (0 : Int32)), none, none, none, none, none]) dX11_share_92 rfl rfl rfl ?_
        refine x_iconst G (v := 0) dX11_share_94 (by decide) ?_
        refine x_istore G (lv' := [some (.ref 0), some (.int v1), some (.int v2), some (.long v3), none, some (.long (v1.toInt64 * v_4.toInt64)), none, some (.long v1.toInt64), none, some (.int (0 : Int32)), some (.int (0 : Int32)), none, none, none, none]) dX11_share_95 rfl rfl rfl ?_
        exact XW.sub (lv' := [some (.ref 0), some (.int v1), some (.int v2), some (.long v3), none, some (.long (v1.toInt64 * v_4.toInt64)), none, some (.long v1.toInt64), none, some (.int (0 : Int32)), some (.int (0 : Int32)), none, none, none, none]) (And.intro rfl (And.intro rfl (And.intro rfl (And.intro rfl (And.intro rfl (And.intro rfl (And.intro rfl (And.intro rfl trivial)))))))) (xX11_share_97 G M hr FU _ _ _ _ _ _ _ _ hf)
      · refine x_aload_n G dX11_share_63 rfl rfl ?_
        refine x_bipush G (v := -16) dX11_share_64 (by decide) ?_
        obtain ⟨v_5, hv_5, hf⟩ := bnd hf
        refine x_virI G (As := [.int (-16 : Int32)]) (mX11_refuse G.2.2.2.2.2.2.1 M hv_5) mv_X11_152 (kd0 M) cl11 rfl rfl rfl rfl rfl dX11_share_66 ?_
        exact x_iretW G hf hr dX11_share_69

set_option maxHeartbeats 4000000 in
set_option maxRecDepth 100000 in
theorem xX11_share_e {K : KT} {v1 : Int32} {v2 : Int32} {w : Wd} {r : Int32 × Wd} (G : GK K cX11_share RX11 15 2) (M : Main K.ks) (hf : fX11_share v1 v2 w = some r) (hr : RI K .int r.1 r.2) : XW K 0 [some (.ref 0), some (.int v1), some (.int v2), none, none, none, none, none, none, none, none, none, none, none, none] [] w := by
  unfold fX11_share at hf
  refine x_iload_n G dX11_share_0 rfl rfl ?_
  refine x_iconst G (v := 0) dX11_share_1 (by decide) ?_
  refine x_ldcw G wc_X11_380 dX11_share_2 ?_
  obtain ⟨v_1, hv_1, hf⟩ := bnd hf
  refine x_staI G (As := [.int v1, .int (0 : Int32), .int (9999999 : Int32)]) (mX11_within G.2.2.2.2.2.2.1 M hv_1) ms_X11_96 rfl rfl rfl rfl rfl dX11_share_5 ?_
  refine x_ifeqB G (tgt := 21) dX11_share_8 (by decide) hf (fun c_2 hf => ?_) (fun c_2 hf => ?_)
  · refine x_iload_n G dX11_share_11 rfl rfl ?_
    refine x_iconst G (v := 0) dX11_share_12 (by decide) ?_
    refine x_bipush G (v := 9) dX11_share_13 (by decide) ?_
    obtain ⟨v_3, hv_3, hf⟩ := bnd hf
    refine x_staI G (As := [.int v2, .int (0 : Int32), .int (9 : Int32)]) (mX11_within G.2.2.2.2.2.2.1 M hv_3) ms_X11_96 rfl rfl rfl rfl rfl dX11_share_15 ?_
    refine x_ifneB G (tgt := 23) dX11_share_18 (by decide) hf (fun c_4 hf => ?_) (fun c_4 hf => ?_)
    · refine x_lconst G (v := 0) dX11_share_23 (by decide) ?_
      refine x_lstore_n G (lv' := [some (.ref 0), some (.int v1), some (.int v2), some (.long (0 : Int64)), none, none, none, none, none, none, none, none, none, none, none]) dX11_share_24 rfl rfl rfl rfl ?_
      refine x_iconst G (v := 0) dX11_share_25 (by decide) ?_
      refine x_istore G (lv' := [some (.ref 0), some (.int v1), some (.int v2), some (.long (0 : Int64)), none, some (.int (0 : Int32)), none, none, none, none, none, none, none, none, none]) dX11_share_26 rfl rfl rfl ?_
      exact XW.sub (lv' := [some (.ref 0), some (.int v1), some (.int v2), some (.long (0 : Int64)), none, some (.int (0 : Int32)), none, none, none, none, none, none, none, none, none]) (And.intro rfl (And.intro rfl (And.intro rfl (And.intro rfl (And.intro rfl trivial))))) (xX11_share_28 G M hr FU _ _ _ _ _ hf)
    · refine x_iconst G (v := -1) dX11_share_21 (by decide) ?_
      exact x_iretW G hf hr dX11_share_22
  · refine x_iconst G (v := -1) dX11_share_21 (by decide) ?_
    exact x_iretW G hf hr dX11_share_22

theorem mX11_share {l : Launch} {S : KS} {w : Wd} (hI : Inj S) (M : Main S) {v1 : Int32} {v2 : Int32} {r : Int32 × Wd} (hf : fX11_share v1 v2 w = some r) : CI l yX11_share cX11_share 15 (some .int) 2 S [.ref 0, .int v1, .int v2] w r.1 r.2 := by
  intro sz
  refine mk_entry rfl (by decide +kernel) hI 12 rfl rfl (fun K h1 h2 h3 h4 h5 h6 G => ?_)
  subst h2
  exact xX11_share_e G M hf ⟨h3, by rw [h4, h6], h5⟩

set_option maxHeartbeats 4000000 in
set_option maxRecDepth 100000 in
theorem xX11_size_e {K : KT} {v1 : Int32} {w : Wd} {r : Int32} (G : GK K cX11_size RX11 2 3) (M : Main K.ks) (hf : fX11_size v1 w = some r) (hr : RI K .int r w) : XW K 0 [some (.ref 0), some (.int v1)] [] w := by
  unfold fX11_size at hf
  refine x_aload_n G dX11_size_0 rfl rfl ?_
  refine x_iload_n G dX11_size_1 rfl rfl ?_
  obtain ⟨v_1, hv_1, hf⟩ := bnd hf
  refine x_virI G (As := [.int v1]) (mX11_isLine G.2.2.2.2.2.2.1 M hv_1) mv_X11_230 (kd0 M) cl11 rfl rfl rfl rfl rfl dX11_size_2 ?_
  refine x_ifeqB G (tgt := 23) dX11_size_5 (by decide) hf (fun c_2 hf => ?_) (fun c_2 hf => ?_)
  · refine x_aload_n G dX11_size_8 rfl rfl ?_
    refine x_getR G (kd0 M) 0 (b := 1) rfl cl11 rfl wf_X11_10 dX11_size_9 ?_
    refine x_getR G (kd1 M) 4 (b := 35) rfl cl0 rfl wf_X11_220 dX11_size_12 ?_
    refine x_iload_n G dX11_size_15 rfl rfl ?_
    refine x_aald G (kd35 M) (kn := 0) (by decide) dX11_size_16 hf (fun hb_3 hf => ?_)
    refine x_getI G (lineOkM M hb_3).1 3 rfl cl5 rfl wf_X11_257 dX11_size_17 ?_
    refine x_goto G (tgt := 24) dX11_size_20 (by decide) ?_
    exact x_iretP G hf hr dX11_size_24
  · refine x_iconst G (v := -1) dX11_size_23 (by decide) ?_
    exact x_iretP G hf hr dX11_size_24

theorem mX11_size {l : Launch} {S : KS} {w : Wd} (hI : Inj S) (M : Main S) {v1 : Int32} {r : Int32} (hf : fX11_size v1 w = some r) : CI l yX11_size cX11_size 2 (some .int) 3 S [.ref 0, .int v1] w r w := by
  intro sz
  refine mk_entry rfl (by decide +kernel) hI 0 rfl rfl (fun K h1 h2 h3 h4 h5 h6 G => ?_)
  subst h2
  exact xX11_size_e G M hf ⟨h3, by rw [h4, h6], h5⟩

set_option maxHeartbeats 4000000 in
set_option maxRecDepth 100000 in
theorem xX11_stop_20 {K : KT} {v1 : Int32} {s0 : Int32} {w : Wd} {r : Int32 × Wd} (G : GK K cX11_stop RX11 4 4) (M : Main K.ks) (hf : fX11_stop_20 v1 s0 w = some r) (hr : RI K .int r.1 r.2) : XW K 20 [some (.ref 0), some (.int v1), none, none] [.int s0] w := by
  unfold fX11_stop_20 at hf
  refine x_istore_n G (lv' := [some (.ref 0), some (.int v1), none, some (.int s0)]) dX11_stop_20 rfl rfl rfl rfl ?_
  refine x_aload_n G dX11_stop_21 rfl rfl ?_
  refine x_getR G (kd0 M) 0 (b := 1) rfl cl11 rfl wf_X11_10 dX11_stop_22 ?_
  refine x_getR G (kd1 M) 2 (b := 19) rfl cl0 rfl wf_X11_278 dX11_stop_25 ?_
  refine x_getR G (kd19 M) 4 (b := 24) rfl cl3 rfl wf_X11_299 dX11_stop_28 ?_
  refine x_iload_n G dX11_stop_31 rfl rfl ?_
  refine x_iald G (kd24 M) dX11_stop_32 hf (fun hb_1 hf => ?_)
  refine x_iload_n G dX11_stop_33 rfl rfl ?_
  refine x_icmpne G (tgt := 39) dX11_stop_34 (by decide) hf (fun c_2 hf => ?_) (fun c_2 hf => ?_)
  · refine x_iconst G (v := 0) dX11_stop_37 (by decide) ?_
    exact x_iretW G hf hr dX11_stop_38
  · refine x_aload_n G dX11_stop_39 rfl rfl ?_
    refine x_getR G (kd0 M) 0 (b := 1) rfl cl11 rfl wf_X11_10 dX11_stop_40 ?_
    refine x_getR G (kd1 M) 2 (b := 19) rfl cl0 rfl wf_X11_278 dX11_stop_43 ?_
    refine x_getR G (kd19 M) 4 (b := 24) rfl cl3 rfl wf_X11_299 dX11_stop_46 ?_
    refine x_iload_n G dX11_stop_49 rfl rfl ?_
    refine x_iload_n G dX11_stop_50 rfl rfl ?_
    refine x_iast0 G (kd24 M) dX11_stop_51 hb_1 ?_
    refine nwr hf (fun w_3 hf => ?_)
    refine x_iconst G (v := 1) dX11_stop_52 (by decide) ?_
    exact x_iretW G hf hr dX11_stop_53

set_option maxHeartbeats 4000000 in
set_option maxRecDepth 100000 in
theorem xX11_stop_e {K : KT} {v1 : Int32} {v2 : Int32} {w : Wd} {r : Int32 × Wd} (G : GK K cX11_stop RX11 4 4) (M : Main K.ks) (hf : fX11_stop v1 v2 w = some r) (hr : RI K .int r.1 r.2) : XW K 0 [some (.ref 0), some (.int v1), some (.int v2), none] [] w := by
  unfold fX11_stop at hf
  refine x_aload_n G dX11_stop_0 rfl rfl ?_
  refine x_iload_n G dX11_stop_1 rfl rfl ?_
  refine x_iconst G (v := 1) dX11_stop_2 (by decide) ?_
  obtain ⟨v_1, hv_1, hf⟩ := bnd hf
  refine x_virI G (As := [.int v1, .int (1 : Int32)]) (mX11_isHouse G.2.2.2.2.2.2.1 M hv_1) mv_X11_302 (kd0 M) cl11 rfl rfl rfl rfl rfl dX11_stop_3 ?_
  refine x_ifneB G (tgt := 11) dX11_stop_6 (by decide) hf (fun c_2 hf => ?_) (fun c_2 hf => ?_)
  · refine x_iload_n G dX11_stop_11 rfl rfl ?_
    refine x_ifeq G (tgt := 19) dX11_stop_12 (by decide) hf (fun c_3 hf => ?_) (fun c_3 hf => ?_)
    · refine x_iconst G (v := 0) dX11_stop_19 (by decide) ?_
      exact XW.sub (lv' := [some (.ref 0), some (.int v1), none, none]) (And.intro rfl (And.intro rfl trivial)) (xX11_stop_20 G M hf hr)
    · refine x_iconst G (v := 1) dX11_stop_15 (by decide) ?_
      refine x_goto G (tgt := 20) dX11_stop_16 (by decide) ?_
      exact XW.sub (lv' := [some (.ref 0), some (.int v1), none, none]) (And.intro rfl (And.intro rfl trivial)) (xX11_stop_20 G M hf hr)
  · refine x_iconst G (v := -1) dX11_stop_9 (by decide) ?_
    exact x_iretW G hf hr dX11_stop_10

theorem mX11_stop {l : Launch} {S : KS} {w : Wd} (hI : Inj S) (M : Main S) {v1 : Int32} {v2 : Int32} {r : Int32 × Wd} (hf : fX11_stop v1 v2 w = some r) : CI l yX11_stop cX11_stop 4 (some .int) 4 S [.ref 0, .int v1, .int v2] w r.1 r.2 := by
  intro sz
  refine mk_entry rfl (by decide +kernel) hI 1 rfl rfl (fun K h1 h2 h3 h4 h5 h6 G => ?_)
  subst h2
  exact xX11_stop_e G M hf ⟨h3, by rw [h4, h6], h5⟩

set_option maxHeartbeats 4000000 in
set_option maxRecDepth 100000 in
theorem xX11_take_e {K : KT} {v1 : Int32} {v2 : Int32} {w : Wd} {r : Int32 × Wd} (G : GK K cX11_take RX11 3 6) (M : Main K.ks) (hf : fX11_take v1 v2 w = some r) (hr : RI K .int r.1 r.2) : XW K 0 [some (.ref 0), some (.int v1), some (.int v2)] [] w := by
  unfold fX11_take at hf
  refine x_iload_n G dX11_take_0 rfl rfl ?_
  refine x_iconst G (v := 1) dX11_take_1 (by decide) ?_
  refine x_bipush G (v := 9) dX11_take_2 (by decide) ?_
  obtain ⟨v_1, hv_1, hf⟩ := bnd hf
  refine x_staI G (As := [.int v1, .int (1 : Int32), .int (9 : Int32)]) (mX11_within G.2.2.2.2.2.2.1 M hv_1) ms_X11_96 rfl rfl rfl rfl rfl dX11_take_4 ?_
  refine x_ifeqB G (tgt := 19) dX11_take_7 (by decide) hf (fun c_2 hf => ?_) (fun c_2 hf => ?_)
  · refine x_iload_n G dX11_take_10 rfl rfl ?_
    refine x_iconst G (v := 0) dX11_take_11 (by decide) ?_
    refine x_iconst G (v := 1) dX11_take_12 (by decide) ?_
    obtain ⟨v_3, hv_3, hf⟩ := bnd hf
    refine x_staI G (As := [.int v2, .int (0 : Int32), .int (1 : Int32)]) (mX11_within G.2.2.2.2.2.2.1 M hv_3) ms_X11_96 rfl rfl rfl rfl rfl dX11_take_13 ?_
    refine x_ifneB G (tgt := 21) dX11_take_16 (by decide) hf (fun c_4 hf => ?_) (fun c_4 hf => ?_)
    · refine x_aload_n G dX11_take_21 rfl rfl ?_
      refine x_getR G (kd0 M) 3 (b := 102) rfl cl11 rfl wf_X11_33 dX11_take_22 ?_
      refine x_getI G (kd102 M) 0 rfl cl7 rfl wf_X11_74 dX11_take_25 ?_
      refine x_ifne G (tgt := 34) dX11_take_28 (by decide) hf (fun c_5 hf => ?_) (fun c_5 hf => ?_)
      · refine x_bipush G (v := -3) dX11_take_31 (by decide) ?_
        exact x_iretW G hf hr dX11_take_33
      · refine x_aload_n G dX11_take_34 rfl rfl ?_
        refine x_getR G (kd0 M) 0 (b := 1) rfl cl11 rfl wf_X11_10 dX11_take_35 ?_
        refine x_getI G (kd1 M) 5 rfl cl0 rfl wf_X11_217 dX11_take_38 ?_
        refine x_bipush G (v := 8) dX11_take_41 (by decide) ?_
        refine x_icmplt G (tgt := 49) dX11_take_43 (by decide) hf (fun c_6 hf => ?_) (fun c_6 hf => ?_)
        · refine x_aload_n G dX11_take_49 rfl rfl ?_
          refine x_getR G (kd0 M) 0 (b := 1) rfl cl11 rfl wf_X11_10 dX11_take_50 ?_
          refine x_getR G (kd1 M) 4 (b := 35) rfl cl0 rfl wf_X11_220 dX11_take_53 ?_
          refine x_aload_n G dX11_take_56 rfl rfl ?_
          refine x_getR G (kd0 M) 0 (b := 1) rfl cl11 rfl wf_X11_10 dX11_take_57 ?_
          refine x_getI G (kd1 M) 5 rfl cl0 rfl wf_X11_217 dX11_take_60 ?_
          refine x_aald G (kd35 M) (kn := 0) (by decide) dX11_take_63 hf (fun hb_7 hf => ?_)
          refine x_aload_n G dX11_take_64 rfl rfl ?_
          refine x_getR G (kd0 M) 3 (b := 102) rfl cl11 rfl wf_X11_33 dX11_take_65 ?_
          refine x_iload_n G dX11_take_68 rfl rfl ?_
          refine x_iload_n G dX11_take_69 rfl rfl ?_
          obtain ⟨v_8, hv_8, hf⟩ := bnd hf
          refine x_virV G (As := [.ref 102, .int v1, .int v2]) (mX5_start G.2.2.2.2.2.2.1 M (lineOkM M hb_7) hv_8) mv_X11_224 (lineOkM M hb_7).1 cl5 rfl rfl rfl rfl rfl dX11_take_70 ?_
          refine x_aload_n G dX11_take_73 rfl rfl ?_
          refine x_getR G (kd0 M) 0 (b := 1) rfl cl11 rfl wf_X11_10 dX11_take_74 ?_
          refine x_dup G dX11_take_77 rfl ?_
          refine x_getI G (kd1 M) 5 rfl cl0 rfl wf_X11_217 dX11_take_78 ?_
          refine x_iconst G (v := 1) dX11_take_81 (by decide) ?_
          refine x_iadd G dX11_take_82 ?_
          refine x_putI G (kd1 M) 5 rfl cl0 rfl wf_X11_217 rfl rfl rfl dX11_take_83 ?_
          refine nwr hf (fun w_9 hf => ?_)
          refine x_aload_n G dX11_take_86 rfl rfl ?_
          refine x_getR G (kd0 M) 0 (b := 1) rfl cl11 rfl wf_X11_10 dX11_take_87 ?_
          refine x_getI G (kd1 M) 5 rfl cl0 rfl wf_X11_217 dX11_take_90 ?_
          refine x_iconst G (v := 1) dX11_take_93 (by decide) ?_
          refine x_isub G dX11_take_94 ?_
          exact x_iretW G hf hr dX11_take_95
        · refine x_bipush G (v := -2) dX11_take_46 (by decide) ?_
          exact x_iretW G hf hr dX11_take_48
    · refine x_iconst G (v := -1) dX11_take_19 (by decide) ?_
      exact x_iretW G hf hr dX11_take_20
  · refine x_iconst G (v := -1) dX11_take_19 (by decide) ?_
    exact x_iretW G hf hr dX11_take_20

theorem mX11_take {l : Launch} {S : KS} {w : Wd} (hI : Inj S) (M : Main S) {v1 : Int32} {v2 : Int32} {r : Int32 × Wd} (hf : fX11_take v1 v2 w = some r) : CI l yX11_take cX11_take 3 (some .int) 6 S [.ref 0, .int v1, .int v2] w r.1 r.2 := by
  intro sz
  refine mk_entry rfl (by decide +kernel) hI 0 rfl rfl (fun K h1 h2 h3 h4 h5 h6 G => ?_)
  subst h2
  exact xX11_take_e G M hf ⟨h3, by rw [h4, h6], h5⟩

set_option maxHeartbeats 4000000 in
set_option maxRecDepth 100000 in
theorem xX11_tape_e {K : KT} {v1 : Int32} {v2 : Int32} {v3 : Int32} {w : Wd} {r : Int32 × Wd} (G : GK K cX11_tape RX11 5 4) (M : Main K.ks) (hf : fX11_tape v1 v2 v3 w = some r) (hr : RI K .int r.1 r.2) : XW K 0 [some (.ref 0), some (.int v1), some (.int v2), some (.int v3), none] [] w := by
  unfold fX11_tape at hf
  refine x_iload_n G dX11_tape_0 rfl rfl ?_
  obtain ⟨v_1, hv_1, hf⟩ := bnd hf
  refine x_staI G (As := [.int v1]) (mX11_isTape G.2.2.2.2.2.2.1 M hv_1) ms_X11_146 rfl rfl rfl rfl rfl dX11_tape_1 ?_
  refine x_ifeqB G (tgt := 22) dX11_tape_4 (by decide) hf (fun c_2 hf => ?_) (fun c_2 hf => ?_)
  · refine x_iload_n G dX11_tape_7 rfl rfl ?_
    refine x_iconst G (v := 1) dX11_tape_8 (by decide) ?_
    refine x_iconst G (v := 5) dX11_tape_9 (by decide) ?_
    obtain ⟨v_3, hv_3, hf⟩ := bnd hf
    refine x_staI G (As := [.int v2, .int (1 : Int32), .int (5 : Int32)]) (mX11_within G.2.2.2.2.2.2.1 M hv_3) ms_X11_96 rfl rfl rfl rfl rfl dX11_tape_10 ?_
    refine x_ifeqB G (tgt := 22) dX11_tape_13 (by decide) hf (fun c_4 hf => ?_) (fun c_4 hf => ?_)
    · refine x_iload_n G dX11_tape_16 rfl rfl ?_
      refine x_bipush G (v := 100) dX11_tape_17 (by decide) ?_
      refine x_icmple G (tgt := 24) dX11_tape_19 (by decide) hf (fun c_5 hf => ?_) (fun c_5 hf => ?_)
      · refine x_iconst G (v := -1) dX11_tape_22 (by decide) ?_
        exact x_iretW G hf hr dX11_tape_23
      · refine x_iload_n G dX11_tape_24 rfl rfl ?_
        refine x_ifge G (tgt := 35) dX11_tape_25 (by decide) hf (fun c_6 hf => ?_) (fun c_6 hf => ?_)
        · refine x_aload_n G dX11_tape_28 rfl rfl ?_
          refine x_bipush G (v := -14) dX11_tape_29 (by decide) ?_
          obtain ⟨v_7, hv_7, hf⟩ := bnd hf
          refine x_virI G (As := [.int (-14 : Int32)]) (mX11_refuse G.2.2.2.2.2.2.1 M hv_7) mv_X11_152 (kd0 M) cl11 rfl rfl rfl rfl rfl dX11_tape_31 ?_
          exact x_iretW G hf hr dX11_tape_34
        · refine x_aload_n G dX11_tape_35 rfl rfl ?_
          refine x_getR G (kd0 M) 5 (b := 134) rfl cl11 rfl wf_X11_46 dX11_tape_36 ?_
          refine x_iload_n G dX11_tape_39 rfl rfl ?_
          refine x_aald G (kd134 M) (kn := 1) (by decide) dX11_tape_40 hf (fun hb_8 hf => ?_)
          refine x_astore G (lv' := [some (.ref 0), some (.int v1), some (.int v2), some (.int v3), some (.ref (135 + 2 * (v1).toNatClampNeg))]) dX11_tape_41 rfl rfl rfl ?_
          refine x_aload G dX11_tape_43 rfl ?_
          refine x_iload_n G dX11_tape_45 rfl rfl ?_
          refine x_putI G (tapeOk M hb_8).1 0 rfl cl8 rfl wf_X11_149 rfl rfl rfl dX11_tape_46 ?_
          refine nwr hf (fun w_9 hf => ?_)
          refine x_aload G dX11_tape_49 rfl ?_
          refine x_iload_n G dX11_tape_51 rfl rfl ?_
          refine x_putI G (tapeOk M hb_8).1 1 rfl cl8 rfl wf_X11_155 rfl rfl rfl dX11_tape_52 ?_
          refine nwr hf (fun w_10 hf => ?_)
          refine x_aload G dX11_tape_55 rfl ?_
          refine x_getR G (tapeOk M hb_8).1 2 (b := ((135 + 2 * (v1).toNatClampNeg) + 1)) rfl cl8 rfl wf_X11_392 dX11_tape_57 ?_
          refine x_lconst G (v := 0) dX11_tape_60 (by decide) ?_
          refine x_staV G (As := [.ref ((135 + 2 * (v1).toNatClampNeg) + 1), .long (0 : Int64)]) (mFillJ G.2.2.2.2.2.2.1 (tapeOk M hb_8).2) ms_X11_399 rfl rfl rfl rfl rfl dX11_tape_61 ?_
          refine nwr hf (fun w_11 hf => ?_)
          refine x_iload_n G dX11_tape_64 rfl rfl ?_
          exact x_iretW G hf hr dX11_tape_65
    · refine x_iconst G (v := -1) dX11_tape_22 (by decide) ?_
      exact x_iretW G hf hr dX11_tape_23
  · refine x_iconst G (v := -1) dX11_tape_22 (by decide) ?_
    exact x_iretW G hf hr dX11_tape_23

theorem mX11_tape {l : Launch} {S : KS} {w : Wd} (hI : Inj S) (M : Main S) {v1 : Int32} {v2 : Int32} {v3 : Int32} {r : Int32 × Wd} (hf : fX11_tape v1 v2 v3 w = some r) : CI l yX11_tape cX11_tape 5 (some .int) 4 S [.ref 0, .int v1, .int v2, .int v3] w r.1 r.2 := by
  intro sz
  refine mk_entry rfl (by decide +kernel) hI 1 rfl rfl (fun K h1 h2 h3 h4 h5 h6 G => ?_)
  subst h2
  exact xX11_tape_e G M hf ⟨h3, by rw [h4, h6], h5⟩

