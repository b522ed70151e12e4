theorem dX11_tide_0 : decode cX11_tide 0 = .ok (.iload_n 1, 1) := by decide +kernel
theorem dX11_tide_1 : decode cX11_tide 1 = .ok (.invokestatic 146, 3) := by decide +kernel
theorem dX11_tide_4 : decode cX11_tide 4 = .ok (.ifCond .ne 5, 3) := by decide +kernel
theorem dX11_tide_7 : decode cX11_tide 7 = .ok (.iconst (-1), 1) := by decide +kernel
theorem dX11_tide_8 : decode cX11_tide 8 = .ok (.ireturn, 1) := by decide +kernel
theorem dX11_tide_9 : decode cX11_tide 9 = .ok (.aload_n 0, 1) := by decide +kernel
theorem dX11_tide_10 : decode cX11_tide 10 = .ok (.getfield 46, 3) := by decide +kernel
theorem dX11_tide_13 : decode cX11_tide 13 = .ok (.iload_n 1, 1) := by decide +kernel
theorem dX11_tide_14 : decode cX11_tide 14 = .ok (.aaload, 1) := by decide +kernel
theorem dX11_tide_15 : decode cX11_tide 15 = .ok (.astore_n 2, 1) := by decide +kernel
theorem dX11_tide_16 : decode cX11_tide 16 = .ok (.aload_n 2, 1) := by decide +kernel
theorem dX11_tide_17 : decode cX11_tide 17 = .ok (.getfield 149, 3) := by decide +kernel
theorem dX11_tide_20 : decode cX11_tide 20 = .ok (.ifCond .ne 10, 3) := by decide +kernel
theorem dX11_tide_23 : decode cX11_tide 23 = .ok (.aload_n 0, 1) := by decide +kernel
theorem dX11_tide_24 : decode cX11_tide 24 = .ok (.bipush (-11), 2) := by decide +kernel
theorem dX11_tide_26 : decode cX11_tide 26 = .ok (.invokevirtual 152, 3) := by decide +kernel
theorem dX11_tide_29 : decode cX11_tide 29 = .ok (.ireturn, 1) := by decide +kernel
theorem dX11_tide_30 : decode cX11_tide 30 = .ok (.aload_n 2, 1) := by decide +kernel
theorem dX11_tide_31 : decode cX11_tide 31 = .ok (.getfield 149, 3) := by decide +kernel
theorem dX11_tide_34 : decode cX11_tide 34 = .ok (.iconst 1, 1) := by decide +kernel
theorem dX11_tide_35 : decode cX11_tide 35 = .ok (.if_icmp .eq 10, 3) := by decide +kernel
theorem dX11_tide_38 : decode cX11_tide 38 = .ok (.aload_n 0, 1) := by decide +kernel
theorem dX11_tide_39 : decode cX11_tide 39 = .ok (.bipush (-12), 2) := by decide +kernel
theorem dX11_tide_41 : decode cX11_tide 41 = .ok (.invokevirtual 152, 3) := by decide +kernel
theorem dX11_tide_44 : decode cX11_tide 44 = .ok (.ireturn, 1) := by decide +kernel
theorem dX11_tide_45 : decode cX11_tide 45 = .ok (.aload_n 2, 1) := by decide +kernel
theorem dX11_tide_46 : decode cX11_tide 46 = .ok (.getfield 155, 3) := by decide +kernel
theorem dX11_tide_49 : decode cX11_tide 49 = .ok (.iconst 1, 1) := by decide +kernel
theorem dX11_tide_50 : decode cX11_tide 50 = .ok (.bipush 60, 2) := by decide +kernel
theorem dX11_tide_52 : decode cX11_tide 52 = .ok (.invokestatic 96, 3) := by decide +kernel
theorem dX11_tide_55 : decode cX11_tide 55 = .ok (.ifCond .ne 6, 3) := by decide +kernel
theorem dX11_tide_58 : decode cX11_tide 58 = .ok (.bipush (-2), 2) := by decide +kernel
theorem dX11_tide_60 : decode cX11_tide 60 = .ok (.ireturn, 1) := by decide +kernel
theorem dX11_tide_61 : decode cX11_tide 61 = .ok (.aload_n 0, 1) := by decide +kernel
theorem dX11_tide_62 : decode cX11_tide 62 = .ok (.getfield 26, 3) := by decide +kernel
theorem dX11_tide_65 : decode cX11_tide 65 = .ok (.aload_n 2, 1) := by decide +kernel
theorem dX11_tide_66 : decode cX11_tide 66 = .ok (.invokevirtual 156, 3) := by decide +kernel
theorem dX11_tide_69 : decode cX11_tide 69 = .ok (.aload_n 0, 1) := by decide +kernel
theorem dX11_tide_70 : decode cX11_tide 70 = .ok (.getfield 26, 3) := by decide +kernel
theorem dX11_tide_73 : decode cX11_tide 73 = .ok (.getfield 71, 3) := by decide +kernel
theorem dX11_tide_76 : decode cX11_tide 76 = .ok (.ireturn, 1) := by decide +kernel
theorem dX11_toss_0 : decode cX11_toss 0 = .ok (.iload_n 1, 1) := by decide +kernel
theorem dX11_toss_1 : decode cX11_toss 1 = .ok (.invokestatic 146, 3) := by decide +kernel
theorem dX11_toss_4 : decode cX11_toss 4 = .ok (.ifCond .ne 5, 3) := by decide +kernel
theorem dX11_toss_7 : decode cX11_toss 7 = .ok (.iconst (-1), 1) := by decide +kernel
theorem dX11_toss_8 : decode cX11_toss 8 = .ok (.ireturn, 1) := by decide +kernel
theorem dX11_toss_9 : decode cX11_toss 9 = .ok (.aload_n 0, 1) := by decide +kernel
theorem dX11_toss_10 : decode cX11_toss 10 = .ok (.getfield 46, 3) := by decide +kernel
theorem dX11_toss_13 : decode cX11_toss 13 = .ok (.iload_n 1, 1) := by decide +kernel
theorem dX11_toss_14 : decode cX11_toss 14 = .ok (.aaload, 1) := by decide +kernel
theorem dX11_toss_15 : decode cX11_toss 15 = .ok (.astore_n 2, 1) := by decide +kernel
theorem dX11_toss_16 : decode cX11_toss 16 = .ok (.aload_n 2, 1) := by decide +kernel
theorem dX11_toss_17 : decode cX11_toss 17 = .ok (.getfield 149, 3) := by decide +kernel
theorem dX11_toss_20 : decode cX11_toss 20 = .ok (.ifCond .ne 10, 3) := by decide +kernel
theorem dX11_toss_23 : decode cX11_toss 23 = .ok (.aload_n 0, 1) := by decide +kernel
theorem dX11_toss_24 : decode cX11_toss 24 = .ok (.bipush (-11), 2) := by decide +kernel
theorem dX11_toss_26 : decode cX11_toss 26 = .ok (.invokevirtual 152, 3) := by decide +kernel
theorem dX11_toss_29 : decode cX11_toss 29 = .ok (.ireturn, 1) := by decide +kernel
theorem dX11_toss_30 : decode cX11_toss 30 = .ok (.aload_n 2, 1) := by decide +kernel
theorem dX11_toss_31 : decode cX11_toss 31 = .ok (.getfield 149, 3) := by decide +kernel
theorem dX11_toss_34 : decode cX11_toss 34 = .ok (.bipush 6, 2) := by decide +kernel
theorem dX11_toss_36 : decode cX11_toss 36 = .ok (.if_icmp .ne 10, 3) := by decide +kernel
theorem dX11_toss_39 : decode cX11_toss 39 = .ok (.aload_n 2, 1) := by decide +kernel
theorem dX11_toss_40 : decode cX11_toss 40 = .ok (.getfield 405, 3) := by decide +kernel
theorem dX11_toss_43 : decode cX11_toss 43 = .ok (.ifnonnull 10, 3) := by decide +kernel
theorem dX11_toss_46 : decode cX11_toss 46 = .ok (.aload_n 0, 1) := by decide +kernel
theorem dX11_toss_47 : decode cX11_toss 47 = .ok (.bipush (-12), 2) := by decide +kernel
theorem dX11_toss_49 : decode cX11_toss 49 = .ok (.invokevirtual 152, 3) := by decide +kernel
theorem dX11_toss_52 : decode cX11_toss 52 = .ok (.ireturn, 1) := by decide +kernel
theorem dX11_toss_53 : decode cX11_toss 53 = .ok (.aload_n 2, 1) := by decide +kernel
theorem dX11_toss_54 : decode cX11_toss 54 = .ok (.getfield 405, 3) := by decide +kernel
theorem dX11_toss_57 : decode cX11_toss 57 = .ok (.getfield 116, 3) := by decide +kernel
theorem dX11_toss_60 : decode cX11_toss 60 = .ok (.invokevirtual 411, 3) := by decide +kernel
theorem dX11_toss_63 : decode cX11_toss 63 = .ok (.istore_n 3, 1) := by decide +kernel
theorem dX11_toss_64 : decode cX11_toss 64 = .ok (.iload_n 3, 1) := by decide +kernel
theorem dX11_toss_65 : decode cX11_toss 65 = .ok (.ifCond .ne 12, 3) := by decide +kernel
theorem dX11_toss_68 : decode cX11_toss 68 = .ok (.aload_n 0, 1) := by decide +kernel
theorem dX11_toss_69 : decode cX11_toss 69 = .ok (.bipush (-15), 2) := by decide +kernel
theorem dX11_toss_71 : decode cX11_toss 71 = .ok (.invokevirtual 152, 3) := by decide +kernel
theorem dX11_toss_74 : decode cX11_toss 74 = .ok (.goto 4, 3) := by decide +kernel
theorem dX11_toss_77 : decode cX11_toss 77 = .ok (.iload_n 3, 1) := by decide +kernel
theorem dX11_toss_78 : decode cX11_toss 78 = .ok (.ireturn, 1) := by decide +kernel
theorem dX11_way_0 : decode cX11_way 0 = .ok (.iload_n 1, 1) := by decide +kernel
theorem dX11_way_1 : decode cX11_way 1 = .ok (.iconst 0, 1) := by decide +kernel
theorem dX11_way_2 : decode cX11_way 2 = .ok (.aload_n 0, 1) := by decide +kernel
theorem dX11_way_3 : decode cX11_way 3 = .ok (.getfield 33, 3) := by decide +kernel
theorem dX11_way_6 : decode cX11_way 6 = .ok (.getfield 74, 3) := by decide +kernel
theorem dX11_way_9 : decode cX11_way 9 = .ok (.iconst 1, 1) := by decide +kernel
theorem dX11_way_10 : decode cX11_way 10 = .ok (.isub, 1) := by decide +kernel
theorem dX11_way_11 : decode cX11_way 11 = .ok (.invokestatic 96, 3) := by decide +kernel
theorem dX11_way_14 : decode cX11_way 14 = .ok (.ifCond .eq 15, 3) := by decide +kernel
theorem dX11_way_17 : decode cX11_way 17 = .ok (.aload_n 0, 1) := by decide +kernel
theorem dX11_way_18 : decode cX11_way 18 = .ok (.getfield 33, 3) := by decide +kernel
theorem dX11_way_21 : decode cX11_way 21 = .ok (.getfield 214, 3) := by decide +kernel
theorem dX11_way_24 : decode cX11_way 24 = .ok (.iload_n 1, 1) := by decide +kernel
theorem dX11_way_25 : decode cX11_way 25 = .ok (.iaload, 1) := by decide +kernel
theorem dX11_way_26 : decode cX11_way 26 = .ok (.goto 5, 3) := by decide +kernel
theorem dX11_way_29 : decode cX11_way 29 = .ok (.bipush (-9), 2) := by decide +kernel
theorem dX11_way_31 : decode cX11_way 31 = .ok (.ireturn, 1) := by decide +kernel
theorem dX11_window_0 : decode cX11_window 0 = .ok (.iload_n 1, 1) := by decide +kernel
theorem dX11_window_1 : decode cX11_window 1 = .ok (.iconst 0, 1) := by decide +kernel
theorem dX11_window_2 : decode cX11_window 2 = .ok (.ldc 166, 2) := by decide +kernel
theorem dX11_window_4 : decode cX11_window 4 = .ok (.invokestatic 96, 3) := by decide +kernel
theorem dX11_window_7 : decode cX11_window 7 = .ok (.ifCond .eq 14, 3) := by decide +kernel
theorem dX11_window_10 : decode cX11_window 10 = .ok (.iload_n 2, 1) := by decide +kernel
theorem dX11_window_11 : decode cX11_window 11 = .ok (.bipush (-128), 2) := by decide +kernel
theorem dX11_window_13 : decode cX11_window 13 = .ok (.bipush 127, 2) := by decide +kernel
theorem dX11_window_15 : decode cX11_window 15 = .ok (.invokestatic 96, 3) := by decide +kernel
theorem dX11_window_18 : decode cX11_window 18 = .ok (.ifCond .ne 5, 3) := by decide +kernel
theorem dX11_window_21 : decode cX11_window 21 = .ok (.iconst (-1), 1) := by decide +kernel
theorem dX11_window_22 : decode cX11_window 22 = .ok (.ireturn, 1) := by decide +kernel
theorem dX11_window_23 : decode cX11_window 23 = .ok (.iload_n 1, 1) := by decide +kernel
theorem dX11_window_24 : decode cX11_window 24 = .ok (.istore_n 3, 1) := by decide +kernel
theorem dX11_window_25 : decode cX11_window 25 = .ok (.iload_n 3, 1) := by decide +kernel
theorem dX11_window_26 : decode cX11_window 26 = .ok (.iload_n 1, 1) := by decide +kernel
theorem dX11_window_27 : decode cX11_window 27 = .ok (.bipush 100, 2) := by decide +kernel
theorem dX11_window_29 : decode cX11_window 29 = .ok (.iadd, 1) := by decide +kernel
theorem dX11_window_30 : decode cX11_window 30 = .ok (.if_icmp .ge 34, 3) := by decide +kernel
theorem dX11_window_33 : decode cX11_window 33 = .ok (.aload_n 0, 1) := by decide +kernel
theorem dX11_window_34 : decode cX11_window 34 = .ok (.getfield 26, 3) := by decide +kernel
theorem dX11_window_37 : decode cX11_window 37 = .ok (.iload_n 3, 1) := by decide +kernel
theorem dX11_window_38 : decode cX11_window 38 = .ok (.invokevirtual 163, 3) := by decide +kernel
theorem dX11_window_41 : decode cX11_window 41 = .ok (.iload_n 2, 1) := by decide +kernel
theorem dX11_window_42 : decode cX11_window 42 = .ok (.if_icmp .ge 16, 3) := by decide +kernel
theorem dX11_window_45 : decode cX11_window 45 = .ok (.aload_n 0, 1) := by decide +kernel
theorem dX11_window_46 : decode cX11_window 46 = .ok (.getfield 26, 3) := by decide +kernel
theorem dX11_window_49 : decode cX11_window 49 = .ok (.iload_n 3, 1) := by decide +kernel
theorem dX11_window_50 : decode cX11_window 50 = .ok (.invokevirtual 167, 3) := by decide +kernel
theorem dX11_window_53 : decode cX11_window 53 = .ok (.ifCond .ne 5, 3) := by decide +kernel
theorem dX11_window_56 : decode cX11_window 56 = .ok (.iload_n 3, 1) := by decide +kernel
theorem dX11_window_57 : decode cX11_window 57 = .ok (.ireturn, 1) := by decide +kernel
theorem dX11_window_58 : decode cX11_window 58 = .ok (.iinc 3 1, 3) := by decide +kernel
theorem dX11_window_61 : decode cX11_window 61 = .ok (.goto (-36), 3) := by decide +kernel
theorem dX11_window_64 : decode cX11_window 64 = .ok (.bipush (-3), 2) := by decide +kernel
theorem dX11_window_66 : decode cX11_window 66 = .ok (.ireturn, 1) := by decide +kernel
theorem dX12_start_0 : decode cX12_start 0 = .ok (.iconst 0, 1) := by decide +kernel
theorem dX12_start_1 : decode cX12_start 1 = .ok (.istore_n 1, 1) := by decide +kernel
theorem dX12_start_2 : decode cX12_start 2 = .ok (.iload_n 1, 1) := by decide +kernel
theorem dX12_start_3 : decode cX12_start 3 = .ok (.sipush 4340, 3) := by decide +kernel
theorem dX12_start_6 : decode cX12_start 6 = .ok (.if_icmp .ge 16, 3) := by decide +kernel
theorem dX12_start_9 : decode cX12_start 9 = .ok (.aload_n 0, 1) := by decide +kernel
theorem dX12_start_10 : decode cX12_start 10 = .ok (.getfield 13, 3) := by decide +kernel
theorem dX12_start_13 : decode cX12_start 13 = .ok (.iload_n 1, 1) := by decide +kernel
theorem dX12_start_14 : decode cX12_start 14 = .ok (.iconst 0, 1) := by decide +kernel
theorem dX12_start_15 : decode cX12_start 15 = .ok (.iastore, 1) := by decide +kernel
theorem dX12_start_16 : decode cX12_start 16 = .ok (.iinc 1 1, 3) := by decide +kernel
theorem dX12_start_19 : decode cX12_start 19 = .ok (.goto (-17), 3) := by decide +kernel
theorem dX12_start_22 : decode cX12_start 22 = .ok (.iconst 0, 1) := by decide +kernel
theorem dX12_start_23 : decode cX12_start 23 = .ok (.istore_n 1, 1) := by decide +kernel
theorem dX12_start_24 : decode cX12_start 24 = .ok (.iload_n 1, 1) := by decide +kernel
theorem dX12_start_25 : decode cX12_start 25 = .ok (.bipush 100, 2) := by decide +kernel
theorem dX12_start_27 : decode cX12_start 27 = .ok (.if_icmp .ge 48, 3) := by decide +kernel
theorem dX12_start_30 : decode cX12_start 30 = .ok (.aload_n 0, 1) := by decide +kernel
theorem dX12_start_31 : decode cX12_start 31 = .ok (.getfield 13, 3) := by decide +kernel
theorem dX12_start_34 : decode cX12_start 34 = .ok (.bipush 15, 2) := by decide +kernel
theorem dX12_start_36 : decode cX12_start 36 = .ok (.iload_n 1, 1) := by decide +kernel
theorem dX12_start_37 : decode cX12_start 37 = .ok (.imul, 1) := by decide +kernel
theorem dX12_start_38 : decode cX12_start 38 = .ok (.iconst 0, 1) := by decide +kernel
theorem dX12_start_39 : decode cX12_start 39 = .ok (.iadd, 1) := by decide +kernel
theorem dX12_start_40 : decode cX12_start 40 = .ok (.bipush 100, 2) := by decide +kernel
theorem dX12_start_42 : decode cX12_start 42 = .ok (.iastore, 1) := by decide +kernel
theorem dX12_start_43 : decode cX12_start 43 = .ok (.aload_n 0, 1) := by decide +kernel
theorem dX12_start_44 : decode cX12_start 44 = .ok (.getfield 13, 3) := by decide +kernel
theorem dX12_start_47 : decode cX12_start 47 = .ok (.bipush 15, 2) := by decide +kernel
theorem dX12_start_49 : decode cX12_start 49 = .ok (.iload_n 1, 1) := by decide +kernel
theorem dX12_start_50 : decode cX12_start 50 = .ok (.imul, 1) := by decide +kernel
theorem dX12_start_51 : decode cX12_start 51 = .ok (.iconst 3, 1) := by decide +kernel
theorem dX12_start_52 : decode cX12_start 52 = .ok (.iadd, 1) := by decide +kernel
theorem dX12_start_53 : decode cX12_start 53 = .ok (.bipush 50, 2) := by decide +kernel
theorem dX12_start_55 : decode cX12_start 55 = .ok (.iastore, 1) := by decide +kernel
theorem dX12_start_56 : decode cX12_start 56 = .ok (.aload_n 0, 1) := by decide +kernel
theorem dX12_start_57 : decode cX12_start 57 = .ok (.getfield 13, 3) := by decide +kernel
theorem dX12_start_60 : decode cX12_start 60 = .ok (.bipush 15, 2) := by decide +kernel
theorem dX12_start_62 : decode cX12_start 62 = .ok (.iload_n 1, 1) := by decide +kernel
theorem dX12_start_63 : decode cX12_start 63 = .ok (.imul, 1) := by decide +kernel
theorem dX12_start_64 : decode cX12_start 64 = .ok (.bipush 6, 2) := by decide +kernel
theorem dX12_start_66 : decode cX12_start 66 = .ok (.iadd, 1) := by decide +kernel
theorem dX12_start_67 : decode cX12_start 67 = .ok (.iconst (-1), 1) := by decide +kernel
theorem dX12_start_68 : decode cX12_start 68 = .ok (.iastore, 1) := by decide +kernel
theorem dX12_start_69 : decode cX12_start 69 = .ok (.iinc 1 1, 3) := by decide +kernel
theorem dX12_start_72 : decode cX12_start 72 = .ok (.goto (-48), 3) := by decide +kernel
theorem dX12_start_75 : decode cX12_start 75 = .ok (.aload_n 0, 1) := by decide +kernel
theorem dX12_start_76 : decode cX12_start 76 = .ok (.iconst 0, 1) := by decide +kernel
theorem dX12_start_77 : decode cX12_start 77 = .ok (.putfield 79, 3) := by decide +kernel
theorem dX12_start_80 : decode cX12_start 80 = .ok (.aload_n 0, 1) := by decide +kernel
theorem dX12_start_81 : decode cX12_start 81 = .ok (.iconst 0, 1) := by decide +kernel
theorem dX12_start_82 : decode cX12_start 82 = .ok (.putfield 82, 3) := by decide +kernel
theorem dX12_start_85 : decode cX12_start 85 = .ok (.aload_n 0, 1) := by decide +kernel
theorem dX12_start_86 : decode cX12_start 86 = .ok (.iconst 0, 1) := by decide +kernel
theorem dX12_start_87 : decode cX12_start 87 = .ok (.putfield 85, 3) := by decide +kernel
theorem dX12_start_90 : decode cX12_start 90 = .ok (.aload_n 0, 1) := by decide +kernel
theorem dX12_start_91 : decode cX12_start 91 = .ok (.iconst 0, 1) := by decide +kernel
theorem dX12_start_92 : decode cX12_start 92 = .ok (.putfield 88, 3) := by decide +kernel
theorem dX12_start_95 : decode cX12_start 95 = .ok (.return_, 1) := by decide +kernel
theorem dX12_isRow_0 : decode cX12_isRow 0 = .ok (.iload_n 0, 1) := by decide +kernel
theorem dX12_isRow_1 : decode cX12_isRow 1 = .ok (.i2l, 1) := by decide +kernel
theorem dX12_isRow_2 : decode cX12_isRow 2 = .ok (.lconst 1, 1) := by decide +kernel
theorem dX12_isRow_3 : decode cX12_isRow 3 = .ok (.ldc2_w 109, 3) := by decide +kernel
theorem dX12_isRow_6 : decode cX12_isRow 6 = .ok (.invokestatic 93, 3) := by decide +kernel
theorem dX12_isRow_9 : decode cX12_isRow 9 = .ok (.ireturn, 1) := by decide +kernel
theorem dX12_isTape_0 : decode cX12_isTape 0 = .ok (.iload_n 0, 1) := by decide +kernel
theorem dX12_isTape_1 : decode cX12_isTape 1 = .ok (.i2l, 1) := by decide +kernel
theorem dX12_isTape_2 : decode cX12_isTape 2 = .ok (.lconst 0, 1) := by decide +kernel
theorem dX12_isTape_3 : decode cX12_isTape 3 = .ok (.ldc2_w 109, 3) := by decide +kernel
theorem dX12_isTape_6 : decode cX12_isTape 6 = .ok (.invokestatic 93, 3) := by decide +kernel
theorem dX12_isTape_9 : decode cX12_isTape 9 = .ok (.ireturn, 1) := by decide +kernel
theorem dX12_at_0 : decode cX12_at 0 = .ok (.aload_n 0, 1) := by decide +kernel
theorem dX12_at_1 : decode cX12_at 1 = .ok (.iconst 0, 1) := by decide +kernel
theorem dX12_at_2 : decode cX12_at 2 = .ok (.putfield 1, 3) := by decide +kernel
theorem dX12_at_5 : decode cX12_at 5 = .ok (.iload_n 1, 1) := by decide +kernel
theorem dX12_at_6 : decode cX12_at 6 = .ok (.invokestatic 128, 3) := by decide +kernel
theorem dX12_at_9 : decode cX12_at 9 = .ok (.ifCond .ne 10, 3) := by decide +kernel
theorem dX12_at_12 : decode cX12_at 12 = .ok (.aload_n 0, 1) := by decide +kernel
theorem dX12_at_13 : decode cX12_at 13 = .ok (.iconst 1, 1) := by decide +kernel
theorem dX12_at_14 : decode cX12_at 14 = .ok (.putfield 1, 3) := by decide +kernel
theorem dX12_at_17 : decode cX12_at 17 = .ok (.lconst 0, 1) := by decide +kernel
theorem dX12_at_18 : decode cX12_at 18 = .ok (.lreturn, 1) := by decide +kernel
theorem dX12_at_19 : decode cX12_at 19 = .ok (.aload_n 0, 1) := by decide +kernel
theorem dX12_at_20 : decode cX12_at 20 = .ok (.getfield 63, 3) := by decide +kernel
theorem dX12_at_23 : decode cX12_at 23 = .ok (.iload_n 1, 1) := by decide +kernel
theorem dX12_at_24 : decode cX12_at 24 = .ok (.iaload, 1) := by decide +kernel
theorem dX12_at_25 : decode cX12_at 25 = .ok (.invokestatic 361, 3) := by decide +kernel
theorem dX12_at_28 : decode cX12_at 28 = .ok (.ifCond .eq 21, 3) := by decide +kernel
theorem dX12_at_31 : decode cX12_at 31 = .ok (.iload_n 2, 1) := by decide +kernel
theorem dX12_at_32 : decode cX12_at 32 = .ok (.i2l, 1) := by decide +kernel
theorem dX12_at_33 : decode cX12_at 33 = .ok (.lconst 0, 1) := by decide +kernel
theorem dX12_at_34 : decode cX12_at 34 = .ok (.aload_n 0, 1) := by decide +kernel
theorem dX12_at_35 : decode cX12_at 35 = .ok (.getfield 66, 3) := by decide +kernel
theorem dX12_at_38 : decode cX12_at 38 = .ok (.iload_n 1, 1) := by decide +kernel
theorem dX12_at_39 : decode cX12_at 39 = .ok (.iaload, 1) := by decide +kernel
theorem dX12_at_40 : decode cX12_at 40 = .ok (.iconst 1, 1) := by decide +kernel
theorem dX12_at_41 : decode cX12_at 41 = .ok (.isub, 1) := by decide +kernel
theorem dX12_at_42 : decode cX12_at 42 = .ok (.i2l, 1) := by decide +kernel
theorem dX12_at_43 : decode cX12_at 43 = .ok (.invokestatic 93, 3) := by decide +kernel
theorem dX12_at_46 : decode cX12_at 46 = .ok (.ifCond .ne 10, 3) := by decide +kernel
theorem dX12_at_49 : decode cX12_at 49 = .ok (.aload_n 0, 1) := by decide +kernel
theorem dX12_at_50 : decode cX12_at 50 = .ok (.iconst 2, 1) := by decide +kernel
theorem dX12_at_51 : decode cX12_at 51 = .ok (.putfield 1, 3) := by decide +kernel
theorem dX12_at_54 : decode cX12_at 54 = .ok (.lconst 0, 1) := by decide +kernel
theorem dX12_at_55 : decode cX12_at 55 = .ok (.lreturn, 1) := by decide +kernel
theorem dX12_at_56 : decode cX12_at 56 = .ok (.aload_n 0, 1) := by decide +kernel
theorem dX12_at_57 : decode cX12_at 57 = .ok (.getfield 69, 3) := by decide +kernel
theorem dX12_at_60 : decode cX12_at 60 = .ok (.bipush 100, 2) := by decide +kernel
theorem dX12_at_62 : decode cX12_at 62 = .ok (.iload_n 1, 1) := by decide +kernel
theorem dX12_at_63 : decode cX12_at 63 = .ok (.imul, 1) := by decide +kernel
theorem dX12_at_64 : decode cX12_at 64 = .ok (.iload_n 2, 1) := by decide +kernel
theorem dX12_at_65 : decode cX12_at 65 = .ok (.iadd, 1) := by decide +kernel
theorem dX12_at_66 : decode cX12_at 66 = .ok (.laload, 1) := by decide +kernel
theorem dX12_at_67 : decode cX12_at 67 = .ok (.lreturn, 1) := by decide +kernel
theorem dX12_host_0 : decode cX12_host 0 = .ok (.aload_n 0, 1) := by decide +kernel
theorem dX12_host_1 : decode cX12_host 1 = .ok (.dup, 1) := by decide +kernel
theorem dX12_host_2 : decode cX12_host 2 = .ok (.getfield 88, 3) := by decide +kernel
theorem dX12_host_5 : decode cX12_host 5 = .ok (.iconst 1, 1) := by decide +kernel
theorem dX12_host_6 : decode cX12_host 6 = .ok (.iadd, 1) := by decide +kernel
theorem dX12_host_7 : decode cX12_host 7 = .ok (.putfield 88, 3) := by decide +kernel
theorem dX12_host_10 : decode cX12_host 10 = .ok (.iload_n 1, 1) := by decide +kernel
theorem dX12_host_11 : decode cX12_host 11 = .ok (.ireturn, 1) := by decide +kernel
theorem dX12_back_0 : decode cX12_back 0 = .ok (.aload_n 0, 1) := by decide +kernel
theorem dX12_back_1 : decode cX12_back 1 = .ok (.iconst 0, 1) := by decide +kernel
theorem dX12_back_2 : decode cX12_back 2 = .ok (.putfield 1, 3) := by decide +kernel
theorem dX12_back_5 : decode cX12_back 5 = .ok (.iload_n 1, 1) := by decide +kernel
theorem dX12_back_6 : decode cX12_back 6 = .ok (.invokestatic 128, 3) := by decide +kernel
theorem dX12_back_9 : decode cX12_back 9 = .ok (.ifCond .ne 5, 3) := by decide +kernel
theorem dX12_back_12 : decode cX12_back 12 = .ok (.iconst (-1), 1) := by decide +kernel
theorem dX12_back_13 : decode cX12_back 13 = .ok (.ireturn, 1) := by decide +kernel
theorem dX12_back_14 : decode cX12_back 14 = .ok (.aload_n 0, 1) := by decide +kernel
theorem dX12_back_15 : decode cX12_back 15 = .ok (.getfield 63, 3) := by decide +kernel
theorem dX12_back_18 : decode cX12_back 18 = .ok (.iload_n 1, 1) := by decide +kernel
theorem dX12_back_19 : decode cX12_back 19 = .ok (.iaload, 1) := by decide +kernel
theorem dX12_back_20 : decode cX12_back 20 = .ok (.ifCond .ne 10, 3) := by decide +kernel
theorem dX12_back_23 : decode cX12_back 23 = .ok (.aload_n 0, 1) := by decide +kernel
theorem dX12_back_24 : decode cX12_back 24 = .ok (.bipush (-11), 2) := by decide +kernel
theorem dX12_back_26 : decode cX12_back 26 = .ok (.invokevirtual 131, 3) := by decide +kernel
theorem dX12_back_29 : decode cX12_back 29 = .ok (.ireturn, 1) := by decide +kernel
theorem dX12_back_30 : decode cX12_back 30 = .ok (.aload_n 0, 1) := by decide +kernel
theorem dX12_back_31 : decode cX12_back 31 = .ok (.getfield 63, 3) := by decide +kernel
theorem dX12_back_34 : decode cX12_back 34 = .ok (.iload_n 1, 1) := by decide +kernel
theorem dX12_back_35 : decode cX12_back 35 = .ok (.iaload, 1) := by decide +kernel
theorem dX12_back_36 : decode cX12_back 36 = .ok (.bipush 6, 2) := by decide +kernel
theorem dX12_back_38 : decode cX12_back 38 = .ok (.if_icmp .eq 10, 3) := by decide +kernel
theorem dX12_back_41 : decode cX12_back 41 = .ok (.aload_n 0, 1) := by decide +kernel
theorem dX12_back_42 : decode cX12_back 42 = .ok (.bipush (-12), 2) := by decide +kernel
theorem dX12_back_44 : decode cX12_back 44 = .ok (.invokevirtual 131, 3) := by decide +kernel
theorem dX12_back_47 : decode cX12_back 47 = .ok (.ireturn, 1) := by decide +kernel
theorem dX12_back_48 : decode cX12_back 48 = .ok (.iconst 0, 1) := by decide +kernel
theorem dX12_back_49 : decode cX12_back 49 = .ok (.istore_n 2, 1) := by decide +kernel
theorem dX12_back_50 : decode cX12_back 50 = .ok (.iload_n 2, 1) := by decide +kernel
theorem dX12_back_51 : decode cX12_back 51 = .ok (.sipush 4340, 3) := by decide +kernel
theorem dX12_back_54 : decode cX12_back 54 = .ok (.if_icmp .ge 27, 3) := by decide +kernel
theorem dX12_back_57 : decode cX12_back 57 = .ok (.aload_n 0, 1) := by decide +kernel
theorem dX12_back_58 : decode cX12_back 58 = .ok (.getfield 13, 3) := by decide +kernel
theorem dX12_back_61 : decode cX12_back 61 = .ok (.iload_n 2, 1) := by decide +kernel
theorem dX12_back_62 : decode cX12_back 62 = .ok (.aload_n 0, 1) := by decide +kernel
theorem dX12_back_63 : decode cX12_back 63 = .ok (.getfield 73, 3) := by decide +kernel
theorem dX12_back_66 : decode cX12_back 66 = .ok (.sipush 4340, 3) := by decide +kernel
theorem dX12_back_69 : decode cX12_back 69 = .ok (.iload_n 1, 1) := by decide +kernel
theorem dX12_back_70 : decode cX12_back 70 = .ok (.imul, 1) := by decide +kernel
theorem dX12_back_71 : decode cX12_back 71 = .ok (.iload_n 2, 1) := by decide +kernel
theorem dX12_back_72 : decode cX12_back 72 = .ok (.iadd, 1) := by decide +kernel
theorem dX12_back_73 : decode cX12_back 73 = .ok (.iaload, 1) := by decide +kernel
theorem dX12_back_74 : decode cX12_back 74 = .ok (.iastore, 1) := by decide +kernel
theorem dX12_back_75 : decode cX12_back 75 = .ok (.iinc 2 1, 3) := by decide +kernel
theorem dX12_back_78 : decode cX12_back 78 = .ok (.goto (-28), 3) := by decide +kernel
theorem dX12_back_81 : decode cX12_back 81 = .ok (.aload_n 0, 1) := by decide +kernel
theorem dX12_back_82 : decode cX12_back 82 = .ok (.iconst 0, 1) := by decide +kernel
theorem dX12_back_83 : decode cX12_back 83 = .ok (.invokevirtual 101, 3) := by decide +kernel
theorem dX12_back_86 : decode cX12_back 86 = .ok (.ireturn, 1) := by decide +kernel
theorem dX12_isLine_0 : decode cX12_isLine 0 = .ok (.iload_n 1, 1) := by decide +kernel
theorem dX12_isLine_1 : decode cX12_isLine 1 = .ok (.i2l, 1) := by decide +kernel
theorem dX12_isLine_2 : decode cX12_isLine 2 = .ok (.lconst 0, 1) := by decide +kernel
theorem dX12_isLine_3 : decode cX12_isLine 3 = .ok (.aload_n 0, 1) := by decide +kernel
theorem dX12_isLine_4 : decode cX12_isLine 4 = .ok (.bipush 15, 2) := by decide +kernel
theorem dX12_isLine_6 : decode cX12_isLine 6 = .ok (.invokevirtual 101, 3) := by decide +kernel
theorem dX12_isLine_9 : decode cX12_isLine 9 = .ok (.iconst 1, 1) := by decide +kernel
theorem dX12_isLine_10 : decode cX12_isLine 10 = .ok (.isub, 1) := by decide +kernel
theorem dX12_isLine_11 : decode cX12_isLine 11 = .ok (.i2l, 1) := by decide +kernel
theorem dX12_isLine_12 : decode cX12_isLine 12 = .ok (.invokestatic 93, 3) := by decide +kernel
theorem dX12_isLine_15 : decode cX12_isLine 15 = .ok (.ireturn, 1) := by decide +kernel
theorem dX12_isSpot_0 : decode cX12_isSpot 0 = .ok (.aload_n 0, 1) := by decide +kernel
theorem dX12_isSpot_1 : decode cX12_isSpot 1 = .ok (.iload_n 1, 1) := by decide +kernel
theorem dX12_isSpot_2 : decode cX12_isSpot 2 = .ok (.invokevirtual 188, 3) := by decide +kernel
theorem dX12_isSpot_5 : decode cX12_isSpot 5 = .ok (.ifCond .eq 25, 3) := by decide +kernel
theorem dX12_isSpot_8 : decode cX12_isSpot 8 = .ok (.iload_n 2, 1) := by decide +kernel
theorem dX12_isSpot_9 : decode cX12_isSpot 9 = .ok (.i2l, 1) := by decide +kernel
theorem dX12_isSpot_10 : decode cX12_isSpot 10 = .ok (.lconst 0, 1) := by decide +kernel
theorem dX12_isSpot_11 : decode cX12_isSpot 11 = .ok (.aload_n 0, 1) := by decide +kernel
theorem dX12_isSpot_12 : decode cX12_isSpot 12 = .ok (.iload_n 1, 1) := by decide +kernel
theorem dX12_isSpot_13 : decode cX12_isSpot 13 = .ok (.iconst 0, 1) := by decide +kernel
theorem dX12_isSpot_14 : decode cX12_isSpot 14 = .ok (.invokevirtual 193, 3) := by decide +kernel
theorem dX12_isSpot_17 : decode cX12_isSpot 17 = .ok (.iconst 1, 1) := by decide +kernel
theorem dX12_isSpot_18 : decode cX12_isSpot 18 = .ok (.isub, 1) := by decide +kernel
theorem dX12_isSpot_19 : decode cX12_isSpot 19 = .ok (.i2l, 1) := by decide +kernel
theorem dX12_isSpot_20 : decode cX12_isSpot 20 = .ok (.invokestatic 93, 3) := by decide +kernel
theorem dX12_isSpot_23 : decode cX12_isSpot 23 = .ok (.ifCond .eq 7, 3) := by decide +kernel
theorem dX12_isSpot_26 : decode cX12_isSpot 26 = .ok (.iconst 1, 1) := by decide +kernel
theorem dX12_isSpot_27 : decode cX12_isSpot 27 = .ok (.goto 4, 3) := by decide +kernel
theorem dX12_isSpot_30 : decode cX12_isSpot 30 = .ok (.iconst 0, 1) := by decide +kernel
theorem dX12_isSpot_31 : decode cX12_isSpot 31 = .ok (.ireturn, 1) := by decide +kernel
theorem dX12_bad_0 : decode cX12_bad 0 = .ok (.aload_n 0, 1) := by decide +kernel
theorem dX12_bad_1 : decode cX12_bad 1 = .ok (.iconst 0, 1) := by decide +kernel
theorem dX12_bad_2 : decode cX12_bad 2 = .ok (.putfield 1, 3) := by decide +kernel
theorem dX12_bad_5 : decode cX12_bad 5 = .ok (.aload_n 0, 1) := by decide +kernel
theorem dX12_bad_6 : decode cX12_bad 6 = .ok (.iload_n 1, 1) := by decide +kernel
theorem dX12_bad_7 : decode cX12_bad 7 = .ok (.iload_n 2, 1) := by decide +kernel
theorem dX12_bad_8 : decode cX12_bad 8 = .ok (.invokevirtual 201, 3) := by decide +kernel
theorem dX12_bad_11 : decode cX12_bad 11 = .ok (.ifCond .ne 5, 3) := by decide +kernel
theorem dX12_bad_14 : decode cX12_bad 14 = .ok (.iconst (-1), 1) := by decide +kernel
theorem dX12_bad_15 : decode cX12_bad 15 = .ok (.ireturn, 1) := by decide +kernel
theorem dX12_bad_16 : decode cX12_bad 16 = .ok (.aload_n 0, 1) := by decide +kernel
theorem dX12_bad_17 : decode cX12_bad 17 = .ok (.iload_n 1, 1) := by decide +kernel
theorem dX12_bad_18 : decode cX12_bad 18 = .ok (.iload_n 2, 1) := by decide +kernel
theorem dX12_bad_19 : decode cX12_bad 19 = .ok (.invokevirtual 185, 3) := by decide +kernel
theorem dX12_bad_22 : decode cX12_bad 22 = .ok (.istore 4, 2) := by decide +kernel
theorem dX12_bad_24 : decode cX12_bad 24 = .ok (.aload_n 0, 1) := by decide +kernel
theorem dX12_bad_25 : decode cX12_bad 25 = .ok (.getfield 13, 3) := by decide +kernel
theorem dX12_bad_28 : decode cX12_bad 28 = .ok (.iload 4, 2) := by decide +kernel
theorem dX12_bad_30 : decode cX12_bad 30 = .ok (.iconst 3, 1) := by decide +kernel
theorem dX12_bad_31 : decode cX12_bad 31 = .ok (.iadd, 1) := by decide +kernel
theorem dX12_bad_32 : decode cX12_bad 32 = .ok (.iaload, 1) := by decide +kernel
theorem dX12_bad_33 : decode cX12_bad 33 = .ok (.bipush (-9), 2) := by decide +kernel
theorem dX12_bad_35 : decode cX12_bad 35 = .ok (.if_icmp .ne 6, 3) := by decide +kernel
theorem dX12_bad_38 : decode cX12_bad 38 = .ok (.bipush (-4), 2) := by decide +kernel
theorem dX12_bad_40 : decode cX12_bad 40 = .ok (.ireturn, 1) := by decide +kernel
theorem dX12_bad_41 : decode cX12_bad 41 = .ok (.aload_n 0, 1) := by decide +kernel
theorem dX12_bad_42 : decode cX12_bad 42 = .ok (.getfield 13, 3) := by decide +kernel
theorem dX12_bad_45 : decode cX12_bad 45 = .ok (.iload 4, 2) := by decide +kernel
theorem dX12_bad_47 : decode cX12_bad 47 = .ok (.iconst 5, 1) := by decide +kernel
theorem dX12_bad_48 : decode cX12_bad 48 = .ok (.iadd, 1) := by decide +kernel
theorem dX12_bad_49 : decode cX12_bad 49 = .ok (.iaload, 1) := by decide +kernel
theorem dX12_bad_50 : decode cX12_bad 50 = .ok (.iconst 1, 1) := by decide +kernel
theorem dX12_bad_51 : decode cX12_bad 51 = .ok (.if_icmp .ne 7, 3) := by decide +kernel
theorem dX12_bad_54 : decode cX12_bad 54 = .ok (.iconst 1, 1) := by decide +kernel
theorem dX12_bad_55 : decode cX12_bad 55 = .ok (.goto 4, 3) := by decide +kernel
theorem dX12_bad_58 : decode cX12_bad 58 = .ok (.iconst 0, 1) := by decide +kernel
theorem dX12_bad_59 : decode cX12_bad 59 = .ok (.iload_n 3, 1) := by decide +kernel
theorem dX12_bad_60 : decode cX12_bad 60 = .ok (.if_icmp .ne 5, 3) := by decide +kernel
theorem dX12_bad_63 : decode cX12_bad 63 = .ok (.iconst 0, 1) := by decide +kernel
theorem dX12_bad_64 : decode cX12_bad 64 = .ok (.ireturn, 1) := by decide +kernel
theorem dX12_bad_65 : decode cX12_bad 65 = .ok (.aload_n 0, 1) := by decide +kernel
theorem dX12_bad_66 : decode cX12_bad 66 = .ok (.getfield 13, 3) := by decide +kernel
theorem dX12_bad_69 : decode cX12_bad 69 = .ok (.iload 4, 2) := by decide +kernel
theorem dX12_bad_71 : decode cX12_bad 71 = .ok (.iconst 5, 1) := by decide +kernel
theorem dX12_bad_72 : decode cX12_bad 72 = .ok (.iadd, 1) := by decide +kernel
theorem dX12_bad_73 : decode cX12_bad 73 = .ok (.iload_n 3, 1) := by decide +kernel
theorem dX12_bad_74 : decode cX12_bad 74 = .ok (.ifCond .eq 7, 3) := by decide +kernel
theorem dX12_bad_77 : decode cX12_bad 77 = .ok (.iconst 1, 1) := by decide +kernel
theorem dX12_bad_78 : decode cX12_bad 78 = .ok (.goto 4, 3) := by decide +kernel
theorem dX12_bad_81 : decode cX12_bad 81 = .ok (.iconst 0, 1) := by decide +kernel
theorem dX12_bad_82 : decode cX12_bad 82 = .ok (.iastore, 1) := by decide +kernel
theorem dX12_bad_83 : decode cX12_bad 83 = .ok (.iconst 1, 1) := by decide +kernel
theorem dX12_bad_84 : decode cX12_bad 84 = .ok (.ireturn, 1) := by decide +kernel
theorem dX12_isBearing_0 : decode cX12_isBearing 0 = .ok (.iload_n 3, 1) := by decide +kernel
theorem dX12_isBearing_1 : decode cX12_isBearing 1 = .ok (.aload_n 0, 1) := by decide +kernel
theorem dX12_isBearing_2 : decode cX12_isBearing 2 = .ok (.getfield 13, 3) := by decide +kernel
theorem dX12_isBearing_5 : decode cX12_isBearing 5 = .ok (.iload_n 2, 1) := by decide +kernel
theorem dX12_isBearing_6 : decode cX12_isBearing 6 = .ok (.iconst 3, 1) := by decide +kernel
theorem dX12_isBearing_7 : decode cX12_isBearing 7 = .ok (.iadd, 1) := by decide +kernel
theorem dX12_isBearing_8 : decode cX12_isBearing 8 = .ok (.iaload, 1) := by decide +kernel
theorem dX12_isBearing_9 : decode cX12_isBearing 9 = .ok (.isub, 1) := by decide +kernel
theorem dX12_isBearing_10 : decode cX12_isBearing 10 = .ok (.istore 4, 2) := by decide +kernel
theorem dX12_isBearing_12 : decode cX12_isBearing 12 = .ok (.aload_n 0, 1) := by decide +kernel
theorem dX12_isBearing_13 : decode cX12_isBearing 13 = .ok (.iload_n 1, 1) := by decide +kernel
theorem dX12_isBearing_14 : decode cX12_isBearing 14 = .ok (.iconst 2, 1) := by decide +kernel
theorem dX12_isBearing_15 : decode cX12_isBearing 15 = .ok (.invokevirtual 193, 3) := by decide +kernel
theorem dX12_isBearing_18 : decode cX12_isBearing 18 = .ok (.ifCond .ne 49, 3) := by decide +kernel
theorem dX12_isBearing_21 : decode cX12_isBearing 21 = .ok (.iconst 2, 1) := by decide +kernel
theorem dX12_isBearing_22 : decode cX12_isBearing 22 = .ok (.iload 4, 2) := by decide +kernel
theorem dX12_isBearing_24 : decode cX12_isBearing 24 = .ok (.imul, 1) := by decide +kernel
theorem dX12_isBearing_25 : decode cX12_isBearing 25 = .ok (.bipush 100, 2) := by decide +kernel
theorem dX12_isBearing_27 : decode cX12_isBearing 27 = .ok (.if_icmp .le 8, 3) := by decide +kernel
theorem dX12_isBearing_30 : decode cX12_isBearing 30 = .ok (.bipush 100, 2) := by decide +kernel
theorem dX12_isBearing_32 : decode cX12_isBearing 32 = .ok (.goto 7, 3) := by decide +kernel
theorem dX12_isBearing_35 : decode cX12_isBearing 35 = .ok (.iconst 2, 1) := by decide +kernel
theorem dX12_isBearing_36 : decode cX12_isBearing 36 = .ok (.iload 4, 2) := by decide +kernel
theorem dX12_isBearing_38 : decode cX12_isBearing 38 = .ok (.imul, 1) := by decide +kernel
theorem dX12_isBearing_39 : decode cX12_isBearing 39 = .ok (.istore 5, 2) := by decide +kernel
theorem dX12_isBearing_41 : decode cX12_isBearing 41 = .ok (.aload_n 0, 1) := by decide +kernel
theorem dX12_isBearing_42 : decode cX12_isBearing 42 = .ok (.getfield 13, 3) := by decide +kernel
theorem dX12_isBearing_45 : decode cX12_isBearing 45 = .ok (.iload_n 2, 1) := by decide +kernel
theorem dX12_isBearing_46 : decode cX12_isBearing 46 = .ok (.iconst 4, 1) := by decide +kernel
theorem dX12_isBearing_47 : decode cX12_isBearing 47 = .ok (.iadd, 1) := by decide +kernel
theorem dX12_isBearing_48 : decode cX12_isBearing 48 = .ok (.iaload, 1) := by decide +kernel
theorem dX12_isBearing_49 : decode cX12_isBearing 49 = .ok (.iconst 1, 1) := by decide +kernel
theorem dX12_isBearing_50 : decode cX12_isBearing 50 = .ok (.if_icmp .ne 10, 3) := by decide +kernel
theorem dX12_isBearing_53 : decode cX12_isBearing 53 = .ok (.iload 5, 2) := by decide +kernel
theorem dX12_isBearing_55 : decode cX12_isBearing 55 = .ok (.iconst 2, 1) := by decide +kernel
theorem dX12_isBearing_56 : decode cX12_isBearing 56 = .ok (.idiv, 1) := by decide +kernel
theorem dX12_isBearing_57 : decode cX12_isBearing 57 = .ok (.goto 5, 3) := by decide +kernel
theorem dX12_isBearing_60 : decode cX12_isBearing 60 = .ok (.iload 5, 2) := by decide +kernel
theorem dX12_isBearing_62 : decode cX12_isBearing 62 = .ok (.istore 5, 2) := by decide +kernel
theorem dX12_isBearing_64 : decode cX12_isBearing 64 = .ok (.goto 33, 3) := by decide +kernel
theorem dX12_isBearing_67 : decode cX12_isBearing 67 = .ok (.bipush 10, 2) := by decide +kernel
theorem dX12_isBearing_69 : decode cX12_isBearing 69 = .ok (.bipush 6, 2) := by decide +kernel
theorem dX12_isBearing_71 : decode cX12_isBearing 71 = .ok (.iload 4, 2) := by decide +kernel
theorem dX12_isBearing_73 : decode cX12_isBearing 73 = .ok (.imul, 1) := by decide +kernel
theorem dX12_isBearing_74 : decode cX12_isBearing 74 = .ok (.iadd, 1) := by decide +kernel
theorem dX12_isBearing_75 : decode cX12_isBearing 75 = .ok (.sipush 300, 3) := by decide +kernel
theorem dX12_isBearing_78 : decode cX12_isBearing 78 = .ok (.if_icmp .le 9, 3) := by decide +kernel
theorem dX12_isBearing_81 : decode cX12_isBearing 81 = .ok (.sipush 300, 3) := by decide +kernel
theorem dX12_isBearing_84 : decode cX12_isBearing 84 = .ok (.goto 11, 3) := by decide +kernel
theorem dX12_isBearing_87 : decode cX12_isBearing 87 = .ok (.bipush 10, 2) := by decide +kernel
theorem dX12_isBearing_89 : decode cX12_isBearing 89 = .ok (.bipush 6, 2) := by decide +kernel
theorem dX12_isBearing_91 : decode cX12_isBearing 91 = .ok (.iload 4, 2) := by decide +kernel
theorem dX12_isBearing_93 : decode cX12_isBearing 93 = .ok (.imul, 1) := by decide +kernel
theorem dX12_isBearing_94 : decode cX12_isBearing 94 = .ok (.iadd, 1) := by decide +kernel
theorem dX12_isBearing_95 : decode cX12_isBearing 95 = .ok (.istore 5, 2) := by decide +kernel
theorem dX12_isBearing_97 : decode cX12_isBearing 97 = .ok (.aload_n 0, 1) := by decide +kernel
theorem dX12_isBearing_98 : decode cX12_isBearing 98 = .ok (.getfield 13, 3) := by decide +kernel
theorem dX12_isBearing_101 : decode cX12_isBearing 101 = .ok (.iload_n 2, 1) := by decide +kernel
theorem dX12_isBearing_102 : decode cX12_isBearing 102 = .ok (.iconst 5, 1) := by decide +kernel
theorem dX12_isBearing_103 : decode cX12_isBearing 103 = .ok (.iadd, 1) := by decide +kernel
theorem dX12_isBearing_104 : decode cX12_isBearing 104 = .ok (.iaload, 1) := by decide +kernel
theorem dX12_isBearing_105 : decode cX12_isBearing 105 = .ok (.iconst 1, 1) := by decide +kernel
theorem dX12_isBearing_106 : decode cX12_isBearing 106 = .ok (.if_icmp .ne 10, 3) := by decide +kernel
theorem dX12_isBearing_109 : decode cX12_isBearing 109 = .ok (.iload 5, 2) := by decide +kernel
theorem dX12_isBearing_111 : decode cX12_isBearing 111 = .ok (.iconst 2, 1) := by decide +kernel
theorem dX12_isBearing_112 : decode cX12_isBearing 112 = .ok (.idiv, 1) := by decide +kernel
theorem dX12_isBearing_113 : decode cX12_isBearing 113 = .ok (.goto 5, 3) := by decide +kernel
theorem dX12_isBearing_116 : decode cX12_isBearing 116 = .ok (.iload 5, 2) := by decide +kernel
theorem dX12_isBearing_118 : decode cX12_isBearing 118 = .ok (.istore 5, 2) := by decide +kernel
theorem dX12_isBearing_120 : decode cX12_isBearing 120 = .ok (.iload 5, 2) := by decide +kernel
theorem dX12_isBearing_122 : decode cX12_isBearing 122 = .ok (.aload_n 0, 1) := by decide +kernel
theorem dX12_isBearing_123 : decode cX12_isBearing 123 = .ok (.iload_n 2, 1) := by decide +kernel
theorem dX12_isBearing_124 : decode cX12_isBearing 124 = .ok (.invokevirtual 204, 3) := by decide +kernel
theorem dX12_isBearing_127 : decode cX12_isBearing 127 = .ok (.if_icmp .lt 7, 3) := by decide +kernel
theorem dX12_isBearing_130 : decode cX12_isBearing 130 = .ok (.iconst 1, 1) := by decide +kernel
theorem dX12_isBearing_131 : decode cX12_isBearing 131 = .ok (.goto 4, 3) := by decide +kernel
theorem dX12_isBearing_134 : decode cX12_isBearing 134 = .ok (.iconst 0, 1) := by decide +kernel
theorem dX12_isBearing_135 : decode cX12_isBearing 135 = .ok (.ireturn, 1) := by decide +kernel
theorem dX12_bears_0 : decode cX12_bears 0 = .ok (.aload_n 0, 1) := by decide +kernel
theorem dX12_bears_1 : decode cX12_bears 1 = .ok (.iconst 0, 1) := by decide +kernel
theorem dX12_bears_2 : decode cX12_bears 2 = .ok (.putfield 1, 3) := by decide +kernel
theorem dX12_bears_5 : decode cX12_bears 5 = .ok (.aload_n 0, 1) := by decide +kernel
theorem dX12_bears_6 : decode cX12_bears 6 = .ok (.iload_n 1, 1) := by decide +kernel
theorem dX12_bears_7 : decode cX12_bears 7 = .ok (.iload_n 2, 1) := by decide +kernel
theorem dX12_bears_8 : decode cX12_bears 8 = .ok (.invokevirtual 201, 3) := by decide +kernel
theorem dX12_bears_11 : decode cX12_bears 11 = .ok (.ifCond .ne 5, 3) := by decide +kernel
theorem dX12_bears_14 : decode cX12_bears 14 = .ok (.iconst (-1), 1) := by decide +kernel
theorem dX12_bears_15 : decode cX12_bears 15 = .ok (.ireturn, 1) := by decide +kernel
theorem dX12_bears_16 : decode cX12_bears 16 = .ok (.aload_n 0, 1) := by decide +kernel
theorem dX12_bears_17 : decode cX12_bears 17 = .ok (.iload_n 1, 1) := by decide +kernel
theorem dX12_bears_18 : decode cX12_bears 18 = .ok (.iload_n 2, 1) := by decide +kernel
theorem dX12_bears_19 : decode cX12_bears 19 = .ok (.invokevirtual 185, 3) := by decide +kernel
theorem dX12_bears_22 : decode cX12_bears 22 = .ok (.istore_n 3, 1) := by decide +kernel
theorem dX12_bears_23 : decode cX12_bears 23 = .ok (.aload_n 0, 1) := by decide +kernel
theorem dX12_bears_24 : decode cX12_bears 24 = .ok (.getfield 13, 3) := by decide +kernel
theorem dX12_bears_27 : decode cX12_bears 27 = .ok (.iload_n 3, 1) := by decide +kernel
theorem dX12_bears_28 : decode cX12_bears 28 = .ok (.iconst 3, 1) := by decide +kernel
theorem dX12_bears_29 : decode cX12_bears 29 = .ok (.iadd, 1) := by decide +kernel
theorem dX12_bears_30 : decode cX12_bears 30 = .ok (.iaload, 1) := by decide +kernel
theorem dX12_bears_31 : decode cX12_bears 31 = .ok (.bipush (-9), 2) := by decide +kernel
theorem dX12_bears_33 : decode cX12_bears 33 = .ok (.if_icmp .ne 6, 3) := by decide +kernel
theorem dX12_bears_36 : decode cX12_bears 36 = .ok (.bipush (-4), 2) := by decide +kernel
theorem dX12_bears_38 : decode cX12_bears 38 = .ok (.ireturn, 1) := by decide +kernel
theorem dX12_bears_39 : decode cX12_bears 39 = .ok (.aload_n 0, 1) := by decide +kernel
theorem dX12_bears_40 : decode cX12_bears 40 = .ok (.getfield 13, 3) := by decide +kernel
theorem dX12_bears_43 : decode cX12_bears 43 = .ok (.iload_n 3, 1) := by decide +kernel
theorem dX12_bears_44 : decode cX12_bears 44 = .ok (.iconst 3, 1) := by decide +kernel
theorem dX12_bears_45 : decode cX12_bears 45 = .ok (.iadd, 1) := by decide +kernel
theorem dX12_bears_46 : decode cX12_bears 46 = .ok (.iaload, 1) := by decide +kernel
theorem dX12_bears_47 : decode cX12_bears 47 = .ok (.istore 4, 2) := by decide +kernel
theorem dX12_bears_49 : decode cX12_bears 49 = .ok (.iload 4, 2) := by decide +kernel
theorem dX12_bears_51 : decode cX12_bears 51 = .ok (.sipush 9999, 3) := by decide +kernel
theorem dX12_bears_54 : decode cX12_bears 54 = .ok (.if_icmp .gt 23, 3) := by decide +kernel
theorem dX12_bears_57 : decode cX12_bears 57 = .ok (.aload_n 0, 1) := by decide +kernel
theorem dX12_bears_58 : decode cX12_bears 58 = .ok (.iload_n 1, 1) := by decide +kernel
theorem dX12_bears_59 : decode cX12_bears 59 = .ok (.iload_n 3, 1) := by decide +kernel
theorem dX12_bears_60 : decode cX12_bears 60 = .ok (.iload 4, 2) := by decide +kernel
theorem dX12_bears_62 : decode cX12_bears 62 = .ok (.invokevirtual 207, 3) := by decide +kernel
theorem dX12_bears_65 : decode cX12_bears 65 = .ok (.ifCond .eq 6, 3) := by decide +kernel
theorem dX12_bears_68 : decode cX12_bears 68 = .ok (.iload 4, 2) := by decide +kernel
theorem dX12_bears_70 : decode cX12_bears 70 = .ok (.ireturn, 1) := by decide +kernel
theorem dX12_bears_71 : decode cX12_bears 71 = .ok (.iinc 4 1, 3) := by decide +kernel
theorem dX12_bears_74 : decode cX12_bears 74 = .ok (.goto (-25), 3) := by decide +kernel
theorem dX12_bears_77 : decode cX12_bears 77 = .ok (.bipush (-3), 2) := by decide +kernel
theorem dX12_bears_79 : decode cX12_bears 79 = .ok (.ireturn, 1) := by decide +kernel
theorem dX12_begin_0 : decode cX12_begin 0 = .ok (.aload_n 0, 1) := by decide +kernel
theorem dX12_begin_1 : decode cX12_begin 1 = .ok (.iconst 0, 1) := by decide +kernel
theorem dX12_begin_2 : decode cX12_begin 2 = .ok (.putfield 1, 3) := by decide +kernel
theorem dX12_begin_5 : decode cX12_begin 5 = .ok (.aload_n 0, 1) := by decide +kernel
theorem dX12_begin_6 : decode cX12_begin 6 = .ok (.invokevirtual 76, 3) := by decide +kernel
theorem dX12_begin_9 : decode cX12_begin 9 = .ok (.iconst 0, 1) := by decide +kernel
theorem dX12_begin_10 : decode cX12_begin 10 = .ok (.ireturn, 1) := by decide +kernel
theorem dX12_digOf_0 : decode cX12_digOf 0 = .ok (.aload_n 0, 1) := by decide +kernel
theorem dX12_digOf_1 : decode cX12_digOf 1 = .ok (.iload_n 1, 1) := by decide +kernel
theorem dX12_digOf_2 : decode cX12_digOf 2 = .ok (.iconst 0, 1) := by decide +kernel
theorem dX12_digOf_3 : decode cX12_digOf 3 = .ok (.invokevirtual 117, 3) := by decide +kernel
theorem dX12_digOf_6 : decode cX12_digOf 6 = .ok (.iload_n 2, 1) := by decide +kernel
theorem dX12_digOf_7 : decode cX12_digOf 7 = .ok (.isub, 1) := by decide +kernel
theorem dX12_digOf_8 : decode cX12_digOf 8 = .ok (.istore_n 3, 1) := by decide +kernel
theorem dX12_digOf_9 : decode cX12_digOf 9 = .ok (.iload_n 3, 1) := by decide +kernel
theorem dX12_digOf_10 : decode cX12_digOf 10 = .ok (.ifCond .le 16, 3) := by decide +kernel
theorem dX12_digOf_13 : decode cX12_digOf 13 = .ok (.iload_n 3, 1) := by decide +kernel
theorem dX12_digOf_14 : decode cX12_digOf 14 = .ok (.iconst 2, 1) := by decide +kernel
theorem dX12_digOf_15 : decode cX12_digOf 15 = .ok (.aload_n 0, 1) := by decide +kernel
theorem dX12_digOf_16 : decode cX12_digOf 16 = .ok (.iload_n 1, 1) := by decide +kernel
theorem dX12_digOf_17 : decode cX12_digOf 17 = .ok (.iconst 1, 1) := by decide +kernel
theorem dX12_digOf_18 : decode cX12_digOf 18 = .ok (.invokevirtual 117, 3) := by decide +kernel
theorem dX12_digOf_21 : decode cX12_digOf 21 = .ok (.iadd, 1) := by decide +kernel
theorem dX12_digOf_22 : decode cX12_digOf 22 = .ok (.imul, 1) := by decide +kernel
theorem dX12_digOf_23 : decode cX12_digOf 23 = .ok (.goto 7, 3) := by decide +kernel
theorem dX12_digOf_26 : decode cX12_digOf 26 = .ok (.bipush (-9), 2) := by decide +kernel
theorem dX12_digOf_28 : decode cX12_digOf 28 = .ok (.iload_n 3, 1) := by decide +kernel
theorem dX12_digOf_29 : decode cX12_digOf 29 = .ok (.imul, 1) := by decide +kernel
theorem dX12_digOf_30 : decode cX12_digOf 30 = .ok (.ireturn, 1) := by decide +kernel
theorem dX12_digAt_0 : decode cX12_digAt 0 = .ok (.aload_n 0, 1) := by decide +kernel
theorem dX12_digAt_1 : decode cX12_digAt 1 = .ok (.aload_n 0, 1) := by decide +kernel
theorem dX12_digAt_2 : decode cX12_digAt 2 = .ok (.getfield 13, 3) := by decide +kernel
theorem dX12_digAt_5 : decode cX12_digAt 5 = .ok (.iload_n 1, 1) := by decide +kernel
theorem dX12_digAt_6 : decode cX12_digAt 6 = .ok (.iconst 0, 1) := by decide +kernel
theorem dX12_digAt_7 : decode cX12_digAt 7 = .ok (.iadd, 1) := by decide +kernel
theorem dX12_digAt_8 : decode cX12_digAt 8 = .ok (.iaload, 1) := by decide +kernel
theorem dX12_digAt_9 : decode cX12_digAt 9 = .ok (.aload_n 0, 1) := by decide +kernel
theorem dX12_digAt_10 : decode cX12_digAt 10 = .ok (.getfield 13, 3) := by decide +kernel
theorem dX12_digAt_13 : decode cX12_digAt 13 = .ok (.iload_n 1, 1) := by decide +kernel
theorem dX12_digAt_14 : decode cX12_digAt 14 = .ok (.iconst 1, 1) := by decide +kernel
theorem dX12_digAt_15 : decode cX12_digAt 15 = .ok (.iadd, 1) := by decide +kernel
theorem dX12_digAt_16 : decode cX12_digAt 16 = .ok (.iaload, 1) := by decide +kernel
theorem dX12_digAt_17 : decode cX12_digAt 17 = .ok (.invokevirtual 176, 3) := by decide +kernel
theorem dX12_digAt_20 : decode cX12_digAt 20 = .ok (.ireturn, 1) := by decide +kernel
theorem dX12_costOf_0 : decode cX12_costOf 0 = .ok (.iconst 0, 1) := by decide +kernel
theorem dX12_costOf_1 : decode cX12_costOf 1 = .ok (.istore_n 2, 1) := by decide +kernel
theorem dX12_costOf_2 : decode cX12_costOf 2 = .ok (.iconst 0, 1) := by decide +kernel
theorem dX12_costOf_3 : decode cX12_costOf 3 = .ok (.istore_n 3, 1) := by decide +kernel
theorem dX12_costOf_4 : decode cX12_costOf 4 = .ok (.iload_n 3, 1) := by decide +kernel
theorem dX12_costOf_5 : decode cX12_costOf 5 = .ok (.aload_n 0, 1) := by decide +kernel
theorem dX12_costOf_6 : decode cX12_costOf 6 = .ok (.bipush 15, 2) := by decide +kernel
theorem dX12_costOf_8 : decode cX12_costOf 8 = .ok (.invokevirtual 101, 3) := by decide +kernel
theorem dX12_costOf_11 : decode cX12_costOf 11 = .ok (.if_icmp .ge 62, 3) := by decide +kernel
theorem dX12_costOf_14 : decode cX12_costOf 14 = .ok (.iconst 0, 1) := by decide +kernel
theorem dX12_costOf_15 : decode cX12_costOf 15 = .ok (.istore 4, 2) := by decide +kernel
theorem dX12_costOf_17 : decode cX12_costOf 17 = .ok (.iload 4, 2) := by decide +kernel
theorem dX12_costOf_19 : decode cX12_costOf 19 = .ok (.aload_n 0, 1) := by decide +kernel
theorem dX12_costOf_20 : decode cX12_costOf 20 = .ok (.iload_n 3, 1) := by decide +kernel
theorem dX12_costOf_21 : decode cX12_costOf 21 = .ok (.iconst 0, 1) := by decide +kernel
theorem dX12_costOf_22 : decode cX12_costOf 22 = .ok (.invokevirtual 193, 3) := by decide +kernel
theorem dX12_costOf_25 : decode cX12_costOf 25 = .ok (.if_icmp .ge 42, 3) := by decide +kernel
theorem dX12_costOf_28 : decode cX12_costOf 28 = .ok (.iload_n 1, 1) := by decide +kernel
theorem dX12_costOf_29 : decode cX12_costOf 29 = .ok (.iload_n 3, 1) := by decide +kernel
theorem dX12_costOf_30 : decode cX12_costOf 30 = .ok (.ishr, 1) := by decide +kernel
theorem dX12_costOf_31 : decode cX12_costOf 31 = .ok (.iconst 1, 1) := by decide +kernel
theorem dX12_costOf_32 : decode cX12_costOf 32 = .ok (.iand, 1) := by decide +kernel
theorem dX12_costOf_33 : decode cX12_costOf 33 = .ok (.iconst 1, 1) := by decide +kernel
theorem dX12_costOf_34 : decode cX12_costOf 34 = .ok (.if_icmp .ne 33, 3) := by decide +kernel
theorem dX12_costOf_37 : decode cX12_costOf 37 = .ok (.iload_n 2, 1) := by decide +kernel
theorem dX12_costOf_38 : decode cX12_costOf 38 = .ok (.aload_n 0, 1) := by decide +kernel
theorem dX12_costOf_39 : decode cX12_costOf 39 = .ok (.aload_n 0, 1) := by decide +kernel
theorem dX12_costOf_40 : decode cX12_costOf 40 = .ok (.iload_n 3, 1) := by decide +kernel
theorem dX12_costOf_41 : decode cX12_costOf 41 = .ok (.iload 4, 2) := by decide +kernel
theorem dX12_costOf_43 : decode cX12_costOf 43 = .ok (.invokevirtual 185, 3) := by decide +kernel
theorem dX12_costOf_46 : decode cX12_costOf 46 = .ok (.invokevirtual 196, 3) := by decide +kernel
theorem dX12_costOf_49 : decode cX12_costOf 49 = .ok (.bipush 10, 2) := by decide +kernel
theorem dX12_costOf_51 : decode cX12_costOf 51 = .ok (.aload_n 0, 1) := by decide +kernel
theorem dX12_costOf_52 : decode cX12_costOf 52 = .ok (.iload_n 3, 1) := by decide +kernel
theorem dX12_costOf_53 : decode cX12_costOf 53 = .ok (.iconst 1, 1) := by decide +kernel
theorem dX12_costOf_54 : decode cX12_costOf 54 = .ok (.invokevirtual 193, 3) := by decide +kernel
theorem dX12_costOf_57 : decode cX12_costOf 57 = .ok (.imul, 1) := by decide +kernel
theorem dX12_costOf_58 : decode cX12_costOf 58 = .ok (.iadd, 1) := by decide +kernel
theorem dX12_costOf_59 : decode cX12_costOf 59 = .ok (.iadd, 1) := by decide +kernel
theorem dX12_costOf_60 : decode cX12_costOf 60 = .ok (.istore_n 2, 1) := by decide +kernel
theorem dX12_costOf_61 : decode cX12_costOf 61 = .ok (.iinc 4 1, 3) := by decide +kernel
theorem dX12_costOf_64 : decode cX12_costOf 64 = .ok (.goto (-47), 3) := by decide +kernel
theorem dX12_costOf_67 : decode cX12_costOf 67 = .ok (.iinc 3 1, 3) := by decide +kernel
theorem dX12_costOf_70 : decode cX12_costOf 70 = .ok (.goto (-66), 3) := by decide +kernel
theorem dX12_costOf_73 : decode cX12_costOf 73 = .ok (.iload_n 2, 1) := by decide +kernel
theorem dX12_costOf_74 : decode cX12_costOf 74 = .ok (.ireturn, 1) := by decide +kernel
theorem dX12_h_0 : decode cX12_h 0 = .ok (.aload_n 0, 1) := by decide +kernel
theorem dX12_h_1 : decode cX12_h 1 = .ok (.getfield 13, 3) := by decide +kernel
theorem dX12_h_4 : decode cX12_h 4 = .ok (.sipush 1500, 3) := by decide +kernel
theorem dX12_h_7 : decode cX12_h 7 = .ok (.bipush 10, 2) := by decide +kernel
theorem dX12_h_9 : decode cX12_h 9 = .ok (.iload_n 1, 1) := by decide +kernel
theorem dX12_h_10 : decode cX12_h 10 = .ok (.imul, 1) := by decide +kernel
theorem dX12_h_11 : decode cX12_h 11 = .ok (.iadd, 1) := by decide +kernel
theorem dX12_h_12 : decode cX12_h 12 = .ok (.iload_n 2, 1) := by decide +kernel
theorem dX12_h_13 : decode cX12_h 13 = .ok (.iadd, 1) := by decide +kernel
theorem dX12_h_14 : decode cX12_h 14 = .ok (.iaload, 1) := by decide +kernel
theorem dX12_h_15 : decode cX12_h 15 = .ok (.ireturn, 1) := by decide +kernel
theorem dX12_nextBy_0 : decode cX12_nextBy 0 = .ok (.aload_n 0, 1) := by decide +kernel
theorem dX12_nextBy_1 : decode cX12_nextBy 1 = .ok (.iload_n 2, 1) := by decide +kernel
theorem dX12_nextBy_2 : decode cX12_nextBy 2 = .ok (.iconst 0, 1) := by decide +kernel
theorem dX12_nextBy_3 : decode cX12_nextBy 3 = .ok (.invokevirtual 226, 3) := by decide +kernel
theorem dX12_nextBy_6 : decode cX12_nextBy 6 = .ok (.iconst 1, 1) := by decide +kernel
theorem dX12_nextBy_7 : decode cX12_nextBy 7 = .ok (.if_icmp .ne 10, 3) := by decide +kernel
theorem dX12_nextBy_10 : decode cX12_nextBy 10 = .ok (.aload_n 0, 1) := by decide +kernel
theorem dX12_nextBy_11 : decode cX12_nextBy 11 = .ok (.iload_n 2, 1) := by decide +kernel
theorem dX12_nextBy_12 : decode cX12_nextBy 12 = .ok (.iconst 1, 1) := by decide +kernel
theorem dX12_nextBy_13 : decode cX12_nextBy 13 = .ok (.invokevirtual 226, 3) := by decide +kernel
theorem dX12_nextBy_16 : decode cX12_nextBy 16 = .ok (.ireturn, 1) := by decide +kernel
theorem dX12_nextBy_17 : decode cX12_nextBy 17 = .ok (.iconst 0, 1) := by decide +kernel
theorem dX12_nextBy_18 : decode cX12_nextBy 18 = .ok (.istore_n 3, 1) := by decide +kernel
theorem dX12_nextBy_19 : decode cX12_nextBy 19 = .ok (.iload_n 3, 1) := by decide +kernel
theorem dX12_nextBy_20 : decode cX12_nextBy 20 = .ok (.aload_n 0, 1) := by decide +kernel
theorem dX12_nextBy_21 : decode cX12_nextBy 21 = .ok (.bipush 15, 2) := by decide +kernel
theorem dX12_nextBy_23 : decode cX12_nextBy 23 = .ok (.invokevirtual 101, 3) := by decide +kernel
theorem dX12_nextBy_26 : decode cX12_nextBy 26 = .ok (.if_icmp .ge 76, 3) := by decide +kernel
theorem dX12_nextBy_29 : decode cX12_nextBy 29 = .ok (.iload_n 1, 1) := by decide +kernel
theorem dX12_nextBy_30 : decode cX12_nextBy 30 = .ok (.iload_n 3, 1) := by decide +kernel
theorem dX12_nextBy_31 : decode cX12_nextBy 31 = .ok (.ishr, 1) := by decide +kernel
theorem dX12_nextBy_32 : decode cX12_nextBy 32 = .ok (.iconst 1, 1) := by decide +kernel
theorem dX12_nextBy_33 : decode cX12_nextBy 33 = .ok (.iand, 1) := by decide +kernel
theorem dX12_nextBy_34 : decode cX12_nextBy 34 = .ok (.iconst 1, 1) := by decide +kernel
theorem dX12_nextBy_35 : decode cX12_nextBy 35 = .ok (.if_icmp .ne 12, 3) := by decide +kernel
theorem dX12_nextBy_38 : decode cX12_nextBy 38 = .ok (.aload_n 0, 1) := by decide +kernel
theorem dX12_nextBy_39 : decode cX12_nextBy 39 = .ok (.iload_n 3, 1) := by decide +kernel
theorem dX12_nextBy_40 : decode cX12_nextBy 40 = .ok (.iload_n 2, 1) := by decide +kernel
theorem dX12_nextBy_41 : decode cX12_nextBy 41 = .ok (.invokevirtual 230, 3) := by decide +kernel
theorem dX12_nextBy_44 : decode cX12_nextBy 44 = .ok (.goto 4, 3) := by decide +kernel
theorem dX12_nextBy_47 : decode cX12_nextBy 47 = .ok (.iconst (-1), 1) := by decide +kernel
theorem dX12_nextBy_48 : decode cX12_nextBy 48 = .ok (.istore 4, 2) := by decide +kernel
theorem dX12_nextBy_50 : decode cX12_nextBy 50 = .ok (.iload 4, 2) := by decide +kernel
theorem dX12_nextBy_52 : decode cX12_nextBy 52 = .ok (.iconst (-1), 1) := by decide +kernel
theorem dX12_nextBy_53 : decode cX12_nextBy 53 = .ok (.if_icmp .eq 43, 3) := by decide +kernel
theorem dX12_nextBy_56 : decode cX12_nextBy 56 = .ok (.iload 4, 2) := by decide +kernel
theorem dX12_nextBy_58 : decode cX12_nextBy 58 = .ok (.aload_n 0, 1) := by decide +kernel
theorem dX12_nextBy_59 : decode cX12_nextBy 59 = .ok (.iload_n 3, 1) := by decide +kernel
theorem dX12_nextBy_60 : decode cX12_nextBy 60 = .ok (.iconst 0, 1) := by decide +kernel
theorem dX12_nextBy_61 : decode cX12_nextBy 61 = .ok (.invokevirtual 193, 3) := by decide +kernel
theorem dX12_nextBy_64 : decode cX12_nextBy 64 = .ok (.iconst 1, 1) := by decide +kernel
theorem dX12_nextBy_65 : decode cX12_nextBy 65 = .ok (.isub, 1) := by decide +kernel
theorem dX12_nextBy_66 : decode cX12_nextBy 66 = .ok (.if_icmp .ge 22, 3) := by decide +kernel
theorem dX12_nextBy_69 : decode cX12_nextBy 69 = .ok (.aload_n 0, 1) := by decide +kernel
theorem dX12_nextBy_70 : decode cX12_nextBy 70 = .ok (.getfield 13, 3) := by decide +kernel
theorem dX12_nextBy_73 : decode cX12_nextBy 73 = .ok (.aload_n 0, 1) := by decide +kernel
theorem dX12_nextBy_74 : decode cX12_nextBy 74 = .ok (.iload_n 3, 1) := by decide +kernel
theorem dX12_nextBy_75 : decode cX12_nextBy 75 = .ok (.iload 4, 2) := by decide +kernel
theorem dX12_nextBy_77 : decode cX12_nextBy 77 = .ok (.iconst 1, 1) := by decide +kernel
theorem dX12_nextBy_78 : decode cX12_nextBy 78 = .ok (.iadd, 1) := by decide +kernel
theorem dX12_nextBy_79 : decode cX12_nextBy 79 = .ok (.invokevirtual 185, 3) := by decide +kernel
theorem dX12_nextBy_82 : decode cX12_nextBy 82 = .ok (.iconst 0, 1) := by decide +kernel
theorem dX12_nextBy_83 : decode cX12_nextBy 83 = .ok (.iadd, 1) := by decide +kernel
theorem dX12_nextBy_84 : decode cX12_nextBy 84 = .ok (.iaload, 1) := by decide +kernel
theorem dX12_nextBy_85 : decode cX12_nextBy 85 = .ok (.goto 10, 3) := by decide +kernel
theorem dX12_nextBy_88 : decode cX12_nextBy 88 = .ok (.aload_n 0, 1) := by decide +kernel
theorem dX12_nextBy_89 : decode cX12_nextBy 89 = .ok (.iload_n 2, 1) := by decide +kernel
theorem dX12_nextBy_90 : decode cX12_nextBy 90 = .ok (.bipush 6, 2) := by decide +kernel
theorem dX12_nextBy_92 : decode cX12_nextBy 92 = .ok (.invokevirtual 117, 3) := by decide +kernel
theorem dX12_nextBy_95 : decode cX12_nextBy 95 = .ok (.ireturn, 1) := by decide +kernel
theorem dX12_nextBy_96 : decode cX12_nextBy 96 = .ok (.iinc 3 1, 3) := by decide +kernel
theorem dX12_nextBy_99 : decode cX12_nextBy 99 = .ok (.goto (-80), 3) := by decide +kernel
theorem dX12_nextBy_102 : decode cX12_nextBy 102 = .ok (.aload_n 0, 1) := by decide +kernel
theorem dX12_nextBy_103 : decode cX12_nextBy 103 = .ok (.iload_n 2, 1) := by decide +kernel
theorem dX12_nextBy_104 : decode cX12_nextBy 104 = .ok (.bipush 6, 2) := by decide +kernel
theorem dX12_nextBy_106 : decode cX12_nextBy 106 = .ok (.invokevirtual 117, 3) := by decide +kernel
theorem dX12_nextBy_109 : decode cX12_nextBy 109 = .ok (.ireturn, 1) := by decide +kernel
theorem dX12_fouledBy_0 : decode cX12_fouledBy 0 = .ok (.iconst 0, 1) := by decide +kernel
theorem dX12_fouledBy_1 : decode cX12_fouledBy 1 = .ok (.istore_n 2, 1) := by decide +kernel
theorem dX12_fouledBy_2 : decode cX12_fouledBy 2 = .ok (.iload_n 2, 1) := by decide +kernel
theorem dX12_fouledBy_3 : decode cX12_fouledBy 3 = .ok (.bipush 100, 2) := by decide +kernel
theorem dX12_fouledBy_5 : decode cX12_fouledBy 5 = .ok (.if_icmp .ge 21, 3) := by decide +kernel
theorem dX12_fouledBy_8 : decode cX12_fouledBy 8 = .ok (.aload_n 0, 1) := by decide +kernel
theorem dX12_fouledBy_9 : decode cX12_fouledBy 9 = .ok (.getfield 60, 3) := by decide +kernel
theorem dX12_fouledBy_12 : decode cX12_fouledBy 12 = .ok (.iload_n 2, 1) := by decide +kernel
theorem dX12_fouledBy_13 : decode cX12_fouledBy 13 = .ok (.aload_n 0, 1) := by decide +kernel
theorem dX12_fouledBy_14 : decode cX12_fouledBy 14 = .ok (.iload_n 1, 1) := by decide +kernel
theorem dX12_fouledBy_15 : decode cX12_fouledBy 15 = .ok (.iload_n 2, 1) := by decide +kernel
theorem dX12_fouledBy_16 : decode cX12_fouledBy 16 = .ok (.invokevirtual 347, 3) := by decide +kernel
theorem dX12_fouledBy_19 : decode cX12_fouledBy 19 = .ok (.iastore, 1) := by decide +kernel
theorem dX12_fouledBy_20 : decode cX12_fouledBy 20 = .ok (.iinc 2 1, 3) := by decide +kernel
theorem dX12_fouledBy_23 : decode cX12_fouledBy 23 = .ok (.goto (-21), 3) := by decide +kernel
theorem dX12_fouledBy_26 : decode cX12_fouledBy 26 = .ok (.iconst 0, 1) := by decide +kernel
theorem dX12_fouledBy_27 : decode cX12_fouledBy 27 = .ok (.istore_n 2, 1) := by decide +kernel
theorem dX12_fouledBy_28 : decode cX12_fouledBy 28 = .ok (.iconst 0, 1) := by decide +kernel
theorem dX12_fouledBy_29 : decode cX12_fouledBy 29 = .ok (.istore_n 3, 1) := by decide +kernel
theorem dX12_fouledBy_30 : decode cX12_fouledBy 30 = .ok (.iload_n 3, 1) := by decide +kernel
theorem dX12_fouledBy_31 : decode cX12_fouledBy 31 = .ok (.bipush 100, 2) := by decide +kernel
theorem dX12_fouledBy_33 : decode cX12_fouledBy 33 = .ok (.if_icmp .ge 117, 3) := by decide +kernel
theorem dX12_fouledBy_36 : decode cX12_fouledBy 36 = .ok (.aload_n 0, 1) := by decide +kernel
theorem dX12_fouledBy_37 : decode cX12_fouledBy 37 = .ok (.iload_n 3, 1) := by decide +kernel
theorem dX12_fouledBy_38 : decode cX12_fouledBy 38 = .ok (.iconst 4, 1) := by decide +kernel
theorem dX12_fouledBy_39 : decode cX12_fouledBy 39 = .ok (.invokevirtual 117, 3) := by decide +kernel
theorem dX12_fouledBy_42 : decode cX12_fouledBy 42 = .ok (.iconst 1, 1) := by decide +kernel
theorem dX12_fouledBy_43 : decode cX12_fouledBy 43 = .ok (.if_icmp .eq 101, 3) := by decide +kernel
theorem dX12_fouledBy_46 : decode cX12_fouledBy 46 = .ok (.aload_n 0, 1) := by decide +kernel
theorem dX12_fouledBy_47 : decode cX12_fouledBy 47 = .ok (.iload_n 3, 1) := by decide +kernel
theorem dX12_fouledBy_48 : decode cX12_fouledBy 48 = .ok (.iconst 2, 1) := by decide +kernel
theorem dX12_fouledBy_49 : decode cX12_fouledBy 49 = .ok (.invokevirtual 117, 3) := by decide +kernel
theorem dX12_fouledBy_52 : decode cX12_fouledBy 52 = .ok (.ifCond .ne 6, 3) := by decide +kernel
theorem dX12_fouledBy_55 : decode cX12_fouledBy 55 = .ok (.goto 89, 3) := by decide +kernel
theorem dX12_fouledBy_58 : decode cX12_fouledBy 58 = .ok (.iload_n 3, 1) := by decide +kernel
theorem dX12_fouledBy_59 : decode cX12_fouledBy 59 = .ok (.istore 4, 2) := by decide +kernel
theorem dX12_fouledBy_61 : decode cX12_fouledBy 61 = .ok (.iconst 0, 1) := by decide +kernel
theorem dX12_fouledBy_62 : decode cX12_fouledBy 62 = .ok (.istore 5, 2) := by decide +kernel
theorem dX12_fouledBy_64 : decode cX12_fouledBy 64 = .ok (.iload 5, 2) := by decide +kernel
theorem dX12_fouledBy_66 : decode cX12_fouledBy 66 = .ok (.sipush 200, 3) := by decide +kernel
theorem dX12_fouledBy_69 : decode cX12_fouledBy 69 = .ok (.if_icmp .ge 45, 3) := by decide +kernel
theorem dX12_fouledBy_72 : decode cX12_fouledBy 72 = .ok (.iload 4, 2) := by decide +kernel
theorem dX12_fouledBy_74 : decode cX12_fouledBy 74 = .ok (.iconst (-1), 1) := by decide +kernel
theorem dX12_fouledBy_75 : decode cX12_fouledBy 75 = .ok (.if_icmp .eq 39, 3) := by decide +kernel
theorem dX12_fouledBy_78 : decode cX12_fouledBy 78 = .ok (.aload_n 0, 1) := by decide +kernel
theorem dX12_fouledBy_79 : decode cX12_fouledBy 79 = .ok (.iload 4, 2) := by decide +kernel
theorem dX12_fouledBy_81 : decode cX12_fouledBy 81 = .ok (.iconst 4, 1) := by decide +kernel
theorem dX12_fouledBy_82 : decode cX12_fouledBy 82 = .ok (.invokevirtual 117, 3) := by decide +kernel
theorem dX12_fouledBy_85 : decode cX12_fouledBy 85 = .ok (.ifCond .ne 29, 3) := by decide +kernel
theorem dX12_fouledBy_88 : decode cX12_fouledBy 88 = .ok (.aload_n 0, 1) := by decide +kernel
theorem dX12_fouledBy_89 : decode cX12_fouledBy 89 = .ok (.iload 4, 2) := by decide +kernel
theorem dX12_fouledBy_91 : decode cX12_fouledBy 91 = .ok (.iconst 0, 1) := by decide +kernel
theorem dX12_fouledBy_92 : decode cX12_fouledBy 92 = .ok (.invokevirtual 226, 3) := by decide +kernel
theorem dX12_fouledBy_95 : decode cX12_fouledBy 95 = .ok (.iconst 2, 1) := by decide +kernel
theorem dX12_fouledBy_96 : decode cX12_fouledBy 96 = .ok (.if_icmp .eq 18, 3) := by decide +kernel
theorem dX12_fouledBy_99 : decode cX12_fouledBy 99 = .ok (.aload_n 0, 1) := by decide +kernel
theorem dX12_fouledBy_100 : decode cX12_fouledBy 100 = .ok (.getfield 60, 3) := by decide +kernel
theorem dX12_fouledBy_103 : decode cX12_fouledBy 103 = .ok (.iload 4, 2) := by decide +kernel
theorem dX12_fouledBy_105 : decode cX12_fouledBy 105 = .ok (.iaload, 1) := by decide +kernel
theorem dX12_fouledBy_106 : decode cX12_fouledBy 106 = .ok (.istore 4, 2) := by decide +kernel
theorem dX12_fouledBy_108 : decode cX12_fouledBy 108 = .ok (.iinc 5 1, 3) := by decide +kernel
theorem dX12_fouledBy_111 : decode cX12_fouledBy 111 = .ok (.goto (-47), 3) := by decide +kernel
theorem dX12_fouledBy_114 : decode cX12_fouledBy 114 = .ok (.iload_n 2, 1) := by decide +kernel
theorem dX12_fouledBy_115 : decode cX12_fouledBy 115 = .ok (.iload 4, 2) := by decide +kernel
theorem dX12_fouledBy_117 : decode cX12_fouledBy 117 = .ok (.iconst (-1), 1) := by decide +kernel
theorem dX12_fouledBy_118 : decode cX12_fouledBy 118 = .ok (.if_icmp .eq 23, 3) := by decide +kernel
theorem dX12_fouledBy_121 : decode cX12_fouledBy 121 = .ok (.aload_n 0, 1) := by decide +kernel
theorem dX12_fouledBy_122 : decode cX12_fouledBy 122 = .ok (.iload 4, 2) := by decide +kernel
theorem dX12_fouledBy_124 : decode cX12_fouledBy 124 = .ok (.iconst 4, 1) := by decide +kernel
theorem dX12_fouledBy_125 : decode cX12_fouledBy 125 = .ok (.invokevirtual 117, 3) := by decide +kernel
theorem dX12_fouledBy_128 : decode cX12_fouledBy 128 = .ok (.iconst 1, 1) := by decide +kernel
theorem dX12_fouledBy_129 : decode cX12_fouledBy 129 = .ok (.if_icmp .ne 12, 3) := by decide +kernel
theorem dX12_fouledBy_132 : decode cX12_fouledBy 132 = .ok (.aload_n 0, 1) := by decide +kernel
theorem dX12_fouledBy_133 : decode cX12_fouledBy 133 = .ok (.iload_n 3, 1) := by decide +kernel
theorem dX12_fouledBy_134 : decode cX12_fouledBy 134 = .ok (.iconst 2, 1) := by decide +kernel
theorem dX12_fouledBy_135 : decode cX12_fouledBy 135 = .ok (.invokevirtual 117, 3) := by decide +kernel
theorem dX12_fouledBy_138 : decode cX12_fouledBy 138 = .ok (.goto 4, 3) := by decide +kernel
theorem dX12_fouledBy_141 : decode cX12_fouledBy 141 = .ok (.iconst 0, 1) := by decide +kernel
theorem dX12_fouledBy_142 : decode cX12_fouledBy 142 = .ok (.iadd, 1) := by decide +kernel
theorem dX12_fouledBy_143 : decode cX12_fouledBy 143 = .ok (.istore_n 2, 1) := by decide +kernel
theorem dX12_fouledBy_144 : decode cX12_fouledBy 144 = .ok (.iinc 3 1, 3) := by decide +kernel
theorem dX12_fouledBy_147 : decode cX12_fouledBy 147 = .ok (.goto (-117), 3) := by decide +kernel
theorem dX12_fouledBy_150 : decode cX12_fouledBy 150 = .ok (.iload_n 2, 1) := by decide +kernel
theorem dX12_fouledBy_151 : decode cX12_fouledBy 151 = .ok (.ireturn, 1) := by decide +kernel
theorem dX12_best_0 : decode cX12_best 0 = .ok (.aload_n 0, 1) := by decide +kernel
theorem dX12_best_1 : decode cX12_best 1 = .ok (.iconst 0, 1) := by decide +kernel
theorem dX12_best_2 : decode cX12_best 2 = .ok (.putfield 1, 3) := by decide +kernel
theorem dX12_best_5 : decode cX12_best 5 = .ok (.iload_n 1, 1) := by decide +kernel
theorem dX12_best_6 : decode cX12_best 6 = .ok (.i2l, 1) := by decide +kernel
theorem dX12_best_7 : decode cX12_best 7 = .ok (.lconst 0, 1) := by decide +kernel
theorem dX12_best_8 : decode cX12_best 8 = .ok (.ldc2_w 350, 3) := by decide +kernel
theorem dX12_best_11 : decode cX12_best 11 = .ok (.invokestatic 93, 3) := by decide +kernel
theorem dX12_best_14 : decode cX12_best 14 = .ok (.ifCond .eq 15, 3) := by decide +kernel
theorem dX12_best_17 : decode cX12_best 17 = .ok (.iload_n 2, 1) := by decide +kernel
theorem dX12_best_18 : decode cX12_best 18 = .ok (.i2l, 1) := by decide +kernel
theorem dX12_best_19 : decode cX12_best 19 = .ok (.lconst 0, 1) := by decide +kernel
theorem dX12_best_20 : decode cX12_best 20 = .ok (.ldc2_w 339, 3) := by decide +kernel
theorem dX12_best_23 : decode cX12_best 23 = .ok (.invokestatic 93, 3) := by decide +kernel
theorem dX12_best_26 : decode cX12_best 26 = .ok (.ifCond .ne 5, 3) := by decide +kernel
theorem dX12_best_29 : decode cX12_best 29 = .ok (.iconst (-1), 1) := by decide +kernel
theorem dX12_best_30 : decode cX12_best 30 = .ok (.ireturn, 1) := by decide +kernel
theorem dX12_best_31 : decode cX12_best 31 = .ok (.iconst 0, 1) := by decide +kernel
theorem dX12_best_32 : decode cX12_best 32 = .ok (.istore_n 3, 1) := by decide +kernel
theorem dX12_best_33 : decode cX12_best 33 = .ok (.aload_n 0, 1) := by decide +kernel
theorem dX12_best_34 : decode cX12_best 34 = .ok (.iconst 0, 1) := by decide +kernel
theorem dX12_best_35 : decode cX12_best 35 = .ok (.invokevirtual 352, 3) := by decide +kernel
theorem dX12_best_38 : decode cX12_best 38 = .ok (.istore 4, 2) := by decide +kernel
theorem dX12_best_40 : decode cX12_best 40 = .ok (.iconst 0, 1) := by decide +kernel
theorem dX12_best_41 : decode cX12_best 41 = .ok (.istore 5, 2) := by decide +kernel
theorem dX12_best_43 : decode cX12_best 43 = .ok (.iconst 1, 1) := by decide +kernel
theorem dX12_best_44 : decode cX12_best 44 = .ok (.istore 6, 2) := by decide +kernel
theorem dX12_best_46 : decode cX12_best 46 = .ok (.iload 6, 2) := by decide +kernel
theorem dX12_best_48 : decode cX12_best 48 = .ok (.iconst 1, 1) := by decide +kernel
theorem dX12_best_49 : decode cX12_best 49 = .ok (.aload_n 0, 1) := by decide +kernel
theorem dX12_best_50 : decode cX12_best 50 = .ok (.bipush 15, 2) := by decide +kernel
theorem dX12_best_52 : decode cX12_best 52 = .ok (.invokevirtual 101, 3) := by decide +kernel
theorem dX12_best_55 : decode cX12_best 55 = .ok (.ishl, 1) := by decide +kernel
theorem dX12_best_56 : decode cX12_best 56 = .ok (.if_icmp .ge 69, 3) := by decide +kernel
theorem dX12_best_59 : decode cX12_best 59 = .ok (.aload_n 0, 1) := by decide +kernel
theorem dX12_best_60 : decode cX12_best 60 = .ok (.iload 6, 2) := by decide +kernel
theorem dX12_best_62 : decode cX12_best 62 = .ok (.invokevirtual 355, 3) := by decide +kernel
theorem dX12_best_65 : decode cX12_best 65 = .ok (.istore 7, 2) := by decide +kernel
theorem dX12_best_67 : decode cX12_best 67 = .ok (.iload 7, 2) := by decide +kernel
theorem dX12_best_69 : decode cX12_best 69 = .ok (.iload_n 1, 1) := by decide +kernel
theorem dX12_best_70 : decode cX12_best 70 = .ok (.if_icmp .le 6, 3) := by decide +kernel
theorem dX12_best_73 : decode cX12_best 73 = .ok (.goto 46, 3) := by decide +kernel
theorem dX12_best_76 : decode cX12_best 76 = .ok (.aload_n 0, 1) := by decide +kernel
theorem dX12_best_77 : decode cX12_best 77 = .ok (.iload 6, 2) := by decide +kernel
theorem dX12_best_79 : decode cX12_best 79 = .ok (.invokevirtual 352, 3) := by decide +kernel
theorem dX12_best_82 : decode cX12_best 82 = .ok (.istore 8, 2) := by decide +kernel
theorem dX12_best_84 : decode cX12_best 84 = .ok (.iload 8, 2) := by decide +kernel
theorem dX12_best_86 : decode cX12_best 86 = .ok (.iload 4, 2) := by decide +kernel
theorem dX12_best_88 : decode cX12_best 88 = .ok (.if_icmp .gt 31, 3) := by decide +kernel
theorem dX12_best_91 : decode cX12_best 91 = .ok (.iload 8, 2) := by decide +kernel
theorem dX12_best_93 : decode cX12_best 93 = .ok (.iload 4, 2) := by decide +kernel
theorem dX12_best_95 : decode cX12_best 95 = .ok (.if_icmp .ne 13, 3) := by decide +kernel
theorem dX12_best_98 : decode cX12_best 98 = .ok (.iload 7, 2) := by decide +kernel
theorem dX12_best_100 : decode cX12_best 100 = .ok (.iload 5, 2) := by decide +kernel
theorem dX12_best_102 : decode cX12_best 102 = .ok (.if_icmp .lt 6, 3) := by decide +kernel
theorem dX12_best_105 : decode cX12_best 105 = .ok (.goto 14, 3) := by decide +kernel
theorem dX12_best_108 : decode cX12_best 108 = .ok (.iload 6, 2) := by decide +kernel
theorem dX12_best_110 : decode cX12_best 110 = .ok (.istore_n 3, 1) := by decide +kernel
theorem dX12_best_111 : decode cX12_best 111 = .ok (.iload 8, 2) := by decide +kernel
theorem dX12_best_113 : decode cX12_best 113 = .ok (.istore 4, 2) := by decide +kernel
theorem dX12_best_115 : decode cX12_best 115 = .ok (.iload 7, 2) := by decide +kernel
theorem dX12_best_117 : decode cX12_best 117 = .ok (.istore 5, 2) := by decide +kernel
theorem dX12_best_119 : decode cX12_best 119 = .ok (.iinc 6 1, 3) := by decide +kernel
theorem dX12_best_122 : decode cX12_best 122 = .ok (.goto (-76), 3) := by decide +kernel
theorem dX12_best_125 : decode cX12_best 125 = .ok (.iload_n 2, 1) := by decide +kernel
theorem dX12_best_126 : decode cX12_best 126 = .ok (.ifCond .ne 7, 3) := by decide +kernel
theorem dX12_best_129 : decode cX12_best 129 = .ok (.iload_n 3, 1) := by decide +kernel
theorem dX12_best_130 : decode cX12_best 130 = .ok (.goto 15, 3) := by decide +kernel
theorem dX12_best_133 : decode cX12_best 133 = .ok (.iload_n 2, 1) := by decide +kernel
theorem dX12_best_134 : decode cX12_best 134 = .ok (.iconst 1, 1) := by decide +kernel
theorem dX12_best_135 : decode cX12_best 135 = .ok (.if_icmp .ne 8, 3) := by decide +kernel
theorem dX12_best_138 : decode cX12_best 138 = .ok (.iload 4, 2) := by decide +kernel
theorem dX12_best_140 : decode cX12_best 140 = .ok (.goto 5, 3) := by decide +kernel
theorem dX12_best_143 : decode cX12_best 143 = .ok (.iload 5, 2) := by decide +kernel
theorem dX12_best_145 : decode cX12_best 145 = .ok (.ireturn, 1) := by decide +kernel
theorem dX12_isCell_0 : decode cX12_isCell 0 = .ok (.iload_n 0, 1) := by decide +kernel
theorem dX12_isCell_1 : decode cX12_isCell 1 = .ok (.i2l, 1) := by decide +kernel
theorem dX12_isCell_2 : decode cX12_isCell 2 = .ok (.lconst 0, 1) := by decide +kernel
theorem dX12_isCell_3 : decode cX12_isCell 3 = .ok (.ldc2_w 91, 3) := by decide +kernel
theorem dX12_isCell_6 : decode cX12_isCell 6 = .ok (.invokestatic 93, 3) := by decide +kernel
theorem dX12_isCell_9 : decode cX12_isCell 9 = .ok (.ireturn, 1) := by decide +kernel
theorem dX12_bridge_0 : decode cX12_bridge 0 = .ok (.aload_n 0, 1) := by decide +kernel
theorem dX12_bridge_1 : decode cX12_bridge 1 = .ok (.iconst 0, 1) := by decide +kernel
theorem dX12_bridge_2 : decode cX12_bridge 2 = .ok (.putfield 1, 3) := by decide +kernel
theorem dX12_bridge_5 : decode cX12_bridge 5 = .ok (.iload_n 1, 1) := by decide +kernel
theorem dX12_bridge_6 : decode cX12_bridge 6 = .ok (.invokestatic 105, 3) := by decide +kernel
theorem dX12_bridge_9 : decode cX12_bridge 9 = .ok (.ifCond .ne 5, 3) := by decide +kernel
theorem dX12_bridge_12 : decode cX12_bridge 12 = .ok (.iconst (-1), 1) := by decide +kernel
theorem dX12_bridge_13 : decode cX12_bridge 13 = .ok (.ireturn, 1) := by decide +kernel
theorem dX12_bridge_14 : decode cX12_bridge 14 = .ok (.aload_n 0, 1) := by decide +kernel
theorem dX12_bridge_15 : decode cX12_bridge 15 = .ok (.iconst 4, 1) := by decide +kernel
theorem dX12_bridge_16 : decode cX12_bridge 16 = .ok (.invokevirtual 101, 3) := by decide +kernel
theorem dX12_bridge_19 : decode cX12_bridge 19 = .ok (.istore_n 2, 1) := by decide +kernel
theorem dX12_bridge_20 : decode cX12_bridge 20 = .ok (.aload_n 0, 1) := by decide +kernel
theorem dX12_bridge_21 : decode cX12_bridge 21 = .ok (.getfield 13, 3) := by decide +kernel
theorem dX12_bridge_24 : decode cX12_bridge 24 = .ok (.sipush 4304, 3) := by decide +kernel
theorem dX12_bridge_27 : decode cX12_bridge 27 = .ok (.iload_n 1, 1) := by decide +kernel
theorem dX12_bridge_28 : decode cX12_bridge 28 = .ok (.iastore, 1) := by decide +kernel
theorem dX12_bridge_29 : decode cX12_bridge 29 = .ok (.iload_n 2, 1) := by decide +kernel
theorem dX12_bridge_30 : decode cX12_bridge 30 = .ok (.ireturn, 1) := by decide +kernel
set_option maxHeartbeats 4000000 in
set_option maxRecDepth 100000 in
theorem xX11_tide_e {K : KT} {v1 : Int32} {w : Wd} {r : Int32 × Wd} (G : GK K cX11_tide RX11 3 3) (M : Main K.ks) (hf : fX11_tide v1 w = some r) (hr : RI K .int r.1 r.2) : XW K 0 [some (.ref 0), some (.int v1), none] [] w := by
  unfold fX11_tide at hf
  refine x_iload_n G dX11_tide_0 rfl rfl ?_
  obtain ⟨v_1, hv_1, hf⟩ := bnd hf
  refine x_staI G (As := [.int v1]) (mX11_isTape G.2.2.2.2.2.2.1 M hv_1) ms_X11_146 rfl rfl rfl rfl rfl dX11_tide_1 ?_
  refine x_ifneB G (tgt := 9) dX11_tide_4 (by decide) hf (fun c_2 hf => ?_) (fun c_2 hf => ?_)
  · refine x_aload_n G dX11_tide_9 rfl rfl ?_
    refine x_getR G (kd0 M) 5 (b := 134) rfl cl11 rfl wf_X11_46 dX11_tide_10 ?_
    refine x_iload_n G dX11_tide_13 rfl rfl ?_
    refine x_aald G (kd134 M) (kn := 1) (by decide) dX11_tide_14 hf (fun hb_3 hf => ?_)
    refine x_astore_n G (lv' := [some (.ref 0), some (.int v1), some (.ref (135 + 2 * (v1).toNatClampNeg))]) dX11_tide_15 rfl rfl rfl rfl ?_
    refine x_aload_n G dX11_tide_16 rfl rfl ?_
    refine x_getI G (tapeOk M hb_3).1 0 rfl cl8 rfl wf_X11_149 dX11_tide_17 ?_
    refine x_ifne G (tgt := 30) dX11_tide_20 (by decide) hf (fun c_4 hf => ?_) (fun c_4 hf => ?_)
    · refine x_aload_n G dX11_tide_23 rfl rfl ?_
      refine x_bipush G (v := -11) dX11_tide_24 (by decide) ?_
      obtain ⟨v_5, hv_5, hf⟩ := bnd hf
      refine x_virI G (As := [.int (-11 : Int32)]) (mX11_refuse G.2.2.2.2.2.2.1 M hv_5) mv_X11_152 (kd0 M) cl11 rfl rfl rfl rfl rfl dX11_tide_26 ?_
      exact x_iretW G hf hr dX11_tide_29
    · refine x_aload_n G dX11_tide_30 rfl rfl ?_
      refine x_getI G (tapeOk M hb_3).1 0 rfl cl8 rfl wf_X11_149 dX11_tide_31 ?_
      refine x_iconst G (v := 1) dX11_tide_34 (by decide) ?_
      refine x_icmpeq G (tgt := 45) dX11_tide_35 (by decide) hf (fun c_6 hf => ?_) (fun c_6 hf => ?_)
      · refine x_aload_n G dX11_tide_45 rfl rfl ?_
        refine x_getI G (tapeOk M hb_3).1 1 rfl cl8 rfl wf_X11_155 dX11_tide_46 ?_
        refine x_iconst G (v := 1) dX11_tide_49 (by decide) ?_
        refine x_bipush G (v := 60) dX11_tide_50 (by decide) ?_
        obtain ⟨v_7, hv_7, hf⟩ := bnd hf
        refine x_staI G (As := [.int (w.1 (135 + 2 * (v1).toNatClampNeg) 1), .int (1 : Int32), .int (60 : Int32)]) (mX11_within G.2.2.2.2.2.2.1 M hv_7) ms_X11_96 rfl rfl rfl rfl rfl dX11_tide_52 ?_
        refine x_ifneB G (tgt := 61) dX11_tide_55 (by decide) hf (fun c_8 hf => ?_) (fun c_8 hf => ?_)
        · refine x_aload_n G dX11_tide_61 rfl rfl ?_
          refine x_getR G (kd0 M) 2 (b := 100) rfl cl11 rfl wf_X11_26 dX11_tide_62 ?_
          refine x_aload_n G dX11_tide_65 rfl rfl ?_
          obtain ⟨v_9, hv_9, hf⟩ := bnd hf
          refine x_virV G (As := [.ref (135 + 2 * (v1).toNatClampNeg)]) (mX9_learn G.2.2.2.2.2.2.1 M (tapeOk M hb_3) hv_9) mv_X11_156 (kd100 M) cl9 rfl rfl rfl rfl rfl dX11_tide_66 ?_
          refine x_aload_n G dX11_tide_69 rfl rfl ?_
          refine x_getR G (kd0 M) 2 (b := 100) rfl cl11 rfl wf_X11_26 dX11_tide_70 ?_
          refine x_getI G (kd100 M) 0 rfl cl9 rfl wf_X11_71 dX11_tide_73 ?_
          exact x_iretW G hf hr dX11_tide_76
        · refine x_bipush G (v := -2) dX11_tide_58 (by decide) ?_
          exact x_iretW G hf hr dX11_tide_60
      · refine x_aload_n G dX11_tide_38 rfl rfl ?_
        refine x_bipush G (v := -12) dX11_tide_39 (by decide) ?_
        obtain ⟨v_10, hv_10, hf⟩ := bnd hf
        refine x_virI G (As := [.int (-12 : Int32)]) (mX11_refuse G.2.2.2.2.2.2.1 M hv_10) mv_X11_152 (kd0 M) cl11 rfl rfl rfl rfl rfl dX11_tide_41 ?_
        exact x_iretW G hf hr dX11_tide_44
  · refine x_iconst G (v := -1) dX11_tide_7 (by decide) ?_
    exact x_iretW G hf hr dX11_tide_8

theorem mX11_tide {l : Launch} {S : KS} {w : Wd} (hI : Inj S) (M : Main S) {v1 : Int32} {r : Int32 × Wd} (hf : fX11_tide v1 w = some r) : CI l yX11_tide cX11_tide 3 (some .int) 3 S [.ref 0, .int v1] w r.1 r.2 := by
  intro sz
  refine mk_entry rfl (by decide +kernel) hI 1 rfl rfl (fun K h1 h2 h3 h4 h5 h6 G => ?_)
  subst h2
  exact xX11_tide_e G M hf ⟨h3, by rw [h4, h6], h5⟩

set_option maxHeartbeats 4000000 in
set_option maxRecDepth 100000 in
theorem xX11_toss_46 {K : KT} {w : Wd} {r : Int32 × Wd} (G : GK K cX11_toss RX11 4 3) (M : Main K.ks) (hf : fX11_toss_46 w = some r) (hr : RI K .int r.1 r.2) : XW K 46 [some (.ref 0), none, none, none] [] w := by
  unfold fX11_toss_46 at hf
  refine x_aload_n G dX11_toss_46 rfl rfl ?_
  refine x_bipush G (v := -12) dX11_toss_47 (by decide) ?_
  obtain ⟨v_1, hv_1, hf⟩ := bnd hf
  refine x_virI G (As := [.int (-12 : Int32)]) (mX11_refuse G.2.2.2.2.2.2.1 M hv_1) mv_X11_152 (kd0 M) cl11 rfl rfl rfl rfl rfl dX11_toss_49 ?_
  exact x_iretW G hf hr dX11_toss_52

set_option maxHeartbeats 4000000 in
set_option maxRecDepth 100000 in
theorem xX11_toss_e {K : KT} {v1 : Int32} {w : Wd} {r : Int32 × Wd} (G : GK K cX11_toss RX11 4 3) (M : Main K.ks) (hIm : IM K.ks w) (hf : fX11_toss v1 w = some r) (hr : RI K .int r.1 r.2) : XW K 0 [some (.ref 0), some (.int v1), none, none] [] w := by
  unfold fX11_toss at hf
  refine x_iload_n G dX11_toss_0 rfl rfl ?_
  obtain ⟨v_1, hv_1, hf⟩ := bnd hf
  refine x_staI G (As := [.int v1]) (mX11_isTape G.2.2.2.2.2.2.1 M hv_1) ms_X11_146 rfl rfl rfl rfl rfl dX11_toss_1 ?_
  refine x_ifneB G (tgt := 9) dX11_toss_4 (by decide) hf (fun c_2 hf => ?_) (fun c_2 hf => ?_)
  · refine x_aload_n G dX11_toss_9 rfl rfl ?_
    refine x_getR G (kd0 M) 5 (b := 134) rfl cl11 rfl wf_X11_46 dX11_toss_10 ?_
    refine x_iload_n G dX11_toss_13 rfl rfl ?_
    refine x_aald G (kd134 M) (kn := 1) (by decide) dX11_toss_14 hf (fun hb_3 hf => ?_)
    refine x_astore_n G (lv' := [some (.ref 0), some (.int v1), some (.ref (135 + 2 * (v1).toNatClampNeg)), none]) dX11_toss_15 rfl rfl rfl rfl ?_
    refine x_aload_n G dX11_toss_16 rfl rfl ?_
    refine x_getI G (tapeOk M hb_3).1 0 rfl cl8 rfl wf_X11_149 dX11_toss_17 ?_
    refine x_ifne G (tgt := 30) dX11_toss_20 (by decide) hf (fun c_4 hf => ?_) (fun c_4 hf => ?_)
    · refine x_aload_n G dX11_toss_23 rfl rfl ?_
      refine x_bipush G (v := -11) dX11_toss_24 (by decide) ?_
      obtain ⟨v_5, hv_5, hf⟩ := bnd hf
      refine x_virI G (As := [.int (-11 : Int32)]) (mX11_refuse G.2.2.2.2.2.2.1 M hv_5) mv_X11_152 (kd0 M) cl11 rfl rfl rfl rfl rfl dX11_toss_26 ?_
      exact x_iretW G hf hr dX11_toss_29
    · refine x_aload_n G dX11_toss_30 rfl rfl ?_
      refine x_getI G (tapeOk M hb_3).1 0 rfl cl8 rfl wf_X11_149 dX11_toss_31 ?_
      refine x_bipush G (v := 6) dX11_toss_34 (by decide) ?_
      refine x_icmpne G (tgt := 46) dX11_toss_36 (by decide) hf (fun c_6 hf => ?_) (fun c_6 hf => ?_)
      · refine x_aload_n G dX11_toss_39 rfl rfl ?_
        refine x_getN G (tapeOk M hb_3).1 3 (b := (imZ (135 + 2 * (v1).toNatClampNeg) + 1)) rfl cl8 rfl wf_X11_405 dX11_toss_40 hf (fun hn_11 hf => ?_) (fun hn_7 hf => ?_)
        · refine x_ifnonnullN G dX11_toss_43 ?_
          exact XW.sub (lv' := [some (.ref 0), none, none, none]) (And.intro rfl trivial) (xX11_toss_46 G M hf hr)
        · refine x_ifnonnullR G (tgt := 53) dX11_toss_43 (by decide) ?_
          refine x_aload_n G dX11_toss_53 rfl rfl ?_
          refine x_getNr G (tapeOk M hb_3).1 3 (b := (imZ (135 + 2 * (v1).toNatClampNeg) + 1)) rfl cl8 rfl wf_X11_405 dX11_toss_54 hn_7 ?_
          refine x_getR G (ic1 (hIm _ (tapeOk M hb_3) hn_7)) 1 (b := ((imZ (135 + 2 * (v1).toNatClampNeg)) + 14)) rfl cl0 rfl wf_X11_116 dX11_toss_57 ?_
          obtain ⟨v_8, hv_8, hf⟩ := bnd hf
          refine x_virI G (As := []) (mX10_foulCellars G.2.2.2.2.2.2.1 M (hIm _ (tapeOk M hb_3) hn_7) hv_8) mv_X11_411 (ic14 (hIm _ (tapeOk M hb_3) hn_7)) cl10 rfl rfl rfl rfl rfl dX11_toss_60 ?_
          refine x_istore_n G (lv' := [some (.ref 0), some (.int v1), some (.ref (135 + 2 * (v1).toNatClampNeg)), some (.int v_8)]) dX11_toss_63 rfl rfl rfl rfl ?_
          refine x_iload_n G dX11_toss_64 rfl rfl ?_
          refine x_ifne G (tgt := 77) dX11_toss_65 (by decide) hf (fun c_9 hf => ?_) (fun c_9 hf => ?_)
          · refine x_aload_n G dX11_toss_68 rfl rfl ?_
            refine x_bipush G (v := -15) dX11_toss_69 (by decide) ?_
            obtain ⟨v_10, hv_10, hf⟩ := bnd hf
            refine x_virI G (As := [.int (-15 : Int32)]) (mX11_refuse G.2.2.2.2.2.2.1 M hv_10) mv_X11_152 (kd0 M) cl11 rfl rfl rfl rfl rfl dX11_toss_71 ?_
            refine x_goto G (tgt := 78) dX11_toss_74 (by decide) ?_
            exact x_iretW G hf hr dX11_toss_78
          · refine x_iload_n G dX11_toss_77 rfl rfl ?_
            exact x_iretW G hf hr dX11_toss_78
      · exact XW.sub (lv' := [some (.ref 0), none, none, none]) (And.intro rfl trivial) (xX11_toss_46 G M hf hr)
  · refine x_iconst G (v := -1) dX11_toss_7 (by decide) ?_
    exact x_iretW G hf hr dX11_toss_8

theorem mX11_toss {l : Launch} {S : KS} {w : Wd} (hI : Inj S) (M : Main S) {v1 : Int32} (hIm : IM S w) {r : Int32 × Wd} (hf : fX11_toss v1 w = some r) : CI l yX11_toss cX11_toss 4 (some .int) 3 S [.ref 0, .int v1] w r.1 r.2 := by
  intro sz
  refine mk_entry rfl (by decide +kernel) hI 2 rfl rfl (fun K h1 h2 h3 h4 h5 h6 G => ?_)
  subst h2
  exact xX11_toss_e G M hIm hf ⟨h3, by rw [h4, h6], h5⟩

set_option maxHeartbeats 4000000 in
set_option maxRecDepth 100000 in
theorem xX11_way_e {K : KT} {v1 : Int32} {w : Wd} {r : Int32} (G : GK K cX11_way RX11 2 2) (M : Main K.ks) (hf : fX11_way v1 w = some r) (hr : RI K .int r w) : XW K 0 [some (.ref 0), some (.int v1)] [] w := by
  unfold fX11_way at hf
  refine x_iload_n G dX11_way_0 rfl rfl ?_
  refine x_iconst G (v := 0) dX11_way_1 (by decide) ?_
  refine x_aload_n G dX11_way_2 rfl rfl ?_
  refine x_getR G (kd0 M) 3 (b := 102) rfl cl11 rfl wf_X11_33 dX11_way_3 ?_
  refine x_getI G (kd102 M) 0 rfl cl7 rfl wf_X11_74 dX11_way_6 ?_
  refine x_iconst G (v := 1) dX11_way_9 (by decide) ?_
  refine x_isub G dX11_way_10 ?_
  obtain ⟨v_1, hv_1, hf⟩ := bnd hf
  refine x_staI G (As := [.int v1, .int (0 : Int32), .int ((w.1 102 0) - (1 : Int32))]) (mX11_within G.2.2.2.2.2.2.1 M hv_1) ms_X11_96 rfl rfl rfl rfl rfl dX11_way_11 ?_
  refine x_ifeqB G (tgt := 29) dX11_way_14 (by decide) hf (fun c_2 hf => ?_) (fun c_2 hf => ?_)
  · refine x_aload_n G dX11_way_17 rfl rfl ?_
    refine x_getR G (kd0 M) 3 (b := 102) rfl cl11 rfl wf_X11_33 dX11_way_18 ?_
    refine x_getR G (kd102 M) 1 (b := 103) rfl cl7 rfl wf_X11_214 dX11_way_21 ?_
    refine x_iload_n G dX11_way_24 rfl rfl ?_
    refine x_iald G (kd103 M) dX11_way_25 hf (fun hb_3 hf => ?_)
    refine x_goto G (tgt := 31) dX11_way_26 (by decide) ?_
    exact x_iretP G hf hr dX11_way_31
  · refine x_bipush G (v := -9) dX11_way_29 (by decide) ?_
    exact x_iretP G hf hr dX11_way_31

theorem mX11_way {l : Launch} {S : KS} {w : Wd} (hI : Inj S) (M : Main S) {v1 : Int32} {r : Int32} (hf : fX11_way v1 w = some r) : CI l yX11_way cX11_way 2 (some .int) 2 S [.ref 0, .int v1] w r w := by
  intro sz
  refine mk_entry rfl (by decide +kernel) hI 0 rfl rfl (fun K h1 h2 h3 h4 h5 h6 G => ?_)
  subst h2
  exact xX11_way_e G M hf ⟨h3, by rw [h4, h6], h5⟩

set_option maxHeartbeats 4000000 in
set_option maxRecDepth 100000 in
theorem xX11_window_25 {K : KT} {w : Wd} {r : Int32} (G : GK K cX11_window RX11 4 3) (M : Main K.ks) (hr : RI K .int r w) : ∀ (n : Nat) (v1 : Int32) (v2 : Int32) (v3 : Int32), fX11_window_25 w n v1 v2 v3 = some r → XW K 25 [some (.ref 0), some (.int v1), some (.int v2), some (.int v3)] [] w := by
  intro n
  induction n with
  | zero =>
    intro v1 v2 v3 hf
    unfold fX11_window_25 at hf
    cases hf
  | succ n ih =>
    intro v1 v2 v3 hf
    unfold fX11_window_25 at hf
    refine x_iload_n G dX11_window_25 rfl rfl ?_
    refine x_iload_n G dX11_window_26 rfl rfl ?_
    refine x_bipush G (v := 100) dX11_window_27 (by decide) ?_
    refine x_iadd G dX11_window_29 ?_
    refine x_icmpge G (tgt := 64) dX11_window_30 (by decide) hf (fun c_1 hf => ?_) (fun c_1 hf => ?_)
    · refine x_aload_n G dX11_window_33 rfl rfl ?_
      refine x_getR G (kd0 M) 2 (b := 100) rfl cl11 rfl wf_X11_26 dX11_window_34 ?_
      refine x_iload_n G dX11_window_37 rfl rfl ?_
      obtain ⟨v_2, hv_2, hf⟩ := bnd hf
      refine x_virI G (As := [.int v3]) (mX9_levelAt G.2.2.2.2.2.2.1 M hv_2) mv_X11_163 (kd100 M) cl9 rfl rfl rfl rfl rfl dX11_window_38 ?_
      refine x_iload_n G dX11_window_41 rfl rfl ?_
      refine x_icmpge G (tgt := 58) dX11_window_42 (by decide) hf (fun c_3 hf => ?_) (fun c_3 hf => ?_)
      · refine x_aload_n G dX11_window_45 rfl rfl ?_
        refine x_getR G (kd0 M) 2 (b := 100) rfl cl11 rfl wf_X11_26 dX11_window_46 ?_
        refine x_iload_n G dX11_window_49 rfl rfl ?_
        obtain ⟨v_4, hv_4, hf⟩ := bnd hf
        refine x_virI G (As := [.int v3]) (mX9_bringsBack G.2.2.2.2.2.2.1 M hv_4) mv_X11_167 (kd100 M) cl9 rfl rfl rfl rfl rfl dX11_window_50 ?_
        refine x_ifneB G (tgt := 58) dX11_window_53 (by decide) hf (fun c_5 hf => ?_) (fun c_5 hf => ?_)
        · refine x_iinc G (lv' := [some (.ref 0), some (.int v1), some (.int v2), some (.int (v3 + (1 : Int32)))]) (v := 1) dX11_window_58 rfl (by decide) rfl rfl rfl ?_
          refine x_goto G (tgt := 25) dX11_window_61 (by decide) ?_
          exact XW.sub (lv' := [some (.ref 0), some (.int v1), some (.int v2), some (.int (v3 + (1 : Int32)))]) (And.intro rfl (And.intro rfl (And.intro rfl (And.intro rfl trivial)))) (ih _ _ _ hf)
        · refine x_iload_n G dX11_window_56 rfl rfl ?_
          exact x_iretP G hf hr dX11_window_57
      · refine x_iinc G (lv' := [some (.ref 0), some (.int v1), some (.int v2), some (.int (v3 + (1 : Int32)))]) (v := 1) dX11_window_58 rfl (by decide) rfl rfl rfl ?_
        refine x_goto G (tgt := 25) dX11_window_61 (by decide) ?_
        exact XW.sub (lv' := [some (.ref 0), some (.int v1), some (.int v2), some (.int (v3 + (1 : Int32)))]) (And.intro rfl (And.intro rfl (And.intro rfl (And.intro rfl trivial)))) (ih _ _ _ hf)
    · refine x_bipush G (v := -3) dX11_window_64 (by decide) ?_
      exact x_iretP G hf hr dX11_window_66

set_option maxHeartbeats 4000000 in
set_option maxRecDepth 100000 in
theorem xX11_window_e {K : KT} {v1 : Int32} {v2 : Int32} {w : Wd} {r : Int32} (G : GK K cX11_window RX11 4 3) (M : Main K.ks) (hf : fX11_window v1 v2 w = some r) (hr : RI K .int r w) : XW K 0 [some (.ref 0), some (.int v1), some (.int v2), none] [] w := by
  unfold fX11_window at hf
  refine x_iload_n G dX11_window_0 rfl rfl ?_
  refine x_iconst G (v := 0) dX11_window_1 (by decide) ?_
  refine x_ldc G wc_X11_166 dX11_window_2 ?_
  obtain ⟨v_1, hv_1, hf⟩ := bnd hf
  refine x_staI G (As := [.int v1, .int (0 : Int32), .int (99999 : Int32)]) (mX11_within G.2.2.2.2.2.2.1 M hv_1) ms_X11_96 rfl rfl rfl rfl rfl dX11_window_4 ?_
  refine x_ifeqB G (tgt := 21) dX11_window_7 (by decide) hf (fun c_2 hf => ?_) (fun c_2 hf => ?_)
  · refine x_iload_n G dX11_window_10 rfl rfl ?_
    refine x_bipush G (v := -128) dX11_window_11 (by decide) ?_
    refine x_bipush G (v := 127) dX11_window_13 (by decide) ?_
    obtain ⟨v_3, hv_3, hf⟩ := bnd hf
    refine x_staI G (As := [.int v2, .int (-128 : Int32), .int (127 : Int32)]) (mX11_within G.2.2.2.2.2.2.1 M hv_3) ms_X11_96 rfl rfl rfl rfl rfl dX11_window_15 ?_
    refine x_ifneB G (tgt := 23) dX11_window_18 (by decide) hf (fun c_4 hf => ?_) (fun c_4 hf => ?_)
    · refine x_iload_n G dX11_window_23 rfl rfl ?_
      refine x_istore_n G (lv' := [some (.ref 0), some (.int v1), some (.int v2), some (.int v1)]) dX11_window_24 rfl rfl rfl rfl ?_
      exact XW.sub (lv' := [some (.ref 0), some (.int v1), some (.int v2), some (.int v1)]) (And.intro rfl (And.intro rfl (And.intro rfl (And.intro rfl trivial)))) (xX11_window_25 G M hr FU _ _ _ hf)
    · refine x_iconst G (v := -1) dX11_window_21 (by decide) ?_
      exact x_iretP G hf hr dX11_window_22
  · refine x_iconst G (v := -1) dX11_window_21 (by decide) ?_
    exact x_iretP G hf hr dX11_window_22

theorem mX11_window {l : Launch} {S : KS} {w : Wd} (hI : Inj S) (M : Main S) {v1 : Int32} {v2 : Int32} {r : Int32} (hf : fX11_window v1 v2 w = some r) : CI l yX11_window cX11_window 4 (some .int) 3 S [.ref 0, .int v1, .int v2] w r w := by
  intro sz
  refine mk_entry rfl (by decide +kernel) hI 1 rfl rfl (fun K h1 h2 h3 h4 h5 h6 G => ?_)
  subst h2
  exact xX11_window_e G M hf ⟨h3, by rw [h4, h6], h5⟩

set_option maxHeartbeats 4000000 in
set_option maxRecDepth 100000 in
theorem xX12_start_24 {K : KT} {r : Wd} (G : GK K cX12_start RX12 2 1) (M : Main K.ks) (hr : RV K r) : ∀ (n : Nat) (v1 : Int32) (w : Wd), fX12_start_24 n v1 w = some r → XW K 24 [some (.ref 148), some (.int v1)] [] w := by
  intro n
  induction n with
  | zero =>
    intro v1 w hf
    unfold fX12_start_24 at hf
    cases hf
  | succ n ih =>
    intro v1 w hf
    unfold fX12_start_24 at hf
    refine x_iload_n G dX12_start_24 rfl rfl ?_
    refine x_bipush G (v := 100) dX12_start_25 (by decide) ?_
    refine x_icmpge G (tgt := 75) dX12_start_27 (by decide) hf (fun c_1 hf => ?_) (fun c_1 hf => ?_)
    · refine x_aload_n G dX12_start_30 rfl rfl ?_
      refine x_getR G (kd148 M) 1 (b := 149) rfl cl12 rfl wf_X12_13 dX12_start_31 ?_
      refine x_bipush G (v := 15) dX12_start_34 (by decide) ?_
      refine x_iload_n G dX12_start_36 rfl rfl ?_
      refine x_imul G dX12_start_37 ?_
      refine x_iconst G (v := 0) dX12_start_38 (by decide) ?_
      refine x_iadd G dX12_start_39 ?_
      refine x_bipush G (v := 100) dX12_start_40 (by decide) ?_
      refine x_iast G (kd149 M) dX12_start_42 hf (fun hb_2 hf => ?_)
      refine nwr hf (fun w_3 hf => ?_)
      refine x_aload_n G dX12_start_43 rfl rfl ?_
      refine x_getR G (kd148 M) 1 (b := 149) rfl cl12 rfl wf_X12_13 dX12_start_44 ?_
      refine x_bipush G (v := 15) dX12_start_47 (by decide) ?_
      refine x_iload_n G dX12_start_49 rfl rfl ?_
      refine x_imul G dX12_start_50 ?_
      refine x_iconst G (v := 3) dX12_start_51 (by decide) ?_
      refine x_iadd G dX12_start_52 ?_
      refine x_bipush G (v := 50) dX12_start_53 (by decide) ?_
      refine x_iast G (kd149 M) dX12_start_55 hf (fun hb_4 hf => ?_)
      refine nwr hf (fun w_5 hf => ?_)
      refine x_aload_n G dX12_start_56 rfl rfl ?_
      refine x_getR G (kd148 M) 1 (b := 149) rfl cl12 rfl wf_X12_13 dX12_start_57 ?_
      refine x_bipush G (v := 15) dX12_start_60 (by decide) ?_
      refine x_iload_n G dX12_start_62 rfl rfl ?_
      refine x_imul G dX12_start_63 ?_
      refine x_bipush G (v := 6) dX12_start_64 (by decide) ?_
      refine x_iadd G dX12_start_66 ?_
      refine x_iconst G (v := -1) dX12_start_67 (by decide) ?_
      refine x_iast G (kd149 M) dX12_start_68 hf (fun hb_6 hf => ?_)
      refine nwr hf (fun w_7 hf => ?_)
      refine x_iinc G (lv' := [some (.ref 148), some (.int (v1 + (1 : Int32)))]) (v := 1) dX12_start_69 rfl (by decide) rfl rfl rfl ?_
      refine x_goto G (tgt := 24) dX12_start_72 (by decide) ?_
      exact XW.sub (lv' := [some (.ref 148), some (.int (v1 + (1 : Int32)))]) (And.intro rfl (And.intro rfl trivial)) (ih _ _ hf)
    · refine x_aload_n G dX12_start_75 rfl rfl ?_
      refine x_iconst G (v := 0) dX12_start_76 (by decide) ?_
      refine x_putI G (kd148 M) 21 rfl cl12 rfl wf_X12_79 rfl rfl rfl dX12_start_77 ?_
      refine nwr hf (fun w_8 hf => ?_)
      refine x_aload_n G dX12_start_80 rfl rfl ?_
      refine x_iconst G (v := 0) dX12_start_81 (by decide) ?_
      refine x_putI G (kd148 M) 4 rfl cl12 rfl wf_X12_82 rfl rfl rfl dX12_start_82 ?_
      refine nwr hf (fun w_9 hf => ?_)
      refine x_aload_n G dX12_start_85 rfl rfl ?_
      refine x_iconst G (v := 0) dX12_start_86 (by decide) ?_
      refine x_putI G (kd148 M) 6 rfl cl12 rfl wf_X12_85 rfl rfl rfl dX12_start_87 ?_
      refine nwr hf (fun w_10 hf => ?_)
      refine x_aload_n G dX12_start_90 rfl rfl ?_
      refine x_iconst G (v := 0) dX12_start_91 (by decide) ?_
      refine x_putI G (kd148 M) 2 rfl cl12 rfl wf_X12_88 rfl rfl rfl dX12_start_92 ?_
      refine nwr hf (fun w_11 hf => ?_)
      exact x_vretW G hf hr dX12_start_95

set_option maxHeartbeats 4000000 in
set_option maxRecDepth 100000 in
theorem xX12_start_2 {K : KT} {r : Wd} (G : GK K cX12_start RX12 2 1) (M : Main K.ks) (hr : RV K r) : ∀ (n : Nat) (v1 : Int32) (w : Wd), fX12_start_2 n v1 w = some r → XW K 2 [some (.ref 148), some (.int v1)] [] w := by
  intro n
  induction n with
  | zero =>
    intro v1 w hf
    unfold fX12_start_2 at hf
    cases hf
  | succ n ih =>
    intro v1 w hf
    unfold fX12_start_2 at hf
    refine x_iload_n G dX12_start_2 rfl rfl ?_
    refine x_sipush G (v := 4340) dX12_start_3 (by decide) ?_
    refine x_icmpge G (tgt := 22) dX12_start_6 (by decide) hf (fun c_1 hf => ?_) (fun c_1 hf => ?_)
    · refine x_aload_n G dX12_start_9 rfl rfl ?_
      refine x_getR G (kd148 M) 1 (b := 149) rfl cl12 rfl wf_X12_13 dX12_start_10 ?_
      refine x_iload_n G dX12_start_13 rfl rfl ?_
      refine x_iconst G (v := 0) dX12_start_14 (by decide) ?_
      refine x_iast G (kd149 M) dX12_start_15 hf (fun hb_2 hf => ?_)
      refine nwr hf (fun w_3 hf => ?_)
      refine x_iinc G (lv' := [some (.ref 148), some (.int (v1 + (1 : Int32)))]) (v := 1) dX12_start_16 rfl (by decide) rfl rfl rfl ?_
      refine x_goto G (tgt := 2) dX12_start_19 (by decide) ?_
      exact XW.sub (lv' := [some (.ref 148), some (.int (v1 + (1 : Int32)))]) (And.intro rfl (And.intro rfl trivial)) (ih _ _ hf)
    · refine x_iconst G (v := 0) dX12_start_22 (by decide) ?_
      refine x_istore_n G (lv' := [some (.ref 148), some (.int (0 : Int32))]) dX12_start_23 rfl rfl rfl rfl ?_
      exact XW.sub (lv' := [some (.ref 148), some (.int (0 : Int32))]) (And.intro rfl (And.intro rfl trivial)) (xX12_start_24 G M hr FU _ _ hf)

set_option maxHeartbeats 4000000 in
set_option maxRecDepth 100000 in
theorem xX12_start_e {K : KT} {w : Wd} {r : Wd} (G : GK K cX12_start RX12 2 1) (M : Main K.ks) (hf : fX12_start w = some r) (hr : RV K r) : XW K 0 [some (.ref 148), none] [] w := by
  unfold fX12_start at hf
  refine x_iconst G (v := 0) dX12_start_0 (by decide) ?_
  refine x_istore_n G (lv' := [some (.ref 148), some (.int (0 : Int32))]) dX12_start_1 rfl rfl rfl rfl ?_
  exact XW.sub (lv' := [some (.ref 148), some (.int (0 : Int32))]) (And.intro rfl (And.intro rfl trivial)) (xX12_start_2 G M hr FU _ _ hf)

theorem mX12_start {l : Launch} {S : KS} {w : Wd} (hI : Inj S) (M : Main S) {r : Wd} (hf : fX12_start w = some r) : CV l yX12_start cX12_start 2 none 1 S [.ref 148] w r := by
  intro sz
  refine mk_entry rfl (by decide +kernel) hI 1 rfl rfl (fun K h1 h2 h3 h4 h5 h6 G => ?_)
  subst h2
  exact xX12_start_e G M hf ⟨h3, by rw [h4, h6], h5⟩

set_option maxHeartbeats 4000000 in
set_option maxRecDepth 100000 in
theorem xX12_isRow_e {K : KT} {v0 : Int32} {w : Wd} {r : Bool} (G : GK K cX12_isRow RX12 1 2) (M : Main K.ks) (hf : fX12_isRow v0 w = some r) (hr : RI K .boolean (bI r) w) : XW K 0 [some (.int v0)] [] w := by
  unfold fX12_isRow at hf
  refine x_iload_n G dX12_isRow_0 rfl rfl ?_
  refine x_i2l G dX12_isRow_1 ?_
  refine x_lconst G (v := 1) dX12_isRow_2 (by decide) ?_
  refine x_ldc2 G wl_X12_109 dX12_isRow_3 ?_
  obtain ⟨v_1, hv_1, hf⟩ := bnd hf
  refine x_staI G (As := [.long v0.toInt64, .long (1 : Int64), .long (5 : Int64)]) (mX12_in G.2.2.2.2.2.2.1 M hv_1) ms_X12_93 rfl rfl rfl rfl rfl dX12_isRow_6 ?_
  exact x_zretP G hf hr dX12_isRow_9

theorem mX12_isRow {l : Launch} {S : KS} {w : Wd} (hI : Inj S) (M : Main S) {v0 : Int32} {r : Bool} (hf : fX12_isRow v0 w = some r) : CI l yX12_isRow cX12_isRow 1 (some .boolean) 2 S [.int v0] w (bI r) w := by
  intro sz
  refine mk_entry rfl (by decide +kernel) hI 0 rfl rfl (fun K h1 h2 h3 h4 h5 h6 G => ?_)
  subst h2
  exact xX12_isRow_e G M hf ⟨h3, by rw [h4, h6], h5⟩

set_option maxHeartbeats 4000000 in
set_option maxRecDepth 100000 in
theorem xX12_isTape_e {K : KT} {v0 : Int32} {w : Wd} {r : Bool} (G : GK K cX12_isTape RX12 1 2) (M : Main K.ks) (hf : fX12_isTape v0 w = some r) (hr : RI K .boolean (bI r) w) : XW K 0 [some (.int v0)] [] w := by
  unfold fX12_isTape at hf
  refine x_iload_n G dX12_isTape_0 rfl rfl ?_
  refine x_i2l G dX12_isTape_1 ?_
  refine x_lconst G (v := 0) dX12_isTape_2 (by decide) ?_
  refine x_ldc2 G wl_X12_109 dX12_isTape_3 ?_
  obtain ⟨v_1, hv_1, hf⟩ := bnd hf
  refine x_staI G (As := [.long v0.toInt64, .long (0 : Int64), .long (5 : Int64)]) (mX12_in G.2.2.2.2.2.2.1 M hv_1) ms_X12_93 rfl rfl rfl rfl rfl dX12_isTape_6 ?_
  exact x_zretP G hf hr dX12_isTape_9

theorem mX12_isTape {l : Launch} {S : KS} {w : Wd} (hI : Inj S) (M : Main S) {v0 : Int32} {r : Bool} (hf : fX12_isTape v0 w = some r) : CI l yX12_isTape cX12_isTape 1 (some .boolean) 2 S [.int v0] w (bI r) w := by
  intro sz
  refine mk_entry rfl (by decide +kernel) hI 0 rfl rfl (fun K h1 h2 h3 h4 h5 h6 G => ?_)
  subst h2
  exact xX12_isTape_e G M hf ⟨h3, by rw [h4, h6], h5⟩

set_option maxHeartbeats 4000000 in
set_option maxRecDepth 100000 in
theorem xX12_at_49 {K : KT} {w : Wd} {r : Int64 × Wd} (G : GK K cX12_at RX12 3 3) (M : Main K.ks) (hf : fX12_at_49 w = some r) (hr : RJ K .long r.1 r.2) : XW K 49 [some (.ref 148), none, none] [] w := by
  unfold fX12_at_49 at hf
  refine x_aload_n G dX12_at_49 rfl rfl ?_
  refine x_iconst G (v := 2) dX12_at_50 (by decide) ?_
  refine x_putI G (kd148 M) 0 rfl cl12 rfl wf_X12_1 rfl rfl rfl dX12_at_51 ?_
  refine nwr hf (fun w_1 hf => ?_)
  refine x_lconst G (v := 0) dX12_at_54 (by decide) ?_
  exact x_lretW G hf hr dX12_at_55

set_option maxHeartbeats 4000000 in
set_option maxRecDepth 100000 in
theorem xX12_at_e {K : KT} {v1 : Int32} {v2 : Int32} {w : Wd} {r : Int64 × Wd} (G : GK K cX12_at RX12 3 3) (M : Main K.ks) (hf : fX12_at v1 v2 w = some r) (hr : RJ K .long r.1 r.2) : XW K 0 [some (.ref 148), some (.int v1), some (.int v2)] [] w := by
  unfold fX12_at at hf
  refine x_aload_n G dX12_at_0 rfl rfl ?_
  refine x_iconst G (v := 0) dX12_at_1 (by decide) ?_
  refine x_putI G (kd148 M) 0 rfl cl12 rfl wf_X12_1 rfl rfl rfl dX12_at_2 ?_
  refine nwr hf (fun w_1 hf => ?_)
  refine x_iload_n G dX12_at_5 rfl rfl ?_
  obtain ⟨v_2, hv_2, hf⟩ := bnd hf
  refine x_staI G (As := [.int v1]) (mX12_isTape G.2.2.2.2.2.2.1 M hv_2) ms_X12_128 rfl rfl rfl rfl rfl dX12_at_6 ?_
  refine x_ifneB G (tgt := 19) dX12_at_9 (by decide) hf (fun c_3 hf => ?_) (fun c_3 hf => ?_)
  · refine x_aload_n G dX12_at_19 rfl rfl ?_
    refine x_getR G (kd148 M) 29 (b := 165) rfl cl12 rfl wf_X12_63 dX12_at_20 ?_
    refine x_iload_n G dX12_at_23 rfl rfl ?_
    refine x_iald G (kd165 M) dX12_at_24 hf (fun hb_4 hf => ?_)
    obtain ⟨v_5, hv_5, hf⟩ := bnd hf
    refine x_staI G (As := [.int (ri w_1 165 v1)]) (mX12_isRow G.2.2.2.2.2.2.1 M hv_5) ms_X12_361 rfl rfl rfl rfl rfl dX12_at_25 ?_
    refine x_ifeqB G (tgt := 49) dX12_at_28 (by decide) hf (fun c_6 hf => ?_) (fun c_6 hf => ?_)
    · refine x_iload_n G dX12_at_31 rfl rfl ?_
      refine x_i2l G dX12_at_32 ?_
      refine x_lconst G (v := 0) dX12_at_33 (by decide) ?_
      refine x_aload_n G dX12_at_34 rfl rfl ?_
      refine x_getR G (kd148 M) 30 (b := 166) rfl cl12 rfl wf_X12_66 dX12_at_35 ?_
      refine x_iload_n G dX12_at_38 rfl rfl ?_
      refine x_iald0 G (kd166 M) dX12_at_39 hb_4 ?_
      refine x_iconst G (v := 1) dX12_at_40 (by decide) ?_
      refine x_isub G dX12_at_41 ?_
      refine x_i2l G dX12_at_42 ?_
      obtain ⟨v_7, hv_7, hf⟩ := bnd hf
      refine x_staI G (As := [.long v2.toInt64, .long (0 : Int64), .long (((ri w_1 166 v1) - (1 : Int32)).toInt64)]) (mX12_in G.2.2.2.2.2.2.1 M hv_7) ms_X12_93 rfl rfl rfl rfl rfl dX12_at_43 ?_
      refine x_ifneB G (tgt := 56) dX12_at_46 (by decide) hf (fun c_8 hf => ?_) (fun c_8 hf => ?_)
      · refine x_aload_n G dX12_at_56 rfl rfl ?_
        refine x_getR G (kd148 M) 31 (b := 167) rfl cl12 rfl wf_X12_69 dX12_at_57 ?_
        refine x_bipush G (v := 100) dX12_at_60 (by decide) ?_
        refine x_iload_n G dX12_at_62 rfl rfl ?_
        refine x_imul G dX12_at_63 ?_
        refine x_iload_n G dX12_at_64 rfl rfl ?_
        refine x_iadd G dX12_at_65 ?_
        refine x_lald G (kd167 M) dX12_at_66 hf (fun hb_9 hf => ?_)
        exact x_lretW G hf hr dX12_at_67
      · exact XW.sub (lv' := [some (.ref 148), none, none]) (And.intro rfl trivial) (xX12_at_49 G M hf hr)
    · exact XW.sub (lv' := [some (.ref 148), none, none]) (And.intro rfl trivial) (xX12_at_49 G M hf hr)
  · refine x_aload_n G dX12_at_12 rfl rfl ?_
    refine x_iconst G (v := 1) dX12_at_13 (by decide) ?_
    refine x_putI G (kd148 M) 0 rfl cl12 rfl wf_X12_1 rfl rfl rfl dX12_at_14 ?_
    refine nwr hf (fun w_10 hf => ?_)
    refine x_lconst G (v := 0) dX12_at_17 (by decide) ?_
    exact x_lretW G hf hr dX12_at_18

theorem mX12_at {l : Launch} {S : KS} {w : Wd} (hI : Inj S) (M : Main S) {v1 : Int32} {v2 : Int32} {r : Int64 × Wd} (hf : fX12_at v1 v2 w = some r) : CJ l yX12_at cX12_at 3 (some .long) 3 S [.ref 148, .int v1, .int v2] w r.1 r.2 := by
  intro sz
  refine mk_entry rfl (by decide +kernel) hI 0 rfl rfl (fun K h1 h2 h3 h4 h5 h6 G => ?_)
  subst h2
  exact xX12_at_e G M hf ⟨h3, by rw [h4, h6], h5⟩

set_option maxHeartbeats 4000000 in
set_option maxRecDepth 100000 in
theorem xX12_host_e {K : KT} {v1 : Int32} {w : Wd} {r : Int32 × Wd} (G : GK K cX12_host RX12 2 1) (M : Main K.ks) (hf : fX12_host v1 w = some r) (hr : RI K .int r.1 r.2) : XW K 0 [some (.ref 148), some (.int v1)] [] w := by
  unfold fX12_host at hf
  refine x_aload_n G dX12_host_0 rfl rfl ?_
  refine x_dup G dX12_host_1 rfl ?_
  refine x_getI G (kd148 M) 2 rfl cl12 rfl wf_X12_88 dX12_host_2 ?_
  refine x_iconst G (v := 1) dX12_host_5 (by decide) ?_
  refine x_iadd G dX12_host_6 ?_
  refine x_putI G (kd148 M) 2 rfl cl12 rfl wf_X12_88 rfl rfl rfl dX12_host_7 ?_
  refine nwr hf (fun w_1 hf => ?_)
  refine x_iload_n G dX12_host_10 rfl rfl ?_
  exact x_iretW G hf hr dX12_host_11

theorem mX12_host {l : Launch} {S : KS} {w : Wd} (hI : Inj S) (M : Main S) {v1 : Int32} {r : Int32 × Wd} (hf : fX12_host v1 w = some r) : CI l yX12_host cX12_host 2 (some .int) 1 S [.ref 148, .int v1] w r.1 r.2 := by
  intro sz
  refine mk_entry rfl (by decide +kernel) hI 0 rfl rfl (fun K h1 h2 h3 h4 h5 h6 G => ?_)
  subst h2
  exact xX12_host_e G M hf ⟨h3, by rw [h4, h6], h5⟩

set_option maxHeartbeats 4000000 in
set_option maxRecDepth 100000 in
theorem xX12_back_50 {K : KT} {r : Int32 × Wd} (G : GK K cX12_back RX12 3 3) (M : Main K.ks) (hr : RI K .int r.1 r.2) : ∀ (n : Nat) (v1 : Int32) (v2 : Int32) (w : Wd), fX12_back_50 n v1 v2 w = some r → XW K 50 [some (.ref 148), some (.int v1), some (.int v2)] [] w := by
  intro n
  induction n with
  | zero =>
    intro v1 v2 w hf
    unfold fX12_back_50 at hf
    cases hf
  | succ n ih =>
    intro v1 v2 w hf
    unfold fX12_back_50 at hf
    refine x_iload_n G dX12_back_50 rfl rfl ?_
    refine x_sipush G (v := 4340) dX12_back_51 (by decide) ?_
    refine x_icmpge G (tgt := 81) dX12_back_54 (by decide) hf (fun c_1 hf => ?_) (fun c_1 hf => ?_)
    · refine x_aload_n G dX12_back_57 rfl rfl ?_
      refine x_getR G (kd148 M) 1 (b := 149) rfl cl12 rfl wf_X12_13 dX12_back_58 ?_
      refine x_iload_n G dX12_back_61 rfl rfl ?_
      refine x_aload_n G dX12_back_62 rfl rfl ?_
      refine x_getR G (kd148 M) 32 (b := 168) rfl cl12 rfl wf_X12_73 dX12_back_63 ?_
      refine x_sipush G (v := 4340) dX12_back_66 (by decide) ?_
      refine x_iload_n G dX12_back_69 rfl rfl ?_
      refine x_imul G dX12_back_70 ?_
      refine x_iload_n G dX12_back_71 rfl rfl ?_
      refine x_iadd G dX12_back_72 ?_
      refine x_iald G (kd168 M) dX12_back_73 hf (fun hb_2 hf => ?_)
      refine x_iast G (kd149 M) dX12_back_74 hf (fun hb_3 hf => ?_)
      refine nwr hf (fun w_4 hf => ?_)
      refine x_iinc G (lv' := [some (.ref 148), some (.int v1), some (.int (v2 + (1 : Int32)))]) (v := 1) dX12_back_75 rfl (by decide) rfl rfl rfl ?_
      refine x_goto G (tgt := 50) dX12_back_78 (by decide) ?_
      exact XW.sub (lv' := [some (.ref 148), some (.int v1), some (.int (v2 + (1 : Int32)))]) (And.intro rfl (And.intro rfl (And.intro rfl trivial))) (ih _ _ _ hf)
    · refine x_aload_n G dX12_back_81 rfl rfl ?_
      refine x_iconst G (v := 0) dX12_back_82 (by decide) ?_
      obtain ⟨v_5, hv_5, hf⟩ := bnd hf
      refine x_virI G (As := [.int (0 : Int32)]) (mX12_g G.2.2.2.2.2.2.1 M hv_5) mv_X12_101 (kd148 M) cl12 rfl rfl rfl rfl rfl dX12_back_83 ?_
      exact x_iretW G hf hr dX12_back_86

set_option maxHeartbeats 4000000 in
set_option maxRecDepth 100000 in
theorem xX12_back_e {K : KT} {v1 : Int32} {w : Wd} {r : Int32 × Wd} (G : GK K cX12_back RX12 3 3) (M : Main K.ks) (hf : fX12_back v1 w = some r) (hr : RI K .int r.1 r.2) : XW K 0 [some (.ref 148), some (.int v1), none] [] w := by
  unfold fX12_back at hf
  refine x_aload_n G dX12_back_0 rfl rfl ?_
  refine x_iconst G (v := 0) dX12_back_1 (by decide) ?_
  refine x_putI G (kd148 M) 0 rfl cl12 rfl wf_X12_1 rfl rfl rfl dX12_back_2 ?_
  refine nwr hf (fun w_1 hf => ?_)
  refine x_iload_n G dX12_back_5 rfl rfl ?_
  obtain ⟨v_2, hv_2, hf⟩ := bnd hf
  refine x_staI G (As := [.int v1]) (mX12_isTape G.2.2.2.2.2.2.1 M hv_2) ms_X12_128 rfl rfl rfl rfl rfl dX12_back_6 ?_
  refine x_ifneB G (tgt := 14) dX12_back_9 (by decide) hf (fun c_3 hf => ?_) (fun c_3 hf => ?_)
  · refine x_aload_n G dX12_back_14 rfl rfl ?_
    refine x_getR G (kd148 M) 29 (b := 165) rfl cl12 rfl wf_X12_63 dX12_back_15 ?_
    refine x_iload_n G dX12_back_18 rfl rfl ?_
    refine x_iald G (kd165 M) dX12_back_19 hf (fun hb_4 hf => ?_)
    refine x_ifne G (tgt := 30) dX12_back_20 (by decide) hf (fun c_5 hf => ?_) (fun c_5 hf => ?_)
    · refine x_aload_n G dX12_back_23 rfl rfl ?_
      refine x_bipush G (v := -11) dX12_back_24 (by decide) ?_
      obtain ⟨v_6, hv_6, hf⟩ := bnd hf
      refine x_virI G (As := [.int (-11 : Int32)]) (mX12_host G.2.2.2.2.2.2.1 M hv_6) mv_X12_131 (kd148 M) cl12 rfl rfl rfl rfl rfl dX12_back_26 ?_
      exact x_iretW G hf hr dX12_back_29
    · refine x_aload_n G dX12_back_30 rfl rfl ?_
      refine x_getR G (kd148 M) 29 (b := 165) rfl cl12 rfl wf_X12_63 dX12_back_31 ?_
      refine x_iload_n G dX12_back_34 rfl rfl ?_
      refine x_iald0 G (kd165 M) dX12_back_35 hb_4 ?_
      refine x_bipush G (v := 6) dX12_back_36 (by decide) ?_
      refine x_icmpeq G (tgt := 48) dX12_back_38 (by decide) hf (fun c_7 hf => ?_) (fun c_7 hf => ?_)
      · refine x_iconst G (v := 0) dX12_back_48 (by decide) ?_
        refine x_istore_n G (lv' := [some (.ref 148), some (.int v1), some (.int (0 : Int32))]) dX12_back_49 rfl rfl rfl rfl ?_
        exact XW.sub (lv' := [some (.ref 148), some (.int v1), some (.int (0 : Int32))]) (And.intro rfl (And.intro rfl (And.intro rfl trivial))) (xX12_back_50 G M hr FU _ _ _ hf)
      · refine x_aload_n G dX12_back_41 rfl rfl ?_
        refine x_bipush G (v := -12) dX12_back_42 (by decide) ?_
        obtain ⟨v_8, hv_8, hf⟩ := bnd hf
        refine x_virI G (As := [.int (-12 : Int32)]) (mX12_host G.2.2.2.2.2.2.1 M hv_8) mv_X12_131 (kd148 M) cl12 rfl rfl rfl rfl rfl dX12_back_44 ?_
        exact x_iretW G hf hr dX12_back_47
  · refine x_iconst G (v := -1) dX12_back_12 (by decide) ?_
    exact x_iretW G hf hr dX12_back_13

theorem mX12_back {l : Launch} {S : KS} {w : Wd} (hI : Inj S) (M : Main S) {v1 : Int32} {r : Int32 × Wd} (hf : fX12_back v1 w = some r) : CI l yX12_back cX12_back 3 (some .int) 3 S [.ref 148, .int v1] w r.1 r.2 := by
  intro sz
  refine mk_entry rfl (by decide +kernel) hI 1 rfl rfl (fun K h1 h2 h3 h4 h5 h6 G => ?_)
  subst h2
  exact xX12_back_e G M hf ⟨h3, by rw [h4, h6], h5⟩

set_option maxHeartbeats 4000000 in
set_option maxRecDepth 100000 in
theorem xX12_isLine_e {K : KT} {v1 : Int32} {w : Wd} {r : Bool} (G : GK K cX12_isLine RX12 2 2) (M : Main K.ks) (hf : fX12_isLine v1 w = some r) (hr : RI K .boolean (bI r) w) : XW K 0 [some (.ref 148), some (.int v1)] [] w := by
  unfold fX12_isLine at hf
  refine x_iload_n G dX12_isLine_0 rfl rfl ?_
  refine x_i2l G dX12_isLine_1 ?_
  refine x_lconst G (v := 0) dX12_isLine_2 (by decide) ?_
  refine x_aload_n G dX12_isLine_3 rfl rfl ?_
  refine x_bipush G (v := 15) dX12_isLine_4 (by decide) ?_
  obtain ⟨v_1, hv_1, hf⟩ := bnd hf
  refine x_virI G (As := [.int (15 : Int32)]) (mX12_g G.2.2.2.2.2.2.1 M hv_1) mv_X12_101 (kd148 M) cl12 rfl rfl rfl rfl rfl dX12_isLine_6 ?_
  refine x_iconst G (v := 1) dX12_isLine_9 (by decide) ?_
  refine x_isub G dX12_isLine_10 ?_
  refine x_i2l G dX12_isLine_11 ?_
  obtain ⟨v_2, hv_2, hf⟩ := bnd hf
  refine x_staI G (As := [.long v1.toInt64, .long (0 : Int64), .long ((v_1 - (1 : Int32)).toInt64)]) (mX12_in G.2.2.2.2.2.2.1 M hv_2) ms_X12_93 rfl rfl rfl rfl rfl dX12_isLine_12 ?_
  exact x_zretP G hf hr dX12_isLine_15

theorem mX12_isLine {l : Launch} {S : KS} {w : Wd} (hI : Inj S) (M : Main S) {v1 : Int32} {r : Bool} (hf : fX12_isLine v1 w = some r) : CI l yX12_isLine cX12_isLine 2 (some .boolean) 2 S [.ref 148, .int v1] w (bI r) w := by
  intro sz
  refine mk_entry rfl (by decide +kernel) hI 0 rfl rfl (fun K h1 h2 h3 h4 h5 h6 G => ?_)
  subst h2
  exact xX12_isLine_e G M hf ⟨h3, by rw [h4, h6], h5⟩

set_option maxHeartbeats 4000000 in
set_option maxRecDepth 100000 in
theorem xX12_isSpot_e {K : KT} {v1 : Int32} {v2 : Int32} {w : Wd} {r : Bool} (G : GK K cX12_isSpot RX12 3 3) (M : Main K.ks) (hf : fX12_isSpot v1 v2 w = some r) (hr : RI K .boolean (bI r) w) : XW K 0 [some (.ref 148), some (.int v1), some (.int v2)] [] w := by
  unfold fX12_isSpot at hf
  refine x_aload_n G dX12_isSpot_0 rfl rfl ?_
  refine x_iload_n G dX12_isSpot_1 rfl rfl ?_
  obtain ⟨v_1, hv_1, hf⟩ := bnd hf
  refine x_virI G (As := [.int v1]) (mX12_isLine G.2.2.2.2.2.2.1 M hv_1) mv_X12_188 (kd148 M) cl12 rfl rfl rfl rfl rfl dX12_isSpot_2 ?_
  refine x_ifeqB G (tgt := 30) dX12_isSpot_5 (by decide) hf (fun c_2 hf => ?_) (fun c_2 hf => ?_)
  · refine x_iload_n G dX12_isSpot_8 rfl rfl ?_
    refine x_i2l G dX12_isSpot_9 ?_
    refine x_lconst G (v := 0) dX12_isSpot_10 (by decide) ?_
    refine x_aload_n G dX12_isSpot_11 rfl rfl ?_
    refine x_iload_n G dX12_isSpot_12 rfl rfl ?_
    refine x_iconst G (v := 0) dX12_isSpot_13 (by decide) ?_
    obtain ⟨v_3, hv_3, hf⟩ := bnd hf
    refine x_virI G (As := [.int v1, .int (0 : Int32)]) (mX12_l G.2.2.2.2.2.2.1 M hv_3) mv_X12_193 (kd148 M) cl12 rfl rfl rfl rfl rfl dX12_isSpot_14 ?_
    refine x_iconst G (v := 1) dX12_isSpot_17 (by decide) ?_
    refine x_isub G dX12_isSpot_18 ?_
    refine x_i2l G dX12_isSpot_19 ?_
    obtain ⟨v_4, hv_4, hf⟩ := bnd hf
    refine x_staI G (As := [.long v2.toInt64, .long (0 : Int64), .long ((v_3 - (1 : Int32)).toInt64)]) (mX12_in G.2.2.2.2.2.2.1 M hv_4) ms_X12_93 rfl rfl rfl rfl rfl dX12_isSpot_20 ?_
    refine x_ifeqB G (tgt := 30) dX12_isSpot_23 (by decide) hf (fun c_5 hf => ?_) (fun c_5 hf => ?_)
    · refine x_iconst G (v := 1) dX12_isSpot_26 (by decide) ?_
      refine x_goto G (tgt := 31) dX12_isSpot_27 (by decide) ?_
      exact x_zretP G hf hr dX12_isSpot_31
    · refine x_iconst G (v := 0) dX12_isSpot_30 (by decide) ?_
      exact x_zretP G hf hr dX12_isSpot_31
  · refine x_iconst G (v := 0) dX12_isSpot_30 (by decide) ?_
    exact x_zretP G hf hr dX12_isSpot_31

theorem mX12_isSpot {l : Launch} {S : KS} {w : Wd} (hI : Inj S) (M : Main S) {v1 : Int32} {v2 : Int32} {r : Bool} (hf : fX12_isSpot v1 v2 w = some r) : CI l yX12_isSpot cX12_isSpot 3 (some .boolean) 3 S [.ref 148, .int v1, .int v2] w (bI r) w := by
  intro sz
  refine mk_entry rfl (by decide +kernel) hI 0 rfl rfl (fun K h1 h2 h3 h4 h5 h6 G => ?_)
  subst h2
  exact xX12_isSpot_e G M hf ⟨h3, by rw [h4, h6], h5⟩

set_option maxHeartbeats 4000000 in
set_option maxRecDepth 100000 in
theorem xX12_bad_82 {K : KT} {s1 : Int32} {s2 : Int32} {w : Wd} {r : Int32 × Wd} (G : GK K cX12_bad RX12 5 4) (M : Main K.ks) (hf : fX12_bad_82 s1 s2 w = some r) (hr : RI K .int r.1 r.2) : XW K 82 [none, none, none, none, none] [.int s2, .int s1, .ref 149] w := by
  unfold fX12_bad_82 at hf
  refine x_iast G (kd149 M) dX12_bad_82 hf (fun hb_1 hf => ?_)
  refine nwr hf (fun w_2 hf => ?_)
  refine x_iconst G (v := 1) dX12_bad_83 (by decide) ?_
  exact x_iretW G hf hr dX12_bad_84

set_option maxHeartbeats 4000000 in
set_option maxRecDepth 100000 in
theorem xX12_bad_59 {K : KT} {v3 : Int32} {v4 : Int32} {s0 : Int32} {w : Wd} {r : Int32 × Wd} (G : GK K cX12_bad RX12 5 4) (M : Main K.ks) (hf : fX12_bad_59 v3 v4 s0 w = some r) (hr : RI K .int r.1 r.2) : XW K 59 [some (.ref 148), none, none, some (.int v3), some (.int v4)] [.int s0] w := by
  unfold fX12_bad_59 at hf
  refine x_iload_n G dX12_bad_59 rfl rfl ?_
  refine x_icmpne G (tgt := 65) dX12_bad_60 (by decide) hf (fun c_1 hf => ?_) (fun c_1 hf => ?_)
  · refine x_iconst G (v := 0) dX12_bad_63 (by decide) ?_
    exact x_iretW G hf hr dX12_bad_64
  · refine x_aload_n G dX12_bad_65 rfl rfl ?_
    refine x_getR G (kd148 M) 1 (b := 149) rfl cl12 rfl wf_X12_13 dX12_bad_66 ?_
    refine x_iload G dX12_bad_69 rfl ?_
    refine x_iconst G (v := 5) dX12_bad_71 (by decide) ?_
    refine x_iadd G dX12_bad_72 ?_
    refine x_iload_n G dX12_bad_73 rfl rfl ?_
    refine x_ifeq G (tgt := 81) dX12_bad_74 (by decide) hf (fun c_2 hf => ?_) (fun c_2 hf => ?_)
    · refine x_iconst G (v := 0) dX12_bad_81 (by decide) ?_
      exact XW.sub (lv' := [none, none, none, none, none]) trivial (xX12_bad_82 G M hf hr)
    · refine x_iconst G (v := 1) dX12_bad_77 (by decide) ?_
      refine x_goto G (tgt := 82) dX12_bad_78 (by decide) ?_
      exact XW.sub (lv' := [none, none, none, none, none]) trivial (xX12_bad_82 G M hf hr)

set_option maxHeartbeats 4000000 in
set_option maxRecDepth 100000 in
theorem xX12_bad_e {K : KT} {v1 : Int32} {v2 : Int32} {v3 : Int32} {w : Wd} {r : Int32 × Wd} (G : GK K cX12_bad RX12 5 4) (M : Main K.ks) (hf : fX12_bad v1 v2 v3 w = some r) (hr : RI K .int r.1 r.2) : XW K 0 [some (.ref 148), some (.int v1), some (.int v2), some (.int v3), none] [] w := by
  unfold fX12_bad at hf
  refine x_aload_n G dX12_bad_0 rfl rfl ?_
  refine x_iconst G (v := 0) dX12_bad_1 (by decide) ?_
  refine x_putI G (kd148 M) 0 rfl cl12 rfl wf_X12_1 rfl rfl rfl dX12_bad_2 ?_
  refine nwr hf (fun w_1 hf => ?_)
  refine x_aload_n G dX12_bad_5 rfl rfl ?_
  refine x_iload_n G dX12_bad_6 rfl rfl ?_
  refine x_iload_n G dX12_bad_7 rfl rfl ?_
  obtain ⟨v_2, hv_2, hf⟩ := bnd hf
  refine x_virI G (As := [.int v1, .int v2]) (mX12_isSpot G.2.2.2.2.2.2.1 M hv_2) mv_X12_201 (kd148 M) cl12 rfl rfl rfl rfl rfl dX12_bad_8 ?_
  refine x_ifneB G (tgt := 16) dX12_bad_11 (by decide) hf (fun c_3 hf => ?_) (fun c_3 hf => ?_)
  · refine x_aload_n G dX12_bad_16 rfl rfl ?_
    refine x_iload_n G dX12_bad_17 rfl rfl ?_
    refine x_iload_n G dX12_bad_18 rfl rfl ?_
    obtain ⟨v_4, hv_4, hf⟩ := bnd hf
    refine x_virI G (As := [.int v1, .int v2]) (mX12_spot G.2.2.2.2.2.2.1 M hv_4) mv_X12_185 (kd148 M) cl12 rfl rfl rfl rfl rfl dX12_bad_19 ?_
    refine x_istore G (lv' := [some (.ref 148), some (.int v1), some (.int v2), some (.int v3), some (.int v_4)]) dX12_bad_22 rfl rfl rfl ?_
    refine x_aload_n G dX12_bad_24 rfl rfl ?_
    refine x_getR G (kd148 M) 1 (b := 149) rfl cl12 rfl wf_X12_13 dX12_bad_25 ?_
    refine x_iload G dX12_bad_28 rfl ?_
    refine x_iconst G (v := 3) dX12_bad_30 (by decide) ?_
    refine x_iadd G dX12_bad_31 ?_
    refine x_iald G (kd149 M) dX12_bad_32 hf (fun hb_5 hf => ?_)
    refine x_bipush G (v := -9) dX12_bad_33 (by decide) ?_
    refine x_icmpne G (tgt := 41) dX12_bad_35 (by decide) hf (fun c_6 hf => ?_) (fun c_6 hf => ?_)
    · refine x_bipush G (v := -4) dX12_bad_38 (by decide) ?_
      exact x_iretW G hf hr dX12_bad_40
    · refine x_aload_n G dX12_bad_41 rfl rfl ?_
      refine x_getR G (kd148 M) 1 (b := 149) rfl cl12 rfl wf_X12_13 dX12_bad_42 ?_
      refine x_iload G dX12_bad_45 rfl ?_
      refine x_iconst G (v := 5) dX12_bad_47 (by decide) ?_
      refine x_iadd G dX12_bad_48 ?_
      refine x_iald G (kd149 M) dX12_bad_49 hf (fun hb_7 hf => ?_)
      refine x_iconst G (v := 1) dX12_bad_50 (by decide) ?_
      refine x_icmpne G (tgt := 58) dX12_bad_51 (by decide) hf (fun c_8 hf => ?_) (fun c_8 hf => ?_)
      · refine x_iconst G (v := 1) dX12_bad_54 (by decide) ?_
        refine x_goto G (tgt := 59) dX12_bad_55 (by decide) ?_
        exact XW.sub (lv' := [some (.ref 148), none, none, some (.int v3), some (.int v_4)]) (And.intro rfl (And.intro rfl (And.intro rfl trivial))) (xX12_bad_59 G M hf hr)
      · refine x_iconst G (v := 0) dX12_bad_58 (by decide) ?_
        exact XW.sub (lv' := [some (.ref 148), none, none, some (.int v3), some (.int v_4)]) (And.intro rfl (And.intro rfl (And.intro rfl trivial))) (xX12_bad_59 G M hf hr)
  · refine x_iconst G (v := -1) dX12_bad_14 (by decide) ?_
    exact x_iretW G hf hr dX12_bad_15

theorem mX12_bad {l : Launch} {S : KS} {w : Wd} (hI : Inj S) (M : Main S) {v1 : Int32} {v2 : Int32} {v3 : Int32} {r : Int32 × Wd} (hf : fX12_bad v1 v2 v3 w = some r) : CI l yX12_bad cX12_bad 5 (some .int) 4 S [.ref 148, .int v1, .int v2, .int v3] w r.1 r.2 := by
  intro sz
  refine mk_entry rfl (by decide +kernel) hI 1 rfl rfl (fun K h1 h2 h3 h4 h5 h6 G => ?_)
  subst h2
  exact xX12_bad_e G M hf ⟨h3, by rw [h4, h6], h5⟩

set_option maxHeartbeats 4000000 in
set_option maxRecDepth 100000 in
theorem xX12_isBearing_118 {K : KT} {v2 : Int32} {s0 : Int32} {w : Wd} {r : Bool} (G : GK K cX12_isBearing RX12 6 3) (M : Main K.ks) (hf : fX12_isBearing_118 v2 s0 w = some r) (hr : RI K .boolean (bI r) w) : XW K 118 [some (.ref 148), none, some (.int v2), none, none, none] [.int s0] w := by
  unfold fX12_isBearing_118 at hf
  refine x_istore G (lv' := [some (.ref 148), none, some (.int v2), none, none, some (.int s0)]) dX12_isBearing_118 rfl rfl rfl ?_
  refine x_iload G dX12_isBearing_120 rfl ?_
  refine x_aload_n G dX12_isBearing_122 rfl rfl ?_
  refine x_iload_n G dX12_isBearing_123 rfl rfl ?_
  obtain ⟨v_1, hv_1, hf⟩ := bnd hf
  refine x_virI G (As := [.int v2]) (mX12_depthAt G.2.2.2.2.2.2.1 M hv_1) mv_X12_204 (kd148 M) cl12 rfl rfl rfl rfl rfl dX12_isBearing_124 ?_
  refine x_icmplt G (tgt := 134) dX12_isBearing_127 (by decide) hf (fun c_2 hf => ?_) (fun c_2 hf => ?_)
  · refine x_iconst G (v := 0) dX12_isBearing_134 (by decide) ?_
    exact x_zretP G hf hr dX12_isBearing_135
  · refine x_iconst G (v := 1) dX12_isBearing_130 (by decide) ?_
    refine x_goto G (tgt := 135) dX12_isBearing_131 (by decide) ?_
    exact x_zretP G hf hr dX12_isBearing_135

set_option maxHeartbeats 4000000 in
set_option maxRecDepth 100000 in
theorem xX12_isBearing_97 {K : KT} {v2 : Int32} {v5 : Int32} {w : Wd} {r : Bool} (G : GK K cX12_isBearing RX12 6 3) (M : Main K.ks) (hf : fX12_isBearing_97 v2 v5 w = some r) (hr : RI K .boolean (bI r) w) : XW K 97 [some (.ref 148), none, some (.int v2), none, none, some (.int v5)] [] w := by
  unfold fX12_isBearing_97 at hf
  refine x_aload_n G dX12_isBearing_97 rfl rfl ?_
  refine x_getR G (kd148 M) 1 (b := 149) rfl cl12 rfl wf_X12_13 dX12_isBearing_98 ?_
  refine x_iload_n G dX12_isBearing_101 rfl rfl ?_
  refine x_iconst G (v := 5) dX12_isBearing_102 (by decide) ?_
  refine x_iadd G dX12_isBearing_103 ?_
  refine x_iald G (kd149 M) dX12_isBearing_104 hf (fun hb_1 hf => ?_)
  refine x_iconst G (v := 1) dX12_isBearing_105 (by decide) ?_
  refine x_icmpne G (tgt := 116) dX12_isBearing_106 (by decide) hf (fun c_2 hf => ?_) (fun c_2 hf => ?_)
  · refine x_iload G dX12_isBearing_109 rfl ?_
    refine x_iconst G (v := 2) dX12_isBearing_111 (by decide) ?_
    refine x_idiv G dX12_isBearing_112 (by decide) ?_
    refine x_goto G (tgt := 118) dX12_isBearing_113 (by decide) ?_
    exact XW.sub (lv' := [some (.ref 148), none, some (.int v2), none, none, none]) (And.intro rfl (And.intro rfl trivial)) (xX12_isBearing_118 G M hf hr)
  · refine x_iload G dX12_isBearing_116 rfl ?_
    exact XW.sub (lv' := [some (.ref 148), none, some (.int v2), none, none, none]) (And.intro rfl (And.intro rfl trivial)) (xX12_isBearing_118 G M hf hr)

set_option maxHeartbeats 4000000 in
set_option maxRecDepth 100000 in
theorem xX12_isBearing_39 {K : KT} {v2 : Int32} {s0 : Int32} {w : Wd} {r : Bool} (G : GK K cX12_isBearing RX12 6 3) (M : Main K.ks) (hf : fX12_isBearing_39 v2 s0 w = some r) (hr : RI K .boolean (bI r) w) : XW K 39 [some (.ref 148), none, some (.int v2), none, none, none] [.int s0] w := by
  unfold fX12_isBearing_39 at hf
  refine x_istore G (lv' := [some (.ref 148), none, some (.int v2), none, none, some (.int s0)]) dX12_isBearing_39 rfl rfl rfl ?_
  refine x_aload_n G dX12_isBearing_41 rfl rfl ?_
  refine x_getR G (kd148 M) 1 (b := 149) rfl cl12 rfl wf_X12_13 dX12_isBearing_42 ?_
  refine x_iload_n G dX12_isBearing_45 rfl rfl ?_
  refine x_iconst G (v := 4) dX12_isBearing_46 (by decide) ?_
  refine x_iadd G dX12_isBearing_47 ?_
  refine x_iald G (kd149 M) dX12_isBearing_48 hf (fun hb_1 hf => ?_)
  refine x_iconst G (v := 1) dX12_isBearing_49 (by decide) ?_
  refine x_icmpne G (tgt := 60) dX12_isBearing_50 (by decide) hf (fun c_2 hf => ?_) (fun c_2 hf => ?_)
  · refine x_iload G dX12_isBearing_53 rfl ?_
    refine x_iconst G (v := 2) dX12_isBearing_55 (by decide) ?_
    refine x_idiv G dX12_isBearing_56 (by decide) ?_
    refine x_goto G (tgt := 62) dX12_isBearing_57 (by decide) ?_
    refine x_istore G (lv' := [some (.ref 148), none, some (.int v2), none, none, some (.int (s0 / (2 : Int32)))]) dX12_isBearing_62 rfl rfl rfl ?_
    refine x_goto G (tgt := 97) dX12_isBearing_64 (by decide) ?_
    exact XW.sub (lv' := [some (.ref 148), none, some (.int v2), none, none, some (.int (s0 / (2 : Int32)))]) (And.intro rfl (And.intro rfl (And.intro rfl trivial))) (xX12_isBearing_97 G M hf hr)
  · refine x_iload G dX12_isBearing_60 rfl ?_
    refine x_istore G (lv' := [some (.ref 148), none, some (.int v2), none, none, some (.int s0)]) dX12_isBearing_62 rfl rfl rfl ?_
    refine x_goto G (tgt := 97) dX12_isBearing_64 (by decide) ?_
    exact XW.sub (lv' := [some (.ref 148), none, some (.int v2), none, none, some (.int s0)]) (And.intro rfl (And.intro rfl (And.intro rfl trivial))) (xX12_isBearing_97 G M hf hr)

set_option maxHeartbeats 4000000 in
set_option maxRecDepth 100000 in
theorem xX12_isBearing_95 {K : KT} {v2 : Int32} {s0 : Int32} {w : Wd} {r : Bool} (G : GK K cX12_isBearing RX12 6 3) (M : Main K.ks) (hf : fX12_isBearing_95 v2 s0 w = some r) (hr : RI K .boolean (bI r) w) : XW K 95 [some (.ref 148), none, some (.int v2), none, none, none] [.int s0] w := by
  unfold fX12_isBearing_95 at hf
  refine x_istore G (lv' := [some (.ref 148), none, some (.int v2), none, none, some (.int s0)]) dX12_isBearing_95 rfl rfl rfl ?_
  exact XW.sub (lv' := [some (.ref 148), none, some (.int v2), none, none, some (.int s0)]) (And.intro rfl (And.intro rfl (And.intro rfl trivial))) (xX12_isBearing_97 G M hf hr)

set_option maxHeartbeats 4000000 in
set_option maxRecDepth 100000 in
theorem xX12_isBearing_e {K : KT} {v1 : Int32} {v2 : Int32} {v3 : Int32} {w : Wd} {r : Bool} (G : GK K cX12_isBearing RX12 6 3) (M : Main K.ks) (hf : fX12_isBearing v1 v2 v3 w = some r) (hr : RI K .boolean (bI r) w) : XW K 0 [some (.ref 148), some (.int v1), some (.int v2), some (.int v3), none, none] [] w := by
  unfold fX12_isBearing at hf
  refine x_iload_n G dX12_isBearing_0 rfl rfl ?_
  refine x_aload_n G dX12_isBearing_1 rfl rfl ?_
  refine x_getR G (kd148 M) 1 (b := 149) rfl cl12 rfl wf_X12_13 dX12_isBearing_2 ?_
  refine x_iload_n G dX12_isBearing_5 rfl rfl ?_
  refine x_iconst G (v := 3) dX12_isBearing_6 (by decide) ?_
  refine x_iadd G dX12_isBearing_7 ?_
  refine x_iald G (kd149 M) dX12_isBearing_8 hf (fun hb_1 hf => ?_)
  refine x_isub G dX12_isBearing_9 ?_
  refine x_istore G (lv' := [some (.ref 148), some (.int v1), some (.int v2), some (.int v3), some (.int (v3 - (ri w 149 (v2 + (3 : Int32))))), none]) dX12_isBearing_10 rfl rfl rfl ?_
  refine x_aload_n G dX12_isBearing_12 rfl rfl ?_
  refine x_iload_n G dX12_isBearing_13 rfl rfl ?_
  refine x_iconst G (v := 2) dX12_isBearing_14 (by decide) ?_
  obtain ⟨v_2, hv_2, hf⟩ := bnd hf
  refine x_virI G (As := [.int v1, .int (2 : Int32)]) (mX12_l G.2.2.2.2.2.2.1 M hv_2) mv_X12_193 (kd148 M) cl12 rfl rfl rfl rfl rfl dX12_isBearing_15 ?_
  refine x_ifne G (tgt := 67) dX12_isBearing_18 (by decide) hf (fun c_3 hf => ?_) (fun c_3 hf => ?_)
  · refine x_iconst G (v := 2) dX12_isBearing_21 (by decide) ?_
    refine x_iload G dX12_isBearing_22 rfl ?_
    refine x_imul G dX12_isBearing_24 ?_
    refine x_bipush G (v := 100) dX12_isBearing_25 (by decide) ?_
    refine x_icmple G (tgt := 35) dX12_isBearing_27 (by decide) hf (fun c_4 hf => ?_) (fun c_4 hf => ?_)
    · refine x_bipush G (v := 100) dX12_isBearing_30 (by decide) ?_
      refine x_goto G (tgt := 39) dX12_isBearing_32 (by decide) ?_
      exact XW.sub (lv' := [some (.ref 148), none, some (.int v2), none, none, none]) (And.intro rfl (And.intro rfl trivial)) (xX12_isBearing_39 G M hf hr)
    · refine x_iconst G (v := 2) dX12_isBearing_35 (by decide) ?_
      refine x_iload G dX12_isBearing_36 rfl ?_
      refine x_imul G dX12_isBearing_38 ?_
      exact XW.sub (lv' := [some (.ref 148), none, some (.int v2), none, none, none]) (And.intro rfl (And.intro rfl trivial)) (xX12_isBearing_39 G M hf hr)
  · refine x_bipush G (v := 10) dX12_isBearing_67 (by decide) ?_
    refine x_bipush G (v := 6) dX12_isBearing_69 (by decide) ?_
    refine x_iload G dX12_isBearing_71 rfl ?_
    refine x_imul G dX12_isBearing_73 ?_
    refine x_iadd G dX12_isBearing_74 ?_
    refine x_sipush G (v := 300) dX12_isBearing_75 (by decide) ?_
    refine x_icmple G (tgt := 87) dX12_isBearing_78 (by decide) hf (fun c_5 hf => ?_) (fun c_5 hf => ?_)
    · refine x_sipush G (v := 300) dX12_isBearing_81 (by decide) ?_
      refine x_goto G (tgt := 95) dX12_isBearing_84 (by decide) ?_
      exact XW.sub (lv' := [some (.ref 148), none, some (.int v2), none, none, none]) (And.intro rfl (And.intro rfl trivial)) (xX12_isBearing_95 G M hf hr)
    · refine x_bipush G (v := 10) dX12_isBearing_87 (by decide) ?_
      refine x_bipush G (v := 6) dX12_isBearing_89 (by decide) ?_
      refine x_iload G dX12_isBearing_91 rfl ?_
      refine x_imul G dX12_isBearing_93 ?_
      refine x_iadd G dX12_isBearing_94 ?_
      exact XW.sub (lv' := [some (.ref 148), none, some (.int v2), none, none, none]) (And.intro rfl (And.intro rfl trivial)) (xX12_isBearing_95 G M hf hr)

theorem mX12_isBearing {l : Launch} {S : KS} {w : Wd} (hI : Inj S) (M : Main S) {v1 : Int32} {v2 : Int32} {v3 : Int32} {r : Bool} (hf : fX12_isBearing v1 v2 v3 w = some r) : CI l yX12_isBearing cX12_isBearing 6 (some .boolean) 3 S [.ref 148, .int v1, .int v2, .int v3] w (bI r) w := by
  intro sz
  refine mk_entry rfl (by decide +kernel) hI 2 rfl rfl (fun K h1 h2 h3 h4 h5 h6 G => ?_)
  subst h2
  exact xX12_isBearing_e G M hf ⟨h3, by rw [h4, h6], h5⟩

set_option maxHeartbeats 4000000 in
set_option maxRecDepth 100000 in
theorem xX12_bears_49 {K : KT} {r : Int32 × Wd} (G : GK K cX12_bears RX12 5 4) (M : Main K.ks) (hr : RI K .int r.1 r.2) : ∀ (n : Nat) (v1 : Int32) (v3 : Int32) (v4 : Int32) (w : Wd), fX12_bears_49 n v1 v3 v4 w = some r → XW K 49 [some (.ref 148), some (.int v1), none, some (.int v3), some (.int v4)] [] w := by
  intro n
  induction n with
  | zero =>
    intro v1 v3 v4 w hf
    unfold fX12_bears_49 at hf
    cases hf
  | succ n ih =>
    intro v1 v3 v4 w hf
    unfold fX12_bears_49 at hf
    refine x_iload G dX12_bears_49 rfl ?_
    refine x_sipush G (v := 9999) dX12_bears_51 (by decide) ?_
    refine x_icmpgt G (tgt := 77) dX12_bears_54 (by decide) hf (fun c_1 hf => ?_) (fun c_1 hf => ?_)
    · refine x_bipush G (v := -3) dX12_bears_77 (by decide) ?_
      exact x_iretW G hf hr dX12_bears_79
    · refine x_aload_n G dX12_bears_57 rfl rfl ?_
      refine x_iload_n G dX12_bears_58 rfl rfl ?_
      refine x_iload_n G dX12_bears_59 rfl rfl ?_
      refine x_iload G dX12_bears_60 rfl ?_
      obtain ⟨v_2, hv_2, hf⟩ := bnd hf
      refine x_virI G (As := [.int v1, .int v3, .int v4]) (mX12_isBearing G.2.2.2.2.2.2.1 M hv_2) mv_X12_207 (kd148 M) cl12 rfl rfl rfl rfl rfl dX12_bears_62 ?_
      refine x_ifeqB G (tgt := 71) dX12_bears_65 (by decide) hf (fun c_3 hf => ?_) (fun c_3 hf => ?_)
      · refine x_iload G dX12_bears_68 rfl ?_
        exact x_iretW G hf hr dX12_bears_70
      · refine x_iinc G (lv' := [some (.ref 148), some (.int v1), none, some (.int v3), some (.int (v4 + (1 : Int32)))]) (v := 1) dX12_bears_71 rfl (by decide) rfl rfl rfl ?_
        refine x_goto G (tgt := 49) dX12_bears_74 (by decide) ?_
        exact XW.sub (lv' := [some (.ref 148), some (.int v1), none, some (.int v3), some (.int (v4 + (1 : Int32)))]) (And.intro rfl (And.intro rfl (And.intro rfl (And.intro rfl trivial)))) (ih _ _ _ _ hf)

set_option maxHeartbeats 4000000 in
set_option maxRecDepth 100000 in
theorem xX12_bears_e {K : KT} {v1 : Int32} {v2 : Int32} {w : Wd} {r : Int32 × Wd} (G : GK K cX12_bears RX12 5 4) (M : Main K.ks) (hf : fX12_bears v1 v2 w = some r) (hr : RI K .int r.1 r.2) : XW K 0 [some (.ref 148), some (.int v1), some (.int v2), none, none] [] w := by
  unfold fX12_bears at hf
  refine x_aload_n G dX12_bears_0 rfl rfl ?_
  refine x_iconst G (v := 0) dX12_bears_1 (by decide) ?_
  refine x_putI G (kd148 M) 0 rfl cl12 rfl wf_X12_1 rfl rfl rfl dX12_bears_2 ?_
  refine nwr hf (fun w_1 hf => ?_)
  refine x_aload_n G dX12_bears_5 rfl rfl ?_
  refine x_iload_n G dX12_bears_6 rfl rfl ?_
  refine x_iload_n G dX12_bears_7 rfl rfl ?_
  obtain ⟨v_2, hv_2, hf⟩ := bnd hf
  refine x_virI G (As := [.int v1, .int v2]) (mX12_isSpot G.2.2.2.2.2.2.1 M hv_2) mv_X12_201 (kd148 M) cl12 rfl rfl rfl rfl rfl dX12_bears_8 ?_
  refine x_ifneB G (tgt := 16) dX12_bears_11 (by decide) hf (fun c_3 hf => ?_) (fun c_3 hf => ?_)
  · refine x_aload_n G dX12_bears_16 rfl rfl ?_
    refine x_iload_n G dX12_bears_17 rfl rfl ?_
    refine x_iload_n G dX12_bears_18 rfl rfl ?_
    obtain ⟨v_4, hv_4, hf⟩ := bnd hf
    refine x_virI G (As := [.int v1, .int v2]) (mX12_spot G.2.2.2.2.2.2.1 M hv_4) mv_X12_185 (kd148 M) cl12 rfl rfl rfl rfl rfl dX12_bears_19 ?_
    refine x_istore_n G (lv' := [some (.ref 148), some (.int v1), some (.int v2), some (.int v_4), none]) dX12_bears_22 rfl rfl rfl rfl ?_
    refine x_aload_n G dX12_bears_23 rfl rfl ?_
    refine x_getR G (kd148 M) 1 (b := 149) rfl cl12 rfl wf_X12_13 dX12_bears_24 ?_
    refine x_iload_n G dX12_bears_27 rfl rfl ?_
    refine x_iconst G (v := 3) dX12_bears_28 (by decide) ?_
    refine x_iadd G dX12_bears_29 ?_
    refine x_iald G (kd149 M) dX12_bears_30 hf (fun hb_5 hf => ?_)
    refine x_bipush G (v := -9) dX12_bears_31 (by decide) ?_
    refine x_icmpne G (tgt := 39) dX12_bears_33 (by decide) hf (fun c_6 hf => ?_) (fun c_6 hf => ?_)
    · refine x_bipush G (v := -4) dX12_bears_36 (by decide) ?_
      exact x_iretW G hf hr dX12_bears_38
    · refine x_aload_n G dX12_bears_39 rfl rfl ?_
      refine x_getR G (kd148 M) 1 (b := 149) rfl cl12 rfl wf_X12_13 dX12_bears_40 ?_
      refine x_iload_n G dX12_bears_43 rfl rfl ?_
      refine x_iconst G (v := 3) dX12_bears_44 (by decide) ?_
      refine x_iadd G dX12_bears_45 ?_
      refine x_iald0 G (kd149 M) dX12_bears_46 hb_5 ?_
      refine x_istore G (lv' := [some (.ref 148), some (.int v1), some (.int v2), some (.int v_4), some (.int (ri w_1 149 (v_4 + (3 : Int32))))]) dX12_bears_47 rfl rfl rfl ?_
      exact XW.sub (lv' := [some (.ref 148), some (.int v1), none, some (.int v_4), some (.int (ri w_1 149 (v_4 + (3 : Int32))))]) (And.intro rfl (And.intro rfl (And.intro rfl (And.intro rfl trivial)))) (xX12_bears_49 G M hr FU _ _ _ _ hf)
  · refine x_iconst G (v := -1) dX12_bears_14 (by decide) ?_
    exact x_iretW G hf hr dX12_bears_15

theorem mX12_bears {l : Launch} {S : KS} {w : Wd} (hI : Inj S) (M : Main S) {v1 : Int32} {v2 : Int32} {r : Int32 × Wd} (hf : fX12_bears v1 v2 w = some r) : CI l yX12_bears cX12_bears 5 (some .int) 4 S [.ref 148, .int v1, .int v2] w r.1 r.2 := by
  intro sz
  refine mk_entry rfl (by decide +kernel) hI 2 rfl rfl (fun K h1 h2 h3 h4 h5 h6 G => ?_)
  subst h2
  exact xX12_bears_e G M hf ⟨h3, by rw [h4, h6], h5⟩

set_option maxHeartbeats 4000000 in
set_option maxRecDepth 100000 in
theorem xX12_begin_e {K : KT} {w : Wd} {r : Int32 × Wd} (G : GK K cX12_begin RX12 1 2) (M : Main K.ks) (hf : fX12_begin w = some r) (hr : RI K .int r.1 r.2) : XW K 0 [some (.ref 148)] [] w := by
  unfold fX12_begin at hf
  refine x_aload_n G dX12_begin_0 rfl rfl ?_
  refine x_iconst G (v := 0) dX12_begin_1 (by decide) ?_
  refine x_putI G (kd148 M) 0 rfl cl12 rfl wf_X12_1 rfl rfl rfl dX12_begin_2 ?_
  refine nwr hf (fun w_1 hf => ?_)
  refine x_aload_n G dX12_begin_5 rfl rfl ?_
  obtain ⟨v_2, hv_2, hf⟩ := bnd hf
  refine x_virV G (As := []) (mX12_start G.2.2.2.2.2.2.1 M hv_2) mv_X12_76 (kd148 M) cl12 rfl rfl rfl rfl rfl dX12_begin_6 ?_
  refine x_iconst G (v := 0) dX12_begin_9 (by decide) ?_
  exact x_iretW G hf hr dX12_begin_10

theorem mX12_begin {l : Launch} {S : KS} {w : Wd} (hI : Inj S) (M : Main S) {r : Int32 × Wd} (hf : fX12_begin w = some r) : CI l yX12_begin cX12_begin 1 (some .int) 2 S [.ref 148] w r.1 r.2 := by
  intro sz
  refine mk_entry rfl (by decide +kernel) hI 0 rfl rfl (fun K h1 h2 h3 h4 h5 h6 G => ?_)
  subst h2
  exact xX12_begin_e G M hf ⟨h3, by rw [h4, h6], h5⟩

set_option maxHeartbeats 4000000 in
set_option maxRecDepth 100000 in
theorem xX12_digOf_e {K : KT} {v1 : Int32} {v2 : Int32} {w : Wd} {r : Int32} (G : GK K cX12_digOf RX12 4 2) (M : Main K.ks) (hf : fX12_digOf v1 v2 w = some r) (hr : RI K .int r w) : XW K 0 [some (.ref 148), some (.int v1), some (.int v2), none] [] w := by
  unfold fX12_digOf at hf
  refine x_aload_n G dX12_digOf_0 rfl rfl ?_
  refine x_iload_n G dX12_digOf_1 rfl rfl ?_
  refine x_iconst G (v := 0) dX12_digOf_2 (by decide) ?_
  obtain ⟨v_1, hv_1, hf⟩ := bnd hf
  refine x_virI G (As := [.int v1, .int (0 : Int32)]) (mX12_c G.2.2.2.2.2.2.1 M hv_1) mv_X12_117 (kd148 M) cl12 rfl rfl rfl rfl rfl dX12_digOf_3 ?_
  refine x_iload_n G dX12_digOf_6 rfl rfl ?_
  refine x_isub G dX12_digOf_7 ?_
  refine x_istore_n G (lv' := [some (.ref 148), some (.int v1), some (.int v2), some (.int (v_1 - v2))]) dX12_digOf_8 rfl rfl rfl rfl ?_
  refine x_iload_n G dX12_digOf_9 rfl rfl ?_
  refine x_ifle G (tgt := 26) dX12_digOf_10 (by decide) hf (fun c_2 hf => ?_) (fun c_2 hf => ?_)
  · refine x_iload_n G dX12_digOf_13 rfl rfl ?_
    refine x_iconst G (v := 2) dX12_digOf_14 (by decide) ?_
    refine x_aload_n G dX12_digOf_15 rfl rfl ?_
    refine x_iload_n G dX12_digOf_16 rfl rfl ?_
    refine x_iconst G (v := 1) dX12_digOf_17 (by decide) ?_
    obtain ⟨v_3, hv_3, hf⟩ := bnd hf
    refine x_virI G (As := [.int v1, .int (1 : Int32)]) (mX12_c G.2.2.2.2.2.2.1 M hv_3) mv_X12_117 (kd148 M) cl12 rfl rfl rfl rfl rfl dX12_digOf_18 ?_
    refine x_iadd G dX12_digOf_21 ?_
    refine x_imul G dX12_digOf_22 ?_
    refine x_goto G (tgt := 30) dX12_digOf_23 (by decide) ?_
    exact x_iretP G hf hr dX12_digOf_30
  · refine x_bipush G (v := -9) dX12_digOf_26 (by decide) ?_
    refine x_iload_n G dX12_digOf_28 rfl rfl ?_
    refine x_imul G dX12_digOf_29 ?_
    exact x_iretP G hf hr dX12_digOf_30

theorem mX12_digOf {l : Launch} {S : KS} {w : Wd} (hI : Inj S) (M : Main S) {v1 : Int32} {v2 : Int32} {r : Int32} (hf : fX12_digOf v1 v2 w = some r) : CI l yX12_digOf cX12_digOf 4 (some .int) 2 S [.ref 148, .int v1, .int v2] w r w := by
  intro sz
  refine mk_entry rfl (by decide +kernel) hI 1 rfl rfl (fun K h1 h2 h3 h4 h5 h6 G => ?_)
  subst h2
  exact xX12_digOf_e G M hf ⟨h3, by rw [h4, h6], h5⟩

set_option maxHeartbeats 4000000 in
set_option maxRecDepth 100000 in
theorem xX12_digAt_e {K : KT} {v1 : Int32} {w : Wd} {r : Int32} (G : GK K cX12_digAt RX12 2 3) (M : Main K.ks) (hf : fX12_digAt v1 w = some r) (hr : RI K .int r w) : XW K 0 [some (.ref 148), some (.int v1)] [] w := by
  unfold fX12_digAt at hf
  refine x_aload_n G dX12_digAt_0 rfl rfl ?_
  refine x_aload_n G dX12_digAt_1 rfl rfl ?_
  refine x_getR G (kd148 M) 1 (b := 149) rfl cl12 rfl wf_X12_13 dX12_digAt_2 ?_
  refine x_iload_n G dX12_digAt_5 rfl rfl ?_
  refine x_iconst G (v := 0) dX12_digAt_6 (by decide) ?_
  refine x_iadd G dX12_digAt_7 ?_
  refine x_iald G (kd149 M) dX12_digAt_8 hf (fun hb_1 hf => ?_)
  refine x_aload_n G dX12_digAt_9 rfl rfl ?_
  refine x_getR G (kd148 M) 1 (b := 149) rfl cl12 rfl wf_X12_13 dX12_digAt_10 ?_
  refine x_iload_n G dX12_digAt_13 rfl rfl ?_
  refine x_iconst G (v := 1) dX12_digAt_14 (by decide) ?_
  refine x_iadd G dX12_digAt_15 ?_
  refine x_iald G (kd149 M) dX12_digAt_16 hf (fun hb_2 hf => ?_)
  obtain ⟨v_3, hv_3, hf⟩ := bnd hf
  refine x_virI G (As := [.int (ri w 149 (v1 + (0 : Int32))), .int (ri w 149 (v1 + (1 : Int32)))]) (mX12_digOf G.2.2.2.2.2.2.1 M hv_3) mv_X12_176 (kd148 M) cl12 rfl rfl rfl rfl rfl dX12_digAt_17 ?_
  exact x_iretP G hf hr dX12_digAt_20

theorem mX12_digAt {l : Launch} {S : KS} {w : Wd} (hI : Inj S) (M : Main S) {v1 : Int32} {r : Int32} (hf : fX12_digAt v1 w = some r) : CI l yX12_digAt cX12_digAt 2 (some .int) 3 S [.ref 148, .int v1] w r w := by
  intro sz
  refine mk_entry rfl (by decide +kernel) hI 0 rfl rfl (fun K h1 h2 h3 h4 h5 h6 G => ?_)
  subst h2
  exact xX12_digAt_e G M hf ⟨h3, by rw [h4, h6], h5⟩

set_option maxHeartbeats 4000000 in
set_option maxRecDepth 100000 in
theorem xX12_costOf_17 {K : KT} {w : Wd} {r : Int32} (G : GK K cX12_costOf RX12 5 4) (M : Main K.ks) (k4 : Int32 → Int32 → Int32 → Option Int32) (hk4 : ∀ (v1 : Int32) (v2 : Int32) (v3 : Int32), k4 v1 v2 v3 = some r → XW K 4 [some (.ref 148), some (.int v1), some (.int v2), some (.int v3), none] [] w) (hr : RI K .int r w) : ∀ (n : Nat) (v1 : Int32) (v2 : Int32) (v3 : Int32) (v4 : Int32), fX12_costOf_17 k4 w n v1 v2 v3 v4 = some r → XW K 17 [some (.ref 148), some (.int v1), some (.int v2), some (.int v3), some (.int v4)] [] w := by
  intro n
  induction n with
  | zero =>
    intro v1 v2 v3 v4 hf
    unfold fX12_costOf_17 at hf
    cases hf
  | succ n ih =>
    intro v1 v2 v3 v4 hf
    unfold fX12_costOf_17 at hf
    refine x_iload G dX12_costOf_17 rfl ?_
    refine x_aload_n G dX12_costOf_19 rfl rfl ?_
    refine x_iload_n G dX12_costOf_20 rfl rfl ?_
    refine x_iconst G (v := 0) dX12_costOf_21 (by decide) ?_
    obtain ⟨v_1, hv_1, hf⟩ := bnd hf
    refine x_virI G (As := [.int v3, .int (0 : Int32)]) (mX12_l G.2.2.2.2.2.2.1 M hv_1) mv_X12_193 (kd148 M) cl12 rfl rfl rfl rfl rfl dX12_costOf_22 ?_
    refine x_icmpge G (tgt := 67) dX12_costOf_25 (by decide) hf (fun c_2 hf => ?_) (fun c_2 hf => ?_)
    · refine x_iload_n G dX12_costOf_28 rfl rfl ?_
      refine x_iload_n G dX12_costOf_29 rfl rfl ?_
      refine x_ishr G dX12_costOf_30 ?_
      refine x_iconst G (v := 1) dX12_costOf_31 (by decide) ?_
      refine x_iand G dX12_costOf_32 ?_
      refine x_iconst G (v := 1) dX12_costOf_33 (by decide) ?_
      refine x_icmpne G (tgt := 67) dX12_costOf_34 (by decide) hf (fun c_3 hf => ?_) (fun c_3 hf => ?_)
      · refine x_iload_n G dX12_costOf_37 rfl rfl ?_
        refine x_aload_n G dX12_costOf_38 rfl rfl ?_
        refine x_aload_n G dX12_costOf_39 rfl rfl ?_
        refine x_iload_n G dX12_costOf_40 rfl rfl ?_
        refine x_iload G dX12_costOf_41 rfl ?_
        obtain ⟨v_4, hv_4, hf⟩ := bnd hf
        refine x_virI G (As := [.int v3, .int v4]) (mX12_spot G.2.2.2.2.2.2.1 M hv_4) mv_X12_185 (kd148 M) cl12 rfl rfl rfl rfl rfl dX12_costOf_43 ?_
        obtain ⟨v_5, hv_5, hf⟩ := bnd hf
        refine x_virI G (As := [.int v_4]) (mX12_digAt G.2.2.2.2.2.2.1 M hv_5) mv_X12_196 (kd148 M) cl12 rfl rfl rfl rfl rfl dX12_costOf_46 ?_
        refine x_bipush G (v := 10) dX12_costOf_49 (by decide) ?_
        refine x_aload_n G dX12_costOf_51 rfl rfl ?_
        refine x_iload_n G dX12_costOf_52 rfl rfl ?_
        refine x_iconst G (v := 1) dX12_costOf_53 (by decide) ?_
        obtain ⟨v_6, hv_6, hf⟩ := bnd hf
        refine x_virI G (As := [.int v3, .int (1 : Int32)]) (mX12_l G.2.2.2.2.2.2.1 M hv_6) mv_X12_193 (kd148 M) cl12 rfl rfl rfl rfl rfl dX12_costOf_54 ?_
        refine x_imul G dX12_costOf_57 ?_
        refine x_iadd G dX12_costOf_58 ?_
        refine x_iadd G dX12_costOf_59 ?_
        refine x_istore_n G (lv' := [some (.ref 148), some (.int v1), some (.int (v2 + (v_5 + ((10 : Int32) * v_6)))), some (.int v3), some (.int v4)]) dX12_costOf_60 rfl rfl rfl rfl ?_
        refine x_iinc G (lv' := [some (.ref 148), some (.int v1), some (.int (v2 + (v_5 + ((10 : Int32) * v_6)))), some (.int v3), some (.int (v4 + (1 : Int32)))]) (v := 1) dX12_costOf_61 rfl (by decide) rfl rfl rfl ?_
        refine x_goto G (tgt := 17) dX12_costOf_64 (by decide) ?_
        exact XW.sub (lv' := [some (.ref 148), some (.int v1), some (.int (v2 + (v_5 + ((10 : Int32) * v_6)))), some (.int v3), some (.int (v4 + (1 : Int32)))]) (And.intro rfl (And.intro rfl (And.intro rfl (And.intro rfl (And.intro rfl trivial))))) (ih _ _ _ _ hf)
      · refine x_iinc G (lv' := [some (.ref 148), some (.int v1), some (.int v2), some (.int (v3 + (1 : Int32))), some (.int v4)]) (v := 1) dX12_costOf_67 rfl (by decide) rfl rfl rfl ?_
        refine x_goto G (tgt := 4) dX12_costOf_70 (by decide) ?_
        exact XW.sub (lv' := [some (.ref 148), some (.int v1), some (.int v2), some (.int (v3 + (1 : Int32))), none]) (And.intro rfl (And.intro rfl (And.intro rfl (And.intro rfl trivial)))) (hk4 _ _ _ hf)
    · refine x_iinc G (lv' := [some (.ref 148), some (.int v1), some (.int v2), some (.int (v3 + (1 : Int32))), some (.int v4)]) (v := 1) dX12_costOf_67 rfl (by decide) rfl rfl rfl ?_
      refine x_goto G (tgt := 4) dX12_costOf_70 (by decide) ?_
      exact XW.sub (lv' := [some (.ref 148), some (.int v1), some (.int v2), some (.int (v3 + (1 : Int32))), none]) (And.intro rfl (And.intro rfl (And.intro rfl (And.intro rfl trivial)))) (hk4 _ _ _ hf)

set_option maxHeartbeats 4000000 in
set_option maxRecDepth 100000 in
theorem xX12_costOf_4 {K : KT} {w : Wd} {r : Int32} (G : GK K cX12_costOf RX12 5 4) (M : Main K.ks) (hr : RI K .int r w) : ∀ (n : Nat) (v1 : Int32) (v2 : Int32) (v3 : Int32), fX12_costOf_4 w n v1 v2 v3 = some r → XW K 4 [some (.ref 148), some (.int v1), some (.int v2), some (.int v3), none] [] w := by
  intro n
  induction n with
  | zero =>
    intro v1 v2 v3 hf
    unfold fX12_costOf_4 at hf
    cases hf
  | succ n ih =>
    intro v1 v2 v3 hf
    unfold fX12_costOf_4 at hf
    refine x_iload_n G dX12_costOf_4 rfl rfl ?_
    refine x_aload_n G dX12_costOf_5 rfl rfl ?_
    refine x_bipush G (v := 15) dX12_costOf_6 (by decide) ?_
    obtain ⟨v_1, hv_1, hf⟩ := bnd hf
    refine x_virI G (As := [.int (15 : Int32)]) (mX12_g G.2.2.2.2.2.2.1 M hv_1) mv_X12_101 (kd148 M) cl12 rfl rfl rfl rfl rfl dX12_costOf_8 ?_
    refine x_icmpge G (tgt := 73) dX12_costOf_11 (by decide) hf (fun c_2 hf => ?_) (fun c_2 hf => ?_)
    · refine x_iconst G (v := 0) dX12_costOf_14 (by decide) ?_
      refine x_istore G (lv' := [some (.ref 148), some (.int v1), some (.int v2), some (.int v3), some (.int (0 : Int32))]) dX12_costOf_15 rfl rfl rfl ?_
      exact XW.sub (lv' := [some (.ref 148), some (.int v1), some (.int v2), some (.int v3), some (.int (0 : Int32))]) (And.intro rfl (And.intro rfl (And.intro rfl (And.intro rfl (And.intro rfl trivial))))) (xX12_costOf_17 G M (fX12_costOf_4 w n) ih hr FU _ _ _ _ hf)
    · refine x_iload_n G dX12_costOf_73 rfl rfl ?_
      exact x_iretP G hf hr dX12_costOf_74

set_option maxHeartbeats 4000000 in
set_option maxRecDepth 100000 in
theorem xX12_costOf_e {K : KT} {v1 : Int32} {w : Wd} {r : Int32} (G : GK K cX12_costOf RX12 5 4) (M : Main K.ks) (hf : fX12_costOf v1 w = some r) (hr : RI K .int r w) : XW K 0 [some (.ref 148), some (.int v1), none, none, none] [] w := by
  unfold fX12_costOf at hf
  refine x_iconst G (v := 0) dX12_costOf_0 (by decide) ?_
  refine x_istore_n G (lv' := [some (.ref 148), some (.int v1), some (.int (0 : Int32)), none, none]) dX12_costOf_1 rfl rfl rfl rfl ?_
  refine x_iconst G (v := 0) dX12_costOf_2 (by decide) ?_
  refine x_istore_n G (lv' := [some (.ref 148), some (.int v1), some (.int (0 : Int32)), some (.int (0 : Int32)), none]) dX12_costOf_3 rfl rfl rfl rfl ?_
  exact XW.sub (lv' := [some (.ref 148), some (.int v1), some (.int (0 : Int32)), some (.int (0 : Int32)), none]) (And.intro rfl (And.intro rfl (And.intro rfl (And.intro rfl trivial)))) (xX12_costOf_4 G M hr FU _ _ _ hf)

theorem mX12_costOf {l : Launch} {S : KS} {w : Wd} (hI : Inj S) (M : Main S) {v1 : Int32} {r : Int32} (hf : fX12_costOf v1 w = some r) : CI l yX12_costOf cX12_costOf 5 (some .int) 4 S [.ref 148, .int v1] w r w := by
  intro sz
  refine mk_entry rfl (by decide +kernel) hI 3 rfl rfl (fun K h1 h2 h3 h4 h5 h6 G => ?_)
  subst h2
  exact xX12_costOf_e G M hf ⟨h3, by rw [h4, h6], h5⟩

set_option maxHeartbeats 4000000 in
set_option maxRecDepth 100000 in
theorem xX12_h_e {K : KT} {v1 : Int32} {v2 : Int32} {w : Wd} {r : Int32} (G : GK K cX12_h RX12 3 1) (M : Main K.ks) (hf : fX12_h v1 v2 w = some r) (hr : RI K .int r w) : XW K 0 [some (.ref 148), some (.int v1), some (.int v2)] [] w := by
  unfold fX12_h at hf
  refine x_aload_n G dX12_h_0 rfl rfl ?_
  refine x_getR G (kd148 M) 1 (b := 149) rfl cl12 rfl wf_X12_13 dX12_h_1 ?_
  refine x_sipush G (v := 1500) dX12_h_4 (by decide) ?_
  refine x_bipush G (v := 10) dX12_h_7 (by decide) ?_
  refine x_iload_n G dX12_h_9 rfl rfl ?_
  refine x_imul G dX12_h_10 ?_
  refine x_iadd G dX12_h_11 ?_
  refine x_iload_n G dX12_h_12 rfl rfl ?_
  refine x_iadd G dX12_h_13 ?_
  refine x_iald G (kd149 M) dX12_h_14 hf (fun hb_1 hf => ?_)
  exact x_iretP G hf hr dX12_h_15

theorem mX12_h {l : Launch} {S : KS} {w : Wd} (hI : Inj S) (M : Main S) {v1 : Int32} {v2 : Int32} {r : Int32} (hf : fX12_h v1 v2 w = some r) : CI l yX12_h cX12_h 3 (some .int) 1 S [.ref 148, .int v1, .int v2] w r w := by
  intro sz
  refine mk_entry rfl (by decide +kernel) hI 0 rfl rfl (fun K h1 h2 h3 h4 h5 h6 G => ?_)
  subst h2
  exact xX12_h_e G M hf ⟨h3, by rw [h4, h6], h5⟩

set_option maxHeartbeats 4000000 in
set_option maxRecDepth 100000 in
theorem xX12_nextBy_48 {K : KT} {v1 : Int32} {v2 : Int32} {v3 : Int32} {s0 : Int32} {w : Wd} {r : Int32} (G : GK K cX12_nextBy RX12 5 3) (M : Main K.ks) (k19 : Int32 → Int32 → Int32 → Option Int32) (hk19 : ∀ (v1 : Int32) (v2 : Int32) (v3 : Int32), k19 v1 v2 v3 = some r → XW K 19 [some (.ref 148), some (.int v1), some (.int v2), some (.int v3), none] [] w) (hf : fX12_nextBy_48 k19 v1 v2 v3 s0 w = some r) (hr : RI K .int r w) : XW K 48 [some (.ref 148), some (.int v1), some (.int v2), some (.int v3), none] [.int s0] w := by
  unfold fX12_nextBy_48 at hf
  refine x_istore G (lv' := [some (.ref 148), some (.int v1), some (.int v2), some (.int v3), some (.int s0)]) dX12_nextBy_48 rfl rfl rfl ?_
  refine x_iload G dX12_nextBy_50 rfl ?_
  refine x_iconst G (v := -1) dX12_nextBy_52 (by decide) ?_
  refine x_icmpeq G (tgt := 96) dX12_nextBy_53 (by decide) hf (fun c_1 hf => ?_) (fun c_1 hf => ?_)
  · refine x_iinc G (lv' := [some (.ref 148), some (.int v1), some (.int v2), some (.int (v3 + (1 : Int32))), some (.int s0)]) (v := 1) dX12_nextBy_96 rfl (by decide) rfl rfl rfl ?_
    refine x_goto G (tgt := 19) dX12_nextBy_99 (by decide) ?_
    exact XW.sub (lv' := [some (.ref 148), some (.int v1), some (.int v2), some (.int (v3 + (1 : Int32))), none]) (And.intro rfl (And.intro rfl (And.intro rfl (And.intro rfl trivial)))) (hk19 _ _ _ hf)
  · refine x_iload G dX12_nextBy_56 rfl ?_
    refine x_aload_n G dX12_nextBy_58 rfl rfl ?_
    refine x_iload_n G dX12_nextBy_59 rfl rfl ?_
    refine x_iconst G (v := 0) dX12_nextBy_60 (by decide) ?_
    obtain ⟨v_2, hv_2, hf⟩ := bnd hf
    refine x_virI G (As := [.int v3, .int (0 : Int32)]) (mX12_l G.2.2.2.2.2.2.1 M hv_2) mv_X12_193 (kd148 M) cl12 rfl rfl rfl rfl rfl dX12_nextBy_61 ?_
    refine x_iconst G (v := 1) dX12_nextBy_64 (by decide) ?_
    refine x_isub G dX12_nextBy_65 ?_
    refine x_icmpge G (tgt := 88) dX12_nextBy_66 (by decide) hf (fun c_3 hf => ?_) (fun c_3 hf => ?_)
    · refine x_aload_n G dX12_nextBy_69 rfl rfl ?_
      refine x_getR G (kd148 M) 1 (b := 149) rfl cl12 rfl wf_X12_13 dX12_nextBy_70 ?_
      refine x_aload_n G dX12_nextBy_73 rfl rfl ?_
      refine x_iload_n G dX12_nextBy_74 rfl rfl ?_
      refine x_iload G dX12_nextBy_75 rfl ?_
      refine x_iconst G (v := 1) dX12_nextBy_77 (by decide) ?_
      refine x_iadd G dX12_nextBy_78 ?_
      obtain ⟨v_4, hv_4, hf⟩ := bnd hf
      refine x_virI G (As := [.int v3, .int (s0 + (1 : Int32))]) (mX12_spot G.2.2.2.2.2.2.1 M hv_4) mv_X12_185 (kd148 M) cl12 rfl rfl rfl rfl rfl dX12_nextBy_79 ?_
      refine x_iconst G (v := 0) dX12_nextBy_82 (by decide) ?_
      refine x_iadd G dX12_nextBy_83 ?_
      refine x_iald G (kd149 M) dX12_nextBy_84 hf (fun hb_5 hf => ?_)
      refine x_goto G (tgt := 95) dX12_nextBy_85 (by decide) ?_
      exact x_iretP G hf hr dX12_nextBy_95
    · refine x_aload_n G dX12_nextBy_88 rfl rfl ?_
      refine x_iload_n G dX12_nextBy_89 rfl rfl ?_
      refine x_bipush G (v := 6) dX12_nextBy_90 (by decide) ?_
      obtain ⟨v_6, hv_6, hf⟩ := bnd hf
      refine x_virI G (As := [.int v2, .int (6 : Int32)]) (mX12_c G.2.2.2.2.2.2.1 M hv_6) mv_X12_117 (kd148 M) cl12 rfl rfl rfl rfl rfl dX12_nextBy_92 ?_
      exact x_iretP G hf hr dX12_nextBy_95

set_option maxHeartbeats 4000000 in
set_option maxRecDepth 100000 in
theorem xX12_nextBy_19 {K : KT} {w : Wd} {r : Int32} (G : GK K cX12_nextBy RX12 5 3) (M : Main K.ks) (hr : RI K .int r w) : ∀ (n : Nat) (v1 : Int32) (v2 : Int32) (v3 : Int32), fX12_nextBy_19 w n v1 v2 v3 = some r → XW K 19 [some (.ref 148), some (.int v1), some (.int v2), some (.int v3), none] [] w := by
  intro n
  induction n with
  | zero =>
    intro v1 v2 v3 hf
    unfold fX12_nextBy_19 at hf
    cases hf
  | succ n ih =>
    intro v1 v2 v3 hf
    unfold fX12_nextBy_19 at hf
    refine x_iload_n G dX12_nextBy_19 rfl rfl ?_
    refine x_aload_n G dX12_nextBy_20 rfl rfl ?_
    refine x_bipush G (v := 15) dX12_nextBy_21 (by decide) ?_
    obtain ⟨v_1, hv_1, hf⟩ := bnd hf
    refine x_virI G (As := [.int (15 : Int32)]) (mX12_g G.2.2.2.2.2.2.1 M hv_1) mv_X12_101 (kd148 M) cl12 rfl rfl rfl rfl rfl dX12_nextBy_23 ?_
    refine x_icmpge G (tgt := 102) dX12_nextBy_26 (by decide) hf (fun c_2 hf => ?_) (fun c_2 hf => ?_)
    · refine x_iload_n G dX12_nextBy_29 rfl rfl ?_
      refine x_iload_n G dX12_nextBy_30 rfl rfl ?_
      refine x_ishr G dX12_nextBy_31 ?_
      refine x_iconst G (v := 1) dX12_nextBy_32 (by decide) ?_
      refine x_iand G dX12_nextBy_33 ?_
      refine x_iconst G (v := 1) dX12_nextBy_34 (by decide) ?_
      refine x_icmpne G (tgt := 47) dX12_nextBy_35 (by decide) hf (fun c_3 hf => ?_) (fun c_3 hf => ?_)
      · refine x_aload_n G dX12_nextBy_38 rfl rfl ?_
        refine x_iload_n G dX12_nextBy_39 rfl rfl ?_
        refine x_iload_n G dX12_nextBy_40 rfl rfl ?_
        obtain ⟨v_4, hv_4, hf⟩ := bnd hf
        refine x_virI G (As := [.int v3, .int v2]) (mX12_placeOn G.2.2.2.2.2.2.1 M hv_4) mv_X12_230 (kd148 M) cl12 rfl rfl rfl rfl rfl dX12_nextBy_41 ?_
        refine x_goto G (tgt := 48) dX12_nextBy_44 (by decide) ?_
        exact (xX12_nextBy_48 G M (fX12_nextBy_19 w n) ih hf hr)
      · refine x_iconst G (v := -1) dX12_nextBy_47 (by decide) ?_
        exact (xX12_nextBy_48 G M (fX12_nextBy_19 w n) ih hf hr)
    · refine x_aload_n G dX12_nextBy_102 rfl rfl ?_
      refine x_iload_n G dX12_nextBy_103 rfl rfl ?_
      refine x_bipush G (v := 6) dX12_nextBy_104 (by decide) ?_
      obtain ⟨v_5, hv_5, hf⟩ := bnd hf
      refine x_virI G (As := [.int v2, .int (6 : Int32)]) (mX12_c G.2.2.2.2.2.2.1 M hv_5) mv_X12_117 (kd148 M) cl12 rfl rfl rfl rfl rfl dX12_nextBy_106 ?_
      exact x_iretP G hf hr dX12_nextBy_109

set_option maxHeartbeats 4000000 in
set_option maxRecDepth 100000 in
theorem xX12_nextBy_e {K : KT} {v1 : Int32} {v2 : Int32} {w : Wd} {r : Int32} (G : GK K cX12_nextBy RX12 5 3) (M : Main K.ks) (hf : fX12_nextBy v1 v2 w = some r) (hr : RI K .int r w) : XW K 0 [some (.ref 148), some (.int v1), some (.int v2), none, none] [] w := by
  unfold fX12_nextBy at hf
  refine x_aload_n G dX12_nextBy_0 rfl rfl ?_
  refine x_iload_n G dX12_nextBy_1 rfl rfl ?_
  refine x_iconst G (v := 0) dX12_nextBy_2 (by decide) ?_
  obtain ⟨v_1, hv_1, hf⟩ := bnd hf
  refine x_virI G (As := [.int v2, .int (0 : Int32)]) (mX12_h G.2.2.2.2.2.2.1 M hv_1) mv_X12_226 (kd148 M) cl12 rfl rfl rfl rfl rfl dX12_nextBy_3 ?_
  refine x_iconst G (v := 1) dX12_nextBy_6 (by decide) ?_
  refine x_icmpne G (tgt := 17) dX12_nextBy_7 (by decide) hf (fun c_2 hf => ?_) (fun c_2 hf => ?_)
  · refine x_aload_n G dX12_nextBy_10 rfl rfl ?_
    refine x_iload_n G dX12_nextBy_11 rfl rfl ?_
    refine x_iconst G (v := 1) dX12_nextBy_12 (by decide) ?_
    obtain ⟨v_3, hv_3, hf⟩ := bnd hf
    refine x_virI G (As := [.int v2, .int (1 : Int32)]) (mX12_h G.2.2.2.2.2.2.1 M hv_3) mv_X12_226 (kd148 M) cl12 rfl rfl rfl rfl rfl dX12_nextBy_13 ?_
    exact x_iretP G hf hr dX12_nextBy_16
  · refine x_iconst G (v := 0) dX12_nextBy_17 (by decide) ?_
    refine x_istore_n G (lv' := [some (.ref 148), some (.int v1), some (.int v2), some (.int (0 : Int32)), none]) dX12_nextBy_18 rfl rfl rfl rfl ?_
    exact XW.sub (lv' := [some (.ref 148), some (.int v1), some (.int v2), some (.int (0 : Int32)), none]) (And.intro rfl (And.intro rfl (And.intro rfl (And.intro rfl trivial)))) (xX12_nextBy_19 G M hr FU _ _ _ hf)

theorem mX12_nextBy {l : Launch} {S : KS} {w : Wd} (hI : Inj S) (M : Main S) {v1 : Int32} {v2 : Int32} {r : Int32} (hf : fX12_nextBy v1 v2 w = some r) : CI l yX12_nextBy cX12_nextBy 5 (some .int) 3 S [.ref 148, .int v1, .int v2] w r w := by
  intro sz
  refine mk_entry rfl (by decide +kernel) hI 2 rfl rfl (fun K h1 h2 h3 h4 h5 h6 G => ?_)
  subst h2
  exact xX12_nextBy_e G M hf ⟨h3, by rw [h4, h6], h5⟩

set_option maxHeartbeats 4000000 in
set_option maxRecDepth 100000 in
theorem xX12_fouledBy_141 {K : KT} {v3 : Int32} {s0 : Int32} {w : Wd} {r : Int32 × Wd} (G : GK K cX12_fouledBy RX12 6 4) (M : Main K.ks) (k30 : Int32 → Int32 → Wd → Option (Int32 × Wd)) (hk30 : ∀ (v2 : Int32) (v3 : Int32) (w : Wd), k30 v2 v3 w = some r → XW K 30 [some (.ref 148), none, some (.int v2), some (.int v3), none, none] [] w) (hf : fX12_fouledBy_141 k30 v3 s0 w = some r) (hr : RI K .int r.1 r.2) : XW K 141 [some (.ref 148), none, none, some (.int v3), none, none] [.int s0] w := by
  unfold fX12_fouledBy_141 at hf
  refine x_iconst G (v := 0) dX12_fouledBy_141 (by decide) ?_
  refine x_iadd G dX12_fouledBy_142 ?_
  refine x_istore_n G (lv' := [some (.ref 148), none, some (.int (s0 + (0 : Int32))), some (.int v3), none, none]) dX12_fouledBy_143 rfl rfl rfl rfl ?_
  refine x_iinc G (lv' := [some (.ref 148), none, some (.int (s0 + (0 : Int32))), some (.int (v3 + (1 : Int32))), none, none]) (v := 1) dX12_fouledBy_144 rfl (by decide) rfl rfl rfl ?_
  refine x_goto G (tgt := 30) dX12_fouledBy_147 (by decide) ?_
  exact XW.sub (lv' := [some (.ref 148), none, some (.int (s0 + (0 : Int32))), some (.int (v3 + (1 : Int32))), none, none]) (And.intro rfl (And.intro rfl (And.intro rfl trivial))) (hk30 _ _ _ hf)

set_option maxHeartbeats 4000000 in
set_option maxRecDepth 100000 in
theorem xX12_fouledBy_114 {K : KT} {v2 : Int32} {v3 : Int32} {v4 : Int32} {w : Wd} {r : Int32 × Wd} (G : GK K cX12_fouledBy RX12 6 4) (M : Main K.ks) (k30 : Int32 → Int32 → Wd → Option (Int32 × Wd)) (hk30 : ∀ (v2 : Int32) (v3 : Int32) (w : Wd), k30 v2 v3 w = some r → XW K 30 [some (.ref 148), none, some (.int v2), some (.int v3), none, none] [] w) (hf : fX12_fouledBy_114 k30 v2 v3 v4 w = some r) (hr : RI K .int r.1 r.2) : XW K 114 [some (.ref 148), none, some (.int v2), some (.int v3), some (.int v4), none] [] w := by
  unfold fX12_fouledBy_114 at hf
  refine x_iload_n G dX12_fouledBy_114 rfl rfl ?_
  refine x_iload G dX12_fouledBy_115 rfl ?_
  refine x_iconst G (v := -1) dX12_fouledBy_117 (by decide) ?_
  refine x_icmpeq G (tgt := 141) dX12_fouledBy_118 (by decide) hf (fun c_1 hf => ?_) (fun c_1 hf => ?_)
  · exact XW.sub (lv' := [some (.ref 148), none, none, some (.int v3), none, none]) (And.intro rfl (And.intro rfl trivial)) (xX12_fouledBy_141 G M k30 hk30 hf hr)
  · refine x_aload_n G dX12_fouledBy_121 rfl rfl ?_
    refine x_iload G dX12_fouledBy_122 rfl ?_
    refine x_iconst G (v := 4) dX12_fouledBy_124 (by decide) ?_
    obtain ⟨v_2, hv_2, hf⟩ := bnd hf
    refine x_virI G (As := [.int v4, .int (4 : Int32)]) (mX12_c G.2.2.2.2.2.2.1 M hv_2) mv_X12_117 (kd148 M) cl12 rfl rfl rfl rfl rfl dX12_fouledBy_125 ?_
    refine x_iconst G (v := 1) dX12_fouledBy_128 (by decide) ?_
    refine x_icmpne G (tgt := 141) dX12_fouledBy_129 (by decide) hf (fun c_3 hf => ?_) (fun c_3 hf => ?_)
    · refine x_aload_n G dX12_fouledBy_132 rfl rfl ?_
      refine x_iload_n G dX12_fouledBy_133 rfl rfl ?_
      refine x_iconst G (v := 2) dX12_fouledBy_134 (by decide) ?_
      obtain ⟨v_4, hv_4, hf⟩ := bnd hf
      refine x_virI G (As := [.int v3, .int (2 : Int32)]) (mX12_c G.2.2.2.2.2.2.1 M hv_4) mv_X12_117 (kd148 M) cl12 rfl rfl rfl rfl rfl dX12_fouledBy_135 ?_
      refine x_goto G (tgt := 142) dX12_fouledBy_138 (by decide) ?_
      refine x_iadd G dX12_fouledBy_142 ?_
      refine x_istore_n G (lv' := [some (.ref 148), none, some (.int (v2 + v_4)), some (.int v3), some (.int v4), none]) dX12_fouledBy_143 rfl rfl rfl rfl ?_
      refine x_iinc G (lv' := [some (.ref 148), none, some (.int (v2 + v_4)), some (.int (v3 + (1 : Int32))), some (.int v4), none]) (v := 1) dX12_fouledBy_144 rfl (by decide) rfl rfl rfl ?_
      refine x_goto G (tgt := 30) dX12_fouledBy_147 (by decide) ?_
      exact XW.sub (lv' := [some (.ref 148), none, some (.int (v2 + v_4)), some (.int (v3 + (1 : Int32))), none, none]) (And.intro rfl (And.intro rfl (And.intro rfl trivial))) (hk30 _ _ _ hf)
    · exact XW.sub (lv' := [some (.ref 148), none, none, some (.int v3), none, none]) (And.intro rfl (And.intro rfl trivial)) (xX12_fouledBy_141 G M k30 hk30 hf hr)

set_option maxHeartbeats 4000000 in
set_option maxRecDepth 100000 in
theorem xX12_fouledBy_64 {K : KT} {r : Int32 × Wd} (G : GK K cX12_fouledBy RX12 6 4) (M : Main K.ks) (k30 : Int32 → Int32 → Wd → Option (Int32 × Wd)) (hk30 : ∀ (v2 : Int32) (v3 : Int32) (w : Wd), k30 v2 v3 w = some r → XW K 30 [some (.ref 148), none, some (.int v2), some (.int v3), none, none] [] w) (hr : RI K .int r.1 r.2) : ∀ (n : Nat) (v2 : Int32) (v3 : Int32) (v4 : Int32) (v5 : Int32) (w : Wd), fX12_fouledBy_64 k30 n v2 v3 v4 v5 w = some r → XW K 64 [some (.ref 148), none, some (.int v2), some (.int v3), some (.int v4), some (.int v5)] [] w := by
  intro n
  induction n with
  | zero =>
    intro v2 v3 v4 v5 w hf
    unfold fX12_fouledBy_64 at hf
    cases hf
  | succ n ih =>
    intro v2 v3 v4 v5 w hf
    unfold fX12_fouledBy_64 at hf
    refine x_iload G dX12_fouledBy_64 rfl ?_
    refine x_sipush G (v := 200) dX12_fouledBy_66 (by decide) ?_
    refine x_icmpge G (tgt := 114) dX12_fouledBy_69 (by decide) hf (fun c_1 hf => ?_) (fun c_1 hf => ?_)
    · refine x_iload G dX12_fouledBy_72 rfl ?_
      refine x_iconst G (v := -1) dX12_fouledBy_74 (by decide) ?_
      refine x_icmpeq G (tgt := 114) dX12_fouledBy_75 (by decide) hf (fun c_2 hf => ?_) (fun c_2 hf => ?_)
      · exact XW.sub (lv' := [some (.ref 148), none, some (.int v2), some (.int v3), some (.int v4), none]) (And.intro rfl (And.intro rfl (And.intro rfl (And.intro rfl trivial)))) (xX12_fouledBy_114 G M k30 hk30 hf hr)
      · refine x_aload_n G dX12_fouledBy_78 rfl rfl ?_
        refine x_iload G dX12_fouledBy_79 rfl ?_
        refine x_iconst G (v := 4) dX12_fouledBy_81 (by decide) ?_
        obtain ⟨v_3, hv_3, hf⟩ := bnd hf
        refine x_virI G (As := [.int v4, .int (4 : Int32)]) (mX12_c G.2.2.2.2.2.2.1 M hv_3) mv_X12_117 (kd148 M) cl12 rfl rfl rfl rfl rfl dX12_fouledBy_82 ?_
        refine x_ifne G (tgt := 114) dX12_fouledBy_85 (by decide) hf (fun c_4 hf => ?_) (fun c_4 hf => ?_)
        · refine x_aload_n G dX12_fouledBy_88 rfl rfl ?_
          refine x_iload G dX12_fouledBy_89 rfl ?_
          refine x_iconst G (v := 0) dX12_fouledBy_91 (by decide) ?_
          obtain ⟨v_5, hv_5, hf⟩ := bnd hf
          refine x_virI G (As := [.int v4, .int (0 : Int32)]) (mX12_h G.2.2.2.2.2.2.1 M hv_5) mv_X12_226 (kd148 M) cl12 rfl rfl rfl rfl rfl dX12_fouledBy_92 ?_
          refine x_iconst G (v := 2) dX12_fouledBy_95 (by decide) ?_
          refine x_icmpeq G (tgt := 114) dX12_fouledBy_96 (by decide) hf (fun c_6 hf => ?_) (fun c_6 hf => ?_)
          · exact XW.sub (lv' := [some (.ref 148), none, some (.int v2), some (.int v3), some (.int v4), none]) (And.intro rfl (And.intro rfl (And.intro rfl (And.intro rfl trivial)))) (xX12_fouledBy_114 G M k30 hk30 hf hr)
          · refine x_aload_n G dX12_fouledBy_99 rfl rfl ?_
            refine x_getR G (kd148 M) 28 (b := 164) rfl cl12 rfl wf_X12_60 dX12_fouledBy_100 ?_
            refine x_iload G dX12_fouledBy_103 rfl ?_
            refine x_iald G (kd164 M) dX12_fouledBy_105 hf (fun hb_7 hf => ?_)
            refine x_istore G (lv' := [some (.ref 148), none, some (.int v2), some (.int v3), some (.int (ri w 164 v4)), some (.int v5)]) dX12_fouledBy_106 rfl rfl rfl ?_
            refine x_iinc G (lv' := [some (.ref 148), none, some (.int v2), some (.int v3), some (.int (ri w 164 v4)), some (.int (v5 + (1 : Int32)))]) (v := 1) dX12_fouledBy_108 rfl (by decide) rfl rfl rfl ?_
            refine x_goto G (tgt := 64) dX12_fouledBy_111 (by decide) ?_
            exact XW.sub (lv' := [some (.ref 148), none, some (.int v2), some (.int v3), some (.int (ri w 164 v4)), some (.int (v5 + (1 : Int32)))]) (And.intro rfl (And.intro rfl (And.intro rfl (And.intro rfl (And.intro rfl trivial))))) (ih _ _ _ _ _ hf)
        · exact XW.sub (lv' := [some (.ref 148), none, some (.int v2), some (.int v3), some (.int v4), none]) (And.intro rfl (And.intro rfl (And.intro rfl (And.intro rfl trivial)))) (xX12_fouledBy_114 G M k30 hk30 hf hr)
    · exact XW.sub (lv' := [some (.ref 148), none, some (.int v2), some (.int v3), some (.int v4), none]) (And.intro rfl (And.intro rfl (And.intro rfl (And.intro rfl trivial)))) (xX12_fouledBy_114 G M k30 hk30 hf hr)

set_option maxHeartbeats 4000000 in
set_option maxRecDepth 100000 in
theorem xX12_fouledBy_30 {K : KT} {r : Int32 × Wd} (G : GK K cX12_fouledBy RX12 6 4) (M : Main K.ks) (hr : RI K .int r.1 r.2) : ∀ (n : Nat) (v2 : Int32) (v3 : Int32) (w : Wd), fX12_fouledBy_30 n v2 v3 w = some r → XW K 30 [some (.ref 148), none, some (.int v2), some (.int v3), none, none] [] w := by
  intro n
  induction n with
  | zero =>
    intro v2 v3 w hf
    unfold fX12_fouledBy_30 at hf
    cases hf
  | succ n ih =>
    intro v2 v3 w hf
    unfold fX12_fouledBy_30 at hf
    refine x_iload_n G dX12_fouledBy_30 rfl rfl ?_
    refine x_bipush G (v := 100) dX12_fouledBy_31 (by decide) ?_
    refine x_icmpge G (tgt := 150) dX12_fouledBy_33 (by decide) hf (fun c_1 hf => ?_) (fun c_1 hf => ?_)
    · refine x_aload_n G dX12_fouledBy_36 rfl rfl ?_
      refine x_iload_n G dX12_fouledBy_37 rfl rfl ?_
      refine x_iconst G (v := 4) dX12_fouledBy_38 (by decide) ?_
      obtain ⟨v_2, hv_2, hf⟩ := bnd hf
      refine x_virI G (As := [.int v3, .int (4 : Int32)]) (mX12_c G.2.2.2.2.2.2.1 M hv_2) mv_X12_117 (kd148 M) cl12 rfl rfl rfl rfl rfl dX12_fouledBy_39 ?_
      refine x_iconst G (v := 1) dX12_fouledBy_42 (by decide) ?_
      refine x_icmpeq G (tgt := 144) dX12_fouledBy_43 (by decide) hf (fun c_3 hf => ?_) (fun c_3 hf => ?_)
      · refine x_iinc G (lv' := [some (.ref 148), none, some (.int v2), some (.int (v3 + (1 : Int32))), none, none]) (v := 1) dX12_fouledBy_144 rfl (by decide) rfl rfl rfl ?_
        refine x_goto G (tgt := 30) dX12_fouledBy_147 (by decide) ?_
        exact XW.sub (lv' := [some (.ref 148), none, some (.int v2), some (.int (v3 + (1 : Int32))), none, none]) (And.intro rfl (And.intro rfl (And.intro rfl trivial))) (ih _ _ _ hf)
      · refine x_aload_n G dX12_fouledBy_46 rfl rfl ?_
        refine x_iload_n G dX12_fouledBy_47 rfl rfl ?_
        refine x_iconst G (v := 2) dX12_fouledBy_48 (by decide) ?_
        obtain ⟨v_4, hv_4, hf⟩ := bnd hf
        refine x_virI G (As := [.int v3, .int (2 : Int32)]) (mX12_c G.2.2.2.2.2.2.1 M hv_4) mv_X12_117 (kd148 M) cl12 rfl rfl rfl rfl rfl dX12_fouledBy_49 ?_
        refine x_ifne G (tgt := 58) dX12_fouledBy_52 (by decide) hf (fun c_5 hf => ?_) (fun c_5 hf => ?_)
        · refine x_goto G (tgt := 144) dX12_fouledBy_55 (by decide) ?_
          refine x_iinc G (lv' := [some (.ref 148), none, some (.int v2), some (.int (v3 + (1 : Int32))), none, none]) (v := 1) dX12_fouledBy_144 rfl (by decide) rfl rfl rfl ?_
          refine x_goto G (tgt := 30) dX12_fouledBy_147 (by decide) ?_
          exact XW.sub (lv' := [some (.ref 148), none, some (.int v2), some (.int (v3 + (1 : Int32))), none, none]) (And.intro rfl (And.intro rfl (And.intro rfl trivial))) (ih _ _ _ hf)
        · refine x_iload_n G dX12_fouledBy_58 rfl rfl ?_
          refine x_istore G (lv' := [some (.ref 148), none, some (.int v2), some (.int v3), some (.int v3), none]) dX12_fouledBy_59 rfl rfl rfl ?_
          refine x_iconst G (v := 0) dX12_fouledBy_61 (by decide) ?_
          refine x_istore G (lv' := [some (.ref 148), none, some (.int v2), some (.int v3), some (.int v3), some (.int (0 : Int32))]) dX12_fouledBy_62 rfl rfl rfl ?_
          exact XW.sub (lv' := [some (.ref 148), none, some (.int v2), some (.int v3), some (.int v3), some (.int (0 : Int32))]) (And.intro rfl (And.intro rfl (And.intro rfl (And.intro rfl (And.intro rfl trivial))))) (xX12_fouledBy_64 G M (fX12_fouledBy_30 n) ih hr FU _ _ _ _ _ hf)
    · refine x_iload_n G dX12_fouledBy_150 rfl rfl ?_
      exact x_iretW G hf hr dX12_fouledBy_151

set_option maxHeartbeats 4000000 in
set_option maxRecDepth 100000 in
theorem xX12_fouledBy_2 {K : KT} {r : Int32 × Wd} (G : GK K cX12_fouledBy RX12 6 4) (M : Main K.ks) (hr : RI K .int r.1 r.2) : ∀ (n : Nat) (v1 : Int32) (v2 : Int32) (w : Wd), fX12_fouledBy_2 n v1 v2 w = some r → XW K 2 [some (.ref 148), some (.int v1), some (.int v2), none, none, none] [] w := by
  intro n
  induction n with
  | zero =>
    intro v1 v2 w hf
    unfold fX12_fouledBy_2 at hf
    cases hf
  | succ n ih =>
    intro v1 v2 w hf
    unfold fX12_fouledBy_2 at hf
    refine x_iload_n G dX12_fouledBy_2 rfl rfl ?_
    refine x_bipush G (v := 100) dX12_fouledBy_3 (by decide) ?_
    refine x_icmpge G (tgt := 26) dX12_fouledBy_5 (by decide) hf (fun c_1 hf => ?_) (fun c_1 hf => ?_)
    · refine x_aload_n G dX12_fouledBy_8 rfl rfl ?_
      refine x_getR G (kd148 M) 28 (b := 164) rfl cl12 rfl wf_X12_60 dX12_fouledBy_9 ?_
      refine x_iload_n G dX12_fouledBy_12 rfl rfl ?_
      refine x_aload_n G dX12_fouledBy_13 rfl rfl ?_
      refine x_iload_n G dX12_fouledBy_14 rfl rfl ?_
      refine x_iload_n G dX12_fouledBy_15 rfl rfl ?_
      obtain ⟨v_2, hv_2, hf⟩ := bnd hf
      refine x_virI G (As := [.int v1, .int v2]) (mX12_nextBy G.2.2.2.2.2.2.1 M hv_2) mv_X12_347 (kd148 M) cl12 rfl rfl rfl rfl rfl dX12_fouledBy_16 ?_
      refine x_iast G (kd164 M) dX12_fouledBy_19 hf (fun hb_3 hf => ?_)
      refine nwr hf (fun w_4 hf => ?_)
      refine x_iinc G (lv' := [some (.ref 148), some (.int v1), some (.int (v2 + (1 : Int32))), none, none, none]) (v := 1) dX12_fouledBy_20 rfl (by decide) rfl rfl rfl ?_
      refine x_goto G (tgt := 2) dX12_fouledBy_23 (by decide) ?_
      exact XW.sub (lv' := [some (.ref 148), some (.int v1), some (.int (v2 + (1 : Int32))), none, none, none]) (And.intro rfl (And.intro rfl (And.intro rfl trivial))) (ih _ _ _ hf)
    · refine x_iconst G (v := 0) dX12_fouledBy_26 (by decide) ?_
      refine x_istore_n G (lv' := [some (.ref 148), some (.int v1), some (.int (0 : Int32)), none, none, none]) dX12_fouledBy_27 rfl rfl rfl rfl ?_
      refine x_iconst G (v := 0) dX12_fouledBy_28 (by decide) ?_
      refine x_istore_n G (lv' := [some (.ref 148), some (.int v1), some (.int (0 : Int32)), some (.int (0 : Int32)), none, none]) dX12_fouledBy_29 rfl rfl rfl rfl ?_
      exact XW.sub (lv' := [some (.ref 148), none, some (.int (0 : Int32)), some (.int (0 : Int32)), none, none]) (And.intro rfl (And.intro rfl (And.intro rfl trivial))) (xX12_fouledBy_30 G M hr FU _ _ _ hf)

set_option maxHeartbeats 4000000 in
set_option maxRecDepth 100000 in
theorem xX12_fouledBy_e {K : KT} {v1 : Int32} {w : Wd} {r : Int32 × Wd} (G : GK K cX12_fouledBy RX12 6 4) (M : Main K.ks) (hf : fX12_fouledBy v1 w = some r) (hr : RI K .int r.1 r.2) : XW K 0 [some (.ref 148), some (.int v1), none, none, none, none] [] w := by
  unfold fX12_fouledBy at hf
  refine x_iconst G (v := 0) dX12_fouledBy_0 (by decide) ?_
  refine x_istore_n G (lv' := [some (.ref 148), some (.int v1), some (.int (0 : Int32)), none, none, none]) dX12_fouledBy_1 rfl rfl rfl rfl ?_
  exact XW.sub (lv' := [some (.ref 148), some (.int v1), some (.int (0 : Int32)), none, none, none]) (And.intro rfl (And.intro rfl (And.intro rfl trivial))) (xX12_fouledBy_2 G M hr FU _ _ _ hf)

theorem mX12_fouledBy {l : Launch} {S : KS} {w : Wd} (hI : Inj S) (M : Main S) {v1 : Int32} {r : Int32 × Wd} (hf : fX12_fouledBy v1 w = some r) : CI l yX12_fouledBy cX12_fouledBy 6 (some .int) 4 S [.ref 148, .int v1] w r.1 r.2 := by
  intro sz
  refine mk_entry rfl (by decide +kernel) hI 4 rfl rfl (fun K h1 h2 h3 h4 h5 h6 G => ?_)
  subst h2
  exact xX12_fouledBy_e G M hf ⟨h3, by rw [h4, h6], h5⟩

set_option maxHeartbeats 4000000 in
set_option maxRecDepth 100000 in
theorem xX12_best_108 {K : KT} {v1 : Int32} {v2 : Int32} {v6 : Int32} {v7 : Int32} {v8 : Int32} {w : Wd} {r : Int32 × Wd} (G : GK K cX12_best RX12 9 5) (M : Main K.ks) (k46 : Int32 → Int32 → Int32 → Int32 → Int32 → Int32 → Wd → Option (Int32 × Wd)) (hk46 : ∀ (v1 : Int32) (v2 : Int32) (v3 : Int32) (v4 : Int32) (v5 : Int32) (v6 : Int32) (w : Wd), k46 v1 v2 v3 v4 v5 v6 w = some r → XW K 46 [some (.ref 148), some (.int v1), some (.int v2), some (.int v3), some (.int v4), some (.int v5), some (.int v6), none, none] [] w) (hf : fX12_best_108 k46 v1 v2 v6 v7 v8 w = some r) (hr : RI K .int r.1 r.2) : XW K 108 [some (.ref 148), some (.int v1), some (.int v2), none, none, none, some (.int v6), some (.int v7), some (.int v8)] [] w := by
  unfold fX12_best_108 at hf
  refine x_iload G dX12_best_108 rfl ?_
  refine x_istore_n G (lv' := [some (.ref 148), some (.int v1), some (.int v2), some (.int v6), none, none, some (.int v6), some (.int v7), some (.int v8)]) dX12_best_110 rfl rfl rfl rfl ?_
  refine x_iload G dX12_best_111 rfl ?_
  refine x_istore G (lv' := [some (.ref 148), some (.int v1), some (.int v2), some (.int v6), some (.int v8), none, some (.int v6), some (.int v7), some (.int v8)]) dX12_best_113 rfl rfl rfl ?_
  refine x_iload G dX12_best_115 rfl ?_
  refine x_istore G (lv' := [some (.ref 148), some (.int v1), some (.int v2), some (.int v6), some (.int v8), some (.int v7), some (.int v6), some (.int v7), some (.int v8)]) dX12_best_117 rfl rfl rfl ?_
  refine x_iinc G (lv' := [some (.ref 148), some (.int v1), some (.int v2), some (.int v6), some (.int v8), some (.int v7), some (.int (v6 + (1 : Int32))), some (.int v7), some (.int v8)]) (v := 1) dX12_best_119 rfl (by decide) rfl rfl rfl ?_
  refine x_goto G (tgt := 46) dX12_best_122 (by decide) ?_
  exact XW.sub (lv' := [some (.ref 148), some (.int v1), some (.int v2), some (.int v6), some (.int v8), some (.int v7), some (.int (v6 + (1 : Int32))), none, none]) (And.intro rfl (And.intro rfl (And.intro rfl (And.intro rfl (And.intro rfl (And.intro rfl (And.intro rfl trivial))))))) (hk46 _ _ _ _ _ _ _ hf)

set_option maxHeartbeats 4000000 in
set_option maxRecDepth 100000 in
theorem xX12_best_46 {K : KT} {r : Int32 × Wd} (G : GK K cX12_best RX12 9 5) (M : Main K.ks) (hr : RI K .int r.1 r.2) : ∀ (n : Nat) (v1 : Int32) (v2 : Int32) (v3 : Int32) (v4 : Int32) (v5 : Int32) (v6 : Int32) (w : Wd), fX12_best_46 n v1 v2 v3 v4 v5 v6 w = some r → XW K 46 [some (.ref 148), some (.int v1), some (.int v2), some (.int v3), some (.int v4), some (.int v5), some (.int v6), none, none] [] w := by
  intro n
  induction n with
  | zero =>
    intro v1 v2 v3 v4 v5 v6 w hf
    unfold fX12_best_46 at hf
    cases hf
  | succ n ih =>
    intro v1 v2 v3 v4 v5 v6 w hf
    unfold fX12_best_46 at hf
    refine x_iload G dX12_best_46 rfl ?_
    refine x_iconst G (v := 1) dX12_best_48 (by decide) ?_
    refine x_aload_n G dX12_best_49 rfl rfl ?_
    refine x_bipush G (v := 15) dX12_best_50 (by decide) ?_
    obtain ⟨v_1, hv_1, hf⟩ := bnd hf
    refine x_virI G (As := [.int (15 : Int32)]) (mX12_g G.2.2.2.2.2.2.1 M hv_1) mv_X12_101 (kd148 M) cl12 rfl rfl rfl rfl rfl dX12_best_52 ?_
    refine x_ishl G dX12_best_55 ?_
    refine x_icmpge G (tgt := 125) dX12_best_56 (by decide) hf (fun c_2 hf => ?_) (fun c_2 hf => ?_)
    · refine x_aload_n G dX12_best_59 rfl rfl ?_
      refine x_iload G dX12_best_60 rfl ?_
      obtain ⟨v_3, hv_3, hf⟩ := bnd hf
      refine x_virI G (As := [.int v6]) (mX12_costOf G.2.2.2.2.2.2.1 M hv_3) mv_X12_355 (kd148 M) cl12 rfl rfl rfl rfl rfl dX12_best_62 ?_
      refine x_istore G (lv' := [some (.ref 148), some (.int v1), some (.int v2), some (.int v3), some (.int v4), some (.int v5), some (.int v6), some (.int v_3), none]) dX12_best_65 rfl rfl rfl ?_
      refine x_iload G dX12_best_67 rfl ?_
      refine x_iload_n G dX12_best_69 rfl rfl ?_
      refine x_icmple G (tgt := 76) dX12_best_70 (by decide) hf (fun c_4 hf => ?_) (fun c_4 hf => ?_)
      · refine x_goto G (tgt := 119) dX12_best_73 (by decide) ?_
        refine x_iinc G (lv' := [some (.ref 148), some (.int v1), some (.int v2), some (.int v3), some (.int v4), some (.int v5), some (.int (v6 + (1 : Int32))), some (.int v_3), none]) (v := 1) dX12_best_119 rfl (by decide) rfl rfl rfl ?_
        refine x_goto G (tgt := 46) dX12_best_122 (by decide) ?_
        exact XW.sub (lv' := [some (.ref 148), some (.int v1), some (.int v2), some (.int v3), some (.int v4), some (.int v5), some (.int (v6 + (1 : Int32))), none, none]) (And.intro rfl (And.intro rfl (And.intro rfl (And.intro rfl (And.intro rfl (And.intro rfl (And.intro rfl trivial))))))) (ih _ _ _ _ _ _ _ hf)
      · refine x_aload_n G dX12_best_76 rfl rfl ?_
        refine x_iload G dX12_best_77 rfl ?_
        obtain ⟨v_5, hv_5, hf⟩ := bnd hf
        refine x_virI G (As := [.int v6]) (mX12_fouledBy G.2.2.2.2.2.2.1 M hv_5) mv_X12_352 (kd148 M) cl12 rfl rfl rfl rfl rfl dX12_best_79 ?_
        refine x_istore G (lv' := [some (.ref 148), some (.int v1), some (.int v2), some (.int v3), some (.int v4), some (.int v5), some (.int v6), some (.int v_3), some (.int v_5.1)]) dX12_best_82 rfl rfl rfl ?_
        refine x_iload G dX12_best_84 rfl ?_
        refine x_iload G dX12_best_86 rfl ?_
        refine x_icmpgt G (tgt := 119) dX12_best_88 (by decide) hf (fun c_6 hf => ?_) (fun c_6 hf => ?_)
        · refine x_iinc G (lv' := [some (.ref 148), some (.int v1), some (.int v2), some (.int v3), some (.int v4), some (.int v5), some (.int (v6 + (1 : Int32))), some (.int v_3), some (.int v_5.1)]) (v := 1) dX12_best_119 rfl (by decide) rfl rfl rfl ?_
          refine x_goto G (tgt := 46) dX12_best_122 (by decide) ?_
          exact XW.sub (lv' := [some (.ref 148), some (.int v1), some (.int v2), some (.int v3), some (.int v4), some (.int v5), some (.int (v6 + (1 : Int32))), none, none]) (And.intro rfl (And.intro rfl (And.intro rfl (And.intro rfl (And.intro rfl (And.intro rfl (And.intro rfl trivial))))))) (ih _ _ _ _ _ _ _ hf)
        · refine x_iload G dX12_best_91 rfl ?_
          refine x_iload G dX12_best_93 rfl ?_
          refine x_icmpne G (tgt := 108) dX12_best_95 (by decide) hf (fun c_7 hf => ?_) (fun c_7 hf => ?_)
          · refine x_iload G dX12_best_98 rfl ?_
            refine x_iload G dX12_best_100 rfl ?_
            refine x_icmplt G (tgt := 108) dX12_best_102 (by decide) hf (fun c_8 hf => ?_) (fun c_8 hf => ?_)
            · exact XW.sub (lv' := [some (.ref 148), some (.int v1), some (.int v2), none, none, none, some (.int v6), some (.int v_3), some (.int v_5.1)]) (And.intro rfl (And.intro rfl (And.intro rfl (And.intro rfl (And.intro rfl (And.intro rfl trivial)))))) (xX12_best_108 G M (fX12_best_46 n) ih hf hr)
            · refine x_goto G (tgt := 119) dX12_best_105 (by decide) ?_
              refine x_iinc G (lv' := [some (.ref 148), some (.int v1), some (.int v2), some (.int v3), some (.int v4), some (.int v5), some (.int (v6 + (1 : Int32))), some (.int v_3), some (.int v_5.1)]) (v := 1) dX12_best_119 rfl (by decide) rfl rfl rfl ?_
              refine x_goto G (tgt := 46) dX12_best_122 (by decide) ?_
              exact XW.sub (lv' := [some (.ref 148), some (.int v1), some (.int v2), some (.int v3), some (.int v4), some (.int v5), some (.int (v6 + (1 : Int32))), none, none]) (And.intro rfl (And.intro rfl (And.intro rfl (And.intro rfl (And.intro rfl (And.intro rfl (And.intro rfl trivial))))))) (ih _ _ _ _ _ _ _ hf)
          · exact XW.sub (lv' := [some (.ref 148), some (.int v1), some (.int v2), none, none, none, some (.int v6), some (.int v_3), some (.int v_5.1)]) (And.intro rfl (And.intro rfl (And.intro rfl (And.intro rfl (And.intro rfl (And.intro rfl trivial)))))) (xX12_best_108 G M (fX12_best_46 n) ih hf hr)
    · refine x_iload_n G dX12_best_125 rfl rfl ?_
      refine x_ifne G (tgt := 133) dX12_best_126 (by decide) hf (fun c_9 hf => ?_) (fun c_9 hf => ?_)
      · refine x_iload_n G dX12_best_129 rfl rfl ?_
        refine x_goto G (tgt := 145) dX12_best_130 (by decide) ?_
        exact x_iretW G hf hr dX12_best_145
      · refine x_iload_n G dX12_best_133 rfl rfl ?_
        refine x_iconst G (v := 1) dX12_best_134 (by decide) ?_
        refine x_icmpne G (tgt := 143) dX12_best_135 (by decide) hf (fun c_10 hf => ?_) (fun c_10 hf => ?_)
        · refine x_iload G dX12_best_138 rfl ?_
          refine x_goto G (tgt := 145) dX12_best_140 (by decide) ?_
          exact x_iretW G hf hr dX12_best_145
        · refine x_iload G dX12_best_143 rfl ?_
          exact x_iretW G hf hr dX12_best_145

set_option maxHeartbeats 4000000 in
set_option maxRecDepth 100000 in
theorem xX12_best_e {K : KT} {v1 : Int32} {v2 : Int32} {w : Wd} {r : Int32 × Wd} (G : GK K cX12_best RX12 9 5) (M : Main K.ks) (hf : fX12_best v1 v2 w = some r) (hr : RI K .int r.1 r.2) : XW K 0 [some (.ref 148), some (.int v1), some (.int v2), none, none, none, none, none, none] [] w := by
  unfold fX12_best at hf
  refine x_aload_n G dX12_best_0 rfl rfl ?_
  refine x_iconst G (v := 0) dX12_best_1 (by decide) ?_
  refine x_putI G (kd148 M) 0 rfl cl12 rfl wf_X12_1 rfl rfl rfl dX12_best_2 ?_
  refine nwr hf (fun w_1 hf => ?_)
  refine x_iload_n G dX12_best_5 rfl rfl ?_
  refine x_i2l G dX12_best_6 ?_
  refine x_lconst G (v := 0) dX12_best_7 (by decide) ?_
  refine x_ldc2 G wl_X12_350 dX12_best_8 ?_
  obtain ⟨v_2, hv_2, hf⟩ := bnd hf
  refine x_staI G (As := [.long v1.toInt64, .long (0 : Int64), .long (9999999 : Int64)]) (mX12_in G.2.2.2.2.2.2.1 M hv_2) ms_X12_93 rfl rfl rfl rfl rfl dX12_best_11 ?_
  refine x_ifeqB G (tgt := 29) dX12_best_14 (by decide) hf (fun c_3 hf => ?_) (fun c_3 hf => ?_)
  · refine x_iload_n G dX12_best_17 rfl rfl ?_
    refine x_i2l G dX12_best_18 ?_
    refine x_lconst G (v := 0) dX12_best_19 (by decide) ?_
    refine x_ldc2 G wl_X12_339 dX12_best_20 ?_
    obtain ⟨v_4, hv_4, hf⟩ := bnd hf
    refine x_staI G (As := [.long v2.toInt64, .long (0 : Int64), .long (2 : Int64)]) (mX12_in G.2.2.2.2.2.2.1 M hv_4) ms_X12_93 rfl rfl rfl rfl rfl dX12_best_23 ?_
    refine x_ifneB G (tgt := 31) dX12_best_26 (by decide) hf (fun c_5 hf => ?_) (fun c_5 hf => ?_)
    · refine x_iconst G (v := 0) dX12_best_31 (by decide) ?_
      refine x_istore_n G (lv' := [some (.ref 148), some (.int v1), some (.int v2), some (.int (0 : Int32)), none, none, none, none, none]) dX12_best_32 rfl rfl rfl rfl ?_
      refine x_aload_n G dX12_best_33 rfl rfl ?_
      refine x_iconst G (v := 0) dX12_best_34 (by decide) ?_
      obtain ⟨v_6, hv_6, hf⟩ := bnd hf
      refine x_virI G (As := [.int (0 : Int32)]) (mX12_fouledBy G.2.2.2.2.2.2.1 M hv_6) mv_X12_352 (kd148 M) cl12 rfl rfl rfl rfl rfl dX12_best_35 ?_
      refine x_istore G (lv' := [some (.ref 148), some (.int v1), some (.int v2), some (.int (0 : Int32)), some (.int v_6.1), none, none, none, none]) dX12_best_38 rfl rfl rfl ?_
      refine x_iconst G (v := 0) dX12_best_40 (by decide) ?_
      refine x_istore G (lv' := [some (.ref 148), some (.int v1), some (.int v2), some (.int (0 : Int32)), some (.int v_6.1), some (.int (0 : Int32)), none, none, none]) dX12_best_41 rfl rfl rfl ?_
      refine x_iconst G (v := 1) dX12_best_43 (by decide) ?_
      refine x_istore G (lv' := [some (.ref 148), some (.int v1), some (.int v2), some (.int (0 : Int32)), some (.int v_6.1), some (.int (0 : Int32)), some (.int (1 : Int32)), none, none]) dX12_best_44 rfl rfl rfl ?_
      exact XW.sub (lv' := [some (.ref 148), some (.int v1), some (.int v2), some (.int (0 : Int32)), some (.int v_6.1), some (.int (0 : Int32)), some (.int (1 : Int32)), none, none]) (And.intro rfl (And.intro rfl (And.intro rfl (And.intro rfl (And.intro rfl (And.intro rfl (And.intro rfl trivial))))))) (xX12_best_46 G M hr FU _ _ _ _ _ _ _ hf)
    · refine x_iconst G (v := -1) dX12_best_29 (by decide) ?_
      exact x_iretW G hf hr dX12_best_30
  · refine x_iconst G (v := -1) dX12_best_29 (by decide) ?_
    exact x_iretW G hf hr dX12_best_30

theorem mX12_best {l : Launch} {S : KS} {w : Wd} (hI : Inj S) (M : Main S) {v1 : Int32} {v2 : Int32} {r : Int32 × Wd} (hf : fX12_best v1 v2 w = some r) : CI l yX12_best cX12_best 9 (some .int) 5 S [.ref 148, .int v1, .int v2] w r.1 r.2 := by
  intro sz
  refine mk_entry rfl (by decide +kernel) hI 6 rfl rfl (fun K h1 h2 h3 h4 h5 h6 G => ?_)
  subst h2
  exact xX12_best_e G M hf ⟨h3, by rw [h4, h6], h5⟩

set_option maxHeartbeats 4000000 in
set_option maxRecDepth 100000 in
theorem xX12_isCell_e {K : KT} {v0 : Int32} {w : Wd} {r : Bool} (G : GK K cX12_isCell RX12 1 2) (M : Main K.ks) (hf : fX12_isCell v0 w = some r) (hr : RI K .boolean (bI r) w) : XW K 0 [some (.int v0)] [] w := by
  unfold fX12_isCell at hf
  refine x_iload_n G dX12_isCell_0 rfl rfl ?_
  refine x_i2l G dX12_isCell_1 ?_
  refine x_lconst G (v := 0) dX12_isCell_2 (by decide) ?_
  refine x_ldc2 G wl_X12_91 dX12_isCell_3 ?_
  obtain ⟨v_1, hv_1, hf⟩ := bnd hf
  refine x_staI G (As := [.long v0.toInt64, .long (0 : Int64), .long (99 : Int64)]) (mX12_in G.2.2.2.2.2.2.1 M hv_1) ms_X12_93 rfl rfl rfl rfl rfl dX12_isCell_6 ?_
  exact x_zretP G hf hr dX12_isCell_9

theorem mX12_isCell {l : Launch} {S : KS} {w : Wd} (hI : Inj S) (M : Main S) {v0 : Int32} {r : Bool} (hf : fX12_isCell v0 w = some r) : CI l yX12_isCell cX12_isCell 1 (some .boolean) 2 S [.int v0] w (bI r) w := by
  intro sz
  refine mk_entry rfl (by decide +kernel) hI 0 rfl rfl (fun K h1 h2 h3 h4 h5 h6 G => ?_)
  subst h2
  exact xX12_isCell_e G M hf ⟨h3, by rw [h4, h6], h5⟩

set_option maxHeartbeats 4000000 in
set_option maxRecDepth 100000 in
theorem xX12_bridge_e {K : KT} {v1 : Int32} {w : Wd} {r : Int32 × Wd} (G : GK K cX12_bridge RX12 3 3) (M : Main K.ks) (hf : fX12_bridge v1 w = some r) (hr : RI K .int r.1 r.2) : XW K 0 [some (.ref 148), some (.int v1), none] [] w := by
  unfold fX12_bridge at hf
  refine x_aload_n G dX12_bridge_0 rfl rfl ?_
  refine x_iconst G (v := 0) dX12_bridge_1 (by decide) ?_
  refine x_putI G (kd148 M) 0 rfl cl12 rfl wf_X12_1 rfl rfl rfl dX12_bridge_2 ?_
  refine nwr hf (fun w_1 hf => ?_)
  refine x_iload_n G dX12_bridge_5 rfl rfl ?_
  obtain ⟨v_2, hv_2, hf⟩ := bnd hf
  refine x_staI G (As := [.int v1]) (mX12_isCell G.2.2.2.2.2.2.1 M hv_2) ms_X12_105 rfl rfl rfl rfl rfl dX12_bridge_6 ?_
  refine x_ifneB G (tgt := 14) dX12_bridge_9 (by decide) hf (fun c_3 hf => ?_) (fun c_3 hf => ?_)
  · refine x_aload_n G dX12_bridge_14 rfl rfl ?_
    refine x_iconst G (v := 4) dX12_bridge_15 (by decide) ?_
    obtain ⟨v_4, hv_4, hf⟩ := bnd hf
    refine x_virI G (As := [.int (4 : Int32)]) (mX12_g G.2.2.2.2.2.2.1 M hv_4) mv_X12_101 (kd148 M) cl12 rfl rfl rfl rfl rfl dX12_bridge_16 ?_
    refine x_istore_n G (lv' := [some (.ref 148), some (.int v1), some (.int v_4)]) dX12_bridge_19 rfl rfl rfl rfl ?_
    refine x_aload_n G dX12_bridge_20 rfl rfl ?_
    refine x_getR G (kd148 M) 1 (b := 149) rfl cl12 rfl wf_X12_13 dX12_bridge_21 ?_
    refine x_sipush G (v := 4304) dX12_bridge_24 (by decide) ?_
    refine x_iload_n G dX12_bridge_27 rfl rfl ?_
    refine x_iast0 G (kd149 M) dX12_bridge_28 (by decide) ?_
    refine nwr hf (fun w_5 hf => ?_)
    refine x_iload_n G dX12_bridge_29 rfl rfl ?_
    exact x_iretW G hf hr dX12_bridge_30
  · refine x_iconst G (v := -1) dX12_bridge_12 (by decide) ?_
    exact x_iretW G hf hr dX12_bridge_13

theorem mX12_bridge {l : Launch} {S : KS} {w : Wd} (hI : Inj S) (M : Main S) {v1 : Int32} {r : Int32 × Wd} (hf : fX12_bridge v1 w = some r) : CI l yX12_bridge cX12_bridge 3 (some .int) 3 S [.ref 148, .int v1] w r.1 r.2 := by
  intro sz
  refine mk_entry rfl (by decide +kernel) hI 1 rfl rfl (fun K h1 h2 h3 h4 h5 h6 G => ?_)
  subst h2
  exact xX12_bridge_e G M hf ⟨h3, by rw [h4, h6], h5⟩

