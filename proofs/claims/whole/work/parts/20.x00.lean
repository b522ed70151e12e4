theorem dX4_draftStep_0 : decode cX4_draftStep 0 = .ok (.aload_n 0, 1) := by decide +kernel
theorem dX4_draftStep_1 : decode cX4_draftStep 1 = .ok (.getfield 40, 3) := by decide +kernel
theorem dX4_draftStep_4 : decode cX4_draftStep 4 = .ok (.bipush 100, 2) := by decide +kernel
theorem dX4_draftStep_6 : decode cX4_draftStep 6 = .ok (.if_icmp .lt 4, 3) := by decide +kernel
theorem dX4_draftStep_9 : decode cX4_draftStep 9 = .ok (.return_, 1) := by decide +kernel
theorem dX4_draftStep_10 : decode cX4_draftStep 10 = .ok (.aload_n 0, 1) := by decide +kernel
theorem dX4_draftStep_11 : decode cX4_draftStep 11 = .ok (.getfield 30, 3) := by decide +kernel
theorem dX4_draftStep_14 : decode cX4_draftStep 14 = .ok (.aload_n 0, 1) := by decide +kernel
theorem dX4_draftStep_15 : decode cX4_draftStep 15 = .ok (.getfield 40, 3) := by decide +kernel
theorem dX4_draftStep_18 : decode cX4_draftStep 18 = .ok (.iload_n 1, 1) := by decide +kernel
theorem dX4_draftStep_19 : decode cX4_draftStep 19 = .ok (.iastore, 1) := by decide +kernel
theorem dX4_draftStep_20 : decode cX4_draftStep 20 = .ok (.aload_n 0, 1) := by decide +kernel
theorem dX4_draftStep_21 : decode cX4_draftStep 21 = .ok (.dup, 1) := by decide +kernel
theorem dX4_draftStep_22 : decode cX4_draftStep 22 = .ok (.getfield 40, 3) := by decide +kernel
theorem dX4_draftStep_25 : decode cX4_draftStep 25 = .ok (.iconst 1, 1) := by decide +kernel
theorem dX4_draftStep_26 : decode cX4_draftStep 26 = .ok (.iadd, 1) := by decide +kernel
theorem dX4_draftStep_27 : decode cX4_draftStep 27 = .ok (.putfield 40, 3) := by decide +kernel
theorem dX4_draftStep_30 : decode cX4_draftStep 30 = .ok (.return_, 1) := by decide +kernel
theorem dX4_peek_0 : decode cX4_peek 0 = .ok (.aload_n 0, 1) := by decide +kernel
theorem dX4_peek_1 : decode cX4_peek 1 = .ok (.getfield 46, 3) := by decide +kernel
theorem dX4_peek_4 : decode cX4_peek 4 = .ok (.aload_n 0, 1) := by decide +kernel
theorem dX4_peek_5 : decode cX4_peek 5 = .ok (.getfield 43, 3) := by decide +kernel
theorem dX4_peek_8 : decode cX4_peek 8 = .ok (.if_icmp .ge 15, 3) := by decide +kernel
theorem dX4_peek_11 : decode cX4_peek 11 = .ok (.aload_n 0, 1) := by decide +kernel
theorem dX4_peek_12 : decode cX4_peek 12 = .ok (.getfield 37, 3) := by decide +kernel
theorem dX4_peek_15 : decode cX4_peek 15 = .ok (.aload_n 0, 1) := by decide +kernel
theorem dX4_peek_16 : decode cX4_peek 16 = .ok (.getfield 46, 3) := by decide +kernel
theorem dX4_peek_19 : decode cX4_peek 19 = .ok (.iaload, 1) := by decide +kernel
theorem dX4_peek_20 : decode cX4_peek 20 = .ok (.goto 6, 3) := by decide +kernel
theorem dX4_peek_23 : decode cX4_peek 23 = .ok (.sipush 1000, 3) := by decide +kernel
theorem dX4_peek_26 : decode cX4_peek 26 = .ok (.ireturn, 1) := by decide +kernel
theorem dX4_readAnds_0 : decode cX4_readAnds 0 = .ok (.aload_n 0, 1) := by decide +kernel
theorem dX4_readAnds_1 : decode cX4_readAnds 1 = .ok (.iload_n 1, 1) := by decide +kernel
theorem dX4_readAnds_2 : decode cX4_readAnds 2 = .ok (.invokevirtual 174, 3) := by decide +kernel
theorem dX4_readAnds_5 : decode cX4_readAnds 5 = .ok (.aload_n 0, 1) := by decide +kernel
theorem dX4_readAnds_6 : decode cX4_readAnds 6 = .ok (.getfield 49, 3) := by decide +kernel
theorem dX4_readAnds_9 : decode cX4_readAnds 9 = .ok (.ifCond .ge 48, 3) := by decide +kernel
theorem dX4_readAnds_12 : decode cX4_readAnds 12 = .ok (.aload_n 0, 1) := by decide +kernel
theorem dX4_readAnds_13 : decode cX4_readAnds 13 = .ok (.getfield 46, 3) := by decide +kernel
theorem dX4_readAnds_16 : decode cX4_readAnds 16 = .ok (.aload_n 0, 1) := by decide +kernel
theorem dX4_readAnds_17 : decode cX4_readAnds 17 = .ok (.getfield 43, 3) := by decide +kernel
theorem dX4_readAnds_20 : decode cX4_readAnds 20 = .ok (.if_icmp .ge 37, 3) := by decide +kernel
theorem dX4_readAnds_23 : decode cX4_readAnds 23 = .ok (.aload_n 0, 1) := by decide +kernel
theorem dX4_readAnds_24 : decode cX4_readAnds 24 = .ok (.invokevirtual 168, 3) := by decide +kernel
theorem dX4_readAnds_27 : decode cX4_readAnds 27 = .ok (.bipush 38, 2) := by decide +kernel
theorem dX4_readAnds_29 : decode cX4_readAnds 29 = .ok (.if_icmp .ne 28, 3) := by decide +kernel
theorem dX4_readAnds_32 : decode cX4_readAnds 32 = .ok (.aload_n 0, 1) := by decide +kernel
theorem dX4_readAnds_33 : decode cX4_readAnds 33 = .ok (.dup, 1) := by decide +kernel
theorem dX4_readAnds_34 : decode cX4_readAnds 34 = .ok (.getfield 46, 3) := by decide +kernel
theorem dX4_readAnds_37 : decode cX4_readAnds 37 = .ok (.iconst 1, 1) := by decide +kernel
theorem dX4_readAnds_38 : decode cX4_readAnds 38 = .ok (.iadd, 1) := by decide +kernel
theorem dX4_readAnds_39 : decode cX4_readAnds 39 = .ok (.putfield 46, 3) := by decide +kernel
theorem dX4_readAnds_42 : decode cX4_readAnds 42 = .ok (.aload_n 0, 1) := by decide +kernel
theorem dX4_readAnds_43 : decode cX4_readAnds 43 = .ok (.iload_n 1, 1) := by decide +kernel
theorem dX4_readAnds_44 : decode cX4_readAnds 44 = .ok (.invokevirtual 174, 3) := by decide +kernel
theorem dX4_readAnds_47 : decode cX4_readAnds 47 = .ok (.aload_n 0, 1) := by decide +kernel
theorem dX4_readAnds_48 : decode cX4_readAnds 48 = .ok (.sipush 20038, 3) := by decide +kernel
theorem dX4_readAnds_51 : decode cX4_readAnds 51 = .ok (.invokevirtual 171, 3) := by decide +kernel
theorem dX4_readAnds_54 : decode cX4_readAnds 54 = .ok (.goto (-49), 3) := by decide +kernel
theorem dX4_readAnds_57 : decode cX4_readAnds 57 = .ok (.return_, 1) := by decide +kernel
theorem dX4_readOrs_0 : decode cX4_readOrs 0 = .ok (.aload_n 0, 1) := by decide +kernel
theorem dX4_readOrs_1 : decode cX4_readOrs 1 = .ok (.iload_n 1, 1) := by decide +kernel
theorem dX4_readOrs_2 : decode cX4_readOrs 2 = .ok (.invokevirtual 165, 3) := by decide +kernel
theorem dX4_readOrs_5 : decode cX4_readOrs 5 = .ok (.aload_n 0, 1) := by decide +kernel
theorem dX4_readOrs_6 : decode cX4_readOrs 6 = .ok (.getfield 49, 3) := by decide +kernel
theorem dX4_readOrs_9 : decode cX4_readOrs 9 = .ok (.ifCond .ge 48, 3) := by decide +kernel
theorem dX4_readOrs_12 : decode cX4_readOrs 12 = .ok (.aload_n 0, 1) := by decide +kernel
theorem dX4_readOrs_13 : decode cX4_readOrs 13 = .ok (.getfield 46, 3) := by decide +kernel
theorem dX4_readOrs_16 : decode cX4_readOrs 16 = .ok (.aload_n 0, 1) := by decide +kernel
theorem dX4_readOrs_17 : decode cX4_readOrs 17 = .ok (.getfield 43, 3) := by decide +kernel
theorem dX4_readOrs_20 : decode cX4_readOrs 20 = .ok (.if_icmp .ge 37, 3) := by decide +kernel
theorem dX4_readOrs_23 : decode cX4_readOrs 23 = .ok (.aload_n 0, 1) := by decide +kernel
theorem dX4_readOrs_24 : decode cX4_readOrs 24 = .ok (.invokevirtual 168, 3) := by decide +kernel
theorem dX4_readOrs_27 : decode cX4_readOrs 27 = .ok (.bipush 124, 2) := by decide +kernel
theorem dX4_readOrs_29 : decode cX4_readOrs 29 = .ok (.if_icmp .ne 28, 3) := by decide +kernel
theorem dX4_readOrs_32 : decode cX4_readOrs 32 = .ok (.aload_n 0, 1) := by decide +kernel
theorem dX4_readOrs_33 : decode cX4_readOrs 33 = .ok (.dup, 1) := by decide +kernel
theorem dX4_readOrs_34 : decode cX4_readOrs 34 = .ok (.getfield 46, 3) := by decide +kernel
theorem dX4_readOrs_37 : decode cX4_readOrs 37 = .ok (.iconst 1, 1) := by decide +kernel
theorem dX4_readOrs_38 : decode cX4_readOrs 38 = .ok (.iadd, 1) := by decide +kernel
theorem dX4_readOrs_39 : decode cX4_readOrs 39 = .ok (.putfield 46, 3) := by decide +kernel
theorem dX4_readOrs_42 : decode cX4_readOrs 42 = .ok (.aload_n 0, 1) := by decide +kernel
theorem dX4_readOrs_43 : decode cX4_readOrs 43 = .ok (.iload_n 1, 1) := by decide +kernel
theorem dX4_readOrs_44 : decode cX4_readOrs 44 = .ok (.invokevirtual 165, 3) := by decide +kernel
theorem dX4_readOrs_47 : decode cX4_readOrs 47 = .ok (.aload_n 0, 1) := by decide +kernel
theorem dX4_readOrs_48 : decode cX4_readOrs 48 = .ok (.sipush 20124, 3) := by decide +kernel
theorem dX4_readOrs_51 : decode cX4_readOrs 51 = .ok (.invokevirtual 171, 3) := by decide +kernel
theorem dX4_readOrs_54 : decode cX4_readOrs 54 = .ok (.goto (-49), 3) := by decide +kernel
theorem dX4_readOrs_57 : decode cX4_readOrs 57 = .ok (.return_, 1) := by decide +kernel
theorem dX4_fail_0 : decode cX4_fail 0 = .ok (.aload_n 0, 1) := by decide +kernel
theorem dX4_fail_1 : decode cX4_fail 1 = .ok (.getfield 49, 3) := by decide +kernel
theorem dX4_fail_4 : decode cX4_fail 4 = .ok (.ifCond .ge 11, 3) := by decide +kernel
theorem dX4_fail_7 : decode cX4_fail 7 = .ok (.aload_n 0, 1) := by decide +kernel
theorem dX4_fail_8 : decode cX4_fail 8 = .ok (.aload_n 0, 1) := by decide +kernel
theorem dX4_fail_9 : decode cX4_fail 9 = .ok (.getfield 46, 3) := by decide +kernel
theorem dX4_fail_12 : decode cX4_fail 12 = .ok (.putfield 49, 3) := by decide +kernel
theorem dX4_fail_15 : decode cX4_fail 15 = .ok (.return_, 1) := by decide +kernel
theorem dX11_within_0 : decode cX11_within 0 = .ok (.iload_n 0, 1) := by decide +kernel
theorem dX11_within_1 : decode cX11_within 1 = .ok (.iload_n 1, 1) := by decide +kernel
theorem dX11_within_2 : decode cX11_within 2 = .ok (.if_icmp .lt 12, 3) := by decide +kernel
theorem dX11_within_5 : decode cX11_within 5 = .ok (.iload_n 0, 1) := by decide +kernel
theorem dX11_within_6 : decode cX11_within 6 = .ok (.iload_n 2, 1) := by decide +kernel
theorem dX11_within_7 : decode cX11_within 7 = .ok (.if_icmp .gt 7, 3) := by decide +kernel
theorem dX11_within_10 : decode cX11_within 10 = .ok (.iconst 1, 1) := by decide +kernel
theorem dX11_within_11 : decode cX11_within 11 = .ok (.goto 4, 3) := by decide +kernel
theorem dX11_within_14 : decode cX11_within 14 = .ok (.iconst 0, 1) := by decide +kernel
theorem dX11_within_15 : decode cX11_within 15 = .ok (.ireturn, 1) := by decide +kernel
theorem dX4_readUnit_0 : decode cX4_readUnit 0 = .ok (.aload_n 0, 1) := by decide +kernel
theorem dX4_readUnit_1 : decode cX4_readUnit 1 = .ok (.invokevirtual 168, 3) := by decide +kernel
theorem dX4_readUnit_4 : decode cX4_readUnit 4 = .ok (.istore_n 1, 1) := by decide +kernel
theorem dX4_readUnit_5 : decode cX4_readUnit 5 = .ok (.iload_n 1, 1) := by decide +kernel
theorem dX4_readUnit_6 : decode cX4_readUnit 6 = .ok (.bipush 48, 2) := by decide +kernel
theorem dX4_readUnit_8 : decode cX4_readUnit 8 = .ok (.bipush 57, 2) := by decide +kernel
theorem dX4_readUnit_10 : decode cX4_readUnit 10 = .ok (.invokestatic 183, 3) := by decide +kernel
theorem dX4_readUnit_13 : decode cX4_readUnit 13 = .ok (.ifCond .eq 63, 3) := by decide +kernel
theorem dX4_readUnit_16 : decode cX4_readUnit 16 = .ok (.iconst 0, 1) := by decide +kernel
theorem dX4_readUnit_17 : decode cX4_readUnit 17 = .ok (.istore_n 2, 1) := by decide +kernel
theorem dX4_readUnit_18 : decode cX4_readUnit 18 = .ok (.iconst 0, 1) := by decide +kernel
theorem dX4_readUnit_19 : decode cX4_readUnit 19 = .ok (.istore_n 3, 1) := by decide +kernel
theorem dX4_readUnit_20 : decode cX4_readUnit 20 = .ok (.iload_n 3, 1) := by decide +kernel
theorem dX4_readUnit_21 : decode cX4_readUnit 21 = .ok (.iconst 4, 1) := by decide +kernel
theorem dX4_readUnit_22 : decode cX4_readUnit 22 = .ok (.if_icmp .ge 46, 3) := by decide +kernel
theorem dX4_readUnit_25 : decode cX4_readUnit 25 = .ok (.aload_n 0, 1) := by decide +kernel
theorem dX4_readUnit_26 : decode cX4_readUnit 26 = .ok (.invokevirtual 168, 3) := by decide +kernel
theorem dX4_readUnit_29 : decode cX4_readUnit 29 = .ok (.bipush 48, 2) := by decide +kernel
theorem dX4_readUnit_31 : decode cX4_readUnit 31 = .ok (.bipush 57, 2) := by decide +kernel
theorem dX4_readUnit_33 : decode cX4_readUnit 33 = .ok (.invokestatic 183, 3) := by decide +kernel
theorem dX4_readUnit_36 : decode cX4_readUnit 36 = .ok (.ifCond .eq 32, 3) := by decide +kernel
theorem dX4_readUnit_39 : decode cX4_readUnit 39 = .ok (.bipush 10, 2) := by decide +kernel
theorem dX4_readUnit_41 : decode cX4_readUnit 41 = .ok (.iload_n 2, 1) := by decide +kernel
theorem dX4_readUnit_42 : decode cX4_readUnit 42 = .ok (.imul, 1) := by decide +kernel
theorem dX4_readUnit_43 : decode cX4_readUnit 43 = .ok (.aload_n 0, 1) := by decide +kernel
theorem dX4_readUnit_44 : decode cX4_readUnit 44 = .ok (.invokevirtual 168, 3) := by decide +kernel
theorem dX4_readUnit_47 : decode cX4_readUnit 47 = .ok (.iadd, 1) := by decide +kernel
theorem dX4_readUnit_48 : decode cX4_readUnit 48 = .ok (.bipush 48, 2) := by decide +kernel
theorem dX4_readUnit_50 : decode cX4_readUnit 50 = .ok (.isub, 1) := by decide +kernel
theorem dX4_readUnit_51 : decode cX4_readUnit 51 = .ok (.istore_n 2, 1) := by decide +kernel
theorem dX4_readUnit_52 : decode cX4_readUnit 52 = .ok (.aload_n 0, 1) := by decide +kernel
theorem dX4_readUnit_53 : decode cX4_readUnit 53 = .ok (.dup, 1) := by decide +kernel
theorem dX4_readUnit_54 : decode cX4_readUnit 54 = .ok (.getfield 46, 3) := by decide +kernel
theorem dX4_readUnit_57 : decode cX4_readUnit 57 = .ok (.iconst 1, 1) := by decide +kernel
theorem dX4_readUnit_58 : decode cX4_readUnit 58 = .ok (.iadd, 1) := by decide +kernel
theorem dX4_readUnit_59 : decode cX4_readUnit 59 = .ok (.putfield 46, 3) := by decide +kernel
theorem dX4_readUnit_62 : decode cX4_readUnit 62 = .ok (.iinc 3 1, 3) := by decide +kernel
theorem dX4_readUnit_65 : decode cX4_readUnit 65 = .ok (.goto (-45), 3) := by decide +kernel
theorem dX4_readUnit_68 : decode cX4_readUnit 68 = .ok (.aload_n 0, 1) := by decide +kernel
theorem dX4_readUnit_69 : decode cX4_readUnit 69 = .ok (.iload_n 2, 1) := by decide +kernel
theorem dX4_readUnit_70 : decode cX4_readUnit 70 = .ok (.invokevirtual 171, 3) := by decide +kernel
theorem dX4_readUnit_73 : decode cX4_readUnit 73 = .ok (.goto 50, 3) := by decide +kernel
theorem dX4_readUnit_76 : decode cX4_readUnit 76 = .ok (.iload_n 1, 1) := by decide +kernel
theorem dX4_readUnit_77 : decode cX4_readUnit 77 = .ok (.bipush 97, 2) := by decide +kernel
theorem dX4_readUnit_79 : decode cX4_readUnit 79 = .ok (.bipush 122, 2) := by decide +kernel
theorem dX4_readUnit_81 : decode cX4_readUnit 81 = .ok (.invokestatic 183, 3) := by decide +kernel
theorem dX4_readUnit_84 : decode cX4_readUnit 84 = .ok (.ifCond .eq 35, 3) := by decide +kernel
theorem dX4_readUnit_87 : decode cX4_readUnit 87 = .ok (.ldc 187, 2) := by decide +kernel
theorem dX4_readUnit_89 : decode cX4_readUnit 89 = .ok (.iload_n 1, 1) := by decide +kernel
theorem dX4_readUnit_90 : decode cX4_readUnit 90 = .ok (.i2c, 1) := by decide +kernel
theorem dX4_readUnit_91 : decode cX4_readUnit 91 = .ok (.invokevirtual 189, 3) := by decide +kernel
theorem dX4_readUnit_94 : decode cX4_readUnit 94 = .ok (.ifCond .lt 25, 3) := by decide +kernel
theorem dX4_readUnit_97 : decode cX4_readUnit 97 = .ok (.aload_n 0, 1) := by decide +kernel
theorem dX4_readUnit_98 : decode cX4_readUnit 98 = .ok (.dup, 1) := by decide +kernel
theorem dX4_readUnit_99 : decode cX4_readUnit 99 = .ok (.getfield 46, 3) := by decide +kernel
theorem dX4_readUnit_102 : decode cX4_readUnit 102 = .ok (.iconst 1, 1) := by decide +kernel
theorem dX4_readUnit_103 : decode cX4_readUnit 103 = .ok (.iadd, 1) := by decide +kernel
theorem dX4_readUnit_104 : decode cX4_readUnit 104 = .ok (.putfield 46, 3) := by decide +kernel
theorem dX4_readUnit_107 : decode cX4_readUnit 107 = .ok (.aload_n 0, 1) := by decide +kernel
theorem dX4_readUnit_108 : decode cX4_readUnit 108 = .ok (.sipush 10000, 3) := by decide +kernel
theorem dX4_readUnit_111 : decode cX4_readUnit 111 = .ok (.iload_n 1, 1) := by decide +kernel
theorem dX4_readUnit_112 : decode cX4_readUnit 112 = .ok (.iadd, 1) := by decide +kernel
theorem dX4_readUnit_113 : decode cX4_readUnit 113 = .ok (.invokevirtual 171, 3) := by decide +kernel
theorem dX4_readUnit_116 : decode cX4_readUnit 116 = .ok (.goto 7, 3) := by decide +kernel
theorem dX4_readUnit_119 : decode cX4_readUnit 119 = .ok (.aload_n 0, 1) := by decide +kernel
theorem dX4_readUnit_120 : decode cX4_readUnit 120 = .ok (.invokevirtual 162, 3) := by decide +kernel
theorem dX4_readUnit_123 : decode cX4_readUnit 123 = .ok (.return_, 1) := by decide +kernel
theorem dX4_readSum_0 : decode cX4_readSum 0 = .ok (.aload_n 0, 1) := by decide +kernel
theorem dX4_readSum_1 : decode cX4_readSum 1 = .ok (.invokevirtual 180, 3) := by decide +kernel
theorem dX4_readSum_4 : decode cX4_readSum 4 = .ok (.aload_n 0, 1) := by decide +kernel
theorem dX4_readSum_5 : decode cX4_readSum 5 = .ok (.invokevirtual 168, 3) := by decide +kernel
theorem dX4_readSum_8 : decode cX4_readSum 8 = .ok (.istore_n 1, 1) := by decide +kernel
theorem dX4_readSum_9 : decode cX4_readSum 9 = .ok (.aload_n 0, 1) := by decide +kernel
theorem dX4_readSum_10 : decode cX4_readSum 10 = .ok (.getfield 49, 3) := by decide +kernel
theorem dX4_readSum_13 : decode cX4_readSum 13 = .ok (.ifCond .ge 63, 3) := by decide +kernel
theorem dX4_readSum_16 : decode cX4_readSum 16 = .ok (.aload_n 0, 1) := by decide +kernel
theorem dX4_readSum_17 : decode cX4_readSum 17 = .ok (.getfield 46, 3) := by decide +kernel
theorem dX4_readSum_20 : decode cX4_readSum 20 = .ok (.aload_n 0, 1) := by decide +kernel
theorem dX4_readSum_21 : decode cX4_readSum 21 = .ok (.getfield 43, 3) := by decide +kernel
theorem dX4_readSum_24 : decode cX4_readSum 24 = .ok (.if_icmp .ge 52, 3) := by decide +kernel
theorem dX4_readSum_27 : decode cX4_readSum 27 = .ok (.iload_n 1, 1) := by decide +kernel
theorem dX4_readSum_28 : decode cX4_readSum 28 = .ok (.bipush 43, 2) := by decide +kernel
theorem dX4_readSum_30 : decode cX4_readSum 30 = .ok (.if_icmp .eq 15, 3) := by decide +kernel
theorem dX4_readSum_33 : decode cX4_readSum 33 = .ok (.iload_n 1, 1) := by decide +kernel
theorem dX4_readSum_34 : decode cX4_readSum 34 = .ok (.bipush 45, 2) := by decide +kernel
theorem dX4_readSum_36 : decode cX4_readSum 36 = .ok (.if_icmp .eq 9, 3) := by decide +kernel
theorem dX4_readSum_39 : decode cX4_readSum 39 = .ok (.iload_n 1, 1) := by decide +kernel
theorem dX4_readSum_40 : decode cX4_readSum 40 = .ok (.bipush 42, 2) := by decide +kernel
theorem dX4_readSum_42 : decode cX4_readSum 42 = .ok (.if_icmp .ne 34, 3) := by decide +kernel
theorem dX4_readSum_45 : decode cX4_readSum 45 = .ok (.aload_n 0, 1) := by decide +kernel
theorem dX4_readSum_46 : decode cX4_readSum 46 = .ok (.dup, 1) := by decide +kernel
theorem dX4_readSum_47 : decode cX4_readSum 47 = .ok (.getfield 46, 3) := by decide +kernel
theorem dX4_readSum_50 : decode cX4_readSum 50 = .ok (.iconst 1, 1) := by decide +kernel
theorem dX4_readSum_51 : decode cX4_readSum 51 = .ok (.iadd, 1) := by decide +kernel
theorem dX4_readSum_52 : decode cX4_readSum 52 = .ok (.putfield 46, 3) := by decide +kernel
theorem dX4_readSum_55 : decode cX4_readSum 55 = .ok (.aload_n 0, 1) := by decide +kernel
theorem dX4_readSum_56 : decode cX4_readSum 56 = .ok (.invokevirtual 180, 3) := by decide +kernel
theorem dX4_readSum_59 : decode cX4_readSum 59 = .ok (.aload_n 0, 1) := by decide +kernel
theorem dX4_readSum_60 : decode cX4_readSum 60 = .ok (.sipush 20000, 3) := by decide +kernel
theorem dX4_readSum_63 : decode cX4_readSum 63 = .ok (.iload_n 1, 1) := by decide +kernel
theorem dX4_readSum_64 : decode cX4_readSum 64 = .ok (.iadd, 1) := by decide +kernel
theorem dX4_readSum_65 : decode cX4_readSum 65 = .ok (.invokevirtual 171, 3) := by decide +kernel
theorem dX4_readSum_68 : decode cX4_readSum 68 = .ok (.aload_n 0, 1) := by decide +kernel
theorem dX4_readSum_69 : decode cX4_readSum 69 = .ok (.invokevirtual 168, 3) := by decide +kernel
theorem dX4_readSum_72 : decode cX4_readSum 72 = .ok (.istore_n 1, 1) := by decide +kernel
theorem dX4_readSum_73 : decode cX4_readSum 73 = .ok (.goto (-64), 3) := by decide +kernel
theorem dX4_readSum_76 : decode cX4_readSum 76 = .ok (.return_, 1) := by decide +kernel
theorem dX4_readTest_0 : decode cX4_readTest 0 = .ok (.aload_n 0, 1) := by decide +kernel
theorem dX4_readTest_1 : decode cX4_readTest 1 = .ok (.invokevirtual 168, 3) := by decide +kernel
theorem dX4_readTest_4 : decode cX4_readTest 4 = .ok (.istore_n 2, 1) := by decide +kernel
theorem dX4_readTest_5 : decode cX4_readTest 5 = .ok (.iload_n 2, 1) := by decide +kernel
theorem dX4_readTest_6 : decode cX4_readTest 6 = .ok (.bipush 33, 2) := by decide +kernel
theorem dX4_readTest_8 : decode cX4_readTest 8 = .ok (.if_icmp .eq 69, 3) := by decide +kernel
theorem dX4_readTest_11 : decode cX4_readTest 11 = .ok (.iload_n 2, 1) := by decide +kernel
theorem dX4_readTest_12 : decode cX4_readTest 12 = .ok (.bipush 40, 2) := by decide +kernel
theorem dX4_readTest_14 : decode cX4_readTest 14 = .ok (.if_icmp .eq 63, 3) := by decide +kernel
theorem dX4_readTest_17 : decode cX4_readTest 17 = .ok (.aload_n 0, 1) := by decide +kernel
theorem dX4_readTest_18 : decode cX4_readTest 18 = .ok (.invokevirtual 177, 3) := by decide +kernel
theorem dX4_readTest_21 : decode cX4_readTest 21 = .ok (.aload_n 0, 1) := by decide +kernel
theorem dX4_readTest_22 : decode cX4_readTest 22 = .ok (.invokevirtual 168, 3) := by decide +kernel
theorem dX4_readTest_25 : decode cX4_readTest 25 = .ok (.istore_n 3, 1) := by decide +kernel
theorem dX4_readTest_26 : decode cX4_readTest 26 = .ok (.iload_n 3, 1) := by decide +kernel
theorem dX4_readTest_27 : decode cX4_readTest 27 = .ok (.bipush 60, 2) := by decide +kernel
theorem dX4_readTest_29 : decode cX4_readTest 29 = .ok (.if_icmp .eq 15, 3) := by decide +kernel
theorem dX4_readTest_32 : decode cX4_readTest 32 = .ok (.iload_n 3, 1) := by decide +kernel
theorem dX4_readTest_33 : decode cX4_readTest 33 = .ok (.bipush 61, 2) := by decide +kernel
theorem dX4_readTest_35 : decode cX4_readTest 35 = .ok (.if_icmp .eq 9, 3) := by decide +kernel
theorem dX4_readTest_38 : decode cX4_readTest 38 = .ok (.iload_n 3, 1) := by decide +kernel
theorem dX4_readTest_39 : decode cX4_readTest 39 = .ok (.bipush 62, 2) := by decide +kernel
theorem dX4_readTest_41 : decode cX4_readTest 41 = .ok (.if_icmp .ne 29, 3) := by decide +kernel
theorem dX4_readTest_44 : decode cX4_readTest 44 = .ok (.aload_n 0, 1) := by decide +kernel
theorem dX4_readTest_45 : decode cX4_readTest 45 = .ok (.dup, 1) := by decide +kernel
theorem dX4_readTest_46 : decode cX4_readTest 46 = .ok (.getfield 46, 3) := by decide +kernel
theorem dX4_readTest_49 : decode cX4_readTest 49 = .ok (.iconst 1, 1) := by decide +kernel
theorem dX4_readTest_50 : decode cX4_readTest 50 = .ok (.iadd, 1) := by decide +kernel
theorem dX4_readTest_51 : decode cX4_readTest 51 = .ok (.putfield 46, 3) := by decide +kernel
theorem dX4_readTest_54 : decode cX4_readTest 54 = .ok (.aload_n 0, 1) := by decide +kernel
theorem dX4_readTest_55 : decode cX4_readTest 55 = .ok (.invokevirtual 177, 3) := by decide +kernel
theorem dX4_readTest_58 : decode cX4_readTest 58 = .ok (.aload_n 0, 1) := by decide +kernel
theorem dX4_readTest_59 : decode cX4_readTest 59 = .ok (.sipush 20000, 3) := by decide +kernel
theorem dX4_readTest_62 : decode cX4_readTest 62 = .ok (.iload_n 3, 1) := by decide +kernel
theorem dX4_readTest_63 : decode cX4_readTest 63 = .ok (.iadd, 1) := by decide +kernel
theorem dX4_readTest_64 : decode cX4_readTest 64 = .ok (.invokevirtual 171, 3) := by decide +kernel
theorem dX4_readTest_67 : decode cX4_readTest 67 = .ok (.goto 7, 3) := by decide +kernel
theorem dX4_readTest_70 : decode cX4_readTest 70 = .ok (.aload_n 0, 1) := by decide +kernel
theorem dX4_readTest_71 : decode cX4_readTest 71 = .ok (.invokevirtual 162, 3) := by decide +kernel
theorem dX4_readTest_74 : decode cX4_readTest 74 = .ok (.goto 91, 3) := by decide +kernel
theorem dX4_readTest_77 : decode cX4_readTest 77 = .ok (.iload_n 1, 1) := by decide +kernel
theorem dX4_readTest_78 : decode cX4_readTest 78 = .ok (.iconst 5, 1) := by decide +kernel
theorem dX4_readTest_79 : decode cX4_readTest 79 = .ok (.if_icmp .lt 10, 3) := by decide +kernel
theorem dX4_readTest_82 : decode cX4_readTest 82 = .ok (.aload_n 0, 1) := by decide +kernel
theorem dX4_readTest_83 : decode cX4_readTest 83 = .ok (.invokevirtual 162, 3) := by decide +kernel
theorem dX4_readTest_86 : decode cX4_readTest 86 = .ok (.goto 79, 3) := by decide +kernel
theorem dX4_readTest_89 : decode cX4_readTest 89 = .ok (.iload_n 2, 1) := by decide +kernel
theorem dX4_readTest_90 : decode cX4_readTest 90 = .ok (.bipush 33, 2) := by decide +kernel
theorem dX4_readTest_92 : decode cX4_readTest 92 = .ok (.if_icmp .ne 30, 3) := by decide +kernel
theorem dX4_readTest_95 : decode cX4_readTest 95 = .ok (.aload_n 0, 1) := by decide +kernel
theorem dX4_readTest_96 : decode cX4_readTest 96 = .ok (.dup, 1) := by decide +kernel
theorem dX4_readTest_97 : decode cX4_readTest 97 = .ok (.getfield 46, 3) := by decide +kernel
theorem dX4_readTest_100 : decode cX4_readTest 100 = .ok (.iconst 1, 1) := by decide +kernel
theorem dX4_readTest_101 : decode cX4_readTest 101 = .ok (.iadd, 1) := by decide +kernel
theorem dX4_readTest_102 : decode cX4_readTest 102 = .ok (.putfield 46, 3) := by decide +kernel
theorem dX4_readTest_105 : decode cX4_readTest 105 = .ok (.aload_n 0, 1) := by decide +kernel
theorem dX4_readTest_106 : decode cX4_readTest 106 = .ok (.iload_n 1, 1) := by decide +kernel
theorem dX4_readTest_107 : decode cX4_readTest 107 = .ok (.iconst 1, 1) := by decide +kernel
theorem dX4_readTest_108 : decode cX4_readTest 108 = .ok (.iadd, 1) := by decide +kernel
theorem dX4_readTest_109 : decode cX4_readTest 109 = .ok (.invokevirtual 174, 3) := by decide +kernel
theorem dX4_readTest_112 : decode cX4_readTest 112 = .ok (.aload_n 0, 1) := by decide +kernel
theorem dX4_readTest_113 : decode cX4_readTest 113 = .ok (.sipush 20033, 3) := by decide +kernel
theorem dX4_readTest_116 : decode cX4_readTest 116 = .ok (.invokevirtual 171, 3) := by decide +kernel
theorem dX4_readTest_119 : decode cX4_readTest 119 = .ok (.goto 46, 3) := by decide +kernel
theorem dX4_readTest_122 : decode cX4_readTest 122 = .ok (.aload_n 0, 1) := by decide +kernel
theorem dX4_readTest_123 : decode cX4_readTest 123 = .ok (.dup, 1) := by decide +kernel
theorem dX4_readTest_124 : decode cX4_readTest 124 = .ok (.getfield 46, 3) := by decide +kernel
theorem dX4_readTest_127 : decode cX4_readTest 127 = .ok (.iconst 1, 1) := by decide +kernel
theorem dX4_readTest_128 : decode cX4_readTest 128 = .ok (.iadd, 1) := by decide +kernel
theorem dX4_readTest_129 : decode cX4_readTest 129 = .ok (.putfield 46, 3) := by decide +kernel
theorem dX4_readTest_132 : decode cX4_readTest 132 = .ok (.aload_n 0, 1) := by decide +kernel
theorem dX4_readTest_133 : decode cX4_readTest 133 = .ok (.iload_n 1, 1) := by decide +kernel
theorem dX4_readTest_134 : decode cX4_readTest 134 = .ok (.iconst 1, 1) := by decide +kernel
theorem dX4_readTest_135 : decode cX4_readTest 135 = .ok (.iadd, 1) := by decide +kernel
theorem dX4_readTest_136 : decode cX4_readTest 136 = .ok (.invokevirtual 158, 3) := by decide +kernel
theorem dX4_readTest_139 : decode cX4_readTest 139 = .ok (.aload_n 0, 1) := by decide +kernel
theorem dX4_readTest_140 : decode cX4_readTest 140 = .ok (.invokevirtual 168, 3) := by decide +kernel
theorem dX4_readTest_143 : decode cX4_readTest 143 = .ok (.bipush 41, 2) := by decide +kernel
theorem dX4_readTest_145 : decode cX4_readTest 145 = .ok (.if_icmp .ne 16, 3) := by decide +kernel
theorem dX4_readTest_148 : decode cX4_readTest 148 = .ok (.aload_n 0, 1) := by decide +kernel
theorem dX4_readTest_149 : decode cX4_readTest 149 = .ok (.dup, 1) := by decide +kernel
theorem dX4_readTest_150 : decode cX4_readTest 150 = .ok (.getfield 46, 3) := by decide +kernel
theorem dX4_readTest_153 : decode cX4_readTest 153 = .ok (.iconst 1, 1) := by decide +kernel
theorem dX4_readTest_154 : decode cX4_readTest 154 = .ok (.iadd, 1) := by decide +kernel
theorem dX4_readTest_155 : decode cX4_readTest 155 = .ok (.putfield 46, 3) := by decide +kernel
theorem dX4_readTest_158 : decode cX4_readTest 158 = .ok (.goto 7, 3) := by decide +kernel
theorem dX4_readTest_161 : decode cX4_readTest 161 = .ok (.aload_n 0, 1) := by decide +kernel
theorem dX4_readTest_162 : decode cX4_readTest 162 = .ok (.invokevirtual 162, 3) := by decide +kernel
theorem dX4_readTest_165 : decode cX4_readTest 165 = .ok (.return_, 1) := by decide +kernel
theorem dX12_here_0 : decode cX12_here 0 = .ok (.aload_n 0, 1) := by decide +kernel
theorem dX12_here_1 : decode cX12_here 1 = .ok (.getfield 279, 3) := by decide +kernel
theorem dX12_here_4 : decode cX12_here 4 = .ok (.aload_n 0, 1) := by decide +kernel
theorem dX12_here_5 : decode cX12_here 5 = .ok (.getfield 282, 3) := by decide +kernel
theorem dX12_here_8 : decode cX12_here 8 = .ok (.if_icmp .ge 15, 3) := by decide +kernel
theorem dX12_here_11 : decode cX12_here 11 = .ok (.aload_n 0, 1) := by decide +kernel
theorem dX12_here_12 : decode cX12_here 12 = .ok (.getfield 57, 3) := by decide +kernel
theorem dX12_here_15 : decode cX12_here 15 = .ok (.aload_n 0, 1) := by decide +kernel
theorem dX12_here_16 : decode cX12_here 16 = .ok (.getfield 279, 3) := by decide +kernel
theorem dX12_here_19 : decode cX12_here 19 = .ok (.iaload, 1) := by decide +kernel
theorem dX12_here_20 : decode cX12_here 20 = .ok (.goto 4, 3) := by decide +kernel
theorem dX12_here_23 : decode cX12_here 23 = .ok (.iconst (-1), 1) := by decide +kernel
theorem dX12_here_24 : decode cX12_here 24 = .ok (.ireturn, 1) := by decide +kernel
theorem dX12_sign_0 : decode cX12_sign 0 = .ok (.aload_n 0, 1) := by decide +kernel
theorem dX12_sign_1 : decode cX12_sign 1 = .ok (.getfield 285, 3) := by decide +kernel
theorem dX12_sign_4 : decode cX12_sign 4 = .ok (.ifCond .ne 11, 3) := by decide +kernel
theorem dX12_sign_7 : decode cX12_sign 7 = .ok (.aload_n 0, 1) := by decide +kernel
theorem dX12_sign_8 : decode cX12_sign 8 = .ok (.invokevirtual 289, 3) := by decide +kernel
theorem dX12_sign_11 : decode cX12_sign 11 = .ok (.iload_n 1, 1) := by decide +kernel
theorem dX12_sign_12 : decode cX12_sign 12 = .ok (.if_icmp .eq 5, 3) := by decide +kernel
theorem dX12_sign_15 : decode cX12_sign 15 = .ok (.iconst 0, 1) := by decide +kernel
theorem dX12_sign_16 : decode cX12_sign 16 = .ok (.ireturn, 1) := by decide +kernel
theorem dX12_sign_17 : decode cX12_sign 17 = .ok (.aload_n 0, 1) := by decide +kernel
theorem dX12_sign_18 : decode cX12_sign 18 = .ok (.dup, 1) := by decide +kernel
theorem dX12_sign_19 : decode cX12_sign 19 = .ok (.getfield 279, 3) := by decide +kernel
theorem dX12_sign_22 : decode cX12_sign 22 = .ok (.iconst 1, 1) := by decide +kernel
theorem dX12_sign_23 : decode cX12_sign 23 = .ok (.iadd, 1) := by decide +kernel
theorem dX12_sign_24 : decode cX12_sign 24 = .ok (.putfield 279, 3) := by decide +kernel
theorem dX12_sign_27 : decode cX12_sign 27 = .ok (.iconst 1, 1) := by decide +kernel
theorem dX12_sign_28 : decode cX12_sign 28 = .ok (.ireturn, 1) := by decide +kernel
theorem dX12_ands_0 : decode cX12_ands 0 = .ok (.aload_n 0, 1) := by decide +kernel
theorem dX12_ands_1 : decode cX12_ands 1 = .ok (.invokevirtual 323, 3) := by decide +kernel
theorem dX12_ands_4 : decode cX12_ands 4 = .ok (.istore_n 1, 1) := by decide +kernel
theorem dX12_ands_5 : decode cX12_ands 5 = .ok (.aload_n 0, 1) := by decide +kernel
theorem dX12_ands_6 : decode cX12_ands 6 = .ok (.bipush 38, 2) := by decide +kernel
theorem dX12_ands_8 : decode cX12_ands 8 = .ok (.invokevirtual 330, 3) := by decide +kernel
theorem dX12_ands_11 : decode cX12_ands 11 = .ok (.ifCond .eq 25, 3) := by decide +kernel
theorem dX12_ands_14 : decode cX12_ands 14 = .ok (.aload_n 0, 1) := by decide +kernel
theorem dX12_ands_15 : decode cX12_ands 15 = .ok (.invokevirtual 323, 3) := by decide +kernel
theorem dX12_ands_18 : decode cX12_ands 18 = .ok (.istore_n 2, 1) := by decide +kernel
theorem dX12_ands_19 : decode cX12_ands 19 = .ok (.iload_n 1, 1) := by decide +kernel
theorem dX12_ands_20 : decode cX12_ands 20 = .ok (.ifCond .eq 11, 3) := by decide +kernel
theorem dX12_ands_23 : decode cX12_ands 23 = .ok (.iload_n 2, 1) := by decide +kernel
theorem dX12_ands_24 : decode cX12_ands 24 = .ok (.ifCond .eq 7, 3) := by decide +kernel
theorem dX12_ands_27 : decode cX12_ands 27 = .ok (.iconst 1, 1) := by decide +kernel
theorem dX12_ands_28 : decode cX12_ands 28 = .ok (.goto 4, 3) := by decide +kernel
theorem dX12_ands_31 : decode cX12_ands 31 = .ok (.iconst 0, 1) := by decide +kernel
theorem dX12_ands_32 : decode cX12_ands 32 = .ok (.istore_n 1, 1) := by decide +kernel
theorem dX12_ands_33 : decode cX12_ands 33 = .ok (.goto (-28), 3) := by decide +kernel
theorem dX12_ands_36 : decode cX12_ands 36 = .ok (.iload_n 1, 1) := by decide +kernel
theorem dX12_ands_37 : decode cX12_ands 37 = .ok (.ireturn, 1) := by decide +kernel
theorem dX12_ors_0 : decode cX12_ors 0 = .ok (.aload_n 0, 1) := by decide +kernel
theorem dX12_ors_1 : decode cX12_ors 1 = .ok (.invokevirtual 336, 3) := by decide +kernel
theorem dX12_ors_4 : decode cX12_ors 4 = .ok (.istore_n 1, 1) := by decide +kernel
theorem dX12_ors_5 : decode cX12_ors 5 = .ok (.aload_n 0, 1) := by decide +kernel
theorem dX12_ors_6 : decode cX12_ors 6 = .ok (.bipush 124, 2) := by decide +kernel
theorem dX12_ors_8 : decode cX12_ors 8 = .ok (.invokevirtual 330, 3) := by decide +kernel
theorem dX12_ors_11 : decode cX12_ors 11 = .ok (.ifCond .eq 25, 3) := by decide +kernel
theorem dX12_ors_14 : decode cX12_ors 14 = .ok (.aload_n 0, 1) := by decide +kernel
theorem dX12_ors_15 : decode cX12_ors 15 = .ok (.invokevirtual 336, 3) := by decide +kernel
theorem dX12_ors_18 : decode cX12_ors 18 = .ok (.istore_n 2, 1) := by decide +kernel
theorem dX12_ors_19 : decode cX12_ors 19 = .ok (.iload_n 1, 1) := by decide +kernel
theorem dX12_ors_20 : decode cX12_ors 20 = .ok (.ifCond .ne 7, 3) := by decide +kernel
theorem dX12_ors_23 : decode cX12_ors 23 = .ok (.iload_n 2, 1) := by decide +kernel
theorem dX12_ors_24 : decode cX12_ors 24 = .ok (.ifCond .eq 7, 3) := by decide +kernel
theorem dX12_ors_27 : decode cX12_ors 27 = .ok (.iconst 1, 1) := by decide +kernel
theorem dX12_ors_28 : decode cX12_ors 28 = .ok (.goto 4, 3) := by decide +kernel
theorem dX12_ors_31 : decode cX12_ors 31 = .ok (.iconst 0, 1) := by decide +kernel
theorem dX12_ors_32 : decode cX12_ors 32 = .ok (.istore_n 1, 1) := by decide +kernel
theorem dX12_ors_33 : decode cX12_ors 33 = .ok (.goto (-28), 3) := by decide +kernel
theorem dX12_ors_36 : decode cX12_ors 36 = .ok (.iload_n 1, 1) := by decide +kernel
theorem dX12_ors_37 : decode cX12_ors 37 = .ok (.ireturn, 1) := by decide +kernel
theorem dX12_opens_0 : decode cX12_opens 0 = .ok (.aload_n 0, 1) := by decide +kernel
theorem dX12_opens_1 : decode cX12_opens 1 = .ok (.getfield 317, 3) := by decide +kernel
theorem dX12_opens_4 : decode cX12_opens 4 = .ok (.iconst 5, 1) := by decide +kernel
theorem dX12_opens_5 : decode cX12_opens 5 = .ok (.if_icmp .ne 8, 3) := by decide +kernel
theorem dX12_opens_8 : decode cX12_opens 8 = .ok (.aload_n 0, 1) := by decide +kernel
theorem dX12_opens_9 : decode cX12_opens 9 = .ok (.iconst 1, 1) := by decide +kernel
theorem dX12_opens_10 : decode cX12_opens 10 = .ok (.putfield 285, 3) := by decide +kernel
theorem dX12_opens_13 : decode cX12_opens 13 = .ok (.aload_n 0, 1) := by decide +kernel
theorem dX12_opens_14 : decode cX12_opens 14 = .ok (.getfield 285, 3) := by decide +kernel
theorem dX12_opens_17 : decode cX12_opens 17 = .ok (.ifCond .eq 4, 3) := by decide +kernel
theorem dX12_opens_20 : decode cX12_opens 20 = .ok (.return_, 1) := by decide +kernel
theorem dX12_opens_21 : decode cX12_opens 21 = .ok (.aload_n 0, 1) := by decide +kernel
theorem dX12_opens_22 : decode cX12_opens 22 = .ok (.dup, 1) := by decide +kernel
theorem dX12_opens_23 : decode cX12_opens 23 = .ok (.getfield 317, 3) := by decide +kernel
theorem dX12_opens_26 : decode cX12_opens 26 = .ok (.iconst 1, 1) := by decide +kernel
theorem dX12_opens_27 : decode cX12_opens 27 = .ok (.iadd, 1) := by decide +kernel
theorem dX12_opens_28 : decode cX12_opens 28 = .ok (.putfield 317, 3) := by decide +kernel
theorem dX12_opens_31 : decode cX12_opens 31 = .ok (.aload_n 0, 1) := by decide +kernel
theorem dX12_opens_32 : decode cX12_opens 32 = .ok (.dup, 1) := by decide +kernel
theorem dX12_opens_33 : decode cX12_opens 33 = .ok (.getfield 279, 3) := by decide +kernel
theorem dX12_opens_36 : decode cX12_opens 36 = .ok (.iconst 1, 1) := by decide +kernel
theorem dX12_opens_37 : decode cX12_opens 37 = .ok (.iadd, 1) := by decide +kernel
theorem dX12_opens_38 : decode cX12_opens 38 = .ok (.putfield 279, 3) := by decide +kernel
theorem dX12_opens_41 : decode cX12_opens 41 = .ok (.return_, 1) := by decide +kernel
theorem dX12_beside_0 : decode cX12_beside 0 = .ok (.iload_n 1, 1) := by decide +kernel
theorem dX12_beside_1 : decode cX12_beside 1 = .ok (.tableswitch 74 0 2 #[27, 42, 57], 27) := by decide +kernel
theorem dX12_beside_28 : decode cX12_beside 28 = .ok (.iload_n 0, 1) := by decide +kernel
theorem dX12_beside_29 : decode cX12_beside 29 = .ok (.bipush 10, 2) := by decide +kernel
theorem dX12_beside_31 : decode cX12_beside 31 = .ok (.if_icmp .lt 10, 3) := by decide +kernel
theorem dX12_beside_34 : decode cX12_beside 34 = .ok (.iload_n 0, 1) := by decide +kernel
theorem dX12_beside_35 : decode cX12_beside 35 = .ok (.bipush 10, 2) := by decide +kernel
theorem dX12_beside_37 : decode cX12_beside 37 = .ok (.isub, 1) := by decide +kernel
theorem dX12_beside_38 : decode cX12_beside 38 = .ok (.goto 4, 3) := by decide +kernel
theorem dX12_beside_41 : decode cX12_beside 41 = .ok (.iconst (-1), 1) := by decide +kernel
theorem dX12_beside_42 : decode cX12_beside 42 = .ok (.ireturn, 1) := by decide +kernel
theorem dX12_beside_43 : decode cX12_beside 43 = .ok (.iload_n 0, 1) := by decide +kernel
theorem dX12_beside_44 : decode cX12_beside 44 = .ok (.bipush 10, 2) := by decide +kernel
theorem dX12_beside_46 : decode cX12_beside 46 = .ok (.irem, 1) := by decide +kernel
theorem dX12_beside_47 : decode cX12_beside 47 = .ok (.ifCond .le 9, 3) := by decide +kernel
theorem dX12_beside_50 : decode cX12_beside 50 = .ok (.iload_n 0, 1) := by decide +kernel
theorem dX12_beside_51 : decode cX12_beside 51 = .ok (.iconst 1, 1) := by decide +kernel
theorem dX12_beside_52 : decode cX12_beside 52 = .ok (.isub, 1) := by decide +kernel
theorem dX12_beside_53 : decode cX12_beside 53 = .ok (.goto 4, 3) := by decide +kernel
theorem dX12_beside_56 : decode cX12_beside 56 = .ok (.iconst (-1), 1) := by decide +kernel
theorem dX12_beside_57 : decode cX12_beside 57 = .ok (.ireturn, 1) := by decide +kernel
theorem dX12_beside_58 : decode cX12_beside 58 = .ok (.iload_n 0, 1) := by decide +kernel
theorem dX12_beside_59 : decode cX12_beside 59 = .ok (.bipush 10, 2) := by decide +kernel
theorem dX12_beside_61 : decode cX12_beside 61 = .ok (.irem, 1) := by decide +kernel
theorem dX12_beside_62 : decode cX12_beside 62 = .ok (.bipush 9, 2) := by decide +kernel
theorem dX12_beside_64 : decode cX12_beside 64 = .ok (.if_icmp .ge 9, 3) := by decide +kernel
theorem dX12_beside_67 : decode cX12_beside 67 = .ok (.iload_n 0, 1) := by decide +kernel
theorem dX12_beside_68 : decode cX12_beside 68 = .ok (.iconst 1, 1) := by decide +kernel
theorem dX12_beside_69 : decode cX12_beside 69 = .ok (.iadd, 1) := by decide +kernel
theorem dX12_beside_70 : decode cX12_beside 70 = .ok (.goto 4, 3) := by decide +kernel
theorem dX12_beside_73 : decode cX12_beside 73 = .ok (.iconst (-1), 1) := by decide +kernel
theorem dX12_beside_74 : decode cX12_beside 74 = .ok (.ireturn, 1) := by decide +kernel
theorem dX12_beside_75 : decode cX12_beside 75 = .ok (.iload_n 0, 1) := by decide +kernel
theorem dX12_beside_76 : decode cX12_beside 76 = .ok (.bipush 90, 2) := by decide +kernel
theorem dX12_beside_78 : decode cX12_beside 78 = .ok (.if_icmp .ge 10, 3) := by decide +kernel
theorem dX12_beside_81 : decode cX12_beside 81 = .ok (.iload_n 0, 1) := by decide +kernel
theorem dX12_beside_82 : decode cX12_beside 82 = .ok (.bipush 10, 2) := by decide +kernel
theorem dX12_beside_84 : decode cX12_beside 84 = .ok (.iadd, 1) := by decide +kernel
theorem dX12_beside_85 : decode cX12_beside 85 = .ok (.goto 4, 3) := by decide +kernel
theorem dX12_beside_88 : decode cX12_beside 88 = .ok (.iconst (-1), 1) := by decide +kernel
theorem dX12_beside_89 : decode cX12_beside 89 = .ok (.ireturn, 1) := by decide +kernel
theorem dX12_c_0 : decode cX12_c 0 = .ok (.aload_n 0, 1) := by decide +kernel
theorem dX12_c_1 : decode cX12_c 1 = .ok (.getfield 13, 3) := by decide +kernel
theorem dX12_c_4 : decode cX12_c 4 = .ok (.bipush 15, 2) := by decide +kernel
theorem dX12_c_6 : decode cX12_c 6 = .ok (.iload_n 1, 1) := by decide +kernel
theorem dX12_c_7 : decode cX12_c 7 = .ok (.imul, 1) := by decide +kernel
theorem dX12_c_8 : decode cX12_c 8 = .ok (.iload_n 2, 1) := by decide +kernel
theorem dX12_c_9 : decode cX12_c 9 = .ok (.iadd, 1) := by decide +kernel
theorem dX12_c_10 : decode cX12_c 10 = .ok (.iaload, 1) := by decide +kernel
theorem dX12_c_11 : decode cX12_c 11 = .ok (.ireturn, 1) := by decide +kernel
theorem dX12_g_0 : decode cX12_g 0 = .ok (.aload_n 0, 1) := by decide +kernel
theorem dX12_g_1 : decode cX12_g 1 = .ok (.getfield 13, 3) := by decide +kernel
theorem dX12_g_4 : decode cX12_g 4 = .ok (.sipush 4300, 3) := by decide +kernel
theorem dX12_g_7 : decode cX12_g 7 = .ok (.iload_n 1, 1) := by decide +kernel
theorem dX12_g_8 : decode cX12_g 8 = .ok (.iadd, 1) := by decide +kernel
theorem dX12_g_9 : decode cX12_g 9 = .ok (.iaload, 1) := by decide +kernel
theorem dX12_g_10 : decode cX12_g 10 = .ok (.ireturn, 1) := by decide +kernel
theorem dX12_day_0 : decode cX12_day 0 = .ok (.aload_n 0, 1) := by decide +kernel
theorem dX12_day_1 : decode cX12_day 1 = .ok (.iconst 0, 1) := by decide +kernel
theorem dX12_day_2 : decode cX12_day 2 = .ok (.invokevirtual 101, 3) := by decide +kernel
theorem dX12_day_5 : decode cX12_day 5 = .ok (.bipush 24, 2) := by decide +kernel
theorem dX12_day_7 : decode cX12_day 7 = .ok (.idiv, 1) := by decide +kernel
theorem dX12_day_8 : decode cX12_day 8 = .ok (.ireturn, 1) := by decide +kernel
theorem dX12_depthAt_0 : decode cX12_depthAt 0 = .ok (.aload_n 0, 1) := by decide +kernel
theorem dX12_depthAt_1 : decode cX12_depthAt 1 = .ok (.aload_n 0, 1) := by decide +kernel
theorem dX12_depthAt_2 : decode cX12_depthAt 2 = .ok (.getfield 13, 3) := by decide +kernel
theorem dX12_depthAt_5 : decode cX12_depthAt 5 = .ok (.iload_n 1, 1) := by decide +kernel
theorem dX12_depthAt_6 : decode cX12_depthAt 6 = .ok (.iconst 0, 1) := by decide +kernel
theorem dX12_depthAt_7 : decode cX12_depthAt 7 = .ok (.iadd, 1) := by decide +kernel
theorem dX12_depthAt_8 : decode cX12_depthAt 8 = .ok (.iaload, 1) := by decide +kernel
theorem dX12_depthAt_9 : decode cX12_depthAt 9 = .ok (.iconst 0, 1) := by decide +kernel
theorem dX12_depthAt_10 : decode cX12_depthAt 10 = .ok (.invokevirtual 117, 3) := by decide +kernel
theorem dX12_depthAt_13 : decode cX12_depthAt 13 = .ok (.aload_n 0, 1) := by decide +kernel
theorem dX12_depthAt_14 : decode cX12_depthAt 14 = .ok (.getfield 13, 3) := by decide +kernel
theorem dX12_depthAt_17 : decode cX12_depthAt 17 = .ok (.iload_n 1, 1) := by decide +kernel
theorem dX12_depthAt_18 : decode cX12_depthAt 18 = .ok (.iconst 1, 1) := by decide +kernel
theorem dX12_depthAt_19 : decode cX12_depthAt 19 = .ok (.iadd, 1) := by decide +kernel
theorem dX12_depthAt_20 : decode cX12_depthAt 20 = .ok (.iaload, 1) := by decide +kernel
theorem dX12_depthAt_21 : decode cX12_depthAt 21 = .ok (.isub, 1) := by decide +kernel
theorem dX12_depthAt_22 : decode cX12_depthAt 22 = .ok (.ireturn, 1) := by decide +kernel
theorem dX12_l_0 : decode cX12_l 0 = .ok (.aload_n 0, 1) := by decide +kernel
theorem dX12_l_1 : decode cX12_l 1 = .ok (.getfield 13, 3) := by decide +kernel
theorem dX12_l_4 : decode cX12_l 4 = .ok (.sipush 3300, 3) := by decide +kernel
theorem dX12_l_7 : decode cX12_l 7 = .ok (.bipush 125, 2) := by decide +kernel
theorem dX12_l_9 : decode cX12_l 9 = .ok (.iload_n 1, 1) := by decide +kernel
theorem dX12_l_10 : decode cX12_l 10 = .ok (.imul, 1) := by decide +kernel
theorem dX12_l_11 : decode cX12_l 11 = .ok (.iadd, 1) := by decide +kernel
theorem dX12_l_12 : decode cX12_l 12 = .ok (.iload_n 2, 1) := by decide +kernel
theorem dX12_l_13 : decode cX12_l 13 = .ok (.iadd, 1) := by decide +kernel
theorem dX12_l_14 : decode cX12_l 14 = .ok (.iaload, 1) := by decide +kernel
theorem dX12_l_15 : decode cX12_l 15 = .ok (.ireturn, 1) := by decide +kernel
theorem dX12_spot_0 : decode cX12_spot 0 = .ok (.sipush 3300, 3) := by decide +kernel
theorem dX12_spot_3 : decode cX12_spot 3 = .ok (.bipush 125, 2) := by decide +kernel
theorem dX12_spot_5 : decode cX12_spot 5 = .ok (.iload_n 1, 1) := by decide +kernel
theorem dX12_spot_6 : decode cX12_spot 6 = .ok (.imul, 1) := by decide +kernel
theorem dX12_spot_7 : decode cX12_spot 7 = .ok (.iadd, 1) := by decide +kernel
theorem dX12_spot_8 : decode cX12_spot 8 = .ok (.iconst 4, 1) := by decide +kernel
theorem dX12_spot_9 : decode cX12_spot 9 = .ok (.iadd, 1) := by decide +kernel
theorem dX12_spot_10 : decode cX12_spot 10 = .ok (.bipush 6, 2) := by decide +kernel
theorem dX12_spot_12 : decode cX12_spot 12 = .ok (.iload_n 2, 1) := by decide +kernel
theorem dX12_spot_13 : decode cX12_spot 13 = .ok (.imul, 1) := by decide +kernel
theorem dX12_spot_14 : decode cX12_spot 14 = .ok (.iadd, 1) := by decide +kernel
theorem dX12_spot_15 : decode cX12_spot 15 = .ok (.ireturn, 1) := by decide +kernel
theorem dX12_placeOn_0 : decode cX12_placeOn 0 = .ok (.iconst 0, 1) := by decide +kernel
theorem dX12_placeOn_1 : decode cX12_placeOn 1 = .ok (.istore_n 3, 1) := by decide +kernel
theorem dX12_placeOn_2 : decode cX12_placeOn 2 = .ok (.iload_n 3, 1) := by decide +kernel
theorem dX12_placeOn_3 : decode cX12_placeOn 3 = .ok (.aload_n 0, 1) := by decide +kernel
theorem dX12_placeOn_4 : decode cX12_placeOn 4 = .ok (.iload_n 1, 1) := by decide +kernel
theorem dX12_placeOn_5 : decode cX12_placeOn 5 = .ok (.iconst 0, 1) := by decide +kernel
theorem dX12_placeOn_6 : decode cX12_placeOn 6 = .ok (.invokevirtual 193, 3) := by decide +kernel
theorem dX12_placeOn_9 : decode cX12_placeOn 9 = .ok (.if_icmp .ge 28, 3) := by decide +kernel
theorem dX12_placeOn_12 : decode cX12_placeOn 12 = .ok (.aload_n 0, 1) := by decide +kernel
theorem dX12_placeOn_13 : decode cX12_placeOn 13 = .ok (.getfield 13, 3) := by decide +kernel
theorem dX12_placeOn_16 : decode cX12_placeOn 16 = .ok (.aload_n 0, 1) := by decide +kernel
theorem dX12_placeOn_17 : decode cX12_placeOn 17 = .ok (.iload_n 1, 1) := by decide +kernel
theorem dX12_placeOn_18 : decode cX12_placeOn 18 = .ok (.iload_n 3, 1) := by decide +kernel
theorem dX12_placeOn_19 : decode cX12_placeOn 19 = .ok (.invokevirtual 185, 3) := by decide +kernel
theorem dX12_placeOn_22 : decode cX12_placeOn 22 = .ok (.iconst 0, 1) := by decide +kernel
theorem dX12_placeOn_23 : decode cX12_placeOn 23 = .ok (.iadd, 1) := by decide +kernel
theorem dX12_placeOn_24 : decode cX12_placeOn 24 = .ok (.iaload, 1) := by decide +kernel
theorem dX12_placeOn_25 : decode cX12_placeOn 25 = .ok (.iload_n 2, 1) := by decide +kernel
theorem dX12_placeOn_26 : decode cX12_placeOn 26 = .ok (.if_icmp .ne 5, 3) := by decide +kernel
theorem dX12_placeOn_29 : decode cX12_placeOn 29 = .ok (.iload_n 3, 1) := by decide +kernel
theorem dX12_placeOn_30 : decode cX12_placeOn 30 = .ok (.ireturn, 1) := by decide +kernel
theorem dX12_placeOn_31 : decode cX12_placeOn 31 = .ok (.iinc 3 1, 3) := by decide +kernel
theorem dX12_placeOn_34 : decode cX12_placeOn 34 = .ok (.goto (-32), 3) := by decide +kernel
theorem dX12_placeOn_37 : decode cX12_placeOn 37 = .ok (.iconst (-1), 1) := by decide +kernel
theorem dX12_placeOn_38 : decode cX12_placeOn 38 = .ok (.ireturn, 1) := by decide +kernel
theorem dX12_greatest_0 : decode cX12_greatest 0 = .ok (.iconst 0, 1) := by decide +kernel
theorem dX12_greatest_1 : decode cX12_greatest 1 = .ok (.istore_n 1, 1) := by decide +kernel
theorem dX12_greatest_2 : decode cX12_greatest 2 = .ok (.iconst 0, 1) := by decide +kernel
theorem dX12_greatest_3 : decode cX12_greatest 3 = .ok (.istore_n 2, 1) := by decide +kernel
theorem dX12_greatest_4 : decode cX12_greatest 4 = .ok (.iconst 0, 1) := by decide +kernel
theorem dX12_greatest_5 : decode cX12_greatest 5 = .ok (.istore_n 3, 1) := by decide +kernel
theorem dX12_greatest_6 : decode cX12_greatest 6 = .ok (.iload_n 3, 1) := by decide +kernel
theorem dX12_greatest_7 : decode cX12_greatest 7 = .ok (.aload_n 0, 1) := by decide +kernel
theorem dX12_greatest_8 : decode cX12_greatest 8 = .ok (.bipush 15, 2) := by decide +kernel
theorem dX12_greatest_10 : decode cX12_greatest 10 = .ok (.invokevirtual 101, 3) := by decide +kernel
theorem dX12_greatest_13 : decode cX12_greatest 13 = .ok (.if_icmp .ge 61, 3) := by decide +kernel
theorem dX12_greatest_16 : decode cX12_greatest 16 = .ok (.aload_n 0, 1) := by decide +kernel
theorem dX12_greatest_17 : decode cX12_greatest 17 = .ok (.iload_n 3, 1) := by decide +kernel
theorem dX12_greatest_18 : decode cX12_greatest 18 = .ok (.aload_n 0, 1) := by decide +kernel
theorem dX12_greatest_19 : decode cX12_greatest 19 = .ok (.getfield 292, 3) := by decide +kernel
theorem dX12_greatest_22 : decode cX12_greatest 22 = .ok (.invokevirtual 230, 3) := by decide +kernel
theorem dX12_greatest_25 : decode cX12_greatest 25 = .ok (.istore 4, 2) := by decide +kernel
theorem dX12_greatest_27 : decode cX12_greatest 27 = .ok (.iload 4, 2) := by decide +kernel
theorem dX12_greatest_29 : decode cX12_greatest 29 = .ok (.iconst (-1), 1) := by decide +kernel
theorem dX12_greatest_30 : decode cX12_greatest 30 = .ok (.if_icmp .ne 6, 3) := by decide +kernel
theorem dX12_greatest_33 : decode cX12_greatest 33 = .ok (.goto 35, 3) := by decide +kernel
theorem dX12_greatest_36 : decode cX12_greatest 36 = .ok (.aload_n 0, 1) := by decide +kernel
theorem dX12_greatest_37 : decode cX12_greatest 37 = .ok (.aload_n 0, 1) := by decide +kernel
theorem dX12_greatest_38 : decode cX12_greatest 38 = .ok (.iload_n 3, 1) := by decide +kernel
theorem dX12_greatest_39 : decode cX12_greatest 39 = .ok (.iload 4, 2) := by decide +kernel
theorem dX12_greatest_41 : decode cX12_greatest 41 = .ok (.invokevirtual 185, 3) := by decide +kernel
theorem dX12_greatest_44 : decode cX12_greatest 44 = .ok (.invokevirtual 204, 3) := by decide +kernel
theorem dX12_greatest_47 : decode cX12_greatest 47 = .ok (.istore 5, 2) := by decide +kernel
theorem dX12_greatest_49 : decode cX12_greatest 49 = .ok (.iload_n 1, 1) := by decide +kernel
theorem dX12_greatest_50 : decode cX12_greatest 50 = .ok (.ifCond .eq 9, 3) := by decide +kernel
theorem dX12_greatest_53 : decode cX12_greatest 53 = .ok (.iload 5, 2) := by decide +kernel
theorem dX12_greatest_55 : decode cX12_greatest 55 = .ok (.iload_n 2, 1) := by decide +kernel
theorem dX12_greatest_56 : decode cX12_greatest 56 = .ok (.if_icmp .le 8, 3) := by decide +kernel
theorem dX12_greatest_59 : decode cX12_greatest 59 = .ok (.iload 5, 2) := by decide +kernel
theorem dX12_greatest_61 : decode cX12_greatest 61 = .ok (.goto 4, 3) := by decide +kernel
theorem dX12_greatest_64 : decode cX12_greatest 64 = .ok (.iload_n 2, 1) := by decide +kernel
theorem dX12_greatest_65 : decode cX12_greatest 65 = .ok (.istore_n 2, 1) := by decide +kernel
theorem dX12_greatest_66 : decode cX12_greatest 66 = .ok (.iconst 1, 1) := by decide +kernel
theorem dX12_greatest_67 : decode cX12_greatest 67 = .ok (.istore_n 1, 1) := by decide +kernel
theorem dX12_greatest_68 : decode cX12_greatest 68 = .ok (.iinc 3 1, 3) := by decide +kernel
theorem dX12_greatest_71 : decode cX12_greatest 71 = .ok (.goto (-65), 3) := by decide +kernel
theorem dX12_greatest_74 : decode cX12_greatest 74 = .ok (.iload_n 2, 1) := by decide +kernel
theorem dX12_greatest_75 : decode cX12_greatest 75 = .ok (.ireturn, 1) := by decide +kernel
theorem dX12_inWork_0 : decode cX12_inWork 0 = .ok (.aload_n 0, 1) := by decide +kernel
theorem dX12_inWork_1 : decode cX12_inWork 1 = .ok (.iload_n 1, 1) := by decide +kernel
theorem dX12_inWork_2 : decode cX12_inWork 2 = .ok (.iconst 0, 1) := by decide +kernel
theorem dX12_inWork_3 : decode cX12_inWork 3 = .ok (.invokevirtual 193, 3) := by decide +kernel
theorem dX12_inWork_6 : decode cX12_inWork 6 = .ok (.iconst 1, 1) := by decide +kernel
theorem dX12_inWork_7 : decode cX12_inWork 7 = .ok (.isub, 1) := by decide +kernel
theorem dX12_inWork_8 : decode cX12_inWork 8 = .ok (.istore_n 2, 1) := by decide +kernel
theorem dX12_inWork_9 : decode cX12_inWork 9 = .ok (.iload_n 2, 1) := by decide +kernel
theorem dX12_inWork_10 : decode cX12_inWork 10 = .ok (.ifCond .lt 29, 3) := by decide +kernel
theorem dX12_inWork_13 : decode cX12_inWork 13 = .ok (.aload_n 0, 1) := by decide +kernel
theorem dX12_inWork_14 : decode cX12_inWork 14 = .ok (.getfield 13, 3) := by decide +kernel
theorem dX12_inWork_17 : decode cX12_inWork 17 = .ok (.aload_n 0, 1) := by decide +kernel
theorem dX12_inWork_18 : decode cX12_inWork 18 = .ok (.iload_n 1, 1) := by decide +kernel
theorem dX12_inWork_19 : decode cX12_inWork 19 = .ok (.iload_n 2, 1) := by decide +kernel
theorem dX12_inWork_20 : decode cX12_inWork 20 = .ok (.invokevirtual 185, 3) := by decide +kernel
theorem dX12_inWork_23 : decode cX12_inWork 23 = .ok (.iconst 3, 1) := by decide +kernel
theorem dX12_inWork_24 : decode cX12_inWork 24 = .ok (.iadd, 1) := by decide +kernel
theorem dX12_inWork_25 : decode cX12_inWork 25 = .ok (.iaload, 1) := by decide +kernel
theorem dX12_inWork_26 : decode cX12_inWork 26 = .ok (.bipush (-9), 2) := by decide +kernel
theorem dX12_inWork_28 : decode cX12_inWork 28 = .ok (.if_icmp .ne 5, 3) := by decide +kernel
theorem dX12_inWork_31 : decode cX12_inWork 31 = .ok (.iload_n 2, 1) := by decide +kernel
theorem dX12_inWork_32 : decode cX12_inWork 32 = .ok (.ireturn, 1) := by decide +kernel
theorem dX12_inWork_33 : decode cX12_inWork 33 = .ok (.iinc 2 (-1), 3) := by decide +kernel
theorem dX12_inWork_36 : decode cX12_inWork 36 = .ok (.goto (-27), 3) := by decide +kernel
theorem dX12_inWork_39 : decode cX12_inWork 39 = .ok (.iconst (-1), 1) := by decide +kernel
theorem dX12_inWork_40 : decode cX12_inWork 40 = .ok (.ireturn, 1) := by decide +kernel
theorem dX12_isShut_0 : decode cX12_isShut 0 = .ok (.iconst 0, 1) := by decide +kernel
theorem dX12_isShut_1 : decode cX12_isShut 1 = .ok (.istore_n 2, 1) := by decide +kernel
theorem dX12_isShut_2 : decode cX12_isShut 2 = .ok (.iload_n 2, 1) := by decide +kernel
theorem dX12_isShut_3 : decode cX12_isShut 3 = .ok (.aload_n 0, 1) := by decide +kernel
theorem dX12_isShut_4 : decode cX12_isShut 4 = .ok (.bipush 15, 2) := by decide +kernel
theorem dX12_isShut_6 : decode cX12_isShut 6 = .ok (.invokevirtual 101, 3) := by decide +kernel
theorem dX12_isShut_9 : decode cX12_isShut 9 = .ok (.if_icmp .ge 52, 3) := by decide +kernel
theorem dX12_isShut_12 : decode cX12_isShut 12 = .ok (.aload_n 0, 1) := by decide +kernel
theorem dX12_isShut_13 : decode cX12_isShut 13 = .ok (.iload_n 2, 1) := by decide +kernel
theorem dX12_isShut_14 : decode cX12_isShut 14 = .ok (.iconst 3, 1) := by decide +kernel
theorem dX12_isShut_15 : decode cX12_isShut 15 = .ok (.invokevirtual 193, 3) := by decide +kernel
theorem dX12_isShut_18 : decode cX12_isShut 18 = .ok (.ifCond .le 11, 3) := by decide +kernel
theorem dX12_isShut_21 : decode cX12_isShut 21 = .ok (.aload_n 0, 1) := by decide +kernel
theorem dX12_isShut_22 : decode cX12_isShut 22 = .ok (.iload_n 2, 1) := by decide +kernel
theorem dX12_isShut_23 : decode cX12_isShut 23 = .ok (.invokevirtual 214, 3) := by decide +kernel
theorem dX12_isShut_26 : decode cX12_isShut 26 = .ok (.goto 4, 3) := by decide +kernel
theorem dX12_isShut_29 : decode cX12_isShut 29 = .ok (.iconst (-1), 1) := by decide +kernel
theorem dX12_isShut_30 : decode cX12_isShut 30 = .ok (.istore_n 3, 1) := by decide +kernel
theorem dX12_isShut_31 : decode cX12_isShut 31 = .ok (.iload_n 3, 1) := by decide +kernel
theorem dX12_isShut_32 : decode cX12_isShut 32 = .ok (.iconst (-1), 1) := by decide +kernel
theorem dX12_isShut_33 : decode cX12_isShut 33 = .ok (.if_icmp .eq 22, 3) := by decide +kernel
theorem dX12_isShut_36 : decode cX12_isShut 36 = .ok (.aload_n 0, 1) := by decide +kernel
theorem dX12_isShut_37 : decode cX12_isShut 37 = .ok (.getfield 13, 3) := by decide +kernel
theorem dX12_isShut_40 : decode cX12_isShut 40 = .ok (.aload_n 0, 1) := by decide +kernel
theorem dX12_isShut_41 : decode cX12_isShut 41 = .ok (.iload_n 2, 1) := by decide +kernel
theorem dX12_isShut_42 : decode cX12_isShut 42 = .ok (.iload_n 3, 1) := by decide +kernel
theorem dX12_isShut_43 : decode cX12_isShut 43 = .ok (.invokevirtual 185, 3) := by decide +kernel
theorem dX12_isShut_46 : decode cX12_isShut 46 = .ok (.iconst 0, 1) := by decide +kernel
theorem dX12_isShut_47 : decode cX12_isShut 47 = .ok (.iadd, 1) := by decide +kernel
theorem dX12_isShut_48 : decode cX12_isShut 48 = .ok (.iaload, 1) := by decide +kernel
theorem dX12_isShut_49 : decode cX12_isShut 49 = .ok (.iload_n 1, 1) := by decide +kernel
theorem dX12_isShut_50 : decode cX12_isShut 50 = .ok (.if_icmp .ne 5, 3) := by decide +kernel
theorem dX12_isShut_53 : decode cX12_isShut 53 = .ok (.iconst 1, 1) := by decide +kernel
theorem dX12_isShut_54 : decode cX12_isShut 54 = .ok (.ireturn, 1) := by decide +kernel
theorem dX12_isShut_55 : decode cX12_isShut 55 = .ok (.iinc 2 1, 3) := by decide +kernel
theorem dX12_isShut_58 : decode cX12_isShut 58 = .ok (.goto (-56), 3) := by decide +kernel
theorem dX12_isShut_61 : decode cX12_isShut 61 = .ok (.iconst 0, 1) := by decide +kernel
theorem dX12_isShut_62 : decode cX12_isShut 62 = .ok (.ireturn, 1) := by decide +kernel
theorem dX12_levelAt_0 : decode cX12_levelAt 0 = .ok (.aload_n 0, 1) := by decide +kernel
theorem dX12_levelAt_1 : decode cX12_levelAt 1 = .ok (.getfield 82, 3) := by decide +kernel
theorem dX12_levelAt_4 : decode cX12_levelAt 4 = .ok (.ifCond .ne 7, 3) := by decide +kernel
theorem dX12_levelAt_7 : decode cX12_levelAt 7 = .ok (.iconst 0, 1) := by decide +kernel
theorem dX12_levelAt_8 : decode cX12_levelAt 8 = .ok (.goto 14, 3) := by decide +kernel
theorem dX12_levelAt_11 : decode cX12_levelAt 11 = .ok (.aload_n 0, 1) := by decide +kernel
theorem dX12_levelAt_12 : decode cX12_levelAt 12 = .ok (.getfield 17, 3) := by decide +kernel
theorem dX12_levelAt_15 : decode cX12_levelAt 15 = .ok (.iload_n 1, 1) := by decide +kernel
theorem dX12_levelAt_16 : decode cX12_levelAt 16 = .ok (.aload_n 0, 1) := by decide +kernel
theorem dX12_levelAt_17 : decode cX12_levelAt 17 = .ok (.getfield 82, 3) := by decide +kernel
theorem dX12_levelAt_20 : decode cX12_levelAt 20 = .ok (.irem, 1) := by decide +kernel
theorem dX12_levelAt_21 : decode cX12_levelAt 21 = .ok (.iaload, 1) := by decide +kernel
theorem dX12_levelAt_22 : decode cX12_levelAt 22 = .ok (.ireturn, 1) := by decide +kernel
theorem dX12_fact_0 : decode cX12_fact 0 = .ok (.iconst 0, 1) := by decide +kernel
theorem dX12_fact_1 : decode cX12_fact 1 = .ok (.istore_n 2, 1) := by decide +kernel
theorem dX12_fact_2 : decode cX12_fact 2 = .ok (.iload_n 1, 1) := by decide +kernel
theorem dX12_fact_3 : decode cX12_fact 3 = .ok (.tableswitch 246 99 119 #[177, 137, 246, 166, 246, 97, 246, 246, 142, 246, 199, 246, 147, 117, 246, 246, 107, 127, 246, 246, 156], 97) := by decide +kernel
theorem dX12_fact_100 : decode cX12_fact 100 = .ok (.aload_n 0, 1) := by decide +kernel
theorem dX12_fact_101 : decode cX12_fact 101 = .ok (.aload_n 0, 1) := by decide +kernel
theorem dX12_fact_102 : decode cX12_fact 102 = .ok (.getfield 292, 3) := by decide +kernel
theorem dX12_fact_105 : decode cX12_fact 105 = .ok (.iconst 0, 1) := by decide +kernel
theorem dX12_fact_106 : decode cX12_fact 106 = .ok (.invokevirtual 117, 3) := by decide +kernel
theorem dX12_fact_109 : decode cX12_fact 109 = .ok (.ireturn, 1) := by decide +kernel
theorem dX12_fact_110 : decode cX12_fact 110 = .ok (.aload_n 0, 1) := by decide +kernel
theorem dX12_fact_111 : decode cX12_fact 111 = .ok (.aload_n 0, 1) := by decide +kernel
theorem dX12_fact_112 : decode cX12_fact 112 = .ok (.getfield 292, 3) := by decide +kernel
theorem dX12_fact_115 : decode cX12_fact 115 = .ok (.iconst 1, 1) := by decide +kernel
theorem dX12_fact_116 : decode cX12_fact 116 = .ok (.invokevirtual 117, 3) := by decide +kernel
theorem dX12_fact_119 : decode cX12_fact 119 = .ok (.ireturn, 1) := by decide +kernel
theorem dX12_fact_120 : decode cX12_fact 120 = .ok (.aload_n 0, 1) := by decide +kernel
theorem dX12_fact_121 : decode cX12_fact 121 = .ok (.aload_n 0, 1) := by decide +kernel
theorem dX12_fact_122 : decode cX12_fact 122 = .ok (.getfield 292, 3) := by decide +kernel
theorem dX12_fact_125 : decode cX12_fact 125 = .ok (.iconst 2, 1) := by decide +kernel
theorem dX12_fact_126 : decode cX12_fact 126 = .ok (.invokevirtual 117, 3) := by decide +kernel
theorem dX12_fact_129 : decode cX12_fact 129 = .ok (.ireturn, 1) := by decide +kernel
theorem dX12_fact_130 : decode cX12_fact 130 = .ok (.aload_n 0, 1) := by decide +kernel
theorem dX12_fact_131 : decode cX12_fact 131 = .ok (.aload_n 0, 1) := by decide +kernel
theorem dX12_fact_132 : decode cX12_fact 132 = .ok (.getfield 292, 3) := by decide +kernel
theorem dX12_fact_135 : decode cX12_fact 135 = .ok (.iconst 3, 1) := by decide +kernel
theorem dX12_fact_136 : decode cX12_fact 136 = .ok (.invokevirtual 117, 3) := by decide +kernel
theorem dX12_fact_139 : decode cX12_fact 139 = .ok (.ireturn, 1) := by decide +kernel
theorem dX12_fact_140 : decode cX12_fact 140 = .ok (.aload_n 0, 1) := by decide +kernel
theorem dX12_fact_141 : decode cX12_fact 141 = .ok (.invokevirtual 295, 3) := by decide +kernel
theorem dX12_fact_144 : decode cX12_fact 144 = .ok (.ireturn, 1) := by decide +kernel
theorem dX12_fact_145 : decode cX12_fact 145 = .ok (.aload_n 0, 1) := by decide +kernel
theorem dX12_fact_146 : decode cX12_fact 146 = .ok (.invokevirtual 159, 3) := by decide +kernel
theorem dX12_fact_149 : decode cX12_fact 149 = .ok (.ireturn, 1) := by decide +kernel
theorem dX12_fact_150 : decode cX12_fact 150 = .ok (.aload_n 0, 1) := by decide +kernel
theorem dX12_fact_151 : decode cX12_fact 151 = .ok (.iconst 0, 1) := by decide +kernel
theorem dX12_fact_152 : decode cX12_fact 152 = .ok (.invokevirtual 101, 3) := by decide +kernel
theorem dX12_fact_155 : decode cX12_fact 155 = .ok (.bipush 24, 2) := by decide +kernel
theorem dX12_fact_157 : decode cX12_fact 157 = .ok (.irem, 1) := by decide +kernel
theorem dX12_fact_158 : decode cX12_fact 158 = .ok (.ireturn, 1) := by decide +kernel
theorem dX12_fact_159 : decode cX12_fact 159 = .ok (.aload_n 0, 1) := by decide +kernel
theorem dX12_fact_160 : decode cX12_fact 160 = .ok (.aload_n 0, 1) := by decide +kernel
theorem dX12_fact_161 : decode cX12_fact 161 = .ok (.iconst 0, 1) := by decide +kernel
theorem dX12_fact_162 : decode cX12_fact 162 = .ok (.invokevirtual 101, 3) := by decide +kernel
theorem dX12_fact_165 : decode cX12_fact 165 = .ok (.invokevirtual 138, 3) := by decide +kernel
theorem dX12_fact_168 : decode cX12_fact 168 = .ok (.ireturn, 1) := by decide +kernel
theorem dX12_fact_169 : decode cX12_fact 169 = .ok (.aload_n 0, 1) := by decide +kernel
theorem dX12_fact_170 : decode cX12_fact 170 = .ok (.aload_n 0, 1) := by decide +kernel
theorem dX12_fact_171 : decode cX12_fact 171 = .ok (.getfield 292, 3) := by decide +kernel
theorem dX12_fact_174 : decode cX12_fact 174 = .ok (.bipush 9, 2) := by decide +kernel
theorem dX12_fact_176 : decode cX12_fact 176 = .ok (.invokevirtual 117, 3) := by decide +kernel
theorem dX12_fact_179 : decode cX12_fact 179 = .ok (.ireturn, 1) := by decide +kernel
theorem dX12_fact_180 : decode cX12_fact 180 = .ok (.aload_n 0, 1) := by decide +kernel
theorem dX12_fact_181 : decode cX12_fact 181 = .ok (.aload_n 0, 1) := by decide +kernel
theorem dX12_fact_182 : decode cX12_fact 182 = .ok (.getfield 292, 3) := by decide +kernel
theorem dX12_fact_185 : decode cX12_fact 185 = .ok (.bipush 11, 2) := by decide +kernel
theorem dX12_fact_187 : decode cX12_fact 187 = .ok (.invokevirtual 117, 3) := by decide +kernel
theorem dX12_fact_190 : decode cX12_fact 190 = .ok (.aload_n 0, 1) := by decide +kernel
theorem dX12_fact_191 : decode cX12_fact 191 = .ok (.aload_n 0, 1) := by decide +kernel
theorem dX12_fact_192 : decode cX12_fact 192 = .ok (.getfield 292, 3) := by decide +kernel
theorem dX12_fact_195 : decode cX12_fact 195 = .ok (.bipush 12, 2) := by decide +kernel
theorem dX12_fact_197 : decode cX12_fact 197 = .ok (.invokevirtual 117, 3) := by decide +kernel
theorem dX12_fact_200 : decode cX12_fact 200 = .ok (.iadd, 1) := by decide +kernel
theorem dX12_fact_201 : decode cX12_fact 201 = .ok (.ireturn, 1) := by decide +kernel
theorem dX12_fact_202 : decode cX12_fact 202 = .ok (.iconst 0, 1) := by decide +kernel
theorem dX12_fact_203 : decode cX12_fact 203 = .ok (.istore_n 3, 1) := by decide +kernel
theorem dX12_fact_204 : decode cX12_fact 204 = .ok (.iload_n 3, 1) := by decide +kernel
theorem dX12_fact_205 : decode cX12_fact 205 = .ok (.aload_n 0, 1) := by decide +kernel
theorem dX12_fact_206 : decode cX12_fact 206 = .ok (.bipush 16, 2) := by decide +kernel
theorem dX12_fact_208 : decode cX12_fact 208 = .ok (.invokevirtual 101, 3) := by decide +kernel
theorem dX12_fact_211 : decode cX12_fact 211 = .ok (.if_icmp .ge 36, 3) := by decide +kernel
theorem dX12_fact_214 : decode cX12_fact 214 = .ok (.iload_n 2, 1) := by decide +kernel
theorem dX12_fact_215 : decode cX12_fact 215 = .ok (.aload_n 0, 1) := by decide +kernel
theorem dX12_fact_216 : decode cX12_fact 216 = .ok (.getfield 13, 3) := by decide +kernel
theorem dX12_fact_219 : decode cX12_fact 219 = .ok (.sipush 2500, 3) := by decide +kernel
theorem dX12_fact_222 : decode cX12_fact 222 = .ok (.iconst 4, 1) := by decide +kernel
theorem dX12_fact_223 : decode cX12_fact 223 = .ok (.iload_n 3, 1) := by decide +kernel
theorem dX12_fact_224 : decode cX12_fact 224 = .ok (.imul, 1) := by decide +kernel
theorem dX12_fact_225 : decode cX12_fact 225 = .ok (.iadd, 1) := by decide +kernel
theorem dX12_fact_226 : decode cX12_fact 226 = .ok (.iaload, 1) := by decide +kernel
theorem dX12_fact_227 : decode cX12_fact 227 = .ok (.aload_n 0, 1) := by decide +kernel
theorem dX12_fact_228 : decode cX12_fact 228 = .ok (.getfield 292, 3) := by decide +kernel
theorem dX12_fact_231 : decode cX12_fact 231 = .ok (.if_icmp .ne 7, 3) := by decide +kernel
theorem dX12_fact_234 : decode cX12_fact 234 = .ok (.iconst 1, 1) := by decide +kernel
theorem dX12_fact_235 : decode cX12_fact 235 = .ok (.goto 4, 3) := by decide +kernel
theorem dX12_fact_238 : decode cX12_fact 238 = .ok (.iconst 0, 1) := by decide +kernel
theorem dX12_fact_239 : decode cX12_fact 239 = .ok (.iadd, 1) := by decide +kernel
theorem dX12_fact_240 : decode cX12_fact 240 = .ok (.istore_n 2, 1) := by decide +kernel
theorem dX12_fact_241 : decode cX12_fact 241 = .ok (.iinc 3 1, 3) := by decide +kernel
theorem dX12_fact_244 : decode cX12_fact 244 = .ok (.goto (-40), 3) := by decide +kernel
theorem dX12_fact_247 : decode cX12_fact 247 = .ok (.iload_n 2, 1) := by decide +kernel
theorem dX12_fact_248 : decode cX12_fact 248 = .ok (.ireturn, 1) := by decide +kernel
theorem dX12_fact_249 : decode cX12_fact 249 = .ok (.iconst 0, 1) := by decide +kernel
theorem dX12_fact_250 : decode cX12_fact 250 = .ok (.istore_n 3, 1) := by decide +kernel
theorem dX12_fact_251 : decode cX12_fact 251 = .ok (.iload_n 3, 1) := by decide +kernel
theorem dX12_fact_252 : decode cX12_fact 252 = .ok (.iconst 4, 1) := by decide +kernel
theorem dX12_fact_253 : decode cX12_fact 253 = .ok (.if_icmp .ge 44, 3) := by decide +kernel
theorem dX12_fact_256 : decode cX12_fact 256 = .ok (.iload_n 2, 1) := by decide +kernel
theorem dX12_fact_257 : decode cX12_fact 257 = .ok (.aload_n 0, 1) := by decide +kernel
theorem dX12_fact_258 : decode cX12_fact 258 = .ok (.getfield 292, 3) := by decide +kernel
theorem dX12_fact_261 : decode cX12_fact 261 = .ok (.iload_n 3, 1) := by decide +kernel
theorem dX12_fact_262 : decode cX12_fact 262 = .ok (.invokestatic 173, 3) := by decide +kernel
theorem dX12_fact_265 : decode cX12_fact 265 = .ok (.iconst (-1), 1) := by decide +kernel
theorem dX12_fact_266 : decode cX12_fact 266 = .ok (.if_icmp .eq 22, 3) := by decide +kernel
theorem dX12_fact_269 : decode cX12_fact 269 = .ok (.aload_n 0, 1) := by decide +kernel
theorem dX12_fact_270 : decode cX12_fact 270 = .ok (.aload_n 0, 1) := by decide +kernel
theorem dX12_fact_271 : decode cX12_fact 271 = .ok (.getfield 292, 3) := by decide +kernel
theorem dX12_fact_274 : decode cX12_fact 274 = .ok (.iload_n 3, 1) := by decide +kernel
theorem dX12_fact_275 : decode cX12_fact 275 = .ok (.invokestatic 173, 3) := by decide +kernel
theorem dX12_fact_278 : decode cX12_fact 278 = .ok (.invokevirtual 125, 3) := by decide +kernel
theorem dX12_fact_281 : decode cX12_fact 281 = .ok (.ifCond .eq 7, 3) := by decide +kernel
theorem dX12_fact_284 : decode cX12_fact 284 = .ok (.iconst 1, 1) := by decide +kernel
theorem dX12_fact_285 : decode cX12_fact 285 = .ok (.goto 4, 3) := by decide +kernel
theorem dX12_fact_288 : decode cX12_fact 288 = .ok (.iconst 0, 1) := by decide +kernel
theorem dX12_fact_289 : decode cX12_fact 289 = .ok (.iadd, 1) := by decide +kernel
theorem dX12_fact_290 : decode cX12_fact 290 = .ok (.istore_n 2, 1) := by decide +kernel
theorem dX12_fact_291 : decode cX12_fact 291 = .ok (.iinc 3 1, 3) := by decide +kernel
theorem dX12_fact_294 : decode cX12_fact 294 = .ok (.goto (-43), 3) := by decide +kernel
theorem dX12_fact_297 : decode cX12_fact 297 = .ok (.iload_n 2, 1) := by decide +kernel
theorem dX12_fact_298 : decode cX12_fact 298 = .ok (.ireturn, 1) := by decide +kernel
theorem dX12_in_0 : decode cX12_in 0 = .ok (.lload_n 0, 1) := by decide +kernel
theorem dX12_in_1 : decode cX12_in 1 = .ok (.lload_n 2, 1) := by decide +kernel
theorem dX12_in_2 : decode cX12_in 2 = .ok (.lcmp, 1) := by decide +kernel
theorem dX12_in_3 : decode cX12_in 3 = .ok (.ifCond .lt 14, 3) := by decide +kernel
theorem dX12_in_6 : decode cX12_in 6 = .ok (.lload_n 0, 1) := by decide +kernel
theorem dX12_in_7 : decode cX12_in 7 = .ok (.lload 4, 2) := by decide +kernel
theorem dX12_in_9 : decode cX12_in 9 = .ok (.lcmp, 1) := by decide +kernel
theorem dX12_in_10 : decode cX12_in 10 = .ok (.ifCond .gt 7, 3) := by decide +kernel
theorem dX12_in_13 : decode cX12_in 13 = .ok (.iconst 1, 1) := by decide +kernel
theorem dX12_in_14 : decode cX12_in 14 = .ok (.goto 4, 3) := by decide +kernel
theorem dX12_in_17 : decode cX12_in 17 = .ok (.iconst 0, 1) := by decide +kernel
theorem dX12_in_18 : decode cX12_in 18 = .ok (.ireturn, 1) := by decide +kernel
theorem dX12_isLetter_0 : decode cX12_isLetter 0 = .ok (.iload_n 0, 1) := by decide +kernel
theorem dX12_isLetter_1 : decode cX12_isLetter 1 = .ok (.bipush 104, 2) := by decide +kernel
theorem dX12_isLetter_3 : decode cX12_isLetter 3 = .ok (.if_icmp .eq 69, 3) := by decide +kernel
theorem dX12_isLetter_6 : decode cX12_isLetter 6 = .ok (.iload_n 0, 1) := by decide +kernel
theorem dX12_isLetter_7 : decode cX12_isLetter 7 = .ok (.bipush 115, 2) := by decide +kernel
theorem dX12_isLetter_9 : decode cX12_isLetter 9 = .ok (.if_icmp .eq 63, 3) := by decide +kernel
theorem dX12_isLetter_12 : decode cX12_isLetter 12 = .ok (.iload_n 0, 1) := by decide +kernel
theorem dX12_isLetter_13 : decode cX12_isLetter 13 = .ok (.bipush 112, 2) := by decide +kernel
theorem dX12_isLetter_15 : decode cX12_isLetter 15 = .ok (.if_icmp .eq 57, 3) := by decide +kernel
theorem dX12_isLetter_18 : decode cX12_isLetter 18 = .ok (.iload_n 0, 1) := by decide +kernel
theorem dX12_isLetter_19 : decode cX12_isLetter 19 = .ok (.bipush 116, 2) := by decide +kernel
theorem dX12_isLetter_21 : decode cX12_isLetter 21 = .ok (.if_icmp .eq 51, 3) := by decide +kernel
theorem dX12_isLetter_24 : decode cX12_isLetter 24 = .ok (.iload_n 0, 1) := by decide +kernel
theorem dX12_isLetter_25 : decode cX12_isLetter 25 = .ok (.bipush 100, 2) := by decide +kernel
theorem dX12_isLetter_27 : decode cX12_isLetter 27 = .ok (.if_icmp .eq 45, 3) := by decide +kernel
theorem dX12_isLetter_30 : decode cX12_isLetter 30 = .ok (.iload_n 0, 1) := by decide +kernel
theorem dX12_isLetter_31 : decode cX12_isLetter 31 = .ok (.bipush 107, 2) := by decide +kernel
theorem dX12_isLetter_33 : decode cX12_isLetter 33 = .ok (.if_icmp .eq 39, 3) := by decide +kernel
theorem dX12_isLetter_36 : decode cX12_isLetter 36 = .ok (.iload_n 0, 1) := by decide +kernel
theorem dX12_isLetter_37 : decode cX12_isLetter 37 = .ok (.bipush 111, 2) := by decide +kernel
theorem dX12_isLetter_39 : decode cX12_isLetter 39 = .ok (.if_icmp .eq 33, 3) := by decide +kernel
theorem dX12_isLetter_42 : decode cX12_isLetter 42 = .ok (.iload_n 0, 1) := by decide +kernel
theorem dX12_isLetter_43 : decode cX12_isLetter 43 = .ok (.bipush 119, 2) := by decide +kernel
theorem dX12_isLetter_45 : decode cX12_isLetter 45 = .ok (.if_icmp .eq 27, 3) := by decide +kernel
theorem dX12_isLetter_48 : decode cX12_isLetter 48 = .ok (.iload_n 0, 1) := by decide +kernel
theorem dX12_isLetter_49 : decode cX12_isLetter 49 = .ok (.bipush 102, 2) := by decide +kernel
theorem dX12_isLetter_51 : decode cX12_isLetter 51 = .ok (.if_icmp .eq 21, 3) := by decide +kernel
theorem dX12_isLetter_54 : decode cX12_isLetter 54 = .ok (.iload_n 0, 1) := by decide +kernel
theorem dX12_isLetter_55 : decode cX12_isLetter 55 = .ok (.bipush 99, 2) := by decide +kernel
theorem dX12_isLetter_57 : decode cX12_isLetter 57 = .ok (.if_icmp .eq 15, 3) := by decide +kernel
theorem dX12_isLetter_60 : decode cX12_isLetter 60 = .ok (.iload_n 0, 1) := by decide +kernel
theorem dX12_isLetter_61 : decode cX12_isLetter 61 = .ok (.bipush 109, 2) := by decide +kernel
theorem dX12_isLetter_63 : decode cX12_isLetter 63 = .ok (.if_icmp .eq 9, 3) := by decide +kernel
theorem dX12_isLetter_66 : decode cX12_isLetter 66 = .ok (.iload_n 0, 1) := by decide +kernel
theorem dX12_isLetter_67 : decode cX12_isLetter 67 = .ok (.bipush 117, 2) := by decide +kernel
theorem dX12_isLetter_69 : decode cX12_isLetter 69 = .ok (.if_icmp .ne 7, 3) := by decide +kernel
theorem dX12_isLetter_72 : decode cX12_isLetter 72 = .ok (.iconst 1, 1) := by decide +kernel
theorem dX12_isLetter_73 : decode cX12_isLetter 73 = .ok (.goto 4, 3) := by decide +kernel
theorem dX12_isLetter_76 : decode cX12_isLetter 76 = .ok (.iconst 0, 1) := by decide +kernel
theorem dX12_isLetter_77 : decode cX12_isLetter 77 = .ok (.ireturn, 1) := by decide +kernel
theorem dX12_unit_0 : decode cX12_unit 0 = .ok (.aload_n 0, 1) := by decide +kernel
theorem dX12_unit_1 : decode cX12_unit 1 = .ok (.invokevirtual 289, 3) := by decide +kernel
theorem dX12_unit_4 : decode cX12_unit 4 = .ok (.invokestatic 298, 3) := by decide +kernel
theorem dX12_unit_7 : decode cX12_unit 7 = .ok (.ifCond .eq 24, 3) := by decide +kernel
theorem dX12_unit_10 : decode cX12_unit 10 = .ok (.aload_n 0, 1) := by decide +kernel
theorem dX12_unit_11 : decode cX12_unit 11 = .ok (.invokevirtual 289, 3) := by decide +kernel
theorem dX12_unit_14 : decode cX12_unit 14 = .ok (.istore_n 1, 1) := by decide +kernel
theorem dX12_unit_15 : decode cX12_unit 15 = .ok (.aload_n 0, 1) := by decide +kernel
theorem dX12_unit_16 : decode cX12_unit 16 = .ok (.dup, 1) := by decide +kernel
theorem dX12_unit_17 : decode cX12_unit 17 = .ok (.getfield 279, 3) := by decide +kernel
theorem dX12_unit_20 : decode cX12_unit 20 = .ok (.iconst 1, 1) := by decide +kernel
theorem dX12_unit_21 : decode cX12_unit 21 = .ok (.iadd, 1) := by decide +kernel
theorem dX12_unit_22 : decode cX12_unit 22 = .ok (.putfield 279, 3) := by decide +kernel
theorem dX12_unit_25 : decode cX12_unit 25 = .ok (.aload_n 0, 1) := by decide +kernel
theorem dX12_unit_26 : decode cX12_unit 26 = .ok (.iload_n 1, 1) := by decide +kernel
theorem dX12_unit_27 : decode cX12_unit 27 = .ok (.invokevirtual 301, 3) := by decide +kernel
theorem dX12_unit_30 : decode cX12_unit 30 = .ok (.ireturn, 1) := by decide +kernel
theorem dX12_unit_31 : decode cX12_unit 31 = .ok (.aload_n 0, 1) := by decide +kernel
theorem dX12_unit_32 : decode cX12_unit 32 = .ok (.invokevirtual 289, 3) := by decide +kernel
theorem dX12_unit_35 : decode cX12_unit 35 = .ok (.i2l, 1) := by decide +kernel
theorem dX12_unit_36 : decode cX12_unit 36 = .ok (.ldc2_w 304, 3) := by decide +kernel
theorem dX12_unit_39 : decode cX12_unit 39 = .ok (.ldc2_w 306, 3) := by decide +kernel
theorem dX12_unit_42 : decode cX12_unit 42 = .ok (.invokestatic 93, 3) := by decide +kernel
theorem dX12_unit_45 : decode cX12_unit 45 = .ok (.ifCond .ne 10, 3) := by decide +kernel
theorem dX12_unit_48 : decode cX12_unit 48 = .ok (.aload_n 0, 1) := by decide +kernel
theorem dX12_unit_49 : decode cX12_unit 49 = .ok (.iconst 1, 1) := by decide +kernel
theorem dX12_unit_50 : decode cX12_unit 50 = .ok (.putfield 285, 3) := by decide +kernel
theorem dX12_unit_53 : decode cX12_unit 53 = .ok (.iconst 0, 1) := by decide +kernel
theorem dX12_unit_54 : decode cX12_unit 54 = .ok (.ireturn, 1) := by decide +kernel
theorem dX12_unit_55 : decode cX12_unit 55 = .ok (.iconst 0, 1) := by decide +kernel
theorem dX12_unit_56 : decode cX12_unit 56 = .ok (.istore_n 1, 1) := by decide +kernel
theorem dX12_unit_57 : decode cX12_unit 57 = .ok (.iconst 0, 1) := by decide +kernel
theorem dX12_unit_58 : decode cX12_unit 58 = .ok (.istore_n 2, 1) := by decide +kernel
theorem dX12_unit_59 : decode cX12_unit 59 = .ok (.iload_n 2, 1) := by decide +kernel
theorem dX12_unit_60 : decode cX12_unit 60 = .ok (.iconst 4, 1) := by decide +kernel
theorem dX12_unit_61 : decode cX12_unit 61 = .ok (.if_icmp .ge 49, 3) := by decide +kernel
theorem dX12_unit_64 : decode cX12_unit 64 = .ok (.aload_n 0, 1) := by decide +kernel
theorem dX12_unit_65 : decode cX12_unit 65 = .ok (.invokevirtual 289, 3) := by decide +kernel
theorem dX12_unit_68 : decode cX12_unit 68 = .ok (.i2l, 1) := by decide +kernel
theorem dX12_unit_69 : decode cX12_unit 69 = .ok (.ldc2_w 304, 3) := by decide +kernel
theorem dX12_unit_72 : decode cX12_unit 72 = .ok (.ldc2_w 306, 3) := by decide +kernel
theorem dX12_unit_75 : decode cX12_unit 75 = .ok (.invokestatic 93, 3) := by decide +kernel
theorem dX12_unit_78 : decode cX12_unit 78 = .ok (.ifCond .eq 32, 3) := by decide +kernel
theorem dX12_unit_81 : decode cX12_unit 81 = .ok (.bipush 10, 2) := by decide +kernel
theorem dX12_unit_83 : decode cX12_unit 83 = .ok (.iload_n 1, 1) := by decide +kernel
theorem dX12_unit_84 : decode cX12_unit 84 = .ok (.imul, 1) := by decide +kernel
theorem dX12_unit_85 : decode cX12_unit 85 = .ok (.aload_n 0, 1) := by decide +kernel
theorem dX12_unit_86 : decode cX12_unit 86 = .ok (.invokevirtual 289, 3) := by decide +kernel
theorem dX12_unit_89 : decode cX12_unit 89 = .ok (.iadd, 1) := by decide +kernel
theorem dX12_unit_90 : decode cX12_unit 90 = .ok (.bipush 48, 2) := by decide +kernel
theorem dX12_unit_92 : decode cX12_unit 92 = .ok (.isub, 1) := by decide +kernel
theorem dX12_unit_93 : decode cX12_unit 93 = .ok (.istore_n 1, 1) := by decide +kernel
theorem dX12_unit_94 : decode cX12_unit 94 = .ok (.aload_n 0, 1) := by decide +kernel
theorem dX12_unit_95 : decode cX12_unit 95 = .ok (.dup, 1) := by decide +kernel
theorem dX12_unit_96 : decode cX12_unit 96 = .ok (.getfield 279, 3) := by decide +kernel
theorem dX12_unit_99 : decode cX12_unit 99 = .ok (.iconst 1, 1) := by decide +kernel
theorem dX12_unit_100 : decode cX12_unit 100 = .ok (.iadd, 1) := by decide +kernel
theorem dX12_unit_101 : decode cX12_unit 101 = .ok (.putfield 279, 3) := by decide +kernel
theorem dX12_unit_104 : decode cX12_unit 104 = .ok (.iinc 2 1, 3) := by decide +kernel
theorem dX12_unit_107 : decode cX12_unit 107 = .ok (.goto (-48), 3) := by decide +kernel
theorem dX12_unit_110 : decode cX12_unit 110 = .ok (.iload_n 1, 1) := by decide +kernel
theorem dX12_unit_111 : decode cX12_unit 111 = .ok (.ireturn, 1) := by decide +kernel
set_option maxHeartbeats 4000000 in
set_option maxRecDepth 100000 in
theorem xX4_draftStep_e {K : KT} {v1 : Int32} {w : Wd} {r : Wd} (G : GK K cX4_draftStep RX4 2 1) (M : Main K.ks) (hf : fX4_draftStep v1 w = some r) (hr : RV K r) : XW K 0 [some (.ref 106), some (.int v1)] [] w := by
  unfold fX4_draftStep at hf
  refine x_aload_n G dX4_draftStep_0 rfl rfl ?_
  refine x_getI G (kd106 M) 8 rfl cl4 rfl wf_X4_40 dX4_draftStep_1 ?_
  refine x_bipush G (v := 100) dX4_draftStep_4 (by decide) ?_
  refine x_icmplt G (tgt := 10) dX4_draftStep_6 (by decide) hf (fun c_1 hf => ?_) (fun c_1 hf => ?_)
  · refine x_aload_n G dX4_draftStep_10 rfl rfl ?_
    refine x_getR G (kd106 M) 5 (b := 111) rfl cl4 rfl wf_X4_30 dX4_draftStep_11 ?_
    refine x_aload_n G dX4_draftStep_14 rfl rfl ?_
    refine x_getI G (kd106 M) 8 rfl cl4 rfl wf_X4_40 dX4_draftStep_15 ?_
    refine x_iload_n G dX4_draftStep_18 rfl rfl ?_
    refine x_iast G (kd111 M) dX4_draftStep_19 hf (fun hb_2 hf => ?_)
    refine nwr hf (fun w_3 hf => ?_)
    refine x_aload_n G dX4_draftStep_20 rfl rfl ?_
    refine x_dup G dX4_draftStep_21 rfl ?_
    refine x_getI G (kd106 M) 8 rfl cl4 rfl wf_X4_40 dX4_draftStep_22 ?_
    refine x_iconst G (v := 1) dX4_draftStep_25 (by decide) ?_
    refine x_iadd G dX4_draftStep_26 ?_
    refine x_putI G (kd106 M) 8 rfl cl4 rfl wf_X4_40 rfl rfl rfl dX4_draftStep_27 ?_
    refine nwr hf (fun w_4 hf => ?_)
    exact x_vretW G hf hr dX4_draftStep_30
  · exact x_vretW G hf hr dX4_draftStep_9

theorem mX4_draftStep {l : Launch} {S : KS} {w : Wd} (hI : Inj S) (M : Main S) {v1 : Int32} {r : Wd} (hf : fX4_draftStep v1 w = some r) : CV l yX4_draftStep cX4_draftStep 2 none 1 S [.ref 106, .int v1] w r := by
  intro sz
  refine mk_entry rfl (by decide +kernel) hI 0 rfl rfl (fun K h1 h2 h3 h4 h5 h6 G => ?_)
  subst h2
  exact xX4_draftStep_e G M hf ⟨h3, by rw [h4, h6], h5⟩

set_option maxHeartbeats 4000000 in
set_option maxRecDepth 100000 in
theorem xX4_peek_e {K : KT} {w : Wd} {r : Int32} (G : GK K cX4_peek RX4 1 1) (M : Main K.ks) (hf : fX4_peek w = some r) (hr : RI K .int r w) : XW K 0 [some (.ref 106)] [] w := by
  unfold fX4_peek at hf
  refine x_aload_n G dX4_peek_0 rfl rfl ?_
  refine x_getI G (kd106 M) 10 rfl cl4 rfl wf_X4_46 dX4_peek_1 ?_
  refine x_aload_n G dX4_peek_4 rfl rfl ?_
  refine x_getI G (kd106 M) 9 rfl cl4 rfl wf_X4_43 dX4_peek_5 ?_
  refine x_icmpge G (tgt := 23) dX4_peek_8 (by decide) hf (fun c_1 hf => ?_) (fun c_1 hf => ?_)
  · refine x_aload_n G dX4_peek_11 rfl rfl ?_
    refine x_getR G (kd106 M) 7 (b := 113) rfl cl4 rfl wf_X4_37 dX4_peek_12 ?_
    refine x_aload_n G dX4_peek_15 rfl rfl ?_
    refine x_getI G (kd106 M) 10 rfl cl4 rfl wf_X4_46 dX4_peek_16 ?_
    refine x_iald G (kd113 M) dX4_peek_19 hf (fun hb_2 hf => ?_)
    refine x_goto G (tgt := 26) dX4_peek_20 (by decide) ?_
    exact x_iretP G hf hr dX4_peek_26
  · refine x_sipush G (v := 1000) dX4_peek_23 (by decide) ?_
    exact x_iretP G hf hr dX4_peek_26

theorem mX4_peek {l : Launch} {S : KS} {w : Wd} (hI : Inj S) (M : Main S) {r : Int32} (hf : fX4_peek w = some r) : CI l yX4_peek cX4_peek 1 (some .int) 1 S [.ref 106] w r w := by
  intro sz
  refine mk_entry rfl (by decide +kernel) hI 0 rfl rfl (fun K h1 h2 h3 h4 h5 h6 G => ?_)
  subst h2
  exact xX4_peek_e G M hf ⟨h3, by rw [h4, h6], h5⟩

set_option maxHeartbeats 4000000 in
set_option maxRecDepth 100000 in
theorem xX4_readAnds_5 {K : KT} {dr : Nat} {r : Wd} (G : GK K cX4_readAnds RX4 2 (dr + 10)) (M : Main K.ks) (c_readTest : Int32 →  Wd → Option Wd) (hc_readTest : ∀ (v1 : Int32) (w : Wd) (r : Wd), c_readTest v1 w = some r → CV K.l yX4_readTest cX4_readTest 4 none (dr + 0) K.ks [.ref 106, .int v1] w r) (hr : RV K r) : ∀ (n : Nat) (v1 : Int32) (w : Wd), fX4_readAnds_5 c_readTest n v1 w = some r → XW K 5 [some (.ref 106), some (.int v1)] [] w := by
  intro n
  induction n with
  | zero =>
    intro v1 w hf
    unfold fX4_readAnds_5 at hf
    cases hf
  | succ n ih =>
    intro v1 w hf
    unfold fX4_readAnds_5 at hf
    refine x_aload_n G dX4_readAnds_5 rfl rfl ?_
    refine x_getI G (kd106 M) 11 rfl cl4 rfl wf_X4_49 dX4_readAnds_6 ?_
    refine x_ifge G (tgt := 57) dX4_readAnds_9 (by decide) hf (fun c_1 hf => ?_) (fun c_1 hf => ?_)
    · refine x_aload_n G dX4_readAnds_12 rfl rfl ?_
      refine x_getI G (kd106 M) 10 rfl cl4 rfl wf_X4_46 dX4_readAnds_13 ?_
      refine x_aload_n G dX4_readAnds_16 rfl rfl ?_
      refine x_getI G (kd106 M) 9 rfl cl4 rfl wf_X4_43 dX4_readAnds_17 ?_
      refine x_icmpge G (tgt := 57) dX4_readAnds_20 (by decide) hf (fun c_2 hf => ?_) (fun c_2 hf => ?_)
      · refine x_aload_n G dX4_readAnds_23 rfl rfl ?_
        obtain ⟨v_3, hv_3, hf⟩ := bnd hf
        refine x_virI G (As := []) (mX4_peek G.2.2.2.2.2.2.1 M hv_3) mv_X4_168 (kd106 M) cl4 rfl rfl (blt_k (by decide)) rfl rfl dX4_readAnds_24 ?_
        refine x_bipush G (v := 38) dX4_readAnds_27 (by decide) ?_
        refine x_icmpne G (tgt := 57) dX4_readAnds_29 (by decide) hf (fun c_4 hf => ?_) (fun c_4 hf => ?_)
        · refine x_aload_n G dX4_readAnds_32 rfl rfl ?_
          refine x_dup G dX4_readAnds_33 rfl ?_
          refine x_getI G (kd106 M) 10 rfl cl4 rfl wf_X4_46 dX4_readAnds_34 ?_
          refine x_iconst G (v := 1) dX4_readAnds_37 (by decide) ?_
          refine x_iadd G dX4_readAnds_38 ?_
          refine x_putI G (kd106 M) 10 rfl cl4 rfl wf_X4_46 rfl rfl rfl dX4_readAnds_39 ?_
          refine nwr hf (fun w_5 hf => ?_)
          refine x_aload_n G dX4_readAnds_42 rfl rfl ?_
          refine x_iload_n G dX4_readAnds_43 rfl rfl ?_
          obtain ⟨v_6, hv_6, hf⟩ := bnd hf
          refine x_virV G (As := [.int v1]) (hc_readTest _ _ _ hv_6) mv_X4_174 (kd106 M) cl4 rfl rfl (blt_o (by decide)) rfl rfl dX4_readAnds_44 ?_
          refine x_aload_n G dX4_readAnds_47 rfl rfl ?_
          refine x_sipush G (v := 20038) dX4_readAnds_48 (by decide) ?_
          obtain ⟨v_7, hv_7, hf⟩ := bnd hf
          refine x_virV G (As := [.int (20038 : Int32)]) (mX4_draftStep G.2.2.2.2.2.2.1 M hv_7) mv_X4_171 (kd106 M) cl4 rfl rfl (blt_k (by decide)) rfl rfl dX4_readAnds_51 ?_
          refine x_goto G (tgt := 5) dX4_readAnds_54 (by decide) ?_
          exact (ih _ _ hf)
        · exact x_vretW G hf hr dX4_readAnds_57
      · exact x_vretW G hf hr dX4_readAnds_57
    · exact x_vretW G hf hr dX4_readAnds_57

set_option maxHeartbeats 4000000 in
set_option maxRecDepth 100000 in
theorem xX4_readAnds_e {K : KT} {dr : Nat} {v1 : Int32} {w : Wd} {r : Wd} (G : GK K cX4_readAnds RX4 2 (dr + 10)) (M : Main K.ks) (c_readTest : Int32 →  Wd → Option Wd) (hc_readTest : ∀ (v1 : Int32) (w : Wd) (r : Wd), c_readTest v1 w = some r → CV K.l yX4_readTest cX4_readTest 4 none (dr + 0) K.ks [.ref 106, .int v1] w r) (hf : fX4_readAnds c_readTest v1 w = some r) (hr : RV K r) : XW K 0 [some (.ref 106), some (.int v1)] [] w := by
  unfold fX4_readAnds at hf
  refine x_aload_n G dX4_readAnds_0 rfl rfl ?_
  refine x_iload_n G dX4_readAnds_1 rfl rfl ?_
  obtain ⟨v_1, hv_1, hf⟩ := bnd hf
  refine x_virV G (As := [.int v1]) (hc_readTest _ _ _ hv_1) mv_X4_174 (kd106 M) cl4 rfl rfl (blt_o (by decide)) rfl rfl dX4_readAnds_2 ?_
  exact (xX4_readAnds_5 G M c_readTest hc_readTest hr FU _ _ hf)

theorem mX4_readAnds {l : Launch} {S : KS} {dr : Nat} {w : Wd} (hI : Inj S) (M : Main S) (c_readTest : Int32 →  Wd → Option Wd) (hc_readTest : ∀ (v1 : Int32) (w : Wd) (r : Wd), c_readTest v1 w = some r → CV l yX4_readTest cX4_readTest 4 none (dr + 0) S [.ref 106, .int v1] w r) {v1 : Int32} {r : Wd} (hf : fX4_readAnds c_readTest v1 w = some r) : CV l yX4_readAnds cX4_readAnds 2 none (dr + 10) S [.ref 106, .int v1] w r := by
  intro sz
  refine mk_entry rfl (by decide +kernel) hI 0 rfl rfl (fun K h1 h2 h3 h4 h5 h6 G => ?_)
  subst h2
  subst h1
  exact xX4_readAnds_e G M c_readTest hc_readTest hf ⟨h3, by rw [h4, h6], h5⟩

set_option maxHeartbeats 4000000 in
set_option maxRecDepth 100000 in
theorem xX4_readOrs_5 {K : KT} {dr : Nat} {r : Wd} (G : GK K cX4_readOrs RX4 2 (dr + 20)) (M : Main K.ks) (c_readTest : Int32 →  Wd → Option Wd) (hc_readTest : ∀ (v1 : Int32) (w : Wd) (r : Wd), c_readTest v1 w = some r → CV K.l yX4_readTest cX4_readTest 4 none (dr + 0) K.ks [.ref 106, .int v1] w r) (hr : RV K r) : ∀ (n : Nat) (v1 : Int32) (w : Wd), fX4_readOrs_5 c_readTest n v1 w = some r → XW K 5 [some (.ref 106), some (.int v1)] [] w := by
  intro n
  induction n with
  | zero =>
    intro v1 w hf
    unfold fX4_readOrs_5 at hf
    cases hf
  | succ n ih =>
    intro v1 w hf
    unfold fX4_readOrs_5 at hf
    refine x_aload_n G dX4_readOrs_5 rfl rfl ?_
    refine x_getI G (kd106 M) 11 rfl cl4 rfl wf_X4_49 dX4_readOrs_6 ?_
    refine x_ifge G (tgt := 57) dX4_readOrs_9 (by decide) hf (fun c_1 hf => ?_) (fun c_1 hf => ?_)
    · refine x_aload_n G dX4_readOrs_12 rfl rfl ?_
      refine x_getI G (kd106 M) 10 rfl cl4 rfl wf_X4_46 dX4_readOrs_13 ?_
      refine x_aload_n G dX4_readOrs_16 rfl rfl ?_
      refine x_getI G (kd106 M) 9 rfl cl4 rfl wf_X4_43 dX4_readOrs_17 ?_
      refine x_icmpge G (tgt := 57) dX4_readOrs_20 (by decide) hf (fun c_2 hf => ?_) (fun c_2 hf => ?_)
      · refine x_aload_n G dX4_readOrs_23 rfl rfl ?_
        obtain ⟨v_3, hv_3, hf⟩ := bnd hf
        refine x_virI G (As := []) (mX4_peek G.2.2.2.2.2.2.1 M hv_3) mv_X4_168 (kd106 M) cl4 rfl rfl (blt_k (by decide)) rfl rfl dX4_readOrs_24 ?_
        refine x_bipush G (v := 124) dX4_readOrs_27 (by decide) ?_
        refine x_icmpne G (tgt := 57) dX4_readOrs_29 (by decide) hf (fun c_4 hf => ?_) (fun c_4 hf => ?_)
        · refine x_aload_n G dX4_readOrs_32 rfl rfl ?_
          refine x_dup G dX4_readOrs_33 rfl ?_
          refine x_getI G (kd106 M) 10 rfl cl4 rfl wf_X4_46 dX4_readOrs_34 ?_
          refine x_iconst G (v := 1) dX4_readOrs_37 (by decide) ?_
          refine x_iadd G dX4_readOrs_38 ?_
          refine x_putI G (kd106 M) 10 rfl cl4 rfl wf_X4_46 rfl rfl rfl dX4_readOrs_39 ?_
          refine nwr hf (fun w_5 hf => ?_)
          refine x_aload_n G dX4_readOrs_42 rfl rfl ?_
          refine x_iload_n G dX4_readOrs_43 rfl rfl ?_
          obtain ⟨v_6, hv_6, hf⟩ := bnd hf
          refine x_virV G (As := [.int v1]) (mX4_readAnds G.2.2.2.2.2.2.1 M c_readTest hc_readTest hv_6) mv_X4_165 (kd106 M) cl4 rfl rfl (blt_o (by decide)) rfl rfl dX4_readOrs_44 ?_
          refine x_aload_n G dX4_readOrs_47 rfl rfl ?_
          refine x_sipush G (v := 20124) dX4_readOrs_48 (by decide) ?_
          obtain ⟨v_7, hv_7, hf⟩ := bnd hf
          refine x_virV G (As := [.int (20124 : Int32)]) (mX4_draftStep G.2.2.2.2.2.2.1 M hv_7) mv_X4_171 (kd106 M) cl4 rfl rfl (blt_k (by decide)) rfl rfl dX4_readOrs_51 ?_
          refine x_goto G (tgt := 5) dX4_readOrs_54 (by decide) ?_
          exact (ih _ _ hf)
        · exact x_vretW G hf hr dX4_readOrs_57
      · exact x_vretW G hf hr dX4_readOrs_57
    · exact x_vretW G hf hr dX4_readOrs_57

set_option maxHeartbeats 4000000 in
set_option maxRecDepth 100000 in
theorem xX4_readOrs_e {K : KT} {dr : Nat} {v1 : Int32} {w : Wd} {r : Wd} (G : GK K cX4_readOrs RX4 2 (dr + 20)) (M : Main K.ks) (c_readTest : Int32 →  Wd → Option Wd) (hc_readTest : ∀ (v1 : Int32) (w : Wd) (r : Wd), c_readTest v1 w = some r → CV K.l yX4_readTest cX4_readTest 4 none (dr + 0) K.ks [.ref 106, .int v1] w r) (hf : fX4_readOrs c_readTest v1 w = some r) (hr : RV K r) : XW K 0 [some (.ref 106), some (.int v1)] [] w := by
  unfold fX4_readOrs at hf
  refine x_aload_n G dX4_readOrs_0 rfl rfl ?_
  refine x_iload_n G dX4_readOrs_1 rfl rfl ?_
  obtain ⟨v_1, hv_1, hf⟩ := bnd hf
  refine x_virV G (As := [.int v1]) (mX4_readAnds G.2.2.2.2.2.2.1 M c_readTest hc_readTest hv_1) mv_X4_165 (kd106 M) cl4 rfl rfl (blt_o (by decide)) rfl rfl dX4_readOrs_2 ?_
  exact (xX4_readOrs_5 G M c_readTest hc_readTest hr FU _ _ hf)

theorem mX4_readOrs {l : Launch} {S : KS} {dr : Nat} {w : Wd} (hI : Inj S) (M : Main S) (c_readTest : Int32 →  Wd → Option Wd) (hc_readTest : ∀ (v1 : Int32) (w : Wd) (r : Wd), c_readTest v1 w = some r → CV l yX4_readTest cX4_readTest 4 none (dr + 0) S [.ref 106, .int v1] w r) {v1 : Int32} {r : Wd} (hf : fX4_readOrs c_readTest v1 w = some r) : CV l yX4_readOrs cX4_readOrs 2 none (dr + 20) S [.ref 106, .int v1] w r := by
  intro sz
  refine mk_entry rfl (by decide +kernel) hI 0 rfl rfl (fun K h1 h2 h3 h4 h5 h6 G => ?_)
  subst h2
  subst h1
  exact xX4_readOrs_e G M c_readTest hc_readTest hf ⟨h3, by rw [h4, h6], h5⟩

set_option maxHeartbeats 4000000 in
set_option maxRecDepth 100000 in
theorem xX4_fail_e {K : KT} {w : Wd} {r : Wd} (G : GK K cX4_fail RX4 1 1) (M : Main K.ks) (hf : fX4_fail w = some r) (hr : RV K r) : XW K 0 [some (.ref 106)] [] w := by
  unfold fX4_fail at hf
  refine x_aload_n G dX4_fail_0 rfl rfl ?_
  refine x_getI G (kd106 M) 11 rfl cl4 rfl wf_X4_49 dX4_fail_1 ?_
  refine x_ifge G (tgt := 15) dX4_fail_4 (by decide) hf (fun c_1 hf => ?_) (fun c_1 hf => ?_)
  · refine x_aload_n G dX4_fail_7 rfl rfl ?_
    refine x_aload_n G dX4_fail_8 rfl rfl ?_
    refine x_getI G (kd106 M) 10 rfl cl4 rfl wf_X4_46 dX4_fail_9 ?_
    refine x_putI G (kd106 M) 11 rfl cl4 rfl wf_X4_49 rfl rfl rfl dX4_fail_12 ?_
    refine nwr hf (fun w_2 hf => ?_)
    exact x_vretW G hf hr dX4_fail_15
  · exact x_vretW G hf hr dX4_fail_15

theorem mX4_fail {l : Launch} {S : KS} {w : Wd} (hI : Inj S) (M : Main S) {r : Wd} (hf : fX4_fail w = some r) : CV l yX4_fail cX4_fail 1 none 1 S [.ref 106] w r := by
  intro sz
  refine mk_entry rfl (by decide +kernel) hI 0 rfl rfl (fun K h1 h2 h3 h4 h5 h6 G => ?_)
  subst h2
  exact xX4_fail_e G M hf ⟨h3, by rw [h4, h6], h5⟩

set_option maxHeartbeats 4000000 in
set_option maxRecDepth 100000 in
theorem xX11_within_e {K : KT} {v0 : Int32} {v1 : Int32} {v2 : Int32} {w : Wd} {r : Bool} (G : GK K cX11_within RX11 3 1) (M : Main K.ks) (hf : fX11_within v0 v1 v2 w = some r) (hr : RI K .boolean (bI r) w) : XW K 0 [some (.int v0), some (.int v1), some (.int v2)] [] w := by
  unfold fX11_within at hf
  refine x_iload_n G dX11_within_0 rfl rfl ?_
  refine x_iload_n G dX11_within_1 rfl rfl ?_
  refine x_icmplt G (tgt := 14) dX11_within_2 (by decide) hf (fun c_1 hf => ?_) (fun c_1 hf => ?_)
  · refine x_iconst G (v := 0) dX11_within_14 (by decide) ?_
    exact x_zretP G hf hr dX11_within_15
  · refine x_iload_n G dX11_within_5 rfl rfl ?_
    refine x_iload_n G dX11_within_6 rfl rfl ?_
    refine x_icmpgt G (tgt := 14) dX11_within_7 (by decide) hf (fun c_2 hf => ?_) (fun c_2 hf => ?_)
    · refine x_iconst G (v := 0) dX11_within_14 (by decide) ?_
      exact x_zretP G hf hr dX11_within_15
    · refine x_iconst G (v := 1) dX11_within_10 (by decide) ?_
      refine x_goto G (tgt := 15) dX11_within_11 (by decide) ?_
      exact x_zretP G hf hr dX11_within_15

theorem mX11_within {l : Launch} {S : KS} {w : Wd} (hI : Inj S) (M : Main S) {v0 : Int32} {v1 : Int32} {v2 : Int32} {r : Bool} (hf : fX11_within v0 v1 v2 w = some r) : CI l yX11_within cX11_within 3 (some .boolean) 1 S [.int v0, .int v1, .int v2] w (bI r) w := by
  intro sz
  refine mk_entry rfl (by decide +kernel) hI 0 rfl rfl (fun K h1 h2 h3 h4 h5 h6 G => ?_)
  subst h2
  exact xX11_within_e G M hf ⟨h3, by rw [h4, h6], h5⟩

set_option maxHeartbeats 4000000 in
set_option maxRecDepth 100000 in
theorem xX4_readUnit_68 {K : KT} {v2 : Int32} {w : Wd} {r : Wd} (G : GK K cX4_readUnit RX4 4 5) (M : Main K.ks) (hf : fX4_readUnit_68 v2 w = some r) (hr : RV K r) : XW K 68 [some (.ref 106), none, some (.int v2), none] [] w := by
  unfold fX4_readUnit_68 at hf
  refine x_aload_n G dX4_readUnit_68 rfl rfl ?_
  refine x_iload_n G dX4_readUnit_69 rfl rfl ?_
  obtain ⟨v_1, hv_1, hf⟩ := bnd hf
  refine x_virV G (As := [.int v2]) (mX4_draftStep G.2.2.2.2.2.2.1 M hv_1) mv_X4_171 (kd106 M) cl4 rfl rfl rfl rfl rfl dX4_readUnit_70 ?_
  refine x_goto G (tgt := 123) dX4_readUnit_73 (by decide) ?_
  exact x_vretW G hf hr dX4_readUnit_123

set_option maxHeartbeats 4000000 in
set_option maxRecDepth 100000 in
theorem xX4_readUnit_20 {K : KT} {r : Wd} (G : GK K cX4_readUnit RX4 4 5) (M : Main K.ks) (hr : RV K r) : ∀ (n : Nat) (v2 : Int32) (v3 : Int32) (w : Wd), fX4_readUnit_20 n v2 v3 w = some r → XW K 20 [some (.ref 106), none, some (.int v2), some (.int v3)] [] w := by
  intro n
  induction n with
  | zero =>
    intro v2 v3 w hf
    unfold fX4_readUnit_20 at hf
    cases hf
  | succ n ih =>
    intro v2 v3 w hf
    unfold fX4_readUnit_20 at hf
    refine x_iload_n G dX4_readUnit_20 rfl rfl ?_
    refine x_iconst G (v := 4) dX4_readUnit_21 (by decide) ?_
    refine x_icmpge G (tgt := 68) dX4_readUnit_22 (by decide) hf (fun c_1 hf => ?_) (fun c_1 hf => ?_)
    · refine x_aload_n G dX4_readUnit_25 rfl rfl ?_
      obtain ⟨v_2, hv_2, hf⟩ := bnd hf
      refine x_virI G (As := []) (mX4_peek G.2.2.2.2.2.2.1 M hv_2) mv_X4_168 (kd106 M) cl4 rfl rfl rfl rfl rfl dX4_readUnit_26 ?_
      refine x_bipush G (v := 48) dX4_readUnit_29 (by decide) ?_
      refine x_bipush G (v := 57) dX4_readUnit_31 (by decide) ?_
      obtain ⟨v_3, hv_3, hf⟩ := bnd hf
      refine x_nesI G (As := [.int v_2, .int (48 : Int32), .int (57 : Int32)]) (mX11_within G.2.2.2.2.2.2.1 M hv_3) mn_X4_183 rfl rfl rfl rfl rfl dX4_readUnit_33 ?_
      refine x_ifeqB G (tgt := 68) dX4_readUnit_36 (by decide) hf (fun c_4 hf => ?_) (fun c_4 hf => ?_)
      · refine x_bipush G (v := 10) dX4_readUnit_39 (by decide) ?_
        refine x_iload_n G dX4_readUnit_41 rfl rfl ?_
        refine x_imul G dX4_readUnit_42 ?_
        refine x_aload_n G dX4_readUnit_43 rfl rfl ?_
        obtain ⟨v_5, hv_5, hf⟩ := bnd hf
        refine x_virI G (As := []) (mX4_peek G.2.2.2.2.2.2.1 M hv_5) mv_X4_168 (kd106 M) cl4 rfl rfl rfl rfl rfl dX4_readUnit_44 ?_
        refine x_iadd G dX4_readUnit_47 ?_
        refine x_bipush G (v := 48) dX4_readUnit_48 (by decide) ?_
        refine x_isub G dX4_readUnit_50 ?_
        refine x_istore_n G (lv' := [some (.ref 106), none, some (.int ((((10 : Int32) * v2) + v_5) - (48 : Int32))), some (.int v3)]) dX4_readUnit_51 rfl rfl rfl rfl ?_
        refine x_aload_n G dX4_readUnit_52 rfl rfl ?_
        refine x_dup G dX4_readUnit_53 rfl ?_
        refine x_getI G (kd106 M) 10 rfl cl4 rfl wf_X4_46 dX4_readUnit_54 ?_
        refine x_iconst G (v := 1) dX4_readUnit_57 (by decide) ?_
        refine x_iadd G dX4_readUnit_58 ?_
        refine x_putI G (kd106 M) 10 rfl cl4 rfl wf_X4_46 rfl rfl rfl dX4_readUnit_59 ?_
        refine nwr hf (fun w_6 hf => ?_)
        refine x_iinc G (lv' := [some (.ref 106), none, some (.int ((((10 : Int32) * v2) + v_5) - (48 : Int32))), some (.int (v3 + (1 : Int32)))]) (v := 1) dX4_readUnit_62 rfl (by decide) rfl rfl rfl ?_
        refine x_goto G (tgt := 20) dX4_readUnit_65 (by decide) ?_
        exact XW.sub (lv' := [some (.ref 106), none, some (.int ((((10 : Int32) * v2) + v_5) - (48 : Int32))), some (.int (v3 + (1 : Int32)))]) (And.intro rfl (And.intro rfl (And.intro rfl trivial))) (ih _ _ _ hf)
      · exact XW.sub (lv' := [some (.ref 106), none, some (.int v2), none]) (And.intro rfl (And.intro rfl trivial)) (xX4_readUnit_68 G M hf hr)
    · exact XW.sub (lv' := [some (.ref 106), none, some (.int v2), none]) (And.intro rfl (And.intro rfl trivial)) (xX4_readUnit_68 G M hf hr)

set_option maxHeartbeats 4000000 in
set_option maxRecDepth 100000 in
theorem xX4_readUnit_119 {K : KT} {w : Wd} {r : Wd} (G : GK K cX4_readUnit RX4 4 5) (M : Main K.ks) (hf : fX4_readUnit_119 w = some r) (hr : RV K r) : XW K 119 [some (.ref 106), none, none, none] [] w := by
  unfold fX4_readUnit_119 at hf
  refine x_aload_n G dX4_readUnit_119 rfl rfl ?_
  obtain ⟨v_1, hv_1, hf⟩ := bnd hf
  refine x_virV G (As := []) (mX4_fail G.2.2.2.2.2.2.1 M hv_1) mv_X4_162 (kd106 M) cl4 rfl rfl rfl rfl rfl dX4_readUnit_120 ?_
  exact x_vretW G hf hr dX4_readUnit_123

set_option maxHeartbeats 4000000 in
set_option maxRecDepth 100000 in
theorem xX4_readUnit_e {K : KT} {w : Wd} {r : Wd} (G : GK K cX4_readUnit RX4 4 5) (M : Main K.ks) (hf : fX4_readUnit w = some r) (hr : RV K r) : XW K 0 [some (.ref 106), none, none, none] [] w := by
  unfold fX4_readUnit at hf
  refine x_aload_n G dX4_readUnit_0 rfl rfl ?_
  obtain ⟨v_1, hv_1, hf⟩ := bnd hf
  refine x_virI G (As := []) (mX4_peek G.2.2.2.2.2.2.1 M hv_1) mv_X4_168 (kd106 M) cl4 rfl rfl rfl rfl rfl dX4_readUnit_1 ?_
  refine x_istore_n G (lv' := [some (.ref 106), some (.int v_1), none, none]) dX4_readUnit_4 rfl rfl rfl rfl ?_
  refine x_iload_n G dX4_readUnit_5 rfl rfl ?_
  refine x_bipush G (v := 48) dX4_readUnit_6 (by decide) ?_
  refine x_bipush G (v := 57) dX4_readUnit_8 (by decide) ?_
  obtain ⟨v_2, hv_2, hf⟩ := bnd hf
  refine x_nesI G (As := [.int v_1, .int (48 : Int32), .int (57 : Int32)]) (mX11_within G.2.2.2.2.2.2.1 M hv_2) mn_X4_183 rfl rfl rfl rfl rfl dX4_readUnit_10 ?_
  refine x_ifeqB G (tgt := 76) dX4_readUnit_13 (by decide) hf (fun c_3 hf => ?_) (fun c_3 hf => ?_)
  · refine x_iconst G (v := 0) dX4_readUnit_16 (by decide) ?_
    refine x_istore_n G (lv' := [some (.ref 106), some (.int v_1), some (.int (0 : Int32)), none]) dX4_readUnit_17 rfl rfl rfl rfl ?_
    refine x_iconst G (v := 0) dX4_readUnit_18 (by decide) ?_
    refine x_istore_n G (lv' := [some (.ref 106), some (.int v_1), some (.int (0 : Int32)), some (.int (0 : Int32))]) dX4_readUnit_19 rfl rfl rfl rfl ?_
    exact XW.sub (lv' := [some (.ref 106), none, some (.int (0 : Int32)), some (.int (0 : Int32))]) (And.intro rfl (And.intro rfl (And.intro rfl trivial))) (xX4_readUnit_20 G M hr FU _ _ _ hf)
  · refine x_iload_n G dX4_readUnit_76 rfl rfl ?_
    refine x_bipush G (v := 97) dX4_readUnit_77 (by decide) ?_
    refine x_bipush G (v := 122) dX4_readUnit_79 (by decide) ?_
    obtain ⟨v_4, hv_4, hf⟩ := bnd hf
    refine x_nesI G (As := [.int v_1, .int (97 : Int32), .int (122 : Int32)]) (mX11_within G.2.2.2.2.2.2.1 M hv_4) mn_X4_183 rfl rfl rfl rfl rfl dX4_readUnit_81 ?_
    refine x_ifeqB G (tgt := 119) dX4_readUnit_84 (by decide) hf (fun c_5 hf => ?_) (fun c_5 hf => ?_)
    · refine x_facts G M dX4_readUnit_87 rfl rfl dX4_readUnit_89 dX4_readUnit_90 dX4_readUnit_91 rfl rfl ?_
      refine x_iflt G (tgt := 119) dX4_readUnit_94 (by decide) hf (fun c_6 hf => ?_) (fun c_6 hf => ?_)
      · exact XW.sub (lv' := [some (.ref 106), none, none, none]) (And.intro rfl trivial) (xX4_readUnit_119 G M hf hr)
      · refine x_aload_n G dX4_readUnit_97 rfl rfl ?_
        refine x_dup G dX4_readUnit_98 rfl ?_
        refine x_getI G (kd106 M) 10 rfl cl4 rfl wf_X4_46 dX4_readUnit_99 ?_
        refine x_iconst G (v := 1) dX4_readUnit_102 (by decide) ?_
        refine x_iadd G dX4_readUnit_103 ?_
        refine x_putI G (kd106 M) 10 rfl cl4 rfl wf_X4_46 rfl rfl rfl dX4_readUnit_104 ?_
        refine nwr hf (fun w_7 hf => ?_)
        refine x_aload_n G dX4_readUnit_107 rfl rfl ?_
        refine x_sipush G (v := 10000) dX4_readUnit_108 (by decide) ?_
        refine x_iload_n G dX4_readUnit_111 rfl rfl ?_
        refine x_iadd G dX4_readUnit_112 ?_
        obtain ⟨v_8, hv_8, hf⟩ := bnd hf
        refine x_virV G (As := [.int ((10000 : Int32) + v_1)]) (mX4_draftStep G.2.2.2.2.2.2.1 M hv_8) mv_X4_171 (kd106 M) cl4 rfl rfl rfl rfl rfl dX4_readUnit_113 ?_
        refine x_goto G (tgt := 123) dX4_readUnit_116 (by decide) ?_
        exact x_vretW G hf hr dX4_readUnit_123
    · exact XW.sub (lv' := [some (.ref 106), none, none, none]) (And.intro rfl trivial) (xX4_readUnit_119 G M hf hr)

theorem mX4_readUnit {l : Launch} {S : KS} {w : Wd} (hI : Inj S) (M : Main S) {r : Wd} (hf : fX4_readUnit w = some r) : CV l yX4_readUnit cX4_readUnit 4 none 5 S [.ref 106] w r := by
  intro sz
  refine mk_entry rfl (by decide +kernel) hI 3 rfl rfl (fun K h1 h2 h3 h4 h5 h6 G => ?_)
  subst h2
  exact xX4_readUnit_e G M hf ⟨h3, by rw [h4, h6], h5⟩

set_option maxHeartbeats 4000000 in
set_option maxRecDepth 100000 in
theorem xX4_readSum_45 {K : KT} {v1 : Int32} {w : Wd} {r : Wd} (G : GK K cX4_readSum RX4 2 6) (M : Main K.ks) (k9 : Int32 → Wd → Option Wd) (hk9 : ∀ (v1 : Int32) (w : Wd), k9 v1 w = some r → XW K 9 [some (.ref 106), some (.int v1)] [] w) (hf : fX4_readSum_45 k9 v1 w = some r) (hr : RV K r) : XW K 45 [some (.ref 106), some (.int v1)] [] w := by
  unfold fX4_readSum_45 at hf
  refine x_aload_n G dX4_readSum_45 rfl rfl ?_
  refine x_dup G dX4_readSum_46 rfl ?_
  refine x_getI G (kd106 M) 10 rfl cl4 rfl wf_X4_46 dX4_readSum_47 ?_
  refine x_iconst G (v := 1) dX4_readSum_50 (by decide) ?_
  refine x_iadd G dX4_readSum_51 ?_
  refine x_putI G (kd106 M) 10 rfl cl4 rfl wf_X4_46 rfl rfl rfl dX4_readSum_52 ?_
  refine nwr hf (fun w_1 hf => ?_)
  refine x_aload_n G dX4_readSum_55 rfl rfl ?_
  obtain ⟨v_2, hv_2, hf⟩ := bnd hf
  refine x_virV G (As := []) (mX4_readUnit G.2.2.2.2.2.2.1 M hv_2) mv_X4_180 (kd106 M) cl4 rfl rfl rfl rfl rfl dX4_readSum_56 ?_
  refine x_aload_n G dX4_readSum_59 rfl rfl ?_
  refine x_sipush G (v := 20000) dX4_readSum_60 (by decide) ?_
  refine x_iload_n G dX4_readSum_63 rfl rfl ?_
  refine x_iadd G dX4_readSum_64 ?_
  obtain ⟨v_3, hv_3, hf⟩ := bnd hf
  refine x_virV G (As := [.int ((20000 : Int32) + v1)]) (mX4_draftStep G.2.2.2.2.2.2.1 M hv_3) mv_X4_171 (kd106 M) cl4 rfl rfl rfl rfl rfl dX4_readSum_65 ?_
  refine x_aload_n G dX4_readSum_68 rfl rfl ?_
  obtain ⟨v_4, hv_4, hf⟩ := bnd hf
  refine x_virI G (As := []) (mX4_peek G.2.2.2.2.2.2.1 M hv_4) mv_X4_168 (kd106 M) cl4 rfl rfl rfl rfl rfl dX4_readSum_69 ?_
  refine x_istore_n G (lv' := [some (.ref 106), some (.int v_4)]) dX4_readSum_72 rfl rfl rfl rfl ?_
  refine x_goto G (tgt := 9) dX4_readSum_73 (by decide) ?_
  exact XW.sub (lv' := [some (.ref 106), some (.int v_4)]) (And.intro rfl (And.intro rfl trivial)) (hk9 _ _ hf)

set_option maxHeartbeats 4000000 in
set_option maxRecDepth 100000 in
theorem xX4_readSum_9 {K : KT} {r : Wd} (G : GK K cX4_readSum RX4 2 6) (M : Main K.ks) (hr : RV K r) : ∀ (n : Nat) (v1 : Int32) (w : Wd), fX4_readSum_9 n v1 w = some r → XW K 9 [some (.ref 106), some (.int v1)] [] w := by
  intro n
  induction n with
  | zero =>
    intro v1 w hf
    unfold fX4_readSum_9 at hf
    cases hf
  | succ n ih =>
    intro v1 w hf
    unfold fX4_readSum_9 at hf
    refine x_aload_n G dX4_readSum_9 rfl rfl ?_
    refine x_getI G (kd106 M) 11 rfl cl4 rfl wf_X4_49 dX4_readSum_10 ?_
    refine x_ifge G (tgt := 76) dX4_readSum_13 (by decide) hf (fun c_1 hf => ?_) (fun c_1 hf => ?_)
    · refine x_aload_n G dX4_readSum_16 rfl rfl ?_
      refine x_getI G (kd106 M) 10 rfl cl4 rfl wf_X4_46 dX4_readSum_17 ?_
      refine x_aload_n G dX4_readSum_20 rfl rfl ?_
      refine x_getI G (kd106 M) 9 rfl cl4 rfl wf_X4_43 dX4_readSum_21 ?_
      refine x_icmpge G (tgt := 76) dX4_readSum_24 (by decide) hf (fun c_2 hf => ?_) (fun c_2 hf => ?_)
      · refine x_iload_n G dX4_readSum_27 rfl rfl ?_
        refine x_bipush G (v := 43) dX4_readSum_28 (by decide) ?_
        refine x_icmpeq G (tgt := 45) dX4_readSum_30 (by decide) hf (fun c_3 hf => ?_) (fun c_3 hf => ?_)
        · exact (xX4_readSum_45 G M (fX4_readSum_9 n) ih hf hr)
        · refine x_iload_n G dX4_readSum_33 rfl rfl ?_
          refine x_bipush G (v := 45) dX4_readSum_34 (by decide) ?_
          refine x_icmpeq G (tgt := 45) dX4_readSum_36 (by decide) hf (fun c_4 hf => ?_) (fun c_4 hf => ?_)
          · exact (xX4_readSum_45 G M (fX4_readSum_9 n) ih hf hr)
          · refine x_iload_n G dX4_readSum_39 rfl rfl ?_
            refine x_bipush G (v := 42) dX4_readSum_40 (by decide) ?_
            refine x_icmpne G (tgt := 76) dX4_readSum_42 (by decide) hf (fun c_5 hf => ?_) (fun c_5 hf => ?_)
            · exact (xX4_readSum_45 G M (fX4_readSum_9 n) ih hf hr)
            · exact x_vretW G hf hr dX4_readSum_76
      · exact x_vretW G hf hr dX4_readSum_76
    · exact x_vretW G hf hr dX4_readSum_76

set_option maxHeartbeats 4000000 in
set_option maxRecDepth 100000 in
theorem xX4_readSum_e {K : KT} {w : Wd} {r : Wd} (G : GK K cX4_readSum RX4 2 6) (M : Main K.ks) (hf : fX4_readSum w = some r) (hr : RV K r) : XW K 0 [some (.ref 106), none] [] w := by
  unfold fX4_readSum at hf
  refine x_aload_n G dX4_readSum_0 rfl rfl ?_
  obtain ⟨v_1, hv_1, hf⟩ := bnd hf
  refine x_virV G (As := []) (mX4_readUnit G.2.2.2.2.2.2.1 M hv_1) mv_X4_180 (kd106 M) cl4 rfl rfl rfl rfl rfl dX4_readSum_1 ?_
  refine x_aload_n G dX4_readSum_4 rfl rfl ?_
  obtain ⟨v_2, hv_2, hf⟩ := bnd hf
  refine x_virI G (As := []) (mX4_peek G.2.2.2.2.2.2.1 M hv_2) mv_X4_168 (kd106 M) cl4 rfl rfl rfl rfl rfl dX4_readSum_5 ?_
  refine x_istore_n G (lv' := [some (.ref 106), some (.int v_2)]) dX4_readSum_8 rfl rfl rfl rfl ?_
  exact XW.sub (lv' := [some (.ref 106), some (.int v_2)]) (And.intro rfl (And.intro rfl trivial)) (xX4_readSum_9 G M hr FU _ _ hf)

theorem mX4_readSum {l : Launch} {S : KS} {w : Wd} (hI : Inj S) (M : Main S) {r : Wd} (hf : fX4_readSum w = some r) : CV l yX4_readSum cX4_readSum 2 none 6 S [.ref 106] w r := by
  intro sz
  refine mk_entry rfl (by decide +kernel) hI 1 rfl rfl (fun K h1 h2 h3 h4 h5 h6 G => ?_)
  subst h2
  exact xX4_readSum_e G M hf ⟨h3, by rw [h4, h6], h5⟩

set_option maxHeartbeats 4000000 in
set_option maxRecDepth 100000 in
theorem xX4_readTest_77 {K : KT} {dr : Nat} {v1 : Int32} {v2 : Int32} {w : Wd} {r : Wd} (G : GK K cX4_readTest RX4 4 (dr + 30)) (M : Main K.ks) (c_readOrs : Int32 →  Wd → Option Wd) (hc_readOrs : ∀ (v1 : Int32) (w : Wd) (r : Wd), c_readOrs v1 w = some r → CV K.l yX4_readOrs cX4_readOrs 2 none (dr + 20) K.ks [.ref 106, .int v1] w r) (c_readTest : Int32 →  Wd → Option Wd) (hc_readTest : ∀ (v1 : Int32) (w : Wd) (r : Wd), c_readTest v1 w = some r → CV K.l yX4_readTest cX4_readTest 4 none (dr + 0) K.ks [.ref 106, .int v1] w r) (hf : fX4_readTest_77 c_readOrs c_readTest v1 v2 w = some r) (hr : RV K r) : XW K 77 [some (.ref 106), some (.int v1), some (.int v2), none] [] w := by
  unfold fX4_readTest_77 at hf
  refine x_iload_n G dX4_readTest_77 rfl rfl ?_
  refine x_iconst G (v := 5) dX4_readTest_78 (by decide) ?_
  refine x_icmplt G (tgt := 89) dX4_readTest_79 (by decide) hf (fun c_1 hf => ?_) (fun c_1 hf => ?_)
  · refine x_iload_n G dX4_readTest_89 rfl rfl ?_
    refine x_bipush G (v := 33) dX4_readTest_90 (by decide) ?_
    refine x_icmpne G (tgt := 122) dX4_readTest_92 (by decide) hf (fun c_2 hf => ?_) (fun c_2 hf => ?_)
    · refine x_aload_n G dX4_readTest_95 rfl rfl ?_
      refine x_dup G dX4_readTest_96 rfl ?_
      refine x_getI G (kd106 M) 10 rfl cl4 rfl wf_X4_46 dX4_readTest_97 ?_
      refine x_iconst G (v := 1) dX4_readTest_100 (by decide) ?_
      refine x_iadd G dX4_readTest_101 ?_
      refine x_putI G (kd106 M) 10 rfl cl4 rfl wf_X4_46 rfl rfl rfl dX4_readTest_102 ?_
      refine nwr hf (fun w_3 hf => ?_)
      refine x_aload_n G dX4_readTest_105 rfl rfl ?_
      refine x_iload_n G dX4_readTest_106 rfl rfl ?_
      refine x_iconst G (v := 1) dX4_readTest_107 (by decide) ?_
      refine x_iadd G dX4_readTest_108 ?_
      obtain ⟨v_4, hv_4, hf⟩ := bnd hf
      refine x_virV G (As := [.int (v1 + (1 : Int32))]) (hc_readTest _ _ _ hv_4) mv_X4_174 (kd106 M) cl4 rfl rfl (blt_o (by decide)) rfl rfl dX4_readTest_109 ?_
      refine x_aload_n G dX4_readTest_112 rfl rfl ?_
      refine x_sipush G (v := 20033) dX4_readTest_113 (by decide) ?_
      obtain ⟨v_5, hv_5, hf⟩ := bnd hf
      refine x_virV G (As := [.int (20033 : Int32)]) (mX4_draftStep G.2.2.2.2.2.2.1 M hv_5) mv_X4_171 (kd106 M) cl4 rfl rfl (blt_k (by decide)) rfl rfl dX4_readTest_116 ?_
      refine x_goto G (tgt := 165) dX4_readTest_119 (by decide) ?_
      exact x_vretW G hf hr dX4_readTest_165
    · refine x_aload_n G dX4_readTest_122 rfl rfl ?_
      refine x_dup G dX4_readTest_123 rfl ?_
      refine x_getI G (kd106 M) 10 rfl cl4 rfl wf_X4_46 dX4_readTest_124 ?_
      refine x_iconst G (v := 1) dX4_readTest_127 (by decide) ?_
      refine x_iadd G dX4_readTest_128 ?_
      refine x_putI G (kd106 M) 10 rfl cl4 rfl wf_X4_46 rfl rfl rfl dX4_readTest_129 ?_
      refine nwr hf (fun w_6 hf => ?_)
      refine x_aload_n G dX4_readTest_132 rfl rfl ?_
      refine x_iload_n G dX4_readTest_133 rfl rfl ?_
      refine x_iconst G (v := 1) dX4_readTest_134 (by decide) ?_
      refine x_iadd G dX4_readTest_135 ?_
      obtain ⟨v_7, hv_7, hf⟩ := bnd hf
      refine x_virV G (As := [.int (v1 + (1 : Int32))]) (hc_readOrs _ _ _ hv_7) mv_X4_158 (kd106 M) cl4 rfl rfl (blt_o (by decide)) rfl rfl dX4_readTest_136 ?_
      refine x_aload_n G dX4_readTest_139 rfl rfl ?_
      obtain ⟨v_8, hv_8, hf⟩ := bnd hf
      refine x_virI G (As := []) (mX4_peek G.2.2.2.2.2.2.1 M hv_8) mv_X4_168 (kd106 M) cl4 rfl rfl (blt_k (by decide)) rfl rfl dX4_readTest_140 ?_
      refine x_bipush G (v := 41) dX4_readTest_143 (by decide) ?_
      refine x_icmpne G (tgt := 161) dX4_readTest_145 (by decide) hf (fun c_9 hf => ?_) (fun c_9 hf => ?_)
      · refine x_aload_n G dX4_readTest_148 rfl rfl ?_
        refine x_dup G dX4_readTest_149 rfl ?_
        refine x_getI G (kd106 M) 10 rfl cl4 rfl wf_X4_46 dX4_readTest_150 ?_
        refine x_iconst G (v := 1) dX4_readTest_153 (by decide) ?_
        refine x_iadd G dX4_readTest_154 ?_
        refine x_putI G (kd106 M) 10 rfl cl4 rfl wf_X4_46 rfl rfl rfl dX4_readTest_155 ?_
        refine nwr hf (fun w_10 hf => ?_)
        refine x_goto G (tgt := 165) dX4_readTest_158 (by decide) ?_
        exact x_vretW G hf hr dX4_readTest_165
      · refine x_aload_n G dX4_readTest_161 rfl rfl ?_
        obtain ⟨v_11, hv_11, hf⟩ := bnd hf
        refine x_virV G (As := []) (mX4_fail G.2.2.2.2.2.2.1 M hv_11) mv_X4_162 (kd106 M) cl4 rfl rfl (blt_k (by decide)) rfl rfl dX4_readTest_162 ?_
        exact x_vretW G hf hr dX4_readTest_165
  · refine x_aload_n G dX4_readTest_82 rfl rfl ?_
    obtain ⟨v_12, hv_12, hf⟩ := bnd hf
    refine x_virV G (As := []) (mX4_fail G.2.2.2.2.2.2.1 M hv_12) mv_X4_162 (kd106 M) cl4 rfl rfl (blt_k (by decide)) rfl rfl dX4_readTest_83 ?_
    refine x_goto G (tgt := 165) dX4_readTest_86 (by decide) ?_
    exact x_vretW G hf hr dX4_readTest_165

set_option maxHeartbeats 4000000 in
set_option maxRecDepth 100000 in
theorem xX4_readTest_44 {K : KT} {dr : Nat} {v3 : Int32} {w : Wd} {r : Wd} (G : GK K cX4_readTest RX4 4 (dr + 30)) (M : Main K.ks) (c_readOrs : Int32 →  Wd → Option Wd) (hc_readOrs : ∀ (v1 : Int32) (w : Wd) (r : Wd), c_readOrs v1 w = some r → CV K.l yX4_readOrs cX4_readOrs 2 none (dr + 20) K.ks [.ref 106, .int v1] w r) (c_readTest : Int32 →  Wd → Option Wd) (hc_readTest : ∀ (v1 : Int32) (w : Wd) (r : Wd), c_readTest v1 w = some r → CV K.l yX4_readTest cX4_readTest 4 none (dr + 0) K.ks [.ref 106, .int v1] w r) (hf : fX4_readTest_44 c_readOrs c_readTest v3 w = some r) (hr : RV K r) : XW K 44 [some (.ref 106), none, none, some (.int v3)] [] w := by
  unfold fX4_readTest_44 at hf
  refine x_aload_n G dX4_readTest_44 rfl rfl ?_
  refine x_dup G dX4_readTest_45 rfl ?_
  refine x_getI G (kd106 M) 10 rfl cl4 rfl wf_X4_46 dX4_readTest_46 ?_
  refine x_iconst G (v := 1) dX4_readTest_49 (by decide) ?_
  refine x_iadd G dX4_readTest_50 ?_
  refine x_putI G (kd106 M) 10 rfl cl4 rfl wf_X4_46 rfl rfl rfl dX4_readTest_51 ?_
  refine nwr hf (fun w_1 hf => ?_)
  refine x_aload_n G dX4_readTest_54 rfl rfl ?_
  obtain ⟨v_2, hv_2, hf⟩ := bnd hf
  refine x_virV G (As := []) (mX4_readSum G.2.2.2.2.2.2.1 M hv_2) mv_X4_177 (kd106 M) cl4 rfl rfl (blt_k (by decide)) rfl rfl dX4_readTest_55 ?_
  refine x_aload_n G dX4_readTest_58 rfl rfl ?_
  refine x_sipush G (v := 20000) dX4_readTest_59 (by decide) ?_
  refine x_iload_n G dX4_readTest_62 rfl rfl ?_
  refine x_iadd G dX4_readTest_63 ?_
  obtain ⟨v_3, hv_3, hf⟩ := bnd hf
  refine x_virV G (As := [.int ((20000 : Int32) + v3)]) (mX4_draftStep G.2.2.2.2.2.2.1 M hv_3) mv_X4_171 (kd106 M) cl4 rfl rfl (blt_k (by decide)) rfl rfl dX4_readTest_64 ?_
  refine x_goto G (tgt := 74) dX4_readTest_67 (by decide) ?_
  refine x_goto G (tgt := 165) dX4_readTest_74 (by decide) ?_
  exact x_vretW G hf hr dX4_readTest_165

set_option maxHeartbeats 4000000 in
set_option maxRecDepth 100000 in
theorem xX4_readTest_e {K : KT} {dr : Nat} {v1 : Int32} {w : Wd} {r : Wd} (G : GK K cX4_readTest RX4 4 (dr + 30)) (M : Main K.ks) (c_readOrs : Int32 →  Wd → Option Wd) (hc_readOrs : ∀ (v1 : Int32) (w : Wd) (r : Wd), c_readOrs v1 w = some r → CV K.l yX4_readOrs cX4_readOrs 2 none (dr + 20) K.ks [.ref 106, .int v1] w r) (c_readTest : Int32 →  Wd → Option Wd) (hc_readTest : ∀ (v1 : Int32) (w : Wd) (r : Wd), c_readTest v1 w = some r → CV K.l yX4_readTest cX4_readTest 4 none (dr + 0) K.ks [.ref 106, .int v1] w r) (hf : fX4_readTest c_readOrs c_readTest v1 w = some r) (hr : RV K r) : XW K 0 [some (.ref 106), some (.int v1), none, none] [] w := by
  unfold fX4_readTest at hf
  refine x_aload_n G dX4_readTest_0 rfl rfl ?_
  obtain ⟨v_1, hv_1, hf⟩ := bnd hf
  refine x_virI G (As := []) (mX4_peek G.2.2.2.2.2.2.1 M hv_1) mv_X4_168 (kd106 M) cl4 rfl rfl (blt_k (by decide)) rfl rfl dX4_readTest_1 ?_
  refine x_istore_n G (lv' := [some (.ref 106), some (.int v1), some (.int v_1), none]) dX4_readTest_4 rfl rfl rfl rfl ?_
  refine x_iload_n G dX4_readTest_5 rfl rfl ?_
  refine x_bipush G (v := 33) dX4_readTest_6 (by decide) ?_
  refine x_icmpeq G (tgt := 77) dX4_readTest_8 (by decide) hf (fun c_2 hf => ?_) (fun c_2 hf => ?_)
  · exact XW.sub (lv' := [some (.ref 106), some (.int v1), some (.int v_1), none]) (And.intro rfl (And.intro rfl (And.intro rfl trivial))) (xX4_readTest_77 G M c_readOrs hc_readOrs c_readTest hc_readTest hf hr)
  · refine x_iload_n G dX4_readTest_11 rfl rfl ?_
    refine x_bipush G (v := 40) dX4_readTest_12 (by decide) ?_
    refine x_icmpeq G (tgt := 77) dX4_readTest_14 (by decide) hf (fun c_3 hf => ?_) (fun c_3 hf => ?_)
    · exact XW.sub (lv' := [some (.ref 106), some (.int v1), some (.int v_1), none]) (And.intro rfl (And.intro rfl (And.intro rfl trivial))) (xX4_readTest_77 G M c_readOrs hc_readOrs c_readTest hc_readTest hf hr)
    · refine x_aload_n G dX4_readTest_17 rfl rfl ?_
      obtain ⟨v_4, hv_4, hf⟩ := bnd hf
      refine x_virV G (As := []) (mX4_readSum G.2.2.2.2.2.2.1 M hv_4) mv_X4_177 (kd106 M) cl4 rfl rfl (blt_k (by decide)) rfl rfl dX4_readTest_18 ?_
      refine x_aload_n G dX4_readTest_21 rfl rfl ?_
      obtain ⟨v_5, hv_5, hf⟩ := bnd hf
      refine x_virI G (As := []) (mX4_peek G.2.2.2.2.2.2.1 M hv_5) mv_X4_168 (kd106 M) cl4 rfl rfl (blt_k (by decide)) rfl rfl dX4_readTest_22 ?_
      refine x_istore_n G (lv' := [some (.ref 106), some (.int v1), some (.int v_1), some (.int v_5)]) dX4_readTest_25 rfl rfl rfl rfl ?_
      refine x_iload_n G dX4_readTest_26 rfl rfl ?_
      refine x_bipush G (v := 60) dX4_readTest_27 (by decide) ?_
      refine x_icmpeq G (tgt := 44) dX4_readTest_29 (by decide) hf (fun c_6 hf => ?_) (fun c_6 hf => ?_)
      · exact XW.sub (lv' := [some (.ref 106), none, none, some (.int v_5)]) (And.intro rfl (And.intro rfl trivial)) (xX4_readTest_44 G M c_readOrs hc_readOrs c_readTest hc_readTest hf hr)
      · refine x_iload_n G dX4_readTest_32 rfl rfl ?_
        refine x_bipush G (v := 61) dX4_readTest_33 (by decide) ?_
        refine x_icmpeq G (tgt := 44) dX4_readTest_35 (by decide) hf (fun c_7 hf => ?_) (fun c_7 hf => ?_)
        · exact XW.sub (lv' := [some (.ref 106), none, none, some (.int v_5)]) (And.intro rfl (And.intro rfl trivial)) (xX4_readTest_44 G M c_readOrs hc_readOrs c_readTest hc_readTest hf hr)
        · refine x_iload_n G dX4_readTest_38 rfl rfl ?_
          refine x_bipush G (v := 62) dX4_readTest_39 (by decide) ?_
          refine x_icmpne G (tgt := 70) dX4_readTest_41 (by decide) hf (fun c_8 hf => ?_) (fun c_8 hf => ?_)
          · exact XW.sub (lv' := [some (.ref 106), none, none, some (.int v_5)]) (And.intro rfl (And.intro rfl trivial)) (xX4_readTest_44 G M c_readOrs hc_readOrs c_readTest hc_readTest hf hr)
          · refine x_aload_n G dX4_readTest_70 rfl rfl ?_
            obtain ⟨v_9, hv_9, hf⟩ := bnd hf
            refine x_virV G (As := []) (mX4_fail G.2.2.2.2.2.2.1 M hv_9) mv_X4_162 (kd106 M) cl4 rfl rfl (blt_k (by decide)) rfl rfl dX4_readTest_71 ?_
            refine x_goto G (tgt := 165) dX4_readTest_74 (by decide) ?_
            exact x_vretW G hf hr dX4_readTest_165

theorem mX4_readTest {l : Launch} {S : KS} {dr : Nat} {w : Wd} (hI : Inj S) (M : Main S) (c_readOrs : Int32 →  Wd → Option Wd) (hc_readOrs : ∀ (v1 : Int32) (w : Wd) (r : Wd), c_readOrs v1 w = some r → CV l yX4_readOrs cX4_readOrs 2 none (dr + 20) S [.ref 106, .int v1] w r) (c_readTest : Int32 →  Wd → Option Wd) (hc_readTest : ∀ (v1 : Int32) (w : Wd) (r : Wd), c_readTest v1 w = some r → CV l yX4_readTest cX4_readTest 4 none (dr + 0) S [.ref 106, .int v1] w r) {v1 : Int32} {r : Wd} (hf : fX4_readTest c_readOrs c_readTest v1 w = some r) : CV l yX4_readTest cX4_readTest 4 none (dr + 30) S [.ref 106, .int v1] w r := by
  intro sz
  refine mk_entry rfl (by decide +kernel) hI 2 rfl rfl (fun K h1 h2 h3 h4 h5 h6 G => ?_)
  subst h2
  subst h1
  exact xX4_readTest_e G M c_readOrs hc_readOrs c_readTest hc_readTest hf ⟨h3, by rw [h4, h6], h5⟩

theorem mKRT {l : Launch} {S : KS} (hI : Inj S) (M : Main S) : ∀ (n : Nat) (v : Int32) (w r : Wd), kRT n v w = some r → CV l yX4_readTest cX4_readTest 4 none (30 * n) S [.ref 106, .int v] w r
  | 0, v, w, r, h => by cases h
  | n + 1, v, w, r, h => by
    have ih := mKRT (l := l) hI M n
    exact mX4_readTest (dr := 30 * n) hI M (fX4_readOrs (kRT n)) (fun v w r h => mX4_readOrs (dr := 30 * n) hI M (kRT n) ih h) (kRT n) ih h
theorem mKRO {l : Launch} {S : KS} (hI : Inj S) (M : Main S) {v : Int32} {w r : Wd} (h : kRO v w = some r) : CV l yX4_readOrs cX4_readOrs 2 none 200 S [.ref 106, .int v] w r := mX4_readOrs (dr := 180) hI M (kRT 6) (mKRT hI M 6) h

set_option maxHeartbeats 4000000 in
set_option maxRecDepth 100000 in
theorem xX12_here_e {K : KT} {w : Wd} {r : Int32} (G : GK K cX12_here RX12 1 1) (M : Main K.ks) (hf : fX12_here w = some r) (hr : RI K .int r w) : XW K 0 [some (.ref 148)] [] w := by
  unfold fX12_here at hf
  refine x_aload_n G dX12_here_0 rfl rfl ?_
  refine x_getI G (kd148 M) 24 rfl cl12 rfl wf_X12_279 dX12_here_1 ?_
  refine x_aload_n G dX12_here_4 rfl rfl ?_
  refine x_getI G (kd148 M) 23 rfl cl12 rfl wf_X12_282 dX12_here_5 ?_
  refine x_icmpge G (tgt := 23) dX12_here_8 (by decide) hf (fun c_1 hf => ?_) (fun c_1 hf => ?_)
  · refine x_aload_n G dX12_here_11 rfl rfl ?_
    refine x_getR G (kd148 M) 22 (b := 163) rfl cl12 rfl wf_X12_57 dX12_here_12 ?_
    refine x_aload_n G dX12_here_15 rfl rfl ?_
    refine x_getI G (kd148 M) 24 rfl cl12 rfl wf_X12_279 dX12_here_16 ?_
    refine x_iald G (kd163 M) dX12_here_19 hf (fun hb_2 hf => ?_)
    refine x_goto G (tgt := 24) dX12_here_20 (by decide) ?_
    exact x_iretP G hf hr dX12_here_24
  · refine x_iconst G (v := -1) dX12_here_23 (by decide) ?_
    exact x_iretP G hf hr dX12_here_24

theorem mX12_here {l : Launch} {S : KS} {w : Wd} (hI : Inj S) (M : Main S) {r : Int32} (hf : fX12_here w = some r) : CI l yX12_here cX12_here 1 (some .int) 1 S [.ref 148] w r w := by
  intro sz
  refine mk_entry rfl (by decide +kernel) hI 0 rfl rfl (fun K h1 h2 h3 h4 h5 h6 G => ?_)
  subst h2
  exact xX12_here_e G M hf ⟨h3, by rw [h4, h6], h5⟩

set_option maxHeartbeats 4000000 in
set_option maxRecDepth 100000 in
theorem xX12_sign_e {K : KT} {v1 : Int32} {w : Wd} {r : Bool × Wd} (G : GK K cX12_sign RX12 2 2) (M : Main K.ks) (hf : fX12_sign v1 w = some r) (hr : RI K .boolean (bI r.1) r.2) : XW K 0 [some (.ref 148), some (.int v1)] [] w := by
  unfold fX12_sign at hf
  refine x_aload_n G dX12_sign_0 rfl rfl ?_
  refine x_getI G (kd148 M) 26 rfl cl12 rfl wf_X12_285 dX12_sign_1 ?_
  refine x_ifne G (tgt := 15) dX12_sign_4 (by decide) hf (fun c_1 hf => ?_) (fun c_1 hf => ?_)
  · refine x_aload_n G dX12_sign_7 rfl rfl ?_
    obtain ⟨v_2, hv_2, hf⟩ := bnd hf
    refine x_virI G (As := []) (mX12_here G.2.2.2.2.2.2.1 M hv_2) mv_X12_289 (kd148 M) cl12 rfl rfl rfl rfl rfl dX12_sign_8 ?_
    refine x_iload_n G dX12_sign_11 rfl rfl ?_
    refine x_icmpeq G (tgt := 17) dX12_sign_12 (by decide) hf (fun c_3 hf => ?_) (fun c_3 hf => ?_)
    · refine x_aload_n G dX12_sign_17 rfl rfl ?_
      refine x_dup G dX12_sign_18 rfl ?_
      refine x_getI G (kd148 M) 24 rfl cl12 rfl wf_X12_279 dX12_sign_19 ?_
      refine x_iconst G (v := 1) dX12_sign_22 (by decide) ?_
      refine x_iadd G dX12_sign_23 ?_
      refine x_putI G (kd148 M) 24 rfl cl12 rfl wf_X12_279 rfl rfl rfl dX12_sign_24 ?_
      refine nwr hf (fun w_4 hf => ?_)
      refine x_iconst G (v := 1) dX12_sign_27 (by decide) ?_
      exact x_zretW G hf hr dX12_sign_28
    · refine x_iconst G (v := 0) dX12_sign_15 (by decide) ?_
      exact x_zretW G hf hr dX12_sign_16
  · refine x_iconst G (v := 0) dX12_sign_15 (by decide) ?_
    exact x_zretW G hf hr dX12_sign_16

theorem mX12_sign {l : Launch} {S : KS} {w : Wd} (hI : Inj S) (M : Main S) {v1 : Int32} {r : Bool × Wd} (hf : fX12_sign v1 w = some r) : CI l yX12_sign cX12_sign 2 (some .boolean) 2 S [.ref 148, .int v1] w (bI r.1) r.2 := by
  intro sz
  refine mk_entry rfl (by decide +kernel) hI 0 rfl rfl (fun K h1 h2 h3 h4 h5 h6 G => ?_)
  subst h2
  exact xX12_sign_e G M hf ⟨h3, by rw [h4, h6], h5⟩

set_option maxHeartbeats 4000000 in
set_option maxRecDepth 100000 in
theorem xX12_ands_5 {K : KT} {dr : Nat} {r : Bool × Wd} (G : GK K cX12_ands RX12 3 (dr + 10)) (M : Main K.ks) (c_test :  Wd → Option (Bool × Wd)) (hc_test : ∀ (w : Wd) (r : Bool × Wd), c_test w = some r → CI K.l yX12_test cX12_test 4 (some .boolean) (dr + 0) K.ks [.ref 148] w (bI r.1) r.2) (hr : RI K .boolean (bI r.1) r.2) : ∀ (n : Nat) (v1 : Int32) (w : Wd), fX12_ands_5 c_test n v1 w = some r → XW K 5 [some (.ref 148), some (.int v1), none] [] w := by
  intro n
  induction n with
  | zero =>
    intro v1 w hf
    unfold fX12_ands_5 at hf
    cases hf
  | succ n ih =>
    intro v1 w hf
    unfold fX12_ands_5 at hf
    refine x_aload_n G dX12_ands_5 rfl rfl ?_
    refine x_bipush G (v := 38) dX12_ands_6 (by decide) ?_
    obtain ⟨v_1, hv_1, hf⟩ := bnd hf
    refine x_virI G (As := [.int (38 : Int32)]) (mX12_sign G.2.2.2.2.2.2.1 M hv_1) mv_X12_330 (kd148 M) cl12 rfl rfl (blt_k (by decide)) rfl rfl dX12_ands_8 ?_
    refine x_ifeqB G (tgt := 36) dX12_ands_11 (by decide) hf (fun c_2 hf => ?_) (fun c_2 hf => ?_)
    · refine x_aload_n G dX12_ands_14 rfl rfl ?_
      obtain ⟨v_3, hv_3, hf⟩ := bnd hf
      refine x_virI G (As := []) (hc_test _ _ hv_3) mv_X12_323 (kd148 M) cl12 rfl rfl (blt_o (by decide)) rfl rfl dX12_ands_15 ?_
      refine x_istore_n G (lv' := [some (.ref 148), some (.int v1), some (.int (bI v_3.1))]) dX12_ands_18 rfl rfl rfl rfl ?_
      refine x_iload_n G dX12_ands_19 rfl rfl ?_
      refine x_ifeq G (tgt := 31) dX12_ands_20 (by decide) hf (fun c_4 hf => ?_) (fun c_4 hf => ?_)
      · refine x_iconst G (v := 0) dX12_ands_31 (by decide) ?_
        refine x_istore_n G (lv' := [some (.ref 148), some (.int (0 : Int32)), some (.int (bI v_3.1))]) dX12_ands_32 rfl rfl rfl rfl ?_
        refine x_goto G (tgt := 5) dX12_ands_33 (by decide) ?_
        exact XW.sub (lv' := [some (.ref 148), some (.int (0 : Int32)), none]) (And.intro rfl (And.intro rfl trivial)) (ih _ _ hf)
      · refine x_iload_n G dX12_ands_23 rfl rfl ?_
        refine x_ifeqB G (tgt := 31) dX12_ands_24 (by decide) hf (fun c_5 hf => ?_) (fun c_5 hf => ?_)
        · refine x_iconst G (v := 1) dX12_ands_27 (by decide) ?_
          refine x_goto G (tgt := 32) dX12_ands_28 (by decide) ?_
          refine x_istore_n G (lv' := [some (.ref 148), some (.int (1 : Int32)), some (.int (bI v_3.1))]) dX12_ands_32 rfl rfl rfl rfl ?_
          refine x_goto G (tgt := 5) dX12_ands_33 (by decide) ?_
          exact XW.sub (lv' := [some (.ref 148), some (.int (1 : Int32)), none]) (And.intro rfl (And.intro rfl trivial)) (ih _ _ hf)
        · refine x_iconst G (v := 0) dX12_ands_31 (by decide) ?_
          refine x_istore_n G (lv' := [some (.ref 148), some (.int (0 : Int32)), some (.int (bI v_3.1))]) dX12_ands_32 rfl rfl rfl rfl ?_
          refine x_goto G (tgt := 5) dX12_ands_33 (by decide) ?_
          exact XW.sub (lv' := [some (.ref 148), some (.int (0 : Int32)), none]) (And.intro rfl (And.intro rfl trivial)) (ih _ _ hf)
    · refine x_iload_n G dX12_ands_36 rfl rfl ?_
      exact x_zretUW G hf hr dX12_ands_37

set_option maxHeartbeats 4000000 in
set_option maxRecDepth 100000 in
theorem xX12_ands_e {K : KT} {dr : Nat} {w : Wd} {r : Bool × Wd} (G : GK K cX12_ands RX12 3 (dr + 10)) (M : Main K.ks) (c_test :  Wd → Option (Bool × Wd)) (hc_test : ∀ (w : Wd) (r : Bool × Wd), c_test w = some r → CI K.l yX12_test cX12_test 4 (some .boolean) (dr + 0) K.ks [.ref 148] w (bI r.1) r.2) (hf : fX12_ands c_test w = some r) (hr : RI K .boolean (bI r.1) r.2) : XW K 0 [some (.ref 148), none, none] [] w := by
  unfold fX12_ands at hf
  refine x_aload_n G dX12_ands_0 rfl rfl ?_
  obtain ⟨v_1, hv_1, hf⟩ := bnd hf
  refine x_virI G (As := []) (hc_test _ _ hv_1) mv_X12_323 (kd148 M) cl12 rfl rfl (blt_o (by decide)) rfl rfl dX12_ands_1 ?_
  refine x_istore_n G (lv' := [some (.ref 148), some (.int (bI v_1.1)), none]) dX12_ands_4 rfl rfl rfl rfl ?_
  exact XW.sub (lv' := [some (.ref 148), some (.int (bI v_1.1)), none]) (And.intro rfl (And.intro rfl trivial)) (xX12_ands_5 G M c_test hc_test hr FU _ _ hf)

theorem mX12_ands {l : Launch} {S : KS} {dr : Nat} {w : Wd} (hI : Inj S) (M : Main S) (c_test :  Wd → Option (Bool × Wd)) (hc_test : ∀ (w : Wd) (r : Bool × Wd), c_test w = some r → CI l yX12_test cX12_test 4 (some .boolean) (dr + 0) S [.ref 148] w (bI r.1) r.2) {r : Bool × Wd} (hf : fX12_ands c_test w = some r) : CI l yX12_ands cX12_ands 3 (some .boolean) (dr + 10) S [.ref 148] w (bI r.1) r.2 := by
  intro sz
  refine mk_entry rfl (by decide +kernel) hI 2 rfl rfl (fun K h1 h2 h3 h4 h5 h6 G => ?_)
  subst h2
  subst h1
  exact xX12_ands_e G M c_test hc_test hf ⟨h3, by rw [h4, h6], h5⟩

set_option maxHeartbeats 4000000 in
set_option maxRecDepth 100000 in
theorem xX12_ors_5 {K : KT} {dr : Nat} {r : Bool × Wd} (G : GK K cX12_ors RX12 3 (dr + 20)) (M : Main K.ks) (c_test :  Wd → Option (Bool × Wd)) (hc_test : ∀ (w : Wd) (r : Bool × Wd), c_test w = some r → CI K.l yX12_test cX12_test 4 (some .boolean) (dr + 0) K.ks [.ref 148] w (bI r.1) r.2) (hr : RI K .boolean (bI r.1) r.2) : ∀ (n : Nat) (v1 : Int32) (w : Wd), fX12_ors_5 c_test n v1 w = some r → XW K 5 [some (.ref 148), some (.int v1), none] [] w := by
  intro n
  induction n with
  | zero =>
    intro v1 w hf
    unfold fX12_ors_5 at hf
    cases hf
  | succ n ih =>
    intro v1 w hf
    unfold fX12_ors_5 at hf
    refine x_aload_n G dX12_ors_5 rfl rfl ?_
    refine x_bipush G (v := 124) dX12_ors_6 (by decide) ?_
    obtain ⟨v_1, hv_1, hf⟩ := bnd hf
    refine x_virI G (As := [.int (124 : Int32)]) (mX12_sign G.2.2.2.2.2.2.1 M hv_1) mv_X12_330 (kd148 M) cl12 rfl rfl (blt_k (by decide)) rfl rfl dX12_ors_8 ?_
    refine x_ifeqB G (tgt := 36) dX12_ors_11 (by decide) hf (fun c_2 hf => ?_) (fun c_2 hf => ?_)
    · refine x_aload_n G dX12_ors_14 rfl rfl ?_
      obtain ⟨v_3, hv_3, hf⟩ := bnd hf
      refine x_virI G (As := []) (mX12_ands G.2.2.2.2.2.2.1 M c_test hc_test hv_3) mv_X12_336 (kd148 M) cl12 rfl rfl (blt_o (by decide)) rfl rfl dX12_ors_15 ?_
      refine x_istore_n G (lv' := [some (.ref 148), some (.int v1), some (.int (bI v_3.1))]) dX12_ors_18 rfl rfl rfl rfl ?_
      refine x_iload_n G dX12_ors_19 rfl rfl ?_
      refine x_ifne G (tgt := 27) dX12_ors_20 (by decide) hf (fun c_4 hf => ?_) (fun c_4 hf => ?_)
      · refine x_iload_n G dX12_ors_23 rfl rfl ?_
        refine x_ifeqB G (tgt := 31) dX12_ors_24 (by decide) hf (fun c_5 hf => ?_) (fun c_5 hf => ?_)
        · refine x_iconst G (v := 1) dX12_ors_27 (by decide) ?_
          refine x_goto G (tgt := 32) dX12_ors_28 (by decide) ?_
          refine x_istore_n G (lv' := [some (.ref 148), some (.int (1 : Int32)), some (.int (bI v_3.1))]) dX12_ors_32 rfl rfl rfl rfl ?_
          refine x_goto G (tgt := 5) dX12_ors_33 (by decide) ?_
          exact XW.sub (lv' := [some (.ref 148), some (.int (1 : Int32)), none]) (And.intro rfl (And.intro rfl trivial)) (ih _ _ hf)
        · refine x_iconst G (v := 0) dX12_ors_31 (by decide) ?_
          refine x_istore_n G (lv' := [some (.ref 148), some (.int (0 : Int32)), some (.int (bI v_3.1))]) dX12_ors_32 rfl rfl rfl rfl ?_
          refine x_goto G (tgt := 5) dX12_ors_33 (by decide) ?_
          exact XW.sub (lv' := [some (.ref 148), some (.int (0 : Int32)), none]) (And.intro rfl (And.intro rfl trivial)) (ih _ _ hf)
      · refine x_iconst G (v := 1) dX12_ors_27 (by decide) ?_
        refine x_goto G (tgt := 32) dX12_ors_28 (by decide) ?_
        refine x_istore_n G (lv' := [some (.ref 148), some (.int (1 : Int32)), some (.int (bI v_3.1))]) dX12_ors_32 rfl rfl rfl rfl ?_
        refine x_goto G (tgt := 5) dX12_ors_33 (by decide) ?_
        exact XW.sub (lv' := [some (.ref 148), some (.int (1 : Int32)), none]) (And.intro rfl (And.intro rfl trivial)) (ih _ _ hf)
    · refine x_iload_n G dX12_ors_36 rfl rfl ?_
      exact x_zretUW G hf hr dX12_ors_37

set_option maxHeartbeats 4000000 in
set_option maxRecDepth 100000 in
theorem xX12_ors_e {K : KT} {dr : Nat} {w : Wd} {r : Bool × Wd} (G : GK K cX12_ors RX12 3 (dr + 20)) (M : Main K.ks) (c_test :  Wd → Option (Bool × Wd)) (hc_test : ∀ (w : Wd) (r : Bool × Wd), c_test w = some r → CI K.l yX12_test cX12_test 4 (some .boolean) (dr + 0) K.ks [.ref 148] w (bI r.1) r.2) (hf : fX12_ors c_test w = some r) (hr : RI K .boolean (bI r.1) r.2) : XW K 0 [some (.ref 148), none, none] [] w := by
  unfold fX12_ors at hf
  refine x_aload_n G dX12_ors_0 rfl rfl ?_
  obtain ⟨v_1, hv_1, hf⟩ := bnd hf
  refine x_virI G (As := []) (mX12_ands G.2.2.2.2.2.2.1 M c_test hc_test hv_1) mv_X12_336 (kd148 M) cl12 rfl rfl (blt_o (by decide)) rfl rfl dX12_ors_1 ?_
  refine x_istore_n G (lv' := [some (.ref 148), some (.int (bI v_1.1)), none]) dX12_ors_4 rfl rfl rfl rfl ?_
  exact XW.sub (lv' := [some (.ref 148), some (.int (bI v_1.1)), none]) (And.intro rfl (And.intro rfl trivial)) (xX12_ors_5 G M c_test hc_test hr FU _ _ hf)

theorem mX12_ors {l : Launch} {S : KS} {dr : Nat} {w : Wd} (hI : Inj S) (M : Main S) (c_test :  Wd → Option (Bool × Wd)) (hc_test : ∀ (w : Wd) (r : Bool × Wd), c_test w = some r → CI l yX12_test cX12_test 4 (some .boolean) (dr + 0) S [.ref 148] w (bI r.1) r.2) {r : Bool × Wd} (hf : fX12_ors c_test w = some r) : CI l yX12_ors cX12_ors 3 (some .boolean) (dr + 20) S [.ref 148] w (bI r.1) r.2 := by
  intro sz
  refine mk_entry rfl (by decide +kernel) hI 2 rfl rfl (fun K h1 h2 h3 h4 h5 h6 G => ?_)
  subst h2
  subst h1
  exact xX12_ors_e G M c_test hc_test hf ⟨h3, by rw [h4, h6], h5⟩

set_option maxHeartbeats 4000000 in
set_option maxRecDepth 100000 in
theorem xX12_opens_13 {K : KT} {w : Wd} {r : Wd} (G : GK K cX12_opens RX12 1 1) (M : Main K.ks) (hf : fX12_opens_13 w = some r) (hr : RV K r) : XW K 13 [some (.ref 148)] [] w := by
  unfold fX12_opens_13 at hf
  refine x_aload_n G dX12_opens_13 rfl rfl ?_
  refine x_getI G (kd148 M) 26 rfl cl12 rfl wf_X12_285 dX12_opens_14 ?_
  refine x_ifeq G (tgt := 21) dX12_opens_17 (by decide) hf (fun c_1 hf => ?_) (fun c_1 hf => ?_)
  · refine x_aload_n G dX12_opens_21 rfl rfl ?_
    refine x_dup G dX12_opens_22 rfl ?_
    refine x_getI G (kd148 M) 25 rfl cl12 rfl wf_X12_317 dX12_opens_23 ?_
    refine x_iconst G (v := 1) dX12_opens_26 (by decide) ?_
    refine x_iadd G dX12_opens_27 ?_
    refine x_putI G (kd148 M) 25 rfl cl12 rfl wf_X12_317 rfl rfl rfl dX12_opens_28 ?_
    refine nwr hf (fun w_2 hf => ?_)
    refine x_aload_n G dX12_opens_31 rfl rfl ?_
    refine x_dup G dX12_opens_32 rfl ?_
    refine x_getI G (kd148 M) 24 rfl cl12 rfl wf_X12_279 dX12_opens_33 ?_
    refine x_iconst G (v := 1) dX12_opens_36 (by decide) ?_
    refine x_iadd G dX12_opens_37 ?_
    refine x_putI G (kd148 M) 24 rfl cl12 rfl wf_X12_279 rfl rfl rfl dX12_opens_38 ?_
    refine nwr hf (fun w_3 hf => ?_)
    exact x_vretW G hf hr dX12_opens_41
  · exact x_vretW G hf hr dX12_opens_20

set_option maxHeartbeats 4000000 in
set_option maxRecDepth 100000 in
theorem xX12_opens_e {K : KT} {w : Wd} {r : Wd} (G : GK K cX12_opens RX12 1 1) (M : Main K.ks) (hf : fX12_opens w = some r) (hr : RV K r) : XW K 0 [some (.ref 148)] [] w := by
  unfold fX12_opens at hf
  refine x_aload_n G dX12_opens_0 rfl rfl ?_
  refine x_getI G (kd148 M) 25 rfl cl12 rfl wf_X12_317 dX12_opens_1 ?_
  refine x_iconst G (v := 5) dX12_opens_4 (by decide) ?_
  refine x_icmpne G (tgt := 13) dX12_opens_5 (by decide) hf (fun c_1 hf => ?_) (fun c_1 hf => ?_)
  · refine x_aload_n G dX12_opens_8 rfl rfl ?_
    refine x_iconst G (v := 1) dX12_opens_9 (by decide) ?_
    refine x_putI G (kd148 M) 26 rfl cl12 rfl wf_X12_285 rfl (by decide +kernel) (by decide +kernel) dX12_opens_10 ?_
    refine nwr hf (fun w_2 hf => ?_)
    exact (xX12_opens_13 G M hf hr)
  · exact (xX12_opens_13 G M hf hr)

theorem mX12_opens {l : Launch} {S : KS} {w : Wd} (hI : Inj S) (M : Main S) {r : Wd} (hf : fX12_opens w = some r) : CV l yX12_opens cX12_opens 1 none 1 S [.ref 148] w r := by
  intro sz
  refine mk_entry rfl (by decide +kernel) hI 0 rfl rfl (fun K h1 h2 h3 h4 h5 h6 G => ?_)
  subst h2
  exact xX12_opens_e G M hf ⟨h3, by rw [h4, h6], h5⟩

set_option maxHeartbeats 4000000 in
set_option maxRecDepth 100000 in
theorem xX12_beside_e {K : KT} {v0 : Int32} {v1 : Int32} {w : Wd} {r : Int32} (G : GK K cX12_beside RX12 2 1) (M : Main K.ks) (hf : fX12_beside v0 v1 w = some r) (hr : RI K .int r w) : XW K 0 [some (.int v0), some (.int v1)] [] w := by
  unfold fX12_beside at hf
  refine x_iload_n G dX12_beside_0 rfl rfl ?_
  rcases ite_or hf with ⟨c_2, hf⟩ | ⟨c_2, hf⟩
  · refine x_swIn G (tgt := 28) (off := 27) (k := 0) dX12_beside_1 c_2 (by decide) (by decide) (by decide) (by decide) ?_
    refine x_iload_n G dX12_beside_28 rfl rfl ?_
    refine x_bipush G (v := 10) dX12_beside_29 (by decide) ?_
    refine x_icmplt G (tgt := 41) dX12_beside_31 (by decide) hf (fun c_1 hf => ?_) (fun c_1 hf => ?_)
    · refine x_iconst G (v := -1) dX12_beside_41 (by decide) ?_
      exact x_iretP G hf hr dX12_beside_42
    · refine x_iload_n G dX12_beside_34 rfl rfl ?_
      refine x_bipush G (v := 10) dX12_beside_35 (by decide) ?_
      refine x_isub G dX12_beside_37 ?_
      refine x_goto G (tgt := 42) dX12_beside_38 (by decide) ?_
      exact x_iretP G hf hr dX12_beside_42
  rcases ite_or hf with ⟨c_4, hf⟩ | ⟨c_4, hf⟩
  · refine x_swIn G (tgt := 43) (off := 42) (k := 1) dX12_beside_1 c_4 (by decide) (by decide) (by decide) (by decide) ?_
    refine x_iload_n G dX12_beside_43 rfl rfl ?_
    refine x_bipush G (v := 10) dX12_beside_44 (by decide) ?_
    refine x_irem' G dX12_beside_46 (by decide) ?_
    refine x_ifle G (tgt := 56) dX12_beside_47 (by decide) hf (fun c_3 hf => ?_) (fun c_3 hf => ?_)
    · refine x_iload_n G dX12_beside_50 rfl rfl ?_
      refine x_iconst G (v := 1) dX12_beside_51 (by decide) ?_
      refine x_isub G dX12_beside_52 ?_
      refine x_goto G (tgt := 57) dX12_beside_53 (by decide) ?_
      exact x_iretP G hf hr dX12_beside_57
    · refine x_iconst G (v := -1) dX12_beside_56 (by decide) ?_
      exact x_iretP G hf hr dX12_beside_57
  rcases ite_or hf with ⟨c_6, hf⟩ | ⟨c_6, hf⟩
  · refine x_swIn G (tgt := 58) (off := 57) (k := 2) dX12_beside_1 c_6 (by decide) (by decide) (by decide) (by decide) ?_
    refine x_iload_n G dX12_beside_58 rfl rfl ?_
    refine x_bipush G (v := 10) dX12_beside_59 (by decide) ?_
    refine x_irem' G dX12_beside_61 (by decide) ?_
    refine x_bipush G (v := 9) dX12_beside_62 (by decide) ?_
    refine x_icmpge G (tgt := 73) dX12_beside_64 (by decide) hf (fun c_5 hf => ?_) (fun c_5 hf => ?_)
    · refine x_iload_n G dX12_beside_67 rfl rfl ?_
      refine x_iconst G (v := 1) dX12_beside_68 (by decide) ?_
      refine x_iadd G dX12_beside_69 ?_
      refine x_goto G (tgt := 74) dX12_beside_70 (by decide) ?_
      exact x_iretP G hf hr dX12_beside_74
    · refine x_iconst G (v := -1) dX12_beside_73 (by decide) ?_
      exact x_iretP G hf hr dX12_beside_74
  refine x_swDef G (tgt := 75) dX12_beside_1 (by decide) [0, 1, 2] (List.forall_mem_cons.mpr ⟨nek c_2 (by decide), (List.forall_mem_cons.mpr ⟨nek c_4 (by decide), (List.forall_mem_cons.mpr ⟨nek c_6 (by decide), (fun _ h => absurd h List.not_mem_nil)⟩)⟩)⟩) (by decide +kernel) ?_
  refine x_iload_n G dX12_beside_75 rfl rfl ?_
  refine x_bipush G (v := 90) dX12_beside_76 (by decide) ?_
  refine x_icmpge G (tgt := 88) dX12_beside_78 (by decide) hf (fun c_7 hf => ?_) (fun c_7 hf => ?_)
  · refine x_iload_n G dX12_beside_81 rfl rfl ?_
    refine x_bipush G (v := 10) dX12_beside_82 (by decide) ?_
    refine x_iadd G dX12_beside_84 ?_
    refine x_goto G (tgt := 89) dX12_beside_85 (by decide) ?_
    exact x_iretP G hf hr dX12_beside_89
  · refine x_iconst G (v := -1) dX12_beside_88 (by decide) ?_
    exact x_iretP G hf hr dX12_beside_89

theorem mX12_beside {l : Launch} {S : KS} {w : Wd} (hI : Inj S) (M : Main S) {v0 : Int32} {v1 : Int32} {r : Int32} (hf : fX12_beside v0 v1 w = some r) : CI l yX12_beside cX12_beside 2 (some .int) 1 S [.int v0, .int v1] w r w := by
  intro sz
  refine mk_entry rfl (by decide +kernel) hI 0 rfl rfl (fun K h1 h2 h3 h4 h5 h6 G => ?_)
  subst h2
  exact xX12_beside_e G M hf ⟨h3, by rw [h4, h6], h5⟩

set_option maxHeartbeats 4000000 in
set_option maxRecDepth 100000 in
theorem xX12_c_e {K : KT} {v1 : Int32} {v2 : Int32} {w : Wd} {r : Int32} (G : GK K cX12_c RX12 3 1) (M : Main K.ks) (hf : fX12_c v1 v2 w = some r) (hr : RI K .int r w) : XW K 0 [some (.ref 148), some (.int v1), some (.int v2)] [] w := by
  unfold fX12_c at hf
  refine x_aload_n G dX12_c_0 rfl rfl ?_
  refine x_getR G (kd148 M) 1 (b := 149) rfl cl12 rfl wf_X12_13 dX12_c_1 ?_
  refine x_bipush G (v := 15) dX12_c_4 (by decide) ?_
  refine x_iload_n G dX12_c_6 rfl rfl ?_
  refine x_imul G dX12_c_7 ?_
  refine x_iload_n G dX12_c_8 rfl rfl ?_
  refine x_iadd G dX12_c_9 ?_
  refine x_iald G (kd149 M) dX12_c_10 hf (fun hb_1 hf => ?_)
  exact x_iretP G hf hr dX12_c_11

theorem mX12_c {l : Launch} {S : KS} {w : Wd} (hI : Inj S) (M : Main S) {v1 : Int32} {v2 : Int32} {r : Int32} (hf : fX12_c v1 v2 w = some r) : CI l yX12_c cX12_c 3 (some .int) 1 S [.ref 148, .int v1, .int v2] w r w := by
  intro sz
  refine mk_entry rfl (by decide +kernel) hI 0 rfl rfl (fun K h1 h2 h3 h4 h5 h6 G => ?_)
  subst h2
  exact xX12_c_e G M hf ⟨h3, by rw [h4, h6], h5⟩

set_option maxHeartbeats 4000000 in
set_option maxRecDepth 100000 in
theorem xX12_g_e {K : KT} {v1 : Int32} {w : Wd} {r : Int32} (G : GK K cX12_g RX12 2 1) (M : Main K.ks) (hf : fX12_g v1 w = some r) (hr : RI K .int r w) : XW K 0 [some (.ref 148), some (.int v1)] [] w := by
  unfold fX12_g at hf
  refine x_aload_n G dX12_g_0 rfl rfl ?_
  refine x_getR G (kd148 M) 1 (b := 149) rfl cl12 rfl wf_X12_13 dX12_g_1 ?_
  refine x_sipush G (v := 4300) dX12_g_4 (by decide) ?_
  refine x_iload_n G dX12_g_7 rfl rfl ?_
  refine x_iadd G dX12_g_8 ?_
  refine x_iald G (kd149 M) dX12_g_9 hf (fun hb_1 hf => ?_)
  exact x_iretP G hf hr dX12_g_10

theorem mX12_g {l : Launch} {S : KS} {w : Wd} (hI : Inj S) (M : Main S) {v1 : Int32} {r : Int32} (hf : fX12_g v1 w = some r) : CI l yX12_g cX12_g 2 (some .int) 1 S [.ref 148, .int v1] w r w := by
  intro sz
  refine mk_entry rfl (by decide +kernel) hI 0 rfl rfl (fun K h1 h2 h3 h4 h5 h6 G => ?_)
  subst h2
  exact xX12_g_e G M hf ⟨h3, by rw [h4, h6], h5⟩

set_option maxHeartbeats 4000000 in
set_option maxRecDepth 100000 in
theorem xX12_day_e {K : KT} {w : Wd} {r : Int32} (G : GK K cX12_day RX12 1 2) (M : Main K.ks) (hf : fX12_day w = some r) (hr : RI K .int r w) : XW K 0 [some (.ref 148)] [] w := by
  unfold fX12_day at hf
  refine x_aload_n G dX12_day_0 rfl rfl ?_
  refine x_iconst G (v := 0) dX12_day_1 (by decide) ?_
  obtain ⟨v_1, hv_1, hf⟩ := bnd hf
  refine x_virI G (As := [.int (0 : Int32)]) (mX12_g G.2.2.2.2.2.2.1 M hv_1) mv_X12_101 (kd148 M) cl12 rfl rfl rfl rfl rfl dX12_day_2 ?_
  refine x_bipush G (v := 24) dX12_day_5 (by decide) ?_
  refine x_idiv G dX12_day_7 (by decide) ?_
  exact x_iretP G hf hr dX12_day_8

theorem mX12_day {l : Launch} {S : KS} {w : Wd} (hI : Inj S) (M : Main S) {r : Int32} (hf : fX12_day w = some r) : CI l yX12_day cX12_day 1 (some .int) 2 S [.ref 148] w r w := by
  intro sz
  refine mk_entry rfl (by decide +kernel) hI 0 rfl rfl (fun K h1 h2 h3 h4 h5 h6 G => ?_)
  subst h2
  exact xX12_day_e G M hf ⟨h3, by rw [h4, h6], h5⟩

set_option maxHeartbeats 4000000 in
set_option maxRecDepth 100000 in
theorem xX12_depthAt_e {K : KT} {v1 : Int32} {w : Wd} {r : Int32} (G : GK K cX12_depthAt RX12 2 2) (M : Main K.ks) (hf : fX12_depthAt v1 w = some r) (hr : RI K .int r w) : XW K 0 [some (.ref 148), some (.int v1)] [] w := by
  unfold fX12_depthAt at hf
  refine x_aload_n G dX12_depthAt_0 rfl rfl ?_
  refine x_aload_n G dX12_depthAt_1 rfl rfl ?_
  refine x_getR G (kd148 M) 1 (b := 149) rfl cl12 rfl wf_X12_13 dX12_depthAt_2 ?_
  refine x_iload_n G dX12_depthAt_5 rfl rfl ?_
  refine x_iconst G (v := 0) dX12_depthAt_6 (by decide) ?_
  refine x_iadd G dX12_depthAt_7 ?_
  refine x_iald G (kd149 M) dX12_depthAt_8 hf (fun hb_1 hf => ?_)
  refine x_iconst G (v := 0) dX12_depthAt_9 (by decide) ?_
  obtain ⟨v_2, hv_2, hf⟩ := bnd hf
  refine x_virI G (As := [.int (ri w 149 (v1 + (0 : Int32))), .int (0 : Int32)]) (mX12_c G.2.2.2.2.2.2.1 M hv_2) mv_X12_117 (kd148 M) cl12 rfl rfl rfl rfl rfl dX12_depthAt_10 ?_
  refine x_aload_n G dX12_depthAt_13 rfl rfl ?_
  refine x_getR G (kd148 M) 1 (b := 149) rfl cl12 rfl wf_X12_13 dX12_depthAt_14 ?_
  refine x_iload_n G dX12_depthAt_17 rfl rfl ?_
  refine x_iconst G (v := 1) dX12_depthAt_18 (by decide) ?_
  refine x_iadd G dX12_depthAt_19 ?_
  refine x_iald G (kd149 M) dX12_depthAt_20 hf (fun hb_3 hf => ?_)
  refine x_isub G dX12_depthAt_21 ?_
  exact x_iretP G hf hr dX12_depthAt_22

theorem mX12_depthAt {l : Launch} {S : KS} {w : Wd} (hI : Inj S) (M : Main S) {v1 : Int32} {r : Int32} (hf : fX12_depthAt v1 w = some r) : CI l yX12_depthAt cX12_depthAt 2 (some .int) 2 S [.ref 148, .int v1] w r w := by
  intro sz
  refine mk_entry rfl (by decide +kernel) hI 0 rfl rfl (fun K h1 h2 h3 h4 h5 h6 G => ?_)
  subst h2
  exact xX12_depthAt_e G M hf ⟨h3, by rw [h4, h6], h5⟩

set_option maxHeartbeats 4000000 in
set_option maxRecDepth 100000 in
theorem xX12_l_e {K : KT} {v1 : Int32} {v2 : Int32} {w : Wd} {r : Int32} (G : GK K cX12_l RX12 3 1) (M : Main K.ks) (hf : fX12_l v1 v2 w = some r) (hr : RI K .int r w) : XW K 0 [some (.ref 148), some (.int v1), some (.int v2)] [] w := by
  unfold fX12_l at hf
  refine x_aload_n G dX12_l_0 rfl rfl ?_
  refine x_getR G (kd148 M) 1 (b := 149) rfl cl12 rfl wf_X12_13 dX12_l_1 ?_
  refine x_sipush G (v := 3300) dX12_l_4 (by decide) ?_
  refine x_bipush G (v := 125) dX12_l_7 (by decide) ?_
  refine x_iload_n G dX12_l_9 rfl rfl ?_
  refine x_imul G dX12_l_10 ?_
  refine x_iadd G dX12_l_11 ?_
  refine x_iload_n G dX12_l_12 rfl rfl ?_
  refine x_iadd G dX12_l_13 ?_
  refine x_iald G (kd149 M) dX12_l_14 hf (fun hb_1 hf => ?_)
  exact x_iretP G hf hr dX12_l_15

theorem mX12_l {l : Launch} {S : KS} {w : Wd} (hI : Inj S) (M : Main S) {v1 : Int32} {v2 : Int32} {r : Int32} (hf : fX12_l v1 v2 w = some r) : CI l yX12_l cX12_l 3 (some .int) 1 S [.ref 148, .int v1, .int v2] w r w := by
  intro sz
  refine mk_entry rfl (by decide +kernel) hI 0 rfl rfl (fun K h1 h2 h3 h4 h5 h6 G => ?_)
  subst h2
  exact xX12_l_e G M hf ⟨h3, by rw [h4, h6], h5⟩

set_option maxHeartbeats 4000000 in
set_option maxRecDepth 100000 in
theorem xX12_spot_e {K : KT} {v1 : Int32} {v2 : Int32} {w : Wd} {r : Int32} (G : GK K cX12_spot RX12 3 1) (M : Main K.ks) (hf : fX12_spot v1 v2 w = some r) (hr : RI K .int r w) : XW K 0 [some (.ref 148), some (.int v1), some (.int v2)] [] w := by
  unfold fX12_spot at hf
  refine x_sipush G (v := 3300) dX12_spot_0 (by decide) ?_
  refine x_bipush G (v := 125) dX12_spot_3 (by decide) ?_
  refine x_iload_n G dX12_spot_5 rfl rfl ?_
  refine x_imul G dX12_spot_6 ?_
  refine x_iadd G dX12_spot_7 ?_
  refine x_iconst G (v := 4) dX12_spot_8 (by decide) ?_
  refine x_iadd G dX12_spot_9 ?_
  refine x_bipush G (v := 6) dX12_spot_10 (by decide) ?_
  refine x_iload_n G dX12_spot_12 rfl rfl ?_
  refine x_imul G dX12_spot_13 ?_
  refine x_iadd G dX12_spot_14 ?_
  exact x_iretP G hf hr dX12_spot_15

theorem mX12_spot {l : Launch} {S : KS} {w : Wd} (hI : Inj S) (M : Main S) {v1 : Int32} {v2 : Int32} {r : Int32} (hf : fX12_spot v1 v2 w = some r) : CI l yX12_spot cX12_spot 3 (some .int) 1 S [.ref 148, .int v1, .int v2] w r w := by
  intro sz
  refine mk_entry rfl (by decide +kernel) hI 0 rfl rfl (fun K h1 h2 h3 h4 h5 h6 G => ?_)
  subst h2
  exact xX12_spot_e G M hf ⟨h3, by rw [h4, h6], h5⟩

set_option maxHeartbeats 4000000 in
set_option maxRecDepth 100000 in
theorem xX12_placeOn_2 {K : KT} {w : Wd} {r : Int32} (G : GK K cX12_placeOn RX12 4 2) (M : Main K.ks) (hr : RI K .int r w) : ∀ (n : Nat) (v1 : Int32) (v2 : Int32) (v3 : Int32), fX12_placeOn_2 w n v1 v2 v3 = some r → XW K 2 [some (.ref 148), some (.int v1), some (.int v2), some (.int v3)] [] w := by
  intro n
  induction n with
  | zero =>
    intro v1 v2 v3 hf
    unfold fX12_placeOn_2 at hf
    cases hf
  | succ n ih =>
    intro v1 v2 v3 hf
    unfold fX12_placeOn_2 at hf
    refine x_iload_n G dX12_placeOn_2 rfl rfl ?_
    refine x_aload_n G dX12_placeOn_3 rfl rfl ?_
    refine x_iload_n G dX12_placeOn_4 rfl rfl ?_
    refine x_iconst G (v := 0) dX12_placeOn_5 (by decide) ?_
    obtain ⟨v_1, hv_1, hf⟩ := bnd hf
    refine x_virI G (As := [.int v1, .int (0 : Int32)]) (mX12_l G.2.2.2.2.2.2.1 M hv_1) mv_X12_193 (kd148 M) cl12 rfl rfl rfl rfl rfl dX12_placeOn_6 ?_
    refine x_icmpge G (tgt := 37) dX12_placeOn_9 (by decide) hf (fun c_2 hf => ?_) (fun c_2 hf => ?_)
    · refine x_aload_n G dX12_placeOn_12 rfl rfl ?_
      refine x_getR G (kd148 M) 1 (b := 149) rfl cl12 rfl wf_X12_13 dX12_placeOn_13 ?_
      refine x_aload_n G dX12_placeOn_16 rfl rfl ?_
      refine x_iload_n G dX12_placeOn_17 rfl rfl ?_
      refine x_iload_n G dX12_placeOn_18 rfl rfl ?_
      obtain ⟨v_3, hv_3, hf⟩ := bnd hf
      refine x_virI G (As := [.int v1, .int v3]) (mX12_spot G.2.2.2.2.2.2.1 M hv_3) mv_X12_185 (kd148 M) cl12 rfl rfl rfl rfl rfl dX12_placeOn_19 ?_
      refine x_iconst G (v := 0) dX12_placeOn_22 (by decide) ?_
      refine x_iadd G dX12_placeOn_23 ?_
      refine x_iald G (kd149 M) dX12_placeOn_24 hf (fun hb_4 hf => ?_)
      refine x_iload_n G dX12_placeOn_25 rfl rfl ?_
      refine x_icmpne G (tgt := 31) dX12_placeOn_26 (by decide) hf (fun c_5 hf => ?_) (fun c_5 hf => ?_)
      · refine x_iload_n G dX12_placeOn_29 rfl rfl ?_
        exact x_iretP G hf hr dX12_placeOn_30
      · refine x_iinc G (lv' := [some (.ref 148), some (.int v1), some (.int v2), some (.int (v3 + (1 : Int32)))]) (v := 1) dX12_placeOn_31 rfl (by decide) rfl rfl rfl ?_
        refine x_goto G (tgt := 2) dX12_placeOn_34 (by decide) ?_
        exact XW.sub (lv' := [some (.ref 148), some (.int v1), some (.int v2), some (.int (v3 + (1 : Int32)))]) (And.intro rfl (And.intro rfl (And.intro rfl (And.intro rfl trivial)))) (ih _ _ _ hf)
    · refine x_iconst G (v := -1) dX12_placeOn_37 (by decide) ?_
      exact x_iretP G hf hr dX12_placeOn_38

set_option maxHeartbeats 4000000 in
set_option maxRecDepth 100000 in
theorem xX12_placeOn_e {K : KT} {v1 : Int32} {v2 : Int32} {w : Wd} {r : Int32} (G : GK K cX12_placeOn RX12 4 2) (M : Main K.ks) (hf : fX12_placeOn v1 v2 w = some r) (hr : RI K .int r w) : XW K 0 [some (.ref 148), some (.int v1), some (.int v2), none] [] w := by
  unfold fX12_placeOn at hf
  refine x_iconst G (v := 0) dX12_placeOn_0 (by decide) ?_
  refine x_istore_n G (lv' := [some (.ref 148), some (.int v1), some (.int v2), some (.int (0 : Int32))]) dX12_placeOn_1 rfl rfl rfl rfl ?_
  exact XW.sub (lv' := [some (.ref 148), some (.int v1), some (.int v2), some (.int (0 : Int32))]) (And.intro rfl (And.intro rfl (And.intro rfl (And.intro rfl trivial)))) (xX12_placeOn_2 G M hr FU _ _ _ hf)

theorem mX12_placeOn {l : Launch} {S : KS} {w : Wd} (hI : Inj S) (M : Main S) {v1 : Int32} {v2 : Int32} {r : Int32} (hf : fX12_placeOn v1 v2 w = some r) : CI l yX12_placeOn cX12_placeOn 4 (some .int) 2 S [.ref 148, .int v1, .int v2] w r w := by
  intro sz
  refine mk_entry rfl (by decide +kernel) hI 1 rfl rfl (fun K h1 h2 h3 h4 h5 h6 G => ?_)
  subst h2
  exact xX12_placeOn_e G M hf ⟨h3, by rw [h4, h6], h5⟩

set_option maxHeartbeats 4000000 in
set_option maxRecDepth 100000 in
theorem xX12_greatest_65 {K : KT} {v3 : Int32} {s0 : Int32} {w : Wd} {r : Int32} (G : GK K cX12_greatest RX12 6 3) (M : Main K.ks) (k6 : Int32 → Int32 → Int32 → Option Int32) (hk6 : ∀ (v1 : Int32) (v2 : Int32) (v3 : Int32), k6 v1 v2 v3 = some r → XW K 6 [some (.ref 148), some (.int v1), some (.int v2), some (.int v3), none, none] [] w) (hf : fX12_greatest_65 k6 v3 s0 w = some r) (hr : RI K .int r w) : XW K 65 [some (.ref 148), none, none, some (.int v3), none, none] [.int s0] w := by
  unfold fX12_greatest_65 at hf
  refine x_istore_n G (lv' := [some (.ref 148), none, some (.int s0), some (.int v3), none, none]) dX12_greatest_65 rfl rfl rfl rfl ?_
  refine x_iconst G (v := 1) dX12_greatest_66 (by decide) ?_
  refine x_istore_n G (lv' := [some (.ref 148), some (.int (1 : Int32)), some (.int s0), some (.int v3), none, none]) dX12_greatest_67 rfl rfl rfl rfl ?_
  refine x_iinc G (lv' := [some (.ref 148), some (.int (1 : Int32)), some (.int s0), some (.int (v3 + (1 : Int32))), none, none]) (v := 1) dX12_greatest_68 rfl (by decide) rfl rfl rfl ?_
  refine x_goto G (tgt := 6) dX12_greatest_71 (by decide) ?_
  exact XW.sub (lv' := [some (.ref 148), some (.int (1 : Int32)), some (.int s0), some (.int (v3 + (1 : Int32))), none, none]) (And.intro rfl (And.intro rfl (And.intro rfl (And.intro rfl trivial)))) (hk6 _ _ _ hf)

set_option maxHeartbeats 4000000 in
set_option maxRecDepth 100000 in
theorem xX12_greatest_6 {K : KT} {w : Wd} {r : Int32} (G : GK K cX12_greatest RX12 6 3) (M : Main K.ks) (hr : RI K .int r w) : ∀ (n : Nat) (v1 : Int32) (v2 : Int32) (v3 : Int32), fX12_greatest_6 w n v1 v2 v3 = some r → XW K 6 [some (.ref 148), some (.int v1), some (.int v2), some (.int v3), none, none] [] w := by
  intro n
  induction n with
  | zero =>
    intro v1 v2 v3 hf
    unfold fX12_greatest_6 at hf
    cases hf
  | succ n ih =>
    intro v1 v2 v3 hf
    unfold fX12_greatest_6 at hf
    refine x_iload_n G dX12_greatest_6 rfl rfl ?_
    refine x_aload_n G dX12_greatest_7 rfl rfl ?_
    refine x_bipush G (v := 15) dX12_greatest_8 (by decide) ?_
    obtain ⟨v_1, hv_1, hf⟩ := bnd hf
    refine x_virI G (As := [.int (15 : Int32)]) (mX12_g G.2.2.2.2.2.2.1 M hv_1) mv_X12_101 (kd148 M) cl12 rfl rfl rfl rfl rfl dX12_greatest_10 ?_
    refine x_icmpge G (tgt := 74) dX12_greatest_13 (by decide) hf (fun c_2 hf => ?_) (fun c_2 hf => ?_)
    · refine x_aload_n G dX12_greatest_16 rfl rfl ?_
      refine x_iload_n G dX12_greatest_17 rfl rfl ?_
      refine x_aload_n G dX12_greatest_18 rfl rfl ?_
      refine x_getI G (kd148 M) 27 rfl cl12 rfl wf_X12_292 dX12_greatest_19 ?_
      obtain ⟨v_3, hv_3, hf⟩ := bnd hf
      refine x_virI G (As := [.int v3, .int (w.1 148 27)]) (mX12_placeOn G.2.2.2.2.2.2.1 M hv_3) mv_X12_230 (kd148 M) cl12 rfl rfl rfl rfl rfl dX12_greatest_22 ?_
      refine x_istore G (lv' := [some (.ref 148), some (.int v1), some (.int v2), some (.int v3), some (.int v_3), none]) dX12_greatest_25 rfl rfl rfl ?_
      refine x_iload G dX12_greatest_27 rfl ?_
      refine x_iconst G (v := -1) dX12_greatest_29 (by decide) ?_
      refine x_icmpne G (tgt := 36) dX12_greatest_30 (by decide) hf (fun c_4 hf => ?_) (fun c_4 hf => ?_)
      · refine x_goto G (tgt := 68) dX12_greatest_33 (by decide) ?_
        refine x_iinc G (lv' := [some (.ref 148), some (.int v1), some (.int v2), some (.int (v3 + (1 : Int32))), some (.int v_3), none]) (v := 1) dX12_greatest_68 rfl (by decide) rfl rfl rfl ?_
        refine x_goto G (tgt := 6) dX12_greatest_71 (by decide) ?_
        exact XW.sub (lv' := [some (.ref 148), some (.int v1), some (.int v2), some (.int (v3 + (1 : Int32))), none, none]) (And.intro rfl (And.intro rfl (And.intro rfl (And.intro rfl trivial)))) (ih _ _ _ hf)
      · refine x_aload_n G dX12_greatest_36 rfl rfl ?_
        refine x_aload_n G dX12_greatest_37 rfl rfl ?_
        refine x_iload_n G dX12_greatest_38 rfl rfl ?_
        refine x_iload G dX12_greatest_39 rfl ?_
        obtain ⟨v_5, hv_5, hf⟩ := bnd hf
        refine x_virI G (As := [.int v3, .int v_3]) (mX12_spot G.2.2.2.2.2.2.1 M hv_5) mv_X12_185 (kd148 M) cl12 rfl rfl rfl rfl rfl dX12_greatest_41 ?_
        obtain ⟨v_6, hv_6, hf⟩ := bnd hf
        refine x_virI G (As := [.int v_5]) (mX12_depthAt G.2.2.2.2.2.2.1 M hv_6) mv_X12_204 (kd148 M) cl12 rfl rfl rfl rfl rfl dX12_greatest_44 ?_
        refine x_istore G (lv' := [some (.ref 148), some (.int v1), some (.int v2), some (.int v3), some (.int v_3), some (.int v_6)]) dX12_greatest_47 rfl rfl rfl ?_
        refine x_iload_n G dX12_greatest_49 rfl rfl ?_
        refine x_ifeq G (tgt := 59) dX12_greatest_50 (by decide) hf (fun c_7 hf => ?_) (fun c_7 hf => ?_)
        · refine x_iload G dX12_greatest_59 rfl ?_
          refine x_goto G (tgt := 65) dX12_greatest_61 (by decide) ?_
          exact XW.sub (lv' := [some (.ref 148), none, none, some (.int v3), none, none]) (And.intro rfl (And.intro rfl trivial)) (xX12_greatest_65 G M (fX12_greatest_6 w n) ih hf hr)
        · refine x_iload G dX12_greatest_53 rfl ?_
          refine x_iload_n G dX12_greatest_55 rfl rfl ?_
          refine x_icmple G (tgt := 64) dX12_greatest_56 (by decide) hf (fun c_8 hf => ?_) (fun c_8 hf => ?_)
          · refine x_iload G dX12_greatest_59 rfl ?_
            refine x_goto G (tgt := 65) dX12_greatest_61 (by decide) ?_
            exact XW.sub (lv' := [some (.ref 148), none, none, some (.int v3), none, none]) (And.intro rfl (And.intro rfl trivial)) (xX12_greatest_65 G M (fX12_greatest_6 w n) ih hf hr)
          · refine x_iload_n G dX12_greatest_64 rfl rfl ?_
            exact XW.sub (lv' := [some (.ref 148), none, none, some (.int v3), none, none]) (And.intro rfl (And.intro rfl trivial)) (xX12_greatest_65 G M (fX12_greatest_6 w n) ih hf hr)
    · refine x_iload_n G dX12_greatest_74 rfl rfl ?_
      exact x_iretP G hf hr dX12_greatest_75

set_option maxHeartbeats 4000000 in
set_option maxRecDepth 100000 in
theorem xX12_greatest_e {K : KT} {w : Wd} {r : Int32} (G : GK K cX12_greatest RX12 6 3) (M : Main K.ks) (hf : fX12_greatest w = some r) (hr : RI K .int r w) : XW K 0 [some (.ref 148), none, none, none, none, none] [] w := by
  unfold fX12_greatest at hf
  refine x_iconst G (v := 0) dX12_greatest_0 (by decide) ?_
  refine x_istore_n G (lv' := [some (.ref 148), some (.int (0 : Int32)), none, none, none, none]) dX12_greatest_1 rfl rfl rfl rfl ?_
  refine x_iconst G (v := 0) dX12_greatest_2 (by decide) ?_
  refine x_istore_n G (lv' := [some (.ref 148), some (.int (0 : Int32)), some (.int (0 : Int32)), none, none, none]) dX12_greatest_3 rfl rfl rfl rfl ?_
  refine x_iconst G (v := 0) dX12_greatest_4 (by decide) ?_
  refine x_istore_n G (lv' := [some (.ref 148), some (.int (0 : Int32)), some (.int (0 : Int32)), some (.int (0 : Int32)), none, none]) dX12_greatest_5 rfl rfl rfl rfl ?_
  exact XW.sub (lv' := [some (.ref 148), some (.int (0 : Int32)), some (.int (0 : Int32)), some (.int (0 : Int32)), none, none]) (And.intro rfl (And.intro rfl (And.intro rfl (And.intro rfl trivial)))) (xX12_greatest_6 G M hr FU _ _ _ hf)

theorem mX12_greatest {l : Launch} {S : KS} {w : Wd} (hI : Inj S) (M : Main S) {r : Int32} (hf : fX12_greatest w = some r) : CI l yX12_greatest cX12_greatest 6 (some .int) 3 S [.ref 148] w r w := by
  intro sz
  refine mk_entry rfl (by decide +kernel) hI 5 rfl rfl (fun K h1 h2 h3 h4 h5 h6 G => ?_)
  subst h2
  exact xX12_greatest_e G M hf ⟨h3, by rw [h4, h6], h5⟩

set_option maxHeartbeats 4000000 in
set_option maxRecDepth 100000 in
theorem xX12_inWork_9 {K : KT} {w : Wd} {r : Int32} (G : GK K cX12_inWork RX12 3 2) (M : Main K.ks) (hr : RI K .int r w) : ∀ (n : Nat) (v1 : Int32) (v2 : Int32), fX12_inWork_9 w n v1 v2 = some r → XW K 9 [some (.ref 148), some (.int v1), some (.int v2)] [] w := by
  intro n
  induction n with
  | zero =>
    intro v1 v2 hf
    unfold fX12_inWork_9 at hf
    cases hf
  | succ n ih =>
    intro v1 v2 hf
    unfold fX12_inWork_9 at hf
    refine x_iload_n G dX12_inWork_9 rfl rfl ?_
    refine x_iflt G (tgt := 39) dX12_inWork_10 (by decide) hf (fun c_1 hf => ?_) (fun c_1 hf => ?_)
    · refine x_iconst G (v := -1) dX12_inWork_39 (by decide) ?_
      exact x_iretP G hf hr dX12_inWork_40
    · refine x_aload_n G dX12_inWork_13 rfl rfl ?_
      refine x_getR G (kd148 M) 1 (b := 149) rfl cl12 rfl wf_X12_13 dX12_inWork_14 ?_
      refine x_aload_n G dX12_inWork_17 rfl rfl ?_
      refine x_iload_n G dX12_inWork_18 rfl rfl ?_
      refine x_iload_n G dX12_inWork_19 rfl rfl ?_
      obtain ⟨v_2, hv_2, hf⟩ := bnd hf
      refine x_virI G (As := [.int v1, .int v2]) (mX12_spot G.2.2.2.2.2.2.1 M hv_2) mv_X12_185 (kd148 M) cl12 rfl rfl rfl rfl rfl dX12_inWork_20 ?_
      refine x_iconst G (v := 3) dX12_inWork_23 (by decide) ?_
      refine x_iadd G dX12_inWork_24 ?_
      refine x_iald G (kd149 M) dX12_inWork_25 hf (fun hb_3 hf => ?_)
      refine x_bipush G (v := -9) dX12_inWork_26 (by decide) ?_
      refine x_icmpne G (tgt := 33) dX12_inWork_28 (by decide) hf (fun c_4 hf => ?_) (fun c_4 hf => ?_)
      · refine x_iload_n G dX12_inWork_31 rfl rfl ?_
        exact x_iretP G hf hr dX12_inWork_32
      · refine x_iinc G (lv' := [some (.ref 148), some (.int v1), some (.int (v2 + (-1 : Int32)))]) (v := -1) dX12_inWork_33 rfl (by decide) rfl rfl rfl ?_
        refine x_goto G (tgt := 9) dX12_inWork_36 (by decide) ?_
        exact XW.sub (lv' := [some (.ref 148), some (.int v1), some (.int (v2 + (-1 : Int32)))]) (And.intro rfl (And.intro rfl (And.intro rfl trivial))) (ih _ _ hf)

set_option maxHeartbeats 4000000 in
set_option maxRecDepth 100000 in
theorem xX12_inWork_e {K : KT} {v1 : Int32} {w : Wd} {r : Int32} (G : GK K cX12_inWork RX12 3 2) (M : Main K.ks) (hf : fX12_inWork v1 w = some r) (hr : RI K .int r w) : XW K 0 [some (.ref 148), some (.int v1), none] [] w := by
  unfold fX12_inWork at hf
  refine x_aload_n G dX12_inWork_0 rfl rfl ?_
  refine x_iload_n G dX12_inWork_1 rfl rfl ?_
  refine x_iconst G (v := 0) dX12_inWork_2 (by decide) ?_
  obtain ⟨v_1, hv_1, hf⟩ := bnd hf
  refine x_virI G (As := [.int v1, .int (0 : Int32)]) (mX12_l G.2.2.2.2.2.2.1 M hv_1) mv_X12_193 (kd148 M) cl12 rfl rfl rfl rfl rfl dX12_inWork_3 ?_
  refine x_iconst G (v := 1) dX12_inWork_6 (by decide) ?_
  refine x_isub G dX12_inWork_7 ?_
  refine x_istore_n G (lv' := [some (.ref 148), some (.int v1), some (.int (v_1 - (1 : Int32)))]) dX12_inWork_8 rfl rfl rfl rfl ?_
  exact XW.sub (lv' := [some (.ref 148), some (.int v1), some (.int (v_1 - (1 : Int32)))]) (And.intro rfl (And.intro rfl (And.intro rfl trivial))) (xX12_inWork_9 G M hr FU _ _ hf)

theorem mX12_inWork {l : Launch} {S : KS} {w : Wd} (hI : Inj S) (M : Main S) {v1 : Int32} {r : Int32} (hf : fX12_inWork v1 w = some r) : CI l yX12_inWork cX12_inWork 3 (some .int) 2 S [.ref 148, .int v1] w r w := by
  intro sz
  refine mk_entry rfl (by decide +kernel) hI 1 rfl rfl (fun K h1 h2 h3 h4 h5 h6 G => ?_)
  subst h2
  exact xX12_inWork_e G M hf ⟨h3, by rw [h4, h6], h5⟩

set_option maxHeartbeats 4000000 in
set_option maxRecDepth 100000 in
theorem xX12_isShut_30 {K : KT} {v1 : Int32} {v2 : Int32} {s0 : Int32} {w : Wd} {r : Bool} (G : GK K cX12_isShut RX12 4 3) (M : Main K.ks) (k2 : Int32 → Int32 → Option Bool) (hk2 : ∀ (v1 : Int32) (v2 : Int32), k2 v1 v2 = some r → XW K 2 [some (.ref 148), some (.int v1), some (.int v2), none] [] w) (hf : fX12_isShut_30 k2 v1 v2 s0 w = some r) (hr : RI K .boolean (bI r) w) : XW K 30 [some (.ref 148), some (.int v1), some (.int v2), none] [.int s0] w := by
  unfold fX12_isShut_30 at hf
  refine x_istore_n G (lv' := [some (.ref 148), some (.int v1), some (.int v2), some (.int s0)]) dX12_isShut_30 rfl rfl rfl rfl ?_
  refine x_iload_n G dX12_isShut_31 rfl rfl ?_
  refine x_iconst G (v := -1) dX12_isShut_32 (by decide) ?_
  refine x_icmpeq G (tgt := 55) dX12_isShut_33 (by decide) hf (fun c_1 hf => ?_) (fun c_1 hf => ?_)
  · refine x_iinc G (lv' := [some (.ref 148), some (.int v1), some (.int (v2 + (1 : Int32))), some (.int s0)]) (v := 1) dX12_isShut_55 rfl (by decide) rfl rfl rfl ?_
    refine x_goto G (tgt := 2) dX12_isShut_58 (by decide) ?_
    exact XW.sub (lv' := [some (.ref 148), some (.int v1), some (.int (v2 + (1 : Int32))), none]) (And.intro rfl (And.intro rfl (And.intro rfl trivial))) (hk2 _ _ hf)
  · refine x_aload_n G dX12_isShut_36 rfl rfl ?_
    refine x_getR G (kd148 M) 1 (b := 149) rfl cl12 rfl wf_X12_13 dX12_isShut_37 ?_
    refine x_aload_n G dX12_isShut_40 rfl rfl ?_
    refine x_iload_n G dX12_isShut_41 rfl rfl ?_
    refine x_iload_n G dX12_isShut_42 rfl rfl ?_
    obtain ⟨v_2, hv_2, hf⟩ := bnd hf
    refine x_virI G (As := [.int v2, .int s0]) (mX12_spot G.2.2.2.2.2.2.1 M hv_2) mv_X12_185 (kd148 M) cl12 rfl rfl rfl rfl rfl dX12_isShut_43 ?_
    refine x_iconst G (v := 0) dX12_isShut_46 (by decide) ?_
    refine x_iadd G dX12_isShut_47 ?_
    refine x_iald G (kd149 M) dX12_isShut_48 hf (fun hb_3 hf => ?_)
    refine x_iload_n G dX12_isShut_49 rfl rfl ?_
    refine x_icmpne G (tgt := 55) dX12_isShut_50 (by decide) hf (fun c_4 hf => ?_) (fun c_4 hf => ?_)
    · refine x_iconst G (v := 1) dX12_isShut_53 (by decide) ?_
      exact x_zretP G hf hr dX12_isShut_54
    · refine x_iinc G (lv' := [some (.ref 148), some (.int v1), some (.int (v2 + (1 : Int32))), some (.int s0)]) (v := 1) dX12_isShut_55 rfl (by decide) rfl rfl rfl ?_
      refine x_goto G (tgt := 2) dX12_isShut_58 (by decide) ?_
      exact XW.sub (lv' := [some (.ref 148), some (.int v1), some (.int (v2 + (1 : Int32))), none]) (And.intro rfl (And.intro rfl (And.intro rfl trivial))) (hk2 _ _ hf)

set_option maxHeartbeats 4000000 in
set_option maxRecDepth 100000 in
theorem xX12_isShut_2 {K : KT} {w : Wd} {r : Bool} (G : GK K cX12_isShut RX12 4 3) (M : Main K.ks) (hr : RI K .boolean (bI r) w) : ∀ (n : Nat) (v1 : Int32) (v2 : Int32), fX12_isShut_2 w n v1 v2 = some r → XW K 2 [some (.ref 148), some (.int v1), some (.int v2), none] [] w := by
  intro n
  induction n with
  | zero =>
    intro v1 v2 hf
    unfold fX12_isShut_2 at hf
    cases hf
  | succ n ih =>
    intro v1 v2 hf
    unfold fX12_isShut_2 at hf
    refine x_iload_n G dX12_isShut_2 rfl rfl ?_
    refine x_aload_n G dX12_isShut_3 rfl rfl ?_
    refine x_bipush G (v := 15) dX12_isShut_4 (by decide) ?_
    obtain ⟨v_1, hv_1, hf⟩ := bnd hf
    refine x_virI G (As := [.int (15 : Int32)]) (mX12_g G.2.2.2.2.2.2.1 M hv_1) mv_X12_101 (kd148 M) cl12 rfl rfl rfl rfl rfl dX12_isShut_6 ?_
    refine x_icmpge G (tgt := 61) dX12_isShut_9 (by decide) hf (fun c_2 hf => ?_) (fun c_2 hf => ?_)
    · refine x_aload_n G dX12_isShut_12 rfl rfl ?_
      refine x_iload_n G dX12_isShut_13 rfl rfl ?_
      refine x_iconst G (v := 3) dX12_isShut_14 (by decide) ?_
      obtain ⟨v_3, hv_3, hf⟩ := bnd hf
      refine x_virI G (As := [.int v2, .int (3 : Int32)]) (mX12_l G.2.2.2.2.2.2.1 M hv_3) mv_X12_193 (kd148 M) cl12 rfl rfl rfl rfl rfl dX12_isShut_15 ?_
      refine x_ifle G (tgt := 29) dX12_isShut_18 (by decide) hf (fun c_4 hf => ?_) (fun c_4 hf => ?_)
      · refine x_aload_n G dX12_isShut_21 rfl rfl ?_
        refine x_iload_n G dX12_isShut_22 rfl rfl ?_
        obtain ⟨v_5, hv_5, hf⟩ := bnd hf
        refine x_virI G (As := [.int v2]) (mX12_inWork G.2.2.2.2.2.2.1 M hv_5) mv_X12_214 (kd148 M) cl12 rfl rfl rfl rfl rfl dX12_isShut_23 ?_
        refine x_goto G (tgt := 30) dX12_isShut_26 (by decide) ?_
        exact (xX12_isShut_30 G M (fX12_isShut_2 w n) ih hf hr)
      · refine x_iconst G (v := -1) dX12_isShut_29 (by decide) ?_
        exact (xX12_isShut_30 G M (fX12_isShut_2 w n) ih hf hr)
    · refine x_iconst G (v := 0) dX12_isShut_61 (by decide) ?_
      exact x_zretP G hf hr dX12_isShut_62

set_option maxHeartbeats 4000000 in
set_option maxRecDepth 100000 in
theorem xX12_isShut_e {K : KT} {v1 : Int32} {w : Wd} {r : Bool} (G : GK K cX12_isShut RX12 4 3) (M : Main K.ks) (hf : fX12_isShut v1 w = some r) (hr : RI K .boolean (bI r) w) : XW K 0 [some (.ref 148), some (.int v1), none, none] [] w := by
  unfold fX12_isShut at hf
  refine x_iconst G (v := 0) dX12_isShut_0 (by decide) ?_
  refine x_istore_n G (lv' := [some (.ref 148), some (.int v1), some (.int (0 : Int32)), none]) dX12_isShut_1 rfl rfl rfl rfl ?_
  exact XW.sub (lv' := [some (.ref 148), some (.int v1), some (.int (0 : Int32)), none]) (And.intro rfl (And.intro rfl (And.intro rfl trivial))) (xX12_isShut_2 G M hr FU _ _ hf)

theorem mX12_isShut {l : Launch} {S : KS} {w : Wd} (hI : Inj S) (M : Main S) {v1 : Int32} {r : Bool} (hf : fX12_isShut v1 w = some r) : CI l yX12_isShut cX12_isShut 4 (some .boolean) 3 S [.ref 148, .int v1] w (bI r) w := by
  intro sz
  refine mk_entry rfl (by decide +kernel) hI 2 rfl rfl (fun K h1 h2 h3 h4 h5 h6 G => ?_)
  subst h2
  exact xX12_isShut_e G M hf ⟨h3, by rw [h4, h6], h5⟩

set_option maxHeartbeats 4000000 in
set_option maxRecDepth 100000 in
theorem xX12_levelAt_e {K : KT} {v1 : Int32} {w : Wd} {r : Int32} (G : GK K cX12_levelAt RX12 2 1) (M : Main K.ks) (hf : fX12_levelAt v1 w = some r) (hr : RI K .int r w) : XW K 0 [some (.ref 148), some (.int v1)] [] w := by
  unfold fX12_levelAt at hf
  refine x_aload_n G dX12_levelAt_0 rfl rfl ?_
  refine x_getI G (kd148 M) 4 rfl cl12 rfl wf_X12_82 dX12_levelAt_1 ?_
  refine x_ifne G (tgt := 11) dX12_levelAt_4 (by decide) hf (fun c_1 hf => ?_) (fun c_1 hf => ?_)
  · refine x_iconst G (v := 0) dX12_levelAt_7 (by decide) ?_
    refine x_goto G (tgt := 22) dX12_levelAt_8 (by decide) ?_
    exact x_iretP G hf hr dX12_levelAt_22
  · refine x_aload_n G dX12_levelAt_11 rfl rfl ?_
    refine x_getR G (kd148 M) 3 (b := 150) rfl cl12 rfl wf_X12_17 dX12_levelAt_12 ?_
    refine x_iload_n G dX12_levelAt_15 rfl rfl ?_
    refine x_aload_n G dX12_levelAt_16 rfl rfl ?_
    refine x_getI G (kd148 M) 4 rfl cl12 rfl wf_X12_82 dX12_levelAt_17 ?_
    refine x_iremC G dX12_levelAt_20 hf (fun hf => ?_)
    refine x_iald G (kd150 M) dX12_levelAt_21 hf (fun hb_2 hf => ?_)
    exact x_iretP G hf hr dX12_levelAt_22

theorem mX12_levelAt {l : Launch} {S : KS} {w : Wd} (hI : Inj S) (M : Main S) {v1 : Int32} {r : Int32} (hf : fX12_levelAt v1 w = some r) : CI l yX12_levelAt cX12_levelAt 2 (some .int) 1 S [.ref 148, .int v1] w r w := by
  intro sz
  refine mk_entry rfl (by decide +kernel) hI 0 rfl rfl (fun K h1 h2 h3 h4 h5 h6 G => ?_)
  subst h2
  exact xX12_levelAt_e G M hf ⟨h3, by rw [h4, h6], h5⟩

set_option maxHeartbeats 4000000 in
set_option maxRecDepth 100000 in
theorem xX12_fact_204 {K : KT} {w : Wd} {r : Int32} (G : GK K cX12_fact RX12 4 4) (M : Main K.ks) (hr : RI K .int r w) : ∀ (n : Nat) (v2 : Int32) (v3 : Int32), fX12_fact_204 w n v2 v3 = some r → XW K 204 [some (.ref 148), none, some (.int v2), some (.int v3)] [] w := by
  intro n
  induction n with
  | zero =>
    intro v2 v3 hf
    unfold fX12_fact_204 at hf
    cases hf
  | succ n ih =>
    intro v2 v3 hf
    unfold fX12_fact_204 at hf
    refine x_iload_n G dX12_fact_204 rfl rfl ?_
    refine x_aload_n G dX12_fact_205 rfl rfl ?_
    refine x_bipush G (v := 16) dX12_fact_206 (by decide) ?_
    obtain ⟨v_1, hv_1, hf⟩ := bnd hf
    refine x_virI G (As := [.int (16 : Int32)]) (mX12_g G.2.2.2.2.2.2.1 M hv_1) mv_X12_101 (kd148 M) cl12 rfl rfl rfl rfl rfl dX12_fact_208 ?_
    refine x_icmpge G (tgt := 247) dX12_fact_211 (by decide) hf (fun c_2 hf => ?_) (fun c_2 hf => ?_)
    · refine x_iload_n G dX12_fact_214 rfl rfl ?_
      refine x_aload_n G dX12_fact_215 rfl rfl ?_
      refine x_getR G (kd148 M) 1 (b := 149) rfl cl12 rfl wf_X12_13 dX12_fact_216 ?_
      refine x_sipush G (v := 2500) dX12_fact_219 (by decide) ?_
      refine x_iconst G (v := 4) dX12_fact_222 (by decide) ?_
      refine x_iload_n G dX12_fact_223 rfl rfl ?_
      refine x_imul G dX12_fact_224 ?_
      refine x_iadd G dX12_fact_225 ?_
      refine x_iald G (kd149 M) dX12_fact_226 hf (fun hb_3 hf => ?_)
      refine x_aload_n G dX12_fact_227 rfl rfl ?_
      refine x_getI G (kd148 M) 27 rfl cl12 rfl wf_X12_292 dX12_fact_228 ?_
      refine x_icmpne G (tgt := 238) dX12_fact_231 (by decide) hf (fun c_4 hf => ?_) (fun c_4 hf => ?_)
      · refine x_iconst G (v := 1) dX12_fact_234 (by decide) ?_
        refine x_goto G (tgt := 239) dX12_fact_235 (by decide) ?_
        refine x_iadd G dX12_fact_239 ?_
        refine x_istore_n G (lv' := [some (.ref 148), none, some (.int (v2 + (1 : Int32))), some (.int v3)]) dX12_fact_240 rfl rfl rfl rfl ?_
        refine x_iinc G (lv' := [some (.ref 148), none, some (.int (v2 + (1 : Int32))), some (.int (v3 + (1 : Int32)))]) (v := 1) dX12_fact_241 rfl (by decide) rfl rfl rfl ?_
        refine x_goto G (tgt := 204) dX12_fact_244 (by decide) ?_
        exact XW.sub (lv' := [some (.ref 148), none, some (.int (v2 + (1 : Int32))), some (.int (v3 + (1 : Int32)))]) (And.intro rfl (And.intro rfl (And.intro rfl trivial))) (ih _ _ hf)
      · refine x_iconst G (v := 0) dX12_fact_238 (by decide) ?_
        refine x_iadd G dX12_fact_239 ?_
        refine x_istore_n G (lv' := [some (.ref 148), none, some (.int (v2 + (0 : Int32))), some (.int v3)]) dX12_fact_240 rfl rfl rfl rfl ?_
        refine x_iinc G (lv' := [some (.ref 148), none, some (.int (v2 + (0 : Int32))), some (.int (v3 + (1 : Int32)))]) (v := 1) dX12_fact_241 rfl (by decide) rfl rfl rfl ?_
        refine x_goto G (tgt := 204) dX12_fact_244 (by decide) ?_
        exact XW.sub (lv' := [some (.ref 148), none, some (.int (v2 + (0 : Int32))), some (.int (v3 + (1 : Int32)))]) (And.intro rfl (And.intro rfl (And.intro rfl trivial))) (ih _ _ hf)
    · refine x_iload_n G dX12_fact_247 rfl rfl ?_
      exact x_iretP G hf hr dX12_fact_248

set_option maxHeartbeats 4000000 in
set_option maxRecDepth 100000 in
theorem xX12_fact_288 {K : KT} {v3 : Int32} {s0 : Int32} {w : Wd} {r : Int32} (G : GK K cX12_fact RX12 4 4) (M : Main K.ks) (k251 : Int32 → Int32 → Option Int32) (hk251 : ∀ (v2 : Int32) (v3 : Int32), k251 v2 v3 = some r → XW K 251 [some (.ref 148), none, some (.int v2), some (.int v3)] [] w) (hf : fX12_fact_288 k251 v3 s0 w = some r) (hr : RI K .int r w) : XW K 288 [some (.ref 148), none, none, some (.int v3)] [.int s0] w := by
  unfold fX12_fact_288 at hf
  refine x_iconst G (v := 0) dX12_fact_288 (by decide) ?_
  refine x_iadd G dX12_fact_289 ?_
  refine x_istore_n G (lv' := [some (.ref 148), none, some (.int (s0 + (0 : Int32))), some (.int v3)]) dX12_fact_290 rfl rfl rfl rfl ?_
  refine x_iinc G (lv' := [some (.ref 148), none, some (.int (s0 + (0 : Int32))), some (.int (v3 + (1 : Int32)))]) (v := 1) dX12_fact_291 rfl (by decide) rfl rfl rfl ?_
  refine x_goto G (tgt := 251) dX12_fact_294 (by decide) ?_
  exact XW.sub (lv' := [some (.ref 148), none, some (.int (s0 + (0 : Int32))), some (.int (v3 + (1 : Int32)))]) (And.intro rfl (And.intro rfl (And.intro rfl trivial))) (hk251 _ _ hf)

set_option maxHeartbeats 4000000 in
set_option maxRecDepth 100000 in
theorem xX12_fact_251 {K : KT} {w : Wd} {r : Int32} (G : GK K cX12_fact RX12 4 4) (M : Main K.ks) (hr : RI K .int r w) : ∀ (n : Nat) (v2 : Int32) (v3 : Int32), fX12_fact_251 w n v2 v3 = some r → XW K 251 [some (.ref 148), none, some (.int v2), some (.int v3)] [] w := by
  intro n
  induction n with
  | zero =>
    intro v2 v3 hf
    unfold fX12_fact_251 at hf
    cases hf
  | succ n ih =>
    intro v2 v3 hf
    unfold fX12_fact_251 at hf
    refine x_iload_n G dX12_fact_251 rfl rfl ?_
    refine x_iconst G (v := 4) dX12_fact_252 (by decide) ?_
    refine x_icmpge G (tgt := 297) dX12_fact_253 (by decide) hf (fun c_1 hf => ?_) (fun c_1 hf => ?_)
    · refine x_iload_n G dX12_fact_256 rfl rfl ?_
      refine x_aload_n G dX12_fact_257 rfl rfl ?_
      refine x_getI G (kd148 M) 27 rfl cl12 rfl wf_X12_292 dX12_fact_258 ?_
      refine x_iload_n G dX12_fact_261 rfl rfl ?_
      obtain ⟨v_2, hv_2, hf⟩ := bnd hf
      refine x_staI G (As := [.int (w.1 148 27), .int v3]) (mX12_beside G.2.2.2.2.2.2.1 M hv_2) ms_X12_173 rfl rfl rfl rfl rfl dX12_fact_262 ?_
      refine x_iconst G (v := -1) dX12_fact_265 (by decide) ?_
      refine x_icmpeq G (tgt := 288) dX12_fact_266 (by decide) hf (fun c_3 hf => ?_) (fun c_3 hf => ?_)
      · exact XW.sub (lv' := [some (.ref 148), none, none, some (.int v3)]) (And.intro rfl (And.intro rfl trivial)) (xX12_fact_288 G M (fX12_fact_251 w n) ih hf hr)
      · refine x_aload_n G dX12_fact_269 rfl rfl ?_
        refine x_aload_n G dX12_fact_270 rfl rfl ?_
        refine x_getI G (kd148 M) 27 rfl cl12 rfl wf_X12_292 dX12_fact_271 ?_
        refine x_iload_n G dX12_fact_274 rfl rfl ?_
        obtain ⟨v_4, hv_4, hf⟩ := bnd hf
        refine x_staI G (As := [.int (w.1 148 27), .int v3]) (mX12_beside G.2.2.2.2.2.2.1 M hv_4) ms_X12_173 rfl rfl rfl rfl rfl dX12_fact_275 ?_
        obtain ⟨v_5, hv_5, hf⟩ := bnd hf
        refine x_virI G (As := [.int v_4]) (mX12_isShut G.2.2.2.2.2.2.1 M hv_5) mv_X12_125 (kd148 M) cl12 rfl rfl rfl rfl rfl dX12_fact_278 ?_
        refine x_ifeqB G (tgt := 288) dX12_fact_281 (by decide) hf (fun c_6 hf => ?_) (fun c_6 hf => ?_)
        · refine x_iconst G (v := 1) dX12_fact_284 (by decide) ?_
          refine x_goto G (tgt := 289) dX12_fact_285 (by decide) ?_
          refine x_iadd G dX12_fact_289 ?_
          refine x_istore_n G (lv' := [some (.ref 148), none, some (.int (v2 + (1 : Int32))), some (.int v3)]) dX12_fact_290 rfl rfl rfl rfl ?_
          refine x_iinc G (lv' := [some (.ref 148), none, some (.int (v2 + (1 : Int32))), some (.int (v3 + (1 : Int32)))]) (v := 1) dX12_fact_291 rfl (by decide) rfl rfl rfl ?_
          refine x_goto G (tgt := 251) dX12_fact_294 (by decide) ?_
          exact XW.sub (lv' := [some (.ref 148), none, some (.int (v2 + (1 : Int32))), some (.int (v3 + (1 : Int32)))]) (And.intro rfl (And.intro rfl (And.intro rfl trivial))) (ih _ _ hf)
        · exact XW.sub (lv' := [some (.ref 148), none, none, some (.int v3)]) (And.intro rfl (And.intro rfl trivial)) (xX12_fact_288 G M (fX12_fact_251 w n) ih hf hr)
    · refine x_iload_n G dX12_fact_297 rfl rfl ?_
      exact x_iretP G hf hr dX12_fact_298

set_option maxHeartbeats 4000000 in
set_option maxRecDepth 100000 in
theorem xX12_fact_e {K : KT} {v1 : Int32} {w : Wd} {r : Int32} (G : GK K cX12_fact RX12 4 4) (M : Main K.ks) (hf : fX12_fact v1 w = some r) (hr : RI K .int r w) : XW K 0 [some (.ref 148), some (.int v1), none, none] [] w := by
  unfold fX12_fact at hf
  refine x_iconst G (v := 0) dX12_fact_0 (by decide) ?_
  refine x_istore_n G (lv' := [some (.ref 148), some (.int v1), some (.int (0 : Int32)), none]) dX12_fact_1 rfl rfl rfl rfl ?_
  refine x_iload_n G dX12_fact_2 rfl rfl ?_
  rcases ite_or hf with ⟨c_3, hf⟩ | ⟨c_3, hf⟩
  · refine x_swIn G (tgt := 180) (off := 177) (k := 99) dX12_fact_3 c_3 (by decide) (by decide) (by decide) (by decide) ?_
    refine x_aload_n G dX12_fact_180 rfl rfl ?_
    refine x_aload_n G dX12_fact_181 rfl rfl ?_
    refine x_getI G (kd148 M) 27 rfl cl12 rfl wf_X12_292 dX12_fact_182 ?_
    refine x_bipush G (v := 11) dX12_fact_185 (by decide) ?_
    obtain ⟨v_1, hv_1, hf⟩ := bnd hf
    refine x_virI G (As := [.int (w.1 148 27), .int (11 : Int32)]) (mX12_c G.2.2.2.2.2.2.1 M hv_1) mv_X12_117 (kd148 M) cl12 rfl rfl rfl rfl rfl dX12_fact_187 ?_
    refine x_aload_n G dX12_fact_190 rfl rfl ?_
    refine x_aload_n G dX12_fact_191 rfl rfl ?_
    refine x_getI G (kd148 M) 27 rfl cl12 rfl wf_X12_292 dX12_fact_192 ?_
    refine x_bipush G (v := 12) dX12_fact_195 (by decide) ?_
    obtain ⟨v_2, hv_2, hf⟩ := bnd hf
    refine x_virI G (As := [.int (w.1 148 27), .int (12 : Int32)]) (mX12_c G.2.2.2.2.2.2.1 M hv_2) mv_X12_117 (kd148 M) cl12 rfl rfl rfl rfl rfl dX12_fact_197 ?_
    refine x_iadd G dX12_fact_200 ?_
    exact x_iretP G hf hr dX12_fact_201
  rcases ite_or hf with ⟨c_5, hf⟩ | ⟨c_5, hf⟩
  · refine x_swIn G (tgt := 140) (off := 137) (k := 100) dX12_fact_3 c_5 (by decide) (by decide) (by decide) (by decide) ?_
    refine x_aload_n G dX12_fact_140 rfl rfl ?_
    obtain ⟨v_4, hv_4, hf⟩ := bnd hf
    refine x_virI G (As := []) (mX12_greatest G.2.2.2.2.2.2.1 M hv_4) mv_X12_295 (kd148 M) cl12 rfl rfl rfl rfl rfl dX12_fact_141 ?_
    exact x_iretP G hf hr dX12_fact_144
  rcases ite_or hf with ⟨c_7, hf⟩ | ⟨c_7, hf⟩
  · refine x_swIn G (tgt := 169) (off := 166) (k := 102) dX12_fact_3 c_7 (by decide) (by decide) (by decide) (by decide) ?_
    refine x_aload_n G dX12_fact_169 rfl rfl ?_
    refine x_aload_n G dX12_fact_170 rfl rfl ?_
    refine x_getI G (kd148 M) 27 rfl cl12 rfl wf_X12_292 dX12_fact_171 ?_
    refine x_bipush G (v := 9) dX12_fact_174 (by decide) ?_
    obtain ⟨v_6, hv_6, hf⟩ := bnd hf
    refine x_virI G (As := [.int (w.1 148 27), .int (9 : Int32)]) (mX12_c G.2.2.2.2.2.2.1 M hv_6) mv_X12_117 (kd148 M) cl12 rfl rfl rfl rfl rfl dX12_fact_176 ?_
    exact x_iretP G hf hr dX12_fact_179
  rcases ite_or hf with ⟨c_9, hf⟩ | ⟨c_9, hf⟩
  · refine x_swIn G (tgt := 100) (off := 97) (k := 104) dX12_fact_3 c_9 (by decide) (by decide) (by decide) (by decide) ?_
    refine x_aload_n G dX12_fact_100 rfl rfl ?_
    refine x_aload_n G dX12_fact_101 rfl rfl ?_
    refine x_getI G (kd148 M) 27 rfl cl12 rfl wf_X12_292 dX12_fact_102 ?_
    refine x_iconst G (v := 0) dX12_fact_105 (by decide) ?_
    obtain ⟨v_8, hv_8, hf⟩ := bnd hf
    refine x_virI G (As := [.int (w.1 148 27), .int (0 : Int32)]) (mX12_c G.2.2.2.2.2.2.1 M hv_8) mv_X12_117 (kd148 M) cl12 rfl rfl rfl rfl rfl dX12_fact_106 ?_
    exact x_iretP G hf hr dX12_fact_109
  rcases ite_or hf with ⟨c_11, hf⟩ | ⟨c_11, hf⟩
  · refine x_swIn G (tgt := 145) (off := 142) (k := 107) dX12_fact_3 c_11 (by decide) (by decide) (by decide) (by decide) ?_
    refine x_aload_n G dX12_fact_145 rfl rfl ?_
    obtain ⟨v_10, hv_10, hf⟩ := bnd hf
    refine x_virI G (As := []) (mX12_day G.2.2.2.2.2.2.1 M hv_10) mv_X12_159 (kd148 M) cl12 rfl rfl rfl rfl rfl dX12_fact_146 ?_
    exact x_iretP G hf hr dX12_fact_149
  rcases ite_or hf with ⟨c_12, hf⟩ | ⟨c_12, hf⟩
  · refine x_swIn G (tgt := 202) (off := 199) (k := 109) dX12_fact_3 c_12 (by decide) (by decide) (by decide) (by decide) ?_
    refine x_iconst G (v := 0) dX12_fact_202 (by decide) ?_
    refine x_istore_n G (lv' := [some (.ref 148), some (.int v1), some (.int (0 : Int32)), some (.int (0 : Int32))]) dX12_fact_203 rfl rfl rfl rfl ?_
    exact XW.sub (lv' := [some (.ref 148), none, some (.int (0 : Int32)), some (.int (0 : Int32))]) (And.intro rfl (And.intro rfl (And.intro rfl trivial))) (xX12_fact_204 G M hr FU _ _ hf)
  rcases ite_or hf with ⟨c_14, hf⟩ | ⟨c_14, hf⟩
  · refine x_swIn G (tgt := 150) (off := 147) (k := 111) dX12_fact_3 c_14 (by decide) (by decide) (by decide) (by decide) ?_
    refine x_aload_n G dX12_fact_150 rfl rfl ?_
    refine x_iconst G (v := 0) dX12_fact_151 (by decide) ?_
    obtain ⟨v_13, hv_13, hf⟩ := bnd hf
    refine x_virI G (As := [.int (0 : Int32)]) (mX12_g G.2.2.2.2.2.2.1 M hv_13) mv_X12_101 (kd148 M) cl12 rfl rfl rfl rfl rfl dX12_fact_152 ?_
    refine x_bipush G (v := 24) dX12_fact_155 (by decide) ?_
    refine x_irem' G dX12_fact_157 (by decide) ?_
    exact x_iretP G hf hr dX12_fact_158
  rcases ite_or hf with ⟨c_16, hf⟩ | ⟨c_16, hf⟩
  · refine x_swIn G (tgt := 120) (off := 117) (k := 112) dX12_fact_3 c_16 (by decide) (by decide) (by decide) (by decide) ?_
    refine x_aload_n G dX12_fact_120 rfl rfl ?_
    refine x_aload_n G dX12_fact_121 rfl rfl ?_
    refine x_getI G (kd148 M) 27 rfl cl12 rfl wf_X12_292 dX12_fact_122 ?_
    refine x_iconst G (v := 2) dX12_fact_125 (by decide) ?_
    obtain ⟨v_15, hv_15, hf⟩ := bnd hf
    refine x_virI G (As := [.int (w.1 148 27), .int (2 : Int32)]) (mX12_c G.2.2.2.2.2.2.1 M hv_15) mv_X12_117 (kd148 M) cl12 rfl rfl rfl rfl rfl dX12_fact_126 ?_
    exact x_iretP G hf hr dX12_fact_129
  rcases ite_or hf with ⟨c_18, hf⟩ | ⟨c_18, hf⟩
  · refine x_swIn G (tgt := 110) (off := 107) (k := 115) dX12_fact_3 c_18 (by decide) (by decide) (by decide) (by decide) ?_
    refine x_aload_n G dX12_fact_110 rfl rfl ?_
    refine x_aload_n G dX12_fact_111 rfl rfl ?_
    refine x_getI G (kd148 M) 27 rfl cl12 rfl wf_X12_292 dX12_fact_112 ?_
    refine x_iconst G (v := 1) dX12_fact_115 (by decide) ?_
    obtain ⟨v_17, hv_17, hf⟩ := bnd hf
    refine x_virI G (As := [.int (w.1 148 27), .int (1 : Int32)]) (mX12_c G.2.2.2.2.2.2.1 M hv_17) mv_X12_117 (kd148 M) cl12 rfl rfl rfl rfl rfl dX12_fact_116 ?_
    exact x_iretP G hf hr dX12_fact_119
  rcases ite_or hf with ⟨c_20, hf⟩ | ⟨c_20, hf⟩
  · refine x_swIn G (tgt := 130) (off := 127) (k := 116) dX12_fact_3 c_20 (by decide) (by decide) (by decide) (by decide) ?_
    refine x_aload_n G dX12_fact_130 rfl rfl ?_
    refine x_aload_n G dX12_fact_131 rfl rfl ?_
    refine x_getI G (kd148 M) 27 rfl cl12 rfl wf_X12_292 dX12_fact_132 ?_
    refine x_iconst G (v := 3) dX12_fact_135 (by decide) ?_
    obtain ⟨v_19, hv_19, hf⟩ := bnd hf
    refine x_virI G (As := [.int (w.1 148 27), .int (3 : Int32)]) (mX12_c G.2.2.2.2.2.2.1 M hv_19) mv_X12_117 (kd148 M) cl12 rfl rfl rfl rfl rfl dX12_fact_136 ?_
    exact x_iretP G hf hr dX12_fact_139
  rcases ite_or hf with ⟨c_23, hf⟩ | ⟨c_23, hf⟩
  · refine x_swIn G (tgt := 159) (off := 156) (k := 119) dX12_fact_3 c_23 (by decide) (by decide) (by decide) (by decide) ?_
    refine x_aload_n G dX12_fact_159 rfl rfl ?_
    refine x_aload_n G dX12_fact_160 rfl rfl ?_
    refine x_iconst G (v := 0) dX12_fact_161 (by decide) ?_
    obtain ⟨v_21, hv_21, hf⟩ := bnd hf
    refine x_virI G (As := [.int (0 : Int32)]) (mX12_g G.2.2.2.2.2.2.1 M hv_21) mv_X12_101 (kd148 M) cl12 rfl rfl rfl rfl rfl dX12_fact_162 ?_
    obtain ⟨v_22, hv_22, hf⟩ := bnd hf
    refine x_virI G (As := [.int v_21]) (mX12_levelAt G.2.2.2.2.2.2.1 M hv_22) mv_X12_138 (kd148 M) cl12 rfl rfl rfl rfl rfl dX12_fact_165 ?_
    exact x_iretP G hf hr dX12_fact_168
  refine x_swDef G (tgt := 249) dX12_fact_3 (by decide) [99, 100, 102, 104, 107, 109, 111, 112, 115, 116, 119] (List.forall_mem_cons.mpr ⟨nek c_3 (by decide), (List.forall_mem_cons.mpr ⟨nek c_5 (by decide), (List.forall_mem_cons.mpr ⟨nek c_7 (by decide), (List.forall_mem_cons.mpr ⟨nek c_9 (by decide), (List.forall_mem_cons.mpr ⟨nek c_11 (by decide), (List.forall_mem_cons.mpr ⟨nek c_12 (by decide), (List.forall_mem_cons.mpr ⟨nek c_14 (by decide), (List.forall_mem_cons.mpr ⟨nek c_16 (by decide), (List.forall_mem_cons.mpr ⟨nek c_18 (by decide), (List.forall_mem_cons.mpr ⟨nek c_20 (by decide), (List.forall_mem_cons.mpr ⟨nek c_23 (by decide), (fun _ h => absurd h List.not_mem_nil)⟩)⟩)⟩)⟩)⟩)⟩)⟩)⟩)⟩)⟩)⟩) (by decide +kernel) ?_
  refine x_iconst G (v := 0) dX12_fact_249 (by decide) ?_
  refine x_istore_n G (lv' := [some (.ref 148), some (.int v1), some (.int (0 : Int32)), some (.int (0 : Int32))]) dX12_fact_250 rfl rfl rfl rfl ?_
  exact XW.sub (lv' := [some (.ref 148), none, some (.int (0 : Int32)), some (.int (0 : Int32))]) (And.intro rfl (And.intro rfl (And.intro rfl trivial))) (xX12_fact_251 G M hr FU _ _ hf)

theorem mX12_fact {l : Launch} {S : KS} {w : Wd} (hI : Inj S) (M : Main S) {v1 : Int32} {r : Int32} (hf : fX12_fact v1 w = some r) : CI l yX12_fact cX12_fact 4 (some .int) 4 S [.ref 148, .int v1] w r w := by
  intro sz
  refine mk_entry rfl (by decide +kernel) hI 2 rfl rfl (fun K h1 h2 h3 h4 h5 h6 G => ?_)
  subst h2
  exact xX12_fact_e G M hf ⟨h3, by rw [h4, h6], h5⟩

set_option maxHeartbeats 4000000 in
set_option maxRecDepth 100000 in
theorem xX12_in_e {K : KT} {v0 : Int64} {v2 : Int64} {v4 : Int64} {w : Wd} {r : Bool} (G : GK K cX12_in RX12 6 1) (M : Main K.ks) (hf : fX12_in v0 v2 v4 w = some r) (hr : RI K .boolean (bI r) w) : XW K 0 [some (.long v0), none, some (.long v2), none, some (.long v4), none] [] w := by
  unfold fX12_in at hf
  refine x_lload_n G dX12_in_0 rfl rfl ?_
  refine x_lload_n G dX12_in_1 rfl rfl ?_
  refine x_lcmp G dX12_in_2 ?_
  refine x_clt G (tgt := 17) dX12_in_3 (by decide) hf (fun c_1 hf => ?_) (fun c_1 hf => ?_)
  · refine x_iconst G (v := 0) dX12_in_17 (by decide) ?_
    exact x_zretP G hf hr dX12_in_18
  · refine x_lload_n G dX12_in_6 rfl rfl ?_
    refine x_lload G dX12_in_7 rfl ?_
    refine x_lcmp G dX12_in_9 ?_
    refine x_cgt G (tgt := 17) dX12_in_10 (by decide) hf (fun c_2 hf => ?_) (fun c_2 hf => ?_)
    · refine x_iconst G (v := 0) dX12_in_17 (by decide) ?_
      exact x_zretP G hf hr dX12_in_18
    · refine x_iconst G (v := 1) dX12_in_13 (by decide) ?_
      refine x_goto G (tgt := 18) dX12_in_14 (by decide) ?_
      exact x_zretP G hf hr dX12_in_18

theorem mX12_in {l : Launch} {S : KS} {w : Wd} (hI : Inj S) (M : Main S) {v0 : Int64} {v2 : Int64} {v4 : Int64} {r : Bool} (hf : fX12_in v0 v2 v4 w = some r) : CI l yX12_in cX12_in 6 (some .boolean) 1 S [.long v0, .long v2, .long v4] w (bI r) w := by
  intro sz
  refine mk_entry rfl (by decide +kernel) hI 0 rfl rfl (fun K h1 h2 h3 h4 h5 h6 G => ?_)
  subst h2
  exact xX12_in_e G M hf ⟨h3, by rw [h4, h6], h5⟩

set_option maxHeartbeats 4000000 in
set_option maxRecDepth 100000 in
theorem xX12_isLetter_e {K : KT} {v0 : Int32} {w : Wd} {r : Bool} (G : GK K cX12_isLetter RX12 1 1) (M : Main K.ks) (hf : fX12_isLetter v0 w = some r) (hr : RI K .boolean (bI r) w) : XW K 0 [some (.int v0)] [] w := by
  unfold fX12_isLetter at hf
  refine x_iload_n G dX12_isLetter_0 rfl rfl ?_
  refine x_bipush G (v := 104) dX12_isLetter_1 (by decide) ?_
  refine x_icmpeq G (tgt := 72) dX12_isLetter_3 (by decide) hf (fun c_1 hf => ?_) (fun c_1 hf => ?_)
  · refine x_iconst G (v := 1) dX12_isLetter_72 (by decide) ?_
    refine x_goto G (tgt := 77) dX12_isLetter_73 (by decide) ?_
    exact x_zretP G hf hr dX12_isLetter_77
  · refine x_iload_n G dX12_isLetter_6 rfl rfl ?_
    refine x_bipush G (v := 115) dX12_isLetter_7 (by decide) ?_
    refine x_icmpeq G (tgt := 72) dX12_isLetter_9 (by decide) hf (fun c_2 hf => ?_) (fun c_2 hf => ?_)
    · refine x_iconst G (v := 1) dX12_isLetter_72 (by decide) ?_
      refine x_goto G (tgt := 77) dX12_isLetter_73 (by decide) ?_
      exact x_zretP G hf hr dX12_isLetter_77
    · refine x_iload_n G dX12_isLetter_12 rfl rfl ?_
      refine x_bipush G (v := 112) dX12_isLetter_13 (by decide) ?_
      refine x_icmpeq G (tgt := 72) dX12_isLetter_15 (by decide) hf (fun c_3 hf => ?_) (fun c_3 hf => ?_)
      · refine x_iconst G (v := 1) dX12_isLetter_72 (by decide) ?_
        refine x_goto G (tgt := 77) dX12_isLetter_73 (by decide) ?_
        exact x_zretP G hf hr dX12_isLetter_77
      · refine x_iload_n G dX12_isLetter_18 rfl rfl ?_
        refine x_bipush G (v := 116) dX12_isLetter_19 (by decide) ?_
        refine x_icmpeq G (tgt := 72) dX12_isLetter_21 (by decide) hf (fun c_4 hf => ?_) (fun c_4 hf => ?_)
        · refine x_iconst G (v := 1) dX12_isLetter_72 (by decide) ?_
          refine x_goto G (tgt := 77) dX12_isLetter_73 (by decide) ?_
          exact x_zretP G hf hr dX12_isLetter_77
        · refine x_iload_n G dX12_isLetter_24 rfl rfl ?_
          refine x_bipush G (v := 100) dX12_isLetter_25 (by decide) ?_
          refine x_icmpeq G (tgt := 72) dX12_isLetter_27 (by decide) hf (fun c_5 hf => ?_) (fun c_5 hf => ?_)
          · refine x_iconst G (v := 1) dX12_isLetter_72 (by decide) ?_
            refine x_goto G (tgt := 77) dX12_isLetter_73 (by decide) ?_
            exact x_zretP G hf hr dX12_isLetter_77
          · refine x_iload_n G dX12_isLetter_30 rfl rfl ?_
            refine x_bipush G (v := 107) dX12_isLetter_31 (by decide) ?_
            refine x_icmpeq G (tgt := 72) dX12_isLetter_33 (by decide) hf (fun c_6 hf => ?_) (fun c_6 hf => ?_)
            · refine x_iconst G (v := 1) dX12_isLetter_72 (by decide) ?_
              refine x_goto G (tgt := 77) dX12_isLetter_73 (by decide) ?_
              exact x_zretP G hf hr dX12_isLetter_77
            · refine x_iload_n G dX12_isLetter_36 rfl rfl ?_
              refine x_bipush G (v := 111) dX12_isLetter_37 (by decide) ?_
              refine x_icmpeq G (tgt := 72) dX12_isLetter_39 (by decide) hf (fun c_7 hf => ?_) (fun c_7 hf => ?_)
              · refine x_iconst G (v := 1) dX12_isLetter_72 (by decide) ?_
                refine x_goto G (tgt := 77) dX12_isLetter_73 (by decide) ?_
                exact x_zretP G hf hr dX12_isLetter_77
              · refine x_iload_n G dX12_isLetter_42 rfl rfl ?_
                refine x_bipush G (v := 119) dX12_isLetter_43 (by decide) ?_
                refine x_icmpeq G (tgt := 72) dX12_isLetter_45 (by decide) hf (fun c_8 hf => ?_) (fun c_8 hf => ?_)
                · refine x_iconst G (v := 1) dX12_isLetter_72 (by decide) ?_
                  refine x_goto G (tgt := 77) dX12_isLetter_73 (by decide) ?_
                  exact x_zretP G hf hr dX12_isLetter_77
                · refine x_iload_n G dX12_isLetter_48 rfl rfl ?_
                  refine x_bipush G (v := 102) dX12_isLetter_49 (by decide) ?_
                  refine x_icmpeq G (tgt := 72) dX12_isLetter_51 (by decide) hf (fun c_9 hf => ?_) (fun c_9 hf => ?_)
                  · refine x_iconst G (v := 1) dX12_isLetter_72 (by decide) ?_
                    refine x_goto G (tgt := 77) dX12_isLetter_73 (by decide) ?_
                    exact x_zretP G hf hr dX12_isLetter_77
                  · refine x_iload_n G dX12_isLetter_54 rfl rfl ?_
                    refine x_bipush G (v := 99) dX12_isLetter_55 (by decide) ?_
                    refine x_icmpeq G (tgt := 72) dX12_isLetter_57 (by decide) hf (fun c_10 hf => ?_) (fun c_10 hf => ?_)
                    · refine x_iconst G (v := 1) dX12_isLetter_72 (by decide) ?_
                      refine x_goto G (tgt := 77) dX12_isLetter_73 (by decide) ?_
                      exact x_zretP G hf hr dX12_isLetter_77
                    · refine x_iload_n G dX12_isLetter_60 rfl rfl ?_
                      refine x_bipush G (v := 109) dX12_isLetter_61 (by decide) ?_
                      refine x_icmpeq G (tgt := 72) dX12_isLetter_63 (by decide) hf (fun c_11 hf => ?_) (fun c_11 hf => ?_)
                      · refine x_iconst G (v := 1) dX12_isLetter_72 (by decide) ?_
                        refine x_goto G (tgt := 77) dX12_isLetter_73 (by decide) ?_
                        exact x_zretP G hf hr dX12_isLetter_77
                      · refine x_iload_n G dX12_isLetter_66 rfl rfl ?_
                        refine x_bipush G (v := 117) dX12_isLetter_67 (by decide) ?_
                        refine x_icmpne G (tgt := 76) dX12_isLetter_69 (by decide) hf (fun c_12 hf => ?_) (fun c_12 hf => ?_)
                        · refine x_iconst G (v := 1) dX12_isLetter_72 (by decide) ?_
                          refine x_goto G (tgt := 77) dX12_isLetter_73 (by decide) ?_
                          exact x_zretP G hf hr dX12_isLetter_77
                        · refine x_iconst G (v := 0) dX12_isLetter_76 (by decide) ?_
                          exact x_zretP G hf hr dX12_isLetter_77

theorem mX12_isLetter {l : Launch} {S : KS} {w : Wd} (hI : Inj S) (M : Main S) {v0 : Int32} {r : Bool} (hf : fX12_isLetter v0 w = some r) : CI l yX12_isLetter cX12_isLetter 1 (some .boolean) 1 S [.int v0] w (bI r) w := by
  intro sz
  refine mk_entry rfl (by decide +kernel) hI 0 rfl rfl (fun K h1 h2 h3 h4 h5 h6 G => ?_)
  subst h2
  exact xX12_isLetter_e G M hf ⟨h3, by rw [h4, h6], h5⟩

set_option maxHeartbeats 4000000 in
set_option maxRecDepth 100000 in
theorem xX12_unit_59 {K : KT} {r : Int32 × Wd} (G : GK K cX12_unit RX12 3 5) (M : Main K.ks) (hr : RI K .int r.1 r.2) : ∀ (n : Nat) (v1 : Int32) (v2 : Int32) (w : Wd), fX12_unit_59 n v1 v2 w = some r → XW K 59 [some (.ref 148), some (.int v1), some (.int v2)] [] w := by
  intro n
  induction n with
  | zero =>
    intro v1 v2 w hf
    unfold fX12_unit_59 at hf
    cases hf
  | succ n ih =>
    intro v1 v2 w hf
    unfold fX12_unit_59 at hf
    refine x_iload_n G dX12_unit_59 rfl rfl ?_
    refine x_iconst G (v := 4) dX12_unit_60 (by decide) ?_
    refine x_icmpge G (tgt := 110) dX12_unit_61 (by decide) hf (fun c_1 hf => ?_) (fun c_1 hf => ?_)
    · refine x_aload_n G dX12_unit_64 rfl rfl ?_
      obtain ⟨v_2, hv_2, hf⟩ := bnd hf
      refine x_virI G (As := []) (mX12_here G.2.2.2.2.2.2.1 M hv_2) mv_X12_289 (kd148 M) cl12 rfl rfl rfl rfl rfl dX12_unit_65 ?_
      refine x_i2l G dX12_unit_68 ?_
      refine x_ldc2 G wl_X12_304 dX12_unit_69 ?_
      refine x_ldc2 G wl_X12_306 dX12_unit_72 ?_
      obtain ⟨v_3, hv_3, hf⟩ := bnd hf
      refine x_staI G (As := [.long v_2.toInt64, .long (48 : Int64), .long (57 : Int64)]) (mX12_in G.2.2.2.2.2.2.1 M hv_3) ms_X12_93 rfl rfl rfl rfl rfl dX12_unit_75 ?_
      refine x_ifeqB G (tgt := 110) dX12_unit_78 (by decide) hf (fun c_4 hf => ?_) (fun c_4 hf => ?_)
      · refine x_bipush G (v := 10) dX12_unit_81 (by decide) ?_
        refine x_iload_n G dX12_unit_83 rfl rfl ?_
        refine x_imul G dX12_unit_84 ?_
        refine x_aload_n G dX12_unit_85 rfl rfl ?_
        obtain ⟨v_5, hv_5, hf⟩ := bnd hf
        refine x_virI G (As := []) (mX12_here G.2.2.2.2.2.2.1 M hv_5) mv_X12_289 (kd148 M) cl12 rfl rfl rfl rfl rfl dX12_unit_86 ?_
        refine x_iadd G dX12_unit_89 ?_
        refine x_bipush G (v := 48) dX12_unit_90 (by decide) ?_
        refine x_isub G dX12_unit_92 ?_
        refine x_istore_n G (lv' := [some (.ref 148), some (.int ((((10 : Int32) * v1) + v_5) - (48 : Int32))), some (.int v2)]) dX12_unit_93 rfl rfl rfl rfl ?_
        refine x_aload_n G dX12_unit_94 rfl rfl ?_
        refine x_dup G dX12_unit_95 rfl ?_
        refine x_getI G (kd148 M) 24 rfl cl12 rfl wf_X12_279 dX12_unit_96 ?_
        refine x_iconst G (v := 1) dX12_unit_99 (by decide) ?_
        refine x_iadd G dX12_unit_100 ?_
        refine x_putI G (kd148 M) 24 rfl cl12 rfl wf_X12_279 rfl rfl rfl dX12_unit_101 ?_
        refine nwr hf (fun w_6 hf => ?_)
        refine x_iinc G (lv' := [some (.ref 148), some (.int ((((10 : Int32) * v1) + v_5) - (48 : Int32))), some (.int (v2 + (1 : Int32)))]) (v := 1) dX12_unit_104 rfl (by decide) rfl rfl rfl ?_
        refine x_goto G (tgt := 59) dX12_unit_107 (by decide) ?_
        exact XW.sub (lv' := [some (.ref 148), some (.int ((((10 : Int32) * v1) + v_5) - (48 : Int32))), some (.int (v2 + (1 : Int32)))]) (And.intro rfl (And.intro rfl (And.intro rfl trivial))) (ih _ _ _ hf)
      · refine x_iload_n G dX12_unit_110 rfl rfl ?_
        exact x_iretW G hf hr dX12_unit_111
    · refine x_iload_n G dX12_unit_110 rfl rfl ?_
      exact x_iretW G hf hr dX12_unit_111

set_option maxHeartbeats 4000000 in
set_option maxRecDepth 100000 in
theorem xX12_unit_e {K : KT} {w : Wd} {r : Int32 × Wd} (G : GK K cX12_unit RX12 3 5) (M : Main K.ks) (hf : fX12_unit w = some r) (hr : RI K .int r.1 r.2) : XW K 0 [some (.ref 148), none, none] [] w := by
  unfold fX12_unit at hf
  refine x_aload_n G dX12_unit_0 rfl rfl ?_
  obtain ⟨v_1, hv_1, hf⟩ := bnd hf
  refine x_virI G (As := []) (mX12_here G.2.2.2.2.2.2.1 M hv_1) mv_X12_289 (kd148 M) cl12 rfl rfl rfl rfl rfl dX12_unit_1 ?_
  obtain ⟨v_2, hv_2, hf⟩ := bnd hf
  refine x_staI G (As := [.int v_1]) (mX12_isLetter G.2.2.2.2.2.2.1 M hv_2) ms_X12_298 rfl rfl rfl rfl rfl dX12_unit_4 ?_
  refine x_ifeqB G (tgt := 31) dX12_unit_7 (by decide) hf (fun c_3 hf => ?_) (fun c_3 hf => ?_)
  · refine x_aload_n G dX12_unit_10 rfl rfl ?_
    obtain ⟨v_4, hv_4, hf⟩ := bnd hf
    refine x_virI G (As := []) (mX12_here G.2.2.2.2.2.2.1 M hv_4) mv_X12_289 (kd148 M) cl12 rfl rfl rfl rfl rfl dX12_unit_11 ?_
    refine x_istore_n G (lv' := [some (.ref 148), some (.int v_4), none]) dX12_unit_14 rfl rfl rfl rfl ?_
    refine x_aload_n G dX12_unit_15 rfl rfl ?_
    refine x_dup G dX12_unit_16 rfl ?_
    refine x_getI G (kd148 M) 24 rfl cl12 rfl wf_X12_279 dX12_unit_17 ?_
    refine x_iconst G (v := 1) dX12_unit_20 (by decide) ?_
    refine x_iadd G dX12_unit_21 ?_
    refine x_putI G (kd148 M) 24 rfl cl12 rfl wf_X12_279 rfl rfl rfl dX12_unit_22 ?_
    refine nwr hf (fun w_5 hf => ?_)
    refine x_aload_n G dX12_unit_25 rfl rfl ?_
    refine x_iload_n G dX12_unit_26 rfl rfl ?_
    obtain ⟨v_6, hv_6, hf⟩ := bnd hf
    refine x_virI G (As := [.int v_4]) (mX12_fact G.2.2.2.2.2.2.1 M hv_6) mv_X12_301 (kd148 M) cl12 rfl rfl rfl rfl rfl dX12_unit_27 ?_
    exact x_iretW G hf hr dX12_unit_30
  · refine x_aload_n G dX12_unit_31 rfl rfl ?_
    obtain ⟨v_7, hv_7, hf⟩ := bnd hf
    refine x_virI G (As := []) (mX12_here G.2.2.2.2.2.2.1 M hv_7) mv_X12_289 (kd148 M) cl12 rfl rfl rfl rfl rfl dX12_unit_32 ?_
    refine x_i2l G dX12_unit_35 ?_
    refine x_ldc2 G wl_X12_304 dX12_unit_36 ?_
    refine x_ldc2 G wl_X12_306 dX12_unit_39 ?_
    obtain ⟨v_8, hv_8, hf⟩ := bnd hf
    refine x_staI G (As := [.long v_7.toInt64, .long (48 : Int64), .long (57 : Int64)]) (mX12_in G.2.2.2.2.2.2.1 M hv_8) ms_X12_93 rfl rfl rfl rfl rfl dX12_unit_42 ?_
    refine x_ifneB G (tgt := 55) dX12_unit_45 (by decide) hf (fun c_9 hf => ?_) (fun c_9 hf => ?_)
    · refine x_iconst G (v := 0) dX12_unit_55 (by decide) ?_
      refine x_istore_n G (lv' := [some (.ref 148), some (.int (0 : Int32)), none]) dX12_unit_56 rfl rfl rfl rfl ?_
      refine x_iconst G (v := 0) dX12_unit_57 (by decide) ?_
      refine x_istore_n G (lv' := [some (.ref 148), some (.int (0 : Int32)), some (.int (0 : Int32))]) dX12_unit_58 rfl rfl rfl rfl ?_
      exact XW.sub (lv' := [some (.ref 148), some (.int (0 : Int32)), some (.int (0 : Int32))]) (And.intro rfl (And.intro rfl (And.intro rfl trivial))) (xX12_unit_59 G M hr FU _ _ _ hf)
    · refine x_aload_n G dX12_unit_48 rfl rfl ?_
      refine x_iconst G (v := 1) dX12_unit_49 (by decide) ?_
      refine x_putI G (kd148 M) 26 rfl cl12 rfl wf_X12_285 rfl (by decide +kernel) (by decide +kernel) dX12_unit_50 ?_
      refine nwr hf (fun w_10 hf => ?_)
      refine x_iconst G (v := 0) dX12_unit_53 (by decide) ?_
      exact x_iretW G hf hr dX12_unit_54

theorem mX12_unit {l : Launch} {S : KS} {w : Wd} (hI : Inj S) (M : Main S) {r : Int32 × Wd} (hf : fX12_unit w = some r) : CI l yX12_unit cX12_unit 3 (some .int) 5 S [.ref 148] w r.1 r.2 := by
  intro sz
  refine mk_entry rfl (by decide +kernel) hI 2 rfl rfl (fun K h1 h2 h3 h4 h5 h6 G => ?_)
  subst h2
  exact xX12_unit_e G M hf ⟨h3, by rw [h4, h6], h5⟩

