theorem dX12_isCarrying_0 : decode cX12_isCarrying 0 = .ok (.iconst 0, 1) := by decide +kernel
theorem dX12_isCarrying_1 : decode cX12_isCarrying 1 = .ok (.istore_n 2, 1) := by decide +kernel
theorem dX12_isCarrying_2 : decode cX12_isCarrying 2 = .ok (.iload_n 2, 1) := by decide +kernel
theorem dX12_isCarrying_3 : decode cX12_isCarrying 3 = .ok (.aload_n 0, 1) := by decide +kernel
theorem dX12_isCarrying_4 : decode cX12_isCarrying 4 = .ok (.iload_n 1, 1) := by decide +kernel
theorem dX12_isCarrying_5 : decode cX12_isCarrying 5 = .ok (.iconst 0, 1) := by decide +kernel
theorem dX12_isCarrying_6 : decode cX12_isCarrying 6 = .ok (.invokevirtual 193, 3) := by decide +kernel
theorem dX12_isCarrying_9 : decode cX12_isCarrying 9 = .ok (.if_icmp .ge 44, 3) := by decide +kernel
theorem dX12_isCarrying_12 : decode cX12_isCarrying 12 = .ok (.aload_n 0, 1) := by decide +kernel
theorem dX12_isCarrying_13 : decode cX12_isCarrying 13 = .ok (.iload_n 1, 1) := by decide +kernel
theorem dX12_isCarrying_14 : decode cX12_isCarrying 14 = .ok (.iload_n 2, 1) := by decide +kernel
theorem dX12_isCarrying_15 : decode cX12_isCarrying 15 = .ok (.invokevirtual 185, 3) := by decide +kernel
theorem dX12_isCarrying_18 : decode cX12_isCarrying 18 = .ok (.istore_n 3, 1) := by decide +kernel
theorem dX12_isCarrying_19 : decode cX12_isCarrying 19 = .ok (.aload_n 0, 1) := by decide +kernel
theorem dX12_isCarrying_20 : decode cX12_isCarrying 20 = .ok (.getfield 13, 3) := by decide +kernel
theorem dX12_isCarrying_23 : decode cX12_isCarrying 23 = .ok (.iload_n 3, 1) := by decide +kernel
theorem dX12_isCarrying_24 : decode cX12_isCarrying 24 = .ok (.iconst 3, 1) := by decide +kernel
theorem dX12_isCarrying_25 : decode cX12_isCarrying 25 = .ok (.iadd, 1) := by decide +kernel
theorem dX12_isCarrying_26 : decode cX12_isCarrying 26 = .ok (.iaload, 1) := by decide +kernel
theorem dX12_isCarrying_27 : decode cX12_isCarrying 27 = .ok (.bipush (-9), 2) := by decide +kernel
theorem dX12_isCarrying_29 : decode cX12_isCarrying 29 = .ok (.if_icmp .eq 16, 3) := by decide +kernel
theorem dX12_isCarrying_32 : decode cX12_isCarrying 32 = .ok (.aload_n 0, 1) := by decide +kernel
theorem dX12_isCarrying_33 : decode cX12_isCarrying 33 = .ok (.iload_n 1, 1) := by decide +kernel
theorem dX12_isCarrying_34 : decode cX12_isCarrying 34 = .ok (.iload_n 3, 1) := by decide +kernel
theorem dX12_isCarrying_35 : decode cX12_isCarrying 35 = .ok (.aload_n 0, 1) := by decide +kernel
theorem dX12_isCarrying_36 : decode cX12_isCarrying 36 = .ok (.invokevirtual 159, 3) := by decide +kernel
theorem dX12_isCarrying_39 : decode cX12_isCarrying 39 = .ok (.invokevirtual 207, 3) := by decide +kernel
theorem dX12_isCarrying_42 : decode cX12_isCarrying 42 = .ok (.ifCond .ne 5, 3) := by decide +kernel
theorem dX12_isCarrying_45 : decode cX12_isCarrying 45 = .ok (.iconst 0, 1) := by decide +kernel
theorem dX12_isCarrying_46 : decode cX12_isCarrying 46 = .ok (.ireturn, 1) := by decide +kernel
theorem dX12_isCarrying_47 : decode cX12_isCarrying 47 = .ok (.iinc 2 1, 3) := by decide +kernel
theorem dX12_isCarrying_50 : decode cX12_isCarrying 50 = .ok (.goto (-48), 3) := by decide +kernel
theorem dX12_isCarrying_53 : decode cX12_isCarrying 53 = .ok (.iconst 1, 1) := by decide +kernel
theorem dX12_isCarrying_54 : decode cX12_isCarrying 54 = .ok (.ireturn, 1) := by decide +kernel
theorem dX12_carries_0 : decode cX12_carries 0 = .ok (.aload_n 0, 1) := by decide +kernel
theorem dX12_carries_1 : decode cX12_carries 1 = .ok (.iconst 0, 1) := by decide +kernel
theorem dX12_carries_2 : decode cX12_carries 2 = .ok (.putfield 1, 3) := by decide +kernel
theorem dX12_carries_5 : decode cX12_carries 5 = .ok (.aload_n 0, 1) := by decide +kernel
theorem dX12_carries_6 : decode cX12_carries 6 = .ok (.iload_n 1, 1) := by decide +kernel
theorem dX12_carries_7 : decode cX12_carries 7 = .ok (.invokevirtual 188, 3) := by decide +kernel
theorem dX12_carries_10 : decode cX12_carries 10 = .ok (.ifCond .eq 19, 3) := by decide +kernel
theorem dX12_carries_13 : decode cX12_carries 13 = .ok (.aload_n 0, 1) := by decide +kernel
theorem dX12_carries_14 : decode cX12_carries 14 = .ok (.iload_n 1, 1) := by decide +kernel
theorem dX12_carries_15 : decode cX12_carries 15 = .ok (.invokevirtual 211, 3) := by decide +kernel
theorem dX12_carries_18 : decode cX12_carries 18 = .ok (.ifCond .eq 7, 3) := by decide +kernel
theorem dX12_carries_21 : decode cX12_carries 21 = .ok (.iconst 1, 1) := by decide +kernel
theorem dX12_carries_22 : decode cX12_carries 22 = .ok (.goto 8, 3) := by decide +kernel
theorem dX12_carries_25 : decode cX12_carries 25 = .ok (.iconst 0, 1) := by decide +kernel
theorem dX12_carries_26 : decode cX12_carries 26 = .ok (.goto 4, 3) := by decide +kernel
theorem dX12_carries_29 : decode cX12_carries 29 = .ok (.iconst (-1), 1) := by decide +kernel
theorem dX12_carries_30 : decode cX12_carries 30 = .ok (.ireturn, 1) := by decide +kernel
theorem dX12_clear_0 : decode cX12_clear 0 = .ok (.aload_n 0, 1) := by decide +kernel
theorem dX12_clear_1 : decode cX12_clear 1 = .ok (.iconst 0, 1) := by decide +kernel
theorem dX12_clear_2 : decode cX12_clear 2 = .ok (.putfield 1, 3) := by decide +kernel
theorem dX12_clear_5 : decode cX12_clear 5 = .ok (.iload_n 1, 1) := by decide +kernel
theorem dX12_clear_6 : decode cX12_clear 6 = .ok (.invokestatic 128, 3) := by decide +kernel
theorem dX12_clear_9 : decode cX12_clear 9 = .ok (.ifCond .ne 5, 3) := by decide +kernel
theorem dX12_clear_12 : decode cX12_clear 12 = .ok (.iconst (-1), 1) := by decide +kernel
theorem dX12_clear_13 : decode cX12_clear 13 = .ok (.ireturn, 1) := by decide +kernel
theorem dX12_clear_14 : decode cX12_clear 14 = .ok (.aload_n 0, 1) := by decide +kernel
theorem dX12_clear_15 : decode cX12_clear 15 = .ok (.getfield 63, 3) := by decide +kernel
theorem dX12_clear_18 : decode cX12_clear 18 = .ok (.iload_n 1, 1) := by decide +kernel
theorem dX12_clear_19 : decode cX12_clear 19 = .ok (.iaload, 1) := by decide +kernel
theorem dX12_clear_20 : decode cX12_clear 20 = .ok (.istore_n 2, 1) := by decide +kernel
theorem dX12_clear_21 : decode cX12_clear 21 = .ok (.aload_n 0, 1) := by decide +kernel
theorem dX12_clear_22 : decode cX12_clear 22 = .ok (.getfield 63, 3) := by decide +kernel
theorem dX12_clear_25 : decode cX12_clear 25 = .ok (.iload_n 1, 1) := by decide +kernel
theorem dX12_clear_26 : decode cX12_clear 26 = .ok (.iconst 0, 1) := by decide +kernel
theorem dX12_clear_27 : decode cX12_clear 27 = .ok (.iastore, 1) := by decide +kernel
theorem dX12_clear_28 : decode cX12_clear 28 = .ok (.aload_n 0, 1) := by decide +kernel
theorem dX12_clear_29 : decode cX12_clear 29 = .ok (.getfield 66, 3) := by decide +kernel
theorem dX12_clear_32 : decode cX12_clear 32 = .ok (.iload_n 1, 1) := by decide +kernel
theorem dX12_clear_33 : decode cX12_clear 33 = .ok (.iconst 0, 1) := by decide +kernel
theorem dX12_clear_34 : decode cX12_clear 34 = .ok (.iastore, 1) := by decide +kernel
theorem dX12_clear_35 : decode cX12_clear 35 = .ok (.iload_n 2, 1) := by decide +kernel
theorem dX12_clear_36 : decode cX12_clear 36 = .ok (.ireturn, 1) := by decide +kernel
theorem dX12_coal_0 : decode cX12_coal 0 = .ok (.aload_n 0, 1) := by decide +kernel
theorem dX12_coal_1 : decode cX12_coal 1 = .ok (.iconst 0, 1) := by decide +kernel
theorem dX12_coal_2 : decode cX12_coal 2 = .ok (.putfield 1, 3) := by decide +kernel
theorem dX12_coal_5 : decode cX12_coal 5 = .ok (.iload_n 1, 1) := by decide +kernel
theorem dX12_coal_6 : decode cX12_coal 6 = .ok (.invokestatic 105, 3) := by decide +kernel
theorem dX12_coal_9 : decode cX12_coal 9 = .ok (.ifCond .eq 25, 3) := by decide +kernel
theorem dX12_coal_12 : decode cX12_coal 12 = .ok (.iload_n 2, 1) := by decide +kernel
theorem dX12_coal_13 : decode cX12_coal 13 = .ok (.i2l, 1) := by decide +kernel
theorem dX12_coal_14 : decode cX12_coal 14 = .ok (.lconst 1, 1) := by decide +kernel
theorem dX12_coal_15 : decode cX12_coal 15 = .ok (.ldc2_w 115, 3) := by decide +kernel
theorem dX12_coal_18 : decode cX12_coal 18 = .ok (.invokestatic 93, 3) := by decide +kernel
theorem dX12_coal_21 : decode cX12_coal 21 = .ok (.ifCond .eq 13, 3) := by decide +kernel
theorem dX12_coal_24 : decode cX12_coal 24 = .ok (.aload_n 0, 1) := by decide +kernel
theorem dX12_coal_25 : decode cX12_coal 25 = .ok (.iload_n 1, 1) := by decide +kernel
theorem dX12_coal_26 : decode cX12_coal 26 = .ok (.iconst 0, 1) := by decide +kernel
theorem dX12_coal_27 : decode cX12_coal 27 = .ok (.invokevirtual 226, 3) := by decide +kernel
theorem dX12_coal_30 : decode cX12_coal 30 = .ok (.iconst 1, 1) := by decide +kernel
theorem dX12_coal_31 : decode cX12_coal 31 = .ok (.if_icmp .eq 5, 3) := by decide +kernel
theorem dX12_coal_34 : decode cX12_coal 34 = .ok (.iconst (-1), 1) := by decide +kernel
theorem dX12_coal_35 : decode cX12_coal 35 = .ok (.ireturn, 1) := by decide +kernel
theorem dX12_coal_36 : decode cX12_coal 36 = .ok (.aload_n 0, 1) := by decide +kernel
theorem dX12_coal_37 : decode cX12_coal 37 = .ok (.iload_n 1, 1) := by decide +kernel
theorem dX12_coal_38 : decode cX12_coal 38 = .ok (.iconst 3, 1) := by decide +kernel
theorem dX12_coal_39 : decode cX12_coal 39 = .ok (.invokevirtual 226, 3) := by decide +kernel
theorem dX12_coal_42 : decode cX12_coal 42 = .ok (.iload_n 2, 1) := by decide +kernel
theorem dX12_coal_43 : decode cX12_coal 43 = .ok (.iadd, 1) := by decide +kernel
theorem dX12_coal_44 : decode cX12_coal 44 = .ok (.ldc 229, 2) := by decide +kernel
theorem dX12_coal_46 : decode cX12_coal 46 = .ok (.if_icmp .le 6, 3) := by decide +kernel
theorem dX12_coal_49 : decode cX12_coal 49 = .ok (.bipush (-2), 2) := by decide +kernel
theorem dX12_coal_51 : decode cX12_coal 51 = .ok (.ireturn, 1) := by decide +kernel
theorem dX12_coal_52 : decode cX12_coal 52 = .ok (.aload_n 0, 1) := by decide +kernel
theorem dX12_coal_53 : decode cX12_coal 53 = .ok (.getfield 13, 3) := by decide +kernel
theorem dX12_coal_56 : decode cX12_coal 56 = .ok (.sipush 1500, 3) := by decide +kernel
theorem dX12_coal_59 : decode cX12_coal 59 = .ok (.bipush 10, 2) := by decide +kernel
theorem dX12_coal_61 : decode cX12_coal 61 = .ok (.iload_n 1, 1) := by decide +kernel
theorem dX12_coal_62 : decode cX12_coal 62 = .ok (.imul, 1) := by decide +kernel
theorem dX12_coal_63 : decode cX12_coal 63 = .ok (.iadd, 1) := by decide +kernel
theorem dX12_coal_64 : decode cX12_coal 64 = .ok (.iconst 3, 1) := by decide +kernel
theorem dX12_coal_65 : decode cX12_coal 65 = .ok (.iadd, 1) := by decide +kernel
theorem dX12_coal_66 : decode cX12_coal 66 = .ok (.dup2, 1) := by decide +kernel
theorem dX12_coal_67 : decode cX12_coal 67 = .ok (.iaload, 1) := by decide +kernel
theorem dX12_coal_68 : decode cX12_coal 68 = .ok (.iload_n 2, 1) := by decide +kernel
theorem dX12_coal_69 : decode cX12_coal 69 = .ok (.iadd, 1) := by decide +kernel
theorem dX12_coal_70 : decode cX12_coal 70 = .ok (.iastore, 1) := by decide +kernel
theorem dX12_coal_71 : decode cX12_coal 71 = .ok (.aload_n 0, 1) := by decide +kernel
theorem dX12_coal_72 : decode cX12_coal 72 = .ok (.iload_n 1, 1) := by decide +kernel
theorem dX12_coal_73 : decode cX12_coal 73 = .ok (.iconst 3, 1) := by decide +kernel
theorem dX12_coal_74 : decode cX12_coal 74 = .ok (.invokevirtual 226, 3) := by decide +kernel
theorem dX12_coal_77 : decode cX12_coal 77 = .ok (.ireturn, 1) := by decide +kernel
theorem dX12_isBack_0 : decode cX12_isBack 0 = .ok (.iconst 1, 1) := by decide +kernel
theorem dX12_isBack_1 : decode cX12_isBack 1 = .ok (.istore_n 2, 1) := by decide +kernel
theorem dX12_isBack_2 : decode cX12_isBack 2 = .ok (.iload_n 2, 1) := by decide +kernel
theorem dX12_isBack_3 : decode cX12_isBack 3 = .ok (.bipush 12, 2) := by decide +kernel
theorem dX12_isBack_5 : decode cX12_isBack 5 = .ok (.if_icmp .gt 26, 3) := by decide +kernel
theorem dX12_isBack_8 : decode cX12_isBack 8 = .ok (.aload_n 0, 1) := by decide +kernel
theorem dX12_isBack_9 : decode cX12_isBack 9 = .ok (.iload_n 1, 1) := by decide +kernel
theorem dX12_isBack_10 : decode cX12_isBack 10 = .ok (.invokevirtual 138, 3) := by decide +kernel
theorem dX12_isBack_13 : decode cX12_isBack 13 = .ok (.aload_n 0, 1) := by decide +kernel
theorem dX12_isBack_14 : decode cX12_isBack 14 = .ok (.iload_n 1, 1) := by decide +kernel
theorem dX12_isBack_15 : decode cX12_isBack 15 = .ok (.iload_n 2, 1) := by decide +kernel
theorem dX12_isBack_16 : decode cX12_isBack 16 = .ok (.iadd, 1) := by decide +kernel
theorem dX12_isBack_17 : decode cX12_isBack 17 = .ok (.invokevirtual 138, 3) := by decide +kernel
theorem dX12_isBack_20 : decode cX12_isBack 20 = .ok (.if_icmp .ge 5, 3) := by decide +kernel
theorem dX12_isBack_23 : decode cX12_isBack 23 = .ok (.iconst 1, 1) := by decide +kernel
theorem dX12_isBack_24 : decode cX12_isBack 24 = .ok (.ireturn, 1) := by decide +kernel
theorem dX12_isBack_25 : decode cX12_isBack 25 = .ok (.iinc 2 1, 3) := by decide +kernel
theorem dX12_isBack_28 : decode cX12_isBack 28 = .ok (.goto (-26), 3) := by decide +kernel
theorem dX12_isBack_31 : decode cX12_isBack 31 = .ok (.iconst 0, 1) := by decide +kernel
theorem dX12_isBack_32 : decode cX12_isBack 32 = .ok (.ireturn, 1) := by decide +kernel
theorem dX12_comesBack_0 : decode cX12_comesBack 0 = .ok (.aload_n 0, 1) := by decide +kernel
theorem dX12_comesBack_1 : decode cX12_comesBack 1 = .ok (.iconst 0, 1) := by decide +kernel
theorem dX12_comesBack_2 : decode cX12_comesBack 2 = .ok (.putfield 1, 3) := by decide +kernel
theorem dX12_comesBack_5 : decode cX12_comesBack 5 = .ok (.iload_n 1, 1) := by decide +kernel
theorem dX12_comesBack_6 : decode cX12_comesBack 6 = .ok (.i2l, 1) := by decide +kernel
theorem dX12_comesBack_7 : decode cX12_comesBack 7 = .ok (.lconst 0, 1) := by decide +kernel
theorem dX12_comesBack_8 : decode cX12_comesBack 8 = .ok (.ldc2_w 141, 3) := by decide +kernel
theorem dX12_comesBack_11 : decode cX12_comesBack 11 = .ok (.invokestatic 93, 3) := by decide +kernel
theorem dX12_comesBack_14 : decode cX12_comesBack 14 = .ok (.ifCond .eq 19, 3) := by decide +kernel
theorem dX12_comesBack_17 : decode cX12_comesBack 17 = .ok (.aload_n 0, 1) := by decide +kernel
theorem dX12_comesBack_18 : decode cX12_comesBack 18 = .ok (.iload_n 1, 1) := by decide +kernel
theorem dX12_comesBack_19 : decode cX12_comesBack 19 = .ok (.invokevirtual 143, 3) := by decide +kernel
theorem dX12_comesBack_22 : decode cX12_comesBack 22 = .ok (.ifCond .eq 7, 3) := by decide +kernel
theorem dX12_comesBack_25 : decode cX12_comesBack 25 = .ok (.iconst 1, 1) := by decide +kernel
theorem dX12_comesBack_26 : decode cX12_comesBack 26 = .ok (.goto 8, 3) := by decide +kernel
theorem dX12_comesBack_29 : decode cX12_comesBack 29 = .ok (.iconst 0, 1) := by decide +kernel
theorem dX12_comesBack_30 : decode cX12_comesBack 30 = .ok (.goto 4, 3) := by decide +kernel
theorem dX12_comesBack_33 : decode cX12_comesBack 33 = .ok (.iconst (-1), 1) := by decide +kernel
theorem dX12_comesBack_34 : decode cX12_comesBack 34 = .ok (.ireturn, 1) := by decide +kernel
theorem dX12_copy_0 : decode cX12_copy 0 = .ok (.aload_n 0, 1) := by decide +kernel
theorem dX12_copy_1 : decode cX12_copy 1 = .ok (.iconst 0, 1) := by decide +kernel
theorem dX12_copy_2 : decode cX12_copy 2 = .ok (.putfield 1, 3) := by decide +kernel
theorem dX12_copy_5 : decode cX12_copy 5 = .ok (.iload_n 1, 1) := by decide +kernel
theorem dX12_copy_6 : decode cX12_copy 6 = .ok (.invokestatic 128, 3) := by decide +kernel
theorem dX12_copy_9 : decode cX12_copy 9 = .ok (.ifCond .eq 10, 3) := by decide +kernel
theorem dX12_copy_12 : decode cX12_copy 12 = .ok (.iload_n 3, 1) := by decide +kernel
theorem dX12_copy_13 : decode cX12_copy 13 = .ok (.invokestatic 128, 3) := by decide +kernel
theorem dX12_copy_16 : decode cX12_copy 16 = .ok (.ifCond .ne 5, 3) := by decide +kernel
theorem dX12_copy_19 : decode cX12_copy 19 = .ok (.iconst (-1), 1) := by decide +kernel
theorem dX12_copy_20 : decode cX12_copy 20 = .ok (.ireturn, 1) := by decide +kernel
theorem dX12_copy_21 : decode cX12_copy 21 = .ok (.aload_n 0, 1) := by decide +kernel
theorem dX12_copy_22 : decode cX12_copy 22 = .ok (.getfield 63, 3) := by decide +kernel
theorem dX12_copy_25 : decode cX12_copy 25 = .ok (.iload_n 1, 1) := by decide +kernel
theorem dX12_copy_26 : decode cX12_copy 26 = .ok (.iaload, 1) := by decide +kernel
theorem dX12_copy_27 : decode cX12_copy 27 = .ok (.ifCond .eq 12, 3) := by decide +kernel
theorem dX12_copy_30 : decode cX12_copy 30 = .ok (.aload_n 0, 1) := by decide +kernel
theorem dX12_copy_31 : decode cX12_copy 31 = .ok (.getfield 63, 3) := by decide +kernel
theorem dX12_copy_34 : decode cX12_copy 34 = .ok (.iload_n 3, 1) := by decide +kernel
theorem dX12_copy_35 : decode cX12_copy 35 = .ok (.iaload, 1) := by decide +kernel
theorem dX12_copy_36 : decode cX12_copy 36 = .ok (.ifCond .ne 10, 3) := by decide +kernel
theorem dX12_copy_39 : decode cX12_copy 39 = .ok (.aload_n 0, 1) := by decide +kernel
theorem dX12_copy_40 : decode cX12_copy 40 = .ok (.bipush (-11), 2) := by decide +kernel
theorem dX12_copy_42 : decode cX12_copy 42 = .ok (.invokevirtual 131, 3) := by decide +kernel
theorem dX12_copy_45 : decode cX12_copy 45 = .ok (.ireturn, 1) := by decide +kernel
theorem dX12_copy_46 : decode cX12_copy 46 = .ok (.aload_n 0, 1) := by decide +kernel
theorem dX12_copy_47 : decode cX12_copy 47 = .ok (.getfield 63, 3) := by decide +kernel
theorem dX12_copy_50 : decode cX12_copy 50 = .ok (.iload_n 1, 1) := by decide +kernel
theorem dX12_copy_51 : decode cX12_copy 51 = .ok (.iaload, 1) := by decide +kernel
theorem dX12_copy_52 : decode cX12_copy 52 = .ok (.invokestatic 361, 3) := by decide +kernel
theorem dX12_copy_55 : decode cX12_copy 55 = .ok (.ifCond .eq 18, 3) := by decide +kernel
theorem dX12_copy_58 : decode cX12_copy 58 = .ok (.aload_n 0, 1) := by decide +kernel
theorem dX12_copy_59 : decode cX12_copy 59 = .ok (.getfield 63, 3) := by decide +kernel
theorem dX12_copy_62 : decode cX12_copy 62 = .ok (.iload_n 1, 1) := by decide +kernel
theorem dX12_copy_63 : decode cX12_copy 63 = .ok (.iaload, 1) := by decide +kernel
theorem dX12_copy_64 : decode cX12_copy 64 = .ok (.aload_n 0, 1) := by decide +kernel
theorem dX12_copy_65 : decode cX12_copy 65 = .ok (.getfield 63, 3) := by decide +kernel
theorem dX12_copy_68 : decode cX12_copy 68 = .ok (.iload_n 3, 1) := by decide +kernel
theorem dX12_copy_69 : decode cX12_copy 69 = .ok (.iaload, 1) := by decide +kernel
theorem dX12_copy_70 : decode cX12_copy 70 = .ok (.if_icmp .eq 10, 3) := by decide +kernel
theorem dX12_copy_73 : decode cX12_copy 73 = .ok (.aload_n 0, 1) := by decide +kernel
theorem dX12_copy_74 : decode cX12_copy 74 = .ok (.bipush (-12), 2) := by decide +kernel
theorem dX12_copy_76 : decode cX12_copy 76 = .ok (.invokevirtual 131, 3) := by decide +kernel
theorem dX12_copy_79 : decode cX12_copy 79 = .ok (.ireturn, 1) := by decide +kernel
theorem dX12_copy_80 : decode cX12_copy 80 = .ok (.iload 5, 2) := by decide +kernel
theorem dX12_copy_82 : decode cX12_copy 82 = .ok (.ifCond .lt 39, 3) := by decide +kernel
theorem dX12_copy_85 : decode cX12_copy 85 = .ok (.iload_n 2, 1) := by decide +kernel
theorem dX12_copy_86 : decode cX12_copy 86 = .ok (.ifCond .lt 35, 3) := by decide +kernel
theorem dX12_copy_89 : decode cX12_copy 89 = .ok (.iload 4, 2) := by decide +kernel
theorem dX12_copy_91 : decode cX12_copy 91 = .ok (.ifCond .lt 30, 3) := by decide +kernel
theorem dX12_copy_94 : decode cX12_copy 94 = .ok (.iload_n 2, 1) := by decide +kernel
theorem dX12_copy_95 : decode cX12_copy 95 = .ok (.aload_n 0, 1) := by decide +kernel
theorem dX12_copy_96 : decode cX12_copy 96 = .ok (.getfield 66, 3) := by decide +kernel
theorem dX12_copy_99 : decode cX12_copy 99 = .ok (.iload_n 1, 1) := by decide +kernel
theorem dX12_copy_100 : decode cX12_copy 100 = .ok (.iaload, 1) := by decide +kernel
theorem dX12_copy_101 : decode cX12_copy 101 = .ok (.iload 5, 2) := by decide +kernel
theorem dX12_copy_103 : decode cX12_copy 103 = .ok (.isub, 1) := by decide +kernel
theorem dX12_copy_104 : decode cX12_copy 104 = .ok (.if_icmp .gt 17, 3) := by decide +kernel
theorem dX12_copy_107 : decode cX12_copy 107 = .ok (.iload 4, 2) := by decide +kernel
theorem dX12_copy_109 : decode cX12_copy 109 = .ok (.aload_n 0, 1) := by decide +kernel
theorem dX12_copy_110 : decode cX12_copy 110 = .ok (.getfield 66, 3) := by decide +kernel
theorem dX12_copy_113 : decode cX12_copy 113 = .ok (.iload_n 3, 1) := by decide +kernel
theorem dX12_copy_114 : decode cX12_copy 114 = .ok (.iaload, 1) := by decide +kernel
theorem dX12_copy_115 : decode cX12_copy 115 = .ok (.iload 5, 2) := by decide +kernel
theorem dX12_copy_117 : decode cX12_copy 117 = .ok (.isub, 1) := by decide +kernel
theorem dX12_copy_118 : decode cX12_copy 118 = .ok (.if_icmp .le 10, 3) := by decide +kernel
theorem dX12_copy_121 : decode cX12_copy 121 = .ok (.aload_n 0, 1) := by decide +kernel
theorem dX12_copy_122 : decode cX12_copy 122 = .ok (.bipush (-13), 2) := by decide +kernel
theorem dX12_copy_124 : decode cX12_copy 124 = .ok (.invokevirtual 131, 3) := by decide +kernel
theorem dX12_copy_127 : decode cX12_copy 127 = .ok (.ireturn, 1) := by decide +kernel
theorem dX12_copy_128 : decode cX12_copy 128 = .ok (.iconst 0, 1) := by decide +kernel
theorem dX12_copy_129 : decode cX12_copy 129 = .ok (.istore 6, 2) := by decide +kernel
theorem dX12_copy_131 : decode cX12_copy 131 = .ok (.iload 6, 2) := by decide +kernel
theorem dX12_copy_133 : decode cX12_copy 133 = .ok (.iload 5, 2) := by decide +kernel
theorem dX12_copy_135 : decode cX12_copy 135 = .ok (.if_icmp .ge 49, 3) := by decide +kernel
theorem dX12_copy_138 : decode cX12_copy 138 = .ok (.iload_n 1, 1) := by decide +kernel
theorem dX12_copy_139 : decode cX12_copy 139 = .ok (.iload_n 3, 1) := by decide +kernel
theorem dX12_copy_140 : decode cX12_copy 140 = .ok (.if_icmp .ne 9, 3) := by decide +kernel
theorem dX12_copy_143 : decode cX12_copy 143 = .ok (.iload_n 2, 1) := by decide +kernel
theorem dX12_copy_144 : decode cX12_copy 144 = .ok (.iload 4, 2) := by decide +kernel
theorem dX12_copy_146 : decode cX12_copy 146 = .ok (.if_icmp .lt 38, 3) := by decide +kernel
theorem dX12_copy_149 : decode cX12_copy 149 = .ok (.aload_n 0, 1) := by decide +kernel
theorem dX12_copy_150 : decode cX12_copy 150 = .ok (.getfield 69, 3) := by decide +kernel
theorem dX12_copy_153 : decode cX12_copy 153 = .ok (.bipush 100, 2) := by decide +kernel
theorem dX12_copy_155 : decode cX12_copy 155 = .ok (.iload_n 3, 1) := by decide +kernel
theorem dX12_copy_156 : decode cX12_copy 156 = .ok (.imul, 1) := by decide +kernel
theorem dX12_copy_157 : decode cX12_copy 157 = .ok (.iload 4, 2) := by decide +kernel
theorem dX12_copy_159 : decode cX12_copy 159 = .ok (.iadd, 1) := by decide +kernel
theorem dX12_copy_160 : decode cX12_copy 160 = .ok (.iload 6, 2) := by decide +kernel
theorem dX12_copy_162 : decode cX12_copy 162 = .ok (.iadd, 1) := by decide +kernel
theorem dX12_copy_163 : decode cX12_copy 163 = .ok (.aload_n 0, 1) := by decide +kernel
theorem dX12_copy_164 : decode cX12_copy 164 = .ok (.getfield 69, 3) := by decide +kernel
theorem dX12_copy_167 : decode cX12_copy 167 = .ok (.bipush 100, 2) := by decide +kernel
theorem dX12_copy_169 : decode cX12_copy 169 = .ok (.iload_n 1, 1) := by decide +kernel
theorem dX12_copy_170 : decode cX12_copy 170 = .ok (.imul, 1) := by decide +kernel
theorem dX12_copy_171 : decode cX12_copy 171 = .ok (.iload_n 2, 1) := by decide +kernel
theorem dX12_copy_172 : decode cX12_copy 172 = .ok (.iadd, 1) := by decide +kernel
theorem dX12_copy_173 : decode cX12_copy 173 = .ok (.iload 6, 2) := by decide +kernel
theorem dX12_copy_175 : decode cX12_copy 175 = .ok (.iadd, 1) := by decide +kernel
theorem dX12_copy_176 : decode cX12_copy 176 = .ok (.laload, 1) := by decide +kernel
theorem dX12_copy_177 : decode cX12_copy 177 = .ok (.lastore, 1) := by decide +kernel
theorem dX12_copy_178 : decode cX12_copy 178 = .ok (.iinc 6 1, 3) := by decide +kernel
theorem dX12_copy_181 : decode cX12_copy 181 = .ok (.goto (-50), 3) := by decide +kernel
theorem dX12_copy_184 : decode cX12_copy 184 = .ok (.iload 5, 2) := by decide +kernel
theorem dX12_copy_186 : decode cX12_copy 186 = .ok (.iconst 1, 1) := by decide +kernel
theorem dX12_copy_187 : decode cX12_copy 187 = .ok (.isub, 1) := by decide +kernel
theorem dX12_copy_188 : decode cX12_copy 188 = .ok (.istore 6, 2) := by decide +kernel
theorem dX12_copy_190 : decode cX12_copy 190 = .ok (.iload 6, 2) := by decide +kernel
theorem dX12_copy_192 : decode cX12_copy 192 = .ok (.ifCond .lt 49, 3) := by decide +kernel
theorem dX12_copy_195 : decode cX12_copy 195 = .ok (.iload_n 1, 1) := by decide +kernel
theorem dX12_copy_196 : decode cX12_copy 196 = .ok (.iload_n 3, 1) := by decide +kernel
theorem dX12_copy_197 : decode cX12_copy 197 = .ok (.if_icmp .ne 44, 3) := by decide +kernel
theorem dX12_copy_200 : decode cX12_copy 200 = .ok (.iload_n 2, 1) := by decide +kernel
theorem dX12_copy_201 : decode cX12_copy 201 = .ok (.iload 4, 2) := by decide +kernel
theorem dX12_copy_203 : decode cX12_copy 203 = .ok (.if_icmp .ge 38, 3) := by decide +kernel
theorem dX12_copy_206 : decode cX12_copy 206 = .ok (.aload_n 0, 1) := by decide +kernel
theorem dX12_copy_207 : decode cX12_copy 207 = .ok (.getfield 69, 3) := by decide +kernel
theorem dX12_copy_210 : decode cX12_copy 210 = .ok (.bipush 100, 2) := by decide +kernel
theorem dX12_copy_212 : decode cX12_copy 212 = .ok (.iload_n 3, 1) := by decide +kernel
theorem dX12_copy_213 : decode cX12_copy 213 = .ok (.imul, 1) := by decide +kernel
theorem dX12_copy_214 : decode cX12_copy 214 = .ok (.iload 4, 2) := by decide +kernel
theorem dX12_copy_216 : decode cX12_copy 216 = .ok (.iadd, 1) := by decide +kernel
theorem dX12_copy_217 : decode cX12_copy 217 = .ok (.iload 6, 2) := by decide +kernel
theorem dX12_copy_219 : decode cX12_copy 219 = .ok (.iadd, 1) := by decide +kernel
theorem dX12_copy_220 : decode cX12_copy 220 = .ok (.aload_n 0, 1) := by decide +kernel
theorem dX12_copy_221 : decode cX12_copy 221 = .ok (.getfield 69, 3) := by decide +kernel
theorem dX12_copy_224 : decode cX12_copy 224 = .ok (.bipush 100, 2) := by decide +kernel
theorem dX12_copy_226 : decode cX12_copy 226 = .ok (.iload_n 1, 1) := by decide +kernel
theorem dX12_copy_227 : decode cX12_copy 227 = .ok (.imul, 1) := by decide +kernel
theorem dX12_copy_228 : decode cX12_copy 228 = .ok (.iload_n 2, 1) := by decide +kernel
theorem dX12_copy_229 : decode cX12_copy 229 = .ok (.iadd, 1) := by decide +kernel
theorem dX12_copy_230 : decode cX12_copy 230 = .ok (.iload 6, 2) := by decide +kernel
theorem dX12_copy_232 : decode cX12_copy 232 = .ok (.iadd, 1) := by decide +kernel
theorem dX12_copy_233 : decode cX12_copy 233 = .ok (.laload, 1) := by decide +kernel
theorem dX12_copy_234 : decode cX12_copy 234 = .ok (.lastore, 1) := by decide +kernel
theorem dX12_copy_235 : decode cX12_copy 235 = .ok (.iinc 6 (-1), 3) := by decide +kernel
theorem dX12_copy_238 : decode cX12_copy 238 = .ok (.goto (-48), 3) := by decide +kernel
theorem dX12_copy_241 : decode cX12_copy 241 = .ok (.iload 5, 2) := by decide +kernel
theorem dX12_copy_243 : decode cX12_copy 243 = .ok (.ireturn, 1) := by decide +kernel
theorem dX12_crackedMany_0 : decode cX12_crackedMany 0 = .ok (.iconst 0, 1) := by decide +kernel
theorem dX12_crackedMany_1 : decode cX12_crackedMany 1 = .ok (.istore_n 1, 1) := by decide +kernel
theorem dX12_crackedMany_2 : decode cX12_crackedMany 2 = .ok (.iconst 0, 1) := by decide +kernel
theorem dX12_crackedMany_3 : decode cX12_crackedMany 3 = .ok (.istore_n 2, 1) := by decide +kernel
theorem dX12_crackedMany_4 : decode cX12_crackedMany 4 = .ok (.iload_n 2, 1) := by decide +kernel
theorem dX12_crackedMany_5 : decode cX12_crackedMany 5 = .ok (.bipush 100, 2) := by decide +kernel
theorem dX12_crackedMany_7 : decode cX12_crackedMany 7 = .ok (.if_icmp .ge 19, 3) := by decide +kernel
theorem dX12_crackedMany_10 : decode cX12_crackedMany 10 = .ok (.iload_n 1, 1) := by decide +kernel
theorem dX12_crackedMany_11 : decode cX12_crackedMany 11 = .ok (.aload_n 0, 1) := by decide +kernel
theorem dX12_crackedMany_12 : decode cX12_crackedMany 12 = .ok (.iload_n 2, 1) := by decide +kernel
theorem dX12_crackedMany_13 : decode cX12_crackedMany 13 = .ok (.bipush 13, 2) := by decide +kernel
theorem dX12_crackedMany_15 : decode cX12_crackedMany 15 = .ok (.invokevirtual 117, 3) := by decide +kernel
theorem dX12_crackedMany_18 : decode cX12_crackedMany 18 = .ok (.iadd, 1) := by decide +kernel
theorem dX12_crackedMany_19 : decode cX12_crackedMany 19 = .ok (.istore_n 1, 1) := by decide +kernel
theorem dX12_crackedMany_20 : decode cX12_crackedMany 20 = .ok (.iinc 2 1, 3) := by decide +kernel
theorem dX12_crackedMany_23 : decode cX12_crackedMany 23 = .ok (.goto (-19), 3) := by decide +kernel
theorem dX12_crackedMany_26 : decode cX12_crackedMany 26 = .ok (.iload_n 1, 1) := by decide +kernel
theorem dX12_crackedMany_27 : decode cX12_crackedMany 27 = .ok (.ireturn, 1) := by decide +kernel
theorem dX12_heldIn_0 : decode cX12_heldIn 0 = .ok (.iconst 0, 1) := by decide +kernel
theorem dX12_heldIn_1 : decode cX12_heldIn 1 = .ok (.istore 4, 2) := by decide +kernel
theorem dX12_heldIn_3 : decode cX12_heldIn 3 = .ok (.iconst 0, 1) := by decide +kernel
theorem dX12_heldIn_4 : decode cX12_heldIn 4 = .ok (.istore 5, 2) := by decide +kernel
theorem dX12_heldIn_6 : decode cX12_heldIn 6 = .ok (.iload 5, 2) := by decide +kernel
theorem dX12_heldIn_8 : decode cX12_heldIn 8 = .ok (.bipush 100, 2) := by decide +kernel
theorem dX12_heldIn_10 : decode cX12_heldIn 10 = .ok (.if_icmp .ge 37, 3) := by decide +kernel
theorem dX12_heldIn_13 : decode cX12_heldIn 13 = .ok (.iload 4, 2) := by decide +kernel
theorem dX12_heldIn_15 : decode cX12_heldIn 15 = .ok (.aload_n 0, 1) := by decide +kernel
theorem dX12_heldIn_16 : decode cX12_heldIn 16 = .ok (.iload 5, 2) := by decide +kernel
theorem dX12_heldIn_18 : decode cX12_heldIn 18 = .ok (.iload_n 1, 1) := by decide +kernel
theorem dX12_heldIn_19 : decode cX12_heldIn 19 = .ok (.invokevirtual 117, 3) := by decide +kernel
theorem dX12_heldIn_22 : decode cX12_heldIn 22 = .ok (.aload_n 0, 1) := by decide +kernel
theorem dX12_heldIn_23 : decode cX12_heldIn 23 = .ok (.iload 5, 2) := by decide +kernel
theorem dX12_heldIn_25 : decode cX12_heldIn 25 = .ok (.iload_n 2, 1) := by decide +kernel
theorem dX12_heldIn_26 : decode cX12_heldIn 26 = .ok (.invokevirtual 117, 3) := by decide +kernel
theorem dX12_heldIn_29 : decode cX12_heldIn 29 = .ok (.iadd, 1) := by decide +kernel
theorem dX12_heldIn_30 : decode cX12_heldIn 30 = .ok (.aload_n 0, 1) := by decide +kernel
theorem dX12_heldIn_31 : decode cX12_heldIn 31 = .ok (.iload 5, 2) := by decide +kernel
theorem dX12_heldIn_33 : decode cX12_heldIn 33 = .ok (.iload_n 3, 1) := by decide +kernel
theorem dX12_heldIn_34 : decode cX12_heldIn 34 = .ok (.invokevirtual 226, 3) := by decide +kernel
theorem dX12_heldIn_37 : decode cX12_heldIn 37 = .ok (.iadd, 1) := by decide +kernel
theorem dX12_heldIn_38 : decode cX12_heldIn 38 = .ok (.iadd, 1) := by decide +kernel
theorem dX12_heldIn_39 : decode cX12_heldIn 39 = .ok (.istore 4, 2) := by decide +kernel
theorem dX12_heldIn_41 : decode cX12_heldIn 41 = .ok (.iinc 5 1, 3) := by decide +kernel
theorem dX12_heldIn_44 : decode cX12_heldIn 44 = .ok (.goto (-38), 3) := by decide +kernel
theorem dX12_heldIn_47 : decode cX12_heldIn 47 = .ok (.iload 4, 2) := by decide +kernel
theorem dX12_heldIn_49 : decode cX12_heldIn 49 = .ok (.ireturn, 1) := by decide +kernel
theorem dX12_count_0 : decode cX12_count 0 = .ok (.aload_n 0, 1) := by decide +kernel
theorem dX12_count_1 : decode cX12_count 1 = .ok (.iconst 0, 1) := by decide +kernel
theorem dX12_count_2 : decode cX12_count 2 = .ok (.putfield 1, 3) := by decide +kernel
theorem dX12_count_5 : decode cX12_count 5 = .ok (.iload_n 1, 1) := by decide +kernel
theorem dX12_count_6 : decode cX12_count 6 = .ok (.tableswitch 222 0 18 #[90, 96, 102, 109, 116, 123, 130, 137, 148, 159, 165, 172, 179, 186, 191, 198, 205, 210, 217], 90) := by decide +kernel
theorem dX12_count_96 : decode cX12_count 96 = .ok (.aload_n 0, 1) := by decide +kernel
theorem dX12_count_97 : decode cX12_count 97 = .ok (.iconst 0, 1) := by decide +kernel
theorem dX12_count_98 : decode cX12_count 98 = .ok (.invokevirtual 101, 3) := by decide +kernel
theorem dX12_count_101 : decode cX12_count 101 = .ok (.ireturn, 1) := by decide +kernel
theorem dX12_count_102 : decode cX12_count 102 = .ok (.aload_n 0, 1) := by decide +kernel
theorem dX12_count_103 : decode cX12_count 103 = .ok (.iconst 5, 1) := by decide +kernel
theorem dX12_count_104 : decode cX12_count 104 = .ok (.invokevirtual 101, 3) := by decide +kernel
theorem dX12_count_107 : decode cX12_count 107 = .ok (.ireturn, 1) := by decide +kernel
theorem dX12_count_108 : decode cX12_count 108 = .ok (.aload_n 0, 1) := by decide +kernel
theorem dX12_count_109 : decode cX12_count 109 = .ok (.bipush 6, 2) := by decide +kernel
theorem dX12_count_111 : decode cX12_count 111 = .ok (.invokevirtual 101, 3) := by decide +kernel
theorem dX12_count_114 : decode cX12_count 114 = .ok (.ireturn, 1) := by decide +kernel
theorem dX12_count_115 : decode cX12_count 115 = .ok (.aload_n 0, 1) := by decide +kernel
theorem dX12_count_116 : decode cX12_count 116 = .ok (.bipush 7, 2) := by decide +kernel
theorem dX12_count_118 : decode cX12_count 118 = .ok (.invokevirtual 101, 3) := by decide +kernel
theorem dX12_count_121 : decode cX12_count 121 = .ok (.ireturn, 1) := by decide +kernel
theorem dX12_count_122 : decode cX12_count 122 = .ok (.aload_n 0, 1) := by decide +kernel
theorem dX12_count_123 : decode cX12_count 123 = .ok (.bipush 8, 2) := by decide +kernel
theorem dX12_count_125 : decode cX12_count 125 = .ok (.invokevirtual 101, 3) := by decide +kernel
theorem dX12_count_128 : decode cX12_count 128 = .ok (.ireturn, 1) := by decide +kernel
theorem dX12_count_129 : decode cX12_count 129 = .ok (.aload_n 0, 1) := by decide +kernel
theorem dX12_count_130 : decode cX12_count 130 = .ok (.bipush 9, 2) := by decide +kernel
theorem dX12_count_132 : decode cX12_count 132 = .ok (.invokevirtual 101, 3) := by decide +kernel
theorem dX12_count_135 : decode cX12_count 135 = .ok (.ireturn, 1) := by decide +kernel
theorem dX12_count_136 : decode cX12_count 136 = .ok (.aload_n 0, 1) := by decide +kernel
theorem dX12_count_137 : decode cX12_count 137 = .ok (.bipush 10, 2) := by decide +kernel
theorem dX12_count_139 : decode cX12_count 139 = .ok (.invokevirtual 101, 3) := by decide +kernel
theorem dX12_count_142 : decode cX12_count 142 = .ok (.ireturn, 1) := by decide +kernel
theorem dX12_count_143 : decode cX12_count 143 = .ok (.aload_n 0, 1) := by decide +kernel
theorem dX12_count_144 : decode cX12_count 144 = .ok (.bipush 9, 2) := by decide +kernel
theorem dX12_count_146 : decode cX12_count 146 = .ok (.bipush 11, 2) := by decide +kernel
theorem dX12_count_148 : decode cX12_count 148 = .ok (.bipush 8, 2) := by decide +kernel
theorem dX12_count_150 : decode cX12_count 150 = .ok (.invokevirtual 364, 3) := by decide +kernel
theorem dX12_count_153 : decode cX12_count 153 = .ok (.ireturn, 1) := by decide +kernel
theorem dX12_count_154 : decode cX12_count 154 = .ok (.aload_n 0, 1) := by decide +kernel
theorem dX12_count_155 : decode cX12_count 155 = .ok (.bipush 10, 2) := by decide +kernel
theorem dX12_count_157 : decode cX12_count 157 = .ok (.bipush 12, 2) := by decide +kernel
theorem dX12_count_159 : decode cX12_count 159 = .ok (.bipush 9, 2) := by decide +kernel
theorem dX12_count_161 : decode cX12_count 161 = .ok (.invokevirtual 364, 3) := by decide +kernel
theorem dX12_count_164 : decode cX12_count 164 = .ok (.ireturn, 1) := by decide +kernel
theorem dX12_count_165 : decode cX12_count 165 = .ok (.aload_n 0, 1) := by decide +kernel
theorem dX12_count_166 : decode cX12_count 166 = .ok (.iconst 1, 1) := by decide +kernel
theorem dX12_count_167 : decode cX12_count 167 = .ok (.invokevirtual 101, 3) := by decide +kernel
theorem dX12_count_170 : decode cX12_count 170 = .ok (.ireturn, 1) := by decide +kernel
theorem dX12_count_171 : decode cX12_count 171 = .ok (.aload_n 0, 1) := by decide +kernel
theorem dX12_count_172 : decode cX12_count 172 = .ok (.bipush 11, 2) := by decide +kernel
theorem dX12_count_174 : decode cX12_count 174 = .ok (.invokevirtual 101, 3) := by decide +kernel
theorem dX12_count_177 : decode cX12_count 177 = .ok (.ireturn, 1) := by decide +kernel
theorem dX12_count_178 : decode cX12_count 178 = .ok (.aload_n 0, 1) := by decide +kernel
theorem dX12_count_179 : decode cX12_count 179 = .ok (.bipush 12, 2) := by decide +kernel
theorem dX12_count_181 : decode cX12_count 181 = .ok (.invokevirtual 101, 3) := by decide +kernel
theorem dX12_count_184 : decode cX12_count 184 = .ok (.ireturn, 1) := by decide +kernel
theorem dX12_count_185 : decode cX12_count 185 = .ok (.aload_n 0, 1) := by decide +kernel
theorem dX12_count_186 : decode cX12_count 186 = .ok (.bipush 13, 2) := by decide +kernel
theorem dX12_count_188 : decode cX12_count 188 = .ok (.invokevirtual 101, 3) := by decide +kernel
theorem dX12_count_191 : decode cX12_count 191 = .ok (.ireturn, 1) := by decide +kernel
theorem dX12_count_192 : decode cX12_count 192 = .ok (.aload_n 0, 1) := by decide +kernel
theorem dX12_count_193 : decode cX12_count 193 = .ok (.invokevirtual 367, 3) := by decide +kernel
theorem dX12_count_196 : decode cX12_count 196 = .ok (.ireturn, 1) := by decide +kernel
theorem dX12_count_197 : decode cX12_count 197 = .ok (.aload_n 0, 1) := by decide +kernel
theorem dX12_count_198 : decode cX12_count 198 = .ok (.bipush 14, 2) := by decide +kernel
theorem dX12_count_200 : decode cX12_count 200 = .ok (.invokevirtual 101, 3) := by decide +kernel
theorem dX12_count_203 : decode cX12_count 203 = .ok (.ireturn, 1) := by decide +kernel
theorem dX12_count_204 : decode cX12_count 204 = .ok (.aload_n 0, 1) := by decide +kernel
theorem dX12_count_205 : decode cX12_count 205 = .ok (.bipush 15, 2) := by decide +kernel
theorem dX12_count_207 : decode cX12_count 207 = .ok (.invokevirtual 101, 3) := by decide +kernel
theorem dX12_count_210 : decode cX12_count 210 = .ok (.ireturn, 1) := by decide +kernel
theorem dX12_count_211 : decode cX12_count 211 = .ok (.aload_n 0, 1) := by decide +kernel
theorem dX12_count_212 : decode cX12_count 212 = .ok (.getfield 79, 3) := by decide +kernel
theorem dX12_count_215 : decode cX12_count 215 = .ok (.ireturn, 1) := by decide +kernel
theorem dX12_count_216 : decode cX12_count 216 = .ok (.aload_n 0, 1) := by decide +kernel
theorem dX12_count_217 : decode cX12_count 217 = .ok (.bipush 16, 2) := by decide +kernel
theorem dX12_count_219 : decode cX12_count 219 = .ok (.invokevirtual 101, 3) := by decide +kernel
theorem dX12_count_222 : decode cX12_count 222 = .ok (.ireturn, 1) := by decide +kernel
theorem dX12_count_223 : decode cX12_count 223 = .ok (.aload_n 0, 1) := by decide +kernel
theorem dX12_count_224 : decode cX12_count 224 = .ok (.getfield 88, 3) := by decide +kernel
theorem dX12_count_227 : decode cX12_count 227 = .ok (.ireturn, 1) := by decide +kernel
theorem dX12_count_228 : decode cX12_count 228 = .ok (.iconst (-1), 1) := by decide +kernel
theorem dX12_count_229 : decode cX12_count 229 = .ok (.ireturn, 1) := by decide +kernel
theorem dX12_telling_0 : decode cX12_telling 0 = .ok (.iconst (-1), 1) := by decide +kernel
theorem dX12_telling_1 : decode cX12_telling 1 = .ok (.istore_n 3, 1) := by decide +kernel
theorem dX12_telling_2 : decode cX12_telling 2 = .ok (.iconst 0, 1) := by decide +kernel
theorem dX12_telling_3 : decode cX12_telling 3 = .ok (.istore 4, 2) := by decide +kernel
theorem dX12_telling_5 : decode cX12_telling 5 = .ok (.iload 4, 2) := by decide +kernel
theorem dX12_telling_7 : decode cX12_telling 7 = .ok (.aload_n 0, 1) := by decide +kernel
theorem dX12_telling_8 : decode cX12_telling 8 = .ok (.bipush 16, 2) := by decide +kernel
theorem dX12_telling_10 : decode cX12_telling 10 = .ok (.invokevirtual 101, 3) := by decide +kernel
theorem dX12_telling_13 : decode cX12_telling 13 = .ok (.if_icmp .ge 54, 3) := by decide +kernel
theorem dX12_telling_16 : decode cX12_telling 16 = .ok (.aload_n 0, 1) := by decide +kernel
theorem dX12_telling_17 : decode cX12_telling 17 = .ok (.getfield 13, 3) := by decide +kernel
theorem dX12_telling_20 : decode cX12_telling 20 = .ok (.sipush 2500, 3) := by decide +kernel
theorem dX12_telling_23 : decode cX12_telling 23 = .ok (.iconst 4, 1) := by decide +kernel
theorem dX12_telling_24 : decode cX12_telling 24 = .ok (.iload 4, 2) := by decide +kernel
theorem dX12_telling_26 : decode cX12_telling 26 = .ok (.imul, 1) := by decide +kernel
theorem dX12_telling_27 : decode cX12_telling 27 = .ok (.iadd, 1) := by decide +kernel
theorem dX12_telling_28 : decode cX12_telling 28 = .ok (.iaload, 1) := by decide +kernel
theorem dX12_telling_29 : decode cX12_telling 29 = .ok (.iload_n 1, 1) := by decide +kernel
theorem dX12_telling_30 : decode cX12_telling 30 = .ok (.if_icmp .ne 31, 3) := by decide +kernel
theorem dX12_telling_33 : decode cX12_telling 33 = .ok (.aload_n 0, 1) := by decide +kernel
theorem dX12_telling_34 : decode cX12_telling 34 = .ok (.getfield 13, 3) := by decide +kernel
theorem dX12_telling_37 : decode cX12_telling 37 = .ok (.sipush 2500, 3) := by decide +kernel
theorem dX12_telling_40 : decode cX12_telling 40 = .ok (.iconst 4, 1) := by decide +kernel
theorem dX12_telling_41 : decode cX12_telling 41 = .ok (.iload 4, 2) := by decide +kernel
theorem dX12_telling_43 : decode cX12_telling 43 = .ok (.imul, 1) := by decide +kernel
theorem dX12_telling_44 : decode cX12_telling 44 = .ok (.iadd, 1) := by decide +kernel
theorem dX12_telling_45 : decode cX12_telling 45 = .ok (.iconst 3, 1) := by decide +kernel
theorem dX12_telling_46 : decode cX12_telling 46 = .ok (.iadd, 1) := by decide +kernel
theorem dX12_telling_47 : decode cX12_telling 47 = .ok (.iaload, 1) := by decide +kernel
theorem dX12_telling_48 : decode cX12_telling 48 = .ok (.iload_n 2, 1) := by decide +kernel
theorem dX12_telling_49 : decode cX12_telling 49 = .ok (.if_icmp .gt 12, 3) := by decide +kernel
theorem dX12_telling_52 : decode cX12_telling 52 = .ok (.sipush 2500, 3) := by decide +kernel
theorem dX12_telling_55 : decode cX12_telling 55 = .ok (.iconst 4, 1) := by decide +kernel
theorem dX12_telling_56 : decode cX12_telling 56 = .ok (.iload 4, 2) := by decide +kernel
theorem dX12_telling_58 : decode cX12_telling 58 = .ok (.imul, 1) := by decide +kernel
theorem dX12_telling_59 : decode cX12_telling 59 = .ok (.iadd, 1) := by decide +kernel
theorem dX12_telling_60 : decode cX12_telling 60 = .ok (.istore_n 3, 1) := by decide +kernel
theorem dX12_telling_61 : decode cX12_telling 61 = .ok (.iinc 4 1, 3) := by decide +kernel
theorem dX12_telling_64 : decode cX12_telling 64 = .ok (.goto (-59), 3) := by decide +kernel
theorem dX12_telling_67 : decode cX12_telling 67 = .ok (.iload_n 3, 1) := by decide +kernel
theorem dX12_telling_68 : decode cX12_telling 68 = .ok (.ireturn, 1) := by decide +kernel
theorem dX12_cross_0 : decode cX12_cross 0 = .ok (.aload_n 0, 1) := by decide +kernel
theorem dX12_cross_1 : decode cX12_cross 1 = .ok (.iconst 0, 1) := by decide +kernel
theorem dX12_cross_2 : decode cX12_cross 2 = .ok (.putfield 1, 3) := by decide +kernel
theorem dX12_cross_5 : decode cX12_cross 5 = .ok (.aload_n 0, 1) := by decide +kernel
theorem dX12_cross_6 : decode cX12_cross 6 = .ok (.iload_n 1, 1) := by decide +kernel
theorem dX12_cross_7 : decode cX12_cross 7 = .ok (.iload_n 2, 1) := by decide +kernel
theorem dX12_cross_8 : decode cX12_cross 8 = .ok (.invokevirtual 201, 3) := by decide +kernel
theorem dX12_cross_11 : decode cX12_cross 11 = .ok (.ifCond .eq 15, 3) := by decide +kernel
theorem dX12_cross_14 : decode cX12_cross 14 = .ok (.iload_n 3, 1) := by decide +kernel
theorem dX12_cross_15 : decode cX12_cross 15 = .ok (.i2l, 1) := by decide +kernel
theorem dX12_cross_16 : decode cX12_cross 16 = .ok (.lconst 0, 1) := by decide +kernel
theorem dX12_cross_17 : decode cX12_cross 17 = .ok (.ldc2_w 170, 3) := by decide +kernel
theorem dX12_cross_20 : decode cX12_cross 20 = .ok (.invokestatic 93, 3) := by decide +kernel
theorem dX12_cross_23 : decode cX12_cross 23 = .ok (.ifCond .ne 5, 3) := by decide +kernel
theorem dX12_cross_26 : decode cX12_cross 26 = .ok (.iconst (-1), 1) := by decide +kernel
theorem dX12_cross_27 : decode cX12_cross 27 = .ok (.ireturn, 1) := by decide +kernel
theorem dX12_cross_28 : decode cX12_cross 28 = .ok (.aload_n 0, 1) := by decide +kernel
theorem dX12_cross_29 : decode cX12_cross 29 = .ok (.iload_n 1, 1) := by decide +kernel
theorem dX12_cross_30 : decode cX12_cross 30 = .ok (.iload_n 2, 1) := by decide +kernel
theorem dX12_cross_31 : decode cX12_cross 31 = .ok (.invokevirtual 185, 3) := by decide +kernel
theorem dX12_cross_34 : decode cX12_cross 34 = .ok (.istore 4, 2) := by decide +kernel
theorem dX12_cross_36 : decode cX12_cross 36 = .ok (.aload_n 0, 1) := by decide +kernel
theorem dX12_cross_37 : decode cX12_cross 37 = .ok (.aload_n 0, 1) := by decide +kernel
theorem dX12_cross_38 : decode cX12_cross 38 = .ok (.getfield 13, 3) := by decide +kernel
theorem dX12_cross_41 : decode cX12_cross 41 = .ok (.iload 4, 2) := by decide +kernel
theorem dX12_cross_43 : decode cX12_cross 43 = .ok (.iconst 0, 1) := by decide +kernel
theorem dX12_cross_44 : decode cX12_cross 44 = .ok (.iadd, 1) := by decide +kernel
theorem dX12_cross_45 : decode cX12_cross 45 = .ok (.iaload, 1) := by decide +kernel
theorem dX12_cross_46 : decode cX12_cross 46 = .ok (.iload_n 3, 1) := by decide +kernel
theorem dX12_cross_47 : decode cX12_cross 47 = .ok (.invokevirtual 167, 3) := by decide +kernel
theorem dX12_cross_50 : decode cX12_cross 50 = .ok (.istore 5, 2) := by decide +kernel
theorem dX12_cross_52 : decode cX12_cross 52 = .ok (.iload 5, 2) := by decide +kernel
theorem dX12_cross_54 : decode cX12_cross 54 = .ok (.iconst (-1), 1) := by decide +kernel
theorem dX12_cross_55 : decode cX12_cross 55 = .ok (.if_icmp .eq 16, 3) := by decide +kernel
theorem dX12_cross_58 : decode cX12_cross 58 = .ok (.aload_n 0, 1) := by decide +kernel
theorem dX12_cross_59 : decode cX12_cross 59 = .ok (.getfield 13, 3) := by decide +kernel
theorem dX12_cross_62 : decode cX12_cross 62 = .ok (.iload 5, 2) := by decide +kernel
theorem dX12_cross_64 : decode cX12_cross 64 = .ok (.iconst 1, 1) := by decide +kernel
theorem dX12_cross_65 : decode cX12_cross 65 = .ok (.iadd, 1) := by decide +kernel
theorem dX12_cross_66 : decode cX12_cross 66 = .ok (.iaload, 1) := by decide +kernel
theorem dX12_cross_67 : decode cX12_cross 67 = .ok (.iconst (-1), 1) := by decide +kernel
theorem dX12_cross_68 : decode cX12_cross 68 = .ok (.if_icmp .ne 5, 3) := by decide +kernel
theorem dX12_cross_71 : decode cX12_cross 71 = .ok (.iconst 0, 1) := by decide +kernel
theorem dX12_cross_72 : decode cX12_cross 72 = .ok (.ireturn, 1) := by decide +kernel
theorem dX12_cross_73 : decode cX12_cross 73 = .ok (.aload_n 0, 1) := by decide +kernel
theorem dX12_cross_74 : decode cX12_cross 74 = .ok (.getfield 13, 3) := by decide +kernel
theorem dX12_cross_77 : decode cX12_cross 77 = .ok (.iload 4, 2) := by decide +kernel
theorem dX12_cross_79 : decode cX12_cross 79 = .ok (.iconst 1, 1) := by decide +kernel
theorem dX12_cross_80 : decode cX12_cross 80 = .ok (.iadd, 1) := by decide +kernel
theorem dX12_cross_81 : decode cX12_cross 81 = .ok (.iaload, 1) := by decide +kernel
theorem dX12_cross_82 : decode cX12_cross 82 = .ok (.aload_n 0, 1) := by decide +kernel
theorem dX12_cross_83 : decode cX12_cross 83 = .ok (.getfield 13, 3) := by decide +kernel
theorem dX12_cross_86 : decode cX12_cross 86 = .ok (.iload 5, 2) := by decide +kernel
theorem dX12_cross_88 : decode cX12_cross 88 = .ok (.iconst 2, 1) := by decide +kernel
theorem dX12_cross_89 : decode cX12_cross 89 = .ok (.iadd, 1) := by decide +kernel
theorem dX12_cross_90 : decode cX12_cross 90 = .ok (.iaload, 1) := by decide +kernel
theorem dX12_cross_91 : decode cX12_cross 91 = .ok (.isub, 1) := by decide +kernel
theorem dX12_cross_92 : decode cX12_cross 92 = .ok (.istore 6, 2) := by decide +kernel
theorem dX12_cross_94 : decode cX12_cross 94 = .ok (.iload 6, 2) := by decide +kernel
theorem dX12_cross_96 : decode cX12_cross 96 = .ok (.iconst 3, 1) := by decide +kernel
theorem dX12_cross_97 : decode cX12_cross 97 = .ok (.if_icmp .lt 7, 3) := by decide +kernel
theorem dX12_cross_100 : decode cX12_cross 100 = .ok (.iconst 1, 1) := by decide +kernel
theorem dX12_cross_101 : decode cX12_cross 101 = .ok (.goto 15, 3) := by decide +kernel
theorem dX12_cross_104 : decode cX12_cross 104 = .ok (.iload 6, 2) := by decide +kernel
theorem dX12_cross_106 : decode cX12_cross 106 = .ok (.bipush (-3), 2) := by decide +kernel
theorem dX12_cross_108 : decode cX12_cross 108 = .ok (.if_icmp .gt 7, 3) := by decide +kernel
theorem dX12_cross_111 : decode cX12_cross 111 = .ok (.iconst 2, 1) := by decide +kernel
theorem dX12_cross_112 : decode cX12_cross 112 = .ok (.goto 4, 3) := by decide +kernel
theorem dX12_cross_115 : decode cX12_cross 115 = .ok (.iconst 3, 1) := by decide +kernel
theorem dX12_cross_116 : decode cX12_cross 116 = .ok (.ireturn, 1) := by decide +kernel
theorem dX12_tells_0 : decode cX12_tells 0 = .ok (.sipush 2500, 3) := by decide +kernel
theorem dX12_tells_3 : decode cX12_tells 3 = .ok (.iconst 4, 1) := by decide +kernel
theorem dX12_tells_4 : decode cX12_tells 4 = .ok (.aload_n 0, 1) := by decide +kernel
theorem dX12_tells_5 : decode cX12_tells 5 = .ok (.bipush 16, 2) := by decide +kernel
theorem dX12_tells_7 : decode cX12_tells 7 = .ok (.invokevirtual 101, 3) := by decide +kernel
theorem dX12_tells_10 : decode cX12_tells 10 = .ok (.imul, 1) := by decide +kernel
theorem dX12_tells_11 : decode cX12_tells 11 = .ok (.iadd, 1) := by decide +kernel
theorem dX12_tells_12 : decode cX12_tells 12 = .ok (.istore 4, 2) := by decide +kernel
theorem dX12_tells_14 : decode cX12_tells 14 = .ok (.aload_n 0, 1) := by decide +kernel
theorem dX12_tells_15 : decode cX12_tells 15 = .ok (.getfield 13, 3) := by decide +kernel
theorem dX12_tells_18 : decode cX12_tells 18 = .ok (.iload 4, 2) := by decide +kernel
theorem dX12_tells_20 : decode cX12_tells 20 = .ok (.iload_n 1, 1) := by decide +kernel
theorem dX12_tells_21 : decode cX12_tells 21 = .ok (.iastore, 1) := by decide +kernel
theorem dX12_tells_22 : decode cX12_tells 22 = .ok (.aload_n 0, 1) := by decide +kernel
theorem dX12_tells_23 : decode cX12_tells 23 = .ok (.getfield 13, 3) := by decide +kernel
theorem dX12_tells_26 : decode cX12_tells 26 = .ok (.iload 4, 2) := by decide +kernel
theorem dX12_tells_28 : decode cX12_tells 28 = .ok (.iconst 1, 1) := by decide +kernel
theorem dX12_tells_29 : decode cX12_tells 29 = .ok (.iadd, 1) := by decide +kernel
theorem dX12_tells_30 : decode cX12_tells 30 = .ok (.iload_n 2, 1) := by decide +kernel
theorem dX12_tells_31 : decode cX12_tells 31 = .ok (.iastore, 1) := by decide +kernel
theorem dX12_tells_32 : decode cX12_tells 32 = .ok (.aload_n 0, 1) := by decide +kernel
theorem dX12_tells_33 : decode cX12_tells 33 = .ok (.getfield 13, 3) := by decide +kernel
theorem dX12_tells_36 : decode cX12_tells 36 = .ok (.iload 4, 2) := by decide +kernel
theorem dX12_tells_38 : decode cX12_tells 38 = .ok (.iconst 2, 1) := by decide +kernel
theorem dX12_tells_39 : decode cX12_tells 39 = .ok (.iadd, 1) := by decide +kernel
theorem dX12_tells_40 : decode cX12_tells 40 = .ok (.iload_n 3, 1) := by decide +kernel
theorem dX12_tells_41 : decode cX12_tells 41 = .ok (.iastore, 1) := by decide +kernel
theorem dX12_tells_42 : decode cX12_tells 42 = .ok (.aload_n 0, 1) := by decide +kernel
theorem dX12_tells_43 : decode cX12_tells 43 = .ok (.getfield 13, 3) := by decide +kernel
theorem dX12_tells_46 : decode cX12_tells 46 = .ok (.iload 4, 2) := by decide +kernel
theorem dX12_tells_48 : decode cX12_tells 48 = .ok (.iconst 3, 1) := by decide +kernel
theorem dX12_tells_49 : decode cX12_tells 49 = .ok (.iadd, 1) := by decide +kernel
theorem dX12_tells_50 : decode cX12_tells 50 = .ok (.aload_n 0, 1) := by decide +kernel
theorem dX12_tells_51 : decode cX12_tells 51 = .ok (.invokevirtual 159, 3) := by decide +kernel
theorem dX12_tells_54 : decode cX12_tells 54 = .ok (.iastore, 1) := by decide +kernel
theorem dX12_tells_55 : decode cX12_tells 55 = .ok (.aload_n 0, 1) := by decide +kernel
theorem dX12_tells_56 : decode cX12_tells 56 = .ok (.getfield 13, 3) := by decide +kernel
theorem dX12_tells_59 : decode cX12_tells 59 = .ok (.sipush 4316, 3) := by decide +kernel
theorem dX12_tells_62 : decode cX12_tells 62 = .ok (.dup2, 1) := by decide +kernel
theorem dX12_tells_63 : decode cX12_tells 63 = .ok (.iaload, 1) := by decide +kernel
theorem dX12_tells_64 : decode cX12_tells 64 = .ok (.iconst 1, 1) := by decide +kernel
theorem dX12_tells_65 : decode cX12_tells 65 = .ok (.iadd, 1) := by decide +kernel
theorem dX12_tells_66 : decode cX12_tells 66 = .ok (.iastore, 1) := by decide +kernel
theorem dX12_tells_67 : decode cX12_tells 67 = .ok (.aload_n 0, 1) := by decide +kernel
theorem dX12_tells_68 : decode cX12_tells 68 = .ok (.bipush 16, 2) := by decide +kernel
theorem dX12_tells_70 : decode cX12_tells 70 = .ok (.invokevirtual 101, 3) := by decide +kernel
theorem dX12_tells_73 : decode cX12_tells 73 = .ok (.ireturn, 1) := by decide +kernel
theorem dX12_cut_0 : decode cX12_cut 0 = .ok (.aload_n 0, 1) := by decide +kernel
theorem dX12_cut_1 : decode cX12_cut 1 = .ok (.iconst 0, 1) := by decide +kernel
theorem dX12_cut_2 : decode cX12_cut 2 = .ok (.putfield 1, 3) := by decide +kernel
theorem dX12_cut_5 : decode cX12_cut 5 = .ok (.iload_n 1, 1) := by decide +kernel
theorem dX12_cut_6 : decode cX12_cut 6 = .ok (.invokestatic 105, 3) := by decide +kernel
theorem dX12_cut_9 : decode cX12_cut 9 = .ok (.ifCond .ne 5, 3) := by decide +kernel
theorem dX12_cut_12 : decode cX12_cut 12 = .ok (.iconst (-1), 1) := by decide +kernel
theorem dX12_cut_13 : decode cX12_cut 13 = .ok (.ireturn, 1) := by decide +kernel
theorem dX12_cut_14 : decode cX12_cut 14 = .ok (.aload_n 0, 1) := by decide +kernel
theorem dX12_cut_15 : decode cX12_cut 15 = .ok (.iload_n 1, 1) := by decide +kernel
theorem dX12_cut_16 : decode cX12_cut 16 = .ok (.aload_n 0, 1) := by decide +kernel
theorem dX12_cut_17 : decode cX12_cut 17 = .ok (.invokevirtual 159, 3) := by decide +kernel
theorem dX12_cut_20 : decode cX12_cut 20 = .ok (.invokevirtual 167, 3) := by decide +kernel
theorem dX12_cut_23 : decode cX12_cut 23 = .ok (.istore_n 2, 1) := by decide +kernel
theorem dX12_cut_24 : decode cX12_cut 24 = .ok (.iload_n 2, 1) := by decide +kernel
theorem dX12_cut_25 : decode cX12_cut 25 = .ok (.iconst (-1), 1) := by decide +kernel
theorem dX12_cut_26 : decode cX12_cut 26 = .ok (.if_icmp .eq 41, 3) := by decide +kernel
theorem dX12_cut_29 : decode cX12_cut 29 = .ok (.aload_n 0, 1) := by decide +kernel
theorem dX12_cut_30 : decode cX12_cut 30 = .ok (.getfield 13, 3) := by decide +kernel
theorem dX12_cut_33 : decode cX12_cut 33 = .ok (.iload_n 2, 1) := by decide +kernel
theorem dX12_cut_34 : decode cX12_cut 34 = .ok (.iconst 1, 1) := by decide +kernel
theorem dX12_cut_35 : decode cX12_cut 35 = .ok (.iadd, 1) := by decide +kernel
theorem dX12_cut_36 : decode cX12_cut 36 = .ok (.iaload, 1) := by decide +kernel
theorem dX12_cut_37 : decode cX12_cut 37 = .ok (.aload_n 0, 1) := by decide +kernel
theorem dX12_cut_38 : decode cX12_cut 38 = .ok (.iload_n 1, 1) := by decide +kernel
theorem dX12_cut_39 : decode cX12_cut 39 = .ok (.bipush 6, 2) := by decide +kernel
theorem dX12_cut_41 : decode cX12_cut 41 = .ok (.invokevirtual 117, 3) := by decide +kernel
theorem dX12_cut_44 : decode cX12_cut 44 = .ok (.if_icmp .ne 23, 3) := by decide +kernel
theorem dX12_cut_47 : decode cX12_cut 47 = .ok (.aload_n 0, 1) := by decide +kernel
theorem dX12_cut_48 : decode cX12_cut 48 = .ok (.getfield 13, 3) := by decide +kernel
theorem dX12_cut_51 : decode cX12_cut 51 = .ok (.iload_n 2, 1) := by decide +kernel
theorem dX12_cut_52 : decode cX12_cut 52 = .ok (.iconst 2, 1) := by decide +kernel
theorem dX12_cut_53 : decode cX12_cut 53 = .ok (.iadd, 1) := by decide +kernel
theorem dX12_cut_54 : decode cX12_cut 54 = .ok (.iaload, 1) := by decide +kernel
theorem dX12_cut_55 : decode cX12_cut 55 = .ok (.aload_n 0, 1) := by decide +kernel
theorem dX12_cut_56 : decode cX12_cut 56 = .ok (.iload_n 1, 1) := by decide +kernel
theorem dX12_cut_57 : decode cX12_cut 57 = .ok (.bipush 7, 2) := by decide +kernel
theorem dX12_cut_59 : decode cX12_cut 59 = .ok (.invokevirtual 117, 3) := by decide +kernel
theorem dX12_cut_62 : decode cX12_cut 62 = .ok (.if_icmp .ne 5, 3) := by decide +kernel
theorem dX12_cut_65 : decode cX12_cut 65 = .ok (.iconst 0, 1) := by decide +kernel
theorem dX12_cut_66 : decode cX12_cut 66 = .ok (.ireturn, 1) := by decide +kernel
theorem dX12_cut_67 : decode cX12_cut 67 = .ok (.aload_n 0, 1) := by decide +kernel
theorem dX12_cut_68 : decode cX12_cut 68 = .ok (.bipush 16, 2) := by decide +kernel
theorem dX12_cut_70 : decode cX12_cut 70 = .ok (.invokevirtual 101, 3) := by decide +kernel
theorem dX12_cut_73 : decode cX12_cut 73 = .ok (.sipush 200, 3) := by decide +kernel
theorem dX12_cut_76 : decode cX12_cut 76 = .ok (.if_icmp .ne 6, 3) := by decide +kernel
theorem dX12_cut_79 : decode cX12_cut 79 = .ok (.bipush (-2), 2) := by decide +kernel
theorem dX12_cut_81 : decode cX12_cut 81 = .ok (.ireturn, 1) := by decide +kernel
theorem dX12_cut_82 : decode cX12_cut 82 = .ok (.aload_n 0, 1) := by decide +kernel
theorem dX12_cut_83 : decode cX12_cut 83 = .ok (.iload_n 1, 1) := by decide +kernel
theorem dX12_cut_84 : decode cX12_cut 84 = .ok (.aload_n 0, 1) := by decide +kernel
theorem dX12_cut_85 : decode cX12_cut 85 = .ok (.iload_n 1, 1) := by decide +kernel
theorem dX12_cut_86 : decode cX12_cut 86 = .ok (.bipush 6, 2) := by decide +kernel
theorem dX12_cut_88 : decode cX12_cut 88 = .ok (.invokevirtual 117, 3) := by decide +kernel
theorem dX12_cut_91 : decode cX12_cut 91 = .ok (.aload_n 0, 1) := by decide +kernel
theorem dX12_cut_92 : decode cX12_cut 92 = .ok (.iload_n 1, 1) := by decide +kernel
theorem dX12_cut_93 : decode cX12_cut 93 = .ok (.bipush 7, 2) := by decide +kernel
theorem dX12_cut_95 : decode cX12_cut 95 = .ok (.invokevirtual 117, 3) := by decide +kernel
theorem dX12_cut_98 : decode cX12_cut 98 = .ok (.invokevirtual 163, 3) := by decide +kernel
theorem dX12_cut_101 : decode cX12_cut 101 = .ok (.istore_n 3, 1) := by decide +kernel
theorem dX12_cut_102 : decode cX12_cut 102 = .ok (.iconst 1, 1) := by decide +kernel
theorem dX12_cut_103 : decode cX12_cut 103 = .ok (.ireturn, 1) := by decide +kernel
theorem dX12_cutOff_0 : decode cX12_cutOff 0 = .ok (.aload_n 0, 1) := by decide +kernel
theorem dX12_cutOff_1 : decode cX12_cutOff 1 = .ok (.iconst 0, 1) := by decide +kernel
theorem dX12_cutOff_2 : decode cX12_cutOff 2 = .ok (.putfield 1, 3) := by decide +kernel
theorem dX12_cutOff_5 : decode cX12_cutOff 5 = .ok (.iconst 0, 1) := by decide +kernel
theorem dX12_cutOff_6 : decode cX12_cutOff 6 = .ok (.istore_n 1, 1) := by decide +kernel
theorem dX12_cutOff_7 : decode cX12_cutOff 7 = .ok (.iload_n 1, 1) := by decide +kernel
theorem dX12_cutOff_8 : decode cX12_cutOff 8 = .ok (.bipush 100, 2) := by decide +kernel
theorem dX12_cutOff_10 : decode cX12_cutOff 10 = .ok (.if_icmp .ge 44, 3) := by decide +kernel
theorem dX12_cutOff_13 : decode cX12_cutOff 13 = .ok (.aload_n 0, 1) := by decide +kernel
theorem dX12_cutOff_14 : decode cX12_cutOff 14 = .ok (.getfield 39, 3) := by decide +kernel
theorem dX12_cutOff_17 : decode cX12_cutOff 17 = .ok (.iload_n 1, 1) := by decide +kernel
theorem dX12_cutOff_18 : decode cX12_cutOff 18 = .ok (.aload_n 0, 1) := by decide +kernel
theorem dX12_cutOff_19 : decode cX12_cutOff 19 = .ok (.iload_n 1, 1) := by decide +kernel
theorem dX12_cutOff_20 : decode cX12_cutOff 20 = .ok (.iconst 4, 1) := by decide +kernel
theorem dX12_cutOff_21 : decode cX12_cutOff 21 = .ok (.invokevirtual 117, 3) := by decide +kernel
theorem dX12_cutOff_24 : decode cX12_cutOff 24 = .ok (.ifCond .ne 15, 3) := by decide +kernel
theorem dX12_cutOff_27 : decode cX12_cutOff 27 = .ok (.aload_n 0, 1) := by decide +kernel
theorem dX12_cutOff_28 : decode cX12_cutOff 28 = .ok (.iload_n 1, 1) := by decide +kernel
theorem dX12_cutOff_29 : decode cX12_cutOff 29 = .ok (.invokevirtual 125, 3) := by decide +kernel
theorem dX12_cutOff_32 : decode cX12_cutOff 32 = .ok (.ifCond .ne 7, 3) := by decide +kernel
theorem dX12_cutOff_35 : decode cX12_cutOff 35 = .ok (.iconst 1, 1) := by decide +kernel
theorem dX12_cutOff_36 : decode cX12_cutOff 36 = .ok (.goto 4, 3) := by decide +kernel
theorem dX12_cutOff_39 : decode cX12_cutOff 39 = .ok (.iconst 0, 1) := by decide +kernel
theorem dX12_cutOff_40 : decode cX12_cutOff 40 = .ok (.bastore, 1) := by decide +kernel
theorem dX12_cutOff_41 : decode cX12_cutOff 41 = .ok (.aload_n 0, 1) := by decide +kernel
theorem dX12_cutOff_42 : decode cX12_cutOff 42 = .ok (.getfield 42, 3) := by decide +kernel
theorem dX12_cutOff_45 : decode cX12_cutOff 45 = .ok (.iload_n 1, 1) := by decide +kernel
theorem dX12_cutOff_46 : decode cX12_cutOff 46 = .ok (.iconst 0, 1) := by decide +kernel
theorem dX12_cutOff_47 : decode cX12_cutOff 47 = .ok (.bastore, 1) := by decide +kernel
theorem dX12_cutOff_48 : decode cX12_cutOff 48 = .ok (.iinc 1 1, 3) := by decide +kernel
theorem dX12_cutOff_51 : decode cX12_cutOff 51 = .ok (.goto (-44), 3) := by decide +kernel
theorem dX12_cutOff_54 : decode cX12_cutOff 54 = .ok (.aload_n 0, 1) := by decide +kernel
theorem dX12_cutOff_55 : decode cX12_cutOff 55 = .ok (.getfield 42, 3) := by decide +kernel
theorem dX12_cutOff_58 : decode cX12_cutOff 58 = .ok (.aload_n 0, 1) := by decide +kernel
theorem dX12_cutOff_59 : decode cX12_cutOff 59 = .ok (.iconst 4, 1) := by decide +kernel
theorem dX12_cutOff_60 : decode cX12_cutOff 60 = .ok (.invokevirtual 101, 3) := by decide +kernel
theorem dX12_cutOff_63 : decode cX12_cutOff 63 = .ok (.aload_n 0, 1) := by decide +kernel
theorem dX12_cutOff_64 : decode cX12_cutOff 64 = .ok (.getfield 39, 3) := by decide +kernel
theorem dX12_cutOff_67 : decode cX12_cutOff 67 = .ok (.aload_n 0, 1) := by decide +kernel
theorem dX12_cutOff_68 : decode cX12_cutOff 68 = .ok (.iconst 4, 1) := by decide +kernel
theorem dX12_cutOff_69 : decode cX12_cutOff 69 = .ok (.invokevirtual 101, 3) := by decide +kernel
theorem dX12_cutOff_72 : decode cX12_cutOff 72 = .ok (.baload, 1) := by decide +kernel
theorem dX12_cutOff_73 : decode cX12_cutOff 73 = .ok (.bastore, 1) := by decide +kernel
theorem dX12_cutOff_74 : decode cX12_cutOff 74 = .ok (.iconst 1, 1) := by decide +kernel
theorem dX12_cutOff_75 : decode cX12_cutOff 75 = .ok (.istore_n 1, 1) := by decide +kernel
theorem dX12_cutOff_76 : decode cX12_cutOff 76 = .ok (.iload_n 1, 1) := by decide +kernel
theorem dX12_cutOff_77 : decode cX12_cutOff 77 = .ok (.ifCond .eq 118, 3) := by decide +kernel
theorem dX12_cutOff_80 : decode cX12_cutOff 80 = .ok (.iconst 0, 1) := by decide +kernel
theorem dX12_cutOff_81 : decode cX12_cutOff 81 = .ok (.istore_n 1, 1) := by decide +kernel
theorem dX12_cutOff_82 : decode cX12_cutOff 82 = .ok (.iconst 0, 1) := by decide +kernel
theorem dX12_cutOff_83 : decode cX12_cutOff 83 = .ok (.istore_n 2, 1) := by decide +kernel
theorem dX12_cutOff_84 : decode cX12_cutOff 84 = .ok (.iload_n 2, 1) := by decide +kernel
theorem dX12_cutOff_85 : decode cX12_cutOff 85 = .ok (.bipush 100, 2) := by decide +kernel
theorem dX12_cutOff_87 : decode cX12_cutOff 87 = .ok (.if_icmp .ge 105, 3) := by decide +kernel
theorem dX12_cutOff_90 : decode cX12_cutOff 90 = .ok (.aload_n 0, 1) := by decide +kernel
theorem dX12_cutOff_91 : decode cX12_cutOff 91 = .ok (.getfield 39, 3) := by decide +kernel
theorem dX12_cutOff_94 : decode cX12_cutOff 94 = .ok (.iload_n 2, 1) := by decide +kernel
theorem dX12_cutOff_95 : decode cX12_cutOff 95 = .ok (.baload, 1) := by decide +kernel
theorem dX12_cutOff_96 : decode cX12_cutOff 96 = .ok (.ifCond .eq 90, 3) := by decide +kernel
theorem dX12_cutOff_99 : decode cX12_cutOff 99 = .ok (.aload_n 0, 1) := by decide +kernel
theorem dX12_cutOff_100 : decode cX12_cutOff 100 = .ok (.getfield 42, 3) := by decide +kernel
theorem dX12_cutOff_103 : decode cX12_cutOff 103 = .ok (.iload_n 2, 1) := by decide +kernel
theorem dX12_cutOff_104 : decode cX12_cutOff 104 = .ok (.baload, 1) := by decide +kernel
theorem dX12_cutOff_105 : decode cX12_cutOff 105 = .ok (.ifCond .eq 6, 3) := by decide +kernel
theorem dX12_cutOff_108 : decode cX12_cutOff 108 = .ok (.goto 78, 3) := by decide +kernel
theorem dX12_cutOff_111 : decode cX12_cutOff 111 = .ok (.iconst 0, 1) := by decide +kernel
theorem dX12_cutOff_112 : decode cX12_cutOff 112 = .ok (.istore_n 3, 1) := by decide +kernel
theorem dX12_cutOff_113 : decode cX12_cutOff 113 = .ok (.iload_n 3, 1) := by decide +kernel
theorem dX12_cutOff_114 : decode cX12_cutOff 114 = .ok (.iconst 4, 1) := by decide +kernel
theorem dX12_cutOff_115 : decode cX12_cutOff 115 = .ok (.if_icmp .ge 52, 3) := by decide +kernel
theorem dX12_cutOff_118 : decode cX12_cutOff 118 = .ok (.iload_n 2, 1) := by decide +kernel
theorem dX12_cutOff_119 : decode cX12_cutOff 119 = .ok (.iload_n 3, 1) := by decide +kernel
theorem dX12_cutOff_120 : decode cX12_cutOff 120 = .ok (.invokestatic 173, 3) := by decide +kernel
theorem dX12_cutOff_123 : decode cX12_cutOff 123 = .ok (.istore 4, 2) := by decide +kernel
theorem dX12_cutOff_125 : decode cX12_cutOff 125 = .ok (.aload_n 0, 1) := by decide +kernel
theorem dX12_cutOff_126 : decode cX12_cutOff 126 = .ok (.getfield 42, 3) := by decide +kernel
theorem dX12_cutOff_129 : decode cX12_cutOff 129 = .ok (.iload_n 2, 1) := by decide +kernel
theorem dX12_cutOff_130 : decode cX12_cutOff 130 = .ok (.aload_n 0, 1) := by decide +kernel
theorem dX12_cutOff_131 : decode cX12_cutOff 131 = .ok (.getfield 42, 3) := by decide +kernel
theorem dX12_cutOff_134 : decode cX12_cutOff 134 = .ok (.iload_n 2, 1) := by decide +kernel
theorem dX12_cutOff_135 : decode cX12_cutOff 135 = .ok (.baload, 1) := by decide +kernel
theorem dX12_cutOff_136 : decode cX12_cutOff 136 = .ok (.ifCond .ne 19, 3) := by decide +kernel
theorem dX12_cutOff_139 : decode cX12_cutOff 139 = .ok (.iload 4, 2) := by decide +kernel
theorem dX12_cutOff_141 : decode cX12_cutOff 141 = .ok (.iconst (-1), 1) := by decide +kernel
theorem dX12_cutOff_142 : decode cX12_cutOff 142 = .ok (.if_icmp .eq 17, 3) := by decide +kernel
theorem dX12_cutOff_145 : decode cX12_cutOff 145 = .ok (.aload_n 0, 1) := by decide +kernel
theorem dX12_cutOff_146 : decode cX12_cutOff 146 = .ok (.getfield 42, 3) := by decide +kernel
theorem dX12_cutOff_149 : decode cX12_cutOff 149 = .ok (.iload 4, 2) := by decide +kernel
theorem dX12_cutOff_151 : decode cX12_cutOff 151 = .ok (.baload, 1) := by decide +kernel
theorem dX12_cutOff_152 : decode cX12_cutOff 152 = .ok (.ifCond .eq 7, 3) := by decide +kernel
theorem dX12_cutOff_155 : decode cX12_cutOff 155 = .ok (.iconst 1, 1) := by decide +kernel
theorem dX12_cutOff_156 : decode cX12_cutOff 156 = .ok (.goto 4, 3) := by decide +kernel
theorem dX12_cutOff_159 : decode cX12_cutOff 159 = .ok (.iconst 0, 1) := by decide +kernel
theorem dX12_cutOff_160 : decode cX12_cutOff 160 = .ok (.bastore, 1) := by decide +kernel
theorem dX12_cutOff_161 : decode cX12_cutOff 161 = .ok (.iinc 3 1, 3) := by decide +kernel
theorem dX12_cutOff_164 : decode cX12_cutOff 164 = .ok (.goto (-51), 3) := by decide +kernel
theorem dX12_cutOff_167 : decode cX12_cutOff 167 = .ok (.iload_n 1, 1) := by decide +kernel
theorem dX12_cutOff_168 : decode cX12_cutOff 168 = .ok (.ifCond .ne 12, 3) := by decide +kernel
theorem dX12_cutOff_171 : decode cX12_cutOff 171 = .ok (.aload_n 0, 1) := by decide +kernel
theorem dX12_cutOff_172 : decode cX12_cutOff 172 = .ok (.getfield 42, 3) := by decide +kernel
theorem dX12_cutOff_175 : decode cX12_cutOff 175 = .ok (.iload_n 2, 1) := by decide +kernel
theorem dX12_cutOff_176 : decode cX12_cutOff 176 = .ok (.baload, 1) := by decide +kernel
theorem dX12_cutOff_177 : decode cX12_cutOff 177 = .ok (.ifCond .eq 7, 3) := by decide +kernel
theorem dX12_cutOff_180 : decode cX12_cutOff 180 = .ok (.iconst 1, 1) := by decide +kernel
theorem dX12_cutOff_181 : decode cX12_cutOff 181 = .ok (.goto 4, 3) := by decide +kernel
theorem dX12_cutOff_184 : decode cX12_cutOff 184 = .ok (.iconst 0, 1) := by decide +kernel
theorem dX12_cutOff_185 : decode cX12_cutOff 185 = .ok (.istore_n 1, 1) := by decide +kernel
theorem dX12_cutOff_186 : decode cX12_cutOff 186 = .ok (.iinc 2 1, 3) := by decide +kernel
theorem dX12_cutOff_189 : decode cX12_cutOff 189 = .ok (.goto (-105), 3) := by decide +kernel
theorem dX12_cutOff_192 : decode cX12_cutOff 192 = .ok (.goto (-116), 3) := by decide +kernel
theorem dX12_cutOff_195 : decode cX12_cutOff 195 = .ok (.iconst 0, 1) := by decide +kernel
theorem dX12_cutOff_196 : decode cX12_cutOff 196 = .ok (.istore_n 2, 1) := by decide +kernel
theorem dX12_cutOff_197 : decode cX12_cutOff 197 = .ok (.iconst 0, 1) := by decide +kernel
theorem dX12_cutOff_198 : decode cX12_cutOff 198 = .ok (.istore_n 3, 1) := by decide +kernel
theorem dX12_cutOff_199 : decode cX12_cutOff 199 = .ok (.iload_n 3, 1) := by decide +kernel
theorem dX12_cutOff_200 : decode cX12_cutOff 200 = .ok (.bipush 100, 2) := by decide +kernel
theorem dX12_cutOff_202 : decode cX12_cutOff 202 = .ok (.if_icmp .ge 44, 3) := by decide +kernel
theorem dX12_cutOff_205 : decode cX12_cutOff 205 = .ok (.iload_n 2, 1) := by decide +kernel
theorem dX12_cutOff_206 : decode cX12_cutOff 206 = .ok (.aload_n 0, 1) := by decide +kernel
theorem dX12_cutOff_207 : decode cX12_cutOff 207 = .ok (.iload_n 3, 1) := by decide +kernel
theorem dX12_cutOff_208 : decode cX12_cutOff 208 = .ok (.iconst 2, 1) := by decide +kernel
theorem dX12_cutOff_209 : decode cX12_cutOff 209 = .ok (.invokevirtual 117, 3) := by decide +kernel
theorem dX12_cutOff_212 : decode cX12_cutOff 212 = .ok (.ifCond .le 25, 3) := by decide +kernel
theorem dX12_cutOff_215 : decode cX12_cutOff 215 = .ok (.aload_n 0, 1) := by decide +kernel
theorem dX12_cutOff_216 : decode cX12_cutOff 216 = .ok (.iload_n 3, 1) := by decide +kernel
theorem dX12_cutOff_217 : decode cX12_cutOff 217 = .ok (.iconst 4, 1) := by decide +kernel
theorem dX12_cutOff_218 : decode cX12_cutOff 218 = .ok (.invokevirtual 117, 3) := by decide +kernel
theorem dX12_cutOff_221 : decode cX12_cutOff 221 = .ok (.ifCond .ne 16, 3) := by decide +kernel
theorem dX12_cutOff_224 : decode cX12_cutOff 224 = .ok (.aload_n 0, 1) := by decide +kernel
theorem dX12_cutOff_225 : decode cX12_cutOff 225 = .ok (.getfield 42, 3) := by decide +kernel
theorem dX12_cutOff_228 : decode cX12_cutOff 228 = .ok (.iload_n 3, 1) := by decide +kernel
theorem dX12_cutOff_229 : decode cX12_cutOff 229 = .ok (.baload, 1) := by decide +kernel
theorem dX12_cutOff_230 : decode cX12_cutOff 230 = .ok (.ifCond .ne 7, 3) := by decide +kernel
theorem dX12_cutOff_233 : decode cX12_cutOff 233 = .ok (.iconst 1, 1) := by decide +kernel
theorem dX12_cutOff_234 : decode cX12_cutOff 234 = .ok (.goto 4, 3) := by decide +kernel
theorem dX12_cutOff_237 : decode cX12_cutOff 237 = .ok (.iconst 0, 1) := by decide +kernel
theorem dX12_cutOff_238 : decode cX12_cutOff 238 = .ok (.iadd, 1) := by decide +kernel
theorem dX12_cutOff_239 : decode cX12_cutOff 239 = .ok (.istore_n 2, 1) := by decide +kernel
theorem dX12_cutOff_240 : decode cX12_cutOff 240 = .ok (.iinc 3 1, 3) := by decide +kernel
theorem dX12_cutOff_243 : decode cX12_cutOff 243 = .ok (.goto (-44), 3) := by decide +kernel
theorem dX12_cutOff_246 : decode cX12_cutOff 246 = .ok (.iload_n 2, 1) := by decide +kernel
theorem dX12_cutOff_247 : decode cX12_cutOff 247 = .ok (.ireturn, 1) := by decide +kernel
theorem dX12_gangs_0 : decode cX12_gangs 0 = .ok (.aload_n 0, 1) := by decide +kernel
theorem dX12_gangs_1 : decode cX12_gangs 1 = .ok (.iconst 0, 1) := by decide +kernel
theorem dX12_gangs_2 : decode cX12_gangs 2 = .ok (.putfield 1, 3) := by decide +kernel
theorem dX12_gangs_5 : decode cX12_gangs 5 = .ok (.aload_n 0, 1) := by decide +kernel
theorem dX12_gangs_6 : decode cX12_gangs 6 = .ok (.iload_n 1, 1) := by decide +kernel
theorem dX12_gangs_7 : decode cX12_gangs 7 = .ok (.invokevirtual 188, 3) := by decide +kernel
theorem dX12_gangs_10 : decode cX12_gangs 10 = .ok (.ifCond .eq 15, 3) := by decide +kernel
theorem dX12_gangs_13 : decode cX12_gangs 13 = .ok (.iload_n 2, 1) := by decide +kernel
theorem dX12_gangs_14 : decode cX12_gangs 14 = .ok (.i2l, 1) := by decide +kernel
theorem dX12_gangs_15 : decode cX12_gangs 15 = .ok (.lconst 0, 1) := by decide +kernel
theorem dX12_gangs_16 : decode cX12_gangs 16 = .ok (.ldc2_w 199, 3) := by decide +kernel
theorem dX12_gangs_19 : decode cX12_gangs 19 = .ok (.invokestatic 93, 3) := by decide +kernel
theorem dX12_gangs_22 : decode cX12_gangs 22 = .ok (.ifCond .ne 5, 3) := by decide +kernel
theorem dX12_gangs_25 : decode cX12_gangs 25 = .ok (.iconst (-1), 1) := by decide +kernel
theorem dX12_gangs_26 : decode cX12_gangs 26 = .ok (.ireturn, 1) := by decide +kernel
theorem dX12_gangs_27 : decode cX12_gangs 27 = .ok (.aload_n 0, 1) := by decide +kernel
theorem dX12_gangs_28 : decode cX12_gangs 28 = .ok (.iload_n 1, 1) := by decide +kernel
theorem dX12_gangs_29 : decode cX12_gangs 29 = .ok (.iconst 3, 1) := by decide +kernel
theorem dX12_gangs_30 : decode cX12_gangs 30 = .ok (.invokevirtual 193, 3) := by decide +kernel
theorem dX12_gangs_33 : decode cX12_gangs 33 = .ok (.istore_n 3, 1) := by decide +kernel
theorem dX12_gangs_34 : decode cX12_gangs 34 = .ok (.aload_n 0, 1) := by decide +kernel
theorem dX12_gangs_35 : decode cX12_gangs 35 = .ok (.getfield 13, 3) := by decide +kernel
theorem dX12_gangs_38 : decode cX12_gangs 38 = .ok (.sipush 3300, 3) := by decide +kernel
theorem dX12_gangs_41 : decode cX12_gangs 41 = .ok (.bipush 125, 2) := by decide +kernel
theorem dX12_gangs_43 : decode cX12_gangs 43 = .ok (.iload_n 1, 1) := by decide +kernel
theorem dX12_gangs_44 : decode cX12_gangs 44 = .ok (.imul, 1) := by decide +kernel
theorem dX12_gangs_45 : decode cX12_gangs 45 = .ok (.iadd, 1) := by decide +kernel
theorem dX12_gangs_46 : decode cX12_gangs 46 = .ok (.iconst 3, 1) := by decide +kernel
theorem dX12_gangs_47 : decode cX12_gangs 47 = .ok (.iadd, 1) := by decide +kernel
theorem dX12_gangs_48 : decode cX12_gangs 48 = .ok (.iload_n 2, 1) := by decide +kernel
theorem dX12_gangs_49 : decode cX12_gangs 49 = .ok (.iastore, 1) := by decide +kernel
theorem dX12_gangs_50 : decode cX12_gangs 50 = .ok (.iload_n 3, 1) := by decide +kernel
theorem dX12_gangs_51 : decode cX12_gangs 51 = .ok (.ireturn, 1) := by decide +kernel
theorem dX12_forceOf_0 : decode cX12_forceOf 0 = .ok (.iconst (-1), 1) := by decide +kernel
theorem dX12_forceOf_1 : decode cX12_forceOf 1 = .ok (.istore_n 3, 1) := by decide +kernel
theorem dX12_forceOf_2 : decode cX12_forceOf 2 = .ok (.iconst 0, 1) := by decide +kernel
theorem dX12_forceOf_3 : decode cX12_forceOf 3 = .ok (.istore 4, 2) := by decide +kernel
theorem dX12_forceOf_5 : decode cX12_forceOf 5 = .ok (.iload 4, 2) := by decide +kernel
theorem dX12_forceOf_7 : decode cX12_forceOf 7 = .ok (.aload_n 0, 1) := by decide +kernel
theorem dX12_forceOf_8 : decode cX12_forceOf 8 = .ok (.getfield 79, 3) := by decide +kernel
theorem dX12_forceOf_11 : decode cX12_forceOf 11 = .ok (.if_icmp .ge 55, 3) := by decide +kernel
theorem dX12_forceOf_14 : decode cX12_forceOf 14 = .ok (.aload_n 0, 1) := by decide +kernel
theorem dX12_forceOf_15 : decode cX12_forceOf 15 = .ok (.getfield 45, 3) := by decide +kernel
theorem dX12_forceOf_18 : decode cX12_forceOf 18 = .ok (.iload 4, 2) := by decide +kernel
theorem dX12_forceOf_20 : decode cX12_forceOf 20 = .ok (.iaload, 1) := by decide +kernel
theorem dX12_forceOf_21 : decode cX12_forceOf 21 = .ok (.iload_n 1, 1) := by decide +kernel
theorem dX12_forceOf_22 : decode cX12_forceOf 22 = .ok (.if_icmp .ne 38, 3) := by decide +kernel
theorem dX12_forceOf_25 : decode cX12_forceOf 25 = .ok (.aload_n 0, 1) := by decide +kernel
theorem dX12_forceOf_26 : decode cX12_forceOf 26 = .ok (.getfield 48, 3) := by decide +kernel
theorem dX12_forceOf_29 : decode cX12_forceOf 29 = .ok (.iload 4, 2) := by decide +kernel
theorem dX12_forceOf_31 : decode cX12_forceOf 31 = .ok (.iaload, 1) := by decide +kernel
theorem dX12_forceOf_32 : decode cX12_forceOf 32 = .ok (.iload_n 2, 1) := by decide +kernel
theorem dX12_forceOf_33 : decode cX12_forceOf 33 = .ok (.if_icmp .gt 27, 3) := by decide +kernel
theorem dX12_forceOf_36 : decode cX12_forceOf 36 = .ok (.iload_n 3, 1) := by decide +kernel
theorem dX12_forceOf_37 : decode cX12_forceOf 37 = .ok (.iconst (-1), 1) := by decide +kernel
theorem dX12_forceOf_38 : decode cX12_forceOf 38 = .ok (.if_icmp .eq 19, 3) := by decide +kernel
theorem dX12_forceOf_41 : decode cX12_forceOf 41 = .ok (.aload_n 0, 1) := by decide +kernel
theorem dX12_forceOf_42 : decode cX12_forceOf 42 = .ok (.getfield 48, 3) := by decide +kernel
theorem dX12_forceOf_45 : decode cX12_forceOf 45 = .ok (.iload 4, 2) := by decide +kernel
theorem dX12_forceOf_47 : decode cX12_forceOf 47 = .ok (.iaload, 1) := by decide +kernel
theorem dX12_forceOf_48 : decode cX12_forceOf 48 = .ok (.aload_n 0, 1) := by decide +kernel
theorem dX12_forceOf_49 : decode cX12_forceOf 49 = .ok (.getfield 48, 3) := by decide +kernel
theorem dX12_forceOf_52 : decode cX12_forceOf 52 = .ok (.iload_n 3, 1) := by decide +kernel
theorem dX12_forceOf_53 : decode cX12_forceOf 53 = .ok (.iaload, 1) := by decide +kernel
theorem dX12_forceOf_54 : decode cX12_forceOf 54 = .ok (.if_icmp .lt 6, 3) := by decide +kernel
theorem dX12_forceOf_57 : decode cX12_forceOf 57 = .ok (.iload 4, 2) := by decide +kernel
theorem dX12_forceOf_59 : decode cX12_forceOf 59 = .ok (.istore_n 3, 1) := by decide +kernel
theorem dX12_forceOf_60 : decode cX12_forceOf 60 = .ok (.iinc 4 1, 3) := by decide +kernel
theorem dX12_forceOf_63 : decode cX12_forceOf 63 = .ok (.goto (-58), 3) := by decide +kernel
theorem dX12_forceOf_66 : decode cX12_forceOf 66 = .ok (.iload_n 3, 1) := by decide +kernel
theorem dX12_forceOf_67 : decode cX12_forceOf 67 = .ok (.ireturn, 1) := by decide +kernel
theorem dX12_reads_0 : decode cX12_reads 0 = .ok (.aload_n 0, 1) := by decide +kernel
theorem dX12_reads_1 : decode cX12_reads 1 = .ok (.iconst 0, 1) := by decide +kernel
theorem dX12_reads_2 : decode cX12_reads 2 = .ok (.putfield 279, 3) := by decide +kernel
theorem dX12_reads_5 : decode cX12_reads 5 = .ok (.aload_n 0, 1) := by decide +kernel
theorem dX12_reads_6 : decode cX12_reads 6 = .ok (.iconst 0, 1) := by decide +kernel
theorem dX12_reads_7 : decode cX12_reads 7 = .ok (.putfield 317, 3) := by decide +kernel
theorem dX12_reads_10 : decode cX12_reads 10 = .ok (.aload_n 0, 1) := by decide +kernel
theorem dX12_reads_11 : decode cX12_reads 11 = .ok (.iconst 0, 1) := by decide +kernel
theorem dX12_reads_12 : decode cX12_reads 12 = .ok (.putfield 285, 3) := by decide +kernel
theorem dX12_reads_15 : decode cX12_reads 15 = .ok (.aload_n 0, 1) := by decide +kernel
theorem dX12_reads_16 : decode cX12_reads 16 = .ok (.invokevirtual 327, 3) := by decide +kernel
theorem dX12_reads_19 : decode cX12_reads 19 = .ok (.istore_n 1, 1) := by decide +kernel
theorem dX12_reads_20 : decode cX12_reads 20 = .ok (.aload_n 0, 1) := by decide +kernel
theorem dX12_reads_21 : decode cX12_reads 21 = .ok (.getfield 285, 3) := by decide +kernel
theorem dX12_reads_24 : decode cX12_reads 24 = .ok (.ifCond .ne 19, 3) := by decide +kernel
theorem dX12_reads_27 : decode cX12_reads 27 = .ok (.aload_n 0, 1) := by decide +kernel
theorem dX12_reads_28 : decode cX12_reads 28 = .ok (.getfield 279, 3) := by decide +kernel
theorem dX12_reads_31 : decode cX12_reads 31 = .ok (.aload_n 0, 1) := by decide +kernel
theorem dX12_reads_32 : decode cX12_reads 32 = .ok (.getfield 282, 3) := by decide +kernel
theorem dX12_reads_35 : decode cX12_reads 35 = .ok (.if_icmp .ge 8, 3) := by decide +kernel
theorem dX12_reads_38 : decode cX12_reads 38 = .ok (.aload_n 0, 1) := by decide +kernel
theorem dX12_reads_39 : decode cX12_reads 39 = .ok (.iconst 1, 1) := by decide +kernel
theorem dX12_reads_40 : decode cX12_reads 40 = .ok (.putfield 285, 3) := by decide +kernel
theorem dX12_reads_43 : decode cX12_reads 43 = .ok (.iload_n 1, 1) := by decide +kernel
theorem dX12_reads_44 : decode cX12_reads 44 = .ok (.ireturn, 1) := by decide +kernel
set_option maxHeartbeats 4000000 in
set_option maxRecDepth 100000 in
theorem xX12_isCarrying_2 {K : KT} {w : Wd} {r : Bool} (G : GK K cX12_isCarrying RX12 4 4) (M : Main K.ks) (hr : RI K .boolean (bI r) w) : ∀ (n : Nat) (v1 : Int32) (v2 : Int32), fX12_isCarrying_2 w n v1 v2 = some r → XW K 2 [some (.ref 148), some (.int v1), some (.int v2), none] [] w := by
  intro n
  induction n with
  | zero =>
    intro v1 v2 hf
    unfold fX12_isCarrying_2 at hf
    cases hf
  | succ n ih =>
    intro v1 v2 hf
    unfold fX12_isCarrying_2 at hf
    refine x_iload_n G dX12_isCarrying_2 rfl rfl ?_
    refine x_aload_n G dX12_isCarrying_3 rfl rfl ?_
    refine x_iload_n G dX12_isCarrying_4 rfl rfl ?_
    refine x_iconst G (v := 0) dX12_isCarrying_5 (by decide) ?_
    obtain ⟨v_1, hv_1, hf⟩ := bnd hf
    refine x_virI G (As := [.int v1, .int (0 : Int32)]) (mX12_l G.2.2.2.2.2.2.1 M hv_1) mv_X12_193 (kd148 M) cl12 rfl rfl rfl rfl rfl dX12_isCarrying_6 ?_
    refine x_icmpge G (tgt := 53) dX12_isCarrying_9 (by decide) hf (fun c_2 hf => ?_) (fun c_2 hf => ?_)
    · refine x_aload_n G dX12_isCarrying_12 rfl rfl ?_
      refine x_iload_n G dX12_isCarrying_13 rfl rfl ?_
      refine x_iload_n G dX12_isCarrying_14 rfl rfl ?_
      obtain ⟨v_3, hv_3, hf⟩ := bnd hf
      refine x_virI G (As := [.int v1, .int v2]) (mX12_spot G.2.2.2.2.2.2.1 M hv_3) mv_X12_185 (kd148 M) cl12 rfl rfl rfl rfl rfl dX12_isCarrying_15 ?_
      refine x_istore_n G (lv' := [some (.ref 148), some (.int v1), some (.int v2), some (.int v_3)]) dX12_isCarrying_18 rfl rfl rfl rfl ?_
      refine x_aload_n G dX12_isCarrying_19 rfl rfl ?_
      refine x_getR G (kd148 M) 1 (b := 149) rfl cl12 rfl wf_X12_13 dX12_isCarrying_20 ?_
      refine x_iload_n G dX12_isCarrying_23 rfl rfl ?_
      refine x_iconst G (v := 3) dX12_isCarrying_24 (by decide) ?_
      refine x_iadd G dX12_isCarrying_25 ?_
      refine x_iald G (kd149 M) dX12_isCarrying_26 hf (fun hb_4 hf => ?_)
      refine x_bipush G (v := -9) dX12_isCarrying_27 (by decide) ?_
      refine x_icmpeq G (tgt := 45) dX12_isCarrying_29 (by decide) hf (fun c_5 hf => ?_) (fun c_5 hf => ?_)
      · refine x_iconst G (v := 0) dX12_isCarrying_45 (by decide) ?_
        exact x_zretP G hf hr dX12_isCarrying_46
      · refine x_aload_n G dX12_isCarrying_32 rfl rfl ?_
        refine x_iload_n G dX12_isCarrying_33 rfl rfl ?_
        refine x_iload_n G dX12_isCarrying_34 rfl rfl ?_
        refine x_aload_n G dX12_isCarrying_35 rfl rfl ?_
        obtain ⟨v_6, hv_6, hf⟩ := bnd hf
        refine x_virI G (As := []) (mX12_day G.2.2.2.2.2.2.1 M hv_6) mv_X12_159 (kd148 M) cl12 rfl rfl rfl rfl rfl dX12_isCarrying_36 ?_
        obtain ⟨v_7, hv_7, hf⟩ := bnd hf
        refine x_virI G (As := [.int v1, .int v_3, .int v_6]) (mX12_isBearing G.2.2.2.2.2.2.1 M hv_7) mv_X12_207 (kd148 M) cl12 rfl rfl rfl rfl rfl dX12_isCarrying_39 ?_
        refine x_ifneB G (tgt := 47) dX12_isCarrying_42 (by decide) hf (fun c_8 hf => ?_) (fun c_8 hf => ?_)
        · refine x_iinc G (lv' := [some (.ref 148), some (.int v1), some (.int (v2 + (1 : Int32))), some (.int v_3)]) (v := 1) dX12_isCarrying_47 rfl (by decide) rfl rfl rfl ?_
          refine x_goto G (tgt := 2) dX12_isCarrying_50 (by decide) ?_
          exact XW.sub (lv' := [some (.ref 148), some (.int v1), some (.int (v2 + (1 : Int32))), none]) (And.intro rfl (And.intro rfl (And.intro rfl trivial))) (ih _ _ hf)
        · refine x_iconst G (v := 0) dX12_isCarrying_45 (by decide) ?_
          exact x_zretP G hf hr dX12_isCarrying_46
    · refine x_iconst G (v := 1) dX12_isCarrying_53 (by decide) ?_
      exact x_zretP G hf hr dX12_isCarrying_54

set_option maxHeartbeats 4000000 in
set_option maxRecDepth 100000 in
theorem xX12_isCarrying_e {K : KT} {v1 : Int32} {w : Wd} {r : Bool} (G : GK K cX12_isCarrying RX12 4 4) (M : Main K.ks) (hf : fX12_isCarrying v1 w = some r) (hr : RI K .boolean (bI r) w) : XW K 0 [some (.ref 148), some (.int v1), none, none] [] w := by
  unfold fX12_isCarrying at hf
  refine x_iconst G (v := 0) dX12_isCarrying_0 (by decide) ?_
  refine x_istore_n G (lv' := [some (.ref 148), some (.int v1), some (.int (0 : Int32)), none]) dX12_isCarrying_1 rfl rfl rfl rfl ?_
  exact XW.sub (lv' := [some (.ref 148), some (.int v1), some (.int (0 : Int32)), none]) (And.intro rfl (And.intro rfl (And.intro rfl trivial))) (xX12_isCarrying_2 G M hr FU _ _ hf)

theorem mX12_isCarrying {l : Launch} {S : KS} {w : Wd} (hI : Inj S) (M : Main S) {v1 : Int32} {r : Bool} (hf : fX12_isCarrying v1 w = some r) : CI l yX12_isCarrying cX12_isCarrying 4 (some .boolean) 4 S [.ref 148, .int v1] w (bI r) w := by
  intro sz
  refine mk_entry rfl (by decide +kernel) hI 2 rfl rfl (fun K h1 h2 h3 h4 h5 h6 G => ?_)
  subst h2
  exact xX12_isCarrying_e G M hf ⟨h3, by rw [h4, h6], h5⟩

set_option maxHeartbeats 4000000 in
set_option maxRecDepth 100000 in
theorem xX12_carries_e {K : KT} {v1 : Int32} {w : Wd} {r : Int32 × Wd} (G : GK K cX12_carries RX12 2 5) (M : Main K.ks) (hf : fX12_carries v1 w = some r) (hr : RI K .int r.1 r.2) : XW K 0 [some (.ref 148), some (.int v1)] [] w := by
  unfold fX12_carries at hf
  refine x_aload_n G dX12_carries_0 rfl rfl ?_
  refine x_iconst G (v := 0) dX12_carries_1 (by decide) ?_
  refine x_putI G (kd148 M) 0 rfl cl12 rfl wf_X12_1 rfl rfl rfl dX12_carries_2 ?_
  refine nwr hf (fun w_1 hf => ?_)
  refine x_aload_n G dX12_carries_5 rfl rfl ?_
  refine x_iload_n G dX12_carries_6 rfl rfl ?_
  obtain ⟨v_2, hv_2, hf⟩ := bnd hf
  refine x_virI G (As := [.int v1]) (mX12_isLine G.2.2.2.2.2.2.1 M hv_2) mv_X12_188 (kd148 M) cl12 rfl rfl rfl rfl rfl dX12_carries_7 ?_
  refine x_ifeqB G (tgt := 29) dX12_carries_10 (by decide) hf (fun c_3 hf => ?_) (fun c_3 hf => ?_)
  · refine x_aload_n G dX12_carries_13 rfl rfl ?_
    refine x_iload_n G dX12_carries_14 rfl rfl ?_
    obtain ⟨v_4, hv_4, hf⟩ := bnd hf
    refine x_virI G (As := [.int v1]) (mX12_isCarrying G.2.2.2.2.2.2.1 M hv_4) mv_X12_211 (kd148 M) cl12 rfl rfl rfl rfl rfl dX12_carries_15 ?_
    refine x_ifeqB G (tgt := 25) dX12_carries_18 (by decide) hf (fun c_5 hf => ?_) (fun c_5 hf => ?_)
    · refine x_iconst G (v := 1) dX12_carries_21 (by decide) ?_
      refine x_goto G (tgt := 30) dX12_carries_22 (by decide) ?_
      exact x_iretW G hf hr dX12_carries_30
    · refine x_iconst G (v := 0) dX12_carries_25 (by decide) ?_
      refine x_goto G (tgt := 30) dX12_carries_26 (by decide) ?_
      exact x_iretW G hf hr dX12_carries_30
  · refine x_iconst G (v := -1) dX12_carries_29 (by decide) ?_
    exact x_iretW G hf hr dX12_carries_30

theorem mX12_carries {l : Launch} {S : KS} {w : Wd} (hI : Inj S) (M : Main S) {v1 : Int32} {r : Int32 × Wd} (hf : fX12_carries v1 w = some r) : CI l yX12_carries cX12_carries 2 (some .int) 5 S [.ref 148, .int v1] w r.1 r.2 := by
  intro sz
  refine mk_entry rfl (by decide +kernel) hI 0 rfl rfl (fun K h1 h2 h3 h4 h5 h6 G => ?_)
  subst h2
  exact xX12_carries_e G M hf ⟨h3, by rw [h4, h6], h5⟩

set_option maxHeartbeats 4000000 in
set_option maxRecDepth 100000 in
theorem xX12_clear_e {K : KT} {v1 : Int32} {w : Wd} {r : Int32 × Wd} (G : GK K cX12_clear RX12 3 3) (M : Main K.ks) (hf : fX12_clear v1 w = some r) (hr : RI K .int r.1 r.2) : XW K 0 [some (.ref 148), some (.int v1), none] [] w := by
  unfold fX12_clear at hf
  refine x_aload_n G dX12_clear_0 rfl rfl ?_
  refine x_iconst G (v := 0) dX12_clear_1 (by decide) ?_
  refine x_putI G (kd148 M) 0 rfl cl12 rfl wf_X12_1 rfl rfl rfl dX12_clear_2 ?_
  refine nwr hf (fun w_1 hf => ?_)
  refine x_iload_n G dX12_clear_5 rfl rfl ?_
  obtain ⟨v_2, hv_2, hf⟩ := bnd hf
  refine x_staI G (As := [.int v1]) (mX12_isTape G.2.2.2.2.2.2.1 M hv_2) ms_X12_128 rfl rfl rfl rfl rfl dX12_clear_6 ?_
  refine x_ifneB G (tgt := 14) dX12_clear_9 (by decide) hf (fun c_3 hf => ?_) (fun c_3 hf => ?_)
  · refine x_aload_n G dX12_clear_14 rfl rfl ?_
    refine x_getR G (kd148 M) 29 (b := 165) rfl cl12 rfl wf_X12_63 dX12_clear_15 ?_
    refine x_iload_n G dX12_clear_18 rfl rfl ?_
    refine x_iald G (kd165 M) dX12_clear_19 hf (fun hb_4 hf => ?_)
    refine x_istore_n G (lv' := [some (.ref 148), some (.int v1), some (.int (ri w_1 165 v1))]) dX12_clear_20 rfl rfl rfl rfl ?_
    refine x_aload_n G dX12_clear_21 rfl rfl ?_
    refine x_getR G (kd148 M) 29 (b := 165) rfl cl12 rfl wf_X12_63 dX12_clear_22 ?_
    refine x_iload_n G dX12_clear_25 rfl rfl ?_
    refine x_iconst G (v := 0) dX12_clear_26 (by decide) ?_
    refine x_iast0 G (kd165 M) dX12_clear_27 hb_4 ?_
    refine nwr hf (fun w_5 hf => ?_)
    refine x_aload_n G dX12_clear_28 rfl rfl ?_
    refine x_getR G (kd148 M) 30 (b := 166) rfl cl12 rfl wf_X12_66 dX12_clear_29 ?_
    refine x_iload_n G dX12_clear_32 rfl rfl ?_
    refine x_iconst G (v := 0) dX12_clear_33 (by decide) ?_
    refine x_iast0 G (kd166 M) dX12_clear_34 hb_4 ?_
    refine nwr hf (fun w_6 hf => ?_)
    refine x_iload_n G dX12_clear_35 rfl rfl ?_
    exact x_iretW G hf hr dX12_clear_36
  · refine x_iconst G (v := -1) dX12_clear_12 (by decide) ?_
    exact x_iretW G hf hr dX12_clear_13

theorem mX12_clear {l : Launch} {S : KS} {w : Wd} (hI : Inj S) (M : Main S) {v1 : Int32} {r : Int32 × Wd} (hf : fX12_clear v1 w = some r) : CI l yX12_clear cX12_clear 3 (some .int) 3 S [.ref 148, .int v1] w r.1 r.2 := by
  intro sz
  refine mk_entry rfl (by decide +kernel) hI 1 rfl rfl (fun K h1 h2 h3 h4 h5 h6 G => ?_)
  subst h2
  exact xX12_clear_e G M hf ⟨h3, by rw [h4, h6], h5⟩

set_option maxHeartbeats 4000000 in
set_option maxRecDepth 100000 in
theorem xX12_coal_e {K : KT} {v1 : Int32} {v2 : Int32} {w : Wd} {r : Int32 × Wd} (G : GK K cX12_coal RX12 3 3) (M : Main K.ks) (hf : fX12_coal v1 v2 w = some r) (hr : RI K .int r.1 r.2) : XW K 0 [some (.ref 148), some (.int v1), some (.int v2)] [] w := by
  unfold fX12_coal at hf
  refine x_aload_n G dX12_coal_0 rfl rfl ?_
  refine x_iconst G (v := 0) dX12_coal_1 (by decide) ?_
  refine x_putI G (kd148 M) 0 rfl cl12 rfl wf_X12_1 rfl rfl rfl dX12_coal_2 ?_
  refine nwr hf (fun w_1 hf => ?_)
  refine x_iload_n G dX12_coal_5 rfl rfl ?_
  obtain ⟨v_2, hv_2, hf⟩ := bnd hf
  refine x_staI G (As := [.int v1]) (mX12_isCell G.2.2.2.2.2.2.1 M hv_2) ms_X12_105 rfl rfl rfl rfl rfl dX12_coal_6 ?_
  refine x_ifeqB G (tgt := 34) dX12_coal_9 (by decide) hf (fun c_3 hf => ?_) (fun c_3 hf => ?_)
  · refine x_iload_n G dX12_coal_12 rfl rfl ?_
    refine x_i2l G dX12_coal_13 ?_
    refine x_lconst G (v := 1) dX12_coal_14 (by decide) ?_
    refine x_ldc2 G wl_X12_115 dX12_coal_15 ?_
    obtain ⟨v_4, hv_4, hf⟩ := bnd hf
    refine x_staI G (As := [.long v2.toInt64, .long (1 : Int64), .long (9999 : Int64)]) (mX12_in G.2.2.2.2.2.2.1 M hv_4) ms_X12_93 rfl rfl rfl rfl rfl dX12_coal_18 ?_
    refine x_ifeqB G (tgt := 34) dX12_coal_21 (by decide) hf (fun c_5 hf => ?_) (fun c_5 hf => ?_)
    · refine x_aload_n G dX12_coal_24 rfl rfl ?_
      refine x_iload_n G dX12_coal_25 rfl rfl ?_
      refine x_iconst G (v := 0) dX12_coal_26 (by decide) ?_
      obtain ⟨v_6, hv_6, hf⟩ := bnd hf
      refine x_virI G (As := [.int v1, .int (0 : Int32)]) (mX12_h G.2.2.2.2.2.2.1 M hv_6) mv_X12_226 (kd148 M) cl12 rfl rfl rfl rfl rfl dX12_coal_27 ?_
      refine x_iconst G (v := 1) dX12_coal_30 (by decide) ?_
      refine x_icmpeq G (tgt := 36) dX12_coal_31 (by decide) hf (fun c_7 hf => ?_) (fun c_7 hf => ?_)
      · refine x_aload_n G dX12_coal_36 rfl rfl ?_
        refine x_iload_n G dX12_coal_37 rfl rfl ?_
        refine x_iconst G (v := 3) dX12_coal_38 (by decide) ?_
        obtain ⟨v_8, hv_8, hf⟩ := bnd hf
        refine x_virI G (As := [.int v1, .int (3 : Int32)]) (mX12_h G.2.2.2.2.2.2.1 M hv_8) mv_X12_226 (kd148 M) cl12 rfl rfl rfl rfl rfl dX12_coal_39 ?_
        refine x_iload_n G dX12_coal_42 rfl rfl ?_
        refine x_iadd G dX12_coal_43 ?_
        refine x_ldc G wc_X12_229 dX12_coal_44 ?_
        refine x_icmple G (tgt := 52) dX12_coal_46 (by decide) hf (fun c_9 hf => ?_) (fun c_9 hf => ?_)
        · refine x_bipush G (v := -2) dX12_coal_49 (by decide) ?_
          exact x_iretW G hf hr dX12_coal_51
        · refine x_aload_n G dX12_coal_52 rfl rfl ?_
          refine x_getR G (kd148 M) 1 (b := 149) rfl cl12 rfl wf_X12_13 dX12_coal_53 ?_
          refine x_sipush G (v := 1500) dX12_coal_56 (by decide) ?_
          refine x_bipush G (v := 10) dX12_coal_59 (by decide) ?_
          refine x_iload_n G dX12_coal_61 rfl rfl ?_
          refine x_imul G dX12_coal_62 ?_
          refine x_iadd G dX12_coal_63 ?_
          refine x_iconst G (v := 3) dX12_coal_64 (by decide) ?_
          refine x_iadd G dX12_coal_65 ?_
          refine x_dup2 G dX12_coal_66 rfl rfl ?_
          refine x_iald G (kd149 M) dX12_coal_67 hf (fun hb_10 hf => ?_)
          refine x_iload_n G dX12_coal_68 rfl rfl ?_
          refine x_iadd G dX12_coal_69 ?_
          refine x_iast0 G (kd149 M) dX12_coal_70 hb_10 ?_
          refine nwr hf (fun w_11 hf => ?_)
          refine x_aload_n G dX12_coal_71 rfl rfl ?_
          refine x_iload_n G dX12_coal_72 rfl rfl ?_
          refine x_iconst G (v := 3) dX12_coal_73 (by decide) ?_
          obtain ⟨v_12, hv_12, hf⟩ := bnd hf
          refine x_virI G (As := [.int v1, .int (3 : Int32)]) (mX12_h G.2.2.2.2.2.2.1 M hv_12) mv_X12_226 (kd148 M) cl12 rfl rfl rfl rfl rfl dX12_coal_74 ?_
          exact x_iretW G hf hr dX12_coal_77
      · refine x_iconst G (v := -1) dX12_coal_34 (by decide) ?_
        exact x_iretW G hf hr dX12_coal_35
    · refine x_iconst G (v := -1) dX12_coal_34 (by decide) ?_
      exact x_iretW G hf hr dX12_coal_35
  · refine x_iconst G (v := -1) dX12_coal_34 (by decide) ?_
    exact x_iretW G hf hr dX12_coal_35

theorem mX12_coal {l : Launch} {S : KS} {w : Wd} (hI : Inj S) (M : Main S) {v1 : Int32} {v2 : Int32} {r : Int32 × Wd} (hf : fX12_coal v1 v2 w = some r) : CI l yX12_coal cX12_coal 3 (some .int) 3 S [.ref 148, .int v1, .int v2] w r.1 r.2 := by
  intro sz
  refine mk_entry rfl (by decide +kernel) hI 0 rfl rfl (fun K h1 h2 h3 h4 h5 h6 G => ?_)
  subst h2
  exact xX12_coal_e G M hf ⟨h3, by rw [h4, h6], h5⟩

set_option maxHeartbeats 4000000 in
set_option maxRecDepth 100000 in
theorem xX12_isBack_2 {K : KT} {w : Wd} {r : Bool} (G : GK K cX12_isBack RX12 3 2) (M : Main K.ks) (hr : RI K .boolean (bI r) w) : ∀ (n : Nat) (v1 : Int32) (v2 : Int32), fX12_isBack_2 w n v1 v2 = some r → XW K 2 [some (.ref 148), some (.int v1), some (.int v2)] [] w := by
  intro n
  induction n with
  | zero =>
    intro v1 v2 hf
    unfold fX12_isBack_2 at hf
    cases hf
  | succ n ih =>
    intro v1 v2 hf
    unfold fX12_isBack_2 at hf
    refine x_iload_n G dX12_isBack_2 rfl rfl ?_
    refine x_bipush G (v := 12) dX12_isBack_3 (by decide) ?_
    refine x_icmpgt G (tgt := 31) dX12_isBack_5 (by decide) hf (fun c_1 hf => ?_) (fun c_1 hf => ?_)
    · refine x_iconst G (v := 0) dX12_isBack_31 (by decide) ?_
      exact x_zretP G hf hr dX12_isBack_32
    · refine x_aload_n G dX12_isBack_8 rfl rfl ?_
      refine x_iload_n G dX12_isBack_9 rfl rfl ?_
      obtain ⟨v_2, hv_2, hf⟩ := bnd hf
      refine x_virI G (As := [.int v1]) (mX12_levelAt G.2.2.2.2.2.2.1 M hv_2) mv_X12_138 (kd148 M) cl12 rfl rfl rfl rfl rfl dX12_isBack_10 ?_
      refine x_aload_n G dX12_isBack_13 rfl rfl ?_
      refine x_iload_n G dX12_isBack_14 rfl rfl ?_
      refine x_iload_n G dX12_isBack_15 rfl rfl ?_
      refine x_iadd G dX12_isBack_16 ?_
      obtain ⟨v_3, hv_3, hf⟩ := bnd hf
      refine x_virI G (As := [.int (v1 + v2)]) (mX12_levelAt G.2.2.2.2.2.2.1 M hv_3) mv_X12_138 (kd148 M) cl12 rfl rfl rfl rfl rfl dX12_isBack_17 ?_
      refine x_icmpge G (tgt := 25) dX12_isBack_20 (by decide) hf (fun c_4 hf => ?_) (fun c_4 hf => ?_)
      · refine x_iconst G (v := 1) dX12_isBack_23 (by decide) ?_
        exact x_zretP G hf hr dX12_isBack_24
      · refine x_iinc G (lv' := [some (.ref 148), some (.int v1), some (.int (v2 + (1 : Int32)))]) (v := 1) dX12_isBack_25 rfl (by decide) rfl rfl rfl ?_
        refine x_goto G (tgt := 2) dX12_isBack_28 (by decide) ?_
        exact XW.sub (lv' := [some (.ref 148), some (.int v1), some (.int (v2 + (1 : Int32)))]) (And.intro rfl (And.intro rfl (And.intro rfl trivial))) (ih _ _ hf)

set_option maxHeartbeats 4000000 in
set_option maxRecDepth 100000 in
theorem xX12_isBack_e {K : KT} {v1 : Int32} {w : Wd} {r : Bool} (G : GK K cX12_isBack RX12 3 2) (M : Main K.ks) (hf : fX12_isBack v1 w = some r) (hr : RI K .boolean (bI r) w) : XW K 0 [some (.ref 148), some (.int v1), none] [] w := by
  unfold fX12_isBack at hf
  refine x_iconst G (v := 1) dX12_isBack_0 (by decide) ?_
  refine x_istore_n G (lv' := [some (.ref 148), some (.int v1), some (.int (1 : Int32))]) dX12_isBack_1 rfl rfl rfl rfl ?_
  exact XW.sub (lv' := [some (.ref 148), some (.int v1), some (.int (1 : Int32))]) (And.intro rfl (And.intro rfl (And.intro rfl trivial))) (xX12_isBack_2 G M hr FU _ _ hf)

theorem mX12_isBack {l : Launch} {S : KS} {w : Wd} (hI : Inj S) (M : Main S) {v1 : Int32} {r : Bool} (hf : fX12_isBack v1 w = some r) : CI l yX12_isBack cX12_isBack 3 (some .boolean) 2 S [.ref 148, .int v1] w (bI r) w := by
  intro sz
  refine mk_entry rfl (by decide +kernel) hI 1 rfl rfl (fun K h1 h2 h3 h4 h5 h6 G => ?_)
  subst h2
  exact xX12_isBack_e G M hf ⟨h3, by rw [h4, h6], h5⟩

set_option maxHeartbeats 4000000 in
set_option maxRecDepth 100000 in
theorem xX12_comesBack_e {K : KT} {v1 : Int32} {w : Wd} {r : Int32 × Wd} (G : GK K cX12_comesBack RX12 2 3) (M : Main K.ks) (hf : fX12_comesBack v1 w = some r) (hr : RI K .int r.1 r.2) : XW K 0 [some (.ref 148), some (.int v1)] [] w := by
  unfold fX12_comesBack at hf
  refine x_aload_n G dX12_comesBack_0 rfl rfl ?_
  refine x_iconst G (v := 0) dX12_comesBack_1 (by decide) ?_
  refine x_putI G (kd148 M) 0 rfl cl12 rfl wf_X12_1 rfl rfl rfl dX12_comesBack_2 ?_
  refine nwr hf (fun w_1 hf => ?_)
  refine x_iload_n G dX12_comesBack_5 rfl rfl ?_
  refine x_i2l G dX12_comesBack_6 ?_
  refine x_lconst G (v := 0) dX12_comesBack_7 (by decide) ?_
  refine x_ldc2 G wl_X12_141 dX12_comesBack_8 ?_
  obtain ⟨v_2, hv_2, hf⟩ := bnd hf
  refine x_staI G (As := [.long v1.toInt64, .long (0 : Int64), .long (99999 : Int64)]) (mX12_in G.2.2.2.2.2.2.1 M hv_2) ms_X12_93 rfl rfl rfl rfl rfl dX12_comesBack_11 ?_
  refine x_ifeqB G (tgt := 33) dX12_comesBack_14 (by decide) hf (fun c_3 hf => ?_) (fun c_3 hf => ?_)
  · refine x_aload_n G dX12_comesBack_17 rfl rfl ?_
    refine x_iload_n G dX12_comesBack_18 rfl rfl ?_
    obtain ⟨v_4, hv_4, hf⟩ := bnd hf
    refine x_virI G (As := [.int v1]) (mX12_isBack G.2.2.2.2.2.2.1 M hv_4) mv_X12_143 (kd148 M) cl12 rfl rfl rfl rfl rfl dX12_comesBack_19 ?_
    refine x_ifeqB G (tgt := 29) dX12_comesBack_22 (by decide) hf (fun c_5 hf => ?_) (fun c_5 hf => ?_)
    · refine x_iconst G (v := 1) dX12_comesBack_25 (by decide) ?_
      refine x_goto G (tgt := 34) dX12_comesBack_26 (by decide) ?_
      exact x_iretW G hf hr dX12_comesBack_34
    · refine x_iconst G (v := 0) dX12_comesBack_29 (by decide) ?_
      refine x_goto G (tgt := 34) dX12_comesBack_30 (by decide) ?_
      exact x_iretW G hf hr dX12_comesBack_34
  · refine x_iconst G (v := -1) dX12_comesBack_33 (by decide) ?_
    exact x_iretW G hf hr dX12_comesBack_34

theorem mX12_comesBack {l : Launch} {S : KS} {w : Wd} (hI : Inj S) (M : Main S) {v1 : Int32} {r : Int32 × Wd} (hf : fX12_comesBack v1 w = some r) : CI l yX12_comesBack cX12_comesBack 2 (some .int) 3 S [.ref 148, .int v1] w r.1 r.2 := by
  intro sz
  refine mk_entry rfl (by decide +kernel) hI 0 rfl rfl (fun K h1 h2 h3 h4 h5 h6 G => ?_)
  subst h2
  exact xX12_comesBack_e G M hf ⟨h3, by rw [h4, h6], h5⟩

set_option maxHeartbeats 4000000 in
set_option maxRecDepth 100000 in
theorem xX12_copy_39 {K : KT} {w : Wd} {r : Int32 × Wd} (G : GK K cX12_copy RX12 7 3) (M : Main K.ks) (hf : fX12_copy_39 w = some r) (hr : RI K .int r.1 r.2) : XW K 39 [some (.ref 148), none, none, none, none, none, none] [] w := by
  unfold fX12_copy_39 at hf
  refine x_aload_n G dX12_copy_39 rfl rfl ?_
  refine x_bipush G (v := -11) dX12_copy_40 (by decide) ?_
  obtain ⟨v_1, hv_1, hf⟩ := bnd hf
  refine x_virI G (As := [.int (-11 : Int32)]) (mX12_host G.2.2.2.2.2.2.1 M hv_1) mv_X12_131 (kd148 M) cl12 rfl rfl rfl rfl rfl dX12_copy_42 ?_
  exact x_iretW G hf hr dX12_copy_45

set_option maxHeartbeats 4000000 in
set_option maxRecDepth 100000 in
theorem xX12_copy_121 {K : KT} {w : Wd} {r : Int32 × Wd} (G : GK K cX12_copy RX12 7 3) (M : Main K.ks) (hf : fX12_copy_121 w = some r) (hr : RI K .int r.1 r.2) : XW K 121 [some (.ref 148), none, none, none, none, none, none] [] w := by
  unfold fX12_copy_121 at hf
  refine x_aload_n G dX12_copy_121 rfl rfl ?_
  refine x_bipush G (v := -13) dX12_copy_122 (by decide) ?_
  obtain ⟨v_1, hv_1, hf⟩ := bnd hf
  refine x_virI G (As := [.int (-13 : Int32)]) (mX12_host G.2.2.2.2.2.2.1 M hv_1) mv_X12_131 (kd148 M) cl12 rfl rfl rfl rfl rfl dX12_copy_124 ?_
  exact x_iretW G hf hr dX12_copy_127

set_option maxHeartbeats 4000000 in
set_option maxRecDepth 100000 in
theorem xX12_copy_190 {K : KT} {r : Int32 × Wd} (G : GK K cX12_copy RX12 7 3) (M : Main K.ks) (hr : RI K .int r.1 r.2) : ∀ (n : Nat) (v1 : Int32) (v2 : Int32) (v3 : Int32) (v4 : Int32) (v5 : Int32) (v6 : Int32) (w : Wd), fX12_copy_190 n v1 v2 v3 v4 v5 v6 w = some r → XW K 190 [some (.ref 148), some (.int v1), some (.int v2), some (.int v3), some (.int v4), some (.int v5), some (.int v6)] [] w := by
  intro n
  induction n with
  | zero =>
    intro v1 v2 v3 v4 v5 v6 w hf
    unfold fX12_copy_190 at hf
    cases hf
  | succ n ih =>
    intro v1 v2 v3 v4 v5 v6 w hf
    unfold fX12_copy_190 at hf
    refine x_iload G dX12_copy_190 rfl ?_
    refine x_iflt G (tgt := 241) dX12_copy_192 (by decide) hf (fun c_1 hf => ?_) (fun c_1 hf => ?_)
    · refine x_iload G dX12_copy_241 rfl ?_
      exact x_iretW G hf hr dX12_copy_243
    · refine x_iload_n G dX12_copy_195 rfl rfl ?_
      refine x_iload_n G dX12_copy_196 rfl rfl ?_
      refine x_icmpne G (tgt := 241) dX12_copy_197 (by decide) hf (fun c_2 hf => ?_) (fun c_2 hf => ?_)
      · refine x_iload_n G dX12_copy_200 rfl rfl ?_
        refine x_iload G dX12_copy_201 rfl ?_
        refine x_icmpge G (tgt := 241) dX12_copy_203 (by decide) hf (fun c_3 hf => ?_) (fun c_3 hf => ?_)
        · refine x_aload_n G dX12_copy_206 rfl rfl ?_
          refine x_getR G (kd148 M) 31 (b := 167) rfl cl12 rfl wf_X12_69 dX12_copy_207 ?_
          refine x_bipush G (v := 100) dX12_copy_210 (by decide) ?_
          refine x_iload_n G dX12_copy_212 rfl rfl ?_
          refine x_imul G dX12_copy_213 ?_
          refine x_iload G dX12_copy_214 rfl ?_
          refine x_iadd G dX12_copy_216 ?_
          refine x_iload G dX12_copy_217 rfl ?_
          refine x_iadd G dX12_copy_219 ?_
          refine x_aload_n G dX12_copy_220 rfl rfl ?_
          refine x_getR G (kd148 M) 31 (b := 167) rfl cl12 rfl wf_X12_69 dX12_copy_221 ?_
          refine x_bipush G (v := 100) dX12_copy_224 (by decide) ?_
          refine x_iload_n G dX12_copy_226 rfl rfl ?_
          refine x_imul G dX12_copy_227 ?_
          refine x_iload_n G dX12_copy_228 rfl rfl ?_
          refine x_iadd G dX12_copy_229 ?_
          refine x_iload G dX12_copy_230 rfl ?_
          refine x_iadd G dX12_copy_232 ?_
          refine x_lald G (kd167 M) dX12_copy_233 hf (fun hb_4 hf => ?_)
          refine x_last G (kd167 M) dX12_copy_234 hf (fun hb_5 hf => ?_)
          refine nwr hf (fun w_6 hf => ?_)
          refine x_iinc G (lv' := [some (.ref 148), some (.int v1), some (.int v2), some (.int v3), some (.int v4), some (.int v5), some (.int (v6 + (-1 : Int32)))]) (v := -1) dX12_copy_235 rfl (by decide) rfl rfl rfl ?_
          refine x_goto G (tgt := 190) dX12_copy_238 (by decide) ?_
          exact XW.sub (lv' := [some (.ref 148), some (.int v1), some (.int v2), some (.int v3), some (.int v4), some (.int v5), some (.int (v6 + (-1 : Int32)))]) (And.intro rfl (And.intro rfl (And.intro rfl (And.intro rfl (And.intro rfl (And.intro rfl (And.intro rfl trivial))))))) (ih _ _ _ _ _ _ _ hf)
        · refine x_iload G dX12_copy_241 rfl ?_
          exact x_iretW G hf hr dX12_copy_243
      · refine x_iload G dX12_copy_241 rfl ?_
        exact x_iretW G hf hr dX12_copy_243

set_option maxHeartbeats 4000000 in
set_option maxRecDepth 100000 in
theorem xX12_copy_184 {K : KT} {v1 : Int32} {v2 : Int32} {v3 : Int32} {v4 : Int32} {v5 : Int32} {w : Wd} {r : Int32 × Wd} (G : GK K cX12_copy RX12 7 3) (M : Main K.ks) (hf : fX12_copy_184 v1 v2 v3 v4 v5 w = some r) (hr : RI K .int r.1 r.2) : XW K 184 [some (.ref 148), some (.int v1), some (.int v2), some (.int v3), some (.int v4), some (.int v5), none] [] w := by
  unfold fX12_copy_184 at hf
  refine x_iload G dX12_copy_184 rfl ?_
  refine x_iconst G (v := 1) dX12_copy_186 (by decide) ?_
  refine x_isub G dX12_copy_187 ?_
  refine x_istore G (lv' := [some (.ref 148), some (.int v1), some (.int v2), some (.int v3), some (.int v4), some (.int v5), some (.int (v5 - (1 : Int32)))]) dX12_copy_188 rfl rfl rfl ?_
  exact XW.sub (lv' := [some (.ref 148), some (.int v1), some (.int v2), some (.int v3), some (.int v4), some (.int v5), some (.int (v5 - (1 : Int32)))]) (And.intro rfl (And.intro rfl (And.intro rfl (And.intro rfl (And.intro rfl (And.intro rfl (And.intro rfl trivial))))))) (xX12_copy_190 G M hr FU _ _ _ _ _ _ _ hf)

set_option maxHeartbeats 4000000 in
set_option maxRecDepth 100000 in
theorem xX12_copy_149 {K : KT} {v1 : Int32} {v2 : Int32} {v3 : Int32} {v4 : Int32} {v5 : Int32} {v6 : Int32} {w : Wd} {r : Int32 × Wd} (G : GK K cX12_copy RX12 7 3) (M : Main K.ks) (k131 : Int32 → Int32 → Int32 → Int32 → Int32 → Int32 → Wd → Option (Int32 × Wd)) (hk131 : ∀ (v1 : Int32) (v2 : Int32) (v3 : Int32) (v4 : Int32) (v5 : Int32) (v6 : Int32) (w : Wd), k131 v1 v2 v3 v4 v5 v6 w = some r → XW K 131 [some (.ref 148), some (.int v1), some (.int v2), some (.int v3), some (.int v4), some (.int v5), some (.int v6)] [] w) (hf : fX12_copy_149 k131 v1 v2 v3 v4 v5 v6 w = some r) (hr : RI K .int r.1 r.2) : XW K 149 [some (.ref 148), some (.int v1), some (.int v2), some (.int v3), some (.int v4), some (.int v5), some (.int v6)] [] w := by
  unfold fX12_copy_149 at hf
  refine x_aload_n G dX12_copy_149 rfl rfl ?_
  refine x_getR G (kd148 M) 31 (b := 167) rfl cl12 rfl wf_X12_69 dX12_copy_150 ?_
  refine x_bipush G (v := 100) dX12_copy_153 (by decide) ?_
  refine x_iload_n G dX12_copy_155 rfl rfl ?_
  refine x_imul G dX12_copy_156 ?_
  refine x_iload G dX12_copy_157 rfl ?_
  refine x_iadd G dX12_copy_159 ?_
  refine x_iload G dX12_copy_160 rfl ?_
  refine x_iadd G dX12_copy_162 ?_
  refine x_aload_n G dX12_copy_163 rfl rfl ?_
  refine x_getR G (kd148 M) 31 (b := 167) rfl cl12 rfl wf_X12_69 dX12_copy_164 ?_
  refine x_bipush G (v := 100) dX12_copy_167 (by decide) ?_
  refine x_iload_n G dX12_copy_169 rfl rfl ?_
  refine x_imul G dX12_copy_170 ?_
  refine x_iload_n G dX12_copy_171 rfl rfl ?_
  refine x_iadd G dX12_copy_172 ?_
  refine x_iload G dX12_copy_173 rfl ?_
  refine x_iadd G dX12_copy_175 ?_
  refine x_lald G (kd167 M) dX12_copy_176 hf (fun hb_1 hf => ?_)
  refine x_last G (kd167 M) dX12_copy_177 hf (fun hb_2 hf => ?_)
  refine nwr hf (fun w_3 hf => ?_)
  refine x_iinc G (lv' := [some (.ref 148), some (.int v1), some (.int v2), some (.int v3), some (.int v4), some (.int v5), some (.int (v6 + (1 : Int32)))]) (v := 1) dX12_copy_178 rfl (by decide) rfl rfl rfl ?_
  refine x_goto G (tgt := 131) dX12_copy_181 (by decide) ?_
  exact XW.sub (lv' := [some (.ref 148), some (.int v1), some (.int v2), some (.int v3), some (.int v4), some (.int v5), some (.int (v6 + (1 : Int32)))]) (And.intro rfl (And.intro rfl (And.intro rfl (And.intro rfl (And.intro rfl (And.intro rfl (And.intro rfl trivial))))))) (hk131 _ _ _ _ _ _ _ hf)

set_option maxHeartbeats 4000000 in
set_option maxRecDepth 100000 in
theorem xX12_copy_131 {K : KT} {r : Int32 × Wd} (G : GK K cX12_copy RX12 7 3) (M : Main K.ks) (hr : RI K .int r.1 r.2) : ∀ (n : Nat) (v1 : Int32) (v2 : Int32) (v3 : Int32) (v4 : Int32) (v5 : Int32) (v6 : Int32) (w : Wd), fX12_copy_131 n v1 v2 v3 v4 v5 v6 w = some r → XW K 131 [some (.ref 148), some (.int v1), some (.int v2), some (.int v3), some (.int v4), some (.int v5), some (.int v6)] [] w := by
  intro n
  induction n with
  | zero =>
    intro v1 v2 v3 v4 v5 v6 w hf
    unfold fX12_copy_131 at hf
    cases hf
  | succ n ih =>
    intro v1 v2 v3 v4 v5 v6 w hf
    unfold fX12_copy_131 at hf
    refine x_iload G dX12_copy_131 rfl ?_
    refine x_iload G dX12_copy_133 rfl ?_
    refine x_icmpge G (tgt := 184) dX12_copy_135 (by decide) hf (fun c_1 hf => ?_) (fun c_1 hf => ?_)
    · refine x_iload_n G dX12_copy_138 rfl rfl ?_
      refine x_iload_n G dX12_copy_139 rfl rfl ?_
      refine x_icmpne G (tgt := 149) dX12_copy_140 (by decide) hf (fun c_2 hf => ?_) (fun c_2 hf => ?_)
      · refine x_iload_n G dX12_copy_143 rfl rfl ?_
        refine x_iload G dX12_copy_144 rfl ?_
        refine x_icmplt G (tgt := 184) dX12_copy_146 (by decide) hf (fun c_3 hf => ?_) (fun c_3 hf => ?_)
        · exact XW.sub (lv' := [some (.ref 148), some (.int v1), some (.int v2), some (.int v3), some (.int v4), some (.int v5), none]) (And.intro rfl (And.intro rfl (And.intro rfl (And.intro rfl (And.intro rfl (And.intro rfl trivial)))))) (xX12_copy_184 G M hf hr)
        · exact (xX12_copy_149 G M (fX12_copy_131 n) ih hf hr)
      · exact (xX12_copy_149 G M (fX12_copy_131 n) ih hf hr)
    · exact XW.sub (lv' := [some (.ref 148), some (.int v1), some (.int v2), some (.int v3), some (.int v4), some (.int v5), none]) (And.intro rfl (And.intro rfl (And.intro rfl (And.intro rfl (And.intro rfl (And.intro rfl trivial)))))) (xX12_copy_184 G M hf hr)

set_option maxHeartbeats 4000000 in
set_option maxRecDepth 100000 in
theorem xX12_copy_73 {K : KT} {w : Wd} {r : Int32 × Wd} (G : GK K cX12_copy RX12 7 3) (M : Main K.ks) (hf : fX12_copy_73 w = some r) (hr : RI K .int r.1 r.2) : XW K 73 [some (.ref 148), none, none, none, none, none, none] [] w := by
  unfold fX12_copy_73 at hf
  refine x_aload_n G dX12_copy_73 rfl rfl ?_
  refine x_bipush G (v := -12) dX12_copy_74 (by decide) ?_
  obtain ⟨v_1, hv_1, hf⟩ := bnd hf
  refine x_virI G (As := [.int (-12 : Int32)]) (mX12_host G.2.2.2.2.2.2.1 M hv_1) mv_X12_131 (kd148 M) cl12 rfl rfl rfl rfl rfl dX12_copy_76 ?_
  exact x_iretW G hf hr dX12_copy_79

set_option maxHeartbeats 4000000 in
set_option maxRecDepth 100000 in
theorem xX12_copy_e {K : KT} {v1 : Int32} {v2 : Int32} {v3 : Int32} {v4 : Int32} {v5 : Int32} {w : Wd} {r : Int32 × Wd} (G : GK K cX12_copy RX12 7 3) (M : Main K.ks) (hf : fX12_copy v1 v2 v3 v4 v5 w = some r) (hr : RI K .int r.1 r.2) : XW K 0 [some (.ref 148), some (.int v1), some (.int v2), some (.int v3), some (.int v4), some (.int v5), none] [] w := by
  unfold fX12_copy at hf
  refine x_aload_n G dX12_copy_0 rfl rfl ?_
  refine x_iconst G (v := 0) dX12_copy_1 (by decide) ?_
  refine x_putI G (kd148 M) 0 rfl cl12 rfl wf_X12_1 rfl rfl rfl dX12_copy_2 ?_
  refine nwr hf (fun w_1 hf => ?_)
  refine x_iload_n G dX12_copy_5 rfl rfl ?_
  obtain ⟨v_2, hv_2, hf⟩ := bnd hf
  refine x_staI G (As := [.int v1]) (mX12_isTape G.2.2.2.2.2.2.1 M hv_2) ms_X12_128 rfl rfl rfl rfl rfl dX12_copy_6 ?_
  refine x_ifeqB G (tgt := 19) dX12_copy_9 (by decide) hf (fun c_3 hf => ?_) (fun c_3 hf => ?_)
  · refine x_iload_n G dX12_copy_12 rfl rfl ?_
    obtain ⟨v_4, hv_4, hf⟩ := bnd hf
    refine x_staI G (As := [.int v3]) (mX12_isTape G.2.2.2.2.2.2.1 M hv_4) ms_X12_128 rfl rfl rfl rfl rfl dX12_copy_13 ?_
    refine x_ifneB G (tgt := 21) dX12_copy_16 (by decide) hf (fun c_5 hf => ?_) (fun c_5 hf => ?_)
    · refine x_aload_n G dX12_copy_21 rfl rfl ?_
      refine x_getR G (kd148 M) 29 (b := 165) rfl cl12 rfl wf_X12_63 dX12_copy_22 ?_
      refine x_iload_n G dX12_copy_25 rfl rfl ?_
      refine x_iald G (kd165 M) dX12_copy_26 hf (fun hb_6 hf => ?_)
      refine x_ifeq G (tgt := 39) dX12_copy_27 (by decide) hf (fun c_7 hf => ?_) (fun c_7 hf => ?_)
      · exact XW.sub (lv' := [some (.ref 148), none, none, none, none, none, none]) (And.intro rfl trivial) (xX12_copy_39 G M hf hr)
      · refine x_aload_n G dX12_copy_30 rfl rfl ?_
        refine x_getR G (kd148 M) 29 (b := 165) rfl cl12 rfl wf_X12_63 dX12_copy_31 ?_
        refine x_iload_n G dX12_copy_34 rfl rfl ?_
        refine x_iald G (kd165 M) dX12_copy_35 hf (fun hb_8 hf => ?_)
        refine x_ifne G (tgt := 46) dX12_copy_36 (by decide) hf (fun c_9 hf => ?_) (fun c_9 hf => ?_)
        · exact XW.sub (lv' := [some (.ref 148), none, none, none, none, none, none]) (And.intro rfl trivial) (xX12_copy_39 G M hf hr)
        · refine x_aload_n G dX12_copy_46 rfl rfl ?_
          refine x_getR G (kd148 M) 29 (b := 165) rfl cl12 rfl wf_X12_63 dX12_copy_47 ?_
          refine x_iload_n G dX12_copy_50 rfl rfl ?_
          refine x_iald0 G (kd165 M) dX12_copy_51 hb_6 ?_
          obtain ⟨v_10, hv_10, hf⟩ := bnd hf
          refine x_staI G (As := [.int (ri w_1 165 v1)]) (mX12_isRow G.2.2.2.2.2.2.1 M hv_10) ms_X12_361 rfl rfl rfl rfl rfl dX12_copy_52 ?_
          refine x_ifeqB G (tgt := 73) dX12_copy_55 (by decide) hf (fun c_11 hf => ?_) (fun c_11 hf => ?_)
          · refine x_aload_n G dX12_copy_58 rfl rfl ?_
            refine x_getR G (kd148 M) 29 (b := 165) rfl cl12 rfl wf_X12_63 dX12_copy_59 ?_
            refine x_iload_n G dX12_copy_62 rfl rfl ?_
            refine x_iald0 G (kd165 M) dX12_copy_63 hb_6 ?_
            refine x_aload_n G dX12_copy_64 rfl rfl ?_
            refine x_getR G (kd148 M) 29 (b := 165) rfl cl12 rfl wf_X12_63 dX12_copy_65 ?_
            refine x_iload_n G dX12_copy_68 rfl rfl ?_
            refine x_iald0 G (kd165 M) dX12_copy_69 hb_8 ?_
            refine x_icmpeq G (tgt := 80) dX12_copy_70 (by decide) hf (fun c_12 hf => ?_) (fun c_12 hf => ?_)
            · refine x_iload G dX12_copy_80 rfl ?_
              refine x_iflt G (tgt := 121) dX12_copy_82 (by decide) hf (fun c_13 hf => ?_) (fun c_13 hf => ?_)
              · exact XW.sub (lv' := [some (.ref 148), none, none, none, none, none, none]) (And.intro rfl trivial) (xX12_copy_121 G M hf hr)
              · refine x_iload_n G dX12_copy_85 rfl rfl ?_
                refine x_iflt G (tgt := 121) dX12_copy_86 (by decide) hf (fun c_14 hf => ?_) (fun c_14 hf => ?_)
                · exact XW.sub (lv' := [some (.ref 148), none, none, none, none, none, none]) (And.intro rfl trivial) (xX12_copy_121 G M hf hr)
                · refine x_iload G dX12_copy_89 rfl ?_
                  refine x_iflt G (tgt := 121) dX12_copy_91 (by decide) hf (fun c_15 hf => ?_) (fun c_15 hf => ?_)
                  · exact XW.sub (lv' := [some (.ref 148), none, none, none, none, none, none]) (And.intro rfl trivial) (xX12_copy_121 G M hf hr)
                  · refine x_iload_n G dX12_copy_94 rfl rfl ?_
                    refine x_aload_n G dX12_copy_95 rfl rfl ?_
                    refine x_getR G (kd148 M) 30 (b := 166) rfl cl12 rfl wf_X12_66 dX12_copy_96 ?_
                    refine x_iload_n G dX12_copy_99 rfl rfl ?_
                    refine x_iald0 G (kd166 M) dX12_copy_100 hb_6 ?_
                    refine x_iload G dX12_copy_101 rfl ?_
                    refine x_isub G dX12_copy_103 ?_
                    refine x_icmpgt G (tgt := 121) dX12_copy_104 (by decide) hf (fun c_16 hf => ?_) (fun c_16 hf => ?_)
                    · exact XW.sub (lv' := [some (.ref 148), none, none, none, none, none, none]) (And.intro rfl trivial) (xX12_copy_121 G M hf hr)
                    · refine x_iload G dX12_copy_107 rfl ?_
                      refine x_aload_n G dX12_copy_109 rfl rfl ?_
                      refine x_getR G (kd148 M) 30 (b := 166) rfl cl12 rfl wf_X12_66 dX12_copy_110 ?_
                      refine x_iload_n G dX12_copy_113 rfl rfl ?_
                      refine x_iald0 G (kd166 M) dX12_copy_114 hb_8 ?_
                      refine x_iload G dX12_copy_115 rfl ?_
                      refine x_isub G dX12_copy_117 ?_
                      refine x_icmple G (tgt := 128) dX12_copy_118 (by decide) hf (fun c_17 hf => ?_) (fun c_17 hf => ?_)
                      · exact XW.sub (lv' := [some (.ref 148), none, none, none, none, none, none]) (And.intro rfl trivial) (xX12_copy_121 G M hf hr)
                      · refine x_iconst G (v := 0) dX12_copy_128 (by decide) ?_
                        refine x_istore G (lv' := [some (.ref 148), some (.int v1), some (.int v2), some (.int v3), some (.int v4), some (.int v5), some (.int (0 : Int32))]) dX12_copy_129 rfl rfl rfl ?_
                        exact XW.sub (lv' := [some (.ref 148), some (.int v1), some (.int v2), some (.int v3), some (.int v4), some (.int v5), some (.int (0 : Int32))]) (And.intro rfl (And.intro rfl (And.intro rfl (And.intro rfl (And.intro rfl (And.intro rfl (And.intro rfl trivial))))))) (xX12_copy_131 G M hr FU _ _ _ _ _ _ _ hf)
            · exact XW.sub (lv' := [some (.ref 148), none, none, none, none, none, none]) (And.intro rfl trivial) (xX12_copy_73 G M hf hr)
          · exact XW.sub (lv' := [some (.ref 148), none, none, none, none, none, none]) (And.intro rfl trivial) (xX12_copy_73 G M hf hr)
    · refine x_iconst G (v := -1) dX12_copy_19 (by decide) ?_
      exact x_iretW G hf hr dX12_copy_20
  · refine x_iconst G (v := -1) dX12_copy_19 (by decide) ?_
    exact x_iretW G hf hr dX12_copy_20

theorem mX12_copy {l : Launch} {S : KS} {w : Wd} (hI : Inj S) (M : Main S) {v1 : Int32} {v2 : Int32} {v3 : Int32} {v4 : Int32} {v5 : Int32} {r : Int32 × Wd} (hf : fX12_copy v1 v2 v3 v4 v5 w = some r) : CI l yX12_copy cX12_copy 7 (some .int) 3 S [.ref 148, .int v1, .int v2, .int v3, .int v4, .int v5] w r.1 r.2 := by
  intro sz
  refine mk_entry rfl (by decide +kernel) hI 1 rfl rfl (fun K h1 h2 h3 h4 h5 h6 G => ?_)
  subst h2
  exact xX12_copy_e G M hf ⟨h3, by rw [h4, h6], h5⟩

set_option maxHeartbeats 4000000 in
set_option maxRecDepth 100000 in
theorem xX12_crackedMany_4 {K : KT} {w : Wd} {r : Int32} (G : GK K cX12_crackedMany RX12 3 2) (M : Main K.ks) (hr : RI K .int r w) : ∀ (n : Nat) (v1 : Int32) (v2 : Int32), fX12_crackedMany_4 w n v1 v2 = some r → XW K 4 [some (.ref 148), some (.int v1), some (.int v2)] [] w := by
  intro n
  induction n with
  | zero =>
    intro v1 v2 hf
    unfold fX12_crackedMany_4 at hf
    cases hf
  | succ n ih =>
    intro v1 v2 hf
    unfold fX12_crackedMany_4 at hf
    refine x_iload_n G dX12_crackedMany_4 rfl rfl ?_
    refine x_bipush G (v := 100) dX12_crackedMany_5 (by decide) ?_
    refine x_icmpge G (tgt := 26) dX12_crackedMany_7 (by decide) hf (fun c_1 hf => ?_) (fun c_1 hf => ?_)
    · refine x_iload_n G dX12_crackedMany_10 rfl rfl ?_
      refine x_aload_n G dX12_crackedMany_11 rfl rfl ?_
      refine x_iload_n G dX12_crackedMany_12 rfl rfl ?_
      refine x_bipush G (v := 13) dX12_crackedMany_13 (by decide) ?_
      obtain ⟨v_2, hv_2, hf⟩ := bnd hf
      refine x_virI G (As := [.int v2, .int (13 : Int32)]) (mX12_c G.2.2.2.2.2.2.1 M hv_2) mv_X12_117 (kd148 M) cl12 rfl rfl rfl rfl rfl dX12_crackedMany_15 ?_
      refine x_iadd G dX12_crackedMany_18 ?_
      refine x_istore_n G (lv' := [some (.ref 148), some (.int (v1 + v_2)), some (.int v2)]) dX12_crackedMany_19 rfl rfl rfl rfl ?_
      refine x_iinc G (lv' := [some (.ref 148), some (.int (v1 + v_2)), some (.int (v2 + (1 : Int32)))]) (v := 1) dX12_crackedMany_20 rfl (by decide) rfl rfl rfl ?_
      refine x_goto G (tgt := 4) dX12_crackedMany_23 (by decide) ?_
      exact XW.sub (lv' := [some (.ref 148), some (.int (v1 + v_2)), some (.int (v2 + (1 : Int32)))]) (And.intro rfl (And.intro rfl (And.intro rfl trivial))) (ih _ _ hf)
    · refine x_iload_n G dX12_crackedMany_26 rfl rfl ?_
      exact x_iretP G hf hr dX12_crackedMany_27

set_option maxHeartbeats 4000000 in
set_option maxRecDepth 100000 in
theorem xX12_crackedMany_e {K : KT} {w : Wd} {r : Int32} (G : GK K cX12_crackedMany RX12 3 2) (M : Main K.ks) (hf : fX12_crackedMany w = some r) (hr : RI K .int r w) : XW K 0 [some (.ref 148), none, none] [] w := by
  unfold fX12_crackedMany at hf
  refine x_iconst G (v := 0) dX12_crackedMany_0 (by decide) ?_
  refine x_istore_n G (lv' := [some (.ref 148), some (.int (0 : Int32)), none]) dX12_crackedMany_1 rfl rfl rfl rfl ?_
  refine x_iconst G (v := 0) dX12_crackedMany_2 (by decide) ?_
  refine x_istore_n G (lv' := [some (.ref 148), some (.int (0 : Int32)), some (.int (0 : Int32))]) dX12_crackedMany_3 rfl rfl rfl rfl ?_
  exact XW.sub (lv' := [some (.ref 148), some (.int (0 : Int32)), some (.int (0 : Int32))]) (And.intro rfl (And.intro rfl (And.intro rfl trivial))) (xX12_crackedMany_4 G M hr FU _ _ hf)

theorem mX12_crackedMany {l : Launch} {S : KS} {w : Wd} (hI : Inj S) (M : Main S) {r : Int32} (hf : fX12_crackedMany w = some r) : CI l yX12_crackedMany cX12_crackedMany 3 (some .int) 2 S [.ref 148] w r w := by
  intro sz
  refine mk_entry rfl (by decide +kernel) hI 2 rfl rfl (fun K h1 h2 h3 h4 h5 h6 G => ?_)
  subst h2
  exact xX12_crackedMany_e G M hf ⟨h3, by rw [h4, h6], h5⟩

set_option maxHeartbeats 4000000 in
set_option maxRecDepth 100000 in
theorem xX12_heldIn_6 {K : KT} {w : Wd} {r : Int32} (G : GK K cX12_heldIn RX12 6 2) (M : Main K.ks) (hr : RI K .int r w) : ∀ (n : Nat) (v1 : Int32) (v2 : Int32) (v3 : Int32) (v4 : Int32) (v5 : Int32), fX12_heldIn_6 w n v1 v2 v3 v4 v5 = some r → XW K 6 [some (.ref 148), some (.int v1), some (.int v2), some (.int v3), some (.int v4), some (.int v5)] [] w := by
  intro n
  induction n with
  | zero =>
    intro v1 v2 v3 v4 v5 hf
    unfold fX12_heldIn_6 at hf
    cases hf
  | succ n ih =>
    intro v1 v2 v3 v4 v5 hf
    unfold fX12_heldIn_6 at hf
    refine x_iload G dX12_heldIn_6 rfl ?_
    refine x_bipush G (v := 100) dX12_heldIn_8 (by decide) ?_
    refine x_icmpge G (tgt := 47) dX12_heldIn_10 (by decide) hf (fun c_1 hf => ?_) (fun c_1 hf => ?_)
    · refine x_iload G dX12_heldIn_13 rfl ?_
      refine x_aload_n G dX12_heldIn_15 rfl rfl ?_
      refine x_iload G dX12_heldIn_16 rfl ?_
      refine x_iload_n G dX12_heldIn_18 rfl rfl ?_
      obtain ⟨v_2, hv_2, hf⟩ := bnd hf
      refine x_virI G (As := [.int v5, .int v1]) (mX12_c G.2.2.2.2.2.2.1 M hv_2) mv_X12_117 (kd148 M) cl12 rfl rfl rfl rfl rfl dX12_heldIn_19 ?_
      refine x_aload_n G dX12_heldIn_22 rfl rfl ?_
      refine x_iload G dX12_heldIn_23 rfl ?_
      refine x_iload_n G dX12_heldIn_25 rfl rfl ?_
      obtain ⟨v_3, hv_3, hf⟩ := bnd hf
      refine x_virI G (As := [.int v5, .int v2]) (mX12_c G.2.2.2.2.2.2.1 M hv_3) mv_X12_117 (kd148 M) cl12 rfl rfl rfl rfl rfl dX12_heldIn_26 ?_
      refine x_iadd G dX12_heldIn_29 ?_
      refine x_aload_n G dX12_heldIn_30 rfl rfl ?_
      refine x_iload G dX12_heldIn_31 rfl ?_
      refine x_iload_n G dX12_heldIn_33 rfl rfl ?_
      obtain ⟨v_4, hv_4, hf⟩ := bnd hf
      refine x_virI G (As := [.int v5, .int v3]) (mX12_h G.2.2.2.2.2.2.1 M hv_4) mv_X12_226 (kd148 M) cl12 rfl rfl rfl rfl rfl dX12_heldIn_34 ?_
      refine x_iadd G dX12_heldIn_37 ?_
      refine x_iadd G dX12_heldIn_38 ?_
      refine x_istore G (lv' := [some (.ref 148), some (.int v1), some (.int v2), some (.int v3), some (.int (v4 + ((v_2 + v_3) + v_4))), some (.int v5)]) dX12_heldIn_39 rfl rfl rfl ?_
      refine x_iinc G (lv' := [some (.ref 148), some (.int v1), some (.int v2), some (.int v3), some (.int (v4 + ((v_2 + v_3) + v_4))), some (.int (v5 + (1 : Int32)))]) (v := 1) dX12_heldIn_41 rfl (by decide) rfl rfl rfl ?_
      refine x_goto G (tgt := 6) dX12_heldIn_44 (by decide) ?_
      exact XW.sub (lv' := [some (.ref 148), some (.int v1), some (.int v2), some (.int v3), some (.int (v4 + ((v_2 + v_3) + v_4))), some (.int (v5 + (1 : Int32)))]) (And.intro rfl (And.intro rfl (And.intro rfl (And.intro rfl (And.intro rfl (And.intro rfl trivial)))))) (ih _ _ _ _ _ hf)
    · refine x_iload G dX12_heldIn_47 rfl ?_
      exact x_iretP G hf hr dX12_heldIn_49

set_option maxHeartbeats 4000000 in
set_option maxRecDepth 100000 in
theorem xX12_heldIn_e {K : KT} {v1 : Int32} {v2 : Int32} {v3 : Int32} {w : Wd} {r : Int32} (G : GK K cX12_heldIn RX12 6 2) (M : Main K.ks) (hf : fX12_heldIn v1 v2 v3 w = some r) (hr : RI K .int r w) : XW K 0 [some (.ref 148), some (.int v1), some (.int v2), some (.int v3), none, none] [] w := by
  unfold fX12_heldIn at hf
  refine x_iconst G (v := 0) dX12_heldIn_0 (by decide) ?_
  refine x_istore G (lv' := [some (.ref 148), some (.int v1), some (.int v2), some (.int v3), some (.int (0 : Int32)), none]) dX12_heldIn_1 rfl rfl rfl ?_
  refine x_iconst G (v := 0) dX12_heldIn_3 (by decide) ?_
  refine x_istore G (lv' := [some (.ref 148), some (.int v1), some (.int v2), some (.int v3), some (.int (0 : Int32)), some (.int (0 : Int32))]) dX12_heldIn_4 rfl rfl rfl ?_
  exact XW.sub (lv' := [some (.ref 148), some (.int v1), some (.int v2), some (.int v3), some (.int (0 : Int32)), some (.int (0 : Int32))]) (And.intro rfl (And.intro rfl (And.intro rfl (And.intro rfl (And.intro rfl (And.intro rfl trivial)))))) (xX12_heldIn_6 G M hr FU _ _ _ _ _ hf)

theorem mX12_heldIn {l : Launch} {S : KS} {w : Wd} (hI : Inj S) (M : Main S) {v1 : Int32} {v2 : Int32} {v3 : Int32} {r : Int32} (hf : fX12_heldIn v1 v2 v3 w = some r) : CI l yX12_heldIn cX12_heldIn 6 (some .int) 2 S [.ref 148, .int v1, .int v2, .int v3] w r w := by
  intro sz
  refine mk_entry rfl (by decide +kernel) hI 2 rfl rfl (fun K h1 h2 h3 h4 h5 h6 G => ?_)
  subst h2
  exact xX12_heldIn_e G M hf ⟨h3, by rw [h4, h6], h5⟩

set_option maxHeartbeats 4000000 in
set_option maxRecDepth 100000 in
theorem xX12_count_e {K : KT} {v1 : Int32} {w : Wd} {r : Int32 × Wd} (G : GK K cX12_count RX12 2 3) (M : Main K.ks) (hf : fX12_count v1 w = some r) (hr : RI K .int r.1 r.2) : XW K 0 [some (.ref 148), some (.int v1)] [] w := by
  unfold fX12_count at hf
  refine x_aload_n G dX12_count_0 rfl rfl ?_
  refine x_iconst G (v := 0) dX12_count_1 (by decide) ?_
  refine x_putI G (kd148 M) 0 rfl cl12 rfl wf_X12_1 rfl rfl rfl dX12_count_2 ?_
  refine nwr hf (fun w_1 hf => ?_)
  refine x_iload_n G dX12_count_5 rfl rfl ?_
  rcases ite_or hf with ⟨c_3, hf⟩ | ⟨c_3, hf⟩
  · refine x_swIn G (tgt := 96) (off := 90) (k := 0) dX12_count_6 c_3 (by decide) (by decide) (by decide) (by decide) ?_
    refine x_aload_n G dX12_count_96 rfl rfl ?_
    refine x_iconst G (v := 0) dX12_count_97 (by decide) ?_
    obtain ⟨v_2, hv_2, hf⟩ := bnd hf
    refine x_virI G (As := [.int (0 : Int32)]) (mX12_g G.2.2.2.2.2.2.1 M hv_2) mv_X12_101 (kd148 M) cl12 rfl rfl rfl rfl rfl dX12_count_98 ?_
    exact x_iretW G hf hr dX12_count_101
  rcases ite_or hf with ⟨c_5, hf⟩ | ⟨c_5, hf⟩
  · refine x_swIn G (tgt := 102) (off := 96) (k := 1) dX12_count_6 c_5 (by decide) (by decide) (by decide) (by decide) ?_
    refine x_aload_n G dX12_count_102 rfl rfl ?_
    refine x_iconst G (v := 5) dX12_count_103 (by decide) ?_
    obtain ⟨v_4, hv_4, hf⟩ := bnd hf
    refine x_virI G (As := [.int (5 : Int32)]) (mX12_g G.2.2.2.2.2.2.1 M hv_4) mv_X12_101 (kd148 M) cl12 rfl rfl rfl rfl rfl dX12_count_104 ?_
    exact x_iretW G hf hr dX12_count_107
  rcases ite_or hf with ⟨c_7, hf⟩ | ⟨c_7, hf⟩
  · refine x_swIn G (tgt := 108) (off := 102) (k := 2) dX12_count_6 c_7 (by decide) (by decide) (by decide) (by decide) ?_
    refine x_aload_n G dX12_count_108 rfl rfl ?_
    refine x_bipush G (v := 6) dX12_count_109 (by decide) ?_
    obtain ⟨v_6, hv_6, hf⟩ := bnd hf
    refine x_virI G (As := [.int (6 : Int32)]) (mX12_g G.2.2.2.2.2.2.1 M hv_6) mv_X12_101 (kd148 M) cl12 rfl rfl rfl rfl rfl dX12_count_111 ?_
    exact x_iretW G hf hr dX12_count_114
  rcases ite_or hf with ⟨c_9, hf⟩ | ⟨c_9, hf⟩
  · refine x_swIn G (tgt := 115) (off := 109) (k := 3) dX12_count_6 c_9 (by decide) (by decide) (by decide) (by decide) ?_
    refine x_aload_n G dX12_count_115 rfl rfl ?_
    refine x_bipush G (v := 7) dX12_count_116 (by decide) ?_
    obtain ⟨v_8, hv_8, hf⟩ := bnd hf
    refine x_virI G (As := [.int (7 : Int32)]) (mX12_g G.2.2.2.2.2.2.1 M hv_8) mv_X12_101 (kd148 M) cl12 rfl rfl rfl rfl rfl dX12_count_118 ?_
    exact x_iretW G hf hr dX12_count_121
  rcases ite_or hf with ⟨c_11, hf⟩ | ⟨c_11, hf⟩
  · refine x_swIn G (tgt := 122) (off := 116) (k := 4) dX12_count_6 c_11 (by decide) (by decide) (by decide) (by decide) ?_
    refine x_aload_n G dX12_count_122 rfl rfl ?_
    refine x_bipush G (v := 8) dX12_count_123 (by decide) ?_
    obtain ⟨v_10, hv_10, hf⟩ := bnd hf
    refine x_virI G (As := [.int (8 : Int32)]) (mX12_g G.2.2.2.2.2.2.1 M hv_10) mv_X12_101 (kd148 M) cl12 rfl rfl rfl rfl rfl dX12_count_125 ?_
    exact x_iretW G hf hr dX12_count_128
  rcases ite_or hf with ⟨c_13, hf⟩ | ⟨c_13, hf⟩
  · refine x_swIn G (tgt := 129) (off := 123) (k := 5) dX12_count_6 c_13 (by decide) (by decide) (by decide) (by decide) ?_
    refine x_aload_n G dX12_count_129 rfl rfl ?_
    refine x_bipush G (v := 9) dX12_count_130 (by decide) ?_
    obtain ⟨v_12, hv_12, hf⟩ := bnd hf
    refine x_virI G (As := [.int (9 : Int32)]) (mX12_g G.2.2.2.2.2.2.1 M hv_12) mv_X12_101 (kd148 M) cl12 rfl rfl rfl rfl rfl dX12_count_132 ?_
    exact x_iretW G hf hr dX12_count_135
  rcases ite_or hf with ⟨c_15, hf⟩ | ⟨c_15, hf⟩
  · refine x_swIn G (tgt := 136) (off := 130) (k := 6) dX12_count_6 c_15 (by decide) (by decide) (by decide) (by decide) ?_
    refine x_aload_n G dX12_count_136 rfl rfl ?_
    refine x_bipush G (v := 10) dX12_count_137 (by decide) ?_
    obtain ⟨v_14, hv_14, hf⟩ := bnd hf
    refine x_virI G (As := [.int (10 : Int32)]) (mX12_g G.2.2.2.2.2.2.1 M hv_14) mv_X12_101 (kd148 M) cl12 rfl rfl rfl rfl rfl dX12_count_139 ?_
    exact x_iretW G hf hr dX12_count_142
  rcases ite_or hf with ⟨c_17, hf⟩ | ⟨c_17, hf⟩
  · refine x_swIn G (tgt := 143) (off := 137) (k := 7) dX12_count_6 c_17 (by decide) (by decide) (by decide) (by decide) ?_
    refine x_aload_n G dX12_count_143 rfl rfl ?_
    refine x_bipush G (v := 9) dX12_count_144 (by decide) ?_
    refine x_bipush G (v := 11) dX12_count_146 (by decide) ?_
    refine x_bipush G (v := 8) dX12_count_148 (by decide) ?_
    obtain ⟨v_16, hv_16, hf⟩ := bnd hf
    refine x_virI G (As := [.int (9 : Int32), .int (11 : Int32), .int (8 : Int32)]) (mX12_heldIn G.2.2.2.2.2.2.1 M hv_16) mv_X12_364 (kd148 M) cl12 rfl rfl rfl rfl rfl dX12_count_150 ?_
    exact x_iretW G hf hr dX12_count_153
  rcases ite_or hf with ⟨c_19, hf⟩ | ⟨c_19, hf⟩
  · refine x_swIn G (tgt := 154) (off := 148) (k := 8) dX12_count_6 c_19 (by decide) (by decide) (by decide) (by decide) ?_
    refine x_aload_n G dX12_count_154 rfl rfl ?_
    refine x_bipush G (v := 10) dX12_count_155 (by decide) ?_
    refine x_bipush G (v := 12) dX12_count_157 (by decide) ?_
    refine x_bipush G (v := 9) dX12_count_159 (by decide) ?_
    obtain ⟨v_18, hv_18, hf⟩ := bnd hf
    refine x_virI G (As := [.int (10 : Int32), .int (12 : Int32), .int (9 : Int32)]) (mX12_heldIn G.2.2.2.2.2.2.1 M hv_18) mv_X12_364 (kd148 M) cl12 rfl rfl rfl rfl rfl dX12_count_161 ?_
    exact x_iretW G hf hr dX12_count_164
  rcases ite_or hf with ⟨c_21, hf⟩ | ⟨c_21, hf⟩
  · refine x_swIn G (tgt := 165) (off := 159) (k := 9) dX12_count_6 c_21 (by decide) (by decide) (by decide) (by decide) ?_
    refine x_aload_n G dX12_count_165 rfl rfl ?_
    refine x_iconst G (v := 1) dX12_count_166 (by decide) ?_
    obtain ⟨v_20, hv_20, hf⟩ := bnd hf
    refine x_virI G (As := [.int (1 : Int32)]) (mX12_g G.2.2.2.2.2.2.1 M hv_20) mv_X12_101 (kd148 M) cl12 rfl rfl rfl rfl rfl dX12_count_167 ?_
    exact x_iretW G hf hr dX12_count_170
  rcases ite_or hf with ⟨c_23, hf⟩ | ⟨c_23, hf⟩
  · refine x_swIn G (tgt := 171) (off := 165) (k := 10) dX12_count_6 c_23 (by decide) (by decide) (by decide) (by decide) ?_
    refine x_aload_n G dX12_count_171 rfl rfl ?_
    refine x_bipush G (v := 11) dX12_count_172 (by decide) ?_
    obtain ⟨v_22, hv_22, hf⟩ := bnd hf
    refine x_virI G (As := [.int (11 : Int32)]) (mX12_g G.2.2.2.2.2.2.1 M hv_22) mv_X12_101 (kd148 M) cl12 rfl rfl rfl rfl rfl dX12_count_174 ?_
    exact x_iretW G hf hr dX12_count_177
  rcases ite_or hf with ⟨c_25, hf⟩ | ⟨c_25, hf⟩
  · refine x_swIn G (tgt := 178) (off := 172) (k := 11) dX12_count_6 c_25 (by decide) (by decide) (by decide) (by decide) ?_
    refine x_aload_n G dX12_count_178 rfl rfl ?_
    refine x_bipush G (v := 12) dX12_count_179 (by decide) ?_
    obtain ⟨v_24, hv_24, hf⟩ := bnd hf
    refine x_virI G (As := [.int (12 : Int32)]) (mX12_g G.2.2.2.2.2.2.1 M hv_24) mv_X12_101 (kd148 M) cl12 rfl rfl rfl rfl rfl dX12_count_181 ?_
    exact x_iretW G hf hr dX12_count_184
  rcases ite_or hf with ⟨c_27, hf⟩ | ⟨c_27, hf⟩
  · refine x_swIn G (tgt := 185) (off := 179) (k := 12) dX12_count_6 c_27 (by decide) (by decide) (by decide) (by decide) ?_
    refine x_aload_n G dX12_count_185 rfl rfl ?_
    refine x_bipush G (v := 13) dX12_count_186 (by decide) ?_
    obtain ⟨v_26, hv_26, hf⟩ := bnd hf
    refine x_virI G (As := [.int (13 : Int32)]) (mX12_g G.2.2.2.2.2.2.1 M hv_26) mv_X12_101 (kd148 M) cl12 rfl rfl rfl rfl rfl dX12_count_188 ?_
    exact x_iretW G hf hr dX12_count_191
  rcases ite_or hf with ⟨c_29, hf⟩ | ⟨c_29, hf⟩
  · refine x_swIn G (tgt := 192) (off := 186) (k := 13) dX12_count_6 c_29 (by decide) (by decide) (by decide) (by decide) ?_
    refine x_aload_n G dX12_count_192 rfl rfl ?_
    obtain ⟨v_28, hv_28, hf⟩ := bnd hf
    refine x_virI G (As := []) (mX12_crackedMany G.2.2.2.2.2.2.1 M hv_28) mv_X12_367 (kd148 M) cl12 rfl rfl rfl rfl rfl dX12_count_193 ?_
    exact x_iretW G hf hr dX12_count_196
  rcases ite_or hf with ⟨c_31, hf⟩ | ⟨c_31, hf⟩
  · refine x_swIn G (tgt := 197) (off := 191) (k := 14) dX12_count_6 c_31 (by decide) (by decide) (by decide) (by decide) ?_
    refine x_aload_n G dX12_count_197 rfl rfl ?_
    refine x_bipush G (v := 14) dX12_count_198 (by decide) ?_
    obtain ⟨v_30, hv_30, hf⟩ := bnd hf
    refine x_virI G (As := [.int (14 : Int32)]) (mX12_g G.2.2.2.2.2.2.1 M hv_30) mv_X12_101 (kd148 M) cl12 rfl rfl rfl rfl rfl dX12_count_200 ?_
    exact x_iretW G hf hr dX12_count_203
  rcases ite_or hf with ⟨c_33, hf⟩ | ⟨c_33, hf⟩
  · refine x_swIn G (tgt := 204) (off := 198) (k := 15) dX12_count_6 c_33 (by decide) (by decide) (by decide) (by decide) ?_
    refine x_aload_n G dX12_count_204 rfl rfl ?_
    refine x_bipush G (v := 15) dX12_count_205 (by decide) ?_
    obtain ⟨v_32, hv_32, hf⟩ := bnd hf
    refine x_virI G (As := [.int (15 : Int32)]) (mX12_g G.2.2.2.2.2.2.1 M hv_32) mv_X12_101 (kd148 M) cl12 rfl rfl rfl rfl rfl dX12_count_207 ?_
    exact x_iretW G hf hr dX12_count_210
  rcases ite_or hf with ⟨c_34, hf⟩ | ⟨c_34, hf⟩
  · refine x_swIn G (tgt := 211) (off := 205) (k := 16) dX12_count_6 c_34 (by decide) (by decide) (by decide) (by decide) ?_
    refine x_aload_n G dX12_count_211 rfl rfl ?_
    refine x_getI G (kd148 M) 21 rfl cl12 rfl wf_X12_79 dX12_count_212 ?_
    exact x_iretW G hf hr dX12_count_215
  rcases ite_or hf with ⟨c_36, hf⟩ | ⟨c_36, hf⟩
  · refine x_swIn G (tgt := 216) (off := 210) (k := 17) dX12_count_6 c_36 (by decide) (by decide) (by decide) (by decide) ?_
    refine x_aload_n G dX12_count_216 rfl rfl ?_
    refine x_bipush G (v := 16) dX12_count_217 (by decide) ?_
    obtain ⟨v_35, hv_35, hf⟩ := bnd hf
    refine x_virI G (As := [.int (16 : Int32)]) (mX12_g G.2.2.2.2.2.2.1 M hv_35) mv_X12_101 (kd148 M) cl12 rfl rfl rfl rfl rfl dX12_count_219 ?_
    exact x_iretW G hf hr dX12_count_222
  rcases ite_or hf with ⟨c_37, hf⟩ | ⟨c_37, hf⟩
  · refine x_swIn G (tgt := 223) (off := 217) (k := 18) dX12_count_6 c_37 (by decide) (by decide) (by decide) (by decide) ?_
    refine x_aload_n G dX12_count_223 rfl rfl ?_
    refine x_getI G (kd148 M) 2 rfl cl12 rfl wf_X12_88 dX12_count_224 ?_
    exact x_iretW G hf hr dX12_count_227
  refine x_swDef G (tgt := 228) dX12_count_6 (by decide) [0, 1, 2, 3, 4, 5, 6, 7, 8, 9, 10, 11, 12, 13, 14, 15, 16, 17, 18] (List.forall_mem_cons.mpr ⟨nek c_3 (by decide), (List.forall_mem_cons.mpr ⟨nek c_5 (by decide), (List.forall_mem_cons.mpr ⟨nek c_7 (by decide), (List.forall_mem_cons.mpr ⟨nek c_9 (by decide), (List.forall_mem_cons.mpr ⟨nek c_11 (by decide), (List.forall_mem_cons.mpr ⟨nek c_13 (by decide), (List.forall_mem_cons.mpr ⟨nek c_15 (by decide), (List.forall_mem_cons.mpr ⟨nek c_17 (by decide), (List.forall_mem_cons.mpr ⟨nek c_19 (by decide), (List.forall_mem_cons.mpr ⟨nek c_21 (by decide), (List.forall_mem_cons.mpr ⟨nek c_23 (by decide), (List.forall_mem_cons.mpr ⟨nek c_25 (by decide), (List.forall_mem_cons.mpr ⟨nek c_27 (by decide), (List.forall_mem_cons.mpr ⟨nek c_29 (by decide), (List.forall_mem_cons.mpr ⟨nek c_31 (by decide), (List.forall_mem_cons.mpr ⟨nek c_33 (by decide), (List.forall_mem_cons.mpr ⟨nek c_34 (by decide), (List.forall_mem_cons.mpr ⟨nek c_36 (by decide), (List.forall_mem_cons.mpr ⟨nek c_37 (by decide), (fun _ h => absurd h List.not_mem_nil)⟩)⟩)⟩)⟩)⟩)⟩)⟩)⟩)⟩)⟩)⟩)⟩)⟩)⟩)⟩)⟩)⟩)⟩)⟩) (by decide +kernel) ?_
  refine x_iconst G (v := -1) dX12_count_228 (by decide) ?_
  exact x_iretW G hf hr dX12_count_229

theorem mX12_count {l : Launch} {S : KS} {w : Wd} (hI : Inj S) (M : Main S) {v1 : Int32} {r : Int32 × Wd} (hf : fX12_count v1 w = some r) : CI l yX12_count cX12_count 2 (some .int) 3 S [.ref 148, .int v1] w r.1 r.2 := by
  intro sz
  refine mk_entry rfl (by decide +kernel) hI 0 rfl rfl (fun K h1 h2 h3 h4 h5 h6 G => ?_)
  subst h2
  exact xX12_count_e G M hf ⟨h3, by rw [h4, h6], h5⟩

set_option maxHeartbeats 4000000 in
set_option maxRecDepth 100000 in
theorem xX12_telling_5 {K : KT} {w : Wd} {r : Int32} (G : GK K cX12_telling RX12 5 2) (M : Main K.ks) (hr : RI K .int r w) : ∀ (n : Nat) (v1 : Int32) (v2 : Int32) (v3 : Int32) (v4 : Int32), fX12_telling_5 w n v1 v2 v3 v4 = some r → XW K 5 [some (.ref 148), some (.int v1), some (.int v2), some (.int v3), some (.int v4)] [] w := by
  intro n
  induction n with
  | zero =>
    intro v1 v2 v3 v4 hf
    unfold fX12_telling_5 at hf
    cases hf
  | succ n ih =>
    intro v1 v2 v3 v4 hf
    unfold fX12_telling_5 at hf
    refine x_iload G dX12_telling_5 rfl ?_
    refine x_aload_n G dX12_telling_7 rfl rfl ?_
    refine x_bipush G (v := 16) dX12_telling_8 (by decide) ?_
    obtain ⟨v_1, hv_1, hf⟩ := bnd hf
    refine x_virI G (As := [.int (16 : Int32)]) (mX12_g G.2.2.2.2.2.2.1 M hv_1) mv_X12_101 (kd148 M) cl12 rfl rfl rfl rfl rfl dX12_telling_10 ?_
    refine x_icmpge G (tgt := 67) dX12_telling_13 (by decide) hf (fun c_2 hf => ?_) (fun c_2 hf => ?_)
    · refine x_aload_n G dX12_telling_16 rfl rfl ?_
      refine x_getR G (kd148 M) 1 (b := 149) rfl cl12 rfl wf_X12_13 dX12_telling_17 ?_
      refine x_sipush G (v := 2500) dX12_telling_20 (by decide) ?_
      refine x_iconst G (v := 4) dX12_telling_23 (by decide) ?_
      refine x_iload G dX12_telling_24 rfl ?_
      refine x_imul G dX12_telling_26 ?_
      refine x_iadd G dX12_telling_27 ?_
      refine x_iald G (kd149 M) dX12_telling_28 hf (fun hb_3 hf => ?_)
      refine x_iload_n G dX12_telling_29 rfl rfl ?_
      refine x_icmpne G (tgt := 61) dX12_telling_30 (by decide) hf (fun c_4 hf => ?_) (fun c_4 hf => ?_)
      · refine x_aload_n G dX12_telling_33 rfl rfl ?_
        refine x_getR G (kd148 M) 1 (b := 149) rfl cl12 rfl wf_X12_13 dX12_telling_34 ?_
        refine x_sipush G (v := 2500) dX12_telling_37 (by decide) ?_
        refine x_iconst G (v := 4) dX12_telling_40 (by decide) ?_
        refine x_iload G dX12_telling_41 rfl ?_
        refine x_imul G dX12_telling_43 ?_
        refine x_iadd G dX12_telling_44 ?_
        refine x_iconst G (v := 3) dX12_telling_45 (by decide) ?_
        refine x_iadd G dX12_telling_46 ?_
        refine x_iald G (kd149 M) dX12_telling_47 hf (fun hb_5 hf => ?_)
        refine x_iload_n G dX12_telling_48 rfl rfl ?_
        refine x_icmpgt G (tgt := 61) dX12_telling_49 (by decide) hf (fun c_6 hf => ?_) (fun c_6 hf => ?_)
        · refine x_iinc G (lv' := [some (.ref 148), some (.int v1), some (.int v2), some (.int v3), some (.int (v4 + (1 : Int32)))]) (v := 1) dX12_telling_61 rfl (by decide) rfl rfl rfl ?_
          refine x_goto G (tgt := 5) dX12_telling_64 (by decide) ?_
          exact XW.sub (lv' := [some (.ref 148), some (.int v1), some (.int v2), some (.int v3), some (.int (v4 + (1 : Int32)))]) (And.intro rfl (And.intro rfl (And.intro rfl (And.intro rfl (And.intro rfl trivial))))) (ih _ _ _ _ hf)
        · refine x_sipush G (v := 2500) dX12_telling_52 (by decide) ?_
          refine x_iconst G (v := 4) dX12_telling_55 (by decide) ?_
          refine x_iload G dX12_telling_56 rfl ?_
          refine x_imul G dX12_telling_58 ?_
          refine x_iadd G dX12_telling_59 ?_
          refine x_istore_n G (lv' := [some (.ref 148), some (.int v1), some (.int v2), some (.int ((2500 : Int32) + ((4 : Int32) * v4))), some (.int v4)]) dX12_telling_60 rfl rfl rfl rfl ?_
          refine x_iinc G (lv' := [some (.ref 148), some (.int v1), some (.int v2), some (.int ((2500 : Int32) + ((4 : Int32) * v4))), some (.int (v4 + (1 : Int32)))]) (v := 1) dX12_telling_61 rfl (by decide) rfl rfl rfl ?_
          refine x_goto G (tgt := 5) dX12_telling_64 (by decide) ?_
          exact XW.sub (lv' := [some (.ref 148), some (.int v1), some (.int v2), some (.int ((2500 : Int32) + ((4 : Int32) * v4))), some (.int (v4 + (1 : Int32)))]) (And.intro rfl (And.intro rfl (And.intro rfl (And.intro rfl (And.intro rfl trivial))))) (ih _ _ _ _ hf)
      · refine x_iinc G (lv' := [some (.ref 148), some (.int v1), some (.int v2), some (.int v3), some (.int (v4 + (1 : Int32)))]) (v := 1) dX12_telling_61 rfl (by decide) rfl rfl rfl ?_
        refine x_goto G (tgt := 5) dX12_telling_64 (by decide) ?_
        exact XW.sub (lv' := [some (.ref 148), some (.int v1), some (.int v2), some (.int v3), some (.int (v4 + (1 : Int32)))]) (And.intro rfl (And.intro rfl (And.intro rfl (And.intro rfl (And.intro rfl trivial))))) (ih _ _ _ _ hf)
    · refine x_iload_n G dX12_telling_67 rfl rfl ?_
      exact x_iretP G hf hr dX12_telling_68

set_option maxHeartbeats 4000000 in
set_option maxRecDepth 100000 in
theorem xX12_telling_e {K : KT} {v1 : Int32} {v2 : Int32} {w : Wd} {r : Int32} (G : GK K cX12_telling RX12 5 2) (M : Main K.ks) (hf : fX12_telling v1 v2 w = some r) (hr : RI K .int r w) : XW K 0 [some (.ref 148), some (.int v1), some (.int v2), none, none] [] w := by
  unfold fX12_telling at hf
  refine x_iconst G (v := -1) dX12_telling_0 (by decide) ?_
  refine x_istore_n G (lv' := [some (.ref 148), some (.int v1), some (.int v2), some (.int (-1 : Int32)), none]) dX12_telling_1 rfl rfl rfl rfl ?_
  refine x_iconst G (v := 0) dX12_telling_2 (by decide) ?_
  refine x_istore G (lv' := [some (.ref 148), some (.int v1), some (.int v2), some (.int (-1 : Int32)), some (.int (0 : Int32))]) dX12_telling_3 rfl rfl rfl ?_
  exact XW.sub (lv' := [some (.ref 148), some (.int v1), some (.int v2), some (.int (-1 : Int32)), some (.int (0 : Int32))]) (And.intro rfl (And.intro rfl (And.intro rfl (And.intro rfl (And.intro rfl trivial))))) (xX12_telling_5 G M hr FU _ _ _ _ hf)

theorem mX12_telling {l : Launch} {S : KS} {w : Wd} (hI : Inj S) (M : Main S) {v1 : Int32} {v2 : Int32} {r : Int32} (hf : fX12_telling v1 v2 w = some r) : CI l yX12_telling cX12_telling 5 (some .int) 2 S [.ref 148, .int v1, .int v2] w r w := by
  intro sz
  refine mk_entry rfl (by decide +kernel) hI 2 rfl rfl (fun K h1 h2 h3 h4 h5 h6 G => ?_)
  subst h2
  exact xX12_telling_e G M hf ⟨h3, by rw [h4, h6], h5⟩

set_option maxHeartbeats 4000000 in
set_option maxRecDepth 100000 in
theorem xX12_cross_e {K : KT} {v1 : Int32} {v2 : Int32} {v3 : Int32} {w : Wd} {r : Int32 × Wd} (G : GK K cX12_cross RX12 7 4) (M : Main K.ks) (hf : fX12_cross v1 v2 v3 w = some r) (hr : RI K .int r.1 r.2) : XW K 0 [some (.ref 148), some (.int v1), some (.int v2), some (.int v3), none, none, none] [] w := by
  unfold fX12_cross at hf
  refine x_aload_n G dX12_cross_0 rfl rfl ?_
  refine x_iconst G (v := 0) dX12_cross_1 (by decide) ?_
  refine x_putI G (kd148 M) 0 rfl cl12 rfl wf_X12_1 rfl rfl rfl dX12_cross_2 ?_
  refine nwr hf (fun w_1 hf => ?_)
  refine x_aload_n G dX12_cross_5 rfl rfl ?_
  refine x_iload_n G dX12_cross_6 rfl rfl ?_
  refine x_iload_n G dX12_cross_7 rfl rfl ?_
  obtain ⟨v_2, hv_2, hf⟩ := bnd hf
  refine x_virI G (As := [.int v1, .int v2]) (mX12_isSpot G.2.2.2.2.2.2.1 M hv_2) mv_X12_201 (kd148 M) cl12 rfl rfl rfl rfl rfl dX12_cross_8 ?_
  refine x_ifeqB G (tgt := 26) dX12_cross_11 (by decide) hf (fun c_3 hf => ?_) (fun c_3 hf => ?_)
  · refine x_iload_n G dX12_cross_14 rfl rfl ?_
    refine x_i2l G dX12_cross_15 ?_
    refine x_lconst G (v := 0) dX12_cross_16 (by decide) ?_
    refine x_ldc2 G wl_X12_170 dX12_cross_17 ?_
    obtain ⟨v_4, hv_4, hf⟩ := bnd hf
    refine x_staI G (As := [.long v3.toInt64, .long (0 : Int64), .long (4999 : Int64)]) (mX12_in G.2.2.2.2.2.2.1 M hv_4) ms_X12_93 rfl rfl rfl rfl rfl dX12_cross_20 ?_
    refine x_ifneB G (tgt := 28) dX12_cross_23 (by decide) hf (fun c_5 hf => ?_) (fun c_5 hf => ?_)
    · refine x_aload_n G dX12_cross_28 rfl rfl ?_
      refine x_iload_n G dX12_cross_29 rfl rfl ?_
      refine x_iload_n G dX12_cross_30 rfl rfl ?_
      obtain ⟨v_6, hv_6, hf⟩ := bnd hf
      refine x_virI G (As := [.int v1, .int v2]) (mX12_spot G.2.2.2.2.2.2.1 M hv_6) mv_X12_185 (kd148 M) cl12 rfl rfl rfl rfl rfl dX12_cross_31 ?_
      refine x_istore G (lv' := [some (.ref 148), some (.int v1), some (.int v2), some (.int v3), some (.int v_6), none, none]) dX12_cross_34 rfl rfl rfl ?_
      refine x_aload_n G dX12_cross_36 rfl rfl ?_
      refine x_aload_n G dX12_cross_37 rfl rfl ?_
      refine x_getR G (kd148 M) 1 (b := 149) rfl cl12 rfl wf_X12_13 dX12_cross_38 ?_
      refine x_iload G dX12_cross_41 rfl ?_
      refine x_iconst G (v := 0) dX12_cross_43 (by decide) ?_
      refine x_iadd G dX12_cross_44 ?_
      refine x_iald G (kd149 M) dX12_cross_45 hf (fun hb_7 hf => ?_)
      refine x_iload_n G dX12_cross_46 rfl rfl ?_
      obtain ⟨v_8, hv_8, hf⟩ := bnd hf
      refine x_virI G (As := [.int (ri w_1 149 (v_6 + (0 : Int32))), .int v3]) (mX12_telling G.2.2.2.2.2.2.1 M hv_8) mv_X12_167 (kd148 M) cl12 rfl rfl rfl rfl rfl dX12_cross_47 ?_
      refine x_istore G (lv' := [some (.ref 148), some (.int v1), some (.int v2), some (.int v3), some (.int v_6), some (.int v_8), none]) dX12_cross_50 rfl rfl rfl ?_
      refine x_iload G dX12_cross_52 rfl ?_
      refine x_iconst G (v := -1) dX12_cross_54 (by decide) ?_
      refine x_icmpeq G (tgt := 71) dX12_cross_55 (by decide) hf (fun c_9 hf => ?_) (fun c_9 hf => ?_)
      · refine x_iconst G (v := 0) dX12_cross_71 (by decide) ?_
        exact x_iretW G hf hr dX12_cross_72
      · refine x_aload_n G dX12_cross_58 rfl rfl ?_
        refine x_getR G (kd148 M) 1 (b := 149) rfl cl12 rfl wf_X12_13 dX12_cross_59 ?_
        refine x_iload G dX12_cross_62 rfl ?_
        refine x_iconst G (v := 1) dX12_cross_64 (by decide) ?_
        refine x_iadd G dX12_cross_65 ?_
        refine x_iald G (kd149 M) dX12_cross_66 hf (fun hb_10 hf => ?_)
        refine x_iconst G (v := -1) dX12_cross_67 (by decide) ?_
        refine x_icmpne G (tgt := 73) dX12_cross_68 (by decide) hf (fun c_11 hf => ?_) (fun c_11 hf => ?_)
        · refine x_iconst G (v := 0) dX12_cross_71 (by decide) ?_
          exact x_iretW G hf hr dX12_cross_72
        · refine x_aload_n G dX12_cross_73 rfl rfl ?_
          refine x_getR G (kd148 M) 1 (b := 149) rfl cl12 rfl wf_X12_13 dX12_cross_74 ?_
          refine x_iload G dX12_cross_77 rfl ?_
          refine x_iconst G (v := 1) dX12_cross_79 (by decide) ?_
          refine x_iadd G dX12_cross_80 ?_
          refine x_iald G (kd149 M) dX12_cross_81 hf (fun hb_12 hf => ?_)
          refine x_aload_n G dX12_cross_82 rfl rfl ?_
          refine x_getR G (kd148 M) 1 (b := 149) rfl cl12 rfl wf_X12_13 dX12_cross_83 ?_
          refine x_iload G dX12_cross_86 rfl ?_
          refine x_iconst G (v := 2) dX12_cross_88 (by decide) ?_
          refine x_iadd G dX12_cross_89 ?_
          refine x_iald G (kd149 M) dX12_cross_90 hf (fun hb_13 hf => ?_)
          refine x_isub G dX12_cross_91 ?_
          refine x_istore G (lv' := [some (.ref 148), some (.int v1), some (.int v2), some (.int v3), some (.int v_6), some (.int v_8), some (.int ((ri w_1 149 (v_6 + (1 : Int32))) - (ri w_1 149 (v_8 + (2 : Int32)))))]) dX12_cross_92 rfl rfl rfl ?_
          refine x_iload G dX12_cross_94 rfl ?_
          refine x_iconst G (v := 3) dX12_cross_96 (by decide) ?_
          refine x_icmplt G (tgt := 104) dX12_cross_97 (by decide) hf (fun c_14 hf => ?_) (fun c_14 hf => ?_)
          · refine x_iload G dX12_cross_104 rfl ?_
            refine x_bipush G (v := -3) dX12_cross_106 (by decide) ?_
            refine x_icmpgt G (tgt := 115) dX12_cross_108 (by decide) hf (fun c_15 hf => ?_) (fun c_15 hf => ?_)
            · refine x_iconst G (v := 3) dX12_cross_115 (by decide) ?_
              exact x_iretW G hf hr dX12_cross_116
            · refine x_iconst G (v := 2) dX12_cross_111 (by decide) ?_
              refine x_goto G (tgt := 116) dX12_cross_112 (by decide) ?_
              exact x_iretW G hf hr dX12_cross_116
          · refine x_iconst G (v := 1) dX12_cross_100 (by decide) ?_
            refine x_goto G (tgt := 116) dX12_cross_101 (by decide) ?_
            exact x_iretW G hf hr dX12_cross_116
    · refine x_iconst G (v := -1) dX12_cross_26 (by decide) ?_
      exact x_iretW G hf hr dX12_cross_27
  · refine x_iconst G (v := -1) dX12_cross_26 (by decide) ?_
    exact x_iretW G hf hr dX12_cross_27

theorem mX12_cross {l : Launch} {S : KS} {w : Wd} (hI : Inj S) (M : Main S) {v1 : Int32} {v2 : Int32} {v3 : Int32} {r : Int32 × Wd} (hf : fX12_cross v1 v2 v3 w = some r) : CI l yX12_cross cX12_cross 7 (some .int) 4 S [.ref 148, .int v1, .int v2, .int v3] w r.1 r.2 := by
  intro sz
  refine mk_entry rfl (by decide +kernel) hI 3 rfl rfl (fun K h1 h2 h3 h4 h5 h6 G => ?_)
  subst h2
  exact xX12_cross_e G M hf ⟨h3, by rw [h4, h6], h5⟩

set_option maxHeartbeats 4000000 in
set_option maxRecDepth 100000 in
theorem xX12_tells_e {K : KT} {v1 : Int32} {v2 : Int32} {v3 : Int32} {w : Wd} {r : Int32 × Wd} (G : GK K cX12_tells RX12 5 3) (M : Main K.ks) (hf : fX12_tells v1 v2 v3 w = some r) (hr : RI K .int r.1 r.2) : XW K 0 [some (.ref 148), some (.int v1), some (.int v2), some (.int v3), none] [] w := by
  unfold fX12_tells at hf
  refine x_sipush G (v := 2500) dX12_tells_0 (by decide) ?_
  refine x_iconst G (v := 4) dX12_tells_3 (by decide) ?_
  refine x_aload_n G dX12_tells_4 rfl rfl ?_
  refine x_bipush G (v := 16) dX12_tells_5 (by decide) ?_
  obtain ⟨v_1, hv_1, hf⟩ := bnd hf
  refine x_virI G (As := [.int (16 : Int32)]) (mX12_g G.2.2.2.2.2.2.1 M hv_1) mv_X12_101 (kd148 M) cl12 rfl rfl rfl rfl rfl dX12_tells_7 ?_
  refine x_imul G dX12_tells_10 ?_
  refine x_iadd G dX12_tells_11 ?_
  refine x_istore G (lv' := [some (.ref 148), some (.int v1), some (.int v2), some (.int v3), some (.int ((2500 : Int32) + ((4 : Int32) * v_1)))]) dX12_tells_12 rfl rfl rfl ?_
  refine x_aload_n G dX12_tells_14 rfl rfl ?_
  refine x_getR G (kd148 M) 1 (b := 149) rfl cl12 rfl wf_X12_13 dX12_tells_15 ?_
  refine x_iload G dX12_tells_18 rfl ?_
  refine x_iload_n G dX12_tells_20 rfl rfl ?_
  refine x_iast G (kd149 M) dX12_tells_21 hf (fun hb_2 hf => ?_)
  refine nwr hf (fun w_3 hf => ?_)
  refine x_aload_n G dX12_tells_22 rfl rfl ?_
  refine x_getR G (kd148 M) 1 (b := 149) rfl cl12 rfl wf_X12_13 dX12_tells_23 ?_
  refine x_iload G dX12_tells_26 rfl ?_
  refine x_iconst G (v := 1) dX12_tells_28 (by decide) ?_
  refine x_iadd G dX12_tells_29 ?_
  refine x_iload_n G dX12_tells_30 rfl rfl ?_
  refine x_iast G (kd149 M) dX12_tells_31 hf (fun hb_4 hf => ?_)
  refine nwr hf (fun w_5 hf => ?_)
  refine x_aload_n G dX12_tells_32 rfl rfl ?_
  refine x_getR G (kd148 M) 1 (b := 149) rfl cl12 rfl wf_X12_13 dX12_tells_33 ?_
  refine x_iload G dX12_tells_36 rfl ?_
  refine x_iconst G (v := 2) dX12_tells_38 (by decide) ?_
  refine x_iadd G dX12_tells_39 ?_
  refine x_iload_n G dX12_tells_40 rfl rfl ?_
  refine x_iast G (kd149 M) dX12_tells_41 hf (fun hb_6 hf => ?_)
  refine nwr hf (fun w_7 hf => ?_)
  refine x_aload_n G dX12_tells_42 rfl rfl ?_
  refine x_getR G (kd148 M) 1 (b := 149) rfl cl12 rfl wf_X12_13 dX12_tells_43 ?_
  refine x_iload G dX12_tells_46 rfl ?_
  refine x_iconst G (v := 3) dX12_tells_48 (by decide) ?_
  refine x_iadd G dX12_tells_49 ?_
  refine x_aload_n G dX12_tells_50 rfl rfl ?_
  obtain ⟨v_8, hv_8, hf⟩ := bnd hf
  refine x_virI G (As := []) (mX12_day G.2.2.2.2.2.2.1 M hv_8) mv_X12_159 (kd148 M) cl12 rfl rfl rfl rfl rfl dX12_tells_51 ?_
  refine x_iast G (kd149 M) dX12_tells_54 hf (fun hb_9 hf => ?_)
  refine nwr hf (fun w_10 hf => ?_)
  refine x_aload_n G dX12_tells_55 rfl rfl ?_
  refine x_getR G (kd148 M) 1 (b := 149) rfl cl12 rfl wf_X12_13 dX12_tells_56 ?_
  refine x_sipush G (v := 4316) dX12_tells_59 (by decide) ?_
  refine x_dup2 G dX12_tells_62 rfl rfl ?_
  refine x_iald0 G (kd149 M) dX12_tells_63 (by decide) ?_
  refine x_iconst G (v := 1) dX12_tells_64 (by decide) ?_
  refine x_iadd G dX12_tells_65 ?_
  refine x_iast0 G (kd149 M) dX12_tells_66 (by decide) ?_
  refine nwr hf (fun w_11 hf => ?_)
  refine x_aload_n G dX12_tells_67 rfl rfl ?_
  refine x_bipush G (v := 16) dX12_tells_68 (by decide) ?_
  obtain ⟨v_12, hv_12, hf⟩ := bnd hf
  refine x_virI G (As := [.int (16 : Int32)]) (mX12_g G.2.2.2.2.2.2.1 M hv_12) mv_X12_101 (kd148 M) cl12 rfl rfl rfl rfl rfl dX12_tells_70 ?_
  exact x_iretW G hf hr dX12_tells_73

theorem mX12_tells {l : Launch} {S : KS} {w : Wd} (hI : Inj S) (M : Main S) {v1 : Int32} {v2 : Int32} {v3 : Int32} {r : Int32 × Wd} (hf : fX12_tells v1 v2 v3 w = some r) : CI l yX12_tells cX12_tells 5 (some .int) 3 S [.ref 148, .int v1, .int v2, .int v3] w r.1 r.2 := by
  intro sz
  refine mk_entry rfl (by decide +kernel) hI 1 rfl rfl (fun K h1 h2 h3 h4 h5 h6 G => ?_)
  subst h2
  exact xX12_tells_e G M hf ⟨h3, by rw [h4, h6], h5⟩

set_option maxHeartbeats 4000000 in
set_option maxRecDepth 100000 in
theorem xX12_cut_67 {K : KT} {v1 : Int32} {w : Wd} {r : Int32 × Wd} (G : GK K cX12_cut RX12 4 4) (M : Main K.ks) (hf : fX12_cut_67 v1 w = some r) (hr : RI K .int r.1 r.2) : XW K 67 [some (.ref 148), some (.int v1), none, none] [] w := by
  unfold fX12_cut_67 at hf
  refine x_aload_n G dX12_cut_67 rfl rfl ?_
  refine x_bipush G (v := 16) dX12_cut_68 (by decide) ?_
  obtain ⟨v_1, hv_1, hf⟩ := bnd hf
  refine x_virI G (As := [.int (16 : Int32)]) (mX12_g G.2.2.2.2.2.2.1 M hv_1) mv_X12_101 (kd148 M) cl12 rfl rfl rfl rfl rfl dX12_cut_70 ?_
  refine x_sipush G (v := 200) dX12_cut_73 (by decide) ?_
  refine x_icmpne G (tgt := 82) dX12_cut_76 (by decide) hf (fun c_2 hf => ?_) (fun c_2 hf => ?_)
  · refine x_bipush G (v := -2) dX12_cut_79 (by decide) ?_
    exact x_iretW G hf hr dX12_cut_81
  · refine x_aload_n G dX12_cut_82 rfl rfl ?_
    refine x_iload_n G dX12_cut_83 rfl rfl ?_
    refine x_aload_n G dX12_cut_84 rfl rfl ?_
    refine x_iload_n G dX12_cut_85 rfl rfl ?_
    refine x_bipush G (v := 6) dX12_cut_86 (by decide) ?_
    obtain ⟨v_3, hv_3, hf⟩ := bnd hf
    refine x_virI G (As := [.int v1, .int (6 : Int32)]) (mX12_c G.2.2.2.2.2.2.1 M hv_3) mv_X12_117 (kd148 M) cl12 rfl rfl rfl rfl rfl dX12_cut_88 ?_
    refine x_aload_n G dX12_cut_91 rfl rfl ?_
    refine x_iload_n G dX12_cut_92 rfl rfl ?_
    refine x_bipush G (v := 7) dX12_cut_93 (by decide) ?_
    obtain ⟨v_4, hv_4, hf⟩ := bnd hf
    refine x_virI G (As := [.int v1, .int (7 : Int32)]) (mX12_c G.2.2.2.2.2.2.1 M hv_4) mv_X12_117 (kd148 M) cl12 rfl rfl rfl rfl rfl dX12_cut_95 ?_
    obtain ⟨v_5, hv_5, hf⟩ := bnd hf
    refine x_virI G (As := [.int v1, .int v_3, .int v_4]) (mX12_tells G.2.2.2.2.2.2.1 M hv_5) mv_X12_163 (kd148 M) cl12 rfl rfl rfl rfl rfl dX12_cut_98 ?_
    refine x_istore_n G (lv' := [some (.ref 148), some (.int v1), none, some (.int v_5.1)]) dX12_cut_101 rfl rfl rfl rfl ?_
    refine x_iconst G (v := 1) dX12_cut_102 (by decide) ?_
    exact x_iretW G hf hr dX12_cut_103

set_option maxHeartbeats 4000000 in
set_option maxRecDepth 100000 in
theorem xX12_cut_e {K : KT} {v1 : Int32} {w : Wd} {r : Int32 × Wd} (G : GK K cX12_cut RX12 4 4) (M : Main K.ks) (hf : fX12_cut v1 w = some r) (hr : RI K .int r.1 r.2) : XW K 0 [some (.ref 148), some (.int v1), none, none] [] w := by
  unfold fX12_cut at hf
  refine x_aload_n G dX12_cut_0 rfl rfl ?_
  refine x_iconst G (v := 0) dX12_cut_1 (by decide) ?_
  refine x_putI G (kd148 M) 0 rfl cl12 rfl wf_X12_1 rfl rfl rfl dX12_cut_2 ?_
  refine nwr hf (fun w_1 hf => ?_)
  refine x_iload_n G dX12_cut_5 rfl rfl ?_
  obtain ⟨v_2, hv_2, hf⟩ := bnd hf
  refine x_staI G (As := [.int v1]) (mX12_isCell G.2.2.2.2.2.2.1 M hv_2) ms_X12_105 rfl rfl rfl rfl rfl dX12_cut_6 ?_
  refine x_ifneB G (tgt := 14) dX12_cut_9 (by decide) hf (fun c_3 hf => ?_) (fun c_3 hf => ?_)
  · refine x_aload_n G dX12_cut_14 rfl rfl ?_
    refine x_iload_n G dX12_cut_15 rfl rfl ?_
    refine x_aload_n G dX12_cut_16 rfl rfl ?_
    obtain ⟨v_4, hv_4, hf⟩ := bnd hf
    refine x_virI G (As := []) (mX12_day G.2.2.2.2.2.2.1 M hv_4) mv_X12_159 (kd148 M) cl12 rfl rfl rfl rfl rfl dX12_cut_17 ?_
    obtain ⟨v_5, hv_5, hf⟩ := bnd hf
    refine x_virI G (As := [.int v1, .int v_4]) (mX12_telling G.2.2.2.2.2.2.1 M hv_5) mv_X12_167 (kd148 M) cl12 rfl rfl rfl rfl rfl dX12_cut_20 ?_
    refine x_istore_n G (lv' := [some (.ref 148), some (.int v1), some (.int v_5), none]) dX12_cut_23 rfl rfl rfl rfl ?_
    refine x_iload_n G dX12_cut_24 rfl rfl ?_
    refine x_iconst G (v := -1) dX12_cut_25 (by decide) ?_
    refine x_icmpeq G (tgt := 67) dX12_cut_26 (by decide) hf (fun c_6 hf => ?_) (fun c_6 hf => ?_)
    · exact XW.sub (lv' := [some (.ref 148), some (.int v1), none, none]) (And.intro rfl (And.intro rfl trivial)) (xX12_cut_67 G M hf hr)
    · refine x_aload_n G dX12_cut_29 rfl rfl ?_
      refine x_getR G (kd148 M) 1 (b := 149) rfl cl12 rfl wf_X12_13 dX12_cut_30 ?_
      refine x_iload_n G dX12_cut_33 rfl rfl ?_
      refine x_iconst G (v := 1) dX12_cut_34 (by decide) ?_
      refine x_iadd G dX12_cut_35 ?_
      refine x_iald G (kd149 M) dX12_cut_36 hf (fun hb_7 hf => ?_)
      refine x_aload_n G dX12_cut_37 rfl rfl ?_
      refine x_iload_n G dX12_cut_38 rfl rfl ?_
      refine x_bipush G (v := 6) dX12_cut_39 (by decide) ?_
      obtain ⟨v_8, hv_8, hf⟩ := bnd hf
      refine x_virI G (As := [.int v1, .int (6 : Int32)]) (mX12_c G.2.2.2.2.2.2.1 M hv_8) mv_X12_117 (kd148 M) cl12 rfl rfl rfl rfl rfl dX12_cut_41 ?_
      refine x_icmpne G (tgt := 67) dX12_cut_44 (by decide) hf (fun c_9 hf => ?_) (fun c_9 hf => ?_)
      · refine x_aload_n G dX12_cut_47 rfl rfl ?_
        refine x_getR G (kd148 M) 1 (b := 149) rfl cl12 rfl wf_X12_13 dX12_cut_48 ?_
        refine x_iload_n G dX12_cut_51 rfl rfl ?_
        refine x_iconst G (v := 2) dX12_cut_52 (by decide) ?_
        refine x_iadd G dX12_cut_53 ?_
        refine x_iald G (kd149 M) dX12_cut_54 hf (fun hb_10 hf => ?_)
        refine x_aload_n G dX12_cut_55 rfl rfl ?_
        refine x_iload_n G dX12_cut_56 rfl rfl ?_
        refine x_bipush G (v := 7) dX12_cut_57 (by decide) ?_
        obtain ⟨v_11, hv_11, hf⟩ := bnd hf
        refine x_virI G (As := [.int v1, .int (7 : Int32)]) (mX12_c G.2.2.2.2.2.2.1 M hv_11) mv_X12_117 (kd148 M) cl12 rfl rfl rfl rfl rfl dX12_cut_59 ?_
        refine x_icmpne G (tgt := 67) dX12_cut_62 (by decide) hf (fun c_12 hf => ?_) (fun c_12 hf => ?_)
        · refine x_iconst G (v := 0) dX12_cut_65 (by decide) ?_
          exact x_iretW G hf hr dX12_cut_66
        · exact XW.sub (lv' := [some (.ref 148), some (.int v1), none, none]) (And.intro rfl (And.intro rfl trivial)) (xX12_cut_67 G M hf hr)
      · exact XW.sub (lv' := [some (.ref 148), some (.int v1), none, none]) (And.intro rfl (And.intro rfl trivial)) (xX12_cut_67 G M hf hr)
  · refine x_iconst G (v := -1) dX12_cut_12 (by decide) ?_
    exact x_iretW G hf hr dX12_cut_13

theorem mX12_cut {l : Launch} {S : KS} {w : Wd} (hI : Inj S) (M : Main S) {v1 : Int32} {r : Int32 × Wd} (hf : fX12_cut v1 w = some r) : CI l yX12_cut cX12_cut 4 (some .int) 4 S [.ref 148, .int v1] w r.1 r.2 := by
  intro sz
  refine mk_entry rfl (by decide +kernel) hI 2 rfl rfl (fun K h1 h2 h3 h4 h5 h6 G => ?_)
  subst h2
  exact xX12_cut_e G M hf ⟨h3, by rw [h4, h6], h5⟩

set_option maxHeartbeats 4000000 in
set_option maxRecDepth 100000 in
theorem xX12_cutOff_40 {K : KT} {v1 : Int32} {s1 : Int32} {s2 : Int32} {w : Wd} {r : Int32 × Wd} (G : GK K cX12_cutOff RX12 5 4) (M : Main K.ks) (k7 : Int32 → Wd → Option (Int32 × Wd)) (hk7 : ∀ (v1 : Int32) (w : Wd), k7 v1 w = some r → XW K 7 [some (.ref 148), some (.int v1), none, none, none] [] w) (hf : fX12_cutOff_40 k7 v1 s1 s2 w = some r) (hr : RI K .int r.1 r.2) : XW K 40 [some (.ref 148), some (.int v1), none, none, none] [.int s2, .int s1, .ref 157] w := by
  unfold fX12_cutOff_40 at hf
  refine x_zast G (kd157 M) dX12_cutOff_40 hf (fun hb_1 hf => ?_)
  refine nwr hf (fun w_2 hf => ?_)
  refine x_aload_n G dX12_cutOff_41 rfl rfl ?_
  refine x_getR G (kd148 M) 16 (b := 158) rfl cl12 rfl wf_X12_42 dX12_cutOff_42 ?_
  refine x_iload_n G dX12_cutOff_45 rfl rfl ?_
  refine x_iconst G (v := 0) dX12_cutOff_46 (by decide) ?_
  refine x_zast G (kd158 M) dX12_cutOff_47 hf (fun hb_3 hf => ?_)
  refine nwr hf (fun w_4 hf => ?_)
  refine x_iinc G (lv' := [some (.ref 148), some (.int (v1 + (1 : Int32))), none, none, none]) (v := 1) dX12_cutOff_48 rfl (by decide) rfl rfl rfl ?_
  refine x_goto G (tgt := 7) dX12_cutOff_51 (by decide) ?_
  exact XW.sub (lv' := [some (.ref 148), some (.int (v1 + (1 : Int32))), none, none, none]) (And.intro rfl (And.intro rfl trivial)) (hk7 _ _ hf)

set_option maxHeartbeats 4000000 in
set_option maxRecDepth 100000 in
theorem xX12_cutOff_39 {K : KT} {v1 : Int32} {s1 : Int32} {w : Wd} {r : Int32 × Wd} (G : GK K cX12_cutOff RX12 5 4) (M : Main K.ks) (k7 : Int32 → Wd → Option (Int32 × Wd)) (hk7 : ∀ (v1 : Int32) (w : Wd), k7 v1 w = some r → XW K 7 [some (.ref 148), some (.int v1), none, none, none] [] w) (hf : fX12_cutOff_39 k7 v1 s1 w = some r) (hr : RI K .int r.1 r.2) : XW K 39 [some (.ref 148), some (.int v1), none, none, none] [.int s1, .ref 157] w := by
  unfold fX12_cutOff_39 at hf
  refine x_iconst G (v := 0) dX12_cutOff_39 (by decide) ?_
  exact (xX12_cutOff_40 G M k7 hk7 hf hr)

set_option maxHeartbeats 4000000 in
set_option maxRecDepth 100000 in
theorem xX12_cutOff_237 {K : KT} {v3 : Int32} {s0 : Int32} {w : Wd} {r : Int32 × Wd} (G : GK K cX12_cutOff RX12 5 4) (M : Main K.ks) (k199 : Int32 → Int32 → Wd → Option (Int32 × Wd)) (hk199 : ∀ (v2 : Int32) (v3 : Int32) (w : Wd), k199 v2 v3 w = some r → XW K 199 [some (.ref 148), none, some (.int v2), some (.int v3), none] [] w) (hf : fX12_cutOff_237 k199 v3 s0 w = some r) (hr : RI K .int r.1 r.2) : XW K 237 [some (.ref 148), none, none, some (.int v3), none] [.int s0] w := by
  unfold fX12_cutOff_237 at hf
  refine x_iconst G (v := 0) dX12_cutOff_237 (by decide) ?_
  refine x_iadd G dX12_cutOff_238 ?_
  refine x_istore_n G (lv' := [some (.ref 148), none, some (.int (s0 + (0 : Int32))), some (.int v3), none]) dX12_cutOff_239 rfl rfl rfl rfl ?_
  refine x_iinc G (lv' := [some (.ref 148), none, some (.int (s0 + (0 : Int32))), some (.int (v3 + (1 : Int32))), none]) (v := 1) dX12_cutOff_240 rfl (by decide) rfl rfl rfl ?_
  refine x_goto G (tgt := 199) dX12_cutOff_243 (by decide) ?_
  exact XW.sub (lv' := [some (.ref 148), none, some (.int (s0 + (0 : Int32))), some (.int (v3 + (1 : Int32))), none]) (And.intro rfl (And.intro rfl (And.intro rfl trivial))) (hk199 _ _ _ hf)

set_option maxHeartbeats 4000000 in
set_option maxRecDepth 100000 in
theorem xX12_cutOff_199 {K : KT} {r : Int32 × Wd} (G : GK K cX12_cutOff RX12 5 4) (M : Main K.ks) (hr : RI K .int r.1 r.2) : ∀ (n : Nat) (v2 : Int32) (v3 : Int32) (w : Wd), fX12_cutOff_199 n v2 v3 w = some r → XW K 199 [some (.ref 148), none, some (.int v2), some (.int v3), none] [] w := by
  intro n
  induction n with
  | zero =>
    intro v2 v3 w hf
    unfold fX12_cutOff_199 at hf
    cases hf
  | succ n ih =>
    intro v2 v3 w hf
    unfold fX12_cutOff_199 at hf
    refine x_iload_n G dX12_cutOff_199 rfl rfl ?_
    refine x_bipush G (v := 100) dX12_cutOff_200 (by decide) ?_
    refine x_icmpge G (tgt := 246) dX12_cutOff_202 (by decide) hf (fun c_1 hf => ?_) (fun c_1 hf => ?_)
    · refine x_iload_n G dX12_cutOff_205 rfl rfl ?_
      refine x_aload_n G dX12_cutOff_206 rfl rfl ?_
      refine x_iload_n G dX12_cutOff_207 rfl rfl ?_
      refine x_iconst G (v := 2) dX12_cutOff_208 (by decide) ?_
      obtain ⟨v_2, hv_2, hf⟩ := bnd hf
      refine x_virI G (As := [.int v3, .int (2 : Int32)]) (mX12_c G.2.2.2.2.2.2.1 M hv_2) mv_X12_117 (kd148 M) cl12 rfl rfl rfl rfl rfl dX12_cutOff_209 ?_
      refine x_ifle G (tgt := 237) dX12_cutOff_212 (by decide) hf (fun c_3 hf => ?_) (fun c_3 hf => ?_)
      · refine x_aload_n G dX12_cutOff_215 rfl rfl ?_
        refine x_iload_n G dX12_cutOff_216 rfl rfl ?_
        refine x_iconst G (v := 4) dX12_cutOff_217 (by decide) ?_
        obtain ⟨v_4, hv_4, hf⟩ := bnd hf
        refine x_virI G (As := [.int v3, .int (4 : Int32)]) (mX12_c G.2.2.2.2.2.2.1 M hv_4) mv_X12_117 (kd148 M) cl12 rfl rfl rfl rfl rfl dX12_cutOff_218 ?_
        refine x_ifne G (tgt := 237) dX12_cutOff_221 (by decide) hf (fun c_5 hf => ?_) (fun c_5 hf => ?_)
        · refine x_aload_n G dX12_cutOff_224 rfl rfl ?_
          refine x_getR G (kd148 M) 16 (b := 158) rfl cl12 rfl wf_X12_42 dX12_cutOff_225 ?_
          refine x_iload_n G dX12_cutOff_228 rfl rfl ?_
          refine x_zald G (kd158 M) dX12_cutOff_229 hf (fun hb_6 hf => ?_)
          refine x_ifne G (tgt := 237) dX12_cutOff_230 (by decide) hf (fun c_7 hf => ?_) (fun c_7 hf => ?_)
          · refine x_iconst G (v := 1) dX12_cutOff_233 (by decide) ?_
            refine x_goto G (tgt := 238) dX12_cutOff_234 (by decide) ?_
            refine x_iadd G dX12_cutOff_238 ?_
            refine x_istore_n G (lv' := [some (.ref 148), none, some (.int (v2 + (1 : Int32))), some (.int v3), none]) dX12_cutOff_239 rfl rfl rfl rfl ?_
            refine x_iinc G (lv' := [some (.ref 148), none, some (.int (v2 + (1 : Int32))), some (.int (v3 + (1 : Int32))), none]) (v := 1) dX12_cutOff_240 rfl (by decide) rfl rfl rfl ?_
            refine x_goto G (tgt := 199) dX12_cutOff_243 (by decide) ?_
            exact XW.sub (lv' := [some (.ref 148), none, some (.int (v2 + (1 : Int32))), some (.int (v3 + (1 : Int32))), none]) (And.intro rfl (And.intro rfl (And.intro rfl trivial))) (ih _ _ _ hf)
          · exact XW.sub (lv' := [some (.ref 148), none, none, some (.int v3), none]) (And.intro rfl (And.intro rfl trivial)) (xX12_cutOff_237 G M (fX12_cutOff_199 n) ih hf hr)
        · exact XW.sub (lv' := [some (.ref 148), none, none, some (.int v3), none]) (And.intro rfl (And.intro rfl trivial)) (xX12_cutOff_237 G M (fX12_cutOff_199 n) ih hf hr)
      · exact XW.sub (lv' := [some (.ref 148), none, none, some (.int v3), none]) (And.intro rfl (And.intro rfl trivial)) (xX12_cutOff_237 G M (fX12_cutOff_199 n) ih hf hr)
    · refine x_iload_n G dX12_cutOff_246 rfl rfl ?_
      exact x_iretW G hf hr dX12_cutOff_247

set_option maxHeartbeats 4000000 in
set_option maxRecDepth 100000 in
theorem xX12_cutOff_160 {K : KT} {v1 : Int32} {v2 : Int32} {v3 : Int32} {s1 : Int32} {s2 : Int32} {w : Wd} {r : Int32 × Wd} (G : GK K cX12_cutOff RX12 5 4) (M : Main K.ks) (k76 : Int32 → Wd → Option (Int32 × Wd)) (hk76 : ∀ (v1 : Int32) (w : Wd), k76 v1 w = some r → XW K 76 [some (.ref 148), some (.int v1), none, none, none] [] w) (k84 : Int32 → Int32 → Wd → Option (Int32 × Wd)) (hk84 : ∀ (v1 : Int32) (v2 : Int32) (w : Wd), k84 v1 v2 w = some r → XW K 84 [some (.ref 148), some (.int v1), some (.int v2), none, none] [] w) (k113 : Int32 → Int32 → Int32 → Wd → Option (Int32 × Wd)) (hk113 : ∀ (v1 : Int32) (v2 : Int32) (v3 : Int32) (w : Wd), k113 v1 v2 v3 w = some r → XW K 113 [some (.ref 148), some (.int v1), some (.int v2), some (.int v3), none] [] w) (hf : fX12_cutOff_160 k76 k84 k113 v1 v2 v3 s1 s2 w = some r) (hr : RI K .int r.1 r.2) : XW K 160 [some (.ref 148), some (.int v1), some (.int v2), some (.int v3), none] [.int s2, .int s1, .ref 158] w := by
  unfold fX12_cutOff_160 at hf
  refine x_zast G (kd158 M) dX12_cutOff_160 hf (fun hb_1 hf => ?_)
  refine nwr hf (fun w_2 hf => ?_)
  refine x_iinc G (lv' := [some (.ref 148), some (.int v1), some (.int v2), some (.int (v3 + (1 : Int32))), none]) (v := 1) dX12_cutOff_161 rfl (by decide) rfl rfl rfl ?_
  refine x_goto G (tgt := 113) dX12_cutOff_164 (by decide) ?_
  exact XW.sub (lv' := [some (.ref 148), some (.int v1), some (.int v2), some (.int (v3 + (1 : Int32))), none]) (And.intro rfl (And.intro rfl (And.intro rfl (And.intro rfl trivial)))) (hk113 _ _ _ _ hf)

set_option maxHeartbeats 4000000 in
set_option maxRecDepth 100000 in
theorem xX12_cutOff_159 {K : KT} {v1 : Int32} {v2 : Int32} {v3 : Int32} {s1 : Int32} {w : Wd} {r : Int32 × Wd} (G : GK K cX12_cutOff RX12 5 4) (M : Main K.ks) (k76 : Int32 → Wd → Option (Int32 × Wd)) (hk76 : ∀ (v1 : Int32) (w : Wd), k76 v1 w = some r → XW K 76 [some (.ref 148), some (.int v1), none, none, none] [] w) (k84 : Int32 → Int32 → Wd → Option (Int32 × Wd)) (hk84 : ∀ (v1 : Int32) (v2 : Int32) (w : Wd), k84 v1 v2 w = some r → XW K 84 [some (.ref 148), some (.int v1), some (.int v2), none, none] [] w) (k113 : Int32 → Int32 → Int32 → Wd → Option (Int32 × Wd)) (hk113 : ∀ (v1 : Int32) (v2 : Int32) (v3 : Int32) (w : Wd), k113 v1 v2 v3 w = some r → XW K 113 [some (.ref 148), some (.int v1), some (.int v2), some (.int v3), none] [] w) (hf : fX12_cutOff_159 k76 k84 k113 v1 v2 v3 s1 w = some r) (hr : RI K .int r.1 r.2) : XW K 159 [some (.ref 148), some (.int v1), some (.int v2), some (.int v3), none] [.int s1, .ref 158] w := by
  unfold fX12_cutOff_159 at hf
  refine x_iconst G (v := 0) dX12_cutOff_159 (by decide) ?_
  exact (xX12_cutOff_160 G M k76 hk76 k84 hk84 k113 hk113 hf hr)

set_option maxHeartbeats 4000000 in
set_option maxRecDepth 100000 in
theorem xX12_cutOff_113 {K : KT} {r : Int32 × Wd} (G : GK K cX12_cutOff RX12 5 4) (M : Main K.ks) (k76 : Int32 → Wd → Option (Int32 × Wd)) (hk76 : ∀ (v1 : Int32) (w : Wd), k76 v1 w = some r → XW K 76 [some (.ref 148), some (.int v1), none, none, none] [] w) (k84 : Int32 → Int32 → Wd → Option (Int32 × Wd)) (hk84 : ∀ (v1 : Int32) (v2 : Int32) (w : Wd), k84 v1 v2 w = some r → XW K 84 [some (.ref 148), some (.int v1), some (.int v2), none, none] [] w) (hr : RI K .int r.1 r.2) : ∀ (n : Nat) (v1 : Int32) (v2 : Int32) (v3 : Int32) (w : Wd), fX12_cutOff_113 k76 k84 n v1 v2 v3 w = some r → XW K 113 [some (.ref 148), some (.int v1), some (.int v2), some (.int v3), none] [] w := by
  intro n
  induction n with
  | zero =>
    intro v1 v2 v3 w hf
    unfold fX12_cutOff_113 at hf
    cases hf
  | succ n ih =>
    intro v1 v2 v3 w hf
    unfold fX12_cutOff_113 at hf
    refine x_iload_n G dX12_cutOff_113 rfl rfl ?_
    refine x_iconst G (v := 4) dX12_cutOff_114 (by decide) ?_
    refine x_icmpge G (tgt := 167) dX12_cutOff_115 (by decide) hf (fun c_1 hf => ?_) (fun c_1 hf => ?_)
    · refine x_iload_n G dX12_cutOff_118 rfl rfl ?_
      refine x_iload_n G dX12_cutOff_119 rfl rfl ?_
      obtain ⟨v_2, hv_2, hf⟩ := bnd hf
      refine x_staI G (As := [.int v2, .int v3]) (mX12_beside G.2.2.2.2.2.2.1 M hv_2) ms_X12_173 rfl rfl rfl rfl rfl dX12_cutOff_120 ?_
      refine x_istore G (lv' := [some (.ref 148), some (.int v1), some (.int v2), some (.int v3), some (.int v_2)]) dX12_cutOff_123 rfl rfl rfl ?_
      refine x_aload_n G dX12_cutOff_125 rfl rfl ?_
      refine x_getR G (kd148 M) 16 (b := 158) rfl cl12 rfl wf_X12_42 dX12_cutOff_126 ?_
      refine x_iload_n G dX12_cutOff_129 rfl rfl ?_
      refine x_aload_n G dX12_cutOff_130 rfl rfl ?_
      refine x_getR G (kd148 M) 16 (b := 158) rfl cl12 rfl wf_X12_42 dX12_cutOff_131 ?_
      refine x_iload_n G dX12_cutOff_134 rfl rfl ?_
      refine x_zald G (kd158 M) dX12_cutOff_135 hf (fun hb_3 hf => ?_)
      refine x_ifne G (tgt := 155) dX12_cutOff_136 (by decide) hf (fun c_4 hf => ?_) (fun c_4 hf => ?_)
      · refine x_iload G dX12_cutOff_139 rfl ?_
        refine x_iconst G (v := -1) dX12_cutOff_141 (by decide) ?_
        refine x_icmpeq G (tgt := 159) dX12_cutOff_142 (by decide) hf (fun c_5 hf => ?_) (fun c_5 hf => ?_)
        · exact XW.sub (lv' := [some (.ref 148), some (.int v1), some (.int v2), some (.int v3), none]) (And.intro rfl (And.intro rfl (And.intro rfl (And.intro rfl trivial)))) (xX12_cutOff_159 G M k76 hk76 k84 hk84 (fX12_cutOff_113 k76 k84 n) ih hf hr)
        · refine x_aload_n G dX12_cutOff_145 rfl rfl ?_
          refine x_getR G (kd148 M) 16 (b := 158) rfl cl12 rfl wf_X12_42 dX12_cutOff_146 ?_
          refine x_iload G dX12_cutOff_149 rfl ?_
          refine x_zald G (kd158 M) dX12_cutOff_151 hf (fun hb_6 hf => ?_)
          refine x_ifeq G (tgt := 159) dX12_cutOff_152 (by decide) hf (fun c_7 hf => ?_) (fun c_7 hf => ?_)
          · exact XW.sub (lv' := [some (.ref 148), some (.int v1), some (.int v2), some (.int v3), none]) (And.intro rfl (And.intro rfl (And.intro rfl (And.intro rfl trivial)))) (xX12_cutOff_159 G M k76 hk76 k84 hk84 (fX12_cutOff_113 k76 k84 n) ih hf hr)
          · refine x_iconst G (v := 1) dX12_cutOff_155 (by decide) ?_
            refine x_goto G (tgt := 160) dX12_cutOff_156 (by decide) ?_
            exact XW.sub (lv' := [some (.ref 148), some (.int v1), some (.int v2), some (.int v3), none]) (And.intro rfl (And.intro rfl (And.intro rfl (And.intro rfl trivial)))) (xX12_cutOff_160 G M k76 hk76 k84 hk84 (fX12_cutOff_113 k76 k84 n) ih hf hr)
      · refine x_iconst G (v := 1) dX12_cutOff_155 (by decide) ?_
        refine x_goto G (tgt := 160) dX12_cutOff_156 (by decide) ?_
        exact XW.sub (lv' := [some (.ref 148), some (.int v1), some (.int v2), some (.int v3), none]) (And.intro rfl (And.intro rfl (And.intro rfl (And.intro rfl trivial)))) (xX12_cutOff_160 G M k76 hk76 k84 hk84 (fX12_cutOff_113 k76 k84 n) ih hf hr)
    · refine x_iload_n G dX12_cutOff_167 rfl rfl ?_
      refine x_ifne G (tgt := 180) dX12_cutOff_168 (by decide) hf (fun c_8 hf => ?_) (fun c_8 hf => ?_)
      · refine x_aload_n G dX12_cutOff_171 rfl rfl ?_
        refine x_getR G (kd148 M) 16 (b := 158) rfl cl12 rfl wf_X12_42 dX12_cutOff_172 ?_
        refine x_iload_n G dX12_cutOff_175 rfl rfl ?_
        refine x_zald G (kd158 M) dX12_cutOff_176 hf (fun hb_9 hf => ?_)
        refine x_ifeq G (tgt := 184) dX12_cutOff_177 (by decide) hf (fun c_10 hf => ?_) (fun c_10 hf => ?_)
        · refine x_iconst G (v := 0) dX12_cutOff_184 (by decide) ?_
          refine x_istore_n G (lv' := [some (.ref 148), some (.int (0 : Int32)), some (.int v2), some (.int v3), none]) dX12_cutOff_185 rfl rfl rfl rfl ?_
          refine x_iinc G (lv' := [some (.ref 148), some (.int (0 : Int32)), some (.int (v2 + (1 : Int32))), some (.int v3), none]) (v := 1) dX12_cutOff_186 rfl (by decide) rfl rfl rfl ?_
          refine x_goto G (tgt := 84) dX12_cutOff_189 (by decide) ?_
          exact XW.sub (lv' := [some (.ref 148), some (.int (0 : Int32)), some (.int (v2 + (1 : Int32))), none, none]) (And.intro rfl (And.intro rfl (And.intro rfl trivial))) (hk84 _ _ _ hf)
        · refine x_iconst G (v := 1) dX12_cutOff_180 (by decide) ?_
          refine x_goto G (tgt := 185) dX12_cutOff_181 (by decide) ?_
          refine x_istore_n G (lv' := [some (.ref 148), some (.int (1 : Int32)), some (.int v2), some (.int v3), none]) dX12_cutOff_185 rfl rfl rfl rfl ?_
          refine x_iinc G (lv' := [some (.ref 148), some (.int (1 : Int32)), some (.int (v2 + (1 : Int32))), some (.int v3), none]) (v := 1) dX12_cutOff_186 rfl (by decide) rfl rfl rfl ?_
          refine x_goto G (tgt := 84) dX12_cutOff_189 (by decide) ?_
          exact XW.sub (lv' := [some (.ref 148), some (.int (1 : Int32)), some (.int (v2 + (1 : Int32))), none, none]) (And.intro rfl (And.intro rfl (And.intro rfl trivial))) (hk84 _ _ _ hf)
      · refine x_iconst G (v := 1) dX12_cutOff_180 (by decide) ?_
        refine x_goto G (tgt := 185) dX12_cutOff_181 (by decide) ?_
        refine x_istore_n G (lv' := [some (.ref 148), some (.int (1 : Int32)), some (.int v2), some (.int v3), none]) dX12_cutOff_185 rfl rfl rfl rfl ?_
        refine x_iinc G (lv' := [some (.ref 148), some (.int (1 : Int32)), some (.int (v2 + (1 : Int32))), some (.int v3), none]) (v := 1) dX12_cutOff_186 rfl (by decide) rfl rfl rfl ?_
        refine x_goto G (tgt := 84) dX12_cutOff_189 (by decide) ?_
        exact XW.sub (lv' := [some (.ref 148), some (.int (1 : Int32)), some (.int (v2 + (1 : Int32))), none, none]) (And.intro rfl (And.intro rfl (And.intro rfl trivial))) (hk84 _ _ _ hf)

set_option maxHeartbeats 4000000 in
set_option maxRecDepth 100000 in
theorem xX12_cutOff_84 {K : KT} {r : Int32 × Wd} (G : GK K cX12_cutOff RX12 5 4) (M : Main K.ks) (k76 : Int32 → Wd → Option (Int32 × Wd)) (hk76 : ∀ (v1 : Int32) (w : Wd), k76 v1 w = some r → XW K 76 [some (.ref 148), some (.int v1), none, none, none] [] w) (hr : RI K .int r.1 r.2) : ∀ (n : Nat) (v1 : Int32) (v2 : Int32) (w : Wd), fX12_cutOff_84 k76 n v1 v2 w = some r → XW K 84 [some (.ref 148), some (.int v1), some (.int v2), none, none] [] w := by
  intro n
  induction n with
  | zero =>
    intro v1 v2 w hf
    unfold fX12_cutOff_84 at hf
    cases hf
  | succ n ih =>
    intro v1 v2 w hf
    unfold fX12_cutOff_84 at hf
    refine x_iload_n G dX12_cutOff_84 rfl rfl ?_
    refine x_bipush G (v := 100) dX12_cutOff_85 (by decide) ?_
    refine x_icmpge G (tgt := 192) dX12_cutOff_87 (by decide) hf (fun c_1 hf => ?_) (fun c_1 hf => ?_)
    · refine x_aload_n G dX12_cutOff_90 rfl rfl ?_
      refine x_getR G (kd148 M) 15 (b := 157) rfl cl12 rfl wf_X12_39 dX12_cutOff_91 ?_
      refine x_iload_n G dX12_cutOff_94 rfl rfl ?_
      refine x_zald G (kd157 M) dX12_cutOff_95 hf (fun hb_2 hf => ?_)
      refine x_ifeq G (tgt := 186) dX12_cutOff_96 (by decide) hf (fun c_3 hf => ?_) (fun c_3 hf => ?_)
      · refine x_iinc G (lv' := [some (.ref 148), some (.int v1), some (.int (v2 + (1 : Int32))), none, none]) (v := 1) dX12_cutOff_186 rfl (by decide) rfl rfl rfl ?_
        refine x_goto G (tgt := 84) dX12_cutOff_189 (by decide) ?_
        exact XW.sub (lv' := [some (.ref 148), some (.int v1), some (.int (v2 + (1 : Int32))), none, none]) (And.intro rfl (And.intro rfl (And.intro rfl trivial))) (ih _ _ _ hf)
      · refine x_aload_n G dX12_cutOff_99 rfl rfl ?_
        refine x_getR G (kd148 M) 16 (b := 158) rfl cl12 rfl wf_X12_42 dX12_cutOff_100 ?_
        refine x_iload_n G dX12_cutOff_103 rfl rfl ?_
        refine x_zald0 G (kd158 M) dX12_cutOff_104 hb_2 ?_
        refine x_ifeq G (tgt := 111) dX12_cutOff_105 (by decide) hf (fun c_4 hf => ?_) (fun c_4 hf => ?_)
        · refine x_iconst G (v := 0) dX12_cutOff_111 (by decide) ?_
          refine x_istore_n G (lv' := [some (.ref 148), some (.int v1), some (.int v2), some (.int (0 : Int32)), none]) dX12_cutOff_112 rfl rfl rfl rfl ?_
          exact XW.sub (lv' := [some (.ref 148), some (.int v1), some (.int v2), some (.int (0 : Int32)), none]) (And.intro rfl (And.intro rfl (And.intro rfl (And.intro rfl trivial)))) (xX12_cutOff_113 G M k76 hk76 (fX12_cutOff_84 k76 n) ih hr FU _ _ _ _ hf)
        · refine x_goto G (tgt := 186) dX12_cutOff_108 (by decide) ?_
          refine x_iinc G (lv' := [some (.ref 148), some (.int v1), some (.int (v2 + (1 : Int32))), none, none]) (v := 1) dX12_cutOff_186 rfl (by decide) rfl rfl rfl ?_
          refine x_goto G (tgt := 84) dX12_cutOff_189 (by decide) ?_
          exact XW.sub (lv' := [some (.ref 148), some (.int v1), some (.int (v2 + (1 : Int32))), none, none]) (And.intro rfl (And.intro rfl (And.intro rfl trivial))) (ih _ _ _ hf)
    · refine x_goto G (tgt := 76) dX12_cutOff_192 (by decide) ?_
      exact XW.sub (lv' := [some (.ref 148), some (.int v1), none, none, none]) (And.intro rfl (And.intro rfl trivial)) (hk76 _ _ hf)

set_option maxHeartbeats 4000000 in
set_option maxRecDepth 100000 in
theorem xX12_cutOff_76 {K : KT} {r : Int32 × Wd} (G : GK K cX12_cutOff RX12 5 4) (M : Main K.ks) (hr : RI K .int r.1 r.2) : ∀ (n : Nat) (v1 : Int32) (w : Wd), fX12_cutOff_76 n v1 w = some r → XW K 76 [some (.ref 148), some (.int v1), none, none, none] [] w := by
  intro n
  induction n with
  | zero =>
    intro v1 w hf
    unfold fX12_cutOff_76 at hf
    cases hf
  | succ n ih =>
    intro v1 w hf
    unfold fX12_cutOff_76 at hf
    refine x_iload_n G dX12_cutOff_76 rfl rfl ?_
    refine x_ifeq G (tgt := 195) dX12_cutOff_77 (by decide) hf (fun c_1 hf => ?_) (fun c_1 hf => ?_)
    · refine x_iconst G (v := 0) dX12_cutOff_195 (by decide) ?_
      refine x_istore_n G (lv' := [some (.ref 148), some (.int v1), some (.int (0 : Int32)), none, none]) dX12_cutOff_196 rfl rfl rfl rfl ?_
      refine x_iconst G (v := 0) dX12_cutOff_197 (by decide) ?_
      refine x_istore_n G (lv' := [some (.ref 148), some (.int v1), some (.int (0 : Int32)), some (.int (0 : Int32)), none]) dX12_cutOff_198 rfl rfl rfl rfl ?_
      exact XW.sub (lv' := [some (.ref 148), none, some (.int (0 : Int32)), some (.int (0 : Int32)), none]) (And.intro rfl (And.intro rfl (And.intro rfl trivial))) (xX12_cutOff_199 G M hr FU _ _ _ hf)
    · refine x_iconst G (v := 0) dX12_cutOff_80 (by decide) ?_
      refine x_istore_n G (lv' := [some (.ref 148), some (.int (0 : Int32)), none, none, none]) dX12_cutOff_81 rfl rfl rfl rfl ?_
      refine x_iconst G (v := 0) dX12_cutOff_82 (by decide) ?_
      refine x_istore_n G (lv' := [some (.ref 148), some (.int (0 : Int32)), some (.int (0 : Int32)), none, none]) dX12_cutOff_83 rfl rfl rfl rfl ?_
      exact XW.sub (lv' := [some (.ref 148), some (.int (0 : Int32)), some (.int (0 : Int32)), none, none]) (And.intro rfl (And.intro rfl (And.intro rfl trivial))) (xX12_cutOff_84 G M (fX12_cutOff_76 n) ih hr FU _ _ _ hf)

set_option maxHeartbeats 4000000 in
set_option maxRecDepth 100000 in
theorem xX12_cutOff_7 {K : KT} {r : Int32 × Wd} (G : GK K cX12_cutOff RX12 5 4) (M : Main K.ks) (hr : RI K .int r.1 r.2) : ∀ (n : Nat) (v1 : Int32) (w : Wd), fX12_cutOff_7 n v1 w = some r → XW K 7 [some (.ref 148), some (.int v1), none, none, none] [] w := by
  intro n
  induction n with
  | zero =>
    intro v1 w hf
    unfold fX12_cutOff_7 at hf
    cases hf
  | succ n ih =>
    intro v1 w hf
    unfold fX12_cutOff_7 at hf
    refine x_iload_n G dX12_cutOff_7 rfl rfl ?_
    refine x_bipush G (v := 100) dX12_cutOff_8 (by decide) ?_
    refine x_icmpge G (tgt := 54) dX12_cutOff_10 (by decide) hf (fun c_1 hf => ?_) (fun c_1 hf => ?_)
    · refine x_aload_n G dX12_cutOff_13 rfl rfl ?_
      refine x_getR G (kd148 M) 15 (b := 157) rfl cl12 rfl wf_X12_39 dX12_cutOff_14 ?_
      refine x_iload_n G dX12_cutOff_17 rfl rfl ?_
      refine x_aload_n G dX12_cutOff_18 rfl rfl ?_
      refine x_iload_n G dX12_cutOff_19 rfl rfl ?_
      refine x_iconst G (v := 4) dX12_cutOff_20 (by decide) ?_
      obtain ⟨v_2, hv_2, hf⟩ := bnd hf
      refine x_virI G (As := [.int v1, .int (4 : Int32)]) (mX12_c G.2.2.2.2.2.2.1 M hv_2) mv_X12_117 (kd148 M) cl12 rfl rfl rfl rfl rfl dX12_cutOff_21 ?_
      refine x_ifne G (tgt := 39) dX12_cutOff_24 (by decide) hf (fun c_3 hf => ?_) (fun c_3 hf => ?_)
      · refine x_aload_n G dX12_cutOff_27 rfl rfl ?_
        refine x_iload_n G dX12_cutOff_28 rfl rfl ?_
        obtain ⟨v_4, hv_4, hf⟩ := bnd hf
        refine x_virI G (As := [.int v1]) (mX12_isShut G.2.2.2.2.2.2.1 M hv_4) mv_X12_125 (kd148 M) cl12 rfl rfl rfl rfl rfl dX12_cutOff_29 ?_
        refine x_ifneB G (tgt := 39) dX12_cutOff_32 (by decide) hf (fun c_5 hf => ?_) (fun c_5 hf => ?_)
        · exact (xX12_cutOff_39 G M (fX12_cutOff_7 n) ih hf hr)
        · refine x_iconst G (v := 1) dX12_cutOff_35 (by decide) ?_
          refine x_goto G (tgt := 40) dX12_cutOff_36 (by decide) ?_
          exact (xX12_cutOff_40 G M (fX12_cutOff_7 n) ih hf hr)
      · exact (xX12_cutOff_39 G M (fX12_cutOff_7 n) ih hf hr)
    · refine x_aload_n G dX12_cutOff_54 rfl rfl ?_
      refine x_getR G (kd148 M) 16 (b := 158) rfl cl12 rfl wf_X12_42 dX12_cutOff_55 ?_
      refine x_aload_n G dX12_cutOff_58 rfl rfl ?_
      refine x_iconst G (v := 4) dX12_cutOff_59 (by decide) ?_
      obtain ⟨v_6, hv_6, hf⟩ := bnd hf
      refine x_virI G (As := [.int (4 : Int32)]) (mX12_g G.2.2.2.2.2.2.1 M hv_6) mv_X12_101 (kd148 M) cl12 rfl rfl rfl rfl rfl dX12_cutOff_60 ?_
      refine x_aload_n G dX12_cutOff_63 rfl rfl ?_
      refine x_getR G (kd148 M) 15 (b := 157) rfl cl12 rfl wf_X12_39 dX12_cutOff_64 ?_
      refine x_aload_n G dX12_cutOff_67 rfl rfl ?_
      refine x_iconst G (v := 4) dX12_cutOff_68 (by decide) ?_
      obtain ⟨v_7, hv_7, hf⟩ := bnd hf
      refine x_virI G (As := [.int (4 : Int32)]) (mX12_g G.2.2.2.2.2.2.1 M hv_7) mv_X12_101 (kd148 M) cl12 rfl rfl rfl rfl rfl dX12_cutOff_69 ?_
      refine x_zald G (kd157 M) dX12_cutOff_72 hf (fun hb_8 hf => ?_)
      refine x_zast G (kd158 M) dX12_cutOff_73 hf (fun hb_9 hf => ?_)
      refine nwr hf (fun w_10 hf => ?_)
      refine x_iconst G (v := 1) dX12_cutOff_74 (by decide) ?_
      refine x_istore_n G (lv' := [some (.ref 148), some (.int (1 : Int32)), none, none, none]) dX12_cutOff_75 rfl rfl rfl rfl ?_
      exact XW.sub (lv' := [some (.ref 148), some (.int (1 : Int32)), none, none, none]) (And.intro rfl (And.intro rfl trivial)) (xX12_cutOff_76 G M hr FU _ _ hf)

set_option maxHeartbeats 4000000 in
set_option maxRecDepth 100000 in
theorem xX12_cutOff_e {K : KT} {w : Wd} {r : Int32 × Wd} (G : GK K cX12_cutOff RX12 5 4) (M : Main K.ks) (hf : fX12_cutOff w = some r) (hr : RI K .int r.1 r.2) : XW K 0 [some (.ref 148), none, none, none, none] [] w := by
  unfold fX12_cutOff at hf
  refine x_aload_n G dX12_cutOff_0 rfl rfl ?_
  refine x_iconst G (v := 0) dX12_cutOff_1 (by decide) ?_
  refine x_putI G (kd148 M) 0 rfl cl12 rfl wf_X12_1 rfl rfl rfl dX12_cutOff_2 ?_
  refine nwr hf (fun w_1 hf => ?_)
  refine x_iconst G (v := 0) dX12_cutOff_5 (by decide) ?_
  refine x_istore_n G (lv' := [some (.ref 148), some (.int (0 : Int32)), none, none, none]) dX12_cutOff_6 rfl rfl rfl rfl ?_
  exact XW.sub (lv' := [some (.ref 148), some (.int (0 : Int32)), none, none, none]) (And.intro rfl (And.intro rfl trivial)) (xX12_cutOff_7 G M hr FU _ _ hf)

theorem mX12_cutOff {l : Launch} {S : KS} {w : Wd} (hI : Inj S) (M : Main S) {r : Int32 × Wd} (hf : fX12_cutOff w = some r) : CI l yX12_cutOff cX12_cutOff 5 (some .int) 4 S [.ref 148] w r.1 r.2 := by
  intro sz
  refine mk_entry rfl (by decide +kernel) hI 4 rfl rfl (fun K h1 h2 h3 h4 h5 h6 G => ?_)
  subst h2
  exact xX12_cutOff_e G M hf ⟨h3, by rw [h4, h6], h5⟩

set_option maxHeartbeats 4000000 in
set_option maxRecDepth 100000 in
theorem xX12_gangs_e {K : KT} {v1 : Int32} {v2 : Int32} {w : Wd} {r : Int32 × Wd} (G : GK K cX12_gangs RX12 4 3) (M : Main K.ks) (hf : fX12_gangs v1 v2 w = some r) (hr : RI K .int r.1 r.2) : XW K 0 [some (.ref 148), some (.int v1), some (.int v2), none] [] w := by
  unfold fX12_gangs at hf
  refine x_aload_n G dX12_gangs_0 rfl rfl ?_
  refine x_iconst G (v := 0) dX12_gangs_1 (by decide) ?_
  refine x_putI G (kd148 M) 0 rfl cl12 rfl wf_X12_1 rfl rfl rfl dX12_gangs_2 ?_
  refine nwr hf (fun w_1 hf => ?_)
  refine x_aload_n G dX12_gangs_5 rfl rfl ?_
  refine x_iload_n G dX12_gangs_6 rfl rfl ?_
  obtain ⟨v_2, hv_2, hf⟩ := bnd hf
  refine x_virI G (As := [.int v1]) (mX12_isLine G.2.2.2.2.2.2.1 M hv_2) mv_X12_188 (kd148 M) cl12 rfl rfl rfl rfl rfl dX12_gangs_7 ?_
  refine x_ifeqB G (tgt := 25) dX12_gangs_10 (by decide) hf (fun c_3 hf => ?_) (fun c_3 hf => ?_)
  · refine x_iload_n G dX12_gangs_13 rfl rfl ?_
    refine x_i2l G dX12_gangs_14 ?_
    refine x_lconst G (v := 0) dX12_gangs_15 (by decide) ?_
    refine x_ldc2 G wl_X12_199 dX12_gangs_16 ?_
    obtain ⟨v_4, hv_4, hf⟩ := bnd hf
    refine x_staI G (As := [.long v2.toInt64, .long (0 : Int64), .long (4 : Int64)]) (mX12_in G.2.2.2.2.2.2.1 M hv_4) ms_X12_93 rfl rfl rfl rfl rfl dX12_gangs_19 ?_
    refine x_ifneB G (tgt := 27) dX12_gangs_22 (by decide) hf (fun c_5 hf => ?_) (fun c_5 hf => ?_)
    · refine x_aload_n G dX12_gangs_27 rfl rfl ?_
      refine x_iload_n G dX12_gangs_28 rfl rfl ?_
      refine x_iconst G (v := 3) dX12_gangs_29 (by decide) ?_
      obtain ⟨v_6, hv_6, hf⟩ := bnd hf
      refine x_virI G (As := [.int v1, .int (3 : Int32)]) (mX12_l G.2.2.2.2.2.2.1 M hv_6) mv_X12_193 (kd148 M) cl12 rfl rfl rfl rfl rfl dX12_gangs_30 ?_
      refine x_istore_n G (lv' := [some (.ref 148), some (.int v1), some (.int v2), some (.int v_6)]) dX12_gangs_33 rfl rfl rfl rfl ?_
      refine x_aload_n G dX12_gangs_34 rfl rfl ?_
      refine x_getR G (kd148 M) 1 (b := 149) rfl cl12 rfl wf_X12_13 dX12_gangs_35 ?_
      refine x_sipush G (v := 3300) dX12_gangs_38 (by decide) ?_
      refine x_bipush G (v := 125) dX12_gangs_41 (by decide) ?_
      refine x_iload_n G dX12_gangs_43 rfl rfl ?_
      refine x_imul G dX12_gangs_44 ?_
      refine x_iadd G dX12_gangs_45 ?_
      refine x_iconst G (v := 3) dX12_gangs_46 (by decide) ?_
      refine x_iadd G dX12_gangs_47 ?_
      refine x_iload_n G dX12_gangs_48 rfl rfl ?_
      refine x_iast G (kd149 M) dX12_gangs_49 hf (fun hb_7 hf => ?_)
      refine nwr hf (fun w_8 hf => ?_)
      refine x_iload_n G dX12_gangs_50 rfl rfl ?_
      exact x_iretW G hf hr dX12_gangs_51
    · refine x_iconst G (v := -1) dX12_gangs_25 (by decide) ?_
      exact x_iretW G hf hr dX12_gangs_26
  · refine x_iconst G (v := -1) dX12_gangs_25 (by decide) ?_
    exact x_iretW G hf hr dX12_gangs_26

theorem mX12_gangs {l : Launch} {S : KS} {w : Wd} (hI : Inj S) (M : Main S) {v1 : Int32} {v2 : Int32} {r : Int32 × Wd} (hf : fX12_gangs v1 v2 w = some r) : CI l yX12_gangs cX12_gangs 4 (some .int) 3 S [.ref 148, .int v1, .int v2] w r.1 r.2 := by
  intro sz
  refine mk_entry rfl (by decide +kernel) hI 1 rfl rfl (fun K h1 h2 h3 h4 h5 h6 G => ?_)
  subst h2
  exact xX12_gangs_e G M hf ⟨h3, by rw [h4, h6], h5⟩

set_option maxHeartbeats 4000000 in
set_option maxRecDepth 100000 in
theorem xX12_forceOf_5 {K : KT} {w : Wd} {r : Int32} (G : GK K cX12_forceOf RX12 5 1) (M : Main K.ks) (hr : RI K .int r w) : ∀ (n : Nat) (v1 : Int32) (v2 : Int32) (v3 : Int32) (v4 : Int32), fX12_forceOf_5 w n v1 v2 v3 v4 = some r → XW K 5 [some (.ref 148), some (.int v1), some (.int v2), some (.int v3), some (.int v4)] [] w := by
  intro n
  induction n with
  | zero =>
    intro v1 v2 v3 v4 hf
    unfold fX12_forceOf_5 at hf
    cases hf
  | succ n ih =>
    intro v1 v2 v3 v4 hf
    unfold fX12_forceOf_5 at hf
    refine x_iload G dX12_forceOf_5 rfl ?_
    refine x_aload_n G dX12_forceOf_7 rfl rfl ?_
    refine x_getI G (kd148 M) 21 rfl cl12 rfl wf_X12_79 dX12_forceOf_8 ?_
    refine x_icmpge G (tgt := 66) dX12_forceOf_11 (by decide) hf (fun c_1 hf => ?_) (fun c_1 hf => ?_)
    · refine x_aload_n G dX12_forceOf_14 rfl rfl ?_
      refine x_getR G (kd148 M) 17 (b := 159) rfl cl12 rfl wf_X12_45 dX12_forceOf_15 ?_
      refine x_iload G dX12_forceOf_18 rfl ?_
      refine x_iald G (kd159 M) dX12_forceOf_20 hf (fun hb_2 hf => ?_)
      refine x_iload_n G dX12_forceOf_21 rfl rfl ?_
      refine x_icmpne G (tgt := 60) dX12_forceOf_22 (by decide) hf (fun c_3 hf => ?_) (fun c_3 hf => ?_)
      · refine x_aload_n G dX12_forceOf_25 rfl rfl ?_
        refine x_getR G (kd148 M) 18 (b := 160) rfl cl12 rfl wf_X12_48 dX12_forceOf_26 ?_
        refine x_iload G dX12_forceOf_29 rfl ?_
        refine x_iald0 G (kd160 M) dX12_forceOf_31 hb_2 ?_
        refine x_iload_n G dX12_forceOf_32 rfl rfl ?_
        refine x_icmpgt G (tgt := 60) dX12_forceOf_33 (by decide) hf (fun c_4 hf => ?_) (fun c_4 hf => ?_)
        · refine x_iinc G (lv' := [some (.ref 148), some (.int v1), some (.int v2), some (.int v3), some (.int (v4 + (1 : Int32)))]) (v := 1) dX12_forceOf_60 rfl (by decide) rfl rfl rfl ?_
          refine x_goto G (tgt := 5) dX12_forceOf_63 (by decide) ?_
          exact XW.sub (lv' := [some (.ref 148), some (.int v1), some (.int v2), some (.int v3), some (.int (v4 + (1 : Int32)))]) (And.intro rfl (And.intro rfl (And.intro rfl (And.intro rfl (And.intro rfl trivial))))) (ih _ _ _ _ hf)
        · refine x_iload_n G dX12_forceOf_36 rfl rfl ?_
          refine x_iconst G (v := -1) dX12_forceOf_37 (by decide) ?_
          refine x_icmpeq G (tgt := 57) dX12_forceOf_38 (by decide) hf (fun c_5 hf => ?_) (fun c_5 hf => ?_)
          · refine x_iload G dX12_forceOf_57 rfl ?_
            refine x_istore_n G (lv' := [some (.ref 148), some (.int v1), some (.int v2), some (.int v4), some (.int v4)]) dX12_forceOf_59 rfl rfl rfl rfl ?_
            refine x_iinc G (lv' := [some (.ref 148), some (.int v1), some (.int v2), some (.int v4), some (.int (v4 + (1 : Int32)))]) (v := 1) dX12_forceOf_60 rfl (by decide) rfl rfl rfl ?_
            refine x_goto G (tgt := 5) dX12_forceOf_63 (by decide) ?_
            exact XW.sub (lv' := [some (.ref 148), some (.int v1), some (.int v2), some (.int v4), some (.int (v4 + (1 : Int32)))]) (And.intro rfl (And.intro rfl (And.intro rfl (And.intro rfl (And.intro rfl trivial))))) (ih _ _ _ _ hf)
          · refine x_aload_n G dX12_forceOf_41 rfl rfl ?_
            refine x_getR G (kd148 M) 18 (b := 160) rfl cl12 rfl wf_X12_48 dX12_forceOf_42 ?_
            refine x_iload G dX12_forceOf_45 rfl ?_
            refine x_iald0 G (kd160 M) dX12_forceOf_47 hb_2 ?_
            refine x_aload_n G dX12_forceOf_48 rfl rfl ?_
            refine x_getR G (kd148 M) 18 (b := 160) rfl cl12 rfl wf_X12_48 dX12_forceOf_49 ?_
            refine x_iload_n G dX12_forceOf_52 rfl rfl ?_
            refine x_iald G (kd160 M) dX12_forceOf_53 hf (fun hb_6 hf => ?_)
            refine x_icmplt G (tgt := 60) dX12_forceOf_54 (by decide) hf (fun c_7 hf => ?_) (fun c_7 hf => ?_)
            · refine x_iinc G (lv' := [some (.ref 148), some (.int v1), some (.int v2), some (.int v3), some (.int (v4 + (1 : Int32)))]) (v := 1) dX12_forceOf_60 rfl (by decide) rfl rfl rfl ?_
              refine x_goto G (tgt := 5) dX12_forceOf_63 (by decide) ?_
              exact XW.sub (lv' := [some (.ref 148), some (.int v1), some (.int v2), some (.int v3), some (.int (v4 + (1 : Int32)))]) (And.intro rfl (And.intro rfl (And.intro rfl (And.intro rfl (And.intro rfl trivial))))) (ih _ _ _ _ hf)
            · refine x_iload G dX12_forceOf_57 rfl ?_
              refine x_istore_n G (lv' := [some (.ref 148), some (.int v1), some (.int v2), some (.int v4), some (.int v4)]) dX12_forceOf_59 rfl rfl rfl rfl ?_
              refine x_iinc G (lv' := [some (.ref 148), some (.int v1), some (.int v2), some (.int v4), some (.int (v4 + (1 : Int32)))]) (v := 1) dX12_forceOf_60 rfl (by decide) rfl rfl rfl ?_
              refine x_goto G (tgt := 5) dX12_forceOf_63 (by decide) ?_
              exact XW.sub (lv' := [some (.ref 148), some (.int v1), some (.int v2), some (.int v4), some (.int (v4 + (1 : Int32)))]) (And.intro rfl (And.intro rfl (And.intro rfl (And.intro rfl (And.intro rfl trivial))))) (ih _ _ _ _ hf)
      · refine x_iinc G (lv' := [some (.ref 148), some (.int v1), some (.int v2), some (.int v3), some (.int (v4 + (1 : Int32)))]) (v := 1) dX12_forceOf_60 rfl (by decide) rfl rfl rfl ?_
        refine x_goto G (tgt := 5) dX12_forceOf_63 (by decide) ?_
        exact XW.sub (lv' := [some (.ref 148), some (.int v1), some (.int v2), some (.int v3), some (.int (v4 + (1 : Int32)))]) (And.intro rfl (And.intro rfl (And.intro rfl (And.intro rfl (And.intro rfl trivial))))) (ih _ _ _ _ hf)
    · refine x_iload_n G dX12_forceOf_66 rfl rfl ?_
      exact x_iretP G hf hr dX12_forceOf_67

set_option maxHeartbeats 4000000 in
set_option maxRecDepth 100000 in
theorem xX12_forceOf_e {K : KT} {v1 : Int32} {v2 : Int32} {w : Wd} {r : Int32} (G : GK K cX12_forceOf RX12 5 1) (M : Main K.ks) (hf : fX12_forceOf v1 v2 w = some r) (hr : RI K .int r w) : XW K 0 [some (.ref 148), some (.int v1), some (.int v2), none, none] [] w := by
  unfold fX12_forceOf at hf
  refine x_iconst G (v := -1) dX12_forceOf_0 (by decide) ?_
  refine x_istore_n G (lv' := [some (.ref 148), some (.int v1), some (.int v2), some (.int (-1 : Int32)), none]) dX12_forceOf_1 rfl rfl rfl rfl ?_
  refine x_iconst G (v := 0) dX12_forceOf_2 (by decide) ?_
  refine x_istore G (lv' := [some (.ref 148), some (.int v1), some (.int v2), some (.int (-1 : Int32)), some (.int (0 : Int32))]) dX12_forceOf_3 rfl rfl rfl ?_
  exact XW.sub (lv' := [some (.ref 148), some (.int v1), some (.int v2), some (.int (-1 : Int32)), some (.int (0 : Int32))]) (And.intro rfl (And.intro rfl (And.intro rfl (And.intro rfl (And.intro rfl trivial))))) (xX12_forceOf_5 G M hr FU _ _ _ _ hf)

theorem mX12_forceOf {l : Launch} {S : KS} {w : Wd} (hI : Inj S) (M : Main S) {v1 : Int32} {v2 : Int32} {r : Int32} (hf : fX12_forceOf v1 v2 w = some r) : CI l yX12_forceOf cX12_forceOf 5 (some .int) 1 S [.ref 148, .int v1, .int v2] w r w := by
  intro sz
  refine mk_entry rfl (by decide +kernel) hI 2 rfl rfl (fun K h1 h2 h3 h4 h5 h6 G => ?_)
  subst h2
  exact xX12_forceOf_e G M hf ⟨h3, by rw [h4, h6], h5⟩

set_option maxHeartbeats 4000000 in
set_option maxRecDepth 100000 in
theorem xX12_reads_e {K : KT} {w : Wd} {r : Bool × Wd} (G : GK K cX12_reads RX12 2 201) (M : Main K.ks) (hf : fX12_reads w = some r) (hr : RI K .boolean (bI r.1) r.2) : XW K 0 [some (.ref 148), none] [] w := by
  unfold fX12_reads at hf
  refine x_aload_n G dX12_reads_0 rfl rfl ?_
  refine x_iconst G (v := 0) dX12_reads_1 (by decide) ?_
  refine x_putI G (kd148 M) 24 rfl cl12 rfl wf_X12_279 rfl rfl rfl dX12_reads_2 ?_
  refine nwr hf (fun w_1 hf => ?_)
  refine x_aload_n G dX12_reads_5 rfl rfl ?_
  refine x_iconst G (v := 0) dX12_reads_6 (by decide) ?_
  refine x_putI G (kd148 M) 25 rfl cl12 rfl wf_X12_317 rfl rfl rfl dX12_reads_7 ?_
  refine nwr hf (fun w_2 hf => ?_)
  refine x_aload_n G dX12_reads_10 rfl rfl ?_
  refine x_iconst G (v := 0) dX12_reads_11 (by decide) ?_
  refine x_putI G (kd148 M) 26 rfl cl12 rfl wf_X12_285 rfl (by decide +kernel) (by decide +kernel) dX12_reads_12 ?_
  refine nwr hf (fun w_3 hf => ?_)
  refine x_aload_n G dX12_reads_15 rfl rfl ?_
  obtain ⟨v_4, hv_4, hf⟩ := bnd hf
  refine x_virI G (As := []) (mKMO G.2.2.2.2.2.2.1 M hv_4) mv_X12_327 (kd148 M) cl12 rfl rfl rfl rfl rfl dX12_reads_16 ?_
  refine x_istore_n G (lv' := [some (.ref 148), some (.int (bI v_4.1))]) dX12_reads_19 rfl rfl rfl rfl ?_
  refine x_aload_n G dX12_reads_20 rfl rfl ?_
  refine x_getI G (kd148 M) 26 rfl cl12 rfl wf_X12_285 dX12_reads_21 ?_
  refine x_ifne G (tgt := 43) dX12_reads_24 (by decide) hf (fun c_5 hf => ?_) (fun c_5 hf => ?_)
  · refine x_aload_n G dX12_reads_27 rfl rfl ?_
    refine x_getI G (kd148 M) 24 rfl cl12 rfl wf_X12_279 dX12_reads_28 ?_
    refine x_aload_n G dX12_reads_31 rfl rfl ?_
    refine x_getI G (kd148 M) 23 rfl cl12 rfl wf_X12_282 dX12_reads_32 ?_
    refine x_icmpge G (tgt := 43) dX12_reads_35 (by decide) hf (fun c_6 hf => ?_) (fun c_6 hf => ?_)
    · refine x_aload_n G dX12_reads_38 rfl rfl ?_
      refine x_iconst G (v := 1) dX12_reads_39 (by decide) ?_
      refine x_putI G (kd148 M) 26 rfl cl12 rfl wf_X12_285 rfl (by decide +kernel) (by decide +kernel) dX12_reads_40 ?_
      refine nwr hf (fun w_7 hf => ?_)
      refine x_iload_n G dX12_reads_43 rfl rfl ?_
      exact x_zretW G hf hr dX12_reads_44
    · refine x_iload_n G dX12_reads_43 rfl rfl ?_
      exact x_zretW G hf hr dX12_reads_44
  · refine x_iload_n G dX12_reads_43 rfl rfl ?_
    exact x_zretW G hf hr dX12_reads_44

theorem mX12_reads {l : Launch} {S : KS} {w : Wd} (hI : Inj S) (M : Main S) {r : Bool × Wd} (hf : fX12_reads w = some r) : CI l yX12_reads cX12_reads 2 (some .boolean) 201 S [.ref 148] w (bI r.1) r.2 := by
  intro sz
  refine mk_entry rfl (by decide +kernel) hI 1 rfl rfl (fun K h1 h2 h3 h4 h5 h6 G => ?_)
  subst h2
  exact xX12_reads_e G M hf ⟨h3, by rw [h4, h6], h5⟩

