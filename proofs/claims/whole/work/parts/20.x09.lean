theorem dX12_isHeld_0 : decode cX12_isHeld 0 = .ok (.aload_n 0, 1) := by decide +kernel
theorem dX12_isHeld_1 : decode cX12_isHeld 1 = .ok (.iload_n 1, 1) := by decide +kernel
theorem dX12_isHeld_2 : decode cX12_isHeld 2 = .ok (.aload_n 0, 1) := by decide +kernel
theorem dX12_isHeld_3 : decode cX12_isHeld 3 = .ok (.invokevirtual 159, 3) := by decide +kernel
theorem dX12_isHeld_6 : decode cX12_isHeld 6 = .ok (.invokevirtual 344, 3) := by decide +kernel
theorem dX12_isHeld_9 : decode cX12_isHeld 9 = .ok (.istore_n 3, 1) := by decide +kernel
theorem dX12_isHeld_10 : decode cX12_isHeld 10 = .ok (.iload_n 3, 1) := by decide +kernel
theorem dX12_isHeld_11 : decode cX12_isHeld 11 = .ok (.iconst (-1), 1) := by decide +kernel
theorem dX12_isHeld_12 : decode cX12_isHeld 12 = .ok (.if_icmp .ne 14, 3) := by decide +kernel
theorem dX12_isHeld_15 : decode cX12_isHeld 15 = .ok (.iload_n 1, 1) := by decide +kernel
theorem dX12_isHeld_16 : decode cX12_isHeld 16 = .ok (.iconst 1, 1) := by decide +kernel
theorem dX12_isHeld_17 : decode cX12_isHeld 17 = .ok (.if_icmp .eq 7, 3) := by decide +kernel
theorem dX12_isHeld_20 : decode cX12_isHeld 20 = .ok (.iconst 1, 1) := by decide +kernel
theorem dX12_isHeld_21 : decode cX12_isHeld 21 = .ok (.goto 4, 3) := by decide +kernel
theorem dX12_isHeld_24 : decode cX12_isHeld 24 = .ok (.iconst 0, 1) := by decide +kernel
theorem dX12_isHeld_25 : decode cX12_isHeld 25 = .ok (.ireturn, 1) := by decide +kernel
theorem dX12_isHeld_26 : decode cX12_isHeld 26 = .ok (.aload_n 0, 1) := by decide +kernel
theorem dX12_isHeld_27 : decode cX12_isHeld 27 = .ok (.aload_n 0, 1) := by decide +kernel
theorem dX12_isHeld_28 : decode cX12_isHeld 28 = .ok (.getfield 51, 3) := by decide +kernel
theorem dX12_isHeld_31 : decode cX12_isHeld 31 = .ok (.iload_n 3, 1) := by decide +kernel
theorem dX12_isHeld_32 : decode cX12_isHeld 32 = .ok (.iaload, 1) := by decide +kernel
theorem dX12_isHeld_33 : decode cX12_isHeld 33 = .ok (.putfield 282, 3) := by decide +kernel
theorem dX12_isHeld_36 : decode cX12_isHeld 36 = .ok (.iconst 0, 1) := by decide +kernel
theorem dX12_isHeld_37 : decode cX12_isHeld 37 = .ok (.istore 4, 2) := by decide +kernel
theorem dX12_isHeld_39 : decode cX12_isHeld 39 = .ok (.iload 4, 2) := by decide +kernel
theorem dX12_isHeld_41 : decode cX12_isHeld 41 = .ok (.aload_n 0, 1) := by decide +kernel
theorem dX12_isHeld_42 : decode cX12_isHeld 42 = .ok (.getfield 282, 3) := by decide +kernel
theorem dX12_isHeld_45 : decode cX12_isHeld 45 = .ok (.if_icmp .ge 28, 3) := by decide +kernel
theorem dX12_isHeld_48 : decode cX12_isHeld 48 = .ok (.aload_n 0, 1) := by decide +kernel
theorem dX12_isHeld_49 : decode cX12_isHeld 49 = .ok (.getfield 57, 3) := by decide +kernel
theorem dX12_isHeld_52 : decode cX12_isHeld 52 = .ok (.iload 4, 2) := by decide +kernel
theorem dX12_isHeld_54 : decode cX12_isHeld 54 = .ok (.aload_n 0, 1) := by decide +kernel
theorem dX12_isHeld_55 : decode cX12_isHeld 55 = .ok (.getfield 54, 3) := by decide +kernel
theorem dX12_isHeld_58 : decode cX12_isHeld 58 = .ok (.bipush 60, 2) := by decide +kernel
theorem dX12_isHeld_60 : decode cX12_isHeld 60 = .ok (.iload_n 3, 1) := by decide +kernel
theorem dX12_isHeld_61 : decode cX12_isHeld 61 = .ok (.imul, 1) := by decide +kernel
theorem dX12_isHeld_62 : decode cX12_isHeld 62 = .ok (.iload 4, 2) := by decide +kernel
theorem dX12_isHeld_64 : decode cX12_isHeld 64 = .ok (.iadd, 1) := by decide +kernel
theorem dX12_isHeld_65 : decode cX12_isHeld 65 = .ok (.iaload, 1) := by decide +kernel
theorem dX12_isHeld_66 : decode cX12_isHeld 66 = .ok (.iastore, 1) := by decide +kernel
theorem dX12_isHeld_67 : decode cX12_isHeld 67 = .ok (.iinc 4 1, 3) := by decide +kernel
theorem dX12_isHeld_70 : decode cX12_isHeld 70 = .ok (.goto (-31), 3) := by decide +kernel
theorem dX12_isHeld_73 : decode cX12_isHeld 73 = .ok (.aload_n 0, 1) := by decide +kernel
theorem dX12_isHeld_74 : decode cX12_isHeld 74 = .ok (.iload_n 2, 1) := by decide +kernel
theorem dX12_isHeld_75 : decode cX12_isHeld 75 = .ok (.putfield 292, 3) := by decide +kernel
theorem dX12_isHeld_78 : decode cX12_isHeld 78 = .ok (.aload_n 0, 1) := by decide +kernel
theorem dX12_isHeld_79 : decode cX12_isHeld 79 = .ok (.invokevirtual 341, 3) := by decide +kernel
theorem dX12_isHeld_82 : decode cX12_isHeld 82 = .ok (.ireturn, 1) := by decide +kernel
theorem dX12_holds_0 : decode cX12_holds 0 = .ok (.aload_n 0, 1) := by decide +kernel
theorem dX12_holds_1 : decode cX12_holds 1 = .ok (.iconst 0, 1) := by decide +kernel
theorem dX12_holds_2 : decode cX12_holds 2 = .ok (.putfield 1, 3) := by decide +kernel
theorem dX12_holds_5 : decode cX12_holds 5 = .ok (.iload_n 1, 1) := by decide +kernel
theorem dX12_holds_6 : decode cX12_holds 6 = .ok (.i2l, 1) := by decide +kernel
theorem dX12_holds_7 : decode cX12_holds 7 = .ok (.lconst 0, 1) := by decide +kernel
theorem dX12_holds_8 : decode cX12_holds 8 = .ok (.ldc2_w 339, 3) := by decide +kernel
theorem dX12_holds_11 : decode cX12_holds 11 = .ok (.invokestatic 93, 3) := by decide +kernel
theorem dX12_holds_14 : decode cX12_holds 14 = .ok (.ifCond .eq 27, 3) := by decide +kernel
theorem dX12_holds_17 : decode cX12_holds 17 = .ok (.iload_n 2, 1) := by decide +kernel
theorem dX12_holds_18 : decode cX12_holds 18 = .ok (.invokestatic 105, 3) := by decide +kernel
theorem dX12_holds_21 : decode cX12_holds 21 = .ok (.ifCond .eq 20, 3) := by decide +kernel
theorem dX12_holds_24 : decode cX12_holds 24 = .ok (.aload_n 0, 1) := by decide +kernel
theorem dX12_holds_25 : decode cX12_holds 25 = .ok (.iload_n 1, 1) := by decide +kernel
theorem dX12_holds_26 : decode cX12_holds 26 = .ok (.iload_n 2, 1) := by decide +kernel
theorem dX12_holds_27 : decode cX12_holds 27 = .ok (.invokevirtual 217, 3) := by decide +kernel
theorem dX12_holds_30 : decode cX12_holds 30 = .ok (.ifCond .eq 7, 3) := by decide +kernel
theorem dX12_holds_33 : decode cX12_holds 33 = .ok (.iconst 1, 1) := by decide +kernel
theorem dX12_holds_34 : decode cX12_holds 34 = .ok (.goto 8, 3) := by decide +kernel
theorem dX12_holds_37 : decode cX12_holds 37 = .ok (.iconst 0, 1) := by decide +kernel
theorem dX12_holds_38 : decode cX12_holds 38 = .ok (.goto 4, 3) := by decide +kernel
theorem dX12_holds_41 : decode cX12_holds 41 = .ok (.iconst (-1), 1) := by decide +kernel
theorem dX12_holds_42 : decode cX12_holds 42 = .ok (.ireturn, 1) := by decide +kernel
theorem dX12_comes_0 : decode cX12_comes 0 = .ok (.aload_n 0, 1) := by decide +kernel
theorem dX12_comes_1 : decode cX12_comes 1 = .ok (.iload_n 1, 1) := by decide +kernel
theorem dX12_comes_2 : decode cX12_comes 2 = .ok (.iconst 4, 1) := by decide +kernel
theorem dX12_comes_3 : decode cX12_comes 3 = .ok (.invokevirtual 117, 3) := by decide +kernel
theorem dX12_comes_6 : decode cX12_comes 6 = .ok (.iconst 1, 1) := by decide +kernel
theorem dX12_comes_7 : decode cX12_comes 7 = .ok (.if_icmp .ne 28, 3) := by decide +kernel
theorem dX12_comes_10 : decode cX12_comes 10 = .ok (.aload_n 0, 1) := by decide +kernel
theorem dX12_comes_11 : decode cX12_comes 11 = .ok (.getfield 13, 3) := by decide +kernel
theorem dX12_comes_14 : decode cX12_comes 14 = .ok (.sipush 4307, 3) := by decide +kernel
theorem dX12_comes_17 : decode cX12_comes 17 = .ok (.dup2, 1) := by decide +kernel
theorem dX12_comes_18 : decode cX12_comes 18 = .ok (.iaload, 1) := by decide +kernel
theorem dX12_comes_19 : decode cX12_comes 19 = .ok (.iload_n 2, 1) := by decide +kernel
theorem dX12_comes_20 : decode cX12_comes 20 = .ok (.iadd, 1) := by decide +kernel
theorem dX12_comes_21 : decode cX12_comes 21 = .ok (.iastore, 1) := by decide +kernel
theorem dX12_comes_22 : decode cX12_comes 22 = .ok (.aload_n 0, 1) := by decide +kernel
theorem dX12_comes_23 : decode cX12_comes 23 = .ok (.getfield 13, 3) := by decide +kernel
theorem dX12_comes_26 : decode cX12_comes 26 = .ok (.sipush 4308, 3) := by decide +kernel
theorem dX12_comes_29 : decode cX12_comes 29 = .ok (.dup2, 1) := by decide +kernel
theorem dX12_comes_30 : decode cX12_comes 30 = .ok (.iaload, 1) := by decide +kernel
theorem dX12_comes_31 : decode cX12_comes 31 = .ok (.iload_n 3, 1) := by decide +kernel
theorem dX12_comes_32 : decode cX12_comes 32 = .ok (.iadd, 1) := by decide +kernel
theorem dX12_comes_33 : decode cX12_comes 33 = .ok (.iastore, 1) := by decide +kernel
theorem dX12_comes_34 : decode cX12_comes 34 = .ok (.return_, 1) := by decide +kernel
theorem dX12_comes_35 : decode cX12_comes 35 = .ok (.aload_n 0, 1) := by decide +kernel
theorem dX12_comes_36 : decode cX12_comes 36 = .ok (.getfield 13, 3) := by decide +kernel
theorem dX12_comes_39 : decode cX12_comes 39 = .ok (.bipush 15, 2) := by decide +kernel
theorem dX12_comes_41 : decode cX12_comes 41 = .ok (.iload_n 1, 1) := by decide +kernel
theorem dX12_comes_42 : decode cX12_comes 42 = .ok (.imul, 1) := by decide +kernel
theorem dX12_comes_43 : decode cX12_comes 43 = .ok (.bipush 9, 2) := by decide +kernel
theorem dX12_comes_45 : decode cX12_comes 45 = .ok (.iadd, 1) := by decide +kernel
theorem dX12_comes_46 : decode cX12_comes 46 = .ok (.dup2, 1) := by decide +kernel
theorem dX12_comes_47 : decode cX12_comes 47 = .ok (.iaload, 1) := by decide +kernel
theorem dX12_comes_48 : decode cX12_comes 48 = .ok (.iload_n 2, 1) := by decide +kernel
theorem dX12_comes_49 : decode cX12_comes 49 = .ok (.iadd, 1) := by decide +kernel
theorem dX12_comes_50 : decode cX12_comes 50 = .ok (.iastore, 1) := by decide +kernel
theorem dX12_comes_51 : decode cX12_comes 51 = .ok (.aload_n 0, 1) := by decide +kernel
theorem dX12_comes_52 : decode cX12_comes 52 = .ok (.getfield 13, 3) := by decide +kernel
theorem dX12_comes_55 : decode cX12_comes 55 = .ok (.bipush 15, 2) := by decide +kernel
theorem dX12_comes_57 : decode cX12_comes 57 = .ok (.iload_n 1, 1) := by decide +kernel
theorem dX12_comes_58 : decode cX12_comes 58 = .ok (.imul, 1) := by decide +kernel
theorem dX12_comes_59 : decode cX12_comes 59 = .ok (.bipush 10, 2) := by decide +kernel
theorem dX12_comes_61 : decode cX12_comes 61 = .ok (.iadd, 1) := by decide +kernel
theorem dX12_comes_62 : decode cX12_comes 62 = .ok (.dup2, 1) := by decide +kernel
theorem dX12_comes_63 : decode cX12_comes 63 = .ok (.iaload, 1) := by decide +kernel
theorem dX12_comes_64 : decode cX12_comes 64 = .ok (.iload_n 3, 1) := by decide +kernel
theorem dX12_comes_65 : decode cX12_comes 65 = .ok (.iadd, 1) := by decide +kernel
theorem dX12_comes_66 : decode cX12_comes 66 = .ok (.iastore, 1) := by decide +kernel
theorem dX12_comes_67 : decode cX12_comes 67 = .ok (.return_, 1) := by decide +kernel
theorem dX12_isBadPump_0 : decode cX12_isBadPump 0 = .ok (.aload_n 0, 1) := by decide +kernel
theorem dX12_isBadPump_1 : decode cX12_isBadPump 1 = .ok (.iload_n 1, 1) := by decide +kernel
theorem dX12_isBadPump_2 : decode cX12_isBadPump 2 = .ok (.bipush 11, 2) := by decide +kernel
theorem dX12_isBadPump_4 : decode cX12_isBadPump 4 = .ok (.invokevirtual 117, 3) := by decide +kernel
theorem dX12_isBadPump_7 : decode cX12_isBadPump 7 = .ok (.ifCond .le 7, 3) := by decide +kernel
theorem dX12_isBadPump_10 : decode cX12_isBadPump 10 = .ok (.iconst 1, 1) := by decide +kernel
theorem dX12_isBadPump_11 : decode cX12_isBadPump 11 = .ok (.goto 4, 3) := by decide +kernel
theorem dX12_isBadPump_14 : decode cX12_isBadPump 14 = .ok (.iconst 0, 1) := by decide +kernel
theorem dX12_isBadPump_15 : decode cX12_isBadPump 15 = .ok (.istore_n 2, 1) := by decide +kernel
theorem dX12_isBadPump_16 : decode cX12_isBadPump 16 = .ok (.iconst 0, 1) := by decide +kernel
theorem dX12_isBadPump_17 : decode cX12_isBadPump 17 = .ok (.istore_n 3, 1) := by decide +kernel
theorem dX12_isBadPump_18 : decode cX12_isBadPump 18 = .ok (.iload_n 3, 1) := by decide +kernel
theorem dX12_isBadPump_19 : decode cX12_isBadPump 19 = .ok (.iconst 4, 1) := by decide +kernel
theorem dX12_isBadPump_20 : decode cX12_isBadPump 20 = .ok (.if_icmp .ge 42, 3) := by decide +kernel
theorem dX12_isBadPump_23 : decode cX12_isBadPump 23 = .ok (.iload_n 2, 1) := by decide +kernel
theorem dX12_isBadPump_24 : decode cX12_isBadPump 24 = .ok (.ifCond .ne 26, 3) := by decide +kernel
theorem dX12_isBadPump_27 : decode cX12_isBadPump 27 = .ok (.iload_n 1, 1) := by decide +kernel
theorem dX12_isBadPump_28 : decode cX12_isBadPump 28 = .ok (.iload_n 3, 1) := by decide +kernel
theorem dX12_isBadPump_29 : decode cX12_isBadPump 29 = .ok (.invokestatic 173, 3) := by decide +kernel
theorem dX12_isBadPump_32 : decode cX12_isBadPump 32 = .ok (.iconst (-1), 1) := by decide +kernel
theorem dX12_isBadPump_33 : decode cX12_isBadPump 33 = .ok (.if_icmp .eq 21, 3) := by decide +kernel
theorem dX12_isBadPump_36 : decode cX12_isBadPump 36 = .ok (.aload_n 0, 1) := by decide +kernel
theorem dX12_isBadPump_37 : decode cX12_isBadPump 37 = .ok (.iload_n 1, 1) := by decide +kernel
theorem dX12_isBadPump_38 : decode cX12_isBadPump 38 = .ok (.iload_n 3, 1) := by decide +kernel
theorem dX12_isBadPump_39 : decode cX12_isBadPump 39 = .ok (.invokestatic 173, 3) := by decide +kernel
theorem dX12_isBadPump_42 : decode cX12_isBadPump 42 = .ok (.bipush 11, 2) := by decide +kernel
theorem dX12_isBadPump_44 : decode cX12_isBadPump 44 = .ok (.invokevirtual 117, 3) := by decide +kernel
theorem dX12_isBadPump_47 : decode cX12_isBadPump 47 = .ok (.ifCond .le 7, 3) := by decide +kernel
theorem dX12_isBadPump_50 : decode cX12_isBadPump 50 = .ok (.iconst 1, 1) := by decide +kernel
theorem dX12_isBadPump_51 : decode cX12_isBadPump 51 = .ok (.goto 4, 3) := by decide +kernel
theorem dX12_isBadPump_54 : decode cX12_isBadPump 54 = .ok (.iconst 0, 1) := by decide +kernel
theorem dX12_isBadPump_55 : decode cX12_isBadPump 55 = .ok (.istore_n 2, 1) := by decide +kernel
theorem dX12_isBadPump_56 : decode cX12_isBadPump 56 = .ok (.iinc 3 1, 3) := by decide +kernel
theorem dX12_isBadPump_59 : decode cX12_isBadPump 59 = .ok (.goto (-41), 3) := by decide +kernel
theorem dX12_isBadPump_62 : decode cX12_isBadPump 62 = .ok (.iload_n 2, 1) := by decide +kernel
theorem dX12_isBadPump_63 : decode cX12_isBadPump 63 = .ok (.ireturn, 1) := by decide +kernel
theorem dX12_off_0 : decode cX12_off 0 = .ok (.iload_n 0, 1) := by decide +kernel
theorem dX12_off_1 : decode cX12_off 1 = .ok (.iload_n 1, 1) := by decide +kernel
theorem dX12_off_2 : decode cX12_off 2 = .ok (.if_icmp .ge 9, 3) := by decide +kernel
theorem dX12_off_5 : decode cX12_off 5 = .ok (.iload_n 1, 1) := by decide +kernel
theorem dX12_off_6 : decode cX12_off 6 = .ok (.iload_n 0, 1) := by decide +kernel
theorem dX12_off_7 : decode cX12_off 7 = .ok (.isub, 1) := by decide +kernel
theorem dX12_off_8 : decode cX12_off 8 = .ok (.goto 6, 3) := by decide +kernel
theorem dX12_off_11 : decode cX12_off 11 = .ok (.iload_n 0, 1) := by decide +kernel
theorem dX12_off_12 : decode cX12_off 12 = .ok (.iload_n 1, 1) := by decide +kernel
theorem dX12_off_13 : decode cX12_off 13 = .ok (.isub, 1) := by decide +kernel
theorem dX12_off_14 : decode cX12_off 14 = .ok (.ireturn, 1) := by decide +kernel
theorem dX12_near_0 : decode cX12_near 0 = .ok (.iload_n 0, 1) := by decide +kernel
theorem dX12_near_1 : decode cX12_near 1 = .ok (.bipush 10, 2) := by decide +kernel
theorem dX12_near_3 : decode cX12_near 3 = .ok (.irem, 1) := by decide +kernel
theorem dX12_near_4 : decode cX12_near 4 = .ok (.iload_n 1, 1) := by decide +kernel
theorem dX12_near_5 : decode cX12_near 5 = .ok (.bipush 10, 2) := by decide +kernel
theorem dX12_near_7 : decode cX12_near 7 = .ok (.irem, 1) := by decide +kernel
theorem dX12_near_8 : decode cX12_near 8 = .ok (.invokestatic 97, 3) := by decide +kernel
theorem dX12_near_11 : decode cX12_near 11 = .ok (.iload_n 0, 1) := by decide +kernel
theorem dX12_near_12 : decode cX12_near 12 = .ok (.bipush 10, 2) := by decide +kernel
theorem dX12_near_14 : decode cX12_near 14 = .ok (.idiv, 1) := by decide +kernel
theorem dX12_near_15 : decode cX12_near 15 = .ok (.iload_n 1, 1) := by decide +kernel
theorem dX12_near_16 : decode cX12_near 16 = .ok (.bipush 10, 2) := by decide +kernel
theorem dX12_near_18 : decode cX12_near 18 = .ok (.idiv, 1) := by decide +kernel
theorem dX12_near_19 : decode cX12_near 19 = .ok (.invokestatic 97, 3) := by decide +kernel
theorem dX12_near_22 : decode cX12_near 22 = .ok (.iadd, 1) := by decide +kernel
theorem dX12_near_23 : decode cX12_near 23 = .ok (.ireturn, 1) := by decide +kernel
theorem dX12_drinks_0 : decode cX12_drinks 0 = .ok (.aload_n 0, 1) := by decide +kernel
theorem dX12_drinks_1 : decode cX12_drinks 1 = .ok (.iload_n 1, 1) := by decide +kernel
theorem dX12_drinks_2 : decode cX12_drinks 2 = .ok (.iconst 2, 1) := by decide +kernel
theorem dX12_drinks_3 : decode cX12_drinks 3 = .ok (.invokevirtual 117, 3) := by decide +kernel
theorem dX12_drinks_6 : decode cX12_drinks 6 = .ok (.ifCond .ne 4, 3) := by decide +kernel
theorem dX12_drinks_9 : decode cX12_drinks 9 = .ok (.return_, 1) := by decide +kernel
theorem dX12_drinks_10 : decode cX12_drinks 10 = .ok (.iconst (-1), 1) := by decide +kernel
theorem dX12_drinks_11 : decode cX12_drinks 11 = .ok (.istore_n 2, 1) := by decide +kernel
theorem dX12_drinks_12 : decode cX12_drinks 12 = .ok (.iconst 0, 1) := by decide +kernel
theorem dX12_drinks_13 : decode cX12_drinks 13 = .ok (.istore_n 3, 1) := by decide +kernel
theorem dX12_drinks_14 : decode cX12_drinks 14 = .ok (.iload_n 3, 1) := by decide +kernel
theorem dX12_drinks_15 : decode cX12_drinks 15 = .ok (.bipush 100, 2) := by decide +kernel
theorem dX12_drinks_17 : decode cX12_drinks 17 = .ok (.if_icmp .ge 39, 3) := by decide +kernel
theorem dX12_drinks_20 : decode cX12_drinks 20 = .ok (.aload_n 0, 1) := by decide +kernel
theorem dX12_drinks_21 : decode cX12_drinks 21 = .ok (.iload_n 3, 1) := by decide +kernel
theorem dX12_drinks_22 : decode cX12_drinks 22 = .ok (.iconst 5, 1) := by decide +kernel
theorem dX12_drinks_23 : decode cX12_drinks 23 = .ok (.invokevirtual 117, 3) := by decide +kernel
theorem dX12_drinks_26 : decode cX12_drinks 26 = .ok (.iconst 1, 1) := by decide +kernel
theorem dX12_drinks_27 : decode cX12_drinks 27 = .ok (.if_icmp .ne 23, 3) := by decide +kernel
theorem dX12_drinks_30 : decode cX12_drinks 30 = .ok (.iload_n 2, 1) := by decide +kernel
theorem dX12_drinks_31 : decode cX12_drinks 31 = .ok (.iconst (-1), 1) := by decide +kernel
theorem dX12_drinks_32 : decode cX12_drinks 32 = .ok (.if_icmp .eq 16, 3) := by decide +kernel
theorem dX12_drinks_35 : decode cX12_drinks 35 = .ok (.iload_n 1, 1) := by decide +kernel
theorem dX12_drinks_36 : decode cX12_drinks 36 = .ok (.iload_n 3, 1) := by decide +kernel
theorem dX12_drinks_37 : decode cX12_drinks 37 = .ok (.invokestatic 150, 3) := by decide +kernel
theorem dX12_drinks_40 : decode cX12_drinks 40 = .ok (.iload_n 1, 1) := by decide +kernel
theorem dX12_drinks_41 : decode cX12_drinks 41 = .ok (.iload_n 2, 1) := by decide +kernel
theorem dX12_drinks_42 : decode cX12_drinks 42 = .ok (.invokestatic 150, 3) := by decide +kernel
theorem dX12_drinks_45 : decode cX12_drinks 45 = .ok (.if_icmp .ge 5, 3) := by decide +kernel
theorem dX12_drinks_48 : decode cX12_drinks 48 = .ok (.iload_n 3, 1) := by decide +kernel
theorem dX12_drinks_49 : decode cX12_drinks 49 = .ok (.istore_n 2, 1) := by decide +kernel
theorem dX12_drinks_50 : decode cX12_drinks 50 = .ok (.iinc 3 1, 3) := by decide +kernel
theorem dX12_drinks_53 : decode cX12_drinks 53 = .ok (.goto (-39), 3) := by decide +kernel
theorem dX12_drinks_56 : decode cX12_drinks 56 = .ok (.iload_n 2, 1) := by decide +kernel
theorem dX12_drinks_57 : decode cX12_drinks 57 = .ok (.iconst (-1), 1) := by decide +kernel
theorem dX12_drinks_58 : decode cX12_drinks 58 = .ok (.if_icmp .eq 11, 3) := by decide +kernel
theorem dX12_drinks_61 : decode cX12_drinks 61 = .ok (.aload_n 0, 1) := by decide +kernel
theorem dX12_drinks_62 : decode cX12_drinks 62 = .ok (.iload_n 2, 1) := by decide +kernel
theorem dX12_drinks_63 : decode cX12_drinks 63 = .ok (.invokevirtual 252, 3) := by decide +kernel
theorem dX12_drinks_66 : decode cX12_drinks 66 = .ok (.ifCond .ne 4, 3) := by decide +kernel
theorem dX12_drinks_69 : decode cX12_drinks 69 = .ok (.return_, 1) := by decide +kernel
theorem dX12_drinks_70 : decode cX12_drinks 70 = .ok (.aload_n 0, 1) := by decide +kernel
theorem dX12_drinks_71 : decode cX12_drinks 71 = .ok (.getfield 13, 3) := by decide +kernel
theorem dX12_drinks_74 : decode cX12_drinks 74 = .ok (.bipush 15, 2) := by decide +kernel
theorem dX12_drinks_76 : decode cX12_drinks 76 = .ok (.iload_n 2, 1) := by decide +kernel
theorem dX12_drinks_77 : decode cX12_drinks 77 = .ok (.imul, 1) := by decide +kernel
theorem dX12_drinks_78 : decode cX12_drinks 78 = .ok (.bipush 14, 2) := by decide +kernel
theorem dX12_drinks_80 : decode cX12_drinks 80 = .ok (.iadd, 1) := by decide +kernel
theorem dX12_drinks_81 : decode cX12_drinks 81 = .ok (.dup2, 1) := by decide +kernel
theorem dX12_drinks_82 : decode cX12_drinks 82 = .ok (.iaload, 1) := by decide +kernel
theorem dX12_drinks_83 : decode cX12_drinks 83 = .ok (.aload_n 0, 1) := by decide +kernel
theorem dX12_drinks_84 : decode cX12_drinks 84 = .ok (.iload_n 1, 1) := by decide +kernel
theorem dX12_drinks_85 : decode cX12_drinks 85 = .ok (.iconst 2, 1) := by decide +kernel
theorem dX12_drinks_86 : decode cX12_drinks 86 = .ok (.invokevirtual 117, 3) := by decide +kernel
theorem dX12_drinks_89 : decode cX12_drinks 89 = .ok (.bipush 50, 2) := by decide +kernel
theorem dX12_drinks_91 : decode cX12_drinks 91 = .ok (.idiv, 1) := by decide +kernel
theorem dX12_drinks_92 : decode cX12_drinks 92 = .ok (.iadd, 1) := by decide +kernel
theorem dX12_drinks_93 : decode cX12_drinks 93 = .ok (.iastore, 1) := by decide +kernel
theorem dX12_drinks_94 : decode cX12_drinks 94 = .ok (.aload_n 0, 1) := by decide +kernel
theorem dX12_drinks_95 : decode cX12_drinks 95 = .ok (.getfield 13, 3) := by decide +kernel
theorem dX12_drinks_98 : decode cX12_drinks 98 = .ok (.sipush 4314, 3) := by decide +kernel
theorem dX12_drinks_101 : decode cX12_drinks 101 = .ok (.dup2, 1) := by decide +kernel
theorem dX12_drinks_102 : decode cX12_drinks 102 = .ok (.iaload, 1) := by decide +kernel
theorem dX12_drinks_103 : decode cX12_drinks 103 = .ok (.aload_n 0, 1) := by decide +kernel
theorem dX12_drinks_104 : decode cX12_drinks 104 = .ok (.iload_n 1, 1) := by decide +kernel
theorem dX12_drinks_105 : decode cX12_drinks 105 = .ok (.iconst 2, 1) := by decide +kernel
theorem dX12_drinks_106 : decode cX12_drinks 106 = .ok (.invokevirtual 117, 3) := by decide +kernel
theorem dX12_drinks_109 : decode cX12_drinks 109 = .ok (.bipush 50, 2) := by decide +kernel
theorem dX12_drinks_111 : decode cX12_drinks 111 = .ok (.idiv, 1) := by decide +kernel
theorem dX12_drinks_112 : decode cX12_drinks 112 = .ok (.iadd, 1) := by decide +kernel
theorem dX12_drinks_113 : decode cX12_drinks 113 = .ok (.iastore, 1) := by decide +kernel
theorem dX12_drinks_114 : decode cX12_drinks 114 = .ok (.return_, 1) := by decide +kernel
theorem dX12_carrying_0 : decode cX12_carrying 0 = .ok (.iconst 0, 1) := by decide +kernel
theorem dX12_carrying_1 : decode cX12_carrying 1 = .ok (.istore_n 2, 1) := by decide +kernel
theorem dX12_carrying_2 : decode cX12_carrying 2 = .ok (.iload_n 2, 1) := by decide +kernel
theorem dX12_carrying_3 : decode cX12_carrying 3 = .ok (.aload_n 0, 1) := by decide +kernel
theorem dX12_carrying_4 : decode cX12_carrying 4 = .ok (.bipush 15, 2) := by decide +kernel
theorem dX12_carrying_6 : decode cX12_carrying 6 = .ok (.invokevirtual 101, 3) := by decide +kernel
theorem dX12_carrying_9 : decode cX12_carrying 9 = .ok (.if_icmp .ge 37, 3) := by decide +kernel
theorem dX12_carrying_12 : decode cX12_carrying 12 = .ok (.aload_n 0, 1) := by decide +kernel
theorem dX12_carrying_13 : decode cX12_carrying 13 = .ok (.iload_n 2, 1) := by decide +kernel
theorem dX12_carrying_14 : decode cX12_carrying 14 = .ok (.iload_n 1, 1) := by decide +kernel
theorem dX12_carrying_15 : decode cX12_carrying 15 = .ok (.invokevirtual 230, 3) := by decide +kernel
theorem dX12_carrying_18 : decode cX12_carrying 18 = .ok (.istore_n 3, 1) := by decide +kernel
theorem dX12_carrying_19 : decode cX12_carrying 19 = .ok (.iload_n 3, 1) := by decide +kernel
theorem dX12_carrying_20 : decode cX12_carrying 20 = .ok (.iconst (-1), 1) := by decide +kernel
theorem dX12_carrying_21 : decode cX12_carrying 21 = .ok (.if_icmp .eq 19, 3) := by decide +kernel
theorem dX12_carrying_24 : decode cX12_carrying 24 = .ok (.aload_n 0, 1) := by decide +kernel
theorem dX12_carrying_25 : decode cX12_carrying 25 = .ok (.getfield 26, 3) := by decide +kernel
theorem dX12_carrying_28 : decode cX12_carrying 28 = .ok (.iload_n 2, 1) := by decide +kernel
theorem dX12_carrying_29 : decode cX12_carrying 29 = .ok (.baload, 1) := by decide +kernel
theorem dX12_carrying_30 : decode cX12_carrying 30 = .ok (.ifCond .eq 10, 3) := by decide +kernel
theorem dX12_carrying_33 : decode cX12_carrying 33 = .ok (.aload_n 0, 1) := by decide +kernel
theorem dX12_carrying_34 : decode cX12_carrying 34 = .ok (.iload_n 3, 1) := by decide +kernel
theorem dX12_carrying_35 : decode cX12_carrying 35 = .ok (.putfield 233, 3) := by decide +kernel
theorem dX12_carrying_38 : decode cX12_carrying 38 = .ok (.iload_n 2, 1) := by decide +kernel
theorem dX12_carrying_39 : decode cX12_carrying 39 = .ok (.ireturn, 1) := by decide +kernel
theorem dX12_carrying_40 : decode cX12_carrying 40 = .ok (.iinc 2 1, 3) := by decide +kernel
theorem dX12_carrying_43 : decode cX12_carrying 43 = .ok (.goto (-41), 3) := by decide +kernel
theorem dX12_carrying_46 : decode cX12_carrying 46 = .ok (.iconst (-1), 1) := by decide +kernel
theorem dX12_carrying_47 : decode cX12_carrying 47 = .ok (.ireturn, 1) := by decide +kernel
theorem dX12_least_0 : decode cX12_least 0 = .ok (.iload_n 0, 1) := by decide +kernel
theorem dX12_least_1 : decode cX12_least 1 = .ok (.iload_n 1, 1) := by decide +kernel
theorem dX12_least_2 : decode cX12_least 2 = .ok (.if_icmp .ge 7, 3) := by decide +kernel
theorem dX12_least_5 : decode cX12_least 5 = .ok (.iload_n 0, 1) := by decide +kernel
theorem dX12_least_6 : decode cX12_least 6 = .ok (.goto 4, 3) := by decide +kernel
theorem dX12_least_9 : decode cX12_least 9 = .ok (.iload_n 1, 1) := by decide +kernel
theorem dX12_least_10 : decode cX12_least 10 = .ok (.ireturn, 1) := by decide +kernel
theorem dX12_letsOn_0 : decode cX12_letsOn 0 = .ok (.aload_n 0, 1) := by decide +kernel
theorem dX12_letsOn_1 : decode cX12_letsOn 1 = .ok (.getfield 36, 3) := by decide +kernel
theorem dX12_letsOn_4 : decode cX12_letsOn 4 = .ok (.iload_n 1, 1) := by decide +kernel
theorem dX12_letsOn_5 : decode cX12_letsOn 5 = .ok (.iconst (-1), 1) := by decide +kernel
theorem dX12_letsOn_6 : decode cX12_letsOn 6 = .ok (.iastore, 1) := by decide +kernel
theorem dX12_letsOn_7 : decode cX12_letsOn 7 = .ok (.aload_n 0, 1) := by decide +kernel
theorem dX12_letsOn_8 : decode cX12_letsOn 8 = .ok (.iload_n 1, 1) := by decide +kernel
theorem dX12_letsOn_9 : decode cX12_letsOn 9 = .ok (.iconst 0, 1) := by decide +kernel
theorem dX12_letsOn_10 : decode cX12_letsOn 10 = .ok (.invokevirtual 226, 3) := by decide +kernel
theorem dX12_letsOn_13 : decode cX12_letsOn 13 = .ok (.ifCond .eq 4, 3) := by decide +kernel
theorem dX12_letsOn_16 : decode cX12_letsOn 16 = .ok (.return_, 1) := by decide +kernel
theorem dX12_letsOn_17 : decode cX12_letsOn 17 = .ok (.aload_n 0, 1) := by decide +kernel
theorem dX12_letsOn_18 : decode cX12_letsOn 18 = .ok (.iload_n 1, 1) := by decide +kernel
theorem dX12_letsOn_19 : decode cX12_letsOn 19 = .ok (.invokevirtual 242, 3) := by decide +kernel
theorem dX12_letsOn_22 : decode cX12_letsOn 22 = .ok (.istore_n 2, 1) := by decide +kernel
theorem dX12_letsOn_23 : decode cX12_letsOn 23 = .ok (.iload_n 2, 1) := by decide +kernel
theorem dX12_letsOn_24 : decode cX12_letsOn 24 = .ok (.iconst (-1), 1) := by decide +kernel
theorem dX12_letsOn_25 : decode cX12_letsOn 25 = .ok (.if_icmp .eq 62, 3) := by decide +kernel
theorem dX12_letsOn_28 : decode cX12_letsOn 28 = .ok (.aload_n 0, 1) := by decide +kernel
theorem dX12_letsOn_29 : decode cX12_letsOn 29 = .ok (.getfield 233, 3) := by decide +kernel
theorem dX12_letsOn_32 : decode cX12_letsOn 32 = .ok (.aload_n 0, 1) := by decide +kernel
theorem dX12_letsOn_33 : decode cX12_letsOn 33 = .ok (.iload_n 2, 1) := by decide +kernel
theorem dX12_letsOn_34 : decode cX12_letsOn 34 = .ok (.iconst 0, 1) := by decide +kernel
theorem dX12_letsOn_35 : decode cX12_letsOn 35 = .ok (.invokevirtual 193, 3) := by decide +kernel
theorem dX12_letsOn_38 : decode cX12_letsOn 38 = .ok (.iconst 1, 1) := by decide +kernel
theorem dX12_letsOn_39 : decode cX12_letsOn 39 = .ok (.isub, 1) := by decide +kernel
theorem dX12_letsOn_40 : decode cX12_letsOn 40 = .ok (.if_icmp .ge 47, 3) := by decide +kernel
theorem dX12_letsOn_43 : decode cX12_letsOn 43 = .ok (.aload_n 0, 1) := by decide +kernel
theorem dX12_letsOn_44 : decode cX12_letsOn 44 = .ok (.getfield 36, 3) := by decide +kernel
theorem dX12_letsOn_47 : decode cX12_letsOn 47 = .ok (.iload_n 1, 1) := by decide +kernel
theorem dX12_letsOn_48 : decode cX12_letsOn 48 = .ok (.aload_n 0, 1) := by decide +kernel
theorem dX12_letsOn_49 : decode cX12_letsOn 49 = .ok (.getfield 13, 3) := by decide +kernel
theorem dX12_letsOn_52 : decode cX12_letsOn 52 = .ok (.aload_n 0, 1) := by decide +kernel
theorem dX12_letsOn_53 : decode cX12_letsOn 53 = .ok (.iload_n 2, 1) := by decide +kernel
theorem dX12_letsOn_54 : decode cX12_letsOn 54 = .ok (.aload_n 0, 1) := by decide +kernel
theorem dX12_letsOn_55 : decode cX12_letsOn 55 = .ok (.getfield 233, 3) := by decide +kernel
theorem dX12_letsOn_58 : decode cX12_letsOn 58 = .ok (.iconst 1, 1) := by decide +kernel
theorem dX12_letsOn_59 : decode cX12_letsOn 59 = .ok (.iadd, 1) := by decide +kernel
theorem dX12_letsOn_60 : decode cX12_letsOn 60 = .ok (.invokevirtual 185, 3) := by decide +kernel
theorem dX12_letsOn_63 : decode cX12_letsOn 63 = .ok (.iconst 0, 1) := by decide +kernel
theorem dX12_letsOn_64 : decode cX12_letsOn 64 = .ok (.iadd, 1) := by decide +kernel
theorem dX12_letsOn_65 : decode cX12_letsOn 65 = .ok (.iaload, 1) := by decide +kernel
theorem dX12_letsOn_66 : decode cX12_letsOn 66 = .ok (.iastore, 1) := by decide +kernel
theorem dX12_letsOn_67 : decode cX12_letsOn 67 = .ok (.bipush 30, 2) := by decide +kernel
theorem dX12_letsOn_69 : decode cX12_letsOn 69 = .ok (.aload_n 0, 1) := by decide +kernel
theorem dX12_letsOn_70 : decode cX12_letsOn 70 = .ok (.iload_n 2, 1) := by decide +kernel
theorem dX12_letsOn_71 : decode cX12_letsOn 71 = .ok (.iconst 1, 1) := by decide +kernel
theorem dX12_letsOn_72 : decode cX12_letsOn 72 = .ok (.invokevirtual 193, 3) := by decide +kernel
theorem dX12_letsOn_75 : decode cX12_letsOn 75 = .ok (.imul, 1) := by decide +kernel
theorem dX12_letsOn_76 : decode cX12_letsOn 76 = .ok (.aload_n 0, 1) := by decide +kernel
theorem dX12_letsOn_77 : decode cX12_letsOn 77 = .ok (.iload_n 2, 1) := by decide +kernel
theorem dX12_letsOn_78 : decode cX12_letsOn 78 = .ok (.iconst 1, 1) := by decide +kernel
theorem dX12_letsOn_79 : decode cX12_letsOn 79 = .ok (.invokevirtual 193, 3) := by decide +kernel
theorem dX12_letsOn_82 : decode cX12_letsOn 82 = .ok (.imul, 1) := by decide +kernel
theorem dX12_letsOn_83 : decode cX12_letsOn 83 = .ok (.istore_n 3, 1) := by decide +kernel
theorem dX12_letsOn_84 : decode cX12_letsOn 84 = .ok (.goto 35, 3) := by decide +kernel
theorem dX12_letsOn_87 : decode cX12_letsOn 87 = .ok (.aload_n 0, 1) := by decide +kernel
theorem dX12_letsOn_88 : decode cX12_letsOn 88 = .ok (.getfield 36, 3) := by decide +kernel
theorem dX12_letsOn_91 : decode cX12_letsOn 91 = .ok (.iload_n 1, 1) := by decide +kernel
theorem dX12_letsOn_92 : decode cX12_letsOn 92 = .ok (.aload_n 0, 1) := by decide +kernel
theorem dX12_letsOn_93 : decode cX12_letsOn 93 = .ok (.iload_n 1, 1) := by decide +kernel
theorem dX12_letsOn_94 : decode cX12_letsOn 94 = .ok (.bipush 6, 2) := by decide +kernel
theorem dX12_letsOn_96 : decode cX12_letsOn 96 = .ok (.invokevirtual 117, 3) := by decide +kernel
theorem dX12_letsOn_99 : decode cX12_letsOn 99 = .ok (.iastore, 1) := by decide +kernel
theorem dX12_letsOn_100 : decode cX12_letsOn 100 = .ok (.bipush 20, 2) := by decide +kernel
theorem dX12_letsOn_102 : decode cX12_letsOn 102 = .ok (.aload_n 0, 1) := by decide +kernel
theorem dX12_letsOn_103 : decode cX12_letsOn 103 = .ok (.iload_n 1, 1) := by decide +kernel
theorem dX12_letsOn_104 : decode cX12_letsOn 104 = .ok (.bipush 8, 2) := by decide +kernel
theorem dX12_letsOn_106 : decode cX12_letsOn 106 = .ok (.invokevirtual 117, 3) := by decide +kernel
theorem dX12_letsOn_109 : decode cX12_letsOn 109 = .ok (.imul, 1) := by decide +kernel
theorem dX12_letsOn_110 : decode cX12_letsOn 110 = .ok (.aload_n 0, 1) := by decide +kernel
theorem dX12_letsOn_111 : decode cX12_letsOn 111 = .ok (.iload_n 1, 1) := by decide +kernel
theorem dX12_letsOn_112 : decode cX12_letsOn 112 = .ok (.bipush 8, 2) := by decide +kernel
theorem dX12_letsOn_114 : decode cX12_letsOn 114 = .ok (.invokevirtual 117, 3) := by decide +kernel
theorem dX12_letsOn_117 : decode cX12_letsOn 117 = .ok (.imul, 1) := by decide +kernel
theorem dX12_letsOn_118 : decode cX12_letsOn 118 = .ok (.istore_n 3, 1) := by decide +kernel
theorem dX12_letsOn_119 : decode cX12_letsOn 119 = .ok (.aload_n 0, 1) := by decide +kernel
theorem dX12_letsOn_120 : decode cX12_letsOn 120 = .ok (.getfield 36, 3) := by decide +kernel
theorem dX12_letsOn_123 : decode cX12_letsOn 123 = .ok (.iload_n 1, 1) := by decide +kernel
theorem dX12_letsOn_124 : decode cX12_letsOn 124 = .ok (.iaload, 1) := by decide +kernel
theorem dX12_letsOn_125 : decode cX12_letsOn 125 = .ok (.iconst (-1), 1) := by decide +kernel
theorem dX12_letsOn_126 : decode cX12_letsOn 126 = .ok (.if_icmp .ne 4, 3) := by decide +kernel
theorem dX12_letsOn_129 : decode cX12_letsOn 129 = .ok (.return_, 1) := by decide +kernel
theorem dX12_letsOn_130 : decode cX12_letsOn 130 = .ok (.aload_n 0, 1) := by decide +kernel
theorem dX12_letsOn_131 : decode cX12_letsOn 131 = .ok (.getfield 30, 3) := by decide +kernel
theorem dX12_letsOn_134 : decode cX12_letsOn 134 = .ok (.iload_n 1, 1) := by decide +kernel
theorem dX12_letsOn_135 : decode cX12_letsOn 135 = .ok (.aload_n 0, 1) := by decide +kernel
theorem dX12_letsOn_136 : decode cX12_letsOn 136 = .ok (.iload_n 1, 1) := by decide +kernel
theorem dX12_letsOn_137 : decode cX12_letsOn 137 = .ok (.bipush 9, 2) := by decide +kernel
theorem dX12_letsOn_139 : decode cX12_letsOn 139 = .ok (.invokevirtual 117, 3) := by decide +kernel
theorem dX12_letsOn_142 : decode cX12_letsOn 142 = .ok (.iload_n 3, 1) := by decide +kernel
theorem dX12_letsOn_143 : decode cX12_letsOn 143 = .ok (.invokestatic 245, 3) := by decide +kernel
theorem dX12_letsOn_146 : decode cX12_letsOn 146 = .ok (.iastore, 1) := by decide +kernel
theorem dX12_letsOn_147 : decode cX12_letsOn 147 = .ok (.aload_n 0, 1) := by decide +kernel
theorem dX12_letsOn_148 : decode cX12_letsOn 148 = .ok (.getfield 33, 3) := by decide +kernel
theorem dX12_letsOn_151 : decode cX12_letsOn 151 = .ok (.iload_n 1, 1) := by decide +kernel
theorem dX12_letsOn_152 : decode cX12_letsOn 152 = .ok (.aload_n 0, 1) := by decide +kernel
theorem dX12_letsOn_153 : decode cX12_letsOn 153 = .ok (.iload_n 1, 1) := by decide +kernel
theorem dX12_letsOn_154 : decode cX12_letsOn 154 = .ok (.bipush 10, 2) := by decide +kernel
theorem dX12_letsOn_156 : decode cX12_letsOn 156 = .ok (.invokevirtual 117, 3) := by decide +kernel
theorem dX12_letsOn_159 : decode cX12_letsOn 159 = .ok (.iload_n 3, 1) := by decide +kernel
theorem dX12_letsOn_160 : decode cX12_letsOn 160 = .ok (.aload_n 0, 1) := by decide +kernel
theorem dX12_letsOn_161 : decode cX12_letsOn 161 = .ok (.getfield 30, 3) := by decide +kernel
theorem dX12_letsOn_164 : decode cX12_letsOn 164 = .ok (.iload_n 1, 1) := by decide +kernel
theorem dX12_letsOn_165 : decode cX12_letsOn 165 = .ok (.iaload, 1) := by decide +kernel
theorem dX12_letsOn_166 : decode cX12_letsOn 166 = .ok (.isub, 1) := by decide +kernel
theorem dX12_letsOn_167 : decode cX12_letsOn 167 = .ok (.invokestatic 245, 3) := by decide +kernel
theorem dX12_letsOn_170 : decode cX12_letsOn 170 = .ok (.iastore, 1) := by decide +kernel
theorem dX12_letsOn_171 : decode cX12_letsOn 171 = .ok (.aload_n 0, 1) := by decide +kernel
theorem dX12_letsOn_172 : decode cX12_letsOn 172 = .ok (.getfield 13, 3) := by decide +kernel
theorem dX12_letsOn_175 : decode cX12_letsOn 175 = .ok (.bipush 15, 2) := by decide +kernel
theorem dX12_letsOn_177 : decode cX12_letsOn 177 = .ok (.iload_n 1, 1) := by decide +kernel
theorem dX12_letsOn_178 : decode cX12_letsOn 178 = .ok (.imul, 1) := by decide +kernel
theorem dX12_letsOn_179 : decode cX12_letsOn 179 = .ok (.bipush 9, 2) := by decide +kernel
theorem dX12_letsOn_181 : decode cX12_letsOn 181 = .ok (.iadd, 1) := by decide +kernel
theorem dX12_letsOn_182 : decode cX12_letsOn 182 = .ok (.dup2, 1) := by decide +kernel
theorem dX12_letsOn_183 : decode cX12_letsOn 183 = .ok (.iaload, 1) := by decide +kernel
theorem dX12_letsOn_184 : decode cX12_letsOn 184 = .ok (.aload_n 0, 1) := by decide +kernel
theorem dX12_letsOn_185 : decode cX12_letsOn 185 = .ok (.getfield 30, 3) := by decide +kernel
theorem dX12_letsOn_188 : decode cX12_letsOn 188 = .ok (.iload_n 1, 1) := by decide +kernel
theorem dX12_letsOn_189 : decode cX12_letsOn 189 = .ok (.iaload, 1) := by decide +kernel
theorem dX12_letsOn_190 : decode cX12_letsOn 190 = .ok (.isub, 1) := by decide +kernel
theorem dX12_letsOn_191 : decode cX12_letsOn 191 = .ok (.iastore, 1) := by decide +kernel
theorem dX12_letsOn_192 : decode cX12_letsOn 192 = .ok (.aload_n 0, 1) := by decide +kernel
theorem dX12_letsOn_193 : decode cX12_letsOn 193 = .ok (.getfield 13, 3) := by decide +kernel
theorem dX12_letsOn_196 : decode cX12_letsOn 196 = .ok (.bipush 15, 2) := by decide +kernel
theorem dX12_letsOn_198 : decode cX12_letsOn 198 = .ok (.iload_n 1, 1) := by decide +kernel
theorem dX12_letsOn_199 : decode cX12_letsOn 199 = .ok (.imul, 1) := by decide +kernel
theorem dX12_letsOn_200 : decode cX12_letsOn 200 = .ok (.bipush 10, 2) := by decide +kernel
theorem dX12_letsOn_202 : decode cX12_letsOn 202 = .ok (.iadd, 1) := by decide +kernel
theorem dX12_letsOn_203 : decode cX12_letsOn 203 = .ok (.dup2, 1) := by decide +kernel
theorem dX12_letsOn_204 : decode cX12_letsOn 204 = .ok (.iaload, 1) := by decide +kernel
theorem dX12_letsOn_205 : decode cX12_letsOn 205 = .ok (.aload_n 0, 1) := by decide +kernel
theorem dX12_letsOn_206 : decode cX12_letsOn 206 = .ok (.getfield 33, 3) := by decide +kernel
theorem dX12_letsOn_209 : decode cX12_letsOn 209 = .ok (.iload_n 1, 1) := by decide +kernel
theorem dX12_letsOn_210 : decode cX12_letsOn 210 = .ok (.iaload, 1) := by decide +kernel
theorem dX12_letsOn_211 : decode cX12_letsOn 211 = .ok (.isub, 1) := by decide +kernel
theorem dX12_letsOn_212 : decode cX12_letsOn 212 = .ok (.iastore, 1) := by decide +kernel
theorem dX12_letsOn_213 : decode cX12_letsOn 213 = .ok (.return_, 1) := by decide +kernel
theorem dX12_lifts_0 : decode cX12_lifts 0 = .ok (.sipush 1500, 3) := by decide +kernel
theorem dX12_lifts_3 : decode cX12_lifts 3 = .ok (.bipush 10, 2) := by decide +kernel
theorem dX12_lifts_5 : decode cX12_lifts 5 = .ok (.iload_n 1, 1) := by decide +kernel
theorem dX12_lifts_6 : decode cX12_lifts 6 = .ok (.imul, 1) := by decide +kernel
theorem dX12_lifts_7 : decode cX12_lifts 7 = .ok (.iadd, 1) := by decide +kernel
theorem dX12_lifts_8 : decode cX12_lifts 8 = .ok (.istore_n 2, 1) := by decide +kernel
theorem dX12_lifts_9 : decode cX12_lifts 9 = .ok (.aload_n 0, 1) := by decide +kernel
theorem dX12_lifts_10 : decode cX12_lifts 10 = .ok (.getfield 13, 3) := by decide +kernel
theorem dX12_lifts_13 : decode cX12_lifts 13 = .ok (.iload_n 2, 1) := by decide +kernel
theorem dX12_lifts_14 : decode cX12_lifts 14 = .ok (.iconst 0, 1) := by decide +kernel
theorem dX12_lifts_15 : decode cX12_lifts 15 = .ok (.iadd, 1) := by decide +kernel
theorem dX12_lifts_16 : decode cX12_lifts 16 = .ok (.iaload, 1) := by decide +kernel
theorem dX12_lifts_17 : decode cX12_lifts 17 = .ok (.iconst 1, 1) := by decide +kernel
theorem dX12_lifts_18 : decode cX12_lifts 18 = .ok (.if_icmp .ne 15, 3) := by decide +kernel
theorem dX12_lifts_21 : decode cX12_lifts 21 = .ok (.aload_n 0, 1) := by decide +kernel
theorem dX12_lifts_22 : decode cX12_lifts 22 = .ok (.getfield 13, 3) := by decide +kernel
theorem dX12_lifts_25 : decode cX12_lifts 25 = .ok (.iload_n 2, 1) := by decide +kernel
theorem dX12_lifts_26 : decode cX12_lifts 26 = .ok (.iconst 4, 1) := by decide +kernel
theorem dX12_lifts_27 : decode cX12_lifts 27 = .ok (.iadd, 1) := by decide +kernel
theorem dX12_lifts_28 : decode cX12_lifts 28 = .ok (.iaload, 1) := by decide +kernel
theorem dX12_lifts_29 : decode cX12_lifts 29 = .ok (.iconst 1, 1) := by decide +kernel
theorem dX12_lifts_30 : decode cX12_lifts 30 = .ok (.if_icmp .ne 4, 3) := by decide +kernel
theorem dX12_lifts_33 : decode cX12_lifts 33 = .ok (.return_, 1) := by decide +kernel
theorem dX12_lifts_34 : decode cX12_lifts 34 = .ok (.aload_n 0, 1) := by decide +kernel
theorem dX12_lifts_35 : decode cX12_lifts 35 = .ok (.getfield 13, 3) := by decide +kernel
theorem dX12_lifts_38 : decode cX12_lifts 38 = .ok (.iload_n 2, 1) := by decide +kernel
theorem dX12_lifts_39 : decode cX12_lifts 39 = .ok (.iconst 2, 1) := by decide +kernel
theorem dX12_lifts_40 : decode cX12_lifts 40 = .ok (.iadd, 1) := by decide +kernel
theorem dX12_lifts_41 : decode cX12_lifts 41 = .ok (.iaload, 1) := by decide +kernel
theorem dX12_lifts_42 : decode cX12_lifts 42 = .ok (.bipush 100, 2) := by decide +kernel
theorem dX12_lifts_44 : decode cX12_lifts 44 = .ok (.aload_n 0, 1) := by decide +kernel
theorem dX12_lifts_45 : decode cX12_lifts 45 = .ok (.getfield 13, 3) := by decide +kernel
theorem dX12_lifts_48 : decode cX12_lifts 48 = .ok (.iload_n 2, 1) := by decide +kernel
theorem dX12_lifts_49 : decode cX12_lifts 49 = .ok (.iconst 3, 1) := by decide +kernel
theorem dX12_lifts_50 : decode cX12_lifts 50 = .ok (.iadd, 1) := by decide +kernel
theorem dX12_lifts_51 : decode cX12_lifts 51 = .ok (.iaload, 1) := by decide +kernel
theorem dX12_lifts_52 : decode cX12_lifts 52 = .ok (.imul, 1) := by decide +kernel
theorem dX12_lifts_53 : decode cX12_lifts 53 = .ok (.invokestatic 245, 3) := by decide +kernel
theorem dX12_lifts_56 : decode cX12_lifts 56 = .ok (.istore_n 3, 1) := by decide +kernel
theorem dX12_lifts_57 : decode cX12_lifts 57 = .ok (.aload_n 0, 1) := by decide +kernel
theorem dX12_lifts_58 : decode cX12_lifts 58 = .ok (.iload_n 1, 1) := by decide +kernel
theorem dX12_lifts_59 : decode cX12_lifts 59 = .ok (.bipush 9, 2) := by decide +kernel
theorem dX12_lifts_61 : decode cX12_lifts 61 = .ok (.invokevirtual 117, 3) := by decide +kernel
theorem dX12_lifts_64 : decode cX12_lifts 64 = .ok (.iload_n 3, 1) := by decide +kernel
theorem dX12_lifts_65 : decode cX12_lifts 65 = .ok (.invokestatic 245, 3) := by decide +kernel
theorem dX12_lifts_68 : decode cX12_lifts 68 = .ok (.istore 4, 2) := by decide +kernel
theorem dX12_lifts_70 : decode cX12_lifts 70 = .ok (.aload_n 0, 1) := by decide +kernel
theorem dX12_lifts_71 : decode cX12_lifts 71 = .ok (.iload_n 1, 1) := by decide +kernel
theorem dX12_lifts_72 : decode cX12_lifts 72 = .ok (.bipush 10, 2) := by decide +kernel
theorem dX12_lifts_74 : decode cX12_lifts 74 = .ok (.invokevirtual 117, 3) := by decide +kernel
theorem dX12_lifts_77 : decode cX12_lifts 77 = .ok (.iload_n 3, 1) := by decide +kernel
theorem dX12_lifts_78 : decode cX12_lifts 78 = .ok (.iload 4, 2) := by decide +kernel
theorem dX12_lifts_80 : decode cX12_lifts 80 = .ok (.isub, 1) := by decide +kernel
theorem dX12_lifts_81 : decode cX12_lifts 81 = .ok (.invokestatic 245, 3) := by decide +kernel
theorem dX12_lifts_84 : decode cX12_lifts 84 = .ok (.istore 5, 2) := by decide +kernel
theorem dX12_lifts_86 : decode cX12_lifts 86 = .ok (.aload_n 0, 1) := by decide +kernel
theorem dX12_lifts_87 : decode cX12_lifts 87 = .ok (.getfield 13, 3) := by decide +kernel
theorem dX12_lifts_90 : decode cX12_lifts 90 = .ok (.bipush 15, 2) := by decide +kernel
theorem dX12_lifts_92 : decode cX12_lifts 92 = .ok (.iload_n 1, 1) := by decide +kernel
theorem dX12_lifts_93 : decode cX12_lifts 93 = .ok (.imul, 1) := by decide +kernel
theorem dX12_lifts_94 : decode cX12_lifts 94 = .ok (.bipush 9, 2) := by decide +kernel
theorem dX12_lifts_96 : decode cX12_lifts 96 = .ok (.iadd, 1) := by decide +kernel
theorem dX12_lifts_97 : decode cX12_lifts 97 = .ok (.dup2, 1) := by decide +kernel
theorem dX12_lifts_98 : decode cX12_lifts 98 = .ok (.iaload, 1) := by decide +kernel
theorem dX12_lifts_99 : decode cX12_lifts 99 = .ok (.iload 4, 2) := by decide +kernel
theorem dX12_lifts_101 : decode cX12_lifts 101 = .ok (.isub, 1) := by decide +kernel
theorem dX12_lifts_102 : decode cX12_lifts 102 = .ok (.iastore, 1) := by decide +kernel
theorem dX12_lifts_103 : decode cX12_lifts 103 = .ok (.aload_n 0, 1) := by decide +kernel
theorem dX12_lifts_104 : decode cX12_lifts 104 = .ok (.getfield 13, 3) := by decide +kernel
theorem dX12_lifts_107 : decode cX12_lifts 107 = .ok (.bipush 15, 2) := by decide +kernel
theorem dX12_lifts_109 : decode cX12_lifts 109 = .ok (.iload_n 1, 1) := by decide +kernel
theorem dX12_lifts_110 : decode cX12_lifts 110 = .ok (.imul, 1) := by decide +kernel
theorem dX12_lifts_111 : decode cX12_lifts 111 = .ok (.bipush 10, 2) := by decide +kernel
theorem dX12_lifts_113 : decode cX12_lifts 113 = .ok (.iadd, 1) := by decide +kernel
theorem dX12_lifts_114 : decode cX12_lifts 114 = .ok (.dup2, 1) := by decide +kernel
theorem dX12_lifts_115 : decode cX12_lifts 115 = .ok (.iaload, 1) := by decide +kernel
theorem dX12_lifts_116 : decode cX12_lifts 116 = .ok (.iload 5, 2) := by decide +kernel
theorem dX12_lifts_118 : decode cX12_lifts 118 = .ok (.isub, 1) := by decide +kernel
theorem dX12_lifts_119 : decode cX12_lifts 119 = .ok (.iastore, 1) := by decide +kernel
theorem dX12_lifts_120 : decode cX12_lifts 120 = .ok (.aload_n 0, 1) := by decide +kernel
theorem dX12_lifts_121 : decode cX12_lifts 121 = .ok (.getfield 13, 3) := by decide +kernel
theorem dX12_lifts_124 : decode cX12_lifts 124 = .ok (.iload_n 2, 1) := by decide +kernel
theorem dX12_lifts_125 : decode cX12_lifts 125 = .ok (.iconst 3, 1) := by decide +kernel
theorem dX12_lifts_126 : decode cX12_lifts 126 = .ok (.iadd, 1) := by decide +kernel
theorem dX12_lifts_127 : decode cX12_lifts 127 = .ok (.dup2, 1) := by decide +kernel
theorem dX12_lifts_128 : decode cX12_lifts 128 = .ok (.iaload, 1) := by decide +kernel
theorem dX12_lifts_129 : decode cX12_lifts 129 = .ok (.iload 4, 2) := by decide +kernel
theorem dX12_lifts_131 : decode cX12_lifts 131 = .ok (.iload 5, 2) := by decide +kernel
theorem dX12_lifts_133 : decode cX12_lifts 133 = .ok (.iadd, 1) := by decide +kernel
theorem dX12_lifts_134 : decode cX12_lifts 134 = .ok (.bipush 99, 2) := by decide +kernel
theorem dX12_lifts_136 : decode cX12_lifts 136 = .ok (.iadd, 1) := by decide +kernel
theorem dX12_lifts_137 : decode cX12_lifts 137 = .ok (.bipush 100, 2) := by decide +kernel
theorem dX12_lifts_139 : decode cX12_lifts 139 = .ok (.idiv, 1) := by decide +kernel
theorem dX12_lifts_140 : decode cX12_lifts 140 = .ok (.isub, 1) := by decide +kernel
theorem dX12_lifts_141 : decode cX12_lifts 141 = .ok (.iastore, 1) := by decide +kernel
theorem dX12_lifts_142 : decode cX12_lifts 142 = .ok (.aload_n 0, 1) := by decide +kernel
theorem dX12_lifts_143 : decode cX12_lifts 143 = .ok (.aload_n 0, 1) := by decide +kernel
theorem dX12_lifts_144 : decode cX12_lifts 144 = .ok (.getfield 13, 3) := by decide +kernel
theorem dX12_lifts_147 : decode cX12_lifts 147 = .ok (.iload_n 2, 1) := by decide +kernel
theorem dX12_lifts_148 : decode cX12_lifts 148 = .ok (.iconst 1, 1) := by decide +kernel
theorem dX12_lifts_149 : decode cX12_lifts 149 = .ok (.iadd, 1) := by decide +kernel
theorem dX12_lifts_150 : decode cX12_lifts 150 = .ok (.iaload, 1) := by decide +kernel
theorem dX12_lifts_151 : decode cX12_lifts 151 = .ok (.iload 4, 2) := by decide +kernel
theorem dX12_lifts_153 : decode cX12_lifts 153 = .ok (.iload 5, 2) := by decide +kernel
theorem dX12_lifts_155 : decode cX12_lifts 155 = .ok (.invokevirtual 248, 3) := by decide +kernel
theorem dX12_lifts_158 : decode cX12_lifts 158 = .ok (.return_, 1) := by decide +kernel
theorem dX12_lookAtLines_0 : decode cX12_lookAtLines 0 = .ok (.iconst 0, 1) := by decide +kernel
theorem dX12_lookAtLines_1 : decode cX12_lookAtLines 1 = .ok (.istore_n 1, 1) := by decide +kernel
theorem dX12_lookAtLines_2 : decode cX12_lookAtLines 2 = .ok (.iload_n 1, 1) := by decide +kernel
theorem dX12_lookAtLines_3 : decode cX12_lookAtLines 3 = .ok (.aload_n 0, 1) := by decide +kernel
theorem dX12_lookAtLines_4 : decode cX12_lookAtLines 4 = .ok (.bipush 15, 2) := by decide +kernel
theorem dX12_lookAtLines_6 : decode cX12_lookAtLines 6 = .ok (.invokevirtual 101, 3) := by decide +kernel
theorem dX12_lookAtLines_9 : decode cX12_lookAtLines 9 = .ok (.if_icmp .ge 20, 3) := by decide +kernel
theorem dX12_lookAtLines_12 : decode cX12_lookAtLines 12 = .ok (.aload_n 0, 1) := by decide +kernel
theorem dX12_lookAtLines_13 : decode cX12_lookAtLines 13 = .ok (.getfield 26, 3) := by decide +kernel
theorem dX12_lookAtLines_16 : decode cX12_lookAtLines 16 = .ok (.iload_n 1, 1) := by decide +kernel
theorem dX12_lookAtLines_17 : decode cX12_lookAtLines 17 = .ok (.aload_n 0, 1) := by decide +kernel
theorem dX12_lookAtLines_18 : decode cX12_lookAtLines 18 = .ok (.iload_n 1, 1) := by decide +kernel
theorem dX12_lookAtLines_19 : decode cX12_lookAtLines 19 = .ok (.invokevirtual 211, 3) := by decide +kernel
theorem dX12_lookAtLines_22 : decode cX12_lookAtLines 22 = .ok (.bastore, 1) := by decide +kernel
theorem dX12_lookAtLines_23 : decode cX12_lookAtLines 23 = .ok (.iinc 1 1, 3) := by decide +kernel
theorem dX12_lookAtLines_26 : decode cX12_lookAtLines 26 = .ok (.goto (-24), 3) := by decide +kernel
theorem dX12_lookAtLines_29 : decode cX12_lookAtLines 29 = .ok (.return_, 1) := by decide +kernel
theorem dX12_outs_0 : decode cX12_outs 0 = .ok (.sipush 1500, 3) := by decide +kernel
theorem dX12_outs_3 : decode cX12_outs 3 = .ok (.bipush 10, 2) := by decide +kernel
theorem dX12_outs_5 : decode cX12_outs 5 = .ok (.iload_n 1, 1) := by decide +kernel
theorem dX12_outs_6 : decode cX12_outs 6 = .ok (.imul, 1) := by decide +kernel
theorem dX12_outs_7 : decode cX12_outs 7 = .ok (.iadd, 1) := by decide +kernel
theorem dX12_outs_8 : decode cX12_outs 8 = .ok (.istore_n 2, 1) := by decide +kernel
theorem dX12_outs_9 : decode cX12_outs 9 = .ok (.aload_n 0, 1) := by decide +kernel
theorem dX12_outs_10 : decode cX12_outs 10 = .ok (.getfield 13, 3) := by decide +kernel
theorem dX12_outs_13 : decode cX12_outs 13 = .ok (.iload_n 2, 1) := by decide +kernel
theorem dX12_outs_14 : decode cX12_outs 14 = .ok (.iconst 0, 1) := by decide +kernel
theorem dX12_outs_15 : decode cX12_outs 15 = .ok (.iadd, 1) := by decide +kernel
theorem dX12_outs_16 : decode cX12_outs 16 = .ok (.iaload, 1) := by decide +kernel
theorem dX12_outs_17 : decode cX12_outs 17 = .ok (.iconst 2, 1) := by decide +kernel
theorem dX12_outs_18 : decode cX12_outs 18 = .ok (.if_icmp .eq 4, 3) := by decide +kernel
theorem dX12_outs_21 : decode cX12_outs 21 = .ok (.return_, 1) := by decide +kernel
theorem dX12_outs_22 : decode cX12_outs 22 = .ok (.aload_n 0, 1) := by decide +kernel
theorem dX12_outs_23 : decode cX12_outs 23 = .ok (.getfield 13, 3) := by decide +kernel
theorem dX12_outs_26 : decode cX12_outs 26 = .ok (.iload_n 2, 1) := by decide +kernel
theorem dX12_outs_27 : decode cX12_outs 27 = .ok (.iconst 5, 1) := by decide +kernel
theorem dX12_outs_28 : decode cX12_outs 28 = .ok (.iadd, 1) := by decide +kernel
theorem dX12_outs_29 : decode cX12_outs 29 = .ok (.iaload, 1) := by decide +kernel
theorem dX12_outs_30 : decode cX12_outs 30 = .ok (.aload_n 0, 1) := by decide +kernel
theorem dX12_outs_31 : decode cX12_outs 31 = .ok (.getfield 13, 3) := by decide +kernel
theorem dX12_outs_34 : decode cX12_outs 34 = .ok (.iload_n 2, 1) := by decide +kernel
theorem dX12_outs_35 : decode cX12_outs 35 = .ok (.bipush 8, 2) := by decide +kernel
theorem dX12_outs_37 : decode cX12_outs 37 = .ok (.iadd, 1) := by decide +kernel
theorem dX12_outs_38 : decode cX12_outs 38 = .ok (.iaload, 1) := by decide +kernel
theorem dX12_outs_39 : decode cX12_outs 39 = .ok (.isub, 1) := by decide +kernel
theorem dX12_outs_40 : decode cX12_outs 40 = .ok (.aload_n 0, 1) := by decide +kernel
theorem dX12_outs_41 : decode cX12_outs 41 = .ok (.getfield 13, 3) := by decide +kernel
theorem dX12_outs_44 : decode cX12_outs 44 = .ok (.iload_n 2, 1) := by decide +kernel
theorem dX12_outs_45 : decode cX12_outs 45 = .ok (.bipush 9, 2) := by decide +kernel
theorem dX12_outs_47 : decode cX12_outs 47 = .ok (.iadd, 1) := by decide +kernel
theorem dX12_outs_48 : decode cX12_outs 48 = .ok (.iaload, 1) := by decide +kernel
theorem dX12_outs_49 : decode cX12_outs 49 = .ok (.isub, 1) := by decide +kernel
theorem dX12_outs_50 : decode cX12_outs 50 = .ok (.istore_n 3, 1) := by decide +kernel
theorem dX12_outs_51 : decode cX12_outs 51 = .ok (.aload_n 0, 1) := by decide +kernel
theorem dX12_outs_52 : decode cX12_outs 52 = .ok (.iload_n 1, 1) := by decide +kernel
theorem dX12_outs_53 : decode cX12_outs 53 = .ok (.bipush 9, 2) := by decide +kernel
theorem dX12_outs_55 : decode cX12_outs 55 = .ok (.invokevirtual 117, 3) := by decide +kernel
theorem dX12_outs_58 : decode cX12_outs 58 = .ok (.iload_n 3, 1) := by decide +kernel
theorem dX12_outs_59 : decode cX12_outs 59 = .ok (.invokestatic 245, 3) := by decide +kernel
theorem dX12_outs_62 : decode cX12_outs 62 = .ok (.istore 4, 2) := by decide +kernel
theorem dX12_outs_64 : decode cX12_outs 64 = .ok (.aload_n 0, 1) := by decide +kernel
theorem dX12_outs_65 : decode cX12_outs 65 = .ok (.iload_n 1, 1) := by decide +kernel
theorem dX12_outs_66 : decode cX12_outs 66 = .ok (.bipush 10, 2) := by decide +kernel
theorem dX12_outs_68 : decode cX12_outs 68 = .ok (.invokevirtual 117, 3) := by decide +kernel
theorem dX12_outs_71 : decode cX12_outs 71 = .ok (.iload_n 3, 1) := by decide +kernel
theorem dX12_outs_72 : decode cX12_outs 72 = .ok (.iload 4, 2) := by decide +kernel
theorem dX12_outs_74 : decode cX12_outs 74 = .ok (.isub, 1) := by decide +kernel
theorem dX12_outs_75 : decode cX12_outs 75 = .ok (.invokestatic 245, 3) := by decide +kernel
theorem dX12_outs_78 : decode cX12_outs 78 = .ok (.istore 5, 2) := by decide +kernel
theorem dX12_outs_80 : decode cX12_outs 80 = .ok (.aload_n 0, 1) := by decide +kernel
theorem dX12_outs_81 : decode cX12_outs 81 = .ok (.getfield 13, 3) := by decide +kernel
theorem dX12_outs_84 : decode cX12_outs 84 = .ok (.bipush 15, 2) := by decide +kernel
theorem dX12_outs_86 : decode cX12_outs 86 = .ok (.iload_n 1, 1) := by decide +kernel
theorem dX12_outs_87 : decode cX12_outs 87 = .ok (.imul, 1) := by decide +kernel
theorem dX12_outs_88 : decode cX12_outs 88 = .ok (.bipush 9, 2) := by decide +kernel
theorem dX12_outs_90 : decode cX12_outs 90 = .ok (.iadd, 1) := by decide +kernel
theorem dX12_outs_91 : decode cX12_outs 91 = .ok (.dup2, 1) := by decide +kernel
theorem dX12_outs_92 : decode cX12_outs 92 = .ok (.iaload, 1) := by decide +kernel
theorem dX12_outs_93 : decode cX12_outs 93 = .ok (.iload 4, 2) := by decide +kernel
theorem dX12_outs_95 : decode cX12_outs 95 = .ok (.isub, 1) := by decide +kernel
theorem dX12_outs_96 : decode cX12_outs 96 = .ok (.iastore, 1) := by decide +kernel
theorem dX12_outs_97 : decode cX12_outs 97 = .ok (.aload_n 0, 1) := by decide +kernel
theorem dX12_outs_98 : decode cX12_outs 98 = .ok (.getfield 13, 3) := by decide +kernel
theorem dX12_outs_101 : decode cX12_outs 101 = .ok (.bipush 15, 2) := by decide +kernel
theorem dX12_outs_103 : decode cX12_outs 103 = .ok (.iload_n 1, 1) := by decide +kernel
theorem dX12_outs_104 : decode cX12_outs 104 = .ok (.imul, 1) := by decide +kernel
theorem dX12_outs_105 : decode cX12_outs 105 = .ok (.bipush 10, 2) := by decide +kernel
theorem dX12_outs_107 : decode cX12_outs 107 = .ok (.iadd, 1) := by decide +kernel
theorem dX12_outs_108 : decode cX12_outs 108 = .ok (.dup2, 1) := by decide +kernel
theorem dX12_outs_109 : decode cX12_outs 109 = .ok (.iaload, 1) := by decide +kernel
theorem dX12_outs_110 : decode cX12_outs 110 = .ok (.iload 5, 2) := by decide +kernel
theorem dX12_outs_112 : decode cX12_outs 112 = .ok (.isub, 1) := by decide +kernel
theorem dX12_outs_113 : decode cX12_outs 113 = .ok (.iastore, 1) := by decide +kernel
theorem dX12_outs_114 : decode cX12_outs 114 = .ok (.aload_n 0, 1) := by decide +kernel
theorem dX12_outs_115 : decode cX12_outs 115 = .ok (.getfield 13, 3) := by decide +kernel
theorem dX12_outs_118 : decode cX12_outs 118 = .ok (.iload_n 2, 1) := by decide +kernel
theorem dX12_outs_119 : decode cX12_outs 119 = .ok (.bipush 8, 2) := by decide +kernel
theorem dX12_outs_121 : decode cX12_outs 121 = .ok (.iadd, 1) := by decide +kernel
theorem dX12_outs_122 : decode cX12_outs 122 = .ok (.dup2, 1) := by decide +kernel
theorem dX12_outs_123 : decode cX12_outs 123 = .ok (.iaload, 1) := by decide +kernel
theorem dX12_outs_124 : decode cX12_outs 124 = .ok (.iload 4, 2) := by decide +kernel
theorem dX12_outs_126 : decode cX12_outs 126 = .ok (.iadd, 1) := by decide +kernel
theorem dX12_outs_127 : decode cX12_outs 127 = .ok (.iastore, 1) := by decide +kernel
theorem dX12_outs_128 : decode cX12_outs 128 = .ok (.aload_n 0, 1) := by decide +kernel
theorem dX12_outs_129 : decode cX12_outs 129 = .ok (.getfield 13, 3) := by decide +kernel
theorem dX12_outs_132 : decode cX12_outs 132 = .ok (.iload_n 2, 1) := by decide +kernel
theorem dX12_outs_133 : decode cX12_outs 133 = .ok (.bipush 9, 2) := by decide +kernel
theorem dX12_outs_135 : decode cX12_outs 135 = .ok (.iadd, 1) := by decide +kernel
theorem dX12_outs_136 : decode cX12_outs 136 = .ok (.dup2, 1) := by decide +kernel
theorem dX12_outs_137 : decode cX12_outs 137 = .ok (.iaload, 1) := by decide +kernel
theorem dX12_outs_138 : decode cX12_outs 138 = .ok (.iload 5, 2) := by decide +kernel
theorem dX12_outs_140 : decode cX12_outs 140 = .ok (.iadd, 1) := by decide +kernel
theorem dX12_outs_141 : decode cX12_outs 141 = .ok (.iastore, 1) := by decide +kernel
theorem dX12_outs_142 : decode cX12_outs 142 = .ok (.aload_n 0, 1) := by decide +kernel
theorem dX12_outs_143 : decode cX12_outs 143 = .ok (.iconst 2, 1) := by decide +kernel
theorem dX12_outs_144 : decode cX12_outs 144 = .ok (.iload_n 1, 1) := by decide +kernel
theorem dX12_outs_145 : decode cX12_outs 145 = .ok (.invokevirtual 217, 3) := by decide +kernel
theorem dX12_outs_148 : decode cX12_outs 148 = .ok (.ifCond .eq 24, 3) := by decide +kernel
theorem dX12_outs_151 : decode cX12_outs 151 = .ok (.aload_n 0, 1) := by decide +kernel
theorem dX12_outs_152 : decode cX12_outs 152 = .ok (.aload_n 0, 1) := by decide +kernel
theorem dX12_outs_153 : decode cX12_outs 153 = .ok (.iconst 0, 1) := by decide +kernel
theorem dX12_outs_154 : decode cX12_outs 154 = .ok (.invokevirtual 101, 3) := by decide +kernel
theorem dX12_outs_157 : decode cX12_outs 157 = .ok (.invokevirtual 138, 3) := by decide +kernel
theorem dX12_outs_160 : decode cX12_outs 160 = .ok (.aload_n 0, 1) := by decide +kernel
theorem dX12_outs_161 : decode cX12_outs 161 = .ok (.getfield 13, 3) := by decide +kernel
theorem dX12_outs_164 : decode cX12_outs 164 = .ok (.iload_n 2, 1) := by decide +kernel
theorem dX12_outs_165 : decode cX12_outs 165 = .ok (.bipush 7, 2) := by decide +kernel
theorem dX12_outs_167 : decode cX12_outs 167 = .ok (.iadd, 1) := by decide +kernel
theorem dX12_outs_168 : decode cX12_outs 168 = .ok (.iaload, 1) := by decide +kernel
theorem dX12_outs_169 : decode cX12_outs 169 = .ok (.if_icmp .lt 4, 3) := by decide +kernel
theorem dX12_outs_172 : decode cX12_outs 172 = .ok (.return_, 1) := by decide +kernel
theorem dX12_outs_173 : decode cX12_outs 173 = .ok (.aload_n 0, 1) := by decide +kernel
theorem dX12_outs_174 : decode cX12_outs 174 = .ok (.getfield 13, 3) := by decide +kernel
theorem dX12_outs_177 : decode cX12_outs 177 = .ok (.iload_n 2, 1) := by decide +kernel
theorem dX12_outs_178 : decode cX12_outs 178 = .ok (.bipush 8, 2) := by decide +kernel
theorem dX12_outs_180 : decode cX12_outs 180 = .ok (.iadd, 1) := by decide +kernel
theorem dX12_outs_181 : decode cX12_outs 181 = .ok (.iaload, 1) := by decide +kernel
theorem dX12_outs_182 : decode cX12_outs 182 = .ok (.aload_n 0, 1) := by decide +kernel
theorem dX12_outs_183 : decode cX12_outs 183 = .ok (.getfield 13, 3) := by decide +kernel
theorem dX12_outs_186 : decode cX12_outs 186 = .ok (.iload_n 2, 1) := by decide +kernel
theorem dX12_outs_187 : decode cX12_outs 187 = .ok (.bipush 6, 2) := by decide +kernel
theorem dX12_outs_189 : decode cX12_outs 189 = .ok (.iadd, 1) := by decide +kernel
theorem dX12_outs_190 : decode cX12_outs 190 = .ok (.iaload, 1) := by decide +kernel
theorem dX12_outs_191 : decode cX12_outs 191 = .ok (.invokestatic 245, 3) := by decide +kernel
theorem dX12_outs_194 : decode cX12_outs 194 = .ok (.istore 6, 2) := by decide +kernel
theorem dX12_outs_196 : decode cX12_outs 196 = .ok (.aload_n 0, 1) := by decide +kernel
theorem dX12_outs_197 : decode cX12_outs 197 = .ok (.getfield 13, 3) := by decide +kernel
theorem dX12_outs_200 : decode cX12_outs 200 = .ok (.iload_n 2, 1) := by decide +kernel
theorem dX12_outs_201 : decode cX12_outs 201 = .ok (.bipush 9, 2) := by decide +kernel
theorem dX12_outs_203 : decode cX12_outs 203 = .ok (.iadd, 1) := by decide +kernel
theorem dX12_outs_204 : decode cX12_outs 204 = .ok (.iaload, 1) := by decide +kernel
theorem dX12_outs_205 : decode cX12_outs 205 = .ok (.aload_n 0, 1) := by decide +kernel
theorem dX12_outs_206 : decode cX12_outs 206 = .ok (.getfield 13, 3) := by decide +kernel
theorem dX12_outs_209 : decode cX12_outs 209 = .ok (.iload_n 2, 1) := by decide +kernel
theorem dX12_outs_210 : decode cX12_outs 210 = .ok (.bipush 6, 2) := by decide +kernel
theorem dX12_outs_212 : decode cX12_outs 212 = .ok (.iadd, 1) := by decide +kernel
theorem dX12_outs_213 : decode cX12_outs 213 = .ok (.iaload, 1) := by decide +kernel
theorem dX12_outs_214 : decode cX12_outs 214 = .ok (.iload 6, 2) := by decide +kernel
theorem dX12_outs_216 : decode cX12_outs 216 = .ok (.isub, 1) := by decide +kernel
theorem dX12_outs_217 : decode cX12_outs 217 = .ok (.invokestatic 245, 3) := by decide +kernel
theorem dX12_outs_220 : decode cX12_outs 220 = .ok (.istore 7, 2) := by decide +kernel
theorem dX12_outs_222 : decode cX12_outs 222 = .ok (.aload_n 0, 1) := by decide +kernel
theorem dX12_outs_223 : decode cX12_outs 223 = .ok (.getfield 13, 3) := by decide +kernel
theorem dX12_outs_226 : decode cX12_outs 226 = .ok (.iload_n 2, 1) := by decide +kernel
theorem dX12_outs_227 : decode cX12_outs 227 = .ok (.bipush 8, 2) := by decide +kernel
theorem dX12_outs_229 : decode cX12_outs 229 = .ok (.iadd, 1) := by decide +kernel
theorem dX12_outs_230 : decode cX12_outs 230 = .ok (.dup2, 1) := by decide +kernel
theorem dX12_outs_231 : decode cX12_outs 231 = .ok (.iaload, 1) := by decide +kernel
theorem dX12_outs_232 : decode cX12_outs 232 = .ok (.iload 6, 2) := by decide +kernel
theorem dX12_outs_234 : decode cX12_outs 234 = .ok (.isub, 1) := by decide +kernel
theorem dX12_outs_235 : decode cX12_outs 235 = .ok (.iastore, 1) := by decide +kernel
theorem dX12_outs_236 : decode cX12_outs 236 = .ok (.aload_n 0, 1) := by decide +kernel
theorem dX12_outs_237 : decode cX12_outs 237 = .ok (.getfield 13, 3) := by decide +kernel
theorem dX12_outs_240 : decode cX12_outs 240 = .ok (.iload_n 2, 1) := by decide +kernel
theorem dX12_outs_241 : decode cX12_outs 241 = .ok (.bipush 9, 2) := by decide +kernel
theorem dX12_outs_243 : decode cX12_outs 243 = .ok (.iadd, 1) := by decide +kernel
theorem dX12_outs_244 : decode cX12_outs 244 = .ok (.dup2, 1) := by decide +kernel
theorem dX12_outs_245 : decode cX12_outs 245 = .ok (.iaload, 1) := by decide +kernel
theorem dX12_outs_246 : decode cX12_outs 246 = .ok (.iload 7, 2) := by decide +kernel
theorem dX12_outs_248 : decode cX12_outs 248 = .ok (.isub, 1) := by decide +kernel
theorem dX12_outs_249 : decode cX12_outs 249 = .ok (.iastore, 1) := by decide +kernel
theorem dX12_outs_250 : decode cX12_outs 250 = .ok (.aload_n 0, 1) := by decide +kernel
theorem dX12_outs_251 : decode cX12_outs 251 = .ok (.getfield 13, 3) := by decide +kernel
theorem dX12_outs_254 : decode cX12_outs 254 = .ok (.sipush 4308, 3) := by decide +kernel
theorem dX12_outs_257 : decode cX12_outs 257 = .ok (.dup2, 1) := by decide +kernel
theorem dX12_outs_258 : decode cX12_outs 258 = .ok (.iaload, 1) := by decide +kernel
theorem dX12_outs_259 : decode cX12_outs 259 = .ok (.iload 7, 2) := by decide +kernel
theorem dX12_outs_261 : decode cX12_outs 261 = .ok (.iadd, 1) := by decide +kernel
theorem dX12_outs_262 : decode cX12_outs 262 = .ok (.iastore, 1) := by decide +kernel
theorem dX12_outs_263 : decode cX12_outs 263 = .ok (.aload_n 0, 1) := by decide +kernel
theorem dX12_outs_264 : decode cX12_outs 264 = .ok (.aload_n 0, 1) := by decide +kernel
theorem dX12_outs_265 : decode cX12_outs 265 = .ok (.iconst 0, 1) := by decide +kernel
theorem dX12_outs_266 : decode cX12_outs 266 = .ok (.invokevirtual 101, 3) := by decide +kernel
theorem dX12_outs_269 : decode cX12_outs 269 = .ok (.invokevirtual 143, 3) := by decide +kernel
theorem dX12_outs_272 : decode cX12_outs 272 = .ok (.ifCond .eq 19, 3) := by decide +kernel
theorem dX12_outs_275 : decode cX12_outs 275 = .ok (.aload_n 0, 1) := by decide +kernel
theorem dX12_outs_276 : decode cX12_outs 276 = .ok (.getfield 13, 3) := by decide +kernel
theorem dX12_outs_279 : decode cX12_outs 279 = .ok (.sipush 4310, 3) := by decide +kernel
theorem dX12_outs_282 : decode cX12_outs 282 = .ok (.dup2, 1) := by decide +kernel
theorem dX12_outs_283 : decode cX12_outs 283 = .ok (.iaload, 1) := by decide +kernel
theorem dX12_outs_284 : decode cX12_outs 284 = .ok (.iload 6, 2) := by decide +kernel
theorem dX12_outs_286 : decode cX12_outs 286 = .ok (.iadd, 1) := by decide +kernel
theorem dX12_outs_287 : decode cX12_outs 287 = .ok (.iastore, 1) := by decide +kernel
theorem dX12_outs_288 : decode cX12_outs 288 = .ok (.goto 16, 3) := by decide +kernel
theorem dX12_outs_291 : decode cX12_outs 291 = .ok (.aload_n 0, 1) := by decide +kernel
theorem dX12_outs_292 : decode cX12_outs 292 = .ok (.getfield 13, 3) := by decide +kernel
theorem dX12_outs_295 : decode cX12_outs 295 = .ok (.sipush 4309, 3) := by decide +kernel
theorem dX12_outs_298 : decode cX12_outs 298 = .ok (.dup2, 1) := by decide +kernel
theorem dX12_outs_299 : decode cX12_outs 299 = .ok (.iaload, 1) := by decide +kernel
theorem dX12_outs_300 : decode cX12_outs 300 = .ok (.iload 6, 2) := by decide +kernel
theorem dX12_outs_302 : decode cX12_outs 302 = .ok (.iadd, 1) := by decide +kernel
theorem dX12_outs_303 : decode cX12_outs 303 = .ok (.iastore, 1) := by decide +kernel
theorem dX12_outs_304 : decode cX12_outs 304 = .ok (.return_, 1) := by decide +kernel
theorem dX12_hold_0 : decode cX12_hold 0 = .ok (.aload_n 0, 1) := by decide +kernel
theorem dX12_hold_1 : decode cX12_hold 1 = .ok (.iload_n 1, 1) := by decide +kernel
theorem dX12_hold_2 : decode cX12_hold 2 = .ok (.invokevirtual 242, 3) := by decide +kernel
theorem dX12_hold_5 : decode cX12_hold 5 = .ok (.istore_n 2, 1) := by decide +kernel
theorem dX12_hold_6 : decode cX12_hold 6 = .ok (.bipush 50, 2) := by decide +kernel
theorem dX12_hold_8 : decode cX12_hold 8 = .ok (.bipush 40, 2) := by decide +kernel
theorem dX12_hold_10 : decode cX12_hold 10 = .ok (.aload_n 0, 1) := by decide +kernel
theorem dX12_hold_11 : decode cX12_hold 11 = .ok (.iload_n 1, 1) := by decide +kernel
theorem dX12_hold_12 : decode cX12_hold 12 = .ok (.bipush 8, 2) := by decide +kernel
theorem dX12_hold_14 : decode cX12_hold 14 = .ok (.invokevirtual 117, 3) := by decide +kernel
theorem dX12_hold_17 : decode cX12_hold 17 = .ok (.imul, 1) := by decide +kernel
theorem dX12_hold_18 : decode cX12_hold 18 = .ok (.iadd, 1) := by decide +kernel
theorem dX12_hold_19 : decode cX12_hold 19 = .ok (.iload_n 2, 1) := by decide +kernel
theorem dX12_hold_20 : decode cX12_hold 20 = .ok (.iconst (-1), 1) := by decide +kernel
theorem dX12_hold_21 : decode cX12_hold 21 = .ok (.if_icmp .ne 7, 3) := by decide +kernel
theorem dX12_hold_24 : decode cX12_hold 24 = .ok (.iconst 0, 1) := by decide +kernel
theorem dX12_hold_25 : decode cX12_hold 25 = .ok (.goto 12, 3) := by decide +kernel
theorem dX12_hold_28 : decode cX12_hold 28 = .ok (.bipush 60, 2) := by decide +kernel
theorem dX12_hold_30 : decode cX12_hold 30 = .ok (.aload_n 0, 1) := by decide +kernel
theorem dX12_hold_31 : decode cX12_hold 31 = .ok (.iload_n 2, 1) := by decide +kernel
theorem dX12_hold_32 : decode cX12_hold 32 = .ok (.iconst 1, 1) := by decide +kernel
theorem dX12_hold_33 : decode cX12_hold 33 = .ok (.invokevirtual 193, 3) := by decide +kernel
theorem dX12_hold_36 : decode cX12_hold 36 = .ok (.imul, 1) := by decide +kernel
theorem dX12_hold_37 : decode cX12_hold 37 = .ok (.iadd, 1) := by decide +kernel
theorem dX12_hold_38 : decode cX12_hold 38 = .ok (.ireturn, 1) := by decide +kernel
set_option maxHeartbeats 4000000 in
set_option maxRecDepth 100000 in
theorem xX12_isHeld_39 {K : KT} {r : Bool × Wd} (G : GK K cX12_isHeld RX12 5 202) (M : Main K.ks) (hr : RI K .boolean (bI r.1) r.2) : ∀ (n : Nat) (v2 : Int32) (v3 : Int32) (v4 : Int32) (w : Wd), fX12_isHeld_39 n v2 v3 v4 w = some r → XW K 39 [some (.ref 148), none, some (.int v2), some (.int v3), some (.int v4)] [] w := by
  intro n
  induction n with
  | zero =>
    intro v2 v3 v4 w hf
    unfold fX12_isHeld_39 at hf
    cases hf
  | succ n ih =>
    intro v2 v3 v4 w hf
    unfold fX12_isHeld_39 at hf
    refine x_iload G dX12_isHeld_39 rfl ?_
    refine x_aload_n G dX12_isHeld_41 rfl rfl ?_
    refine x_getI G (kd148 M) 23 rfl cl12 rfl wf_X12_282 dX12_isHeld_42 ?_
    refine x_icmpge G (tgt := 73) dX12_isHeld_45 (by decide) hf (fun c_1 hf => ?_) (fun c_1 hf => ?_)
    · refine x_aload_n G dX12_isHeld_48 rfl rfl ?_
      refine x_getR G (kd148 M) 22 (b := 163) rfl cl12 rfl wf_X12_57 dX12_isHeld_49 ?_
      refine x_iload G dX12_isHeld_52 rfl ?_
      refine x_aload_n G dX12_isHeld_54 rfl rfl ?_
      refine x_getR G (kd148 M) 20 (b := 162) rfl cl12 rfl wf_X12_54 dX12_isHeld_55 ?_
      refine x_bipush G (v := 60) dX12_isHeld_58 (by decide) ?_
      refine x_iload_n G dX12_isHeld_60 rfl rfl ?_
      refine x_imul G dX12_isHeld_61 ?_
      refine x_iload G dX12_isHeld_62 rfl ?_
      refine x_iadd G dX12_isHeld_64 ?_
      refine x_iald G (kd162 M) dX12_isHeld_65 hf (fun hb_2 hf => ?_)
      refine x_iast G (kd163 M) dX12_isHeld_66 hf (fun hb_3 hf => ?_)
      refine nwr hf (fun w_4 hf => ?_)
      refine x_iinc G (lv' := [some (.ref 148), none, some (.int v2), some (.int v3), some (.int (v4 + (1 : Int32)))]) (v := 1) dX12_isHeld_67 rfl (by decide) rfl rfl rfl ?_
      refine x_goto G (tgt := 39) dX12_isHeld_70 (by decide) ?_
      exact XW.sub (lv' := [some (.ref 148), none, some (.int v2), some (.int v3), some (.int (v4 + (1 : Int32)))]) (And.intro rfl (And.intro rfl (And.intro rfl (And.intro rfl trivial)))) (ih _ _ _ _ hf)
    · refine x_aload_n G dX12_isHeld_73 rfl rfl ?_
      refine x_iload_n G dX12_isHeld_74 rfl rfl ?_
      refine x_putI G (kd148 M) 27 rfl cl12 rfl wf_X12_292 rfl rfl rfl dX12_isHeld_75 ?_
      refine nwr hf (fun w_5 hf => ?_)
      refine x_aload_n G dX12_isHeld_78 rfl rfl ?_
      obtain ⟨v_6, hv_6, hf⟩ := bnd hf
      refine x_virI G (As := []) (mX12_reads G.2.2.2.2.2.2.1 M hv_6) mv_X12_341 (kd148 M) cl12 rfl rfl rfl rfl rfl dX12_isHeld_79 ?_
      exact x_zretW G hf hr dX12_isHeld_82

set_option maxHeartbeats 4000000 in
set_option maxRecDepth 100000 in
theorem xX12_isHeld_e {K : KT} {v1 : Int32} {v2 : Int32} {w : Wd} {r : Bool × Wd} (G : GK K cX12_isHeld RX12 5 202) (M : Main K.ks) (hf : fX12_isHeld v1 v2 w = some r) (hr : RI K .boolean (bI r.1) r.2) : XW K 0 [some (.ref 148), some (.int v1), some (.int v2), none, none] [] w := by
  unfold fX12_isHeld at hf
  refine x_aload_n G dX12_isHeld_0 rfl rfl ?_
  refine x_iload_n G dX12_isHeld_1 rfl rfl ?_
  refine x_aload_n G dX12_isHeld_2 rfl rfl ?_
  obtain ⟨v_1, hv_1, hf⟩ := bnd hf
  refine x_virI G (As := []) (mX12_day G.2.2.2.2.2.2.1 M hv_1) mv_X12_159 (kd148 M) cl12 rfl rfl rfl rfl rfl dX12_isHeld_3 ?_
  obtain ⟨v_2, hv_2, hf⟩ := bnd hf
  refine x_virI G (As := [.int v1, .int v_1]) (mX12_forceOf G.2.2.2.2.2.2.1 M hv_2) mv_X12_344 (kd148 M) cl12 rfl rfl rfl rfl rfl dX12_isHeld_6 ?_
  refine x_istore_n G (lv' := [some (.ref 148), some (.int v1), some (.int v2), some (.int v_2), none]) dX12_isHeld_9 rfl rfl rfl rfl ?_
  refine x_iload_n G dX12_isHeld_10 rfl rfl ?_
  refine x_iconst G (v := -1) dX12_isHeld_11 (by decide) ?_
  refine x_icmpne G (tgt := 26) dX12_isHeld_12 (by decide) hf (fun c_3 hf => ?_) (fun c_3 hf => ?_)
  · refine x_iload_n G dX12_isHeld_15 rfl rfl ?_
    refine x_iconst G (v := 1) dX12_isHeld_16 (by decide) ?_
    refine x_icmpeq G (tgt := 24) dX12_isHeld_17 (by decide) hf (fun c_4 hf => ?_) (fun c_4 hf => ?_)
    · refine x_iconst G (v := 0) dX12_isHeld_24 (by decide) ?_
      exact x_zretW G hf hr dX12_isHeld_25
    · refine x_iconst G (v := 1) dX12_isHeld_20 (by decide) ?_
      refine x_goto G (tgt := 25) dX12_isHeld_21 (by decide) ?_
      exact x_zretW G hf hr dX12_isHeld_25
  · refine x_aload_n G dX12_isHeld_26 rfl rfl ?_
    refine x_aload_n G dX12_isHeld_27 rfl rfl ?_
    refine x_getR G (kd148 M) 19 (b := 161) rfl cl12 rfl wf_X12_51 dX12_isHeld_28 ?_
    refine x_iload_n G dX12_isHeld_31 rfl rfl ?_
    refine x_iald G (kd161 M) dX12_isHeld_32 hf (fun hb_5 hf => ?_)
    refine x_putI G (kd148 M) 23 rfl cl12 rfl wf_X12_282 rfl rfl rfl dX12_isHeld_33 ?_
    refine nwr hf (fun w_6 hf => ?_)
    refine x_iconst G (v := 0) dX12_isHeld_36 (by decide) ?_
    refine x_istore G (lv' := [some (.ref 148), some (.int v1), some (.int v2), some (.int v_2), some (.int (0 : Int32))]) dX12_isHeld_37 rfl rfl rfl ?_
    exact XW.sub (lv' := [some (.ref 148), none, some (.int v2), some (.int v_2), some (.int (0 : Int32))]) (And.intro rfl (And.intro rfl (And.intro rfl (And.intro rfl trivial)))) (xX12_isHeld_39 G M hr FU _ _ _ _ hf)

theorem mX12_isHeld {l : Launch} {S : KS} {w : Wd} (hI : Inj S) (M : Main S) {v1 : Int32} {v2 : Int32} {r : Bool × Wd} (hf : fX12_isHeld v1 v2 w = some r) : CI l yX12_isHeld cX12_isHeld 5 (some .boolean) 202 S [.ref 148, .int v1, .int v2] w (bI r.1) r.2 := by
  intro sz
  refine mk_entry rfl (by decide +kernel) hI 2 rfl rfl (fun K h1 h2 h3 h4 h5 h6 G => ?_)
  subst h2
  exact xX12_isHeld_e G M hf ⟨h3, by rw [h4, h6], h5⟩

set_option maxHeartbeats 4000000 in
set_option maxRecDepth 100000 in
theorem xX12_holds_e {K : KT} {v1 : Int32} {v2 : Int32} {w : Wd} {r : Int32 × Wd} (G : GK K cX12_holds RX12 3 203) (M : Main K.ks) (hf : fX12_holds v1 v2 w = some r) (hr : RI K .int r.1 r.2) : XW K 0 [some (.ref 148), some (.int v1), some (.int v2)] [] w := by
  unfold fX12_holds at hf
  refine x_aload_n G dX12_holds_0 rfl rfl ?_
  refine x_iconst G (v := 0) dX12_holds_1 (by decide) ?_
  refine x_putI G (kd148 M) 0 rfl cl12 rfl wf_X12_1 rfl rfl rfl dX12_holds_2 ?_
  refine nwr hf (fun w_1 hf => ?_)
  refine x_iload_n G dX12_holds_5 rfl rfl ?_
  refine x_i2l G dX12_holds_6 ?_
  refine x_lconst G (v := 0) dX12_holds_7 (by decide) ?_
  refine x_ldc2 G wl_X12_339 dX12_holds_8 ?_
  obtain ⟨v_2, hv_2, hf⟩ := bnd hf
  refine x_staI G (As := [.long v1.toInt64, .long (0 : Int64), .long (2 : Int64)]) (mX12_in G.2.2.2.2.2.2.1 M hv_2) ms_X12_93 rfl rfl rfl rfl rfl dX12_holds_11 ?_
  refine x_ifeqB G (tgt := 41) dX12_holds_14 (by decide) hf (fun c_3 hf => ?_) (fun c_3 hf => ?_)
  · refine x_iload_n G dX12_holds_17 rfl rfl ?_
    obtain ⟨v_4, hv_4, hf⟩ := bnd hf
    refine x_staI G (As := [.int v2]) (mX12_isCell G.2.2.2.2.2.2.1 M hv_4) ms_X12_105 rfl rfl rfl rfl rfl dX12_holds_18 ?_
    refine x_ifeqB G (tgt := 41) dX12_holds_21 (by decide) hf (fun c_5 hf => ?_) (fun c_5 hf => ?_)
    · refine x_aload_n G dX12_holds_24 rfl rfl ?_
      refine x_iload_n G dX12_holds_25 rfl rfl ?_
      refine x_iload_n G dX12_holds_26 rfl rfl ?_
      obtain ⟨v_6, hv_6, hf⟩ := bnd hf
      refine x_virI G (As := [.int v1, .int v2]) (mX12_isHeld G.2.2.2.2.2.2.1 M hv_6) mv_X12_217 (kd148 M) cl12 rfl rfl rfl rfl rfl dX12_holds_27 ?_
      refine x_ifeqB G (tgt := 37) dX12_holds_30 (by decide) hf (fun c_7 hf => ?_) (fun c_7 hf => ?_)
      · refine x_iconst G (v := 1) dX12_holds_33 (by decide) ?_
        refine x_goto G (tgt := 42) dX12_holds_34 (by decide) ?_
        exact x_iretW G hf hr dX12_holds_42
      · refine x_iconst G (v := 0) dX12_holds_37 (by decide) ?_
        refine x_goto G (tgt := 42) dX12_holds_38 (by decide) ?_
        exact x_iretW G hf hr dX12_holds_42
    · refine x_iconst G (v := -1) dX12_holds_41 (by decide) ?_
      exact x_iretW G hf hr dX12_holds_42
  · refine x_iconst G (v := -1) dX12_holds_41 (by decide) ?_
    exact x_iretW G hf hr dX12_holds_42

theorem mX12_holds {l : Launch} {S : KS} {w : Wd} (hI : Inj S) (M : Main S) {v1 : Int32} {v2 : Int32} {r : Int32 × Wd} (hf : fX12_holds v1 v2 w = some r) : CI l yX12_holds cX12_holds 3 (some .int) 203 S [.ref 148, .int v1, .int v2] w r.1 r.2 := by
  intro sz
  refine mk_entry rfl (by decide +kernel) hI 0 rfl rfl (fun K h1 h2 h3 h4 h5 h6 G => ?_)
  subst h2
  exact xX12_holds_e G M hf ⟨h3, by rw [h4, h6], h5⟩

set_option maxHeartbeats 4000000 in
set_option maxRecDepth 100000 in
theorem xX12_comes_e {K : KT} {v1 : Int32} {v2 : Int32} {v3 : Int32} {w : Wd} {r : Wd} (G : GK K cX12_comes RX12 4 2) (M : Main K.ks) (hf : fX12_comes v1 v2 v3 w = some r) (hr : RV K r) : XW K 0 [some (.ref 148), some (.int v1), some (.int v2), some (.int v3)] [] w := by
  unfold fX12_comes at hf
  refine x_aload_n G dX12_comes_0 rfl rfl ?_
  refine x_iload_n G dX12_comes_1 rfl rfl ?_
  refine x_iconst G (v := 4) dX12_comes_2 (by decide) ?_
  obtain ⟨v_1, hv_1, hf⟩ := bnd hf
  refine x_virI G (As := [.int v1, .int (4 : Int32)]) (mX12_c G.2.2.2.2.2.2.1 M hv_1) mv_X12_117 (kd148 M) cl12 rfl rfl rfl rfl rfl dX12_comes_3 ?_
  refine x_iconst G (v := 1) dX12_comes_6 (by decide) ?_
  refine x_icmpne G (tgt := 35) dX12_comes_7 (by decide) hf (fun c_2 hf => ?_) (fun c_2 hf => ?_)
  · refine x_aload_n G dX12_comes_10 rfl rfl ?_
    refine x_getR G (kd148 M) 1 (b := 149) rfl cl12 rfl wf_X12_13 dX12_comes_11 ?_
    refine x_sipush G (v := 4307) dX12_comes_14 (by decide) ?_
    refine x_dup2 G dX12_comes_17 rfl rfl ?_
    refine x_iald0 G (kd149 M) dX12_comes_18 (by decide) ?_
    refine x_iload_n G dX12_comes_19 rfl rfl ?_
    refine x_iadd G dX12_comes_20 ?_
    refine x_iast0 G (kd149 M) dX12_comes_21 (by decide) ?_
    refine nwr hf (fun w_3 hf => ?_)
    refine x_aload_n G dX12_comes_22 rfl rfl ?_
    refine x_getR G (kd148 M) 1 (b := 149) rfl cl12 rfl wf_X12_13 dX12_comes_23 ?_
    refine x_sipush G (v := 4308) dX12_comes_26 (by decide) ?_
    refine x_dup2 G dX12_comes_29 rfl rfl ?_
    refine x_iald0 G (kd149 M) dX12_comes_30 (by decide) ?_
    refine x_iload_n G dX12_comes_31 rfl rfl ?_
    refine x_iadd G dX12_comes_32 ?_
    refine x_iast0 G (kd149 M) dX12_comes_33 (by decide) ?_
    refine nwr hf (fun w_4 hf => ?_)
    exact x_vretW G hf hr dX12_comes_34
  · refine x_aload_n G dX12_comes_35 rfl rfl ?_
    refine x_getR G (kd148 M) 1 (b := 149) rfl cl12 rfl wf_X12_13 dX12_comes_36 ?_
    refine x_bipush G (v := 15) dX12_comes_39 (by decide) ?_
    refine x_iload_n G dX12_comes_41 rfl rfl ?_
    refine x_imul G dX12_comes_42 ?_
    refine x_bipush G (v := 9) dX12_comes_43 (by decide) ?_
    refine x_iadd G dX12_comes_45 ?_
    refine x_dup2 G dX12_comes_46 rfl rfl ?_
    refine x_iald G (kd149 M) dX12_comes_47 hf (fun hb_5 hf => ?_)
    refine x_iload_n G dX12_comes_48 rfl rfl ?_
    refine x_iadd G dX12_comes_49 ?_
    refine x_iast0 G (kd149 M) dX12_comes_50 hb_5 ?_
    refine nwr hf (fun w_6 hf => ?_)
    refine x_aload_n G dX12_comes_51 rfl rfl ?_
    refine x_getR G (kd148 M) 1 (b := 149) rfl cl12 rfl wf_X12_13 dX12_comes_52 ?_
    refine x_bipush G (v := 15) dX12_comes_55 (by decide) ?_
    refine x_iload_n G dX12_comes_57 rfl rfl ?_
    refine x_imul G dX12_comes_58 ?_
    refine x_bipush G (v := 10) dX12_comes_59 (by decide) ?_
    refine x_iadd G dX12_comes_61 ?_
    refine x_dup2 G dX12_comes_62 rfl rfl ?_
    refine x_iald G (kd149 M) dX12_comes_63 hf (fun hb_7 hf => ?_)
    refine x_iload_n G dX12_comes_64 rfl rfl ?_
    refine x_iadd G dX12_comes_65 ?_
    refine x_iast0 G (kd149 M) dX12_comes_66 hb_7 ?_
    refine nwr hf (fun w_8 hf => ?_)
    exact x_vretW G hf hr dX12_comes_67

theorem mX12_comes {l : Launch} {S : KS} {w : Wd} (hI : Inj S) (M : Main S) {v1 : Int32} {v2 : Int32} {v3 : Int32} {r : Wd} (hf : fX12_comes v1 v2 v3 w = some r) : CV l yX12_comes cX12_comes 4 none 2 S [.ref 148, .int v1, .int v2, .int v3] w r := by
  intro sz
  refine mk_entry rfl (by decide +kernel) hI 0 rfl rfl (fun K h1 h2 h3 h4 h5 h6 G => ?_)
  subst h2
  exact xX12_comes_e G M hf ⟨h3, by rw [h4, h6], h5⟩

set_option maxHeartbeats 4000000 in
set_option maxRecDepth 100000 in
theorem xX12_isBadPump_18 {K : KT} {w : Wd} {r : Bool} (G : GK K cX12_isBadPump RX12 4 2) (M : Main K.ks) (hr : RI K .boolean (bI r) w) : ∀ (n : Nat) (v1 : Int32) (v2 : Int32) (v3 : Int32), fX12_isBadPump_18 w n v1 v2 v3 = some r → XW K 18 [some (.ref 148), some (.int v1), some (.int v2), some (.int v3)] [] w := by
  intro n
  induction n with
  | zero =>
    intro v1 v2 v3 hf
    unfold fX12_isBadPump_18 at hf
    cases hf
  | succ n ih =>
    intro v1 v2 v3 hf
    unfold fX12_isBadPump_18 at hf
    refine x_iload_n G dX12_isBadPump_18 rfl rfl ?_
    refine x_iconst G (v := 4) dX12_isBadPump_19 (by decide) ?_
    refine x_icmpge G (tgt := 62) dX12_isBadPump_20 (by decide) hf (fun c_1 hf => ?_) (fun c_1 hf => ?_)
    · refine x_iload_n G dX12_isBadPump_23 rfl rfl ?_
      refine x_ifne G (tgt := 50) dX12_isBadPump_24 (by decide) hf (fun c_2 hf => ?_) (fun c_2 hf => ?_)
      · refine x_iload_n G dX12_isBadPump_27 rfl rfl ?_
        refine x_iload_n G dX12_isBadPump_28 rfl rfl ?_
        obtain ⟨v_3, hv_3, hf⟩ := bnd hf
        refine x_staI G (As := [.int v1, .int v3]) (mX12_beside G.2.2.2.2.2.2.1 M hv_3) ms_X12_173 rfl rfl rfl rfl rfl dX12_isBadPump_29 ?_
        refine x_iconst G (v := -1) dX12_isBadPump_32 (by decide) ?_
        refine x_icmpeq G (tgt := 54) dX12_isBadPump_33 (by decide) hf (fun c_4 hf => ?_) (fun c_4 hf => ?_)
        · refine x_iconst G (v := 0) dX12_isBadPump_54 (by decide) ?_
          refine x_istore_n G (lv' := [some (.ref 148), some (.int v1), some (.int (0 : Int32)), some (.int v3)]) dX12_isBadPump_55 rfl rfl rfl rfl ?_
          refine x_iinc G (lv' := [some (.ref 148), some (.int v1), some (.int (0 : Int32)), some (.int (v3 + (1 : Int32)))]) (v := 1) dX12_isBadPump_56 rfl (by decide) rfl rfl rfl ?_
          refine x_goto G (tgt := 18) dX12_isBadPump_59 (by decide) ?_
          exact XW.sub (lv' := [some (.ref 148), some (.int v1), some (.int (0 : Int32)), some (.int (v3 + (1 : Int32)))]) (And.intro rfl (And.intro rfl (And.intro rfl (And.intro rfl trivial)))) (ih _ _ _ hf)
        · refine x_aload_n G dX12_isBadPump_36 rfl rfl ?_
          refine x_iload_n G dX12_isBadPump_37 rfl rfl ?_
          refine x_iload_n G dX12_isBadPump_38 rfl rfl ?_
          obtain ⟨v_5, hv_5, hf⟩ := bnd hf
          refine x_staI G (As := [.int v1, .int v3]) (mX12_beside G.2.2.2.2.2.2.1 M hv_5) ms_X12_173 rfl rfl rfl rfl rfl dX12_isBadPump_39 ?_
          refine x_bipush G (v := 11) dX12_isBadPump_42 (by decide) ?_
          obtain ⟨v_6, hv_6, hf⟩ := bnd hf
          refine x_virI G (As := [.int v_5, .int (11 : Int32)]) (mX12_c G.2.2.2.2.2.2.1 M hv_6) mv_X12_117 (kd148 M) cl12 rfl rfl rfl rfl rfl dX12_isBadPump_44 ?_
          refine x_ifle G (tgt := 54) dX12_isBadPump_47 (by decide) hf (fun c_7 hf => ?_) (fun c_7 hf => ?_)
          · refine x_iconst G (v := 1) dX12_isBadPump_50 (by decide) ?_
            refine x_goto G (tgt := 55) dX12_isBadPump_51 (by decide) ?_
            refine x_istore_n G (lv' := [some (.ref 148), some (.int v1), some (.int (1 : Int32)), some (.int v3)]) dX12_isBadPump_55 rfl rfl rfl rfl ?_
            refine x_iinc G (lv' := [some (.ref 148), some (.int v1), some (.int (1 : Int32)), some (.int (v3 + (1 : Int32)))]) (v := 1) dX12_isBadPump_56 rfl (by decide) rfl rfl rfl ?_
            refine x_goto G (tgt := 18) dX12_isBadPump_59 (by decide) ?_
            exact XW.sub (lv' := [some (.ref 148), some (.int v1), some (.int (1 : Int32)), some (.int (v3 + (1 : Int32)))]) (And.intro rfl (And.intro rfl (And.intro rfl (And.intro rfl trivial)))) (ih _ _ _ hf)
          · refine x_iconst G (v := 0) dX12_isBadPump_54 (by decide) ?_
            refine x_istore_n G (lv' := [some (.ref 148), some (.int v1), some (.int (0 : Int32)), some (.int v3)]) dX12_isBadPump_55 rfl rfl rfl rfl ?_
            refine x_iinc G (lv' := [some (.ref 148), some (.int v1), some (.int (0 : Int32)), some (.int (v3 + (1 : Int32)))]) (v := 1) dX12_isBadPump_56 rfl (by decide) rfl rfl rfl ?_
            refine x_goto G (tgt := 18) dX12_isBadPump_59 (by decide) ?_
            exact XW.sub (lv' := [some (.ref 148), some (.int v1), some (.int (0 : Int32)), some (.int (v3 + (1 : Int32)))]) (And.intro rfl (And.intro rfl (And.intro rfl (And.intro rfl trivial)))) (ih _ _ _ hf)
      · refine x_iconst G (v := 1) dX12_isBadPump_50 (by decide) ?_
        refine x_goto G (tgt := 55) dX12_isBadPump_51 (by decide) ?_
        refine x_istore_n G (lv' := [some (.ref 148), some (.int v1), some (.int (1 : Int32)), some (.int v3)]) dX12_isBadPump_55 rfl rfl rfl rfl ?_
        refine x_iinc G (lv' := [some (.ref 148), some (.int v1), some (.int (1 : Int32)), some (.int (v3 + (1 : Int32)))]) (v := 1) dX12_isBadPump_56 rfl (by decide) rfl rfl rfl ?_
        refine x_goto G (tgt := 18) dX12_isBadPump_59 (by decide) ?_
        exact XW.sub (lv' := [some (.ref 148), some (.int v1), some (.int (1 : Int32)), some (.int (v3 + (1 : Int32)))]) (And.intro rfl (And.intro rfl (And.intro rfl (And.intro rfl trivial)))) (ih _ _ _ hf)
    · refine x_iload_n G dX12_isBadPump_62 rfl rfl ?_
      exact x_zretU G hf hr dX12_isBadPump_63

set_option maxHeartbeats 4000000 in
set_option maxRecDepth 100000 in
theorem xX12_isBadPump_e {K : KT} {v1 : Int32} {w : Wd} {r : Bool} (G : GK K cX12_isBadPump RX12 4 2) (M : Main K.ks) (hf : fX12_isBadPump v1 w = some r) (hr : RI K .boolean (bI r) w) : XW K 0 [some (.ref 148), some (.int v1), none, none] [] w := by
  unfold fX12_isBadPump at hf
  refine x_aload_n G dX12_isBadPump_0 rfl rfl ?_
  refine x_iload_n G dX12_isBadPump_1 rfl rfl ?_
  refine x_bipush G (v := 11) dX12_isBadPump_2 (by decide) ?_
  obtain ⟨v_1, hv_1, hf⟩ := bnd hf
  refine x_virI G (As := [.int v1, .int (11 : Int32)]) (mX12_c G.2.2.2.2.2.2.1 M hv_1) mv_X12_117 (kd148 M) cl12 rfl rfl rfl rfl rfl dX12_isBadPump_4 ?_
  refine x_ifle G (tgt := 14) dX12_isBadPump_7 (by decide) hf (fun c_2 hf => ?_) (fun c_2 hf => ?_)
  · refine x_iconst G (v := 1) dX12_isBadPump_10 (by decide) ?_
    refine x_goto G (tgt := 15) dX12_isBadPump_11 (by decide) ?_
    refine x_istore_n G (lv' := [some (.ref 148), some (.int v1), some (.int (1 : Int32)), none]) dX12_isBadPump_15 rfl rfl rfl rfl ?_
    refine x_iconst G (v := 0) dX12_isBadPump_16 (by decide) ?_
    refine x_istore_n G (lv' := [some (.ref 148), some (.int v1), some (.int (1 : Int32)), some (.int (0 : Int32))]) dX12_isBadPump_17 rfl rfl rfl rfl ?_
    exact XW.sub (lv' := [some (.ref 148), some (.int v1), some (.int (1 : Int32)), some (.int (0 : Int32))]) (And.intro rfl (And.intro rfl (And.intro rfl (And.intro rfl trivial)))) (xX12_isBadPump_18 G M hr FU _ _ _ hf)
  · refine x_iconst G (v := 0) dX12_isBadPump_14 (by decide) ?_
    refine x_istore_n G (lv' := [some (.ref 148), some (.int v1), some (.int (0 : Int32)), none]) dX12_isBadPump_15 rfl rfl rfl rfl ?_
    refine x_iconst G (v := 0) dX12_isBadPump_16 (by decide) ?_
    refine x_istore_n G (lv' := [some (.ref 148), some (.int v1), some (.int (0 : Int32)), some (.int (0 : Int32))]) dX12_isBadPump_17 rfl rfl rfl rfl ?_
    exact XW.sub (lv' := [some (.ref 148), some (.int v1), some (.int (0 : Int32)), some (.int (0 : Int32))]) (And.intro rfl (And.intro rfl (And.intro rfl (And.intro rfl trivial)))) (xX12_isBadPump_18 G M hr FU _ _ _ hf)

theorem mX12_isBadPump {l : Launch} {S : KS} {w : Wd} (hI : Inj S) (M : Main S) {v1 : Int32} {r : Bool} (hf : fX12_isBadPump v1 w = some r) : CI l yX12_isBadPump cX12_isBadPump 4 (some .boolean) 2 S [.ref 148, .int v1] w (bI r) w := by
  intro sz
  refine mk_entry rfl (by decide +kernel) hI 2 rfl rfl (fun K h1 h2 h3 h4 h5 h6 G => ?_)
  subst h2
  exact xX12_isBadPump_e G M hf ⟨h3, by rw [h4, h6], h5⟩

set_option maxHeartbeats 4000000 in
set_option maxRecDepth 100000 in
theorem xX12_off_e {K : KT} {v0 : Int32} {v1 : Int32} {w : Wd} {r : Int32} (G : GK K cX12_off RX12 2 1) (M : Main K.ks) (hf : fX12_off v0 v1 w = some r) (hr : RI K .int r w) : XW K 0 [some (.int v0), some (.int v1)] [] w := by
  unfold fX12_off at hf
  refine x_iload_n G dX12_off_0 rfl rfl ?_
  refine x_iload_n G dX12_off_1 rfl rfl ?_
  refine x_icmpge G (tgt := 11) dX12_off_2 (by decide) hf (fun c_1 hf => ?_) (fun c_1 hf => ?_)
  · refine x_iload_n G dX12_off_5 rfl rfl ?_
    refine x_iload_n G dX12_off_6 rfl rfl ?_
    refine x_isub G dX12_off_7 ?_
    refine x_goto G (tgt := 14) dX12_off_8 (by decide) ?_
    exact x_iretP G hf hr dX12_off_14
  · refine x_iload_n G dX12_off_11 rfl rfl ?_
    refine x_iload_n G dX12_off_12 rfl rfl ?_
    refine x_isub G dX12_off_13 ?_
    exact x_iretP G hf hr dX12_off_14

theorem mX12_off {l : Launch} {S : KS} {w : Wd} (hI : Inj S) (M : Main S) {v0 : Int32} {v1 : Int32} {r : Int32} (hf : fX12_off v0 v1 w = some r) : CI l yX12_off cX12_off 2 (some .int) 1 S [.int v0, .int v1] w r w := by
  intro sz
  refine mk_entry rfl (by decide +kernel) hI 0 rfl rfl (fun K h1 h2 h3 h4 h5 h6 G => ?_)
  subst h2
  exact xX12_off_e G M hf ⟨h3, by rw [h4, h6], h5⟩

set_option maxHeartbeats 4000000 in
set_option maxRecDepth 100000 in
theorem xX12_near_e {K : KT} {v0 : Int32} {v1 : Int32} {w : Wd} {r : Int32} (G : GK K cX12_near RX12 2 2) (M : Main K.ks) (hf : fX12_near v0 v1 w = some r) (hr : RI K .int r w) : XW K 0 [some (.int v0), some (.int v1)] [] w := by
  unfold fX12_near at hf
  refine x_iload_n G dX12_near_0 rfl rfl ?_
  refine x_bipush G (v := 10) dX12_near_1 (by decide) ?_
  refine x_irem' G dX12_near_3 (by decide) ?_
  refine x_iload_n G dX12_near_4 rfl rfl ?_
  refine x_bipush G (v := 10) dX12_near_5 (by decide) ?_
  refine x_irem' G dX12_near_7 (by decide) ?_
  obtain ⟨v_1, hv_1, hf⟩ := bnd hf
  refine x_staI G (As := [.int (jrm v0 (10 : Int32)), .int (jrm v1 (10 : Int32))]) (mX12_off G.2.2.2.2.2.2.1 M hv_1) ms_X12_97 rfl rfl rfl rfl rfl dX12_near_8 ?_
  refine x_iload_n G dX12_near_11 rfl rfl ?_
  refine x_bipush G (v := 10) dX12_near_12 (by decide) ?_
  refine x_idiv G dX12_near_14 (by decide) ?_
  refine x_iload_n G dX12_near_15 rfl rfl ?_
  refine x_bipush G (v := 10) dX12_near_16 (by decide) ?_
  refine x_idiv G dX12_near_18 (by decide) ?_
  obtain ⟨v_2, hv_2, hf⟩ := bnd hf
  refine x_staI G (As := [.int (v0 / (10 : Int32)), .int (v1 / (10 : Int32))]) (mX12_off G.2.2.2.2.2.2.1 M hv_2) ms_X12_97 rfl rfl rfl rfl rfl dX12_near_19 ?_
  refine x_iadd G dX12_near_22 ?_
  exact x_iretP G hf hr dX12_near_23

theorem mX12_near {l : Launch} {S : KS} {w : Wd} (hI : Inj S) (M : Main S) {v0 : Int32} {v1 : Int32} {r : Int32} (hf : fX12_near v0 v1 w = some r) : CI l yX12_near cX12_near 2 (some .int) 2 S [.int v0, .int v1] w r w := by
  intro sz
  refine mk_entry rfl (by decide +kernel) hI 0 rfl rfl (fun K h1 h2 h3 h4 h5 h6 G => ?_)
  subst h2
  exact xX12_near_e G M hf ⟨h3, by rw [h4, h6], h5⟩

set_option maxHeartbeats 4000000 in
set_option maxRecDepth 100000 in
theorem xX12_drinks_14 {K : KT} {r : Wd} (G : GK K cX12_drinks RX12 4 3) (M : Main K.ks) (hr : RV K r) : ∀ (n : Nat) (v1 : Int32) (v2 : Int32) (v3 : Int32) (w : Wd), fX12_drinks_14 n v1 v2 v3 w = some r → XW K 14 [some (.ref 148), some (.int v1), some (.int v2), some (.int v3)] [] w := by
  intro n
  induction n with
  | zero =>
    intro v1 v2 v3 w hf
    unfold fX12_drinks_14 at hf
    cases hf
  | succ n ih =>
    intro v1 v2 v3 w hf
    unfold fX12_drinks_14 at hf
    refine x_iload_n G dX12_drinks_14 rfl rfl ?_
    refine x_bipush G (v := 100) dX12_drinks_15 (by decide) ?_
    refine x_icmpge G (tgt := 56) dX12_drinks_17 (by decide) hf (fun c_1 hf => ?_) (fun c_1 hf => ?_)
    · refine x_aload_n G dX12_drinks_20 rfl rfl ?_
      refine x_iload_n G dX12_drinks_21 rfl rfl ?_
      refine x_iconst G (v := 5) dX12_drinks_22 (by decide) ?_
      obtain ⟨v_2, hv_2, hf⟩ := bnd hf
      refine x_virI G (As := [.int v3, .int (5 : Int32)]) (mX12_c G.2.2.2.2.2.2.1 M hv_2) mv_X12_117 (kd148 M) cl12 rfl rfl rfl rfl rfl dX12_drinks_23 ?_
      refine x_iconst G (v := 1) dX12_drinks_26 (by decide) ?_
      refine x_icmpne G (tgt := 50) dX12_drinks_27 (by decide) hf (fun c_3 hf => ?_) (fun c_3 hf => ?_)
      · refine x_iload_n G dX12_drinks_30 rfl rfl ?_
        refine x_iconst G (v := -1) dX12_drinks_31 (by decide) ?_
        refine x_icmpeq G (tgt := 48) dX12_drinks_32 (by decide) hf (fun c_4 hf => ?_) (fun c_4 hf => ?_)
        · refine x_iload_n G dX12_drinks_48 rfl rfl ?_
          refine x_istore_n G (lv' := [some (.ref 148), some (.int v1), some (.int v3), some (.int v3)]) dX12_drinks_49 rfl rfl rfl rfl ?_
          refine x_iinc G (lv' := [some (.ref 148), some (.int v1), some (.int v3), some (.int (v3 + (1 : Int32)))]) (v := 1) dX12_drinks_50 rfl (by decide) rfl rfl rfl ?_
          refine x_goto G (tgt := 14) dX12_drinks_53 (by decide) ?_
          exact XW.sub (lv' := [some (.ref 148), some (.int v1), some (.int v3), some (.int (v3 + (1 : Int32)))]) (And.intro rfl (And.intro rfl (And.intro rfl (And.intro rfl trivial)))) (ih _ _ _ _ hf)
        · refine x_iload_n G dX12_drinks_35 rfl rfl ?_
          refine x_iload_n G dX12_drinks_36 rfl rfl ?_
          obtain ⟨v_5, hv_5, hf⟩ := bnd hf
          refine x_staI G (As := [.int v1, .int v3]) (mX12_near G.2.2.2.2.2.2.1 M hv_5) ms_X12_150 rfl rfl rfl rfl rfl dX12_drinks_37 ?_
          refine x_iload_n G dX12_drinks_40 rfl rfl ?_
          refine x_iload_n G dX12_drinks_41 rfl rfl ?_
          obtain ⟨v_6, hv_6, hf⟩ := bnd hf
          refine x_staI G (As := [.int v1, .int v2]) (mX12_near G.2.2.2.2.2.2.1 M hv_6) ms_X12_150 rfl rfl rfl rfl rfl dX12_drinks_42 ?_
          refine x_icmpge G (tgt := 50) dX12_drinks_45 (by decide) hf (fun c_7 hf => ?_) (fun c_7 hf => ?_)
          · refine x_iload_n G dX12_drinks_48 rfl rfl ?_
            refine x_istore_n G (lv' := [some (.ref 148), some (.int v1), some (.int v3), some (.int v3)]) dX12_drinks_49 rfl rfl rfl rfl ?_
            refine x_iinc G (lv' := [some (.ref 148), some (.int v1), some (.int v3), some (.int (v3 + (1 : Int32)))]) (v := 1) dX12_drinks_50 rfl (by decide) rfl rfl rfl ?_
            refine x_goto G (tgt := 14) dX12_drinks_53 (by decide) ?_
            exact XW.sub (lv' := [some (.ref 148), some (.int v1), some (.int v3), some (.int (v3 + (1 : Int32)))]) (And.intro rfl (And.intro rfl (And.intro rfl (And.intro rfl trivial)))) (ih _ _ _ _ hf)
          · refine x_iinc G (lv' := [some (.ref 148), some (.int v1), some (.int v2), some (.int (v3 + (1 : Int32)))]) (v := 1) dX12_drinks_50 rfl (by decide) rfl rfl rfl ?_
            refine x_goto G (tgt := 14) dX12_drinks_53 (by decide) ?_
            exact XW.sub (lv' := [some (.ref 148), some (.int v1), some (.int v2), some (.int (v3 + (1 : Int32)))]) (And.intro rfl (And.intro rfl (And.intro rfl (And.intro rfl trivial)))) (ih _ _ _ _ hf)
      · refine x_iinc G (lv' := [some (.ref 148), some (.int v1), some (.int v2), some (.int (v3 + (1 : Int32)))]) (v := 1) dX12_drinks_50 rfl (by decide) rfl rfl rfl ?_
        refine x_goto G (tgt := 14) dX12_drinks_53 (by decide) ?_
        exact XW.sub (lv' := [some (.ref 148), some (.int v1), some (.int v2), some (.int (v3 + (1 : Int32)))]) (And.intro rfl (And.intro rfl (And.intro rfl (And.intro rfl trivial)))) (ih _ _ _ _ hf)
    · refine x_iload_n G dX12_drinks_56 rfl rfl ?_
      refine x_iconst G (v := -1) dX12_drinks_57 (by decide) ?_
      refine x_icmpeq G (tgt := 69) dX12_drinks_58 (by decide) hf (fun c_8 hf => ?_) (fun c_8 hf => ?_)
      · exact x_vretW G hf hr dX12_drinks_69
      · refine x_aload_n G dX12_drinks_61 rfl rfl ?_
        refine x_iload_n G dX12_drinks_62 rfl rfl ?_
        obtain ⟨v_9, hv_9, hf⟩ := bnd hf
        refine x_virI G (As := [.int v2]) (mX12_isBadPump G.2.2.2.2.2.2.1 M hv_9) mv_X12_252 (kd148 M) cl12 rfl rfl rfl rfl rfl dX12_drinks_63 ?_
        refine x_ifneB G (tgt := 70) dX12_drinks_66 (by decide) hf (fun c_10 hf => ?_) (fun c_10 hf => ?_)
        · refine x_aload_n G dX12_drinks_70 rfl rfl ?_
          refine x_getR G (kd148 M) 1 (b := 149) rfl cl12 rfl wf_X12_13 dX12_drinks_71 ?_
          refine x_bipush G (v := 15) dX12_drinks_74 (by decide) ?_
          refine x_iload_n G dX12_drinks_76 rfl rfl ?_
          refine x_imul G dX12_drinks_77 ?_
          refine x_bipush G (v := 14) dX12_drinks_78 (by decide) ?_
          refine x_iadd G dX12_drinks_80 ?_
          refine x_dup2 G dX12_drinks_81 rfl rfl ?_
          refine x_iald G (kd149 M) dX12_drinks_82 hf (fun hb_11 hf => ?_)
          refine x_aload_n G dX12_drinks_83 rfl rfl ?_
          refine x_iload_n G dX12_drinks_84 rfl rfl ?_
          refine x_iconst G (v := 2) dX12_drinks_85 (by decide) ?_
          obtain ⟨v_12, hv_12, hf⟩ := bnd hf
          refine x_virI G (As := [.int v1, .int (2 : Int32)]) (mX12_c G.2.2.2.2.2.2.1 M hv_12) mv_X12_117 (kd148 M) cl12 rfl rfl rfl rfl rfl dX12_drinks_86 ?_
          refine x_bipush G (v := 50) dX12_drinks_89 (by decide) ?_
          refine x_idiv G dX12_drinks_91 (by decide) ?_
          refine x_iadd G dX12_drinks_92 ?_
          refine x_iast0 G (kd149 M) dX12_drinks_93 hb_11 ?_
          refine nwr hf (fun w_13 hf => ?_)
          refine x_aload_n G dX12_drinks_94 rfl rfl ?_
          refine x_getR G (kd148 M) 1 (b := 149) rfl cl12 rfl wf_X12_13 dX12_drinks_95 ?_
          refine x_sipush G (v := 4314) dX12_drinks_98 (by decide) ?_
          refine x_dup2 G dX12_drinks_101 rfl rfl ?_
          refine x_iald0 G (kd149 M) dX12_drinks_102 (by decide) ?_
          refine x_aload_n G dX12_drinks_103 rfl rfl ?_
          refine x_iload_n G dX12_drinks_104 rfl rfl ?_
          refine x_iconst G (v := 2) dX12_drinks_105 (by decide) ?_
          obtain ⟨v_14, hv_14, hf⟩ := bnd hf
          refine x_virI G (As := [.int v1, .int (2 : Int32)]) (mX12_c G.2.2.2.2.2.2.1 M hv_14) mv_X12_117 (kd148 M) cl12 rfl rfl rfl rfl rfl dX12_drinks_106 ?_
          refine x_bipush G (v := 50) dX12_drinks_109 (by decide) ?_
          refine x_idiv G dX12_drinks_111 (by decide) ?_
          refine x_iadd G dX12_drinks_112 ?_
          refine x_iast0 G (kd149 M) dX12_drinks_113 (by decide) ?_
          refine nwr hf (fun w_15 hf => ?_)
          exact x_vretW G hf hr dX12_drinks_114
        · exact x_vretW G hf hr dX12_drinks_69

set_option maxHeartbeats 4000000 in
set_option maxRecDepth 100000 in
theorem xX12_drinks_e {K : KT} {v1 : Int32} {w : Wd} {r : Wd} (G : GK K cX12_drinks RX12 4 3) (M : Main K.ks) (hf : fX12_drinks v1 w = some r) (hr : RV K r) : XW K 0 [some (.ref 148), some (.int v1), none, none] [] w := by
  unfold fX12_drinks at hf
  refine x_aload_n G dX12_drinks_0 rfl rfl ?_
  refine x_iload_n G dX12_drinks_1 rfl rfl ?_
  refine x_iconst G (v := 2) dX12_drinks_2 (by decide) ?_
  obtain ⟨v_1, hv_1, hf⟩ := bnd hf
  refine x_virI G (As := [.int v1, .int (2 : Int32)]) (mX12_c G.2.2.2.2.2.2.1 M hv_1) mv_X12_117 (kd148 M) cl12 rfl rfl rfl rfl rfl dX12_drinks_3 ?_
  refine x_ifne G (tgt := 10) dX12_drinks_6 (by decide) hf (fun c_2 hf => ?_) (fun c_2 hf => ?_)
  · exact x_vretW G hf hr dX12_drinks_9
  · refine x_iconst G (v := -1) dX12_drinks_10 (by decide) ?_
    refine x_istore_n G (lv' := [some (.ref 148), some (.int v1), some (.int (-1 : Int32)), none]) dX12_drinks_11 rfl rfl rfl rfl ?_
    refine x_iconst G (v := 0) dX12_drinks_12 (by decide) ?_
    refine x_istore_n G (lv' := [some (.ref 148), some (.int v1), some (.int (-1 : Int32)), some (.int (0 : Int32))]) dX12_drinks_13 rfl rfl rfl rfl ?_
    exact XW.sub (lv' := [some (.ref 148), some (.int v1), some (.int (-1 : Int32)), some (.int (0 : Int32))]) (And.intro rfl (And.intro rfl (And.intro rfl (And.intro rfl trivial)))) (xX12_drinks_14 G M hr FU _ _ _ _ hf)

theorem mX12_drinks {l : Launch} {S : KS} {w : Wd} (hI : Inj S) (M : Main S) {v1 : Int32} {r : Wd} (hf : fX12_drinks v1 w = some r) : CV l yX12_drinks cX12_drinks 4 none 3 S [.ref 148, .int v1] w r := by
  intro sz
  refine mk_entry rfl (by decide +kernel) hI 2 rfl rfl (fun K h1 h2 h3 h4 h5 h6 G => ?_)
  subst h2
  exact xX12_drinks_e G M hf ⟨h3, by rw [h4, h6], h5⟩

set_option maxHeartbeats 4000000 in
set_option maxRecDepth 100000 in
theorem xX12_carrying_2 {K : KT} {r : Int32 × Wd} (G : GK K cX12_carrying RX12 4 3) (M : Main K.ks) (hr : RI K .int r.1 r.2) : ∀ (n : Nat) (v1 : Int32) (v2 : Int32) (w : Wd), fX12_carrying_2 n v1 v2 w = some r → XW K 2 [some (.ref 148), some (.int v1), some (.int v2), none] [] w := by
  intro n
  induction n with
  | zero =>
    intro v1 v2 w hf
    unfold fX12_carrying_2 at hf
    cases hf
  | succ n ih =>
    intro v1 v2 w hf
    unfold fX12_carrying_2 at hf
    refine x_iload_n G dX12_carrying_2 rfl rfl ?_
    refine x_aload_n G dX12_carrying_3 rfl rfl ?_
    refine x_bipush G (v := 15) dX12_carrying_4 (by decide) ?_
    obtain ⟨v_1, hv_1, hf⟩ := bnd hf
    refine x_virI G (As := [.int (15 : Int32)]) (mX12_g G.2.2.2.2.2.2.1 M hv_1) mv_X12_101 (kd148 M) cl12 rfl rfl rfl rfl rfl dX12_carrying_6 ?_
    refine x_icmpge G (tgt := 46) dX12_carrying_9 (by decide) hf (fun c_2 hf => ?_) (fun c_2 hf => ?_)
    · refine x_aload_n G dX12_carrying_12 rfl rfl ?_
      refine x_iload_n G dX12_carrying_13 rfl rfl ?_
      refine x_iload_n G dX12_carrying_14 rfl rfl ?_
      obtain ⟨v_3, hv_3, hf⟩ := bnd hf
      refine x_virI G (As := [.int v2, .int v1]) (mX12_placeOn G.2.2.2.2.2.2.1 M hv_3) mv_X12_230 (kd148 M) cl12 rfl rfl rfl rfl rfl dX12_carrying_15 ?_
      refine x_istore_n G (lv' := [some (.ref 148), some (.int v1), some (.int v2), some (.int v_3)]) dX12_carrying_18 rfl rfl rfl rfl ?_
      refine x_iload_n G dX12_carrying_19 rfl rfl ?_
      refine x_iconst G (v := -1) dX12_carrying_20 (by decide) ?_
      refine x_icmpeq G (tgt := 40) dX12_carrying_21 (by decide) hf (fun c_4 hf => ?_) (fun c_4 hf => ?_)
      · refine x_iinc G (lv' := [some (.ref 148), some (.int v1), some (.int (v2 + (1 : Int32))), some (.int v_3)]) (v := 1) dX12_carrying_40 rfl (by decide) rfl rfl rfl ?_
        refine x_goto G (tgt := 2) dX12_carrying_43 (by decide) ?_
        exact XW.sub (lv' := [some (.ref 148), some (.int v1), some (.int (v2 + (1 : Int32))), none]) (And.intro rfl (And.intro rfl (And.intro rfl trivial))) (ih _ _ _ hf)
      · refine x_aload_n G dX12_carrying_24 rfl rfl ?_
        refine x_getR G (kd148 M) 11 (b := 153) rfl cl12 rfl wf_X12_26 dX12_carrying_25 ?_
        refine x_iload_n G dX12_carrying_28 rfl rfl ?_
        refine x_zald G (kd153 M) dX12_carrying_29 hf (fun hb_5 hf => ?_)
        refine x_ifeq G (tgt := 40) dX12_carrying_30 (by decide) hf (fun c_6 hf => ?_) (fun c_6 hf => ?_)
        · refine x_iinc G (lv' := [some (.ref 148), some (.int v1), some (.int (v2 + (1 : Int32))), some (.int v_3)]) (v := 1) dX12_carrying_40 rfl (by decide) rfl rfl rfl ?_
          refine x_goto G (tgt := 2) dX12_carrying_43 (by decide) ?_
          exact XW.sub (lv' := [some (.ref 148), some (.int v1), some (.int (v2 + (1 : Int32))), none]) (And.intro rfl (And.intro rfl (And.intro rfl trivial))) (ih _ _ _ hf)
        · refine x_aload_n G dX12_carrying_33 rfl rfl ?_
          refine x_iload_n G dX12_carrying_34 rfl rfl ?_
          refine x_putI G (kd148 M) 10 rfl cl12 rfl wf_X12_233 rfl rfl rfl dX12_carrying_35 ?_
          refine nwr hf (fun w_7 hf => ?_)
          refine x_iload_n G dX12_carrying_38 rfl rfl ?_
          exact x_iretW G hf hr dX12_carrying_39
    · refine x_iconst G (v := -1) dX12_carrying_46 (by decide) ?_
      exact x_iretW G hf hr dX12_carrying_47

set_option maxHeartbeats 4000000 in
set_option maxRecDepth 100000 in
theorem xX12_carrying_e {K : KT} {v1 : Int32} {w : Wd} {r : Int32 × Wd} (G : GK K cX12_carrying RX12 4 3) (M : Main K.ks) (hf : fX12_carrying v1 w = some r) (hr : RI K .int r.1 r.2) : XW K 0 [some (.ref 148), some (.int v1), none, none] [] w := by
  unfold fX12_carrying at hf
  refine x_iconst G (v := 0) dX12_carrying_0 (by decide) ?_
  refine x_istore_n G (lv' := [some (.ref 148), some (.int v1), some (.int (0 : Int32)), none]) dX12_carrying_1 rfl rfl rfl rfl ?_
  exact XW.sub (lv' := [some (.ref 148), some (.int v1), some (.int (0 : Int32)), none]) (And.intro rfl (And.intro rfl (And.intro rfl trivial))) (xX12_carrying_2 G M hr FU _ _ _ hf)

theorem mX12_carrying {l : Launch} {S : KS} {w : Wd} (hI : Inj S) (M : Main S) {v1 : Int32} {r : Int32 × Wd} (hf : fX12_carrying v1 w = some r) : CI l yX12_carrying cX12_carrying 4 (some .int) 3 S [.ref 148, .int v1] w r.1 r.2 := by
  intro sz
  refine mk_entry rfl (by decide +kernel) hI 2 rfl rfl (fun K h1 h2 h3 h4 h5 h6 G => ?_)
  subst h2
  exact xX12_carrying_e G M hf ⟨h3, by rw [h4, h6], h5⟩

set_option maxHeartbeats 4000000 in
set_option maxRecDepth 100000 in
theorem xX12_least_e {K : KT} {v0 : Int32} {v1 : Int32} {w : Wd} {r : Int32} (G : GK K cX12_least RX12 2 1) (M : Main K.ks) (hf : fX12_least v0 v1 w = some r) (hr : RI K .int r w) : XW K 0 [some (.int v0), some (.int v1)] [] w := by
  unfold fX12_least at hf
  refine x_iload_n G dX12_least_0 rfl rfl ?_
  refine x_iload_n G dX12_least_1 rfl rfl ?_
  refine x_icmpge G (tgt := 9) dX12_least_2 (by decide) hf (fun c_1 hf => ?_) (fun c_1 hf => ?_)
  · refine x_iload_n G dX12_least_5 rfl rfl ?_
    refine x_goto G (tgt := 10) dX12_least_6 (by decide) ?_
    exact x_iretP G hf hr dX12_least_10
  · refine x_iload_n G dX12_least_9 rfl rfl ?_
    exact x_iretP G hf hr dX12_least_10

theorem mX12_least {l : Launch} {S : KS} {w : Wd} (hI : Inj S) (M : Main S) {v0 : Int32} {v1 : Int32} {r : Int32} (hf : fX12_least v0 v1 w = some r) : CI l yX12_least cX12_least 2 (some .int) 1 S [.int v0, .int v1] w r w := by
  intro sz
  refine mk_entry rfl (by decide +kernel) hI 0 rfl rfl (fun K h1 h2 h3 h4 h5 h6 G => ?_)
  subst h2
  exact xX12_least_e G M hf ⟨h3, by rw [h4, h6], h5⟩

set_option maxHeartbeats 4000000 in
set_option maxRecDepth 100000 in
theorem xX12_letsOn_119 {K : KT} {v1 : Int32} {v3 : Int32} {w : Wd} {r : Wd} (G : GK K cX12_letsOn RX12 4 4) (M : Main K.ks) (hf : fX12_letsOn_119 v1 v3 w = some r) (hr : RV K r) : XW K 119 [some (.ref 148), some (.int v1), none, some (.int v3)] [] w := by
  unfold fX12_letsOn_119 at hf
  refine x_aload_n G dX12_letsOn_119 rfl rfl ?_
  refine x_getR G (kd148 M) 14 (b := 156) rfl cl12 rfl wf_X12_36 dX12_letsOn_120 ?_
  refine x_iload_n G dX12_letsOn_123 rfl rfl ?_
  refine x_iald G (kd156 M) dX12_letsOn_124 hf (fun hb_1 hf => ?_)
  refine x_iconst G (v := -1) dX12_letsOn_125 (by decide) ?_
  refine x_icmpne G (tgt := 130) dX12_letsOn_126 (by decide) hf (fun c_2 hf => ?_) (fun c_2 hf => ?_)
  · exact x_vretW G hf hr dX12_letsOn_129
  · refine x_aload_n G dX12_letsOn_130 rfl rfl ?_
    refine x_getR G (kd148 M) 12 (b := 154) rfl cl12 rfl wf_X12_30 dX12_letsOn_131 ?_
    refine x_iload_n G dX12_letsOn_134 rfl rfl ?_
    refine x_aload_n G dX12_letsOn_135 rfl rfl ?_
    refine x_iload_n G dX12_letsOn_136 rfl rfl ?_
    refine x_bipush G (v := 9) dX12_letsOn_137 (by decide) ?_
    obtain ⟨v_3, hv_3, hf⟩ := bnd hf
    refine x_virI G (As := [.int v1, .int (9 : Int32)]) (mX12_c G.2.2.2.2.2.2.1 M hv_3) mv_X12_117 (kd148 M) cl12 rfl rfl rfl rfl rfl dX12_letsOn_139 ?_
    refine x_iload_n G dX12_letsOn_142 rfl rfl ?_
    obtain ⟨v_4, hv_4, hf⟩ := bnd hf
    refine x_staI G (As := [.int v_3, .int v3]) (mX12_least G.2.2.2.2.2.2.1 M hv_4) ms_X12_245 rfl rfl rfl rfl rfl dX12_letsOn_143 ?_
    refine x_iast0 G (kd154 M) dX12_letsOn_146 hb_1 ?_
    refine nwr hf (fun w_5 hf => ?_)
    refine x_aload_n G dX12_letsOn_147 rfl rfl ?_
    refine x_getR G (kd148 M) 13 (b := 155) rfl cl12 rfl wf_X12_33 dX12_letsOn_148 ?_
    refine x_iload_n G dX12_letsOn_151 rfl rfl ?_
    refine x_aload_n G dX12_letsOn_152 rfl rfl ?_
    refine x_iload_n G dX12_letsOn_153 rfl rfl ?_
    refine x_bipush G (v := 10) dX12_letsOn_154 (by decide) ?_
    obtain ⟨v_6, hv_6, hf⟩ := bnd hf
    refine x_virI G (As := [.int v1, .int (10 : Int32)]) (mX12_c G.2.2.2.2.2.2.1 M hv_6) mv_X12_117 (kd148 M) cl12 rfl rfl rfl rfl rfl dX12_letsOn_156 ?_
    refine x_iload_n G dX12_letsOn_159 rfl rfl ?_
    refine x_aload_n G dX12_letsOn_160 rfl rfl ?_
    refine x_getR G (kd148 M) 12 (b := 154) rfl cl12 rfl wf_X12_30 dX12_letsOn_161 ?_
    refine x_iload_n G dX12_letsOn_164 rfl rfl ?_
    refine x_iald0 G (kd154 M) dX12_letsOn_165 hb_1 ?_
    refine x_isub G dX12_letsOn_166 ?_
    obtain ⟨v_7, hv_7, hf⟩ := bnd hf
    refine x_staI G (As := [.int v_6, .int (v3 - (ri w_5 154 v1))]) (mX12_least G.2.2.2.2.2.2.1 M hv_7) ms_X12_245 rfl rfl rfl rfl rfl dX12_letsOn_167 ?_
    refine x_iast0 G (kd155 M) dX12_letsOn_170 hb_1 ?_
    refine nwr hf (fun w_8 hf => ?_)
    refine x_aload_n G dX12_letsOn_171 rfl rfl ?_
    refine x_getR G (kd148 M) 1 (b := 149) rfl cl12 rfl wf_X12_13 dX12_letsOn_172 ?_
    refine x_bipush G (v := 15) dX12_letsOn_175 (by decide) ?_
    refine x_iload_n G dX12_letsOn_177 rfl rfl ?_
    refine x_imul G dX12_letsOn_178 ?_
    refine x_bipush G (v := 9) dX12_letsOn_179 (by decide) ?_
    refine x_iadd G dX12_letsOn_181 ?_
    refine x_dup2 G dX12_letsOn_182 rfl rfl ?_
    refine x_iald G (kd149 M) dX12_letsOn_183 hf (fun hb_9 hf => ?_)
    refine x_aload_n G dX12_letsOn_184 rfl rfl ?_
    refine x_getR G (kd148 M) 12 (b := 154) rfl cl12 rfl wf_X12_30 dX12_letsOn_185 ?_
    refine x_iload_n G dX12_letsOn_188 rfl rfl ?_
    refine x_iald0 G (kd154 M) dX12_letsOn_189 hb_1 ?_
    refine x_isub G dX12_letsOn_190 ?_
    refine x_iast0 G (kd149 M) dX12_letsOn_191 hb_9 ?_
    refine nwr hf (fun w_10 hf => ?_)
    refine x_aload_n G dX12_letsOn_192 rfl rfl ?_
    refine x_getR G (kd148 M) 1 (b := 149) rfl cl12 rfl wf_X12_13 dX12_letsOn_193 ?_
    refine x_bipush G (v := 15) dX12_letsOn_196 (by decide) ?_
    refine x_iload_n G dX12_letsOn_198 rfl rfl ?_
    refine x_imul G dX12_letsOn_199 ?_
    refine x_bipush G (v := 10) dX12_letsOn_200 (by decide) ?_
    refine x_iadd G dX12_letsOn_202 ?_
    refine x_dup2 G dX12_letsOn_203 rfl rfl ?_
    refine x_iald G (kd149 M) dX12_letsOn_204 hf (fun hb_11 hf => ?_)
    refine x_aload_n G dX12_letsOn_205 rfl rfl ?_
    refine x_getR G (kd148 M) 13 (b := 155) rfl cl12 rfl wf_X12_33 dX12_letsOn_206 ?_
    refine x_iload_n G dX12_letsOn_209 rfl rfl ?_
    refine x_iald0 G (kd155 M) dX12_letsOn_210 hb_1 ?_
    refine x_isub G dX12_letsOn_211 ?_
    refine x_iast0 G (kd149 M) dX12_letsOn_212 hb_11 ?_
    refine nwr hf (fun w_12 hf => ?_)
    exact x_vretW G hf hr dX12_letsOn_213

set_option maxHeartbeats 4000000 in
set_option maxRecDepth 100000 in
theorem xX12_letsOn_87 {K : KT} {v1 : Int32} {w : Wd} {r : Wd} (G : GK K cX12_letsOn RX12 4 4) (M : Main K.ks) (hf : fX12_letsOn_87 v1 w = some r) (hr : RV K r) : XW K 87 [some (.ref 148), some (.int v1), none, none] [] w := by
  unfold fX12_letsOn_87 at hf
  refine x_aload_n G dX12_letsOn_87 rfl rfl ?_
  refine x_getR G (kd148 M) 14 (b := 156) rfl cl12 rfl wf_X12_36 dX12_letsOn_88 ?_
  refine x_iload_n G dX12_letsOn_91 rfl rfl ?_
  refine x_aload_n G dX12_letsOn_92 rfl rfl ?_
  refine x_iload_n G dX12_letsOn_93 rfl rfl ?_
  refine x_bipush G (v := 6) dX12_letsOn_94 (by decide) ?_
  obtain ⟨v_1, hv_1, hf⟩ := bnd hf
  refine x_virI G (As := [.int v1, .int (6 : Int32)]) (mX12_c G.2.2.2.2.2.2.1 M hv_1) mv_X12_117 (kd148 M) cl12 rfl rfl rfl rfl rfl dX12_letsOn_96 ?_
  refine x_iast G (kd156 M) dX12_letsOn_99 hf (fun hb_2 hf => ?_)
  refine nwr hf (fun w_3 hf => ?_)
  refine x_bipush G (v := 20) dX12_letsOn_100 (by decide) ?_
  refine x_aload_n G dX12_letsOn_102 rfl rfl ?_
  refine x_iload_n G dX12_letsOn_103 rfl rfl ?_
  refine x_bipush G (v := 8) dX12_letsOn_104 (by decide) ?_
  obtain ⟨v_4, hv_4, hf⟩ := bnd hf
  refine x_virI G (As := [.int v1, .int (8 : Int32)]) (mX12_c G.2.2.2.2.2.2.1 M hv_4) mv_X12_117 (kd148 M) cl12 rfl rfl rfl rfl rfl dX12_letsOn_106 ?_
  refine x_imul G dX12_letsOn_109 ?_
  refine x_aload_n G dX12_letsOn_110 rfl rfl ?_
  refine x_iload_n G dX12_letsOn_111 rfl rfl ?_
  refine x_bipush G (v := 8) dX12_letsOn_112 (by decide) ?_
  obtain ⟨v_5, hv_5, hf⟩ := bnd hf
  refine x_virI G (As := [.int v1, .int (8 : Int32)]) (mX12_c G.2.2.2.2.2.2.1 M hv_5) mv_X12_117 (kd148 M) cl12 rfl rfl rfl rfl rfl dX12_letsOn_114 ?_
  refine x_imul G dX12_letsOn_117 ?_
  refine x_istore_n G (lv' := [some (.ref 148), some (.int v1), none, some (.int (((20 : Int32) * v_4) * v_5))]) dX12_letsOn_118 rfl rfl rfl rfl ?_
  exact XW.sub (lv' := [some (.ref 148), some (.int v1), none, some (.int (((20 : Int32) * v_4) * v_5))]) (And.intro rfl (And.intro rfl (And.intro rfl trivial))) (xX12_letsOn_119 G M hf hr)

set_option maxHeartbeats 4000000 in
set_option maxRecDepth 100000 in
theorem xX12_letsOn_e {K : KT} {v1 : Int32} {w : Wd} {r : Wd} (G : GK K cX12_letsOn RX12 4 4) (M : Main K.ks) (hf : fX12_letsOn v1 w = some r) (hr : RV K r) : XW K 0 [some (.ref 148), some (.int v1), none, none] [] w := by
  unfold fX12_letsOn at hf
  refine x_aload_n G dX12_letsOn_0 rfl rfl ?_
  refine x_getR G (kd148 M) 14 (b := 156) rfl cl12 rfl wf_X12_36 dX12_letsOn_1 ?_
  refine x_iload_n G dX12_letsOn_4 rfl rfl ?_
  refine x_iconst G (v := -1) dX12_letsOn_5 (by decide) ?_
  refine x_iast G (kd156 M) dX12_letsOn_6 hf (fun hb_1 hf => ?_)
  refine nwr hf (fun w_2 hf => ?_)
  refine x_aload_n G dX12_letsOn_7 rfl rfl ?_
  refine x_iload_n G dX12_letsOn_8 rfl rfl ?_
  refine x_iconst G (v := 0) dX12_letsOn_9 (by decide) ?_
  obtain ⟨v_3, hv_3, hf⟩ := bnd hf
  refine x_virI G (As := [.int v1, .int (0 : Int32)]) (mX12_h G.2.2.2.2.2.2.1 M hv_3) mv_X12_226 (kd148 M) cl12 rfl rfl rfl rfl rfl dX12_letsOn_10 ?_
  refine x_ifeq G (tgt := 17) dX12_letsOn_13 (by decide) hf (fun c_4 hf => ?_) (fun c_4 hf => ?_)
  · refine x_aload_n G dX12_letsOn_17 rfl rfl ?_
    refine x_iload_n G dX12_letsOn_18 rfl rfl ?_
    obtain ⟨v_5, hv_5, hf⟩ := bnd hf
    refine x_virI G (As := [.int v1]) (mX12_carrying G.2.2.2.2.2.2.1 M hv_5) mv_X12_242 (kd148 M) cl12 rfl rfl rfl rfl rfl dX12_letsOn_19 ?_
    refine x_istore_n G (lv' := [some (.ref 148), some (.int v1), some (.int v_5.1), none]) dX12_letsOn_22 rfl rfl rfl rfl ?_
    refine x_iload_n G dX12_letsOn_23 rfl rfl ?_
    refine x_iconst G (v := -1) dX12_letsOn_24 (by decide) ?_
    refine x_icmpeq G (tgt := 87) dX12_letsOn_25 (by decide) hf (fun c_6 hf => ?_) (fun c_6 hf => ?_)
    · exact XW.sub (lv' := [some (.ref 148), some (.int v1), none, none]) (And.intro rfl (And.intro rfl trivial)) (xX12_letsOn_87 G M hf hr)
    · refine x_aload_n G dX12_letsOn_28 rfl rfl ?_
      refine x_getI G (kd148 M) 10 rfl cl12 rfl wf_X12_233 dX12_letsOn_29 ?_
      refine x_aload_n G dX12_letsOn_32 rfl rfl ?_
      refine x_iload_n G dX12_letsOn_33 rfl rfl ?_
      refine x_iconst G (v := 0) dX12_letsOn_34 (by decide) ?_
      obtain ⟨v_7, hv_7, hf⟩ := bnd hf
      refine x_virI G (As := [.int v_5.1, .int (0 : Int32)]) (mX12_l G.2.2.2.2.2.2.1 M hv_7) mv_X12_193 (kd148 M) cl12 rfl rfl rfl rfl rfl dX12_letsOn_35 ?_
      refine x_iconst G (v := 1) dX12_letsOn_38 (by decide) ?_
      refine x_isub G dX12_letsOn_39 ?_
      refine x_icmpge G (tgt := 87) dX12_letsOn_40 (by decide) hf (fun c_8 hf => ?_) (fun c_8 hf => ?_)
      · refine x_aload_n G dX12_letsOn_43 rfl rfl ?_
        refine x_getR G (kd148 M) 14 (b := 156) rfl cl12 rfl wf_X12_36 dX12_letsOn_44 ?_
        refine x_iload_n G dX12_letsOn_47 rfl rfl ?_
        refine x_aload_n G dX12_letsOn_48 rfl rfl ?_
        refine x_getR G (kd148 M) 1 (b := 149) rfl cl12 rfl wf_X12_13 dX12_letsOn_49 ?_
        refine x_aload_n G dX12_letsOn_52 rfl rfl ?_
        refine x_iload_n G dX12_letsOn_53 rfl rfl ?_
        refine x_aload_n G dX12_letsOn_54 rfl rfl ?_
        refine x_getI G (kd148 M) 10 rfl cl12 rfl wf_X12_233 dX12_letsOn_55 ?_
        refine x_iconst G (v := 1) dX12_letsOn_58 (by decide) ?_
        refine x_iadd G dX12_letsOn_59 ?_
        obtain ⟨v_9, hv_9, hf⟩ := bnd hf
        refine x_virI G (As := [.int v_5.1, .int ((v_5.2.1 148 10) + (1 : Int32))]) (mX12_spot G.2.2.2.2.2.2.1 M hv_9) mv_X12_185 (kd148 M) cl12 rfl rfl rfl rfl rfl dX12_letsOn_60 ?_
        refine x_iconst G (v := 0) dX12_letsOn_63 (by decide) ?_
        refine x_iadd G dX12_letsOn_64 ?_
        refine x_iald G (kd149 M) dX12_letsOn_65 hf (fun hb_10 hf => ?_)
        refine x_iast0 G (kd156 M) dX12_letsOn_66 hb_1 ?_
        refine nwr hf (fun w_11 hf => ?_)
        refine x_bipush G (v := 30) dX12_letsOn_67 (by decide) ?_
        refine x_aload_n G dX12_letsOn_69 rfl rfl ?_
        refine x_iload_n G dX12_letsOn_70 rfl rfl ?_
        refine x_iconst G (v := 1) dX12_letsOn_71 (by decide) ?_
        obtain ⟨v_12, hv_12, hf⟩ := bnd hf
        refine x_virI G (As := [.int v_5.1, .int (1 : Int32)]) (mX12_l G.2.2.2.2.2.2.1 M hv_12) mv_X12_193 (kd148 M) cl12 rfl rfl rfl rfl rfl dX12_letsOn_72 ?_
        refine x_imul G dX12_letsOn_75 ?_
        refine x_aload_n G dX12_letsOn_76 rfl rfl ?_
        refine x_iload_n G dX12_letsOn_77 rfl rfl ?_
        refine x_iconst G (v := 1) dX12_letsOn_78 (by decide) ?_
        obtain ⟨v_13, hv_13, hf⟩ := bnd hf
        refine x_virI G (As := [.int v_5.1, .int (1 : Int32)]) (mX12_l G.2.2.2.2.2.2.1 M hv_13) mv_X12_193 (kd148 M) cl12 rfl rfl rfl rfl rfl dX12_letsOn_79 ?_
        refine x_imul G dX12_letsOn_82 ?_
        refine x_istore_n G (lv' := [some (.ref 148), some (.int v1), some (.int v_5.1), some (.int (((30 : Int32) * v_12) * v_13))]) dX12_letsOn_83 rfl rfl rfl rfl ?_
        refine x_goto G (tgt := 119) dX12_letsOn_84 (by decide) ?_
        exact XW.sub (lv' := [some (.ref 148), some (.int v1), none, some (.int (((30 : Int32) * v_12) * v_13))]) (And.intro rfl (And.intro rfl (And.intro rfl trivial))) (xX12_letsOn_119 G M hf hr)
      · exact XW.sub (lv' := [some (.ref 148), some (.int v1), none, none]) (And.intro rfl (And.intro rfl trivial)) (xX12_letsOn_87 G M hf hr)
  · exact x_vretW G hf hr dX12_letsOn_16

theorem mX12_letsOn {l : Launch} {S : KS} {w : Wd} (hI : Inj S) (M : Main S) {v1 : Int32} {r : Wd} (hf : fX12_letsOn v1 w = some r) : CV l yX12_letsOn cX12_letsOn 4 none 4 S [.ref 148, .int v1] w r := by
  intro sz
  refine mk_entry rfl (by decide +kernel) hI 2 rfl rfl (fun K h1 h2 h3 h4 h5 h6 G => ?_)
  subst h2
  exact xX12_letsOn_e G M hf ⟨h3, by rw [h4, h6], h5⟩

set_option maxHeartbeats 4000000 in
set_option maxRecDepth 100000 in
theorem xX12_lifts_e {K : KT} {v1 : Int32} {w : Wd} {r : Wd} (G : GK K cX12_lifts RX12 6 3) (M : Main K.ks) (hf : fX12_lifts v1 w = some r) (hr : RV K r) : XW K 0 [some (.ref 148), some (.int v1), none, none, none, none] [] w := by
  unfold fX12_lifts at hf
  refine x_sipush G (v := 1500) dX12_lifts_0 (by decide) ?_
  refine x_bipush G (v := 10) dX12_lifts_3 (by decide) ?_
  refine x_iload_n G dX12_lifts_5 rfl rfl ?_
  refine x_imul G dX12_lifts_6 ?_
  refine x_iadd G dX12_lifts_7 ?_
  refine x_istore_n G (lv' := [some (.ref 148), some (.int v1), some (.int ((1500 : Int32) + ((10 : Int32) * v1))), none, none, none]) dX12_lifts_8 rfl rfl rfl rfl ?_
  refine x_aload_n G dX12_lifts_9 rfl rfl ?_
  refine x_getR G (kd148 M) 1 (b := 149) rfl cl12 rfl wf_X12_13 dX12_lifts_10 ?_
  refine x_iload_n G dX12_lifts_13 rfl rfl ?_
  refine x_iconst G (v := 0) dX12_lifts_14 (by decide) ?_
  refine x_iadd G dX12_lifts_15 ?_
  refine x_iald G (kd149 M) dX12_lifts_16 hf (fun hb_1 hf => ?_)
  refine x_iconst G (v := 1) dX12_lifts_17 (by decide) ?_
  refine x_icmpne G (tgt := 33) dX12_lifts_18 (by decide) hf (fun c_2 hf => ?_) (fun c_2 hf => ?_)
  · refine x_aload_n G dX12_lifts_21 rfl rfl ?_
    refine x_getR G (kd148 M) 1 (b := 149) rfl cl12 rfl wf_X12_13 dX12_lifts_22 ?_
    refine x_iload_n G dX12_lifts_25 rfl rfl ?_
    refine x_iconst G (v := 4) dX12_lifts_26 (by decide) ?_
    refine x_iadd G dX12_lifts_27 ?_
    refine x_iald G (kd149 M) dX12_lifts_28 hf (fun hb_3 hf => ?_)
    refine x_iconst G (v := 1) dX12_lifts_29 (by decide) ?_
    refine x_icmpne G (tgt := 34) dX12_lifts_30 (by decide) hf (fun c_4 hf => ?_) (fun c_4 hf => ?_)
    · exact x_vretW G hf hr dX12_lifts_33
    · refine x_aload_n G dX12_lifts_34 rfl rfl ?_
      refine x_getR G (kd148 M) 1 (b := 149) rfl cl12 rfl wf_X12_13 dX12_lifts_35 ?_
      refine x_iload_n G dX12_lifts_38 rfl rfl ?_
      refine x_iconst G (v := 2) dX12_lifts_39 (by decide) ?_
      refine x_iadd G dX12_lifts_40 ?_
      refine x_iald G (kd149 M) dX12_lifts_41 hf (fun hb_5 hf => ?_)
      refine x_bipush G (v := 100) dX12_lifts_42 (by decide) ?_
      refine x_aload_n G dX12_lifts_44 rfl rfl ?_
      refine x_getR G (kd148 M) 1 (b := 149) rfl cl12 rfl wf_X12_13 dX12_lifts_45 ?_
      refine x_iload_n G dX12_lifts_48 rfl rfl ?_
      refine x_iconst G (v := 3) dX12_lifts_49 (by decide) ?_
      refine x_iadd G dX12_lifts_50 ?_
      refine x_iald G (kd149 M) dX12_lifts_51 hf (fun hb_6 hf => ?_)
      refine x_imul G dX12_lifts_52 ?_
      obtain ⟨v_7, hv_7, hf⟩ := bnd hf
      refine x_staI G (As := [.int (ri w 149 (((1500 : Int32) + ((10 : Int32) * v1)) + (2 : Int32))), .int ((100 : Int32) * (ri w 149 (((1500 : Int32) + ((10 : Int32) * v1)) + (3 : Int32))))]) (mX12_least G.2.2.2.2.2.2.1 M hv_7) ms_X12_245 rfl rfl rfl rfl rfl dX12_lifts_53 ?_
      refine x_istore_n G (lv' := [some (.ref 148), some (.int v1), some (.int ((1500 : Int32) + ((10 : Int32) * v1))), some (.int v_7), none, none]) dX12_lifts_56 rfl rfl rfl rfl ?_
      refine x_aload_n G dX12_lifts_57 rfl rfl ?_
      refine x_iload_n G dX12_lifts_58 rfl rfl ?_
      refine x_bipush G (v := 9) dX12_lifts_59 (by decide) ?_
      obtain ⟨v_8, hv_8, hf⟩ := bnd hf
      refine x_virI G (As := [.int v1, .int (9 : Int32)]) (mX12_c G.2.2.2.2.2.2.1 M hv_8) mv_X12_117 (kd148 M) cl12 rfl rfl rfl rfl rfl dX12_lifts_61 ?_
      refine x_iload_n G dX12_lifts_64 rfl rfl ?_
      obtain ⟨v_9, hv_9, hf⟩ := bnd hf
      refine x_staI G (As := [.int v_8, .int v_7]) (mX12_least G.2.2.2.2.2.2.1 M hv_9) ms_X12_245 rfl rfl rfl rfl rfl dX12_lifts_65 ?_
      refine x_istore G (lv' := [some (.ref 148), some (.int v1), some (.int ((1500 : Int32) + ((10 : Int32) * v1))), some (.int v_7), some (.int v_9), none]) dX12_lifts_68 rfl rfl rfl ?_
      refine x_aload_n G dX12_lifts_70 rfl rfl ?_
      refine x_iload_n G dX12_lifts_71 rfl rfl ?_
      refine x_bipush G (v := 10) dX12_lifts_72 (by decide) ?_
      obtain ⟨v_10, hv_10, hf⟩ := bnd hf
      refine x_virI G (As := [.int v1, .int (10 : Int32)]) (mX12_c G.2.2.2.2.2.2.1 M hv_10) mv_X12_117 (kd148 M) cl12 rfl rfl rfl rfl rfl dX12_lifts_74 ?_
      refine x_iload_n G dX12_lifts_77 rfl rfl ?_
      refine x_iload G dX12_lifts_78 rfl ?_
      refine x_isub G dX12_lifts_80 ?_
      obtain ⟨v_11, hv_11, hf⟩ := bnd hf
      refine x_staI G (As := [.int v_10, .int (v_7 - v_9)]) (mX12_least G.2.2.2.2.2.2.1 M hv_11) ms_X12_245 rfl rfl rfl rfl rfl dX12_lifts_81 ?_
      refine x_istore G (lv' := [some (.ref 148), some (.int v1), some (.int ((1500 : Int32) + ((10 : Int32) * v1))), some (.int v_7), some (.int v_9), some (.int v_11)]) dX12_lifts_84 rfl rfl rfl ?_
      refine x_aload_n G dX12_lifts_86 rfl rfl ?_
      refine x_getR G (kd148 M) 1 (b := 149) rfl cl12 rfl wf_X12_13 dX12_lifts_87 ?_
      refine x_bipush G (v := 15) dX12_lifts_90 (by decide) ?_
      refine x_iload_n G dX12_lifts_92 rfl rfl ?_
      refine x_imul G dX12_lifts_93 ?_
      refine x_bipush G (v := 9) dX12_lifts_94 (by decide) ?_
      refine x_iadd G dX12_lifts_96 ?_
      refine x_dup2 G dX12_lifts_97 rfl rfl ?_
      refine x_iald G (kd149 M) dX12_lifts_98 hf (fun hb_12 hf => ?_)
      refine x_iload G dX12_lifts_99 rfl ?_
      refine x_isub G dX12_lifts_101 ?_
      refine x_iast0 G (kd149 M) dX12_lifts_102 hb_12 ?_
      refine nwr hf (fun w_13 hf => ?_)
      refine x_aload_n G dX12_lifts_103 rfl rfl ?_
      refine x_getR G (kd148 M) 1 (b := 149) rfl cl12 rfl wf_X12_13 dX12_lifts_104 ?_
      refine x_bipush G (v := 15) dX12_lifts_107 (by decide) ?_
      refine x_iload_n G dX12_lifts_109 rfl rfl ?_
      refine x_imul G dX12_lifts_110 ?_
      refine x_bipush G (v := 10) dX12_lifts_111 (by decide) ?_
      refine x_iadd G dX12_lifts_113 ?_
      refine x_dup2 G dX12_lifts_114 rfl rfl ?_
      refine x_iald G (kd149 M) dX12_lifts_115 hf (fun hb_14 hf => ?_)
      refine x_iload G dX12_lifts_116 rfl ?_
      refine x_isub G dX12_lifts_118 ?_
      refine x_iast0 G (kd149 M) dX12_lifts_119 hb_14 ?_
      refine nwr hf (fun w_15 hf => ?_)
      refine x_aload_n G dX12_lifts_120 rfl rfl ?_
      refine x_getR G (kd148 M) 1 (b := 149) rfl cl12 rfl wf_X12_13 dX12_lifts_121 ?_
      refine x_iload_n G dX12_lifts_124 rfl rfl ?_
      refine x_iconst G (v := 3) dX12_lifts_125 (by decide) ?_
      refine x_iadd G dX12_lifts_126 ?_
      refine x_dup2 G dX12_lifts_127 rfl rfl ?_
      refine x_iald0 G (kd149 M) dX12_lifts_128 hb_6 ?_
      refine x_iload G dX12_lifts_129 rfl ?_
      refine x_iload G dX12_lifts_131 rfl ?_
      refine x_iadd G dX12_lifts_133 ?_
      refine x_bipush G (v := 99) dX12_lifts_134 (by decide) ?_
      refine x_iadd G dX12_lifts_136 ?_
      refine x_bipush G (v := 100) dX12_lifts_137 (by decide) ?_
      refine x_idiv G dX12_lifts_139 (by decide) ?_
      refine x_isub G dX12_lifts_140 ?_
      refine x_iast0 G (kd149 M) dX12_lifts_141 hb_6 ?_
      refine nwr hf (fun w_16 hf => ?_)
      refine x_aload_n G dX12_lifts_142 rfl rfl ?_
      refine x_aload_n G dX12_lifts_143 rfl rfl ?_
      refine x_getR G (kd148 M) 1 (b := 149) rfl cl12 rfl wf_X12_13 dX12_lifts_144 ?_
      refine x_iload_n G dX12_lifts_147 rfl rfl ?_
      refine x_iconst G (v := 1) dX12_lifts_148 (by decide) ?_
      refine x_iadd G dX12_lifts_149 ?_
      refine x_iald G (kd149 M) dX12_lifts_150 hf (fun hb_17 hf => ?_)
      refine x_iload G dX12_lifts_151 rfl ?_
      refine x_iload G dX12_lifts_153 rfl ?_
      obtain ⟨v_18, hv_18, hf⟩ := bnd hf
      refine x_virV G (As := [.int (ri w_16 149 (((1500 : Int32) + ((10 : Int32) * v1)) + (1 : Int32))), .int v_9, .int v_11]) (mX12_comes G.2.2.2.2.2.2.1 M hv_18) mv_X12_248 (kd148 M) cl12 rfl rfl rfl rfl rfl dX12_lifts_155 ?_
      exact x_vretW G hf hr dX12_lifts_158
  · exact x_vretW G hf hr dX12_lifts_33

theorem mX12_lifts {l : Launch} {S : KS} {w : Wd} (hI : Inj S) (M : Main S) {v1 : Int32} {r : Wd} (hf : fX12_lifts v1 w = some r) : CV l yX12_lifts cX12_lifts 6 none 3 S [.ref 148, .int v1] w r := by
  intro sz
  refine mk_entry rfl (by decide +kernel) hI 4 rfl rfl (fun K h1 h2 h3 h4 h5 h6 G => ?_)
  subst h2
  exact xX12_lifts_e G M hf ⟨h3, by rw [h4, h6], h5⟩

set_option maxHeartbeats 4000000 in
set_option maxRecDepth 100000 in
theorem xX12_lookAtLines_2 {K : KT} {r : Wd} (G : GK K cX12_lookAtLines RX12 2 5) (M : Main K.ks) (hr : RV K r) : ∀ (n : Nat) (v1 : Int32) (w : Wd), fX12_lookAtLines_2 n v1 w = some r → XW K 2 [some (.ref 148), some (.int v1)] [] w := by
  intro n
  induction n with
  | zero =>
    intro v1 w hf
    unfold fX12_lookAtLines_2 at hf
    cases hf
  | succ n ih =>
    intro v1 w hf
    unfold fX12_lookAtLines_2 at hf
    refine x_iload_n G dX12_lookAtLines_2 rfl rfl ?_
    refine x_aload_n G dX12_lookAtLines_3 rfl rfl ?_
    refine x_bipush G (v := 15) dX12_lookAtLines_4 (by decide) ?_
    obtain ⟨v_1, hv_1, hf⟩ := bnd hf
    refine x_virI G (As := [.int (15 : Int32)]) (mX12_g G.2.2.2.2.2.2.1 M hv_1) mv_X12_101 (kd148 M) cl12 rfl rfl rfl rfl rfl dX12_lookAtLines_6 ?_
    refine x_icmpge G (tgt := 29) dX12_lookAtLines_9 (by decide) hf (fun c_2 hf => ?_) (fun c_2 hf => ?_)
    · refine x_aload_n G dX12_lookAtLines_12 rfl rfl ?_
      refine x_getR G (kd148 M) 11 (b := 153) rfl cl12 rfl wf_X12_26 dX12_lookAtLines_13 ?_
      refine x_iload_n G dX12_lookAtLines_16 rfl rfl ?_
      refine x_aload_n G dX12_lookAtLines_17 rfl rfl ?_
      refine x_iload_n G dX12_lookAtLines_18 rfl rfl ?_
      obtain ⟨v_3, hv_3, hf⟩ := bnd hf
      refine x_virI G (As := [.int v1]) (mX12_isCarrying G.2.2.2.2.2.2.1 M hv_3) mv_X12_211 (kd148 M) cl12 rfl rfl rfl rfl rfl dX12_lookAtLines_19 ?_
      refine x_zast G (kd153 M) dX12_lookAtLines_22 hf (fun hb_4 hf => ?_)
      refine nwr hf (fun w_5 hf => ?_)
      refine x_iinc G (lv' := [some (.ref 148), some (.int (v1 + (1 : Int32)))]) (v := 1) dX12_lookAtLines_23 rfl (by decide) rfl rfl rfl ?_
      refine x_goto G (tgt := 2) dX12_lookAtLines_26 (by decide) ?_
      exact XW.sub (lv' := [some (.ref 148), some (.int (v1 + (1 : Int32)))]) (And.intro rfl (And.intro rfl trivial)) (ih _ _ hf)
    · exact x_vretW G hf hr dX12_lookAtLines_29

set_option maxHeartbeats 4000000 in
set_option maxRecDepth 100000 in
theorem xX12_lookAtLines_e {K : KT} {w : Wd} {r : Wd} (G : GK K cX12_lookAtLines RX12 2 5) (M : Main K.ks) (hf : fX12_lookAtLines w = some r) (hr : RV K r) : XW K 0 [some (.ref 148), none] [] w := by
  unfold fX12_lookAtLines at hf
  refine x_iconst G (v := 0) dX12_lookAtLines_0 (by decide) ?_
  refine x_istore_n G (lv' := [some (.ref 148), some (.int (0 : Int32))]) dX12_lookAtLines_1 rfl rfl rfl rfl ?_
  exact XW.sub (lv' := [some (.ref 148), some (.int (0 : Int32))]) (And.intro rfl (And.intro rfl trivial)) (xX12_lookAtLines_2 G M hr FU _ _ hf)

theorem mX12_lookAtLines {l : Launch} {S : KS} {w : Wd} (hI : Inj S) (M : Main S) {r : Wd} (hf : fX12_lookAtLines w = some r) : CV l yX12_lookAtLines cX12_lookAtLines 2 none 5 S [.ref 148] w r := by
  intro sz
  refine mk_entry rfl (by decide +kernel) hI 1 rfl rfl (fun K h1 h2 h3 h4 h5 h6 G => ?_)
  subst h2
  exact xX12_lookAtLines_e G M hf ⟨h3, by rw [h4, h6], h5⟩

set_option maxHeartbeats 4000000 in
set_option maxRecDepth 100000 in
theorem xX12_outs_e {K : KT} {v1 : Int32} {w : Wd} {r : Wd} (G : GK K cX12_outs RX12 8 203) (M : Main K.ks) (hf : fX12_outs v1 w = some r) (hr : RV K r) : XW K 0 [some (.ref 148), some (.int v1), none, none, none, none, none, none] [] w := by
  unfold fX12_outs at hf
  refine x_sipush G (v := 1500) dX12_outs_0 (by decide) ?_
  refine x_bipush G (v := 10) dX12_outs_3 (by decide) ?_
  refine x_iload_n G dX12_outs_5 rfl rfl ?_
  refine x_imul G dX12_outs_6 ?_
  refine x_iadd G dX12_outs_7 ?_
  refine x_istore_n G (lv' := [some (.ref 148), some (.int v1), some (.int ((1500 : Int32) + ((10 : Int32) * v1))), none, none, none, none, none]) dX12_outs_8 rfl rfl rfl rfl ?_
  refine x_aload_n G dX12_outs_9 rfl rfl ?_
  refine x_getR G (kd148 M) 1 (b := 149) rfl cl12 rfl wf_X12_13 dX12_outs_10 ?_
  refine x_iload_n G dX12_outs_13 rfl rfl ?_
  refine x_iconst G (v := 0) dX12_outs_14 (by decide) ?_
  refine x_iadd G dX12_outs_15 ?_
  refine x_iald G (kd149 M) dX12_outs_16 hf (fun hb_1 hf => ?_)
  refine x_iconst G (v := 2) dX12_outs_17 (by decide) ?_
  refine x_icmpeq G (tgt := 22) dX12_outs_18 (by decide) hf (fun c_2 hf => ?_) (fun c_2 hf => ?_)
  · refine x_aload_n G dX12_outs_22 rfl rfl ?_
    refine x_getR G (kd148 M) 1 (b := 149) rfl cl12 rfl wf_X12_13 dX12_outs_23 ?_
    refine x_iload_n G dX12_outs_26 rfl rfl ?_
    refine x_iconst G (v := 5) dX12_outs_27 (by decide) ?_
    refine x_iadd G dX12_outs_28 ?_
    refine x_iald G (kd149 M) dX12_outs_29 hf (fun hb_3 hf => ?_)
    refine x_aload_n G dX12_outs_30 rfl rfl ?_
    refine x_getR G (kd148 M) 1 (b := 149) rfl cl12 rfl wf_X12_13 dX12_outs_31 ?_
    refine x_iload_n G dX12_outs_34 rfl rfl ?_
    refine x_bipush G (v := 8) dX12_outs_35 (by decide) ?_
    refine x_iadd G dX12_outs_37 ?_
    refine x_iald G (kd149 M) dX12_outs_38 hf (fun hb_4 hf => ?_)
    refine x_isub G dX12_outs_39 ?_
    refine x_aload_n G dX12_outs_40 rfl rfl ?_
    refine x_getR G (kd148 M) 1 (b := 149) rfl cl12 rfl wf_X12_13 dX12_outs_41 ?_
    refine x_iload_n G dX12_outs_44 rfl rfl ?_
    refine x_bipush G (v := 9) dX12_outs_45 (by decide) ?_
    refine x_iadd G dX12_outs_47 ?_
    refine x_iald G (kd149 M) dX12_outs_48 hf (fun hb_5 hf => ?_)
    refine x_isub G dX12_outs_49 ?_
    refine x_istore_n G (lv' := [some (.ref 148), some (.int v1), some (.int ((1500 : Int32) + ((10 : Int32) * v1))), some (.int (((ri w 149 (((1500 : Int32) + ((10 : Int32) * v1)) + (5 : Int32))) - (ri w 149 (((1500 : Int32) + ((10 : Int32) * v1)) + (8 : Int32)))) - (ri w 149 (((1500 : Int32) + ((10 : Int32) * v1)) + (9 : Int32))))), none, none, none, none]) dX12_outs_50 rfl rfl rfl rfl ?_
    refine x_aload_n G dX12_outs_51 rfl rfl ?_
    refine x_iload_n G dX12_outs_52 rfl rfl ?_
    refine x_bipush G (v := 9) dX12_outs_53 (by decide) ?_
    obtain ⟨v_6, hv_6, hf⟩ := bnd hf
    refine x_virI G (As := [.int v1, .int (9 : Int32)]) (mX12_c G.2.2.2.2.2.2.1 M hv_6) mv_X12_117 (kd148 M) cl12 rfl rfl rfl rfl rfl dX12_outs_55 ?_
    refine x_iload_n G dX12_outs_58 rfl rfl ?_
    obtain ⟨v_7, hv_7, hf⟩ := bnd hf
    refine x_staI G (As := [.int v_6, .int (((ri w 149 (((1500 : Int32) + ((10 : Int32) * v1)) + (5 : Int32))) - (ri w 149 (((1500 : Int32) + ((10 : Int32) * v1)) + (8 : Int32)))) - (ri w 149 (((1500 : Int32) + ((10 : Int32) * v1)) + (9 : Int32))))]) (mX12_least G.2.2.2.2.2.2.1 M hv_7) ms_X12_245 rfl rfl rfl rfl rfl dX12_outs_59 ?_
    refine x_istore G (lv' := [some (.ref 148), some (.int v1), some (.int ((1500 : Int32) + ((10 : Int32) * v1))), some (.int (((ri w 149 (((1500 : Int32) + ((10 : Int32) * v1)) + (5 : Int32))) - (ri w 149 (((1500 : Int32) + ((10 : Int32) * v1)) + (8 : Int32)))) - (ri w 149 (((1500 : Int32) + ((10 : Int32) * v1)) + (9 : Int32))))), some (.int v_7), none, none, none]) dX12_outs_62 rfl rfl rfl ?_
    refine x_aload_n G dX12_outs_64 rfl rfl ?_
    refine x_iload_n G dX12_outs_65 rfl rfl ?_
    refine x_bipush G (v := 10) dX12_outs_66 (by decide) ?_
    obtain ⟨v_8, hv_8, hf⟩ := bnd hf
    refine x_virI G (As := [.int v1, .int (10 : Int32)]) (mX12_c G.2.2.2.2.2.2.1 M hv_8) mv_X12_117 (kd148 M) cl12 rfl rfl rfl rfl rfl dX12_outs_68 ?_
    refine x_iload_n G dX12_outs_71 rfl rfl ?_
    refine x_iload G dX12_outs_72 rfl ?_
    refine x_isub G dX12_outs_74 ?_
    obtain ⟨v_9, hv_9, hf⟩ := bnd hf
    refine x_staI G (As := [.int v_8, .int ((((ri w 149 (((1500 : Int32) + ((10 : Int32) * v1)) + (5 : Int32))) - (ri w 149 (((1500 : Int32) + ((10 : Int32) * v1)) + (8 : Int32)))) - (ri w 149 (((1500 : Int32) + ((10 : Int32) * v1)) + (9 : Int32)))) - v_7)]) (mX12_least G.2.2.2.2.2.2.1 M hv_9) ms_X12_245 rfl rfl rfl rfl rfl dX12_outs_75 ?_
    refine x_istore G (lv' := [some (.ref 148), some (.int v1), some (.int ((1500 : Int32) + ((10 : Int32) * v1))), some (.int (((ri w 149 (((1500 : Int32) + ((10 : Int32) * v1)) + (5 : Int32))) - (ri w 149 (((1500 : Int32) + ((10 : Int32) * v1)) + (8 : Int32)))) - (ri w 149 (((1500 : Int32) + ((10 : Int32) * v1)) + (9 : Int32))))), some (.int v_7), some (.int v_9), none, none]) dX12_outs_78 rfl rfl rfl ?_
    refine x_aload_n G dX12_outs_80 rfl rfl ?_
    refine x_getR G (kd148 M) 1 (b := 149) rfl cl12 rfl wf_X12_13 dX12_outs_81 ?_
    refine x_bipush G (v := 15) dX12_outs_84 (by decide) ?_
    refine x_iload_n G dX12_outs_86 rfl rfl ?_
    refine x_imul G dX12_outs_87 ?_
    refine x_bipush G (v := 9) dX12_outs_88 (by decide) ?_
    refine x_iadd G dX12_outs_90 ?_
    refine x_dup2 G dX12_outs_91 rfl rfl ?_
    refine x_iald G (kd149 M) dX12_outs_92 hf (fun hb_10 hf => ?_)
    refine x_iload G dX12_outs_93 rfl ?_
    refine x_isub G dX12_outs_95 ?_
    refine x_iast0 G (kd149 M) dX12_outs_96 hb_10 ?_
    refine nwr hf (fun w_11 hf => ?_)
    refine x_aload_n G dX12_outs_97 rfl rfl ?_
    refine x_getR G (kd148 M) 1 (b := 149) rfl cl12 rfl wf_X12_13 dX12_outs_98 ?_
    refine x_bipush G (v := 15) dX12_outs_101 (by decide) ?_
    refine x_iload_n G dX12_outs_103 rfl rfl ?_
    refine x_imul G dX12_outs_104 ?_
    refine x_bipush G (v := 10) dX12_outs_105 (by decide) ?_
    refine x_iadd G dX12_outs_107 ?_
    refine x_dup2 G dX12_outs_108 rfl rfl ?_
    refine x_iald G (kd149 M) dX12_outs_109 hf (fun hb_12 hf => ?_)
    refine x_iload G dX12_outs_110 rfl ?_
    refine x_isub G dX12_outs_112 ?_
    refine x_iast0 G (kd149 M) dX12_outs_113 hb_12 ?_
    refine nwr hf (fun w_13 hf => ?_)
    refine x_aload_n G dX12_outs_114 rfl rfl ?_
    refine x_getR G (kd148 M) 1 (b := 149) rfl cl12 rfl wf_X12_13 dX12_outs_115 ?_
    refine x_iload_n G dX12_outs_118 rfl rfl ?_
    refine x_bipush G (v := 8) dX12_outs_119 (by decide) ?_
    refine x_iadd G dX12_outs_121 ?_
    refine x_dup2 G dX12_outs_122 rfl rfl ?_
    refine x_iald0 G (kd149 M) dX12_outs_123 hb_4 ?_
    refine x_iload G dX12_outs_124 rfl ?_
    refine x_iadd G dX12_outs_126 ?_
    refine x_iast0 G (kd149 M) dX12_outs_127 hb_4 ?_
    refine nwr hf (fun w_14 hf => ?_)
    refine x_aload_n G dX12_outs_128 rfl rfl ?_
    refine x_getR G (kd148 M) 1 (b := 149) rfl cl12 rfl wf_X12_13 dX12_outs_129 ?_
    refine x_iload_n G dX12_outs_132 rfl rfl ?_
    refine x_bipush G (v := 9) dX12_outs_133 (by decide) ?_
    refine x_iadd G dX12_outs_135 ?_
    refine x_dup2 G dX12_outs_136 rfl rfl ?_
    refine x_iald0 G (kd149 M) dX12_outs_137 hb_5 ?_
    refine x_iload G dX12_outs_138 rfl ?_
    refine x_iadd G dX12_outs_140 ?_
    refine x_iast0 G (kd149 M) dX12_outs_141 hb_5 ?_
    refine nwr hf (fun w_15 hf => ?_)
    refine x_aload_n G dX12_outs_142 rfl rfl ?_
    refine x_iconst G (v := 2) dX12_outs_143 (by decide) ?_
    refine x_iload_n G dX12_outs_144 rfl rfl ?_
    obtain ⟨v_16, hv_16, hf⟩ := bnd hf
    refine x_virI G (As := [.int (2 : Int32), .int v1]) (mX12_isHeld G.2.2.2.2.2.2.1 M hv_16) mv_X12_217 (kd148 M) cl12 rfl rfl rfl rfl rfl dX12_outs_145 ?_
    refine x_ifeqB G (tgt := 172) dX12_outs_148 (by decide) hf (fun c_17 hf => ?_) (fun c_17 hf => ?_)
    · refine x_aload_n G dX12_outs_151 rfl rfl ?_
      refine x_aload_n G dX12_outs_152 rfl rfl ?_
      refine x_iconst G (v := 0) dX12_outs_153 (by decide) ?_
      obtain ⟨v_18, hv_18, hf⟩ := bnd hf
      refine x_virI G (As := [.int (0 : Int32)]) (mX12_g G.2.2.2.2.2.2.1 M hv_18) mv_X12_101 (kd148 M) cl12 rfl rfl rfl rfl rfl dX12_outs_154 ?_
      obtain ⟨v_19, hv_19, hf⟩ := bnd hf
      refine x_virI G (As := [.int v_18]) (mX12_levelAt G.2.2.2.2.2.2.1 M hv_19) mv_X12_138 (kd148 M) cl12 rfl rfl rfl rfl rfl dX12_outs_157 ?_
      refine x_aload_n G dX12_outs_160 rfl rfl ?_
      refine x_getR G (kd148 M) 1 (b := 149) rfl cl12 rfl wf_X12_13 dX12_outs_161 ?_
      refine x_iload_n G dX12_outs_164 rfl rfl ?_
      refine x_bipush G (v := 7) dX12_outs_165 (by decide) ?_
      refine x_iadd G dX12_outs_167 ?_
      refine x_iald G (kd149 M) dX12_outs_168 hf (fun hb_20 hf => ?_)
      refine x_icmplt G (tgt := 173) dX12_outs_169 (by decide) hf (fun c_21 hf => ?_) (fun c_21 hf => ?_)
      · refine x_aload_n G dX12_outs_173 rfl rfl ?_
        refine x_getR G (kd148 M) 1 (b := 149) rfl cl12 rfl wf_X12_13 dX12_outs_174 ?_
        refine x_iload_n G dX12_outs_177 rfl rfl ?_
        refine x_bipush G (v := 8) dX12_outs_178 (by decide) ?_
        refine x_iadd G dX12_outs_180 ?_
        refine x_iald0 G (kd149 M) dX12_outs_181 hb_4 ?_
        refine x_aload_n G dX12_outs_182 rfl rfl ?_
        refine x_getR G (kd148 M) 1 (b := 149) rfl cl12 rfl wf_X12_13 dX12_outs_183 ?_
        refine x_iload_n G dX12_outs_186 rfl rfl ?_
        refine x_bipush G (v := 6) dX12_outs_187 (by decide) ?_
        refine x_iadd G dX12_outs_189 ?_
        refine x_iald G (kd149 M) dX12_outs_190 hf (fun hb_22 hf => ?_)
        obtain ⟨v_23, hv_23, hf⟩ := bnd hf
        refine x_staI G (As := [.int (ri v_16.2 149 (((1500 : Int32) + ((10 : Int32) * v1)) + (8 : Int32))), .int (ri v_16.2 149 (((1500 : Int32) + ((10 : Int32) * v1)) + (6 : Int32)))]) (mX12_least G.2.2.2.2.2.2.1 M hv_23) ms_X12_245 rfl rfl rfl rfl rfl dX12_outs_191 ?_
        refine x_istore G (lv' := [some (.ref 148), some (.int v1), some (.int ((1500 : Int32) + ((10 : Int32) * v1))), some (.int (((ri w 149 (((1500 : Int32) + ((10 : Int32) * v1)) + (5 : Int32))) - (ri w 149 (((1500 : Int32) + ((10 : Int32) * v1)) + (8 : Int32)))) - (ri w 149 (((1500 : Int32) + ((10 : Int32) * v1)) + (9 : Int32))))), some (.int v_7), some (.int v_9), some (.int v_23), none]) dX12_outs_194 rfl rfl rfl ?_
        refine x_aload_n G dX12_outs_196 rfl rfl ?_
        refine x_getR G (kd148 M) 1 (b := 149) rfl cl12 rfl wf_X12_13 dX12_outs_197 ?_
        refine x_iload_n G dX12_outs_200 rfl rfl ?_
        refine x_bipush G (v := 9) dX12_outs_201 (by decide) ?_
        refine x_iadd G dX12_outs_203 ?_
        refine x_iald0 G (kd149 M) dX12_outs_204 hb_5 ?_
        refine x_aload_n G dX12_outs_205 rfl rfl ?_
        refine x_getR G (kd148 M) 1 (b := 149) rfl cl12 rfl wf_X12_13 dX12_outs_206 ?_
        refine x_iload_n G dX12_outs_209 rfl rfl ?_
        refine x_bipush G (v := 6) dX12_outs_210 (by decide) ?_
        refine x_iadd G dX12_outs_212 ?_
        refine x_iald0 G (kd149 M) dX12_outs_213 hb_22 ?_
        refine x_iload G dX12_outs_214 rfl ?_
        refine x_isub G dX12_outs_216 ?_
        obtain ⟨v_24, hv_24, hf⟩ := bnd hf
        refine x_staI G (As := [.int (ri v_16.2 149 (((1500 : Int32) + ((10 : Int32) * v1)) + (9 : Int32))), .int ((ri v_16.2 149 (((1500 : Int32) + ((10 : Int32) * v1)) + (6 : Int32))) - v_23)]) (mX12_least G.2.2.2.2.2.2.1 M hv_24) ms_X12_245 rfl rfl rfl rfl rfl dX12_outs_217 ?_
        refine x_istore G (lv' := [some (.ref 148), some (.int v1), some (.int ((1500 : Int32) + ((10 : Int32) * v1))), some (.int (((ri w 149 (((1500 : Int32) + ((10 : Int32) * v1)) + (5 : Int32))) - (ri w 149 (((1500 : Int32) + ((10 : Int32) * v1)) + (8 : Int32)))) - (ri w 149 (((1500 : Int32) + ((10 : Int32) * v1)) + (9 : Int32))))), some (.int v_7), some (.int v_9), some (.int v_23), some (.int v_24)]) dX12_outs_220 rfl rfl rfl ?_
        refine x_aload_n G dX12_outs_222 rfl rfl ?_
        refine x_getR G (kd148 M) 1 (b := 149) rfl cl12 rfl wf_X12_13 dX12_outs_223 ?_
        refine x_iload_n G dX12_outs_226 rfl rfl ?_
        refine x_bipush G (v := 8) dX12_outs_227 (by decide) ?_
        refine x_iadd G dX12_outs_229 ?_
        refine x_dup2 G dX12_outs_230 rfl rfl ?_
        refine x_iald0 G (kd149 M) dX12_outs_231 hb_4 ?_
        refine x_iload G dX12_outs_232 rfl ?_
        refine x_isub G dX12_outs_234 ?_
        refine x_iast0 G (kd149 M) dX12_outs_235 hb_4 ?_
        refine nwr hf (fun w_25 hf => ?_)
        refine x_aload_n G dX12_outs_236 rfl rfl ?_
        refine x_getR G (kd148 M) 1 (b := 149) rfl cl12 rfl wf_X12_13 dX12_outs_237 ?_
        refine x_iload_n G dX12_outs_240 rfl rfl ?_
        refine x_bipush G (v := 9) dX12_outs_241 (by decide) ?_
        refine x_iadd G dX12_outs_243 ?_
        refine x_dup2 G dX12_outs_244 rfl rfl ?_
        refine x_iald0 G (kd149 M) dX12_outs_245 hb_5 ?_
        refine x_iload G dX12_outs_246 rfl ?_
        refine x_isub G dX12_outs_248 ?_
        refine x_iast0 G (kd149 M) dX12_outs_249 hb_5 ?_
        refine nwr hf (fun w_26 hf => ?_)
        refine x_aload_n G dX12_outs_250 rfl rfl ?_
        refine x_getR G (kd148 M) 1 (b := 149) rfl cl12 rfl wf_X12_13 dX12_outs_251 ?_
        refine x_sipush G (v := 4308) dX12_outs_254 (by decide) ?_
        refine x_dup2 G dX12_outs_257 rfl rfl ?_
        refine x_iald0 G (kd149 M) dX12_outs_258 (by decide) ?_
        refine x_iload G dX12_outs_259 rfl ?_
        refine x_iadd G dX12_outs_261 ?_
        refine x_iast0 G (kd149 M) dX12_outs_262 (by decide) ?_
        refine nwr hf (fun w_27 hf => ?_)
        refine x_aload_n G dX12_outs_263 rfl rfl ?_
        refine x_aload_n G dX12_outs_264 rfl rfl ?_
        refine x_iconst G (v := 0) dX12_outs_265 (by decide) ?_
        obtain ⟨v_28, hv_28, hf⟩ := bnd hf
        refine x_virI G (As := [.int (0 : Int32)]) (mX12_g G.2.2.2.2.2.2.1 M hv_28) mv_X12_101 (kd148 M) cl12 rfl rfl rfl rfl rfl dX12_outs_266 ?_
        obtain ⟨v_29, hv_29, hf⟩ := bnd hf
        refine x_virI G (As := [.int v_28]) (mX12_isBack G.2.2.2.2.2.2.1 M hv_29) mv_X12_143 (kd148 M) cl12 rfl rfl rfl rfl rfl dX12_outs_269 ?_
        refine x_ifeqB G (tgt := 291) dX12_outs_272 (by decide) hf (fun c_30 hf => ?_) (fun c_30 hf => ?_)
        · refine x_aload_n G dX12_outs_275 rfl rfl ?_
          refine x_getR G (kd148 M) 1 (b := 149) rfl cl12 rfl wf_X12_13 dX12_outs_276 ?_
          refine x_sipush G (v := 4310) dX12_outs_279 (by decide) ?_
          refine x_dup2 G dX12_outs_282 rfl rfl ?_
          refine x_iald0 G (kd149 M) dX12_outs_283 (by decide) ?_
          refine x_iload G dX12_outs_284 rfl ?_
          refine x_iadd G dX12_outs_286 ?_
          refine x_iast0 G (kd149 M) dX12_outs_287 (by decide) ?_
          refine nwr hf (fun w_31 hf => ?_)
          refine x_goto G (tgt := 304) dX12_outs_288 (by decide) ?_
          exact x_vretW G hf hr dX12_outs_304
        · refine x_aload_n G dX12_outs_291 rfl rfl ?_
          refine x_getR G (kd148 M) 1 (b := 149) rfl cl12 rfl wf_X12_13 dX12_outs_292 ?_
          refine x_sipush G (v := 4309) dX12_outs_295 (by decide) ?_
          refine x_dup2 G dX12_outs_298 rfl rfl ?_
          refine x_iald0 G (kd149 M) dX12_outs_299 (by decide) ?_
          refine x_iload G dX12_outs_300 rfl ?_
          refine x_iadd G dX12_outs_302 ?_
          refine x_iast0 G (kd149 M) dX12_outs_303 (by decide) ?_
          refine nwr hf (fun w_32 hf => ?_)
          exact x_vretW G hf hr dX12_outs_304
      · exact x_vretW G hf hr dX12_outs_172
    · exact x_vretW G hf hr dX12_outs_172
  · exact x_vretW G hf hr dX12_outs_21

theorem mX12_outs {l : Launch} {S : KS} {w : Wd} (hI : Inj S) (M : Main S) {v1 : Int32} {r : Wd} (hf : fX12_outs v1 w = some r) : CV l yX12_outs cX12_outs 8 none 203 S [.ref 148, .int v1] w r := by
  intro sz
  refine mk_entry rfl (by decide +kernel) hI 6 rfl rfl (fun K h1 h2 h3 h4 h5 h6 G => ?_)
  subst h2
  exact xX12_outs_e G M hf ⟨h3, by rw [h4, h6], h5⟩

set_option maxHeartbeats 4000000 in
set_option maxRecDepth 100000 in
theorem xX12_hold_e {K : KT} {v1 : Int32} {w : Wd} {r : Int32 × Wd} (G : GK K cX12_hold RX12 3 4) (M : Main K.ks) (hf : fX12_hold v1 w = some r) (hr : RI K .int r.1 r.2) : XW K 0 [some (.ref 148), some (.int v1), none] [] w := by
  unfold fX12_hold at hf
  refine x_aload_n G dX12_hold_0 rfl rfl ?_
  refine x_iload_n G dX12_hold_1 rfl rfl ?_
  obtain ⟨v_1, hv_1, hf⟩ := bnd hf
  refine x_virI G (As := [.int v1]) (mX12_carrying G.2.2.2.2.2.2.1 M hv_1) mv_X12_242 (kd148 M) cl12 rfl rfl rfl rfl rfl dX12_hold_2 ?_
  refine x_istore_n G (lv' := [some (.ref 148), some (.int v1), some (.int v_1.1)]) dX12_hold_5 rfl rfl rfl rfl ?_
  refine x_bipush G (v := 50) dX12_hold_6 (by decide) ?_
  refine x_bipush G (v := 40) dX12_hold_8 (by decide) ?_
  refine x_aload_n G dX12_hold_10 rfl rfl ?_
  refine x_iload_n G dX12_hold_11 rfl rfl ?_
  refine x_bipush G (v := 8) dX12_hold_12 (by decide) ?_
  obtain ⟨v_2, hv_2, hf⟩ := bnd hf
  refine x_virI G (As := [.int v1, .int (8 : Int32)]) (mX12_c G.2.2.2.2.2.2.1 M hv_2) mv_X12_117 (kd148 M) cl12 rfl rfl rfl rfl rfl dX12_hold_14 ?_
  refine x_imul G dX12_hold_17 ?_
  refine x_iadd G dX12_hold_18 ?_
  refine x_iload_n G dX12_hold_19 rfl rfl ?_
  refine x_iconst G (v := -1) dX12_hold_20 (by decide) ?_
  refine x_icmpne G (tgt := 28) dX12_hold_21 (by decide) hf (fun c_3 hf => ?_) (fun c_3 hf => ?_)
  · refine x_iconst G (v := 0) dX12_hold_24 (by decide) ?_
    refine x_goto G (tgt := 37) dX12_hold_25 (by decide) ?_
    refine x_iadd G dX12_hold_37 ?_
    exact x_iretW G hf hr dX12_hold_38
  · refine x_bipush G (v := 60) dX12_hold_28 (by decide) ?_
    refine x_aload_n G dX12_hold_30 rfl rfl ?_
    refine x_iload_n G dX12_hold_31 rfl rfl ?_
    refine x_iconst G (v := 1) dX12_hold_32 (by decide) ?_
    obtain ⟨v_4, hv_4, hf⟩ := bnd hf
    refine x_virI G (As := [.int v_1.1, .int (1 : Int32)]) (mX12_l G.2.2.2.2.2.2.1 M hv_4) mv_X12_193 (kd148 M) cl12 rfl rfl rfl rfl rfl dX12_hold_33 ?_
    refine x_imul G dX12_hold_36 ?_
    refine x_iadd G dX12_hold_37 ?_
    exact x_iretW G hf hr dX12_hold_38

theorem mX12_hold {l : Launch} {S : KS} {w : Wd} (hI : Inj S) (M : Main S) {v1 : Int32} {r : Int32 × Wd} (hf : fX12_hold v1 w = some r) : CI l yX12_hold cX12_hold 3 (some .int) 4 S [.ref 148, .int v1] w r.1 r.2 := by
  intro sz
  refine mk_entry rfl (by decide +kernel) hI 1 rfl rfl (fun K h1 h2 h3 h4 h5 h6 G => ?_)
  subst h2
  exact xX12_hold_e G M hf ⟨h3, by rw [h4, h6], h5⟩

