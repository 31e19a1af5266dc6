theorem dX0_init_0 : decode cX0_init 0 = .ok (.aload_n 0, 1) := by decide +kernel
theorem dX0_init_1 : decode cX0_init 1 = .ok (.invokespecial 3, 3) := by decide +kernel
theorem dX0_init_4 : decode cX0_init 4 = .ok (.aload_n 0, 1) := by decide +kernel
theorem dX0_init_5 : decode cX0_init 5 = .ok (.bipush 14, 2) := by decide +kernel
theorem dX0_init_7 : decode cX0_init 7 = .ok (.newarray .int, 2) := by decide +kernel
theorem dX0_init_9 : decode cX0_init 9 = .ok (.putfield 9, 3) := by decide +kernel
theorem dX0_init_12 : decode cX0_init 12 = .ok (.aload_n 0, 1) := by decide +kernel
theorem dX0_init_13 : decode cX0_init 13 = .ok (.bipush 14, 2) := by decide +kernel
theorem dX0_init_15 : decode cX0_init 15 = .ok (.newarray .int, 2) := by decide +kernel
theorem dX0_init_17 : decode cX0_init 17 = .ok (.putfield 15, 3) := by decide +kernel
theorem dX0_init_20 : decode cX0_init 20 = .ok (.aload_n 0, 1) := by decide +kernel
theorem dX0_init_21 : decode cX0_init 21 = .ok (.bipush 14, 2) := by decide +kernel
theorem dX0_init_23 : decode cX0_init 23 = .ok (.newarray .int, 2) := by decide +kernel
theorem dX0_init_25 : decode cX0_init 25 = .ok (.putfield 18, 3) := by decide +kernel
theorem dX0_init_28 : decode cX0_init 28 = .ok (.return_, 1) := by decide +kernel
theorem dX0_clear_0 : decode cX0_clear 0 = .ok (.aload_n 0, 1) := by decide +kernel
theorem dX0_clear_1 : decode cX0_clear 1 = .ok (.iconst 0, 1) := by decide +kernel
theorem dX0_clear_2 : decode cX0_clear 2 = .ok (.putfield 21, 3) := by decide +kernel
theorem dX0_clear_5 : decode cX0_clear 5 = .ok (.return_, 1) := by decide +kernel
theorem dX0_add_0 : decode cX0_add 0 = .ok (.aload_n 0, 1) := by decide +kernel
theorem dX0_add_1 : decode cX0_add 1 = .ok (.getfield 21, 3) := by decide +kernel
theorem dX0_add_4 : decode cX0_add 4 = .ok (.bipush 14, 2) := by decide +kernel
theorem dX0_add_6 : decode cX0_add 6 = .ok (.if_icmp .lt 7, 3) := by decide +kernel
theorem dX0_add_9 : decode cX0_add 9 = .ok (.aload_n 0, 1) := by decide +kernel
theorem dX0_add_10 : decode cX0_add 10 = .ok (.invokevirtual 25, 3) := by decide +kernel
theorem dX0_add_13 : decode cX0_add 13 = .ok (.aload_n 0, 1) := by decide +kernel
theorem dX0_add_14 : decode cX0_add 14 = .ok (.getfield 9, 3) := by decide +kernel
theorem dX0_add_17 : decode cX0_add 17 = .ok (.aload_n 0, 1) := by decide +kernel
theorem dX0_add_18 : decode cX0_add 18 = .ok (.getfield 21, 3) := by decide +kernel
theorem dX0_add_21 : decode cX0_add 21 = .ok (.iload_n 1, 1) := by decide +kernel
theorem dX0_add_22 : decode cX0_add 22 = .ok (.iastore, 1) := by decide +kernel
theorem dX0_add_23 : decode cX0_add 23 = .ok (.aload_n 0, 1) := by decide +kernel
theorem dX0_add_24 : decode cX0_add 24 = .ok (.getfield 15, 3) := by decide +kernel
theorem dX0_add_27 : decode cX0_add 27 = .ok (.aload_n 0, 1) := by decide +kernel
theorem dX0_add_28 : decode cX0_add 28 = .ok (.getfield 21, 3) := by decide +kernel
theorem dX0_add_31 : decode cX0_add 31 = .ok (.iload_n 2, 1) := by decide +kernel
theorem dX0_add_32 : decode cX0_add 32 = .ok (.iastore, 1) := by decide +kernel
theorem dX0_add_33 : decode cX0_add 33 = .ok (.aload_n 0, 1) := by decide +kernel
theorem dX0_add_34 : decode cX0_add 34 = .ok (.getfield 18, 3) := by decide +kernel
theorem dX0_add_37 : decode cX0_add 37 = .ok (.aload_n 0, 1) := by decide +kernel
theorem dX0_add_38 : decode cX0_add 38 = .ok (.getfield 21, 3) := by decide +kernel
theorem dX0_add_41 : decode cX0_add 41 = .ok (.iload_n 3, 1) := by decide +kernel
theorem dX0_add_42 : decode cX0_add 42 = .ok (.iastore, 1) := by decide +kernel
theorem dX0_add_43 : decode cX0_add 43 = .ok (.aload_n 0, 1) := by decide +kernel
theorem dX0_add_44 : decode cX0_add 44 = .ok (.dup, 1) := by decide +kernel
theorem dX0_add_45 : decode cX0_add 45 = .ok (.getfield 21, 3) := by decide +kernel
theorem dX0_add_48 : decode cX0_add 48 = .ok (.iconst 1, 1) := by decide +kernel
theorem dX0_add_49 : decode cX0_add 49 = .ok (.iadd, 1) := by decide +kernel
theorem dX0_add_50 : decode cX0_add 50 = .ok (.putfield 21, 3) := by decide +kernel
theorem dX0_add_53 : decode cX0_add 53 = .ok (.return_, 1) := by decide +kernel
theorem dX0_forgetFirst_0 : decode cX0_forgetFirst 0 = .ok (.aload_n 0, 1) := by decide +kernel
theorem dX0_forgetFirst_1 : decode cX0_forgetFirst 1 = .ok (.bipush 13, 2) := by decide +kernel
theorem dX0_forgetFirst_3 : decode cX0_forgetFirst 3 = .ok (.putfield 21, 3) := by decide +kernel
theorem dX0_forgetFirst_6 : decode cX0_forgetFirst 6 = .ok (.aload_n 0, 1) := by decide +kernel
theorem dX0_forgetFirst_7 : decode cX0_forgetFirst 7 = .ok (.getfield 9, 3) := by decide +kernel
theorem dX0_forgetFirst_10 : decode cX0_forgetFirst 10 = .ok (.iconst 1, 1) := by decide +kernel
theorem dX0_forgetFirst_11 : decode cX0_forgetFirst 11 = .ok (.aload_n 0, 1) := by decide +kernel
theorem dX0_forgetFirst_12 : decode cX0_forgetFirst 12 = .ok (.getfield 9, 3) := by decide +kernel
theorem dX0_forgetFirst_15 : decode cX0_forgetFirst 15 = .ok (.iconst 0, 1) := by decide +kernel
theorem dX0_forgetFirst_16 : decode cX0_forgetFirst 16 = .ok (.aload_n 0, 1) := by decide +kernel
theorem dX0_forgetFirst_17 : decode cX0_forgetFirst 17 = .ok (.getfield 21, 3) := by decide +kernel
theorem dX0_forgetFirst_20 : decode cX0_forgetFirst 20 = .ok (.invokestatic 28, 3) := by decide +kernel
theorem dX0_forgetFirst_23 : decode cX0_forgetFirst 23 = .ok (.aload_n 0, 1) := by decide +kernel
theorem dX0_forgetFirst_24 : decode cX0_forgetFirst 24 = .ok (.getfield 15, 3) := by decide +kernel
theorem dX0_forgetFirst_27 : decode cX0_forgetFirst 27 = .ok (.iconst 1, 1) := by decide +kernel
theorem dX0_forgetFirst_28 : decode cX0_forgetFirst 28 = .ok (.aload_n 0, 1) := by decide +kernel
theorem dX0_forgetFirst_29 : decode cX0_forgetFirst 29 = .ok (.getfield 15, 3) := by decide +kernel
theorem dX0_forgetFirst_32 : decode cX0_forgetFirst 32 = .ok (.iconst 0, 1) := by decide +kernel
theorem dX0_forgetFirst_33 : decode cX0_forgetFirst 33 = .ok (.aload_n 0, 1) := by decide +kernel
theorem dX0_forgetFirst_34 : decode cX0_forgetFirst 34 = .ok (.getfield 21, 3) := by decide +kernel
theorem dX0_forgetFirst_37 : decode cX0_forgetFirst 37 = .ok (.invokestatic 28, 3) := by decide +kernel
theorem dX0_forgetFirst_40 : decode cX0_forgetFirst 40 = .ok (.aload_n 0, 1) := by decide +kernel
theorem dX0_forgetFirst_41 : decode cX0_forgetFirst 41 = .ok (.getfield 18, 3) := by decide +kernel
theorem dX0_forgetFirst_44 : decode cX0_forgetFirst 44 = .ok (.iconst 1, 1) := by decide +kernel
theorem dX0_forgetFirst_45 : decode cX0_forgetFirst 45 = .ok (.aload_n 0, 1) := by decide +kernel
theorem dX0_forgetFirst_46 : decode cX0_forgetFirst 46 = .ok (.getfield 18, 3) := by decide +kernel
theorem dX0_forgetFirst_49 : decode cX0_forgetFirst 49 = .ok (.iconst 0, 1) := by decide +kernel
theorem dX0_forgetFirst_50 : decode cX0_forgetFirst 50 = .ok (.aload_n 0, 1) := by decide +kernel
theorem dX0_forgetFirst_51 : decode cX0_forgetFirst 51 = .ok (.getfield 21, 3) := by decide +kernel
theorem dX0_forgetFirst_54 : decode cX0_forgetFirst 54 = .ok (.invokestatic 28, 3) := by decide +kernel
theorem dX0_forgetFirst_57 : decode cX0_forgetFirst 57 = .ok (.return_, 1) := by decide +kernel
theorem dX0_takeLast_0 : decode cX0_takeLast 0 = .ok (.aload_n 0, 1) := by decide +kernel
theorem dX0_takeLast_1 : decode cX0_takeLast 1 = .ok (.getfield 21, 3) := by decide +kernel
theorem dX0_takeLast_4 : decode cX0_takeLast 4 = .ok (.ifCond .gt 6, 3) := by decide +kernel
theorem dX0_takeLast_7 : decode cX0_takeLast 7 = .ok (.bipush (-9), 2) := by decide +kernel
theorem dX0_takeLast_9 : decode cX0_takeLast 9 = .ok (.ireturn, 1) := by decide +kernel
theorem dX0_takeLast_10 : decode cX0_takeLast 10 = .ok (.aload_n 0, 1) := by decide +kernel
theorem dX0_takeLast_11 : decode cX0_takeLast 11 = .ok (.dup, 1) := by decide +kernel
theorem dX0_takeLast_12 : decode cX0_takeLast 12 = .ok (.getfield 21, 3) := by decide +kernel
theorem dX0_takeLast_15 : decode cX0_takeLast 15 = .ok (.iconst 1, 1) := by decide +kernel
theorem dX0_takeLast_16 : decode cX0_takeLast 16 = .ok (.isub, 1) := by decide +kernel
theorem dX0_takeLast_17 : decode cX0_takeLast 17 = .ok (.putfield 21, 3) := by decide +kernel
theorem dX0_takeLast_20 : decode cX0_takeLast 20 = .ok (.aload_n 0, 1) := by decide +kernel
theorem dX0_takeLast_21 : decode cX0_takeLast 21 = .ok (.getfield 21, 3) := by decide +kernel
theorem dX0_takeLast_24 : decode cX0_takeLast 24 = .ok (.ireturn, 1) := by decide +kernel
theorem dX1_init_0 : decode cX1_init 0 = .ok (.aload_n 0, 1) := by decide +kernel
theorem dX1_init_1 : decode cX1_init 1 = .ok (.invokespecial 3, 3) := by decide +kernel
theorem dX1_init_4 : decode cX1_init 4 = .ok (.aload_n 0, 1) := by decide +kernel
theorem dX1_init_5 : decode cX1_init 5 = .ok (.bipush 100, 2) := by decide +kernel
theorem dX1_init_7 : decode cX1_init 7 = .ok (.newarray .int, 2) := by decide +kernel
theorem dX1_init_9 : decode cX1_init 9 = .ok (.putfield 11, 3) := by decide +kernel
theorem dX1_init_12 : decode cX1_init 12 = .ok (.aload_n 0, 1) := by decide +kernel
theorem dX1_init_13 : decode cX1_init 13 = .ok (.bipush 100, 2) := by decide +kernel
theorem dX1_init_15 : decode cX1_init 15 = .ok (.newarray .int, 2) := by decide +kernel
theorem dX1_init_17 : decode cX1_init 17 = .ok (.putfield 15, 3) := by decide +kernel
theorem dX1_init_20 : decode cX1_init 20 = .ok (.return_, 1) := by decide +kernel
theorem dX1_heightOfFirst_0 : decode cX1_heightOfFirst 0 = .ok (.iload_n 0, 1) := by decide +kernel
theorem dX1_heightOfFirst_1 : decode cX1_heightOfFirst 1 = .ok (.bipush 10, 2) := by decide +kernel
theorem dX1_heightOfFirst_3 : decode cX1_heightOfFirst 3 = .ok (.idiv, 1) := by decide +kernel
theorem dX1_heightOfFirst_4 : decode cX1_heightOfFirst 4 = .ok (.ireturn, 1) := by decide +kernel
theorem dX1_heightOfOther_0 : decode cX1_heightOfOther 0 = .ok (.iload_n 0, 1) := by decide +kernel
theorem dX1_heightOfOther_1 : decode cX1_heightOfOther 1 = .ok (.bipush 10, 2) := by decide +kernel
theorem dX1_heightOfOther_3 : decode cX1_heightOfOther 3 = .ok (.irem, 1) := by decide +kernel
theorem dX1_heightOfOther_4 : decode cX1_heightOfOther 4 = .ok (.ireturn, 1) := by decide +kernel
theorem dX1_put_0 : decode cX1_put 0 = .ok (.iload_n 1, 1) := by decide +kernel
theorem dX1_put_1 : decode cX1_put 1 = .ok (.ifCond .lt 23, 3) := by decide +kernel
theorem dX1_put_4 : decode cX1_put 4 = .ok (.iload_n 1, 1) := by decide +kernel
theorem dX1_put_5 : decode cX1_put 5 = .ok (.bipush 100, 2) := by decide +kernel
theorem dX1_put_7 : decode cX1_put 7 = .ok (.if_icmp .ge 17, 3) := by decide +kernel
theorem dX1_put_10 : decode cX1_put 10 = .ok (.aload_n 0, 1) := by decide +kernel
theorem dX1_put_11 : decode cX1_put 11 = .ok (.getfield 11, 3) := by decide +kernel
theorem dX1_put_14 : decode cX1_put 14 = .ok (.iload_n 1, 1) := by decide +kernel
theorem dX1_put_15 : decode cX1_put 15 = .ok (.iload_n 2, 1) := by decide +kernel
theorem dX1_put_16 : decode cX1_put 16 = .ok (.iastore, 1) := by decide +kernel
theorem dX1_put_17 : decode cX1_put 17 = .ok (.aload_n 0, 1) := by decide +kernel
theorem dX1_put_18 : decode cX1_put 18 = .ok (.getfield 15, 3) := by decide +kernel
theorem dX1_put_21 : decode cX1_put 21 = .ok (.iload_n 1, 1) := by decide +kernel
theorem dX1_put_22 : decode cX1_put 22 = .ok (.iload_n 3, 1) := by decide +kernel
theorem dX1_put_23 : decode cX1_put 23 = .ok (.iastore, 1) := by decide +kernel
theorem dX1_put_24 : decode cX1_put 24 = .ok (.return_, 1) := by decide +kernel
theorem dX1_isAtRest_0 : decode cX1_isAtRest 0 = .ok (.iload_n 1, 1) := by decide +kernel
theorem dX1_isAtRest_1 : decode cX1_isAtRest 1 = .ok (.ifCond .lt 9, 3) := by decide +kernel
theorem dX1_isAtRest_4 : decode cX1_isAtRest 4 = .ok (.iload_n 1, 1) := by decide +kernel
theorem dX1_isAtRest_5 : decode cX1_isAtRest 5 = .ok (.bipush 100, 2) := by decide +kernel
theorem dX1_isAtRest_7 : decode cX1_isAtRest 7 = .ok (.if_icmp .lt 5, 3) := by decide +kernel
theorem dX1_isAtRest_10 : decode cX1_isAtRest 10 = .ok (.iconst 0, 1) := by decide +kernel
theorem dX1_isAtRest_11 : decode cX1_isAtRest 11 = .ok (.ireturn, 1) := by decide +kernel
theorem dX1_isAtRest_12 : decode cX1_isAtRest 12 = .ok (.iconst 0, 1) := by decide +kernel
theorem dX1_isAtRest_13 : decode cX1_isAtRest 13 = .ok (.istore_n 2, 1) := by decide +kernel
theorem dX1_isAtRest_14 : decode cX1_isAtRest 14 = .ok (.iload_n 2, 1) := by decide +kernel
theorem dX1_isAtRest_15 : decode cX1_isAtRest 15 = .ok (.bipush 10, 2) := by decide +kernel
theorem dX1_isAtRest_17 : decode cX1_isAtRest 17 = .ok (.if_icmp .ge 63, 3) := by decide +kernel
theorem dX1_isAtRest_20 : decode cX1_isAtRest 20 = .ok (.iload_n 2, 1) := by decide +kernel
theorem dX1_isAtRest_21 : decode cX1_isAtRest 21 = .ok (.bipush 10, 2) := by decide +kernel
theorem dX1_isAtRest_23 : decode cX1_isAtRest 23 = .ok (.imul, 1) := by decide +kernel
theorem dX1_isAtRest_24 : decode cX1_isAtRest 24 = .ok (.iload_n 1, 1) := by decide +kernel
theorem dX1_isAtRest_25 : decode cX1_isAtRest 25 = .ok (.invokestatic 18, 3) := by decide +kernel
theorem dX1_isAtRest_28 : decode cX1_isAtRest 28 = .ok (.iadd, 1) := by decide +kernel
theorem dX1_isAtRest_29 : decode cX1_isAtRest 29 = .ok (.istore_n 3, 1) := by decide +kernel
theorem dX1_isAtRest_30 : decode cX1_isAtRest 30 = .ok (.iload_n 1, 1) := by decide +kernel
theorem dX1_isAtRest_31 : decode cX1_isAtRest 31 = .ok (.invokestatic 22, 3) := by decide +kernel
theorem dX1_isAtRest_34 : decode cX1_isAtRest 34 = .ok (.bipush 10, 2) := by decide +kernel
theorem dX1_isAtRest_36 : decode cX1_isAtRest 36 = .ok (.imul, 1) := by decide +kernel
theorem dX1_isAtRest_37 : decode cX1_isAtRest 37 = .ok (.iload_n 2, 1) := by decide +kernel
theorem dX1_isAtRest_38 : decode cX1_isAtRest 38 = .ok (.iadd, 1) := by decide +kernel
theorem dX1_isAtRest_39 : decode cX1_isAtRest 39 = .ok (.istore 4, 2) := by decide +kernel
theorem dX1_isAtRest_41 : decode cX1_isAtRest 41 = .ok (.aload_n 0, 1) := by decide +kernel
theorem dX1_isAtRest_42 : decode cX1_isAtRest 42 = .ok (.getfield 11, 3) := by decide +kernel
theorem dX1_isAtRest_45 : decode cX1_isAtRest 45 = .ok (.iload_n 3, 1) := by decide +kernel
theorem dX1_isAtRest_46 : decode cX1_isAtRest 46 = .ok (.iaload, 1) := by decide +kernel
theorem dX1_isAtRest_47 : decode cX1_isAtRest 47 = .ok (.aload_n 0, 1) := by decide +kernel
theorem dX1_isAtRest_48 : decode cX1_isAtRest 48 = .ok (.getfield 11, 3) := by decide +kernel
theorem dX1_isAtRest_51 : decode cX1_isAtRest 51 = .ok (.iload_n 1, 1) := by decide +kernel
theorem dX1_isAtRest_52 : decode cX1_isAtRest 52 = .ok (.iaload, 1) := by decide +kernel
theorem dX1_isAtRest_53 : decode cX1_isAtRest 53 = .ok (.if_icmp .gt 19, 3) := by decide +kernel
theorem dX1_isAtRest_56 : decode cX1_isAtRest 56 = .ok (.aload_n 0, 1) := by decide +kernel
theorem dX1_isAtRest_57 : decode cX1_isAtRest 57 = .ok (.getfield 15, 3) := by decide +kernel
theorem dX1_isAtRest_60 : decode cX1_isAtRest 60 = .ok (.iload 4, 2) := by decide +kernel
theorem dX1_isAtRest_62 : decode cX1_isAtRest 62 = .ok (.iaload, 1) := by decide +kernel
theorem dX1_isAtRest_63 : decode cX1_isAtRest 63 = .ok (.aload_n 0, 1) := by decide +kernel
theorem dX1_isAtRest_64 : decode cX1_isAtRest 64 = .ok (.getfield 15, 3) := by decide +kernel
theorem dX1_isAtRest_67 : decode cX1_isAtRest 67 = .ok (.iload_n 1, 1) := by decide +kernel
theorem dX1_isAtRest_68 : decode cX1_isAtRest 68 = .ok (.iaload, 1) := by decide +kernel
theorem dX1_isAtRest_69 : decode cX1_isAtRest 69 = .ok (.if_icmp .le 5, 3) := by decide +kernel
theorem dX1_isAtRest_72 : decode cX1_isAtRest 72 = .ok (.iconst 0, 1) := by decide +kernel
theorem dX1_isAtRest_73 : decode cX1_isAtRest 73 = .ok (.ireturn, 1) := by decide +kernel
theorem dX1_isAtRest_74 : decode cX1_isAtRest 74 = .ok (.iinc 2 1, 3) := by decide +kernel
theorem dX1_isAtRest_77 : decode cX1_isAtRest 77 = .ok (.goto (-63), 3) := by decide +kernel
theorem dX1_isAtRest_80 : decode cX1_isAtRest 80 = .ok (.iconst 1, 1) := by decide +kernel
theorem dX1_isAtRest_81 : decode cX1_isAtRest 81 = .ok (.ireturn, 1) := by decide +kernel
theorem dX1_pairsAtRest_0 : decode cX1_pairsAtRest 0 = .ok (.iconst 0, 1) := by decide +kernel
theorem dX1_pairsAtRest_1 : decode cX1_pairsAtRest 1 = .ok (.istore_n 1, 1) := by decide +kernel
theorem dX1_pairsAtRest_2 : decode cX1_pairsAtRest 2 = .ok (.iconst 0, 1) := by decide +kernel
theorem dX1_pairsAtRest_3 : decode cX1_pairsAtRest 3 = .ok (.istore_n 2, 1) := by decide +kernel
theorem dX1_pairsAtRest_4 : decode cX1_pairsAtRest 4 = .ok (.iload_n 2, 1) := by decide +kernel
theorem dX1_pairsAtRest_5 : decode cX1_pairsAtRest 5 = .ok (.bipush 100, 2) := by decide +kernel
theorem dX1_pairsAtRest_7 : decode cX1_pairsAtRest 7 = .ok (.if_icmp .ge 20, 3) := by decide +kernel
theorem dX1_pairsAtRest_10 : decode cX1_pairsAtRest 10 = .ok (.aload_n 0, 1) := by decide +kernel
theorem dX1_pairsAtRest_11 : decode cX1_pairsAtRest 11 = .ok (.iload_n 2, 1) := by decide +kernel
theorem dX1_pairsAtRest_12 : decode cX1_pairsAtRest 12 = .ok (.invokevirtual 25, 3) := by decide +kernel
theorem dX1_pairsAtRest_15 : decode cX1_pairsAtRest 15 = .ok (.ifCond .eq 6, 3) := by decide +kernel
theorem dX1_pairsAtRest_18 : decode cX1_pairsAtRest 18 = .ok (.iinc 1 1, 3) := by decide +kernel
theorem dX1_pairsAtRest_21 : decode cX1_pairsAtRest 21 = .ok (.iinc 2 1, 3) := by decide +kernel
theorem dX1_pairsAtRest_24 : decode cX1_pairsAtRest 24 = .ok (.goto (-20), 3) := by decide +kernel
theorem dX1_pairsAtRest_27 : decode cX1_pairsAtRest 27 = .ok (.iload_n 1, 1) := by decide +kernel
theorem dX1_pairsAtRest_28 : decode cX1_pairsAtRest 28 = .ok (.ireturn, 1) := by decide +kernel
theorem dX1_firstAtRest_0 : decode cX1_firstAtRest 0 = .ok (.iconst 0, 1) := by decide +kernel
theorem dX1_firstAtRest_1 : decode cX1_firstAtRest 1 = .ok (.istore_n 1, 1) := by decide +kernel
theorem dX1_firstAtRest_2 : decode cX1_firstAtRest 2 = .ok (.iload_n 1, 1) := by decide +kernel
theorem dX1_firstAtRest_3 : decode cX1_firstAtRest 3 = .ok (.bipush 100, 2) := by decide +kernel
theorem dX1_firstAtRest_5 : decode cX1_firstAtRest 5 = .ok (.if_icmp .ge 19, 3) := by decide +kernel
theorem dX1_firstAtRest_8 : decode cX1_firstAtRest 8 = .ok (.aload_n 0, 1) := by decide +kernel
theorem dX1_firstAtRest_9 : decode cX1_firstAtRest 9 = .ok (.iload_n 1, 1) := by decide +kernel
theorem dX1_firstAtRest_10 : decode cX1_firstAtRest 10 = .ok (.invokevirtual 25, 3) := by decide +kernel
theorem dX1_firstAtRest_13 : decode cX1_firstAtRest 13 = .ok (.ifCond .eq 5, 3) := by decide +kernel
theorem dX1_firstAtRest_16 : decode cX1_firstAtRest 16 = .ok (.iload_n 1, 1) := by decide +kernel
theorem dX1_firstAtRest_17 : decode cX1_firstAtRest 17 = .ok (.ireturn, 1) := by decide +kernel
theorem dX1_firstAtRest_18 : decode cX1_firstAtRest 18 = .ok (.iinc 1 1, 3) := by decide +kernel
theorem dX1_firstAtRest_21 : decode cX1_firstAtRest 21 = .ok (.goto (-19), 3) := by decide +kernel
theorem dX1_firstAtRest_24 : decode cX1_firstAtRest 24 = .ok (.bipush (-9), 2) := by decide +kernel
theorem dX1_firstAtRest_26 : decode cX1_firstAtRest 26 = .ok (.ireturn, 1) := by decide +kernel
theorem dX2_init_0 : decode cX2_init 0 = .ok (.aload_n 0, 1) := by decide +kernel
theorem dX2_init_1 : decode cX2_init 1 = .ok (.invokespecial 3, 3) := by decide +kernel
theorem dX2_init_4 : decode cX2_init 4 = .ok (.aload_n 0, 1) := by decide +kernel
theorem dX2_init_5 : decode cX2_init 5 = .ok (.iconst 5, 1) := by decide +kernel
theorem dX2_init_6 : decode cX2_init 6 = .ok (.newarray .int, 2) := by decide +kernel
theorem dX2_init_8 : decode cX2_init 8 = .ok (.putfield 9, 3) := by decide +kernel
theorem dX2_init_11 : decode cX2_init 11 = .ok (.aload_n 0, 1) := by decide +kernel
theorem dX2_init_12 : decode cX2_init 12 = .ok (.iconst 5, 1) := by decide +kernel
theorem dX2_init_13 : decode cX2_init 13 = .ok (.newarray .int, 2) := by decide +kernel
theorem dX2_init_15 : decode cX2_init 15 = .ok (.putfield 15, 3) := by decide +kernel
theorem dX2_init_18 : decode cX2_init 18 = .ok (.aload_n 0, 1) := by decide +kernel
theorem dX2_init_19 : decode cX2_init 19 = .ok (.bipush 10, 2) := by decide +kernel
theorem dX2_init_21 : decode cX2_init 21 = .ok (.newarray .int, 2) := by decide +kernel
theorem dX2_init_23 : decode cX2_init 23 = .ok (.putfield 18, 3) := by decide +kernel
theorem dX2_init_26 : decode cX2_init 26 = .ok (.return_, 1) := by decide +kernel
theorem dX2_survey_0 : decode cX2_survey 0 = .ok (.iconst 0, 1) := by decide +kernel
theorem dX2_survey_1 : decode cX2_survey 1 = .ok (.istore 4, 2) := by decide +kernel
theorem dX2_survey_3 : decode cX2_survey 3 = .ok (.iload 4, 2) := by decide +kernel
theorem dX2_survey_5 : decode cX2_survey 5 = .ok (.iconst 5, 1) := by decide +kernel
theorem dX2_survey_6 : decode cX2_survey 6 = .ok (.if_icmp .ge 71, 3) := by decide +kernel
theorem dX2_survey_9 : decode cX2_survey 9 = .ok (.iload_n 2, 1) := by decide +kernel
theorem dX2_survey_10 : decode cX2_survey 10 = .ok (.iload 4, 2) := by decide +kernel
theorem dX2_survey_12 : decode cX2_survey 12 = .ok (.ishr, 1) := by decide +kernel
theorem dX2_survey_13 : decode cX2_survey 13 = .ok (.iconst 1, 1) := by decide +kernel
theorem dX2_survey_14 : decode cX2_survey 14 = .ok (.iand, 1) := by decide +kernel
theorem dX2_survey_15 : decode cX2_survey 15 = .ok (.ifCond .eq 7, 3) := by decide +kernel
theorem dX2_survey_18 : decode cX2_survey 18 = .ok (.iconst 1, 1) := by decide +kernel
theorem dX2_survey_19 : decode cX2_survey 19 = .ok (.goto 4, 3) := by decide +kernel
theorem dX2_survey_22 : decode cX2_survey 22 = .ok (.iconst 0, 1) := by decide +kernel
theorem dX2_survey_23 : decode cX2_survey 23 = .ok (.istore 5, 2) := by decide +kernel
theorem dX2_survey_25 : decode cX2_survey 25 = .ok (.aload_n 0, 1) := by decide +kernel
theorem dX2_survey_26 : decode cX2_survey 26 = .ok (.getfield 9, 3) := by decide +kernel
theorem dX2_survey_29 : decode cX2_survey 29 = .ok (.iload 4, 2) := by decide +kernel
theorem dX2_survey_31 : decode cX2_survey 31 = .ok (.iload 5, 2) := by decide +kernel
theorem dX2_survey_33 : decode cX2_survey 33 = .ok (.ifCond .eq 13, 3) := by decide +kernel
theorem dX2_survey_36 : decode cX2_survey 36 = .ok (.aload_n 1, 1) := by decide +kernel
theorem dX2_survey_37 : decode cX2_survey 37 = .ok (.iload 4, 2) := by decide +kernel
theorem dX2_survey_39 : decode cX2_survey 39 = .ok (.iload_n 2, 1) := by decide +kernel
theorem dX2_survey_40 : decode cX2_survey 40 = .ok (.invokevirtual 21, 3) := by decide +kernel
theorem dX2_survey_43 : decode cX2_survey 43 = .ok (.goto 4, 3) := by decide +kernel
theorem dX2_survey_46 : decode cX2_survey 46 = .ok (.iconst 0, 1) := by decide +kernel
theorem dX2_survey_47 : decode cX2_survey 47 = .ok (.iastore, 1) := by decide +kernel
theorem dX2_survey_48 : decode cX2_survey 48 = .ok (.aload_n 0, 1) := by decide +kernel
theorem dX2_survey_49 : decode cX2_survey 49 = .ok (.getfield 15, 3) := by decide +kernel
theorem dX2_survey_52 : decode cX2_survey 52 = .ok (.iload 4, 2) := by decide +kernel
theorem dX2_survey_54 : decode cX2_survey 54 = .ok (.iload 5, 2) := by decide +kernel
theorem dX2_survey_56 : decode cX2_survey 56 = .ok (.ifCond .eq 13, 3) := by decide +kernel
theorem dX2_survey_59 : decode cX2_survey 59 = .ok (.aload_n 1, 1) := by decide +kernel
theorem dX2_survey_60 : decode cX2_survey 60 = .ok (.iload 4, 2) := by decide +kernel
theorem dX2_survey_62 : decode cX2_survey 62 = .ok (.iload_n 2, 1) := by decide +kernel
theorem dX2_survey_63 : decode cX2_survey 63 = .ok (.invokevirtual 27, 3) := by decide +kernel
theorem dX2_survey_66 : decode cX2_survey 66 = .ok (.goto 4, 3) := by decide +kernel
theorem dX2_survey_69 : decode cX2_survey 69 = .ok (.iconst 0, 1) := by decide +kernel
theorem dX2_survey_70 : decode cX2_survey 70 = .ok (.iastore, 1) := by decide +kernel
theorem dX2_survey_71 : decode cX2_survey 71 = .ok (.iinc 4 1, 3) := by decide +kernel
theorem dX2_survey_74 : decode cX2_survey 74 = .ok (.goto (-71), 3) := by decide +kernel
theorem dX2_survey_77 : decode cX2_survey 77 = .ok (.iconst 0, 1) := by decide +kernel
theorem dX2_survey_78 : decode cX2_survey 78 = .ok (.istore 4, 2) := by decide +kernel
theorem dX2_survey_80 : decode cX2_survey 80 = .ok (.iload 4, 2) := by decide +kernel
theorem dX2_survey_82 : decode cX2_survey 82 = .ok (.bipush 10, 2) := by decide +kernel
theorem dX2_survey_84 : decode cX2_survey 84 = .ok (.if_icmp .ge 24, 3) := by decide +kernel
theorem dX2_survey_87 : decode cX2_survey 87 = .ok (.aload_n 0, 1) := by decide +kernel
theorem dX2_survey_88 : decode cX2_survey 88 = .ok (.getfield 18, 3) := by decide +kernel
theorem dX2_survey_91 : decode cX2_survey 91 = .ok (.iload 4, 2) := by decide +kernel
theorem dX2_survey_93 : decode cX2_survey 93 = .ok (.aload_n 0, 1) := by decide +kernel
theorem dX2_survey_94 : decode cX2_survey 94 = .ok (.aload_n 1, 1) := by decide +kernel
theorem dX2_survey_95 : decode cX2_survey 95 = .ok (.iload_n 3, 1) := by decide +kernel
theorem dX2_survey_96 : decode cX2_survey 96 = .ok (.iload 4, 2) := by decide +kernel
theorem dX2_survey_98 : decode cX2_survey 98 = .ok (.invokevirtual 30, 3) := by decide +kernel
theorem dX2_survey_101 : decode cX2_survey 101 = .ok (.iastore, 1) := by decide +kernel
theorem dX2_survey_102 : decode cX2_survey 102 = .ok (.iinc 4 1, 3) := by decide +kernel
theorem dX2_survey_105 : decode cX2_survey 105 = .ok (.goto (-25), 3) := by decide +kernel
theorem dX2_survey_108 : decode cX2_survey 108 = .ok (.return_, 1) := by decide +kernel
theorem dX2_holderByLaw_0 : decode cX2_holderByLaw 0 = .ok (.bipush (-9), 2) := by decide +kernel
theorem dX2_holderByLaw_2 : decode cX2_holderByLaw 2 = .ok (.istore 4, 2) := by decide +kernel
theorem dX2_holderByLaw_4 : decode cX2_holderByLaw 4 = .ok (.iconst 0, 1) := by decide +kernel
theorem dX2_holderByLaw_5 : decode cX2_holderByLaw 5 = .ok (.istore 5, 2) := by decide +kernel
theorem dX2_holderByLaw_7 : decode cX2_holderByLaw 7 = .ok (.iload 5, 2) := by decide +kernel
theorem dX2_holderByLaw_9 : decode cX2_holderByLaw 9 = .ok (.iconst 5, 1) := by decide +kernel
theorem dX2_holderByLaw_10 : decode cX2_holderByLaw 10 = .ok (.if_icmp .ge 59, 3) := by decide +kernel
theorem dX2_holderByLaw_13 : decode cX2_holderByLaw 13 = .ok (.aload_n 0, 1) := by decide +kernel
theorem dX2_holderByLaw_14 : decode cX2_holderByLaw 14 = .ok (.getfield 9, 3) := by decide +kernel
theorem dX2_holderByLaw_17 : decode cX2_holderByLaw 17 = .ok (.iload 5, 2) := by decide +kernel
theorem dX2_holderByLaw_19 : decode cX2_holderByLaw 19 = .ok (.iaload, 1) := by decide +kernel
theorem dX2_holderByLaw_20 : decode cX2_holderByLaw 20 = .ok (.iload_n 3, 1) := by decide +kernel
theorem dX2_holderByLaw_21 : decode cX2_holderByLaw 21 = .ok (.ishr, 1) := by decide +kernel
theorem dX2_holderByLaw_22 : decode cX2_holderByLaw 22 = .ok (.iconst 1, 1) := by decide +kernel
theorem dX2_holderByLaw_23 : decode cX2_holderByLaw 23 = .ok (.iand, 1) := by decide +kernel
theorem dX2_holderByLaw_24 : decode cX2_holderByLaw 24 = .ok (.ifCond .eq 7, 3) := by decide +kernel
theorem dX2_holderByLaw_27 : decode cX2_holderByLaw 27 = .ok (.iconst 1, 1) := by decide +kernel
theorem dX2_holderByLaw_28 : decode cX2_holderByLaw 28 = .ok (.goto 4, 3) := by decide +kernel
theorem dX2_holderByLaw_31 : decode cX2_holderByLaw 31 = .ok (.iconst 0, 1) := by decide +kernel
theorem dX2_holderByLaw_32 : decode cX2_holderByLaw 32 = .ok (.istore 6, 2) := by decide +kernel
theorem dX2_holderByLaw_34 : decode cX2_holderByLaw 34 = .ok (.iload 6, 2) := by decide +kernel
theorem dX2_holderByLaw_36 : decode cX2_holderByLaw 36 = .ok (.ifCond .eq 27, 3) := by decide +kernel
theorem dX2_holderByLaw_39 : decode cX2_holderByLaw 39 = .ok (.iload 4, 2) := by decide +kernel
theorem dX2_holderByLaw_41 : decode cX2_holderByLaw 41 = .ok (.bipush (-9), 2) := by decide +kernel
theorem dX2_holderByLaw_43 : decode cX2_holderByLaw 43 = .ok (.if_icmp .eq 16, 3) := by decide +kernel
theorem dX2_holderByLaw_46 : decode cX2_holderByLaw 46 = .ok (.aload_n 1, 1) := by decide +kernel
theorem dX2_holderByLaw_47 : decode cX2_holderByLaw 47 = .ok (.iload 5, 2) := by decide +kernel
theorem dX2_holderByLaw_49 : decode cX2_holderByLaw 49 = .ok (.iload 4, 2) := by decide +kernel
theorem dX2_holderByLaw_51 : decode cX2_holderByLaw 51 = .ok (.iload_n 2, 1) := by decide +kernel
theorem dX2_holderByLaw_52 : decode cX2_holderByLaw 52 = .ok (.iload_n 3, 1) := by decide +kernel
theorem dX2_holderByLaw_53 : decode cX2_holderByLaw 53 = .ok (.invokevirtual 34, 3) := by decide +kernel
theorem dX2_holderByLaw_56 : decode cX2_holderByLaw 56 = .ok (.ifCond .eq 7, 3) := by decide +kernel
theorem dX2_holderByLaw_59 : decode cX2_holderByLaw 59 = .ok (.iload 5, 2) := by decide +kernel
theorem dX2_holderByLaw_61 : decode cX2_holderByLaw 61 = .ok (.istore 4, 2) := by decide +kernel
theorem dX2_holderByLaw_63 : decode cX2_holderByLaw 63 = .ok (.iinc 5 1, 3) := by decide +kernel
theorem dX2_holderByLaw_66 : decode cX2_holderByLaw 66 = .ok (.goto (-59), 3) := by decide +kernel
theorem dX2_holderByLaw_69 : decode cX2_holderByLaw 69 = .ok (.iload 4, 2) := by decide +kernel
theorem dX2_holderByLaw_71 : decode cX2_holderByLaw 71 = .ok (.ireturn, 1) := by decide +kernel
theorem dX2_cellsSeenBy_0 : decode cX2_cellsSeenBy 0 = .ok (.iconst 0, 1) := by decide +kernel
theorem dX2_cellsSeenBy_1 : decode cX2_cellsSeenBy 1 = .ok (.istore_n 2, 1) := by decide +kernel
theorem dX2_cellsSeenBy_2 : decode cX2_cellsSeenBy 2 = .ok (.iconst 0, 1) := by decide +kernel
theorem dX2_cellsSeenBy_3 : decode cX2_cellsSeenBy 3 = .ok (.istore_n 3, 1) := by decide +kernel
theorem dX2_cellsSeenBy_4 : decode cX2_cellsSeenBy 4 = .ok (.iload_n 3, 1) := by decide +kernel
theorem dX2_cellsSeenBy_5 : decode cX2_cellsSeenBy 5 = .ok (.iconst 5, 1) := by decide +kernel
theorem dX2_cellsSeenBy_6 : decode cX2_cellsSeenBy 6 = .ok (.if_icmp .ge 26, 3) := by decide +kernel
theorem dX2_cellsSeenBy_9 : decode cX2_cellsSeenBy 9 = .ok (.iload_n 1, 1) := by decide +kernel
theorem dX2_cellsSeenBy_10 : decode cX2_cellsSeenBy 10 = .ok (.iload_n 3, 1) := by decide +kernel
theorem dX2_cellsSeenBy_11 : decode cX2_cellsSeenBy 11 = .ok (.ishr, 1) := by decide +kernel
theorem dX2_cellsSeenBy_12 : decode cX2_cellsSeenBy 12 = .ok (.iconst 1, 1) := by decide +kernel
theorem dX2_cellsSeenBy_13 : decode cX2_cellsSeenBy 13 = .ok (.iand, 1) := by decide +kernel
theorem dX2_cellsSeenBy_14 : decode cX2_cellsSeenBy 14 = .ok (.ifCond .eq 12, 3) := by decide +kernel
theorem dX2_cellsSeenBy_17 : decode cX2_cellsSeenBy 17 = .ok (.iload_n 2, 1) := by decide +kernel
theorem dX2_cellsSeenBy_18 : decode cX2_cellsSeenBy 18 = .ok (.aload_n 0, 1) := by decide +kernel
theorem dX2_cellsSeenBy_19 : decode cX2_cellsSeenBy 19 = .ok (.getfield 9, 3) := by decide +kernel
theorem dX2_cellsSeenBy_22 : decode cX2_cellsSeenBy 22 = .ok (.iload_n 3, 1) := by decide +kernel
theorem dX2_cellsSeenBy_23 : decode cX2_cellsSeenBy 23 = .ok (.iaload, 1) := by decide +kernel
theorem dX2_cellsSeenBy_24 : decode cX2_cellsSeenBy 24 = .ok (.ior, 1) := by decide +kernel
theorem dX2_cellsSeenBy_25 : decode cX2_cellsSeenBy 25 = .ok (.istore_n 2, 1) := by decide +kernel
theorem dX2_cellsSeenBy_26 : decode cX2_cellsSeenBy 26 = .ok (.iinc 3 1, 3) := by decide +kernel
theorem dX2_cellsSeenBy_29 : decode cX2_cellsSeenBy 29 = .ok (.goto (-25), 3) := by decide +kernel
theorem dX2_cellsSeenBy_32 : decode cX2_cellsSeenBy 32 = .ok (.iload_n 2, 1) := by decide +kernel
theorem dX2_cellsSeenBy_33 : decode cX2_cellsSeenBy 33 = .ok (.ireturn, 1) := by decide +kernel
theorem dX2_holderOver_0 : decode cX2_holderOver 0 = .ok (.iload_n 1, 1) := by decide +kernel
theorem dX2_holderOver_1 : decode cX2_holderOver 1 = .ok (.ifCond .lt 18, 3) := by decide +kernel
theorem dX2_holderOver_4 : decode cX2_holderOver 4 = .ok (.iload_n 1, 1) := by decide +kernel
theorem dX2_holderOver_5 : decode cX2_holderOver 5 = .ok (.bipush 10, 2) := by decide +kernel
theorem dX2_holderOver_7 : decode cX2_holderOver 7 = .ok (.if_icmp .ge 12, 3) := by decide +kernel
theorem dX2_holderOver_10 : decode cX2_holderOver 10 = .ok (.aload_n 0, 1) := by decide +kernel
theorem dX2_holderOver_11 : decode cX2_holderOver 11 = .ok (.getfield 18, 3) := by decide +kernel
theorem dX2_holderOver_14 : decode cX2_holderOver 14 = .ok (.iload_n 1, 1) := by decide +kernel
theorem dX2_holderOver_15 : decode cX2_holderOver 15 = .ok (.iaload, 1) := by decide +kernel
theorem dX2_holderOver_16 : decode cX2_holderOver 16 = .ok (.goto 5, 3) := by decide +kernel
theorem dX2_holderOver_19 : decode cX2_holderOver 19 = .ok (.bipush (-9), 2) := by decide +kernel
theorem dX2_holderOver_21 : decode cX2_holderOver 21 = .ok (.ireturn, 1) := by decide +kernel
theorem dX2_holders_0 : decode cX2_holders 0 = .ok (.iconst 0, 1) := by decide +kernel
theorem dX2_holders_1 : decode cX2_holders 1 = .ok (.istore 4, 2) := by decide +kernel
theorem dX2_holders_3 : decode cX2_holders 3 = .ok (.iconst 0, 1) := by decide +kernel
theorem dX2_holders_4 : decode cX2_holders 4 = .ok (.istore 5, 2) := by decide +kernel
theorem dX2_holders_6 : decode cX2_holders 6 = .ok (.iload 5, 2) := by decide +kernel
theorem dX2_holders_8 : decode cX2_holders 8 = .ok (.aload_n 1, 1) := by decide +kernel
theorem dX2_holders_9 : decode cX2_holders 9 = .ok (.getfield 38, 3) := by decide +kernel
theorem dX2_holders_12 : decode cX2_holders 12 = .ok (.if_icmp .ge 60, 3) := by decide +kernel
theorem dX2_holders_15 : decode cX2_holders 15 = .ok (.iconst 0, 1) := by decide +kernel
theorem dX2_holders_16 : decode cX2_holders 16 = .ok (.istore 6, 2) := by decide +kernel
theorem dX2_holders_18 : decode cX2_holders 18 = .ok (.iload 6, 2) := by decide +kernel
theorem dX2_holders_20 : decode cX2_holders 20 = .ok (.iload_n 3, 1) := by decide +kernel
theorem dX2_holders_21 : decode cX2_holders 21 = .ok (.if_icmp .ge 45, 3) := by decide +kernel
theorem dX2_holders_24 : decode cX2_holders 24 = .ok (.aload_n 0, 1) := by decide +kernel
theorem dX2_holders_25 : decode cX2_holders 25 = .ok (.aload_n 1, 1) := by decide +kernel
theorem dX2_holders_26 : decode cX2_holders 26 = .ok (.iload 5, 2) := by decide +kernel
theorem dX2_holders_28 : decode cX2_holders 28 = .ok (.iload_n 2, 1) := by decide +kernel
theorem dX2_holders_29 : decode cX2_holders 29 = .ok (.iload 6, 2) := by decide +kernel
theorem dX2_holders_31 : decode cX2_holders 31 = .ok (.iadd, 1) := by decide +kernel
theorem dX2_holders_32 : decode cX2_holders 32 = .ok (.invokevirtual 44, 3) := by decide +kernel
theorem dX2_holders_35 : decode cX2_holders 35 = .ok (.invokevirtual 47, 3) := by decide +kernel
theorem dX2_holders_38 : decode cX2_holders 38 = .ok (.istore 7, 2) := by decide +kernel
theorem dX2_holders_40 : decode cX2_holders 40 = .ok (.iload 4, 2) := by decide +kernel
theorem dX2_holders_42 : decode cX2_holders 42 = .ok (.iload 7, 2) := by decide +kernel
theorem dX2_holders_44 : decode cX2_holders 44 = .ok (.bipush (-9), 2) := by decide +kernel
theorem dX2_holders_46 : decode cX2_holders 46 = .ok (.if_icmp .ne 7, 3) := by decide +kernel
theorem dX2_holders_49 : decode cX2_holders 49 = .ok (.iconst 0, 1) := by decide +kernel
theorem dX2_holders_50 : decode cX2_holders 50 = .ok (.goto 7, 3) := by decide +kernel
theorem dX2_holders_53 : decode cX2_holders 53 = .ok (.iconst 1, 1) := by decide +kernel
theorem dX2_holders_54 : decode cX2_holders 54 = .ok (.iload 7, 2) := by decide +kernel
theorem dX2_holders_56 : decode cX2_holders 56 = .ok (.ishl, 1) := by decide +kernel
theorem dX2_holders_57 : decode cX2_holders 57 = .ok (.ior, 1) := by decide +kernel
theorem dX2_holders_58 : decode cX2_holders 58 = .ok (.istore 4, 2) := by decide +kernel
theorem dX2_holders_60 : decode cX2_holders 60 = .ok (.iinc 6 1, 3) := by decide +kernel
theorem dX2_holders_63 : decode cX2_holders 63 = .ok (.goto (-45), 3) := by decide +kernel
theorem dX2_holders_66 : decode cX2_holders 66 = .ok (.iinc 5 1, 3) := by decide +kernel
theorem dX2_holders_69 : decode cX2_holders 69 = .ok (.goto (-63), 3) := by decide +kernel
theorem dX2_holders_72 : decode cX2_holders 72 = .ok (.iload 4, 2) := by decide +kernel
theorem dX2_holders_74 : decode cX2_holders 74 = .ok (.ireturn, 1) := by decide +kernel
theorem dX2_payOf_0 : decode cX2_payOf 0 = .ok (.aload_n 0, 1) := by decide +kernel
theorem dX2_payOf_1 : decode cX2_payOf 1 = .ok (.aload_n 0, 1) := by decide +kernel
theorem dX2_payOf_2 : decode cX2_payOf 2 = .ok (.aload_n 1, 1) := by decide +kernel
theorem dX2_payOf_3 : decode cX2_payOf 3 = .ok (.iload_n 2, 1) := by decide +kernel
theorem dX2_payOf_4 : decode cX2_payOf 4 = .ok (.iload_n 3, 1) := by decide +kernel
theorem dX2_payOf_5 : decode cX2_payOf 5 = .ok (.invokevirtual 44, 3) := by decide +kernel
theorem dX2_payOf_8 : decode cX2_payOf 8 = .ok (.invokevirtual 47, 3) := by decide +kernel
theorem dX2_payOf_11 : decode cX2_payOf 11 = .ok (.aload_n 1, 1) := by decide +kernel
theorem dX2_payOf_12 : decode cX2_payOf 12 = .ok (.iload_n 2, 1) := by decide +kernel
theorem dX2_payOf_13 : decode cX2_payOf 13 = .ok (.invokevirtual 51, 3) := by decide +kernel
theorem dX2_payOf_16 : decode cX2_payOf 16 = .ok (.invokevirtual 54, 3) := by decide +kernel
theorem dX2_payOf_19 : decode cX2_payOf 19 = .ok (.ireturn, 1) := by decide +kernel
theorem dX2_payTo_0 : decode cX2_payTo 0 = .ok (.iload_n 1, 1) := by decide +kernel
theorem dX2_payTo_1 : decode cX2_payTo 1 = .ok (.ifCond .lt 23, 3) := by decide +kernel
theorem dX2_payTo_4 : decode cX2_payTo 4 = .ok (.iload_n 1, 1) := by decide +kernel
theorem dX2_payTo_5 : decode cX2_payTo 5 = .ok (.iconst 5, 1) := by decide +kernel
theorem dX2_payTo_6 : decode cX2_payTo 6 = .ok (.if_icmp .ge 18, 3) := by decide +kernel
theorem dX2_payTo_9 : decode cX2_payTo 9 = .ok (.iconst 0, 1) := by decide +kernel
theorem dX2_payTo_10 : decode cX2_payTo 10 = .ok (.iload_n 2, 1) := by decide +kernel
theorem dX2_payTo_11 : decode cX2_payTo 11 = .ok (.aload_n 0, 1) := by decide +kernel
theorem dX2_payTo_12 : decode cX2_payTo 12 = .ok (.getfield 15, 3) := by decide +kernel
theorem dX2_payTo_15 : decode cX2_payTo 15 = .ok (.iload_n 1, 1) := by decide +kernel
theorem dX2_payTo_16 : decode cX2_payTo 16 = .ok (.iaload, 1) := by decide +kernel
theorem dX2_payTo_17 : decode cX2_payTo 17 = .ok (.isub, 1) := by decide +kernel
theorem dX2_payTo_18 : decode cX2_payTo 18 = .ok (.invokestatic 57, 3) := by decide +kernel
theorem dX2_payTo_21 : decode cX2_payTo 21 = .ok (.goto 4, 3) := by decide +kernel
theorem dX2_payTo_24 : decode cX2_payTo 24 = .ok (.iconst 0, 1) := by decide +kernel
theorem dX2_payTo_25 : decode cX2_payTo 25 = .ok (.ireturn, 1) := by decide +kernel
theorem dX2_paidAt_0 : decode cX2_paidAt 0 = .ok (.iconst 0, 1) := by decide +kernel
theorem dX2_paidAt_1 : decode cX2_paidAt 1 = .ok (.istore 4, 2) := by decide +kernel
theorem dX2_paidAt_3 : decode cX2_paidAt 3 = .ok (.iconst 0, 1) := by decide +kernel
theorem dX2_paidAt_4 : decode cX2_paidAt 4 = .ok (.istore 5, 2) := by decide +kernel
theorem dX2_paidAt_6 : decode cX2_paidAt 6 = .ok (.iload 5, 2) := by decide +kernel
theorem dX2_paidAt_8 : decode cX2_paidAt 8 = .ok (.aload_n 1, 1) := by decide +kernel
theorem dX2_paidAt_9 : decode cX2_paidAt 9 = .ok (.getfield 38, 3) := by decide +kernel
theorem dX2_paidAt_12 : decode cX2_paidAt 12 = .ok (.if_icmp .ge 55, 3) := by decide +kernel
theorem dX2_paidAt_15 : decode cX2_paidAt 15 = .ok (.aload_n 0, 1) := by decide +kernel
theorem dX2_paidAt_16 : decode cX2_paidAt 16 = .ok (.aload_n 1, 1) := by decide +kernel
theorem dX2_paidAt_17 : decode cX2_paidAt 17 = .ok (.iload 5, 2) := by decide +kernel
theorem dX2_paidAt_19 : decode cX2_paidAt 19 = .ok (.iload_n 3, 1) := by decide +kernel
theorem dX2_paidAt_20 : decode cX2_paidAt 20 = .ok (.invokevirtual 44, 3) := by decide +kernel
theorem dX2_paidAt_23 : decode cX2_paidAt 23 = .ok (.invokevirtual 47, 3) := by decide +kernel
theorem dX2_paidAt_26 : decode cX2_paidAt 26 = .ok (.istore 6, 2) := by decide +kernel
theorem dX2_paidAt_28 : decode cX2_paidAt 28 = .ok (.iload 6, 2) := by decide +kernel
theorem dX2_paidAt_30 : decode cX2_paidAt 30 = .ok (.bipush (-9), 2) := by decide +kernel
theorem dX2_paidAt_32 : decode cX2_paidAt 32 = .ok (.if_icmp .eq 29, 3) := by decide +kernel
theorem dX2_paidAt_35 : decode cX2_paidAt 35 = .ok (.iload_n 2, 1) := by decide +kernel
theorem dX2_paidAt_36 : decode cX2_paidAt 36 = .ok (.iload 6, 2) := by decide +kernel
theorem dX2_paidAt_38 : decode cX2_paidAt 38 = .ok (.ishr, 1) := by decide +kernel
theorem dX2_paidAt_39 : decode cX2_paidAt 39 = .ok (.iconst 1, 1) := by decide +kernel
theorem dX2_paidAt_40 : decode cX2_paidAt 40 = .ok (.iand, 1) := by decide +kernel
theorem dX2_paidAt_41 : decode cX2_paidAt 41 = .ok (.ifCond .eq 20, 3) := by decide +kernel
theorem dX2_paidAt_44 : decode cX2_paidAt 44 = .ok (.iload 4, 2) := by decide +kernel
theorem dX2_paidAt_46 : decode cX2_paidAt 46 = .ok (.aload_n 0, 1) := by decide +kernel
theorem dX2_paidAt_47 : decode cX2_paidAt 47 = .ok (.iload 6, 2) := by decide +kernel
theorem dX2_paidAt_49 : decode cX2_paidAt 49 = .ok (.aload_n 1, 1) := by decide +kernel
theorem dX2_paidAt_50 : decode cX2_paidAt 50 = .ok (.iload 5, 2) := by decide +kernel
theorem dX2_paidAt_52 : decode cX2_paidAt 52 = .ok (.invokevirtual 51, 3) := by decide +kernel
theorem dX2_paidAt_55 : decode cX2_paidAt 55 = .ok (.invokevirtual 54, 3) := by decide +kernel
theorem dX2_paidAt_58 : decode cX2_paidAt 58 = .ok (.iadd, 1) := by decide +kernel
theorem dX2_paidAt_59 : decode cX2_paidAt 59 = .ok (.istore 4, 2) := by decide +kernel
theorem dX2_paidAt_61 : decode cX2_paidAt 61 = .ok (.iinc 5 1, 3) := by decide +kernel
theorem dX2_paidAt_64 : decode cX2_paidAt 64 = .ok (.goto (-58), 3) := by decide +kernel
theorem dX2_paidAt_67 : decode cX2_paidAt 67 = .ok (.iload 4, 2) := by decide +kernel
theorem dX2_paidAt_69 : decode cX2_paidAt 69 = .ok (.ireturn, 1) := by decide +kernel
theorem dX2_takings_0 : decode cX2_takings 0 = .ok (.iconst 0, 1) := by decide +kernel
theorem dX2_takings_1 : decode cX2_takings 1 = .ok (.istore 5, 2) := by decide +kernel
theorem dX2_takings_3 : decode cX2_takings 3 = .ok (.iconst 0, 1) := by decide +kernel
theorem dX2_takings_4 : decode cX2_takings 4 = .ok (.istore 6, 2) := by decide +kernel
theorem dX2_takings_6 : decode cX2_takings 6 = .ok (.iload 6, 2) := by decide +kernel
theorem dX2_takings_8 : decode cX2_takings 8 = .ok (.iload 4, 2) := by decide +kernel
theorem dX2_takings_10 : decode cX2_takings 10 = .ok (.if_icmp .ge 34, 3) := by decide +kernel
theorem dX2_takings_13 : decode cX2_takings 13 = .ok (.aload_n 1, 1) := by decide +kernel
theorem dX2_takings_14 : decode cX2_takings 14 = .ok (.getfield 62, 3) := by decide +kernel
theorem dX2_takings_17 : decode cX2_takings 17 = .ok (.ifCond .ne 27, 3) := by decide +kernel
theorem dX2_takings_20 : decode cX2_takings 20 = .ok (.iload 5, 2) := by decide +kernel
theorem dX2_takings_22 : decode cX2_takings 22 = .ok (.aload_n 0, 1) := by decide +kernel
theorem dX2_takings_23 : decode cX2_takings 23 = .ok (.aload_n 2, 1) := by decide +kernel
theorem dX2_takings_24 : decode cX2_takings 24 = .ok (.iload_n 3, 1) := by decide +kernel
theorem dX2_takings_25 : decode cX2_takings 25 = .ok (.aload_n 1, 1) := by decide +kernel
theorem dX2_takings_26 : decode cX2_takings 26 = .ok (.getfield 66, 3) := by decide +kernel
theorem dX2_takings_29 : decode cX2_takings 29 = .ok (.iload 6, 2) := by decide +kernel
theorem dX2_takings_31 : decode cX2_takings 31 = .ok (.iadd, 1) := by decide +kernel
theorem dX2_takings_32 : decode cX2_takings 32 = .ok (.invokevirtual 69, 3) := by decide +kernel
theorem dX2_takings_35 : decode cX2_takings 35 = .ok (.iadd, 1) := by decide +kernel
theorem dX2_takings_36 : decode cX2_takings 36 = .ok (.istore 5, 2) := by decide +kernel
theorem dX2_takings_38 : decode cX2_takings 38 = .ok (.iinc 6 1, 3) := by decide +kernel
theorem dX2_takings_41 : decode cX2_takings 41 = .ok (.goto (-35), 3) := by decide +kernel
theorem dX2_takings_44 : decode cX2_takings 44 = .ok (.iload 5, 2) := by decide +kernel
theorem dX2_takings_46 : decode cX2_takings 46 = .ok (.ireturn, 1) := by decide +kernel
theorem dX3_init_0 : decode cX3_init 0 = .ok (.aload_n 0, 1) := by decide +kernel
theorem dX3_init_1 : decode cX3_init 1 = .ok (.invokespecial 1, 3) := by decide +kernel
theorem dX3_init_4 : decode cX3_init 4 = .ok (.aload_n 0, 1) := by decide +kernel
theorem dX3_init_5 : decode cX3_init 5 = .ok (.new 7, 3) := by decide +kernel
theorem dX3_init_8 : decode cX3_init 8 = .ok (.dup, 1) := by decide +kernel
theorem dX3_init_9 : decode cX3_init 9 = .ok (.invokespecial 9, 3) := by decide +kernel
theorem dX3_init_12 : decode cX3_init 12 = .ok (.putfield 10, 3) := by decide +kernel
theorem dX3_init_15 : decode cX3_init 15 = .ok (.return_, 1) := by decide +kernel
theorem dX4_init_0 : decode cX4_init 0 = .ok (.aload_n 0, 1) := by decide +kernel
theorem dX4_init_1 : decode cX4_init 1 = .ok (.invokespecial 3, 3) := by decide +kernel
theorem dX4_init_4 : decode cX4_init 4 = .ok (.aload_n 0, 1) := by decide +kernel
theorem dX4_init_5 : decode cX4_init 5 = .ok (.iconst 4, 1) := by decide +kernel
theorem dX4_init_6 : decode cX4_init 6 = .ok (.newarray .int, 2) := by decide +kernel
theorem dX4_init_8 : decode cX4_init 8 = .ok (.putfield 9, 3) := by decide +kernel
theorem dX4_init_11 : decode cX4_init 11 = .ok (.aload_n 0, 1) := by decide +kernel
theorem dX4_init_12 : decode cX4_init 12 = .ok (.iconst 4, 1) := by decide +kernel
theorem dX4_init_13 : decode cX4_init 13 = .ok (.newarray .int, 2) := by decide +kernel
theorem dX4_init_15 : decode cX4_init 15 = .ok (.putfield 15, 3) := by decide +kernel
theorem dX4_init_18 : decode cX4_init 18 = .ok (.aload_n 0, 1) := by decide +kernel
theorem dX4_init_19 : decode cX4_init 19 = .ok (.iconst 4, 1) := by decide +kernel
theorem dX4_init_20 : decode cX4_init 20 = .ok (.newarray .int, 2) := by decide +kernel
theorem dX4_init_22 : decode cX4_init 22 = .ok (.putfield 18, 3) := by decide +kernel
theorem dX4_init_25 : decode cX4_init 25 = .ok (.return_, 1) := by decide +kernel
theorem dX4_clear_0 : decode cX4_clear 0 = .ok (.aload_n 0, 1) := by decide +kernel
theorem dX4_clear_1 : decode cX4_clear 1 = .ok (.iconst 0, 1) := by decide +kernel
theorem dX4_clear_2 : decode cX4_clear 2 = .ok (.putfield 21, 3) := by decide +kernel
theorem dX4_clear_5 : decode cX4_clear 5 = .ok (.return_, 1) := by decide +kernel
theorem dX4_addStar_0 : decode cX4_addStar 0 = .ok (.aload_n 0, 1) := by decide +kernel
theorem dX4_addStar_1 : decode cX4_addStar 1 = .ok (.getfield 21, 3) := by decide +kernel
theorem dX4_addStar_4 : decode cX4_addStar 4 = .ok (.iconst 4, 1) := by decide +kernel
theorem dX4_addStar_5 : decode cX4_addStar 5 = .ok (.if_icmp .ge 43, 3) := by decide +kernel
theorem dX4_addStar_8 : decode cX4_addStar 8 = .ok (.aload_n 0, 1) := by decide +kernel
theorem dX4_addStar_9 : decode cX4_addStar 9 = .ok (.getfield 9, 3) := by decide +kernel
theorem dX4_addStar_12 : decode cX4_addStar 12 = .ok (.aload_n 0, 1) := by decide +kernel
theorem dX4_addStar_13 : decode cX4_addStar 13 = .ok (.getfield 21, 3) := by decide +kernel
theorem dX4_addStar_16 : decode cX4_addStar 16 = .ok (.iload_n 1, 1) := by decide +kernel
theorem dX4_addStar_17 : decode cX4_addStar 17 = .ok (.iastore, 1) := by decide +kernel
theorem dX4_addStar_18 : decode cX4_addStar 18 = .ok (.aload_n 0, 1) := by decide +kernel
theorem dX4_addStar_19 : decode cX4_addStar 19 = .ok (.getfield 15, 3) := by decide +kernel
theorem dX4_addStar_22 : decode cX4_addStar 22 = .ok (.aload_n 0, 1) := by decide +kernel
theorem dX4_addStar_23 : decode cX4_addStar 23 = .ok (.getfield 21, 3) := by decide +kernel
theorem dX4_addStar_26 : decode cX4_addStar 26 = .ok (.iload_n 2, 1) := by decide +kernel
theorem dX4_addStar_27 : decode cX4_addStar 27 = .ok (.iastore, 1) := by decide +kernel
theorem dX4_addStar_28 : decode cX4_addStar 28 = .ok (.aload_n 0, 1) := by decide +kernel
theorem dX4_addStar_29 : decode cX4_addStar 29 = .ok (.getfield 18, 3) := by decide +kernel
theorem dX4_addStar_32 : decode cX4_addStar 32 = .ok (.aload_n 0, 1) := by decide +kernel
theorem dX4_addStar_33 : decode cX4_addStar 33 = .ok (.getfield 21, 3) := by decide +kernel
theorem dX4_addStar_36 : decode cX4_addStar 36 = .ok (.iload_n 3, 1) := by decide +kernel
theorem dX4_addStar_37 : decode cX4_addStar 37 = .ok (.iastore, 1) := by decide +kernel
theorem dX4_addStar_38 : decode cX4_addStar 38 = .ok (.aload_n 0, 1) := by decide +kernel
theorem dX4_addStar_39 : decode cX4_addStar 39 = .ok (.dup, 1) := by decide +kernel
theorem dX4_addStar_40 : decode cX4_addStar 40 = .ok (.getfield 21, 3) := by decide +kernel
theorem dX4_addStar_43 : decode cX4_addStar 43 = .ok (.iconst 1, 1) := by decide +kernel
theorem dX4_addStar_44 : decode cX4_addStar 44 = .ok (.iadd, 1) := by decide +kernel
theorem dX4_addStar_45 : decode cX4_addStar 45 = .ok (.putfield 21, 3) := by decide +kernel
theorem dX4_addStar_48 : decode cX4_addStar 48 = .ok (.return_, 1) := by decide +kernel
theorem dX4_hasStar_0 : decode cX4_hasStar 0 = .ok (.iload_n 1, 1) := by decide +kernel
theorem dX4_hasStar_1 : decode cX4_hasStar 1 = .ok (.ifCond .lt 20, 3) := by decide +kernel
theorem dX4_hasStar_4 : decode cX4_hasStar 4 = .ok (.iload_n 1, 1) := by decide +kernel
theorem dX4_hasStar_5 : decode cX4_hasStar 5 = .ok (.aload_n 0, 1) := by decide +kernel
theorem dX4_hasStar_6 : decode cX4_hasStar 6 = .ok (.getfield 21, 3) := by decide +kernel
theorem dX4_hasStar_9 : decode cX4_hasStar 9 = .ok (.if_icmp .ge 12, 3) := by decide +kernel
theorem dX4_hasStar_12 : decode cX4_hasStar 12 = .ok (.iload_n 1, 1) := by decide +kernel
theorem dX4_hasStar_13 : decode cX4_hasStar 13 = .ok (.iconst 4, 1) := by decide +kernel
theorem dX4_hasStar_14 : decode cX4_hasStar 14 = .ok (.if_icmp .ge 7, 3) := by decide +kernel
theorem dX4_hasStar_17 : decode cX4_hasStar 17 = .ok (.iconst 1, 1) := by decide +kernel
theorem dX4_hasStar_18 : decode cX4_hasStar 18 = .ok (.goto 4, 3) := by decide +kernel
theorem dX4_hasStar_21 : decode cX4_hasStar 21 = .ok (.iconst 0, 1) := by decide +kernel
theorem dX4_hasStar_22 : decode cX4_hasStar 22 = .ok (.ireturn, 1) := by decide +kernel
theorem dX4_worthOf_0 : decode cX4_worthOf 0 = .ok (.aload_n 0, 1) := by decide +kernel
theorem dX4_worthOf_1 : decode cX4_worthOf 1 = .ok (.iload_n 1, 1) := by decide +kernel
theorem dX4_worthOf_2 : decode cX4_worthOf 2 = .ok (.invokevirtual 25, 3) := by decide +kernel
theorem dX4_worthOf_5 : decode cX4_worthOf 5 = .ok (.ifCond .eq 12, 3) := by decide +kernel
theorem dX4_worthOf_8 : decode cX4_worthOf 8 = .ok (.aload_n 0, 1) := by decide +kernel
theorem dX4_worthOf_9 : decode cX4_worthOf 9 = .ok (.getfield 18, 3) := by decide +kernel
theorem dX4_worthOf_12 : decode cX4_worthOf 12 = .ok (.iload_n 1, 1) := by decide +kernel
theorem dX4_worthOf_13 : decode cX4_worthOf 13 = .ok (.iaload, 1) := by decide +kernel
theorem dX4_worthOf_14 : decode cX4_worthOf 14 = .ok (.goto 4, 3) := by decide +kernel
theorem dX4_worthOf_17 : decode cX4_worthOf 17 = .ok (.iconst 0, 1) := by decide +kernel
theorem dX4_worthOf_18 : decode cX4_worthOf 18 = .ok (.ireturn, 1) := by decide +kernel
theorem dX4_cellAt_0 : decode cX4_cellAt 0 = .ok (.aload_n 0, 1) := by decide +kernel
theorem dX4_cellAt_1 : decode cX4_cellAt 1 = .ok (.iload_n 1, 1) := by decide +kernel
theorem dX4_cellAt_2 : decode cX4_cellAt 2 = .ok (.invokevirtual 25, 3) := by decide +kernel
theorem dX4_cellAt_5 : decode cX4_cellAt 5 = .ok (.ifCond .eq 22, 3) := by decide +kernel
theorem dX4_cellAt_8 : decode cX4_cellAt 8 = .ok (.aload_n 0, 1) := by decide +kernel
theorem dX4_cellAt_9 : decode cX4_cellAt 9 = .ok (.getfield 9, 3) := by decide +kernel
theorem dX4_cellAt_12 : decode cX4_cellAt 12 = .ok (.iload_n 1, 1) := by decide +kernel
theorem dX4_cellAt_13 : decode cX4_cellAt 13 = .ok (.iaload, 1) := by decide +kernel
theorem dX4_cellAt_14 : decode cX4_cellAt 14 = .ok (.aload_n 0, 1) := by decide +kernel
theorem dX4_cellAt_15 : decode cX4_cellAt 15 = .ok (.getfield 15, 3) := by decide +kernel
theorem dX4_cellAt_18 : decode cX4_cellAt 18 = .ok (.iload_n 1, 1) := by decide +kernel
theorem dX4_cellAt_19 : decode cX4_cellAt 19 = .ok (.iaload, 1) := by decide +kernel
theorem dX4_cellAt_20 : decode cX4_cellAt 20 = .ok (.iload_n 2, 1) := by decide +kernel
theorem dX4_cellAt_21 : decode cX4_cellAt 21 = .ok (.invokestatic 29, 3) := by decide +kernel
theorem dX4_cellAt_24 : decode cX4_cellAt 24 = .ok (.goto 4, 3) := by decide +kernel
theorem dX4_cellAt_27 : decode cX4_cellAt 27 = .ok (.iconst 0, 1) := by decide +kernel
theorem dX4_cellAt_28 : decode cX4_cellAt 28 = .ok (.ireturn, 1) := by decide +kernel
theorem dX4_walkedTo_0 : decode cX4_walkedTo 0 = .ok (.iload_n 0, 1) := by decide +kernel
theorem dX4_walkedTo_1 : decode cX4_walkedTo 1 = .ok (.iload_n 1, 1) := by decide +kernel
theorem dX4_walkedTo_2 : decode cX4_walkedTo 2 = .ok (.iload_n 2, 1) := by decide +kernel
theorem dX4_walkedTo_3 : decode cX4_walkedTo 3 = .ok (.bipush 10, 2) := by decide +kernel
theorem dX4_walkedTo_5 : decode cX4_walkedTo 5 = .ok (.irem, 1) := by decide +kernel
theorem dX4_walkedTo_6 : decode cX4_walkedTo 6 = .ok (.imul, 1) := by decide +kernel
theorem dX4_walkedTo_7 : decode cX4_walkedTo 7 = .ok (.iadd, 1) := by decide +kernel
theorem dX4_walkedTo_8 : decode cX4_walkedTo 8 = .ok (.bipush 10, 2) := by decide +kernel
theorem dX4_walkedTo_10 : decode cX4_walkedTo 10 = .ok (.irem, 1) := by decide +kernel
theorem dX4_walkedTo_11 : decode cX4_walkedTo 11 = .ok (.ireturn, 1) := by decide +kernel
theorem dX4_cellsPassed_0 : decode cX4_cellsPassed 0 = .ok (.iconst 0, 1) := by decide +kernel
theorem dX4_cellsPassed_1 : decode cX4_cellsPassed 1 = .ok (.istore 4, 2) := by decide +kernel
theorem dX4_cellsPassed_3 : decode cX4_cellsPassed 3 = .ok (.iconst 0, 1) := by decide +kernel
theorem dX4_cellsPassed_4 : decode cX4_cellsPassed 4 = .ok (.istore 5, 2) := by decide +kernel
theorem dX4_cellsPassed_6 : decode cX4_cellsPassed 6 = .ok (.iload 5, 2) := by decide +kernel
theorem dX4_cellsPassed_8 : decode cX4_cellsPassed 8 = .ok (.iload_n 3, 1) := by decide +kernel
theorem dX4_cellsPassed_9 : decode cX4_cellsPassed 9 = .ok (.if_icmp .ge 25, 3) := by decide +kernel
theorem dX4_cellsPassed_12 : decode cX4_cellsPassed 12 = .ok (.iload 4, 2) := by decide +kernel
theorem dX4_cellsPassed_14 : decode cX4_cellsPassed 14 = .ok (.iconst 1, 1) := by decide +kernel
theorem dX4_cellsPassed_15 : decode cX4_cellsPassed 15 = .ok (.aload_n 0, 1) := by decide +kernel
theorem dX4_cellsPassed_16 : decode cX4_cellsPassed 16 = .ok (.iload_n 1, 1) := by decide +kernel
theorem dX4_cellsPassed_17 : decode cX4_cellsPassed 17 = .ok (.iload_n 2, 1) := by decide +kernel
theorem dX4_cellsPassed_18 : decode cX4_cellsPassed 18 = .ok (.iload 5, 2) := by decide +kernel
theorem dX4_cellsPassed_20 : decode cX4_cellsPassed 20 = .ok (.iadd, 1) := by decide +kernel
theorem dX4_cellsPassed_21 : decode cX4_cellsPassed 21 = .ok (.invokevirtual 33, 3) := by decide +kernel
theorem dX4_cellsPassed_24 : decode cX4_cellsPassed 24 = .ok (.ishl, 1) := by decide +kernel
theorem dX4_cellsPassed_25 : decode cX4_cellsPassed 25 = .ok (.ior, 1) := by decide +kernel
theorem dX4_cellsPassed_26 : decode cX4_cellsPassed 26 = .ok (.istore 4, 2) := by decide +kernel
theorem dX4_cellsPassed_28 : decode cX4_cellsPassed 28 = .ok (.iinc 5 1, 3) := by decide +kernel
theorem dX4_cellsPassed_31 : decode cX4_cellsPassed 31 = .ok (.goto (-25), 3) := by decide +kernel
theorem dX4_cellsPassed_34 : decode cX4_cellsPassed 34 = .ok (.iload 4, 2) := by decide +kernel
theorem dX4_cellsPassed_36 : decode cX4_cellsPassed 36 = .ok (.ireturn, 1) := by decide +kernel
theorem dX5_init_0 : decode cX5_init 0 = .ok (.aload_n 0, 1) := by decide +kernel
theorem dX5_init_1 : decode cX5_init 1 = .ok (.invokespecial 3, 3) := by decide +kernel
theorem dX5_init_4 : decode cX5_init 4 = .ok (.aload_n 0, 1) := by decide +kernel
theorem dX5_init_5 : decode cX5_init 5 = .ok (.bipush 48, 2) := by decide +kernel
theorem dX5_init_7 : decode cX5_init 7 = .ok (.newarray .int, 2) := by decide +kernel
theorem dX5_init_9 : decode cX5_init 9 = .ok (.putfield 9, 3) := by decide +kernel
theorem dX5_init_12 : decode cX5_init 12 = .ok (.return_, 1) := by decide +kernel
theorem dX5_isFull_0 : decode cX5_isFull 0 = .ok (.aload_n 0, 1) := by decide +kernel
theorem dX5_isFull_1 : decode cX5_isFull 1 = .ok (.getfield 15, 3) := by decide +kernel
theorem dX5_isFull_4 : decode cX5_isFull 4 = .ok (.bipush 48, 2) := by decide +kernel
theorem dX5_isFull_6 : decode cX5_isFull 6 = .ok (.if_icmp .lt 7, 3) := by decide +kernel
theorem dX5_isFull_9 : decode cX5_isFull 9 = .ok (.iconst 1, 1) := by decide +kernel
theorem dX5_isFull_10 : decode cX5_isFull 10 = .ok (.goto 4, 3) := by decide +kernel
theorem dX5_isFull_13 : decode cX5_isFull 13 = .ok (.iconst 0, 1) := by decide +kernel
theorem dX5_isFull_14 : decode cX5_isFull 14 = .ok (.ireturn, 1) := by decide +kernel
theorem dX5_add_0 : decode cX5_add 0 = .ok (.aload_n 0, 1) := by decide +kernel
theorem dX5_add_1 : decode cX5_add 1 = .ok (.invokevirtual 19, 3) := by decide +kernel
theorem dX5_add_4 : decode cX5_add 4 = .ok (.ifCond .ne 23, 3) := by decide +kernel
theorem dX5_add_7 : decode cX5_add 7 = .ok (.aload_n 0, 1) := by decide +kernel
theorem dX5_add_8 : decode cX5_add 8 = .ok (.getfield 9, 3) := by decide +kernel
theorem dX5_add_11 : decode cX5_add 11 = .ok (.aload_n 0, 1) := by decide +kernel
theorem dX5_add_12 : decode cX5_add 12 = .ok (.getfield 15, 3) := by decide +kernel
theorem dX5_add_15 : decode cX5_add 15 = .ok (.iload_n 1, 1) := by decide +kernel
theorem dX5_add_16 : decode cX5_add 16 = .ok (.iastore, 1) := by decide +kernel
theorem dX5_add_17 : decode cX5_add 17 = .ok (.aload_n 0, 1) := by decide +kernel
theorem dX5_add_18 : decode cX5_add 18 = .ok (.dup, 1) := by decide +kernel
theorem dX5_add_19 : decode cX5_add 19 = .ok (.getfield 15, 3) := by decide +kernel
theorem dX5_add_22 : decode cX5_add 22 = .ok (.iconst 1, 1) := by decide +kernel
theorem dX5_add_23 : decode cX5_add 23 = .ok (.iadd, 1) := by decide +kernel
theorem dX5_add_24 : decode cX5_add 24 = .ok (.putfield 15, 3) := by decide +kernel
theorem dX5_add_27 : decode cX5_add 27 = .ok (.aload_n 0, 1) := by decide +kernel
theorem dX5_add_28 : decode cX5_add 28 = .ok (.getfield 15, 3) := by decide +kernel
theorem dX5_add_31 : decode cX5_add 31 = .ok (.ireturn, 1) := by decide +kernel
theorem dX5_clear_0 : decode cX5_clear 0 = .ok (.aload_n 0, 1) := by decide +kernel
theorem dX5_clear_1 : decode cX5_clear 1 = .ok (.getfield 15, 3) := by decide +kernel
theorem dX5_clear_4 : decode cX5_clear 4 = .ok (.istore_n 1, 1) := by decide +kernel
theorem dX5_clear_5 : decode cX5_clear 5 = .ok (.aload_n 0, 1) := by decide +kernel
theorem dX5_clear_6 : decode cX5_clear 6 = .ok (.iconst 0, 1) := by decide +kernel
theorem dX5_clear_7 : decode cX5_clear 7 = .ok (.putfield 15, 3) := by decide +kernel
theorem dX5_clear_10 : decode cX5_clear 10 = .ok (.iload_n 1, 1) := by decide +kernel
theorem dX5_clear_11 : decode cX5_clear 11 = .ok (.ireturn, 1) := by decide +kernel
theorem dX5_byteAt_0 : decode cX5_byteAt 0 = .ok (.iload_n 1, 1) := by decide +kernel
theorem dX5_byteAt_1 : decode cX5_byteAt 1 = .ok (.ifCond .lt 26, 3) := by decide +kernel
theorem dX5_byteAt_4 : decode cX5_byteAt 4 = .ok (.iload_n 1, 1) := by decide +kernel
theorem dX5_byteAt_5 : decode cX5_byteAt 5 = .ok (.aload_n 0, 1) := by decide +kernel
theorem dX5_byteAt_6 : decode cX5_byteAt 6 = .ok (.getfield 15, 3) := by decide +kernel
theorem dX5_byteAt_9 : decode cX5_byteAt 9 = .ok (.if_icmp .ge 18, 3) := by decide +kernel
theorem dX5_byteAt_12 : decode cX5_byteAt 12 = .ok (.iload_n 1, 1) := by decide +kernel
theorem dX5_byteAt_13 : decode cX5_byteAt 13 = .ok (.bipush 48, 2) := by decide +kernel
theorem dX5_byteAt_15 : decode cX5_byteAt 15 = .ok (.if_icmp .ge 12, 3) := by decide +kernel
theorem dX5_byteAt_18 : decode cX5_byteAt 18 = .ok (.aload_n 0, 1) := by decide +kernel
theorem dX5_byteAt_19 : decode cX5_byteAt 19 = .ok (.getfield 9, 3) := by decide +kernel
theorem dX5_byteAt_22 : decode cX5_byteAt 22 = .ok (.iload_n 1, 1) := by decide +kernel
theorem dX5_byteAt_23 : decode cX5_byteAt 23 = .ok (.iaload, 1) := by decide +kernel
theorem dX5_byteAt_24 : decode cX5_byteAt 24 = .ok (.goto 4, 3) := by decide +kernel
theorem dX5_byteAt_27 : decode cX5_byteAt 27 = .ok (.iconst (-1), 1) := by decide +kernel
theorem dX5_byteAt_28 : decode cX5_byteAt 28 = .ok (.ireturn, 1) := by decide +kernel
theorem dX5_digitAt_0 : decode cX5_digitAt 0 = .ok (.aload_n 0, 1) := by decide +kernel
theorem dX5_digitAt_1 : decode cX5_digitAt 1 = .ok (.iload_n 1, 1) := by decide +kernel
theorem dX5_digitAt_2 : decode cX5_digitAt 2 = .ok (.invokevirtual 23, 3) := by decide +kernel
theorem dX5_digitAt_5 : decode cX5_digitAt 5 = .ok (.bipush 48, 2) := by decide +kernel
theorem dX5_digitAt_7 : decode cX5_digitAt 7 = .ok (.isub, 1) := by decide +kernel
theorem dX5_digitAt_8 : decode cX5_digitAt 8 = .ok (.ireturn, 1) := by decide +kernel
theorem dX5_hasDigit_0 : decode cX5_hasDigit 0 = .ok (.aload_n 0, 1) := by decide +kernel
theorem dX5_hasDigit_1 : decode cX5_hasDigit 1 = .ok (.iload_n 1, 1) := by decide +kernel
theorem dX5_hasDigit_2 : decode cX5_hasDigit 2 = .ok (.invokevirtual 27, 3) := by decide +kernel
theorem dX5_hasDigit_5 : decode cX5_hasDigit 5 = .ok (.iload_n 2, 1) := by decide +kernel
theorem dX5_hasDigit_6 : decode cX5_hasDigit 6 = .ok (.if_icmp .lt 16, 3) := by decide +kernel
theorem dX5_hasDigit_9 : decode cX5_hasDigit 9 = .ok (.aload_n 0, 1) := by decide +kernel
theorem dX5_hasDigit_10 : decode cX5_hasDigit 10 = .ok (.iload_n 1, 1) := by decide +kernel
theorem dX5_hasDigit_11 : decode cX5_hasDigit 11 = .ok (.invokevirtual 27, 3) := by decide +kernel
theorem dX5_hasDigit_14 : decode cX5_hasDigit 14 = .ok (.iload_n 3, 1) := by decide +kernel
theorem dX5_hasDigit_15 : decode cX5_hasDigit 15 = .ok (.if_icmp .gt 7, 3) := by decide +kernel
theorem dX5_hasDigit_18 : decode cX5_hasDigit 18 = .ok (.iconst 1, 1) := by decide +kernel
theorem dX5_hasDigit_19 : decode cX5_hasDigit 19 = .ok (.goto 4, 3) := by decide +kernel
theorem dX5_hasDigit_22 : decode cX5_hasDigit 22 = .ok (.iconst 0, 1) := by decide +kernel
theorem dX5_hasDigit_23 : decode cX5_hasDigit 23 = .ok (.ireturn, 1) := by decide +kernel
theorem dX5_firstFault_0 : decode cX5_firstFault 0 = .ok (.aload_n 0, 1) := by decide +kernel
theorem dX5_firstFault_1 : decode cX5_firstFault 1 = .ok (.iconst 0, 1) := by decide +kernel
theorem dX5_firstFault_2 : decode cX5_firstFault 2 = .ok (.invokevirtual 23, 3) := by decide +kernel
theorem dX5_firstFault_5 : decode cX5_firstFault 5 = .ok (.bipush 78, 2) := by decide +kernel
theorem dX5_firstFault_7 : decode cX5_firstFault 7 = .ok (.if_icmp .eq 5, 3) := by decide +kernel
theorem dX5_firstFault_10 : decode cX5_firstFault 10 = .ok (.iconst 0, 1) := by decide +kernel
theorem dX5_firstFault_11 : decode cX5_firstFault 11 = .ok (.ireturn, 1) := by decide +kernel
theorem dX5_firstFault_12 : decode cX5_firstFault 12 = .ok (.aload_n 0, 1) := by decide +kernel
theorem dX5_firstFault_13 : decode cX5_firstFault 13 = .ok (.iconst 1, 1) := by decide +kernel
theorem dX5_firstFault_14 : decode cX5_firstFault 14 = .ok (.iconst 0, 1) := by decide +kernel
theorem dX5_firstFault_15 : decode cX5_firstFault 15 = .ok (.iconst 2, 1) := by decide +kernel
theorem dX5_firstFault_16 : decode cX5_firstFault 16 = .ok (.invokevirtual 30, 3) := by decide +kernel
theorem dX5_firstFault_19 : decode cX5_firstFault 19 = .ok (.ifCond .ne 5, 3) := by decide +kernel
theorem dX5_firstFault_22 : decode cX5_firstFault 22 = .ok (.iconst 1, 1) := by decide +kernel
theorem dX5_firstFault_23 : decode cX5_firstFault 23 = .ok (.ireturn, 1) := by decide +kernel
theorem dX5_firstFault_24 : decode cX5_firstFault 24 = .ok (.iconst 0, 1) := by decide +kernel
theorem dX5_firstFault_25 : decode cX5_firstFault 25 = .ok (.istore_n 1, 1) := by decide +kernel
theorem dX5_firstFault_26 : decode cX5_firstFault 26 = .ok (.iconst 0, 1) := by decide +kernel
theorem dX5_firstFault_27 : decode cX5_firstFault 27 = .ok (.istore_n 2, 1) := by decide +kernel
theorem dX5_firstFault_28 : decode cX5_firstFault 28 = .ok (.iconst 0, 1) := by decide +kernel
theorem dX5_firstFault_29 : decode cX5_firstFault 29 = .ok (.istore_n 3, 1) := by decide +kernel
theorem dX5_firstFault_30 : decode cX5_firstFault 30 = .ok (.iconst 2, 1) := by decide +kernel
theorem dX5_firstFault_31 : decode cX5_firstFault 31 = .ok (.istore 4, 2) := by decide +kernel
theorem dX5_firstFault_33 : decode cX5_firstFault 33 = .ok (.bipush (-9), 2) := by decide +kernel
theorem dX5_firstFault_35 : decode cX5_firstFault 35 = .ok (.istore 5, 2) := by decide +kernel
theorem dX5_firstFault_37 : decode cX5_firstFault 37 = .ok (.iload 4, 2) := by decide +kernel
theorem dX5_firstFault_39 : decode cX5_firstFault 39 = .ok (.aload_n 0, 1) := by decide +kernel
theorem dX5_firstFault_40 : decode cX5_firstFault 40 = .ok (.getfield 15, 3) := by decide +kernel
theorem dX5_firstFault_43 : decode cX5_firstFault 43 = .ok (.if_icmp .ge 93, 3) := by decide +kernel
theorem dX5_firstFault_46 : decode cX5_firstFault 46 = .ok (.iload 5, 2) := by decide +kernel
theorem dX5_firstFault_48 : decode cX5_firstFault 48 = .ok (.bipush (-9), 2) := by decide +kernel
theorem dX5_firstFault_50 : decode cX5_firstFault 50 = .ok (.if_icmp .ne 86, 3) := by decide +kernel
theorem dX5_firstFault_53 : decode cX5_firstFault 53 = .ok (.aload_n 0, 1) := by decide +kernel
theorem dX5_firstFault_54 : decode cX5_firstFault 54 = .ok (.iload 4, 2) := by decide +kernel
theorem dX5_firstFault_56 : decode cX5_firstFault 56 = .ok (.invokevirtual 23, 3) := by decide +kernel
theorem dX5_firstFault_59 : decode cX5_firstFault 59 = .ok (.bipush 82, 2) := by decide +kernel
theorem dX5_firstFault_61 : decode cX5_firstFault 61 = .ok (.if_icmp .ne 39, 3) := by decide +kernel
theorem dX5_firstFault_64 : decode cX5_firstFault 64 = .ok (.iload_n 1, 1) := by decide +kernel
theorem dX5_firstFault_65 : decode cX5_firstFault 65 = .ok (.iconst 5, 1) := by decide +kernel
theorem dX5_firstFault_66 : decode cX5_firstFault 66 = .ok (.if_icmp .ge 34, 3) := by decide +kernel
theorem dX5_firstFault_69 : decode cX5_firstFault 69 = .ok (.aload_n 0, 1) := by decide +kernel
theorem dX5_firstFault_70 : decode cX5_firstFault 70 = .ok (.iload 4, 2) := by decide +kernel
theorem dX5_firstFault_72 : decode cX5_firstFault 72 = .ok (.iload_n 3, 1) := by decide +kernel
theorem dX5_firstFault_73 : decode cX5_firstFault 73 = .ok (.invokevirtual 34, 3) := by decide +kernel
theorem dX5_firstFault_76 : decode cX5_firstFault 76 = .ok (.istore 5, 2) := by decide +kernel
theorem dX5_firstFault_78 : decode cX5_firstFault 78 = .ok (.iload_n 3, 1) := by decide +kernel
theorem dX5_firstFault_79 : decode cX5_firstFault 79 = .ok (.iconst 1, 1) := by decide +kernel
theorem dX5_firstFault_80 : decode cX5_firstFault 80 = .ok (.aload_n 0, 1) := by decide +kernel
theorem dX5_firstFault_81 : decode cX5_firstFault 81 = .ok (.iload 4, 2) := by decide +kernel
theorem dX5_firstFault_83 : decode cX5_firstFault 83 = .ok (.iconst 1, 1) := by decide +kernel
theorem dX5_firstFault_84 : decode cX5_firstFault 84 = .ok (.iadd, 1) := by decide +kernel
theorem dX5_firstFault_85 : decode cX5_firstFault 85 = .ok (.invokevirtual 27, 3) := by decide +kernel
theorem dX5_firstFault_88 : decode cX5_firstFault 88 = .ok (.ishl, 1) := by decide +kernel
theorem dX5_firstFault_89 : decode cX5_firstFault 89 = .ok (.ior, 1) := by decide +kernel
theorem dX5_firstFault_90 : decode cX5_firstFault 90 = .ok (.istore_n 3, 1) := by decide +kernel
theorem dX5_firstFault_91 : decode cX5_firstFault 91 = .ok (.iinc 1 1, 3) := by decide +kernel
theorem dX5_firstFault_94 : decode cX5_firstFault 94 = .ok (.iinc 4 5, 3) := by decide +kernel
theorem dX5_firstFault_97 : decode cX5_firstFault 97 = .ok (.goto (-60), 3) := by decide +kernel
theorem dX5_firstFault_100 : decode cX5_firstFault 100 = .ok (.aload_n 0, 1) := by decide +kernel
theorem dX5_firstFault_101 : decode cX5_firstFault 101 = .ok (.iload 4, 2) := by decide +kernel
theorem dX5_firstFault_103 : decode cX5_firstFault 103 = .ok (.invokevirtual 23, 3) := by decide +kernel
theorem dX5_firstFault_106 : decode cX5_firstFault 106 = .ok (.bipush 83, 2) := by decide +kernel
theorem dX5_firstFault_108 : decode cX5_firstFault 108 = .ok (.if_icmp .ne 25, 3) := by decide +kernel
theorem dX5_firstFault_111 : decode cX5_firstFault 111 = .ok (.iload_n 2, 1) := by decide +kernel
theorem dX5_firstFault_112 : decode cX5_firstFault 112 = .ok (.iconst 4, 1) := by decide +kernel
theorem dX5_firstFault_113 : decode cX5_firstFault 113 = .ok (.if_icmp .ge 20, 3) := by decide +kernel
theorem dX5_firstFault_116 : decode cX5_firstFault 116 = .ok (.aload_n 0, 1) := by decide +kernel
theorem dX5_firstFault_117 : decode cX5_firstFault 117 = .ok (.iload 4, 2) := by decide +kernel
theorem dX5_firstFault_119 : decode cX5_firstFault 119 = .ok (.invokevirtual 38, 3) := by decide +kernel
theorem dX5_firstFault_122 : decode cX5_firstFault 122 = .ok (.istore 5, 2) := by decide +kernel
theorem dX5_firstFault_124 : decode cX5_firstFault 124 = .ok (.iinc 2 1, 3) := by decide +kernel
theorem dX5_firstFault_127 : decode cX5_firstFault 127 = .ok (.iinc 4 4, 3) := by decide +kernel
theorem dX5_firstFault_130 : decode cX5_firstFault 130 = .ok (.goto (-93), 3) := by decide +kernel
theorem dX5_firstFault_133 : decode cX5_firstFault 133 = .ok (.iload 4, 2) := by decide +kernel
theorem dX5_firstFault_135 : decode cX5_firstFault 135 = .ok (.ireturn, 1) := by decide +kernel
theorem dX5_firstFault_136 : decode cX5_firstFault 136 = .ok (.iload 5, 2) := by decide +kernel
theorem dX5_firstFault_138 : decode cX5_firstFault 138 = .ok (.ireturn, 1) := by decide +kernel
theorem dX5_faultInRoof_0 : decode cX5_faultInRoof 0 = .ok (.aload_n 0, 1) := by decide +kernel
theorem dX5_faultInRoof_1 : decode cX5_faultInRoof 1 = .ok (.iload_n 1, 1) := by decide +kernel
theorem dX5_faultInRoof_2 : decode cX5_faultInRoof 2 = .ok (.iconst 1, 1) := by decide +kernel
theorem dX5_faultInRoof_3 : decode cX5_faultInRoof 3 = .ok (.iadd, 1) := by decide +kernel
theorem dX5_faultInRoof_4 : decode cX5_faultInRoof 4 = .ok (.iconst 0, 1) := by decide +kernel
theorem dX5_faultInRoof_5 : decode cX5_faultInRoof 5 = .ok (.bipush 9, 2) := by decide +kernel
theorem dX5_faultInRoof_7 : decode cX5_faultInRoof 7 = .ok (.invokevirtual 30, 3) := by decide +kernel
theorem dX5_faultInRoof_10 : decode cX5_faultInRoof 10 = .ok (.ifCond .eq 17, 3) := by decide +kernel
theorem dX5_faultInRoof_13 : decode cX5_faultInRoof 13 = .ok (.iload_n 2, 1) := by decide +kernel
theorem dX5_faultInRoof_14 : decode cX5_faultInRoof 14 = .ok (.aload_n 0, 1) := by decide +kernel
theorem dX5_faultInRoof_15 : decode cX5_faultInRoof 15 = .ok (.iload_n 1, 1) := by decide +kernel
theorem dX5_faultInRoof_16 : decode cX5_faultInRoof 16 = .ok (.iconst 1, 1) := by decide +kernel
theorem dX5_faultInRoof_17 : decode cX5_faultInRoof 17 = .ok (.iadd, 1) := by decide +kernel
theorem dX5_faultInRoof_18 : decode cX5_faultInRoof 18 = .ok (.invokevirtual 27, 3) := by decide +kernel
theorem dX5_faultInRoof_21 : decode cX5_faultInRoof 21 = .ok (.ishr, 1) := by decide +kernel
theorem dX5_faultInRoof_22 : decode cX5_faultInRoof 22 = .ok (.iconst 1, 1) := by decide +kernel
theorem dX5_faultInRoof_23 : decode cX5_faultInRoof 23 = .ok (.iand, 1) := by decide +kernel
theorem dX5_faultInRoof_24 : decode cX5_faultInRoof 24 = .ok (.ifCond .eq 7, 3) := by decide +kernel
theorem dX5_faultInRoof_27 : decode cX5_faultInRoof 27 = .ok (.iload_n 1, 1) := by decide +kernel
theorem dX5_faultInRoof_28 : decode cX5_faultInRoof 28 = .ok (.iconst 1, 1) := by decide +kernel
theorem dX5_faultInRoof_29 : decode cX5_faultInRoof 29 = .ok (.iadd, 1) := by decide +kernel
theorem dX5_faultInRoof_30 : decode cX5_faultInRoof 30 = .ok (.ireturn, 1) := by decide +kernel
theorem dX5_faultInRoof_31 : decode cX5_faultInRoof 31 = .ok (.aload_n 0, 1) := by decide +kernel
theorem dX5_faultInRoof_32 : decode cX5_faultInRoof 32 = .ok (.iload_n 1, 1) := by decide +kernel
theorem dX5_faultInRoof_33 : decode cX5_faultInRoof 33 = .ok (.iconst 2, 1) := by decide +kernel
theorem dX5_faultInRoof_34 : decode cX5_faultInRoof 34 = .ok (.iadd, 1) := by decide +kernel
theorem dX5_faultInRoof_35 : decode cX5_faultInRoof 35 = .ok (.iconst 0, 1) := by decide +kernel
theorem dX5_faultInRoof_36 : decode cX5_faultInRoof 36 = .ok (.bipush 9, 2) := by decide +kernel
theorem dX5_faultInRoof_38 : decode cX5_faultInRoof 38 = .ok (.invokevirtual 30, 3) := by decide +kernel
theorem dX5_faultInRoof_41 : decode cX5_faultInRoof 41 = .ok (.ifCond .ne 7, 3) := by decide +kernel
theorem dX5_faultInRoof_44 : decode cX5_faultInRoof 44 = .ok (.iload_n 1, 1) := by decide +kernel
theorem dX5_faultInRoof_45 : decode cX5_faultInRoof 45 = .ok (.iconst 2, 1) := by decide +kernel
theorem dX5_faultInRoof_46 : decode cX5_faultInRoof 46 = .ok (.iadd, 1) := by decide +kernel
theorem dX5_faultInRoof_47 : decode cX5_faultInRoof 47 = .ok (.ireturn, 1) := by decide +kernel
theorem dX5_faultInRoof_48 : decode cX5_faultInRoof 48 = .ok (.aload_n 0, 1) := by decide +kernel
theorem dX5_faultInRoof_49 : decode cX5_faultInRoof 49 = .ok (.iload_n 1, 1) := by decide +kernel
theorem dX5_faultInRoof_50 : decode cX5_faultInRoof 50 = .ok (.iconst 3, 1) := by decide +kernel
theorem dX5_faultInRoof_51 : decode cX5_faultInRoof 51 = .ok (.iadd, 1) := by decide +kernel
theorem dX5_faultInRoof_52 : decode cX5_faultInRoof 52 = .ok (.iconst 0, 1) := by decide +kernel
theorem dX5_faultInRoof_53 : decode cX5_faultInRoof 53 = .ok (.iconst 1, 1) := by decide +kernel
theorem dX5_faultInRoof_54 : decode cX5_faultInRoof 54 = .ok (.invokevirtual 30, 3) := by decide +kernel
theorem dX5_faultInRoof_57 : decode cX5_faultInRoof 57 = .ok (.ifCond .ne 7, 3) := by decide +kernel
theorem dX5_faultInRoof_60 : decode cX5_faultInRoof 60 = .ok (.iload_n 1, 1) := by decide +kernel
theorem dX5_faultInRoof_61 : decode cX5_faultInRoof 61 = .ok (.iconst 3, 1) := by decide +kernel
theorem dX5_faultInRoof_62 : decode cX5_faultInRoof 62 = .ok (.iadd, 1) := by decide +kernel
theorem dX5_faultInRoof_63 : decode cX5_faultInRoof 63 = .ok (.ireturn, 1) := by decide +kernel
theorem dX5_faultInRoof_64 : decode cX5_faultInRoof 64 = .ok (.aload_n 0, 1) := by decide +kernel
theorem dX5_faultInRoof_65 : decode cX5_faultInRoof 65 = .ok (.iload_n 1, 1) := by decide +kernel
theorem dX5_faultInRoof_66 : decode cX5_faultInRoof 66 = .ok (.iconst 4, 1) := by decide +kernel
theorem dX5_faultInRoof_67 : decode cX5_faultInRoof 67 = .ok (.iadd, 1) := by decide +kernel
theorem dX5_faultInRoof_68 : decode cX5_faultInRoof 68 = .ok (.iconst 0, 1) := by decide +kernel
theorem dX5_faultInRoof_69 : decode cX5_faultInRoof 69 = .ok (.iconst 3, 1) := by decide +kernel
theorem dX5_faultInRoof_70 : decode cX5_faultInRoof 70 = .ok (.invokevirtual 30, 3) := by decide +kernel
theorem dX5_faultInRoof_73 : decode cX5_faultInRoof 73 = .ok (.ifCond .eq 8, 3) := by decide +kernel
theorem dX5_faultInRoof_76 : decode cX5_faultInRoof 76 = .ok (.bipush (-9), 2) := by decide +kernel
theorem dX5_faultInRoof_78 : decode cX5_faultInRoof 78 = .ok (.goto 6, 3) := by decide +kernel
theorem dX5_faultInRoof_81 : decode cX5_faultInRoof 81 = .ok (.iload_n 1, 1) := by decide +kernel
theorem dX5_faultInRoof_82 : decode cX5_faultInRoof 82 = .ok (.iconst 4, 1) := by decide +kernel
theorem dX5_faultInRoof_83 : decode cX5_faultInRoof 83 = .ok (.iadd, 1) := by decide +kernel
theorem dX5_faultInRoof_84 : decode cX5_faultInRoof 84 = .ok (.ireturn, 1) := by decide +kernel
theorem dX5_faultInStar_0 : decode cX5_faultInStar 0 = .ok (.aload_n 0, 1) := by decide +kernel
theorem dX5_faultInStar_1 : decode cX5_faultInStar 1 = .ok (.iload_n 1, 1) := by decide +kernel
theorem dX5_faultInStar_2 : decode cX5_faultInStar 2 = .ok (.iconst 1, 1) := by decide +kernel
theorem dX5_faultInStar_3 : decode cX5_faultInStar 3 = .ok (.iadd, 1) := by decide +kernel
theorem dX5_faultInStar_4 : decode cX5_faultInStar 4 = .ok (.iconst 0, 1) := by decide +kernel
theorem dX5_faultInStar_5 : decode cX5_faultInStar 5 = .ok (.bipush 9, 2) := by decide +kernel
theorem dX5_faultInStar_7 : decode cX5_faultInStar 7 = .ok (.invokevirtual 30, 3) := by decide +kernel
theorem dX5_faultInStar_10 : decode cX5_faultInStar 10 = .ok (.ifCond .ne 7, 3) := by decide +kernel
theorem dX5_faultInStar_13 : decode cX5_faultInStar 13 = .ok (.iload_n 1, 1) := by decide +kernel
theorem dX5_faultInStar_14 : decode cX5_faultInStar 14 = .ok (.iconst 1, 1) := by decide +kernel
theorem dX5_faultInStar_15 : decode cX5_faultInStar 15 = .ok (.iadd, 1) := by decide +kernel
theorem dX5_faultInStar_16 : decode cX5_faultInStar 16 = .ok (.ireturn, 1) := by decide +kernel
theorem dX5_faultInStar_17 : decode cX5_faultInStar 17 = .ok (.aload_n 0, 1) := by decide +kernel
theorem dX5_faultInStar_18 : decode cX5_faultInStar 18 = .ok (.iload_n 1, 1) := by decide +kernel
theorem dX5_faultInStar_19 : decode cX5_faultInStar 19 = .ok (.iconst 2, 1) := by decide +kernel
theorem dX5_faultInStar_20 : decode cX5_faultInStar 20 = .ok (.iadd, 1) := by decide +kernel
theorem dX5_faultInStar_21 : decode cX5_faultInStar 21 = .ok (.iconst 0, 1) := by decide +kernel
theorem dX5_faultInStar_22 : decode cX5_faultInStar 22 = .ok (.iconst 3, 1) := by decide +kernel
theorem dX5_faultInStar_23 : decode cX5_faultInStar 23 = .ok (.invokevirtual 30, 3) := by decide +kernel
theorem dX5_faultInStar_26 : decode cX5_faultInStar 26 = .ok (.ifCond .ne 7, 3) := by decide +kernel
theorem dX5_faultInStar_29 : decode cX5_faultInStar 29 = .ok (.iload_n 1, 1) := by decide +kernel
theorem dX5_faultInStar_30 : decode cX5_faultInStar 30 = .ok (.iconst 2, 1) := by decide +kernel
theorem dX5_faultInStar_31 : decode cX5_faultInStar 31 = .ok (.iadd, 1) := by decide +kernel
theorem dX5_faultInStar_32 : decode cX5_faultInStar 32 = .ok (.ireturn, 1) := by decide +kernel
theorem dX5_faultInStar_33 : decode cX5_faultInStar 33 = .ok (.aload_n 0, 1) := by decide +kernel
theorem dX5_faultInStar_34 : decode cX5_faultInStar 34 = .ok (.iload_n 1, 1) := by decide +kernel
theorem dX5_faultInStar_35 : decode cX5_faultInStar 35 = .ok (.iconst 3, 1) := by decide +kernel
theorem dX5_faultInStar_36 : decode cX5_faultInStar 36 = .ok (.iadd, 1) := by decide +kernel
theorem dX5_faultInStar_37 : decode cX5_faultInStar 37 = .ok (.iconst 1, 1) := by decide +kernel
theorem dX5_faultInStar_38 : decode cX5_faultInStar 38 = .ok (.bipush 9, 2) := by decide +kernel
theorem dX5_faultInStar_40 : decode cX5_faultInStar 40 = .ok (.invokevirtual 30, 3) := by decide +kernel
theorem dX5_faultInStar_43 : decode cX5_faultInStar 43 = .ok (.ifCond .eq 8, 3) := by decide +kernel
theorem dX5_faultInStar_46 : decode cX5_faultInStar 46 = .ok (.bipush (-9), 2) := by decide +kernel
theorem dX5_faultInStar_48 : decode cX5_faultInStar 48 = .ok (.goto 6, 3) := by decide +kernel
theorem dX5_faultInStar_51 : decode cX5_faultInStar 51 = .ok (.iload_n 1, 1) := by decide +kernel
theorem dX5_faultInStar_52 : decode cX5_faultInStar 52 = .ok (.iconst 3, 1) := by decide +kernel
theorem dX5_faultInStar_53 : decode cX5_faultInStar 53 = .ok (.iadd, 1) := by decide +kernel
theorem dX5_faultInStar_54 : decode cX5_faultInStar 54 = .ok (.ireturn, 1) := by decide +kernel
theorem dX5_law_0 : decode cX5_law 0 = .ok (.aload_n 0, 1) := by decide +kernel
theorem dX5_law_1 : decode cX5_law 1 = .ok (.iconst 1, 1) := by decide +kernel
theorem dX5_law_2 : decode cX5_law 2 = .ok (.invokevirtual 27, 3) := by decide +kernel
theorem dX5_law_5 : decode cX5_law 5 = .ok (.ireturn, 1) := by decide +kernel
theorem dX5_tellParts_0 : decode cX5_tellParts 0 = .ok (.iconst 2, 1) := by decide +kernel
theorem dX5_tellParts_1 : decode cX5_tellParts 1 = .ok (.istore_n 3, 1) := by decide +kernel
theorem dX5_tellParts_2 : decode cX5_tellParts 2 = .ok (.iload_n 3, 1) := by decide +kernel
theorem dX5_tellParts_3 : decode cX5_tellParts 3 = .ok (.aload_n 0, 1) := by decide +kernel
theorem dX5_tellParts_4 : decode cX5_tellParts 4 = .ok (.getfield 15, 3) := by decide +kernel
theorem dX5_tellParts_7 : decode cX5_tellParts 7 = .ok (.if_icmp .ge 82, 3) := by decide +kernel
theorem dX5_tellParts_10 : decode cX5_tellParts 10 = .ok (.aload_n 0, 1) := by decide +kernel
theorem dX5_tellParts_11 : decode cX5_tellParts 11 = .ok (.iload_n 3, 1) := by decide +kernel
theorem dX5_tellParts_12 : decode cX5_tellParts 12 = .ok (.invokevirtual 23, 3) := by decide +kernel
theorem dX5_tellParts_15 : decode cX5_tellParts 15 = .ok (.bipush 82, 2) := by decide +kernel
theorem dX5_tellParts_17 : decode cX5_tellParts 17 = .ok (.if_icmp .ne 41, 3) := by decide +kernel
theorem dX5_tellParts_20 : decode cX5_tellParts 20 = .ok (.aload_n 1, 1) := by decide +kernel
theorem dX5_tellParts_21 : decode cX5_tellParts 21 = .ok (.aload_n 0, 1) := by decide +kernel
theorem dX5_tellParts_22 : decode cX5_tellParts 22 = .ok (.iload_n 3, 1) := by decide +kernel
theorem dX5_tellParts_23 : decode cX5_tellParts 23 = .ok (.iconst 1, 1) := by decide +kernel
theorem dX5_tellParts_24 : decode cX5_tellParts 24 = .ok (.iadd, 1) := by decide +kernel
theorem dX5_tellParts_25 : decode cX5_tellParts 25 = .ok (.invokevirtual 27, 3) := by decide +kernel
theorem dX5_tellParts_28 : decode cX5_tellParts 28 = .ok (.aload_n 0, 1) := by decide +kernel
theorem dX5_tellParts_29 : decode cX5_tellParts 29 = .ok (.iload_n 3, 1) := by decide +kernel
theorem dX5_tellParts_30 : decode cX5_tellParts 30 = .ok (.iconst 2, 1) := by decide +kernel
theorem dX5_tellParts_31 : decode cX5_tellParts 31 = .ok (.iadd, 1) := by decide +kernel
theorem dX5_tellParts_32 : decode cX5_tellParts 32 = .ok (.invokevirtual 27, 3) := by decide +kernel
theorem dX5_tellParts_35 : decode cX5_tellParts 35 = .ok (.aload_n 0, 1) := by decide +kernel
theorem dX5_tellParts_36 : decode cX5_tellParts 36 = .ok (.iload_n 3, 1) := by decide +kernel
theorem dX5_tellParts_37 : decode cX5_tellParts 37 = .ok (.iconst 3, 1) := by decide +kernel
theorem dX5_tellParts_38 : decode cX5_tellParts 38 = .ok (.iadd, 1) := by decide +kernel
theorem dX5_tellParts_39 : decode cX5_tellParts 39 = .ok (.invokevirtual 27, 3) := by decide +kernel
theorem dX5_tellParts_42 : decode cX5_tellParts 42 = .ok (.aload_n 0, 1) := by decide +kernel
theorem dX5_tellParts_43 : decode cX5_tellParts 43 = .ok (.iload_n 3, 1) := by decide +kernel
theorem dX5_tellParts_44 : decode cX5_tellParts 44 = .ok (.iconst 4, 1) := by decide +kernel
theorem dX5_tellParts_45 : decode cX5_tellParts 45 = .ok (.iadd, 1) := by decide +kernel
theorem dX5_tellParts_46 : decode cX5_tellParts 46 = .ok (.invokevirtual 27, 3) := by decide +kernel
theorem dX5_tellParts_49 : decode cX5_tellParts 49 = .ok (.invokevirtual 41, 3) := by decide +kernel
theorem dX5_tellParts_52 : decode cX5_tellParts 52 = .ok (.iinc 3 5, 3) := by decide +kernel
theorem dX5_tellParts_55 : decode cX5_tellParts 55 = .ok (.goto (-53), 3) := by decide +kernel
theorem dX5_tellParts_58 : decode cX5_tellParts 58 = .ok (.aload_n 2, 1) := by decide +kernel
theorem dX5_tellParts_59 : decode cX5_tellParts 59 = .ok (.aload_n 0, 1) := by decide +kernel
theorem dX5_tellParts_60 : decode cX5_tellParts 60 = .ok (.iload_n 3, 1) := by decide +kernel
theorem dX5_tellParts_61 : decode cX5_tellParts 61 = .ok (.iconst 1, 1) := by decide +kernel
theorem dX5_tellParts_62 : decode cX5_tellParts 62 = .ok (.iadd, 1) := by decide +kernel
theorem dX5_tellParts_63 : decode cX5_tellParts 63 = .ok (.invokevirtual 27, 3) := by decide +kernel
theorem dX5_tellParts_66 : decode cX5_tellParts 66 = .ok (.aload_n 0, 1) := by decide +kernel
theorem dX5_tellParts_67 : decode cX5_tellParts 67 = .ok (.iload_n 3, 1) := by decide +kernel
theorem dX5_tellParts_68 : decode cX5_tellParts 68 = .ok (.iconst 2, 1) := by decide +kernel
theorem dX5_tellParts_69 : decode cX5_tellParts 69 = .ok (.iadd, 1) := by decide +kernel
theorem dX5_tellParts_70 : decode cX5_tellParts 70 = .ok (.invokevirtual 27, 3) := by decide +kernel
theorem dX5_tellParts_73 : decode cX5_tellParts 73 = .ok (.aload_n 0, 1) := by decide +kernel
theorem dX5_tellParts_74 : decode cX5_tellParts 74 = .ok (.iload_n 3, 1) := by decide +kernel
theorem dX5_tellParts_75 : decode cX5_tellParts 75 = .ok (.iconst 3, 1) := by decide +kernel
theorem dX5_tellParts_76 : decode cX5_tellParts 76 = .ok (.iadd, 1) := by decide +kernel
theorem dX5_tellParts_77 : decode cX5_tellParts 77 = .ok (.invokevirtual 27, 3) := by decide +kernel
theorem dX5_tellParts_80 : decode cX5_tellParts 80 = .ok (.invokevirtual 47, 3) := by decide +kernel
theorem dX5_tellParts_83 : decode cX5_tellParts 83 = .ok (.iinc 3 4, 3) := by decide +kernel
theorem dX5_tellParts_86 : decode cX5_tellParts 86 = .ok (.goto (-84), 3) := by decide +kernel
theorem dX5_tellParts_89 : decode cX5_tellParts 89 = .ok (.return_, 1) := by decide +kernel
theorem dX6_init_0 : decode cX6_init 0 = .ok (.aload_n 0, 1) := by decide +kernel
theorem dX6_init_1 : decode cX6_init 1 = .ok (.invokespecial 3, 3) := by decide +kernel
theorem dX6_init_4 : decode cX6_init 4 = .ok (.aload_n 0, 1) := by decide +kernel
theorem dX6_init_5 : decode cX6_init 5 = .ok (.iconst 5, 1) := by decide +kernel
theorem dX6_init_6 : decode cX6_init 6 = .ok (.newarray .int, 2) := by decide +kernel
theorem dX6_init_8 : decode cX6_init 8 = .ok (.putfield 9, 3) := by decide +kernel
theorem dX6_init_11 : decode cX6_init 11 = .ok (.aload_n 0, 1) := by decide +kernel
theorem dX6_init_12 : decode cX6_init 12 = .ok (.iconst 5, 1) := by decide +kernel
theorem dX6_init_13 : decode cX6_init 13 = .ok (.newarray .int, 2) := by decide +kernel
theorem dX6_init_15 : decode cX6_init 15 = .ok (.putfield 15, 3) := by decide +kernel
theorem dX6_init_18 : decode cX6_init 18 = .ok (.aload_n 0, 1) := by decide +kernel
theorem dX6_init_19 : decode cX6_init 19 = .ok (.iconst 5, 1) := by decide +kernel
theorem dX6_init_20 : decode cX6_init 20 = .ok (.newarray .int, 2) := by decide +kernel
theorem dX6_init_22 : decode cX6_init 22 = .ok (.putfield 18, 3) := by decide +kernel
theorem dX6_init_25 : decode cX6_init 25 = .ok (.aload_n 0, 1) := by decide +kernel
theorem dX6_init_26 : decode cX6_init 26 = .ok (.iconst 4, 1) := by decide +kernel
theorem dX6_init_27 : decode cX6_init 27 = .ok (.newarray .int, 2) := by decide +kernel
theorem dX6_init_29 : decode cX6_init 29 = .ok (.putfield 21, 3) := by decide +kernel
theorem dX6_init_32 : decode cX6_init 32 = .ok (.return_, 1) := by decide +kernel
theorem dX6_clear_0 : decode cX6_clear 0 = .ok (.aload_n 0, 1) := by decide +kernel
theorem dX6_clear_1 : decode cX6_clear 1 = .ok (.iconst 0, 1) := by decide +kernel
theorem dX6_clear_2 : decode cX6_clear 2 = .ok (.putfield 24, 3) := by decide +kernel
theorem dX6_clear_5 : decode cX6_clear 5 = .ok (.aload_n 0, 1) := by decide +kernel
theorem dX6_clear_6 : decode cX6_clear 6 = .ok (.iconst 0, 1) := by decide +kernel
theorem dX6_clear_7 : decode cX6_clear 7 = .ok (.putfield 28, 3) := by decide +kernel
theorem dX6_clear_10 : decode cX6_clear 10 = .ok (.aload_n 0, 1) := by decide +kernel
theorem dX6_clear_11 : decode cX6_clear 11 = .ok (.iconst 0, 1) := by decide +kernel
theorem dX6_clear_12 : decode cX6_clear 12 = .ok (.putfield 31, 3) := by decide +kernel
theorem dX6_clear_15 : decode cX6_clear 15 = .ok (.aload_n 0, 1) := by decide +kernel
theorem dX6_clear_16 : decode cX6_clear 16 = .ok (.iconst 0, 1) := by decide +kernel
theorem dX6_clear_17 : decode cX6_clear 17 = .ok (.putfield 34, 3) := by decide +kernel
theorem dX6_clear_20 : decode cX6_clear 20 = .ok (.iconst 0, 1) := by decide +kernel
theorem dX6_clear_21 : decode cX6_clear 21 = .ok (.istore_n 1, 1) := by decide +kernel
theorem dX6_clear_22 : decode cX6_clear 22 = .ok (.iload_n 1, 1) := by decide +kernel
theorem dX6_clear_23 : decode cX6_clear 23 = .ok (.iconst 4, 1) := by decide +kernel
theorem dX6_clear_24 : decode cX6_clear 24 = .ok (.if_icmp .ge 16, 3) := by decide +kernel
theorem dX6_clear_27 : decode cX6_clear 27 = .ok (.aload_n 0, 1) := by decide +kernel
theorem dX6_clear_28 : decode cX6_clear 28 = .ok (.getfield 21, 3) := by decide +kernel
theorem dX6_clear_31 : decode cX6_clear 31 = .ok (.iload_n 1, 1) := by decide +kernel
theorem dX6_clear_32 : decode cX6_clear 32 = .ok (.iconst 0, 1) := by decide +kernel
theorem dX6_clear_33 : decode cX6_clear 33 = .ok (.iastore, 1) := by decide +kernel
theorem dX6_clear_34 : decode cX6_clear 34 = .ok (.iinc 1 1, 3) := by decide +kernel
theorem dX6_clear_37 : decode cX6_clear 37 = .ok (.goto (-15), 3) := by decide +kernel
theorem dX6_clear_40 : decode cX6_clear 40 = .ok (.return_, 1) := by decide +kernel
theorem dX6_copyOf_0 : decode cX6_copyOf 0 = .ok (.aload_n 1, 1) := by decide +kernel
theorem dX6_copyOf_1 : decode cX6_copyOf 1 = .ok (.getfield 9, 3) := by decide +kernel
theorem dX6_copyOf_4 : decode cX6_copyOf 4 = .ok (.iconst 0, 1) := by decide +kernel
theorem dX6_copyOf_5 : decode cX6_copyOf 5 = .ok (.aload_n 0, 1) := by decide +kernel
theorem dX6_copyOf_6 : decode cX6_copyOf 6 = .ok (.getfield 9, 3) := by decide +kernel
theorem dX6_copyOf_9 : decode cX6_copyOf 9 = .ok (.iconst 0, 1) := by decide +kernel
theorem dX6_copyOf_10 : decode cX6_copyOf 10 = .ok (.iconst 5, 1) := by decide +kernel
theorem dX6_copyOf_11 : decode cX6_copyOf 11 = .ok (.invokestatic 38, 3) := by decide +kernel
theorem dX6_copyOf_14 : decode cX6_copyOf 14 = .ok (.aload_n 1, 1) := by decide +kernel
theorem dX6_copyOf_15 : decode cX6_copyOf 15 = .ok (.getfield 15, 3) := by decide +kernel
theorem dX6_copyOf_18 : decode cX6_copyOf 18 = .ok (.iconst 0, 1) := by decide +kernel
theorem dX6_copyOf_19 : decode cX6_copyOf 19 = .ok (.aload_n 0, 1) := by decide +kernel
theorem dX6_copyOf_20 : decode cX6_copyOf 20 = .ok (.getfield 15, 3) := by decide +kernel
theorem dX6_copyOf_23 : decode cX6_copyOf 23 = .ok (.iconst 0, 1) := by decide +kernel
theorem dX6_copyOf_24 : decode cX6_copyOf 24 = .ok (.iconst 5, 1) := by decide +kernel
theorem dX6_copyOf_25 : decode cX6_copyOf 25 = .ok (.invokestatic 38, 3) := by decide +kernel
theorem dX6_copyOf_28 : decode cX6_copyOf 28 = .ok (.aload_n 1, 1) := by decide +kernel
theorem dX6_copyOf_29 : decode cX6_copyOf 29 = .ok (.getfield 18, 3) := by decide +kernel
theorem dX6_copyOf_32 : decode cX6_copyOf 32 = .ok (.iconst 0, 1) := by decide +kernel
theorem dX6_copyOf_33 : decode cX6_copyOf 33 = .ok (.aload_n 0, 1) := by decide +kernel
theorem dX6_copyOf_34 : decode cX6_copyOf 34 = .ok (.getfield 18, 3) := by decide +kernel
theorem dX6_copyOf_37 : decode cX6_copyOf 37 = .ok (.iconst 0, 1) := by decide +kernel
theorem dX6_copyOf_38 : decode cX6_copyOf 38 = .ok (.iconst 5, 1) := by decide +kernel
theorem dX6_copyOf_39 : decode cX6_copyOf 39 = .ok (.invokestatic 38, 3) := by decide +kernel
theorem dX6_copyOf_42 : decode cX6_copyOf 42 = .ok (.aload_n 1, 1) := by decide +kernel
theorem dX6_copyOf_43 : decode cX6_copyOf 43 = .ok (.getfield 21, 3) := by decide +kernel
theorem dX6_copyOf_46 : decode cX6_copyOf 46 = .ok (.iconst 0, 1) := by decide +kernel
theorem dX6_copyOf_47 : decode cX6_copyOf 47 = .ok (.aload_n 0, 1) := by decide +kernel
theorem dX6_copyOf_48 : decode cX6_copyOf 48 = .ok (.getfield 21, 3) := by decide +kernel
theorem dX6_copyOf_51 : decode cX6_copyOf 51 = .ok (.iconst 0, 1) := by decide +kernel
theorem dX6_copyOf_52 : decode cX6_copyOf 52 = .ok (.iconst 4, 1) := by decide +kernel
theorem dX6_copyOf_53 : decode cX6_copyOf 53 = .ok (.invokestatic 38, 3) := by decide +kernel
theorem dX6_copyOf_56 : decode cX6_copyOf 56 = .ok (.aload_n 0, 1) := by decide +kernel
theorem dX6_copyOf_57 : decode cX6_copyOf 57 = .ok (.aload_n 1, 1) := by decide +kernel
theorem dX6_copyOf_58 : decode cX6_copyOf 58 = .ok (.getfield 24, 3) := by decide +kernel
theorem dX6_copyOf_61 : decode cX6_copyOf 61 = .ok (.putfield 24, 3) := by decide +kernel
theorem dX6_copyOf_64 : decode cX6_copyOf 64 = .ok (.aload_n 0, 1) := by decide +kernel
theorem dX6_copyOf_65 : decode cX6_copyOf 65 = .ok (.aload_n 1, 1) := by decide +kernel
theorem dX6_copyOf_66 : decode cX6_copyOf 66 = .ok (.getfield 28, 3) := by decide +kernel
theorem dX6_copyOf_69 : decode cX6_copyOf 69 = .ok (.putfield 28, 3) := by decide +kernel
theorem dX6_copyOf_72 : decode cX6_copyOf 72 = .ok (.aload_n 0, 1) := by decide +kernel
theorem dX6_copyOf_73 : decode cX6_copyOf 73 = .ok (.aload_n 1, 1) := by decide +kernel
theorem dX6_copyOf_74 : decode cX6_copyOf 74 = .ok (.getfield 31, 3) := by decide +kernel
theorem dX6_copyOf_77 : decode cX6_copyOf 77 = .ok (.putfield 31, 3) := by decide +kernel
theorem dX6_copyOf_80 : decode cX6_copyOf 80 = .ok (.aload_n 0, 1) := by decide +kernel
theorem dX6_copyOf_81 : decode cX6_copyOf 81 = .ok (.aload_n 1, 1) := by decide +kernel
theorem dX6_copyOf_82 : decode cX6_copyOf 82 = .ok (.getfield 34, 3) := by decide +kernel
theorem dX6_copyOf_85 : decode cX6_copyOf 85 = .ok (.putfield 34, 3) := by decide +kernel
theorem dX6_copyOf_88 : decode cX6_copyOf 88 = .ok (.return_, 1) := by decide +kernel
theorem dX6_addRoof_0 : decode cX6_addRoof 0 = .ok (.aload_n 0, 1) := by decide +kernel
theorem dX6_addRoof_1 : decode cX6_addRoof 1 = .ok (.getfield 24, 3) := by decide +kernel
theorem dX6_addRoof_4 : decode cX6_addRoof 4 = .ok (.iconst 5, 1) := by decide +kernel
theorem dX6_addRoof_5 : decode cX6_addRoof 5 = .ok (.if_icmp .ge 59, 3) := by decide +kernel
theorem dX6_addRoof_8 : decode cX6_addRoof 8 = .ok (.aload_n 0, 1) := by decide +kernel
theorem dX6_addRoof_9 : decode cX6_addRoof 9 = .ok (.getfield 9, 3) := by decide +kernel
theorem dX6_addRoof_12 : decode cX6_addRoof 12 = .ok (.aload_n 0, 1) := by decide +kernel
theorem dX6_addRoof_13 : decode cX6_addRoof 13 = .ok (.getfield 24, 3) := by decide +kernel
theorem dX6_addRoof_16 : decode cX6_addRoof 16 = .ok (.iload_n 1, 1) := by decide +kernel
theorem dX6_addRoof_17 : decode cX6_addRoof 17 = .ok (.iastore, 1) := by decide +kernel
theorem dX6_addRoof_18 : decode cX6_addRoof 18 = .ok (.aload_n 0, 1) := by decide +kernel
theorem dX6_addRoof_19 : decode cX6_addRoof 19 = .ok (.getfield 15, 3) := by decide +kernel
theorem dX6_addRoof_22 : decode cX6_addRoof 22 = .ok (.aload_n 0, 1) := by decide +kernel
theorem dX6_addRoof_23 : decode cX6_addRoof 23 = .ok (.getfield 24, 3) := by decide +kernel
theorem dX6_addRoof_26 : decode cX6_addRoof 26 = .ok (.iload_n 2, 1) := by decide +kernel
theorem dX6_addRoof_27 : decode cX6_addRoof 27 = .ok (.iastore, 1) := by decide +kernel
theorem dX6_addRoof_28 : decode cX6_addRoof 28 = .ok (.aload_n 0, 1) := by decide +kernel
theorem dX6_addRoof_29 : decode cX6_addRoof 29 = .ok (.getfield 18, 3) := by decide +kernel
theorem dX6_addRoof_32 : decode cX6_addRoof 32 = .ok (.aload_n 0, 1) := by decide +kernel
theorem dX6_addRoof_33 : decode cX6_addRoof 33 = .ok (.getfield 24, 3) := by decide +kernel
theorem dX6_addRoof_36 : decode cX6_addRoof 36 = .ok (.iload 4, 2) := by decide +kernel
theorem dX6_addRoof_38 : decode cX6_addRoof 38 = .ok (.iastore, 1) := by decide +kernel
theorem dX6_addRoof_39 : decode cX6_addRoof 39 = .ok (.aload_n 0, 1) := by decide +kernel
theorem dX6_addRoof_40 : decode cX6_addRoof 40 = .ok (.dup, 1) := by decide +kernel
theorem dX6_addRoof_41 : decode cX6_addRoof 41 = .ok (.getfield 28, 3) := by decide +kernel
theorem dX6_addRoof_44 : decode cX6_addRoof 44 = .ok (.iload_n 3, 1) := by decide +kernel
theorem dX6_addRoof_45 : decode cX6_addRoof 45 = .ok (.aload_n 0, 1) := by decide +kernel
theorem dX6_addRoof_46 : decode cX6_addRoof 46 = .ok (.getfield 24, 3) := by decide +kernel
theorem dX6_addRoof_49 : decode cX6_addRoof 49 = .ok (.ishl, 1) := by decide +kernel
theorem dX6_addRoof_50 : decode cX6_addRoof 50 = .ok (.ior, 1) := by decide +kernel
theorem dX6_addRoof_51 : decode cX6_addRoof 51 = .ok (.putfield 28, 3) := by decide +kernel
theorem dX6_addRoof_54 : decode cX6_addRoof 54 = .ok (.aload_n 0, 1) := by decide +kernel
theorem dX6_addRoof_55 : decode cX6_addRoof 55 = .ok (.dup, 1) := by decide +kernel
theorem dX6_addRoof_56 : decode cX6_addRoof 56 = .ok (.getfield 24, 3) := by decide +kernel
theorem dX6_addRoof_59 : decode cX6_addRoof 59 = .ok (.iconst 1, 1) := by decide +kernel
theorem dX6_addRoof_60 : decode cX6_addRoof 60 = .ok (.iadd, 1) := by decide +kernel
theorem dX6_addRoof_61 : decode cX6_addRoof 61 = .ok (.putfield 24, 3) := by decide +kernel
theorem dX6_addRoof_64 : decode cX6_addRoof 64 = .ok (.return_, 1) := by decide +kernel
theorem dX6_hasRoof_0 : decode cX6_hasRoof 0 = .ok (.iload_n 1, 1) := by decide +kernel
theorem dX6_hasRoof_1 : decode cX6_hasRoof 1 = .ok (.ifCond .lt 20, 3) := by decide +kernel
theorem dX6_hasRoof_4 : decode cX6_hasRoof 4 = .ok (.iload_n 1, 1) := by decide +kernel
theorem dX6_hasRoof_5 : decode cX6_hasRoof 5 = .ok (.aload_n 0, 1) := by decide +kernel
theorem dX6_hasRoof_6 : decode cX6_hasRoof 6 = .ok (.getfield 24, 3) := by decide +kernel
theorem dX6_hasRoof_9 : decode cX6_hasRoof 9 = .ok (.if_icmp .ge 12, 3) := by decide +kernel
theorem dX6_hasRoof_12 : decode cX6_hasRoof 12 = .ok (.iload_n 1, 1) := by decide +kernel
theorem dX6_hasRoof_13 : decode cX6_hasRoof 13 = .ok (.iconst 5, 1) := by decide +kernel
theorem dX6_hasRoof_14 : decode cX6_hasRoof 14 = .ok (.if_icmp .ge 7, 3) := by decide +kernel
theorem dX6_hasRoof_17 : decode cX6_hasRoof 17 = .ok (.iconst 1, 1) := by decide +kernel
theorem dX6_hasRoof_18 : decode cX6_hasRoof 18 = .ok (.goto 4, 3) := by decide +kernel
theorem dX6_hasRoof_21 : decode cX6_hasRoof 21 = .ok (.iconst 0, 1) := by decide +kernel
theorem dX6_hasRoof_22 : decode cX6_hasRoof 22 = .ok (.ireturn, 1) := by decide +kernel
theorem dX6_setHeight_0 : decode cX6_setHeight 0 = .ok (.aload_n 0, 1) := by decide +kernel
theorem dX6_setHeight_1 : decode cX6_setHeight 1 = .ok (.iload_n 1, 1) := by decide +kernel
theorem dX6_setHeight_2 : decode cX6_setHeight 2 = .ok (.invokevirtual 44, 3) := by decide +kernel
theorem dX6_setHeight_5 : decode cX6_setHeight 5 = .ok (.ifCond .eq 10, 3) := by decide +kernel
theorem dX6_setHeight_8 : decode cX6_setHeight 8 = .ok (.aload_n 0, 1) := by decide +kernel
theorem dX6_setHeight_9 : decode cX6_setHeight 9 = .ok (.getfield 15, 3) := by decide +kernel
theorem dX6_setHeight_12 : decode cX6_setHeight 12 = .ok (.iload_n 1, 1) := by decide +kernel
theorem dX6_setHeight_13 : decode cX6_setHeight 13 = .ok (.iload_n 2, 1) := by decide +kernel
theorem dX6_setHeight_14 : decode cX6_setHeight 14 = .ok (.iastore, 1) := by decide +kernel
theorem dX6_setHeight_15 : decode cX6_setHeight 15 = .ok (.return_, 1) := by decide +kernel
theorem dX6_setOwner_0 : decode cX6_setOwner 0 = .ok (.aload_n 0, 1) := by decide +kernel
theorem dX6_setOwner_1 : decode cX6_setOwner 1 = .ok (.iload_n 1, 1) := by decide +kernel
theorem dX6_setOwner_2 : decode cX6_setOwner 2 = .ok (.invokevirtual 44, 3) := by decide +kernel
theorem dX6_setOwner_5 : decode cX6_setOwner 5 = .ok (.ifCond .eq 10, 3) := by decide +kernel
theorem dX6_setOwner_8 : decode cX6_setOwner 8 = .ok (.aload_n 0, 1) := by decide +kernel
theorem dX6_setOwner_9 : decode cX6_setOwner 9 = .ok (.getfield 18, 3) := by decide +kernel
theorem dX6_setOwner_12 : decode cX6_setOwner 12 = .ok (.iload_n 1, 1) := by decide +kernel
theorem dX6_setOwner_13 : decode cX6_setOwner 13 = .ok (.iload_n 2, 1) := by decide +kernel
theorem dX6_setOwner_14 : decode cX6_setOwner 14 = .ok (.iastore, 1) := by decide +kernel
theorem dX6_setOwner_15 : decode cX6_setOwner 15 = .ok (.return_, 1) := by decide +kernel
theorem dX6_everyRoof_0 : decode cX6_everyRoof 0 = .ok (.iconst 1, 1) := by decide +kernel
theorem dX6_everyRoof_1 : decode cX6_everyRoof 1 = .ok (.aload_n 0, 1) := by decide +kernel
theorem dX6_everyRoof_2 : decode cX6_everyRoof 2 = .ok (.getfield 24, 3) := by decide +kernel
theorem dX6_everyRoof_5 : decode cX6_everyRoof 5 = .ok (.ishl, 1) := by decide +kernel
theorem dX6_everyRoof_6 : decode cX6_everyRoof 6 = .ok (.iconst 1, 1) := by decide +kernel
theorem dX6_everyRoof_7 : decode cX6_everyRoof 7 = .ok (.isub, 1) := by decide +kernel
theorem dX6_everyRoof_8 : decode cX6_everyRoof 8 = .ok (.ireturn, 1) := by decide +kernel
theorem dX6_roofsOf_0 : decode cX6_roofsOf 0 = .ok (.iconst 0, 1) := by decide +kernel
theorem dX6_roofsOf_1 : decode cX6_roofsOf 1 = .ok (.istore_n 2, 1) := by decide +kernel
theorem dX6_roofsOf_2 : decode cX6_roofsOf 2 = .ok (.iconst 0, 1) := by decide +kernel
theorem dX6_roofsOf_3 : decode cX6_roofsOf 3 = .ok (.istore_n 3, 1) := by decide +kernel
theorem dX6_roofsOf_4 : decode cX6_roofsOf 4 = .ok (.iload_n 3, 1) := by decide +kernel
theorem dX6_roofsOf_5 : decode cX6_roofsOf 5 = .ok (.iconst 5, 1) := by decide +kernel
theorem dX6_roofsOf_6 : decode cX6_roofsOf 6 = .ok (.if_icmp .ge 33, 3) := by decide +kernel
theorem dX6_roofsOf_9 : decode cX6_roofsOf 9 = .ok (.aload_n 0, 1) := by decide +kernel
theorem dX6_roofsOf_10 : decode cX6_roofsOf 10 = .ok (.iload_n 3, 1) := by decide +kernel
theorem dX6_roofsOf_11 : decode cX6_roofsOf 11 = .ok (.invokevirtual 44, 3) := by decide +kernel
theorem dX6_roofsOf_14 : decode cX6_roofsOf 14 = .ok (.ifCond .eq 19, 3) := by decide +kernel
theorem dX6_roofsOf_17 : decode cX6_roofsOf 17 = .ok (.aload_n 0, 1) := by decide +kernel
theorem dX6_roofsOf_18 : decode cX6_roofsOf 18 = .ok (.getfield 18, 3) := by decide +kernel
theorem dX6_roofsOf_21 : decode cX6_roofsOf 21 = .ok (.iload_n 3, 1) := by decide +kernel
theorem dX6_roofsOf_22 : decode cX6_roofsOf 22 = .ok (.iaload, 1) := by decide +kernel
theorem dX6_roofsOf_23 : decode cX6_roofsOf 23 = .ok (.iload_n 1, 1) := by decide +kernel
theorem dX6_roofsOf_24 : decode cX6_roofsOf 24 = .ok (.if_icmp .ne 9, 3) := by decide +kernel
theorem dX6_roofsOf_27 : decode cX6_roofsOf 27 = .ok (.iload_n 2, 1) := by decide +kernel
theorem dX6_roofsOf_28 : decode cX6_roofsOf 28 = .ok (.iconst 1, 1) := by decide +kernel
theorem dX6_roofsOf_29 : decode cX6_roofsOf 29 = .ok (.iload_n 3, 1) := by decide +kernel
theorem dX6_roofsOf_30 : decode cX6_roofsOf 30 = .ok (.ishl, 1) := by decide +kernel
theorem dX6_roofsOf_31 : decode cX6_roofsOf 31 = .ok (.ior, 1) := by decide +kernel
theorem dX6_roofsOf_32 : decode cX6_roofsOf 32 = .ok (.istore_n 2, 1) := by decide +kernel
theorem dX6_roofsOf_33 : decode cX6_roofsOf 33 = .ok (.iinc 3 1, 3) := by decide +kernel
theorem dX6_roofsOf_36 : decode cX6_roofsOf 36 = .ok (.goto (-32), 3) := by decide +kernel
theorem dX6_roofsOf_39 : decode cX6_roofsOf 39 = .ok (.iload_n 2, 1) := by decide +kernel
theorem dX6_roofsOf_40 : decode cX6_roofsOf 40 = .ok (.ireturn, 1) := by decide +kernel
theorem dX6_shadedRoofs_0 : decode cX6_shadedRoofs 0 = .ok (.iconst 0, 1) := by decide +kernel
theorem dX6_shadedRoofs_1 : decode cX6_shadedRoofs 1 = .ok (.istore_n 1, 1) := by decide +kernel
theorem dX6_shadedRoofs_2 : decode cX6_shadedRoofs 2 = .ok (.iconst 0, 1) := by decide +kernel
theorem dX6_shadedRoofs_3 : decode cX6_shadedRoofs 3 = .ok (.istore_n 2, 1) := by decide +kernel
theorem dX6_shadedRoofs_4 : decode cX6_shadedRoofs 4 = .ok (.iload_n 2, 1) := by decide +kernel
theorem dX6_shadedRoofs_5 : decode cX6_shadedRoofs 5 = .ok (.iconst 5, 1) := by decide +kernel
theorem dX6_shadedRoofs_6 : decode cX6_shadedRoofs 6 = .ok (.if_icmp .ge 27, 3) := by decide +kernel
theorem dX6_shadedRoofs_9 : decode cX6_shadedRoofs 9 = .ok (.aload_n 0, 1) := by decide +kernel
theorem dX6_shadedRoofs_10 : decode cX6_shadedRoofs 10 = .ok (.iload_n 2, 1) := by decide +kernel
theorem dX6_shadedRoofs_11 : decode cX6_shadedRoofs 11 = .ok (.aload_n 0, 1) := by decide +kernel
theorem dX6_shadedRoofs_12 : decode cX6_shadedRoofs 12 = .ok (.invokevirtual 48, 3) := by decide +kernel
theorem dX6_shadedRoofs_15 : decode cX6_shadedRoofs 15 = .ok (.invokevirtual 52, 3) := by decide +kernel
theorem dX6_shadedRoofs_18 : decode cX6_shadedRoofs 18 = .ok (.ifCond .eq 9, 3) := by decide +kernel
theorem dX6_shadedRoofs_21 : decode cX6_shadedRoofs 21 = .ok (.iload_n 1, 1) := by decide +kernel
theorem dX6_shadedRoofs_22 : decode cX6_shadedRoofs 22 = .ok (.iconst 1, 1) := by decide +kernel
theorem dX6_shadedRoofs_23 : decode cX6_shadedRoofs 23 = .ok (.iload_n 2, 1) := by decide +kernel
theorem dX6_shadedRoofs_24 : decode cX6_shadedRoofs 24 = .ok (.ishl, 1) := by decide +kernel
theorem dX6_shadedRoofs_25 : decode cX6_shadedRoofs 25 = .ok (.ior, 1) := by decide +kernel
theorem dX6_shadedRoofs_26 : decode cX6_shadedRoofs 26 = .ok (.istore_n 1, 1) := by decide +kernel
theorem dX6_shadedRoofs_27 : decode cX6_shadedRoofs 27 = .ok (.iinc 2 1, 3) := by decide +kernel
theorem dX6_shadedRoofs_30 : decode cX6_shadedRoofs 30 = .ok (.goto (-26), 3) := by decide +kernel
theorem dX6_shadedRoofs_33 : decode cX6_shadedRoofs 33 = .ok (.iload_n 1, 1) := by decide +kernel
theorem dX6_shadedRoofs_34 : decode cX6_shadedRoofs 34 = .ok (.ireturn, 1) := by decide +kernel
theorem dX6_distance_0 : decode cX6_distance 0 = .ok (.aload_n 0, 1) := by decide +kernel
theorem dX6_distance_1 : decode cX6_distance 1 = .ok (.iload_n 1, 1) := by decide +kernel
theorem dX6_distance_2 : decode cX6_distance 2 = .ok (.invokevirtual 44, 3) := by decide +kernel
theorem dX6_distance_5 : decode cX6_distance 5 = .ok (.ifCond .eq 17, 3) := by decide +kernel
theorem dX6_distance_8 : decode cX6_distance 8 = .ok (.aload_n 0, 1) := by decide +kernel
theorem dX6_distance_9 : decode cX6_distance 9 = .ok (.getfield 9, 3) := by decide +kernel
theorem dX6_distance_12 : decode cX6_distance 12 = .ok (.iload_n 1, 1) := by decide +kernel
theorem dX6_distance_13 : decode cX6_distance 13 = .ok (.iaload, 1) := by decide +kernel
theorem dX6_distance_14 : decode cX6_distance 14 = .ok (.iload_n 2, 1) := by decide +kernel
theorem dX6_distance_15 : decode cX6_distance 15 = .ok (.isub, 1) := by decide +kernel
theorem dX6_distance_16 : decode cX6_distance 16 = .ok (.invokestatic 56, 3) := by decide +kernel
theorem dX6_distance_19 : decode cX6_distance 19 = .ok (.goto 5, 3) := by decide +kernel
theorem dX6_distance_22 : decode cX6_distance 22 = .ok (.bipush 10, 2) := by decide +kernel
theorem dX6_distance_24 : decode cX6_distance 24 = .ok (.ireturn, 1) := by decide +kernel
theorem dX6_isShaded_0 : decode cX6_isShaded 0 = .ok (.aload_n 0, 1) := by decide +kernel
theorem dX6_isShaded_1 : decode cX6_isShaded 1 = .ok (.iload_n 1, 1) := by decide +kernel
theorem dX6_isShaded_2 : decode cX6_isShaded 2 = .ok (.invokevirtual 44, 3) := by decide +kernel
theorem dX6_isShaded_5 : decode cX6_isShaded 5 = .ok (.ifCond .ne 5, 3) := by decide +kernel
theorem dX6_isShaded_8 : decode cX6_isShaded 8 = .ok (.iconst 0, 1) := by decide +kernel
theorem dX6_isShaded_9 : decode cX6_isShaded 9 = .ok (.ireturn, 1) := by decide +kernel
theorem dX6_isShaded_10 : decode cX6_isShaded 10 = .ok (.iconst 0, 1) := by decide +kernel
theorem dX6_isShaded_11 : decode cX6_isShaded 11 = .ok (.istore_n 3, 1) := by decide +kernel
theorem dX6_isShaded_12 : decode cX6_isShaded 12 = .ok (.iload_n 3, 1) := by decide +kernel
theorem dX6_isShaded_13 : decode cX6_isShaded 13 = .ok (.iconst 5, 1) := by decide +kernel
theorem dX6_isShaded_14 : decode cX6_isShaded 14 = .ok (.if_icmp .ge 63, 3) := by decide +kernel
theorem dX6_isShaded_17 : decode cX6_isShaded 17 = .ok (.iload_n 2, 1) := by decide +kernel
theorem dX6_isShaded_18 : decode cX6_isShaded 18 = .ok (.iload_n 3, 1) := by decide +kernel
theorem dX6_isShaded_19 : decode cX6_isShaded 19 = .ok (.ishr, 1) := by decide +kernel
theorem dX6_isShaded_20 : decode cX6_isShaded 20 = .ok (.iconst 1, 1) := by decide +kernel
theorem dX6_isShaded_21 : decode cX6_isShaded 21 = .ok (.iand, 1) := by decide +kernel
theorem dX6_isShaded_22 : decode cX6_isShaded 22 = .ok (.ifCond .eq 22, 3) := by decide +kernel
theorem dX6_isShaded_25 : decode cX6_isShaded 25 = .ok (.aload_n 0, 1) := by decide +kernel
theorem dX6_isShaded_26 : decode cX6_isShaded 26 = .ok (.iload_n 3, 1) := by decide +kernel
theorem dX6_isShaded_27 : decode cX6_isShaded 27 = .ok (.aload_n 0, 1) := by decide +kernel
theorem dX6_isShaded_28 : decode cX6_isShaded 28 = .ok (.getfield 9, 3) := by decide +kernel
theorem dX6_isShaded_31 : decode cX6_isShaded 31 = .ok (.iload_n 1, 1) := by decide +kernel
theorem dX6_isShaded_32 : decode cX6_isShaded 32 = .ok (.iaload, 1) := by decide +kernel
theorem dX6_isShaded_33 : decode cX6_isShaded 33 = .ok (.invokevirtual 62, 3) := by decide +kernel
theorem dX6_isShaded_36 : decode cX6_isShaded 36 = .ok (.iconst 1, 1) := by decide +kernel
theorem dX6_isShaded_37 : decode cX6_isShaded 37 = .ok (.if_icmp .ne 7, 3) := by decide +kernel
theorem dX6_isShaded_40 : decode cX6_isShaded 40 = .ok (.iconst 1, 1) := by decide +kernel
theorem dX6_isShaded_41 : decode cX6_isShaded 41 = .ok (.goto 4, 3) := by decide +kernel
theorem dX6_isShaded_44 : decode cX6_isShaded 44 = .ok (.iconst 0, 1) := by decide +kernel
theorem dX6_isShaded_45 : decode cX6_isShaded 45 = .ok (.istore 4, 2) := by decide +kernel
theorem dX6_isShaded_47 : decode cX6_isShaded 47 = .ok (.iload 4, 2) := by decide +kernel
theorem dX6_isShaded_49 : decode cX6_isShaded 49 = .ok (.ifCond .eq 22, 3) := by decide +kernel
theorem dX6_isShaded_52 : decode cX6_isShaded 52 = .ok (.aload_n 0, 1) := by decide +kernel
theorem dX6_isShaded_53 : decode cX6_isShaded 53 = .ok (.getfield 15, 3) := by decide +kernel
theorem dX6_isShaded_56 : decode cX6_isShaded 56 = .ok (.iload_n 3, 1) := by decide +kernel
theorem dX6_isShaded_57 : decode cX6_isShaded 57 = .ok (.iaload, 1) := by decide +kernel
theorem dX6_isShaded_58 : decode cX6_isShaded 58 = .ok (.aload_n 0, 1) := by decide +kernel
theorem dX6_isShaded_59 : decode cX6_isShaded 59 = .ok (.getfield 15, 3) := by decide +kernel
theorem dX6_isShaded_62 : decode cX6_isShaded 62 = .ok (.iload_n 1, 1) := by decide +kernel
theorem dX6_isShaded_63 : decode cX6_isShaded 63 = .ok (.iaload, 1) := by decide +kernel
theorem dX6_isShaded_64 : decode cX6_isShaded 64 = .ok (.iconst 3, 1) := by decide +kernel
theorem dX6_isShaded_65 : decode cX6_isShaded 65 = .ok (.iadd, 1) := by decide +kernel
theorem dX6_isShaded_66 : decode cX6_isShaded 66 = .ok (.if_icmp .le 5, 3) := by decide +kernel
theorem dX6_isShaded_69 : decode cX6_isShaded 69 = .ok (.iconst 1, 1) := by decide +kernel
theorem dX6_isShaded_70 : decode cX6_isShaded 70 = .ok (.ireturn, 1) := by decide +kernel
theorem dX6_isShaded_71 : decode cX6_isShaded 71 = .ok (.iinc 3 1, 3) := by decide +kernel
theorem dX6_isShaded_74 : decode cX6_isShaded 74 = .ok (.goto (-62), 3) := by decide +kernel
theorem dX6_isShaded_77 : decode cX6_isShaded 77 = .ok (.iconst 0, 1) := by decide +kernel
theorem dX6_isShaded_78 : decode cX6_isShaded 78 = .ok (.ireturn, 1) := by decide +kernel
theorem dX6_cellsSeen_0 : decode cX6_cellsSeen 0 = .ok (.aload_n 0, 1) := by decide +kernel
theorem dX6_cellsSeen_1 : decode cX6_cellsSeen 1 = .ok (.iload_n 1, 1) := by decide +kernel
theorem dX6_cellsSeen_2 : decode cX6_cellsSeen 2 = .ok (.invokevirtual 44, 3) := by decide +kernel
theorem dX6_cellsSeen_5 : decode cX6_cellsSeen 5 = .ok (.ifCond .eq 12, 3) := by decide +kernel
theorem dX6_cellsSeen_8 : decode cX6_cellsSeen 8 = .ok (.aload_n 0, 1) := by decide +kernel
theorem dX6_cellsSeen_9 : decode cX6_cellsSeen 9 = .ok (.iload_n 1, 1) := by decide +kernel
theorem dX6_cellsSeen_10 : decode cX6_cellsSeen 10 = .ok (.iload_n 2, 1) := by decide +kernel
theorem dX6_cellsSeen_11 : decode cX6_cellsSeen 11 = .ok (.invokevirtual 52, 3) := by decide +kernel
theorem dX6_cellsSeen_14 : decode cX6_cellsSeen 14 = .ok (.ifCond .eq 5, 3) := by decide +kernel
theorem dX6_cellsSeen_17 : decode cX6_cellsSeen 17 = .ok (.iconst 0, 1) := by decide +kernel
theorem dX6_cellsSeen_18 : decode cX6_cellsSeen 18 = .ok (.ireturn, 1) := by decide +kernel
theorem dX6_cellsSeen_19 : decode cX6_cellsSeen 19 = .ok (.aload_n 0, 1) := by decide +kernel
theorem dX6_cellsSeen_20 : decode cX6_cellsSeen 20 = .ok (.getfield 15, 3) := by decide +kernel
theorem dX6_cellsSeen_23 : decode cX6_cellsSeen 23 = .ok (.iload_n 1, 1) := by decide +kernel
theorem dX6_cellsSeen_24 : decode cX6_cellsSeen 24 = .ok (.iaload, 1) := by decide +kernel
theorem dX6_cellsSeen_25 : decode cX6_cellsSeen 25 = .ok (.iconst 4, 1) := by decide +kernel
theorem dX6_cellsSeen_26 : decode cX6_cellsSeen 26 = .ok (.idiv, 1) := by decide +kernel
theorem dX6_cellsSeen_27 : decode cX6_cellsSeen 27 = .ok (.istore_n 3, 1) := by decide +kernel
theorem dX6_cellsSeen_28 : decode cX6_cellsSeen 28 = .ok (.iconst 0, 1) := by decide +kernel
theorem dX6_cellsSeen_29 : decode cX6_cellsSeen 29 = .ok (.istore 4, 2) := by decide +kernel
theorem dX6_cellsSeen_31 : decode cX6_cellsSeen 31 = .ok (.iconst 0, 1) := by decide +kernel
theorem dX6_cellsSeen_32 : decode cX6_cellsSeen 32 = .ok (.istore 5, 2) := by decide +kernel
theorem dX6_cellsSeen_34 : decode cX6_cellsSeen 34 = .ok (.iload 5, 2) := by decide +kernel
theorem dX6_cellsSeen_36 : decode cX6_cellsSeen 36 = .ok (.bipush 10, 2) := by decide +kernel
theorem dX6_cellsSeen_38 : decode cX6_cellsSeen 38 = .ok (.if_icmp .ge 29, 3) := by decide +kernel
theorem dX6_cellsSeen_41 : decode cX6_cellsSeen 41 = .ok (.aload_n 0, 1) := by decide +kernel
theorem dX6_cellsSeen_42 : decode cX6_cellsSeen 42 = .ok (.iload_n 1, 1) := by decide +kernel
theorem dX6_cellsSeen_43 : decode cX6_cellsSeen 43 = .ok (.iload 5, 2) := by decide +kernel
theorem dX6_cellsSeen_45 : decode cX6_cellsSeen 45 = .ok (.invokevirtual 62, 3) := by decide +kernel
theorem dX6_cellsSeen_48 : decode cX6_cellsSeen 48 = .ok (.iload_n 3, 1) := by decide +kernel
theorem dX6_cellsSeen_49 : decode cX6_cellsSeen 49 = .ok (.if_icmp .gt 12, 3) := by decide +kernel
theorem dX6_cellsSeen_52 : decode cX6_cellsSeen 52 = .ok (.iload 4, 2) := by decide +kernel
theorem dX6_cellsSeen_54 : decode cX6_cellsSeen 54 = .ok (.iconst 1, 1) := by decide +kernel
theorem dX6_cellsSeen_55 : decode cX6_cellsSeen 55 = .ok (.iload 5, 2) := by decide +kernel
theorem dX6_cellsSeen_57 : decode cX6_cellsSeen 57 = .ok (.ishl, 1) := by decide +kernel
theorem dX6_cellsSeen_58 : decode cX6_cellsSeen 58 = .ok (.ior, 1) := by decide +kernel
theorem dX6_cellsSeen_59 : decode cX6_cellsSeen 59 = .ok (.istore 4, 2) := by decide +kernel
theorem dX6_cellsSeen_61 : decode cX6_cellsSeen 61 = .ok (.iinc 5 1, 3) := by decide +kernel
theorem dX6_cellsSeen_64 : decode cX6_cellsSeen 64 = .ok (.goto (-30), 3) := by decide +kernel
theorem dX6_cellsSeen_67 : decode cX6_cellsSeen 67 = .ok (.iload 4, 2) := by decide +kernel
theorem dX6_cellsSeen_69 : decode cX6_cellsSeen 69 = .ok (.ireturn, 1) := by decide +kernel
theorem dX6_smokeAround_0 : decode cX6_smokeAround 0 = .ok (.iconst 0, 1) := by decide +kernel
theorem dX6_smokeAround_1 : decode cX6_smokeAround 1 = .ok (.istore_n 3, 1) := by decide +kernel
theorem dX6_smokeAround_2 : decode cX6_smokeAround 2 = .ok (.iconst 0, 1) := by decide +kernel
theorem dX6_smokeAround_3 : decode cX6_smokeAround 3 = .ok (.istore 4, 2) := by decide +kernel
theorem dX6_smokeAround_5 : decode cX6_smokeAround 5 = .ok (.iload 4, 2) := by decide +kernel
theorem dX6_smokeAround_7 : decode cX6_smokeAround 7 = .ok (.iconst 5, 1) := by decide +kernel
theorem dX6_smokeAround_8 : decode cX6_smokeAround 8 = .ok (.if_icmp .ge 62, 3) := by decide +kernel
theorem dX6_smokeAround_11 : decode cX6_smokeAround 11 = .ok (.aload_n 0, 1) := by decide +kernel
theorem dX6_smokeAround_12 : decode cX6_smokeAround 12 = .ok (.iload_n 1, 1) := by decide +kernel
theorem dX6_smokeAround_13 : decode cX6_smokeAround 13 = .ok (.invokevirtual 44, 3) := by decide +kernel
theorem dX6_smokeAround_16 : decode cX6_smokeAround 16 = .ok (.ifCond .eq 54, 3) := by decide +kernel
theorem dX6_smokeAround_19 : decode cX6_smokeAround 19 = .ok (.iload_n 2, 1) := by decide +kernel
theorem dX6_smokeAround_20 : decode cX6_smokeAround 20 = .ok (.aload_n 0, 1) := by decide +kernel
theorem dX6_smokeAround_21 : decode cX6_smokeAround 21 = .ok (.getfield 28, 3) := by decide +kernel
theorem dX6_smokeAround_24 : decode cX6_smokeAround 24 = .ok (.iand, 1) := by decide +kernel
theorem dX6_smokeAround_25 : decode cX6_smokeAround 25 = .ok (.iconst 1, 1) := by decide +kernel
theorem dX6_smokeAround_26 : decode cX6_smokeAround 26 = .ok (.iload 4, 2) := by decide +kernel
theorem dX6_smokeAround_28 : decode cX6_smokeAround 28 = .ok (.ishl, 1) := by decide +kernel
theorem dX6_smokeAround_29 : decode cX6_smokeAround 29 = .ok (.iand, 1) := by decide +kernel
theorem dX6_smokeAround_30 : decode cX6_smokeAround 30 = .ok (.ifCond .eq 7, 3) := by decide +kernel
theorem dX6_smokeAround_33 : decode cX6_smokeAround 33 = .ok (.iconst 1, 1) := by decide +kernel
theorem dX6_smokeAround_34 : decode cX6_smokeAround 34 = .ok (.goto 4, 3) := by decide +kernel
theorem dX6_smokeAround_37 : decode cX6_smokeAround 37 = .ok (.iconst 0, 1) := by decide +kernel
theorem dX6_smokeAround_38 : decode cX6_smokeAround 38 = .ok (.istore 5, 2) := by decide +kernel
theorem dX6_smokeAround_40 : decode cX6_smokeAround 40 = .ok (.iload 5, 2) := by decide +kernel
theorem dX6_smokeAround_42 : decode cX6_smokeAround 42 = .ok (.ifCond .eq 22, 3) := by decide +kernel
theorem dX6_smokeAround_45 : decode cX6_smokeAround 45 = .ok (.aload_n 0, 1) := by decide +kernel
theorem dX6_smokeAround_46 : decode cX6_smokeAround 46 = .ok (.iload 4, 2) := by decide +kernel
theorem dX6_smokeAround_48 : decode cX6_smokeAround 48 = .ok (.aload_n 0, 1) := by decide +kernel
theorem dX6_smokeAround_49 : decode cX6_smokeAround 49 = .ok (.getfield 9, 3) := by decide +kernel
theorem dX6_smokeAround_52 : decode cX6_smokeAround 52 = .ok (.iload_n 1, 1) := by decide +kernel
theorem dX6_smokeAround_53 : decode cX6_smokeAround 53 = .ok (.iaload, 1) := by decide +kernel
theorem dX6_smokeAround_54 : decode cX6_smokeAround 54 = .ok (.invokevirtual 62, 3) := by decide +kernel
theorem dX6_smokeAround_57 : decode cX6_smokeAround 57 = .ok (.iconst 1, 1) := by decide +kernel
theorem dX6_smokeAround_58 : decode cX6_smokeAround 58 = .ok (.if_icmp .gt 6, 3) := by decide +kernel
theorem dX6_smokeAround_61 : decode cX6_smokeAround 61 = .ok (.iinc 3 1, 3) := by decide +kernel
theorem dX6_smokeAround_64 : decode cX6_smokeAround 64 = .ok (.iinc 4 1, 3) := by decide +kernel
theorem dX6_smokeAround_67 : decode cX6_smokeAround 67 = .ok (.goto (-62), 3) := by decide +kernel
theorem dX6_smokeAround_70 : decode cX6_smokeAround 70 = .ok (.iload_n 3, 1) := by decide +kernel
theorem dX6_smokeAround_71 : decode cX6_smokeAround 71 = .ok (.ireturn, 1) := by decide +kernel
theorem dX6_goesAhead_0 : decode cX6_goesAhead 0 = .ok (.aload_n 0, 1) := by decide +kernel
theorem dX6_goesAhead_1 : decode cX6_goesAhead 1 = .ok (.iload_n 1, 1) := by decide +kernel
theorem dX6_goesAhead_2 : decode cX6_goesAhead 2 = .ok (.invokevirtual 44, 3) := by decide +kernel
theorem dX6_goesAhead_5 : decode cX6_goesAhead 5 = .ok (.ifCond .eq 11, 3) := by decide +kernel
theorem dX6_goesAhead_8 : decode cX6_goesAhead 8 = .ok (.aload_n 0, 1) := by decide +kernel
theorem dX6_goesAhead_9 : decode cX6_goesAhead 9 = .ok (.iload_n 2, 1) := by decide +kernel
theorem dX6_goesAhead_10 : decode cX6_goesAhead 10 = .ok (.invokevirtual 44, 3) := by decide +kernel
theorem dX6_goesAhead_13 : decode cX6_goesAhead 13 = .ok (.ifCond .ne 5, 3) := by decide +kernel
theorem dX6_goesAhead_16 : decode cX6_goesAhead 16 = .ok (.iconst 0, 1) := by decide +kernel
theorem dX6_goesAhead_17 : decode cX6_goesAhead 17 = .ok (.ireturn, 1) := by decide +kernel
theorem dX6_goesAhead_18 : decode cX6_goesAhead 18 = .ok (.iconst 0, 1) := by decide +kernel
theorem dX6_goesAhead_19 : decode cX6_goesAhead 19 = .ok (.istore 5, 2) := by decide +kernel
theorem dX6_goesAhead_21 : decode cX6_goesAhead 21 = .ok (.iload_n 3, 1) := by decide +kernel
theorem dX6_goesAhead_22 : decode cX6_goesAhead 22 = .ok (.ifCond .ne 23, 3) := by decide +kernel
theorem dX6_goesAhead_25 : decode cX6_goesAhead 25 = .ok (.aload_n 0, 1) := by decide +kernel
theorem dX6_goesAhead_26 : decode cX6_goesAhead 26 = .ok (.iload_n 2, 1) := by decide +kernel
theorem dX6_goesAhead_27 : decode cX6_goesAhead 27 = .ok (.iload 4, 2) := by decide +kernel
theorem dX6_goesAhead_29 : decode cX6_goesAhead 29 = .ok (.invokevirtual 62, 3) := by decide +kernel
theorem dX6_goesAhead_32 : decode cX6_goesAhead 32 = .ok (.aload_n 0, 1) := by decide +kernel
theorem dX6_goesAhead_33 : decode cX6_goesAhead 33 = .ok (.iload_n 1, 1) := by decide +kernel
theorem dX6_goesAhead_34 : decode cX6_goesAhead 34 = .ok (.iload 4, 2) := by decide +kernel
theorem dX6_goesAhead_36 : decode cX6_goesAhead 36 = .ok (.invokevirtual 62, 3) := by decide +kernel
theorem dX6_goesAhead_39 : decode cX6_goesAhead 39 = .ok (.isub, 1) := by decide +kernel
theorem dX6_goesAhead_40 : decode cX6_goesAhead 40 = .ok (.istore 5, 2) := by decide +kernel
theorem dX6_goesAhead_42 : decode cX6_goesAhead 42 = .ok (.goto 23, 3) := by decide +kernel
theorem dX6_goesAhead_45 : decode cX6_goesAhead 45 = .ok (.iload_n 3, 1) := by decide +kernel
theorem dX6_goesAhead_46 : decode cX6_goesAhead 46 = .ok (.iconst 1, 1) := by decide +kernel
theorem dX6_goesAhead_47 : decode cX6_goesAhead 47 = .ok (.if_icmp .ne 18, 3) := by decide +kernel
theorem dX6_goesAhead_50 : decode cX6_goesAhead 50 = .ok (.aload_n 0, 1) := by decide +kernel
theorem dX6_goesAhead_51 : decode cX6_goesAhead 51 = .ok (.getfield 15, 3) := by decide +kernel
theorem dX6_goesAhead_54 : decode cX6_goesAhead 54 = .ok (.iload_n 1, 1) := by decide +kernel
theorem dX6_goesAhead_55 : decode cX6_goesAhead 55 = .ok (.iaload, 1) := by decide +kernel
theorem dX6_goesAhead_56 : decode cX6_goesAhead 56 = .ok (.aload_n 0, 1) := by decide +kernel
theorem dX6_goesAhead_57 : decode cX6_goesAhead 57 = .ok (.getfield 15, 3) := by decide +kernel
theorem dX6_goesAhead_60 : decode cX6_goesAhead 60 = .ok (.iload_n 2, 1) := by decide +kernel
theorem dX6_goesAhead_61 : decode cX6_goesAhead 61 = .ok (.iaload, 1) := by decide +kernel
theorem dX6_goesAhead_62 : decode cX6_goesAhead 62 = .ok (.isub, 1) := by decide +kernel
theorem dX6_goesAhead_63 : decode cX6_goesAhead 63 = .ok (.istore 5, 2) := by decide +kernel
theorem dX6_goesAhead_65 : decode cX6_goesAhead 65 = .ok (.iload 5, 2) := by decide +kernel
theorem dX6_goesAhead_67 : decode cX6_goesAhead 67 = .ok (.ifCond .eq 16, 3) := by decide +kernel
theorem dX6_goesAhead_70 : decode cX6_goesAhead 70 = .ok (.iload 5, 2) := by decide +kernel
theorem dX6_goesAhead_72 : decode cX6_goesAhead 72 = .ok (.ifCond .le 7, 3) := by decide +kernel
theorem dX6_goesAhead_75 : decode cX6_goesAhead 75 = .ok (.iconst 1, 1) := by decide +kernel
theorem dX6_goesAhead_76 : decode cX6_goesAhead 76 = .ok (.goto 27, 3) := by decide +kernel
theorem dX6_goesAhead_79 : decode cX6_goesAhead 79 = .ok (.iconst 0, 1) := by decide +kernel
theorem dX6_goesAhead_80 : decode cX6_goesAhead 80 = .ok (.goto 23, 3) := by decide +kernel
theorem dX6_goesAhead_83 : decode cX6_goesAhead 83 = .ok (.aload_n 0, 1) := by decide +kernel
theorem dX6_goesAhead_84 : decode cX6_goesAhead 84 = .ok (.getfield 15, 3) := by decide +kernel
theorem dX6_goesAhead_87 : decode cX6_goesAhead 87 = .ok (.iload_n 1, 1) := by decide +kernel
theorem dX6_goesAhead_88 : decode cX6_goesAhead 88 = .ok (.iaload, 1) := by decide +kernel
theorem dX6_goesAhead_89 : decode cX6_goesAhead 89 = .ok (.aload_n 0, 1) := by decide +kernel
theorem dX6_goesAhead_90 : decode cX6_goesAhead 90 = .ok (.getfield 15, 3) := by decide +kernel
theorem dX6_goesAhead_93 : decode cX6_goesAhead 93 = .ok (.iload_n 2, 1) := by decide +kernel
theorem dX6_goesAhead_94 : decode cX6_goesAhead 94 = .ok (.iaload, 1) := by decide +kernel
theorem dX6_goesAhead_95 : decode cX6_goesAhead 95 = .ok (.if_icmp .ge 7, 3) := by decide +kernel
theorem dX6_goesAhead_98 : decode cX6_goesAhead 98 = .ok (.iconst 1, 1) := by decide +kernel
theorem dX6_goesAhead_99 : decode cX6_goesAhead 99 = .ok (.goto 4, 3) := by decide +kernel
theorem dX6_goesAhead_102 : decode cX6_goesAhead 102 = .ok (.iconst 0, 1) := by decide +kernel
theorem dX6_goesAhead_103 : decode cX6_goesAhead 103 = .ok (.ireturn, 1) := by decide +kernel
theorem dX7_init_0 : decode cX7_init 0 = .ok (.aload_n 0, 1) := by decide +kernel
theorem dX7_init_1 : decode cX7_init 1 = .ok (.invokespecial 3, 3) := by decide +kernel
theorem dX7_init_4 : decode cX7_init 4 = .ok (.aload_n 0, 1) := by decide +kernel
theorem dX7_init_5 : decode cX7_init 5 = .ok (.bipush 6, 2) := by decide +kernel
theorem dX7_init_7 : decode cX7_init 7 = .ok (.newarray .int, 2) := by decide +kernel
theorem dX7_init_9 : decode cX7_init 9 = .ok (.putfield 9, 3) := by decide +kernel
theorem dX7_init_12 : decode cX7_init 12 = .ok (.aload_n 0, 1) := by decide +kernel
theorem dX7_init_13 : decode cX7_init 13 = .ok (.bipush 6, 2) := by decide +kernel
theorem dX7_init_15 : decode cX7_init 15 = .ok (.newarray .int, 2) := by decide +kernel
theorem dX7_init_17 : decode cX7_init 17 = .ok (.putfield 15, 3) := by decide +kernel
theorem dX7_init_20 : decode cX7_init 20 = .ok (.aload_n 0, 1) := by decide +kernel
theorem dX7_init_21 : decode cX7_init 21 = .ok (.bipush 6, 2) := by decide +kernel
theorem dX7_init_23 : decode cX7_init 23 = .ok (.newarray .boolean, 2) := by decide +kernel
theorem dX7_init_25 : decode cX7_init 25 = .ok (.putfield 18, 3) := by decide +kernel
theorem dX7_init_28 : decode cX7_init 28 = .ok (.return_, 1) := by decide +kernel
theorem dX7_isFull_0 : decode cX7_isFull 0 = .ok (.aload_n 0, 1) := by decide +kernel
theorem dX7_isFull_1 : decode cX7_isFull 1 = .ok (.getfield 22, 3) := by decide +kernel
theorem dX7_isFull_4 : decode cX7_isFull 4 = .ok (.bipush 6, 2) := by decide +kernel
theorem dX7_isFull_6 : decode cX7_isFull 6 = .ok (.if_icmp .lt 7, 3) := by decide +kernel
theorem dX7_isFull_9 : decode cX7_isFull 9 = .ok (.iconst 1, 1) := by decide +kernel
theorem dX7_isFull_10 : decode cX7_isFull 10 = .ok (.goto 4, 3) := by decide +kernel
theorem dX7_isFull_13 : decode cX7_isFull 13 = .ok (.iconst 0, 1) := by decide +kernel
theorem dX7_isFull_14 : decode cX7_isFull 14 = .ok (.ireturn, 1) := by decide +kernel
theorem dX7_add_0 : decode cX7_add 0 = .ok (.aload_n 0, 1) := by decide +kernel
theorem dX7_add_1 : decode cX7_add 1 = .ok (.invokevirtual 26, 3) := by decide +kernel
theorem dX7_add_4 : decode cX7_add 4 = .ok (.ifCond .ne 43, 3) := by decide +kernel
theorem dX7_add_7 : decode cX7_add 7 = .ok (.aload_n 0, 1) := by decide +kernel
theorem dX7_add_8 : decode cX7_add 8 = .ok (.getfield 9, 3) := by decide +kernel
theorem dX7_add_11 : decode cX7_add 11 = .ok (.aload_n 0, 1) := by decide +kernel
theorem dX7_add_12 : decode cX7_add 12 = .ok (.getfield 22, 3) := by decide +kernel
theorem dX7_add_15 : decode cX7_add 15 = .ok (.iload_n 1, 1) := by decide +kernel
theorem dX7_add_16 : decode cX7_add 16 = .ok (.iastore, 1) := by decide +kernel
theorem dX7_add_17 : decode cX7_add 17 = .ok (.aload_n 0, 1) := by decide +kernel
theorem dX7_add_18 : decode cX7_add 18 = .ok (.getfield 15, 3) := by decide +kernel
theorem dX7_add_21 : decode cX7_add 21 = .ok (.aload_n 0, 1) := by decide +kernel
theorem dX7_add_22 : decode cX7_add 22 = .ok (.getfield 22, 3) := by decide +kernel
theorem dX7_add_25 : decode cX7_add 25 = .ok (.iload_n 2, 1) := by decide +kernel
theorem dX7_add_26 : decode cX7_add 26 = .ok (.iastore, 1) := by decide +kernel
theorem dX7_add_27 : decode cX7_add 27 = .ok (.aload_n 0, 1) := by decide +kernel
theorem dX7_add_28 : decode cX7_add 28 = .ok (.getfield 18, 3) := by decide +kernel
theorem dX7_add_31 : decode cX7_add 31 = .ok (.aload_n 0, 1) := by decide +kernel
theorem dX7_add_32 : decode cX7_add 32 = .ok (.getfield 22, 3) := by decide +kernel
theorem dX7_add_35 : decode cX7_add 35 = .ok (.iload_n 3, 1) := by decide +kernel
theorem dX7_add_36 : decode cX7_add 36 = .ok (.bastore, 1) := by decide +kernel
theorem dX7_add_37 : decode cX7_add 37 = .ok (.aload_n 0, 1) := by decide +kernel
theorem dX7_add_38 : decode cX7_add 38 = .ok (.dup, 1) := by decide +kernel
theorem dX7_add_39 : decode cX7_add 39 = .ok (.getfield 22, 3) := by decide +kernel
theorem dX7_add_42 : decode cX7_add 42 = .ok (.iconst 1, 1) := by decide +kernel
theorem dX7_add_43 : decode cX7_add 43 = .ok (.iadd, 1) := by decide +kernel
theorem dX7_add_44 : decode cX7_add 44 = .ok (.putfield 22, 3) := by decide +kernel
theorem dX7_add_47 : decode cX7_add 47 = .ok (.aload_n 0, 1) := by decide +kernel
theorem dX7_add_48 : decode cX7_add 48 = .ok (.getfield 22, 3) := by decide +kernel
theorem dX7_add_51 : decode cX7_add 51 = .ok (.ireturn, 1) := by decide +kernel
theorem dX7_clear_0 : decode cX7_clear 0 = .ok (.aload_n 0, 1) := by decide +kernel
theorem dX7_clear_1 : decode cX7_clear 1 = .ok (.getfield 22, 3) := by decide +kernel
theorem dX7_clear_4 : decode cX7_clear 4 = .ok (.istore_n 1, 1) := by decide +kernel
theorem dX7_clear_5 : decode cX7_clear 5 = .ok (.aload_n 0, 1) := by decide +kernel
theorem dX7_clear_6 : decode cX7_clear 6 = .ok (.iconst 0, 1) := by decide +kernel
theorem dX7_clear_7 : decode cX7_clear 7 = .ok (.putfield 22, 3) := by decide +kernel
theorem dX7_clear_10 : decode cX7_clear 10 = .ok (.iload_n 1, 1) := by decide +kernel
theorem dX7_clear_11 : decode cX7_clear 11 = .ok (.ireturn, 1) := by decide +kernel
theorem dX7_isOver_0 : decode cX7_isOver 0 = .ok (.iload_n 0, 1) := by decide +kernel
theorem dX7_isOver_1 : decode cX7_isOver 1 = .ok (.iconst 4, 1) := by decide +kernel
theorem dX7_isOver_2 : decode cX7_isOver 2 = .ok (.idiv, 1) := by decide +kernel
theorem dX7_isOver_3 : decode cX7_isOver 3 = .ok (.iload_n 0, 1) := by decide +kernel
theorem dX7_isOver_4 : decode cX7_isOver 4 = .ok (.iconst 4, 1) := by decide +kernel
theorem dX7_isOver_5 : decode cX7_isOver 5 = .ok (.irem, 1) := by decide +kernel
theorem dX7_isOver_6 : decode cX7_isOver 6 = .ok (.iload_n 2, 1) := by decide +kernel
theorem dX7_isOver_7 : decode cX7_isOver 7 = .ok (.invokestatic 30, 3) := by decide +kernel
theorem dX7_isOver_10 : decode cX7_isOver 10 = .ok (.iload_n 1, 1) := by decide +kernel
theorem dX7_isOver_11 : decode cX7_isOver 11 = .ok (.if_icmp .ne 7, 3) := by decide +kernel
theorem dX7_isOver_14 : decode cX7_isOver 14 = .ok (.iconst 1, 1) := by decide +kernel
theorem dX7_isOver_15 : decode cX7_isOver 15 = .ok (.goto 4, 3) := by decide +kernel
theorem dX7_isOver_18 : decode cX7_isOver 18 = .ok (.iconst 0, 1) := by decide +kernel
theorem dX7_isOver_19 : decode cX7_isOver 19 = .ok (.ireturn, 1) := by decide +kernel
theorem dX7_fits_0 : decode cX7_fits 0 = .ok (.iconst 0, 1) := by decide +kernel
theorem dX7_fits_1 : decode cX7_fits 1 = .ok (.istore_n 2, 1) := by decide +kernel
theorem dX7_fits_2 : decode cX7_fits 2 = .ok (.iload_n 2, 1) := by decide +kernel
theorem dX7_fits_3 : decode cX7_fits 3 = .ok (.aload_n 0, 1) := by decide +kernel
theorem dX7_fits_4 : decode cX7_fits 4 = .ok (.getfield 22, 3) := by decide +kernel
theorem dX7_fits_7 : decode cX7_fits 7 = .ok (.if_icmp .ge 42, 3) := by decide +kernel
theorem dX7_fits_10 : decode cX7_fits 10 = .ok (.iload_n 2, 1) := by decide +kernel
theorem dX7_fits_11 : decode cX7_fits 11 = .ok (.bipush 6, 2) := by decide +kernel
theorem dX7_fits_13 : decode cX7_fits 13 = .ok (.if_icmp .ge 36, 3) := by decide +kernel
theorem dX7_fits_16 : decode cX7_fits 16 = .ok (.iload_n 1, 1) := by decide +kernel
theorem dX7_fits_17 : decode cX7_fits 17 = .ok (.aload_n 0, 1) := by decide +kernel
theorem dX7_fits_18 : decode cX7_fits 18 = .ok (.getfield 9, 3) := by decide +kernel
theorem dX7_fits_21 : decode cX7_fits 21 = .ok (.iload_n 2, 1) := by decide +kernel
theorem dX7_fits_22 : decode cX7_fits 22 = .ok (.iaload, 1) := by decide +kernel
theorem dX7_fits_23 : decode cX7_fits 23 = .ok (.aload_n 0, 1) := by decide +kernel
theorem dX7_fits_24 : decode cX7_fits 24 = .ok (.getfield 15, 3) := by decide +kernel
theorem dX7_fits_27 : decode cX7_fits 27 = .ok (.iload_n 2, 1) := by decide +kernel
theorem dX7_fits_28 : decode cX7_fits 28 = .ok (.iaload, 1) := by decide +kernel
theorem dX7_fits_29 : decode cX7_fits 29 = .ok (.invokestatic 36, 3) := by decide +kernel
theorem dX7_fits_32 : decode cX7_fits 32 = .ok (.aload_n 0, 1) := by decide +kernel
theorem dX7_fits_33 : decode cX7_fits 33 = .ok (.getfield 18, 3) := by decide +kernel
theorem dX7_fits_36 : decode cX7_fits 36 = .ok (.iload_n 2, 1) := by decide +kernel
theorem dX7_fits_37 : decode cX7_fits 37 = .ok (.baload, 1) := by decide +kernel
theorem dX7_fits_38 : decode cX7_fits 38 = .ok (.if_icmp .eq 5, 3) := by decide +kernel
theorem dX7_fits_41 : decode cX7_fits 41 = .ok (.iconst 0, 1) := by decide +kernel
theorem dX7_fits_42 : decode cX7_fits 42 = .ok (.ireturn, 1) := by decide +kernel
theorem dX7_fits_43 : decode cX7_fits 43 = .ok (.iinc 2 1, 3) := by decide +kernel
theorem dX7_fits_46 : decode cX7_fits 46 = .ok (.goto (-44), 3) := by decide +kernel
theorem dX7_fits_49 : decode cX7_fits 49 = .ok (.iconst 1, 1) := by decide +kernel
theorem dX7_fits_50 : decode cX7_fits 50 = .ok (.ireturn, 1) := by decide +kernel
theorem dX7_fittingStars_0 : decode cX7_fittingStars 0 = .ok (.lconst 0, 1) := by decide +kernel
theorem dX7_fittingStars_1 : decode cX7_fittingStars 1 = .ok (.lstore_n 1, 1) := by decide +kernel
theorem dX7_fittingStars_2 : decode cX7_fittingStars 2 = .ok (.iconst 0, 1) := by decide +kernel
theorem dX7_fittingStars_3 : decode cX7_fittingStars 3 = .ok (.istore_n 3, 1) := by decide +kernel
theorem dX7_fittingStars_4 : decode cX7_fittingStars 4 = .ok (.iload_n 3, 1) := by decide +kernel
theorem dX7_fittingStars_5 : decode cX7_fittingStars 5 = .ok (.bipush 40, 2) := by decide +kernel
theorem dX7_fittingStars_7 : decode cX7_fittingStars 7 = .ok (.if_icmp .ge 23, 3) := by decide +kernel
theorem dX7_fittingStars_10 : decode cX7_fittingStars 10 = .ok (.aload_n 0, 1) := by decide +kernel
theorem dX7_fittingStars_11 : decode cX7_fittingStars 11 = .ok (.iload_n 3, 1) := by decide +kernel
theorem dX7_fittingStars_12 : decode cX7_fittingStars 12 = .ok (.invokevirtual 40, 3) := by decide +kernel
theorem dX7_fittingStars_15 : decode cX7_fittingStars 15 = .ok (.ifCond .eq 9, 3) := by decide +kernel
theorem dX7_fittingStars_18 : decode cX7_fittingStars 18 = .ok (.lload_n 1, 1) := by decide +kernel
theorem dX7_fittingStars_19 : decode cX7_fittingStars 19 = .ok (.lconst 1, 1) := by decide +kernel
theorem dX7_fittingStars_20 : decode cX7_fittingStars 20 = .ok (.iload_n 3, 1) := by decide +kernel
theorem dX7_fittingStars_21 : decode cX7_fittingStars 21 = .ok (.lshl, 1) := by decide +kernel
theorem dX7_fittingStars_22 : decode cX7_fittingStars 22 = .ok (.lor, 1) := by decide +kernel
theorem dX7_fittingStars_23 : decode cX7_fittingStars 23 = .ok (.lstore_n 1, 1) := by decide +kernel
theorem dX7_fittingStars_24 : decode cX7_fittingStars 24 = .ok (.iinc 3 1, 3) := by decide +kernel
theorem dX7_fittingStars_27 : decode cX7_fittingStars 27 = .ok (.goto (-23), 3) := by decide +kernel
theorem dX7_fittingStars_30 : decode cX7_fittingStars 30 = .ok (.lload_n 1, 1) := by decide +kernel
theorem dX7_fittingStars_31 : decode cX7_fittingStars 31 = .ok (.lreturn, 1) := by decide +kernel
theorem dX7_firstOf_0 : decode cX7_firstOf 0 = .ok (.iconst 0, 1) := by decide +kernel
theorem dX7_firstOf_1 : decode cX7_firstOf 1 = .ok (.istore_n 2, 1) := by decide +kernel
theorem dX7_firstOf_2 : decode cX7_firstOf 2 = .ok (.iload_n 2, 1) := by decide +kernel
theorem dX7_firstOf_3 : decode cX7_firstOf 3 = .ok (.bipush 40, 2) := by decide +kernel
theorem dX7_firstOf_5 : decode cX7_firstOf 5 = .ok (.if_icmp .ge 30, 3) := by decide +kernel
theorem dX7_firstOf_8 : decode cX7_firstOf 8 = .ok (.lload_n 0, 1) := by decide +kernel
theorem dX7_firstOf_9 : decode cX7_firstOf 9 = .ok (.iload_n 2, 1) := by decide +kernel
theorem dX7_firstOf_10 : decode cX7_firstOf 10 = .ok (.lshr, 1) := by decide +kernel
theorem dX7_firstOf_11 : decode cX7_firstOf 11 = .ok (.lconst 1, 1) := by decide +kernel
theorem dX7_firstOf_12 : decode cX7_firstOf 12 = .ok (.land, 1) := by decide +kernel
theorem dX7_firstOf_13 : decode cX7_firstOf 13 = .ok (.lconst 0, 1) := by decide +kernel
theorem dX7_firstOf_14 : decode cX7_firstOf 14 = .ok (.lcmp, 1) := by decide +kernel
theorem dX7_firstOf_15 : decode cX7_firstOf 15 = .ok (.ifCond .eq 14, 3) := by decide +kernel
theorem dX7_firstOf_18 : decode cX7_firstOf 18 = .ok (.bipush 10, 2) := by decide +kernel
theorem dX7_firstOf_20 : decode cX7_firstOf 20 = .ok (.iload_n 2, 1) := by decide +kernel
theorem dX7_firstOf_21 : decode cX7_firstOf 21 = .ok (.iconst 4, 1) := by decide +kernel
theorem dX7_firstOf_22 : decode cX7_firstOf 22 = .ok (.idiv, 1) := by decide +kernel
theorem dX7_firstOf_23 : decode cX7_firstOf 23 = .ok (.imul, 1) := by decide +kernel
theorem dX7_firstOf_24 : decode cX7_firstOf 24 = .ok (.iload_n 2, 1) := by decide +kernel
theorem dX7_firstOf_25 : decode cX7_firstOf 25 = .ok (.iconst 4, 1) := by decide +kernel
theorem dX7_firstOf_26 : decode cX7_firstOf 26 = .ok (.irem, 1) := by decide +kernel
theorem dX7_firstOf_27 : decode cX7_firstOf 27 = .ok (.iadd, 1) := by decide +kernel
theorem dX7_firstOf_28 : decode cX7_firstOf 28 = .ok (.ireturn, 1) := by decide +kernel
theorem dX7_firstOf_29 : decode cX7_firstOf 29 = .ok (.iinc 2 1, 3) := by decide +kernel
theorem dX7_firstOf_32 : decode cX7_firstOf 32 = .ok (.goto (-30), 3) := by decide +kernel
theorem dX7_firstOf_35 : decode cX7_firstOf 35 = .ok (.bipush (-9), 2) := by decide +kernel
theorem dX7_firstOf_37 : decode cX7_firstOf 37 = .ok (.ireturn, 1) := by decide +kernel
theorem dX7_bestLook_0 : decode cX7_bestLook 0 = .ok (.aload_n 0, 1) := by decide +kernel
theorem dX7_bestLook_1 : decode cX7_bestLook 1 = .ok (.invokevirtual 44, 3) := by decide +kernel
theorem dX7_bestLook_4 : decode cX7_bestLook 4 = .ok (.lstore_n 1, 1) := by decide +kernel
theorem dX7_bestLook_5 : decode cX7_bestLook 5 = .ok (.bipush (-9), 2) := by decide +kernel
theorem dX7_bestLook_7 : decode cX7_bestLook 7 = .ok (.istore_n 3, 1) := by decide +kernel
theorem dX7_bestLook_8 : decode cX7_bestLook 8 = .ok (.bipush 41, 2) := by decide +kernel
theorem dX7_bestLook_10 : decode cX7_bestLook 10 = .ok (.istore 4, 2) := by decide +kernel
theorem dX7_bestLook_12 : decode cX7_bestLook 12 = .ok (.iconst 0, 1) := by decide +kernel
theorem dX7_bestLook_13 : decode cX7_bestLook 13 = .ok (.istore 5, 2) := by decide +kernel
theorem dX7_bestLook_15 : decode cX7_bestLook 15 = .ok (.iload 5, 2) := by decide +kernel
theorem dX7_bestLook_17 : decode cX7_bestLook 17 = .ok (.bipush 100, 2) := by decide +kernel
theorem dX7_bestLook_19 : decode cX7_bestLook 19 = .ok (.if_icmp .ge 45, 3) := by decide +kernel
theorem dX7_bestLook_22 : decode cX7_bestLook 22 = .ok (.lload_n 1, 1) := by decide +kernel
theorem dX7_bestLook_23 : decode cX7_bestLook 23 = .ok (.lconst 0, 1) := by decide +kernel
theorem dX7_bestLook_24 : decode cX7_bestLook 24 = .ok (.lcmp, 1) := by decide +kernel
theorem dX7_bestLook_25 : decode cX7_bestLook 25 = .ok (.ifCond .eq 39, 3) := by decide +kernel
theorem dX7_bestLook_28 : decode cX7_bestLook 28 = .ok (.lload_n 1, 1) := by decide +kernel
theorem dX7_bestLook_29 : decode cX7_bestLook 29 = .ok (.iload 5, 2) := by decide +kernel
theorem dX7_bestLook_31 : decode cX7_bestLook 31 = .ok (.bipush 10, 2) := by decide +kernel
theorem dX7_bestLook_33 : decode cX7_bestLook 33 = .ok (.idiv, 1) := by decide +kernel
theorem dX7_bestLook_34 : decode cX7_bestLook 34 = .ok (.iload 5, 2) := by decide +kernel
theorem dX7_bestLook_36 : decode cX7_bestLook 36 = .ok (.bipush 10, 2) := by decide +kernel
theorem dX7_bestLook_38 : decode cX7_bestLook 38 = .ok (.irem, 1) := by decide +kernel
theorem dX7_bestLook_39 : decode cX7_bestLook 39 = .ok (.invokestatic 48, 3) := by decide +kernel
theorem dX7_bestLook_42 : decode cX7_bestLook 42 = .ok (.istore 6, 2) := by decide +kernel
theorem dX7_bestLook_44 : decode cX7_bestLook 44 = .ok (.iload 6, 2) := by decide +kernel
theorem dX7_bestLook_46 : decode cX7_bestLook 46 = .ok (.iload 4, 2) := by decide +kernel
theorem dX7_bestLook_48 : decode cX7_bestLook 48 = .ok (.if_icmp .ge 10, 3) := by decide +kernel
theorem dX7_bestLook_51 : decode cX7_bestLook 51 = .ok (.iload 5, 2) := by decide +kernel
theorem dX7_bestLook_53 : decode cX7_bestLook 53 = .ok (.istore_n 3, 1) := by decide +kernel
theorem dX7_bestLook_54 : decode cX7_bestLook 54 = .ok (.iload 6, 2) := by decide +kernel
theorem dX7_bestLook_56 : decode cX7_bestLook 56 = .ok (.istore 4, 2) := by decide +kernel
theorem dX7_bestLook_58 : decode cX7_bestLook 58 = .ok (.iinc 5 1, 3) := by decide +kernel
theorem dX7_bestLook_61 : decode cX7_bestLook 61 = .ok (.goto (-46), 3) := by decide +kernel
theorem dX7_bestLook_64 : decode cX7_bestLook 64 = .ok (.iload_n 3, 1) := by decide +kernel
theorem dX7_bestLook_65 : decode cX7_bestLook 65 = .ok (.ireturn, 1) := by decide +kernel
theorem dX7_greaterPart_0 : decode cX7_greaterPart 0 = .ok (.iconst 0, 1) := by decide +kernel
theorem dX7_greaterPart_1 : decode cX7_greaterPart 1 = .ok (.istore 4, 2) := by decide +kernel
theorem dX7_greaterPart_3 : decode cX7_greaterPart 3 = .ok (.iconst 0, 1) := by decide +kernel
theorem dX7_greaterPart_4 : decode cX7_greaterPart 4 = .ok (.istore 5, 2) := by decide +kernel
theorem dX7_greaterPart_6 : decode cX7_greaterPart 6 = .ok (.iload 5, 2) := by decide +kernel
theorem dX7_greaterPart_8 : decode cX7_greaterPart 8 = .ok (.bipush 40, 2) := by decide +kernel
theorem dX7_greaterPart_10 : decode cX7_greaterPart 10 = .ok (.if_icmp .ge 33, 3) := by decide +kernel
theorem dX7_greaterPart_13 : decode cX7_greaterPart 13 = .ok (.lload_n 0, 1) := by decide +kernel
theorem dX7_greaterPart_14 : decode cX7_greaterPart 14 = .ok (.iload 5, 2) := by decide +kernel
theorem dX7_greaterPart_16 : decode cX7_greaterPart 16 = .ok (.lshr, 1) := by decide +kernel
theorem dX7_greaterPart_17 : decode cX7_greaterPart 17 = .ok (.lconst 1, 1) := by decide +kernel
theorem dX7_greaterPart_18 : decode cX7_greaterPart 18 = .ok (.land, 1) := by decide +kernel
theorem dX7_greaterPart_19 : decode cX7_greaterPart 19 = .ok (.lconst 0, 1) := by decide +kernel
theorem dX7_greaterPart_20 : decode cX7_greaterPart 20 = .ok (.lcmp, 1) := by decide +kernel
theorem dX7_greaterPart_21 : decode cX7_greaterPart 21 = .ok (.ifCond .eq 16, 3) := by decide +kernel
theorem dX7_greaterPart_24 : decode cX7_greaterPart 24 = .ok (.iload 5, 2) := by decide +kernel
theorem dX7_greaterPart_26 : decode cX7_greaterPart 26 = .ok (.iload_n 3, 1) := by decide +kernel
theorem dX7_greaterPart_27 : decode cX7_greaterPart 27 = .ok (.iload_n 2, 1) := by decide +kernel
theorem dX7_greaterPart_28 : decode cX7_greaterPart 28 = .ok (.invokestatic 36, 3) := by decide +kernel
theorem dX7_greaterPart_31 : decode cX7_greaterPart 31 = .ok (.ifCond .eq 6, 3) := by decide +kernel
theorem dX7_greaterPart_34 : decode cX7_greaterPart 34 = .ok (.iinc 4 1, 3) := by decide +kernel
theorem dX7_greaterPart_37 : decode cX7_greaterPart 37 = .ok (.iinc 5 1, 3) := by decide +kernel
theorem dX7_greaterPart_40 : decode cX7_greaterPart 40 = .ok (.goto (-34), 3) := by decide +kernel
theorem dX7_greaterPart_43 : decode cX7_greaterPart 43 = .ok (.iload 4, 2) := by decide +kernel
theorem dX7_greaterPart_45 : decode cX7_greaterPart 45 = .ok (.lload_n 0, 1) := by decide +kernel
theorem dX7_greaterPart_46 : decode cX7_greaterPart 46 = .ok (.invokestatic 52, 3) := by decide +kernel
theorem dX7_greaterPart_49 : decode cX7_greaterPart 49 = .ok (.iload 4, 2) := by decide +kernel
theorem dX7_greaterPart_51 : decode cX7_greaterPart 51 = .ok (.isub, 1) := by decide +kernel
theorem dX7_greaterPart_52 : decode cX7_greaterPart 52 = .ok (.invokestatic 58, 3) := by decide +kernel
theorem dX7_greaterPart_55 : decode cX7_greaterPart 55 = .ok (.ireturn, 1) := by decide +kernel
theorem dX8_init_0 : decode cX8_init 0 = .ok (.aload_n 0, 1) := by decide +kernel
theorem dX8_init_1 : decode cX8_init 1 = .ok (.invokespecial 3, 3) := by decide +kernel
theorem dX8_init_4 : decode cX8_init 4 = .ok (.aload_n 0, 1) := by decide +kernel
theorem dX8_init_5 : decode cX8_init 5 = .ok (.new 9, 3) := by decide +kernel
theorem dX8_init_8 : decode cX8_init 8 = .ok (.dup, 1) := by decide +kernel
theorem dX8_init_9 : decode cX8_init 9 = .ok (.invokespecial 11, 3) := by decide +kernel
theorem dX8_init_12 : decode cX8_init 12 = .ok (.putfield 12, 3) := by decide +kernel
theorem dX8_init_15 : decode cX8_init 15 = .ok (.aload_n 0, 1) := by decide +kernel
theorem dX8_init_16 : decode cX8_init 16 = .ok (.new 16, 3) := by decide +kernel
theorem dX8_init_19 : decode cX8_init 19 = .ok (.dup, 1) := by decide +kernel
theorem dX8_init_20 : decode cX8_init 20 = .ok (.invokespecial 18, 3) := by decide +kernel
theorem dX8_init_23 : decode cX8_init 23 = .ok (.putfield 19, 3) := by decide +kernel
theorem dX8_init_26 : decode cX8_init 26 = .ok (.aload_n 0, 1) := by decide +kernel
theorem dX8_init_27 : decode cX8_init 27 = .ok (.new 23, 3) := by decide +kernel
theorem dX8_init_30 : decode cX8_init 30 = .ok (.dup, 1) := by decide +kernel
theorem dX8_init_31 : decode cX8_init 31 = .ok (.invokespecial 25, 3) := by decide +kernel
theorem dX8_init_34 : decode cX8_init 34 = .ok (.putfield 26, 3) := by decide +kernel
theorem dX8_init_37 : decode cX8_init 37 = .ok (.aload_n 0, 1) := by decide +kernel
theorem dX8_init_38 : decode cX8_init 38 = .ok (.new 23, 3) := by decide +kernel
theorem dX8_init_41 : decode cX8_init 41 = .ok (.dup, 1) := by decide +kernel
theorem dX8_init_42 : decode cX8_init 42 = .ok (.invokespecial 25, 3) := by decide +kernel
theorem dX8_init_45 : decode cX8_init 45 = .ok (.putfield 30, 3) := by decide +kernel
theorem dX8_init_48 : decode cX8_init 48 = .ok (.aload_n 0, 1) := by decide +kernel
theorem dX8_init_49 : decode cX8_init 49 = .ok (.new 33, 3) := by decide +kernel
theorem dX8_init_52 : decode cX8_init 52 = .ok (.dup, 1) := by decide +kernel
theorem dX8_init_53 : decode cX8_init 53 = .ok (.invokespecial 35, 3) := by decide +kernel
theorem dX8_init_56 : decode cX8_init 56 = .ok (.putfield 36, 3) := by decide +kernel
theorem dX8_init_59 : decode cX8_init 59 = .ok (.aload_n 0, 1) := by decide +kernel
theorem dX8_init_60 : decode cX8_init 60 = .ok (.new 33, 3) := by decide +kernel
theorem dX8_init_63 : decode cX8_init 63 = .ok (.dup, 1) := by decide +kernel
theorem dX8_init_64 : decode cX8_init 64 = .ok (.invokespecial 35, 3) := by decide +kernel
theorem dX8_init_67 : decode cX8_init 67 = .ok (.putfield 40, 3) := by decide +kernel
theorem dX8_init_70 : decode cX8_init 70 = .ok (.aload_n 0, 1) := by decide +kernel
theorem dX8_init_71 : decode cX8_init 71 = .ok (.new 43, 3) := by decide +kernel
theorem dX8_init_74 : decode cX8_init 74 = .ok (.dup, 1) := by decide +kernel
theorem dX8_init_75 : decode cX8_init 75 = .ok (.invokespecial 45, 3) := by decide +kernel
theorem dX8_init_78 : decode cX8_init 78 = .ok (.putfield 46, 3) := by decide +kernel
theorem dX8_init_81 : decode cX8_init 81 = .ok (.aload_n 0, 1) := by decide +kernel
theorem dX8_init_82 : decode cX8_init 82 = .ok (.new 50, 3) := by decide +kernel
theorem dX8_init_85 : decode cX8_init 85 = .ok (.dup, 1) := by decide +kernel
theorem dX8_init_86 : decode cX8_init 86 = .ok (.invokespecial 52, 3) := by decide +kernel
theorem dX8_init_89 : decode cX8_init 89 = .ok (.putfield 53, 3) := by decide +kernel
theorem dX8_init_92 : decode cX8_init 92 = .ok (.aload_n 0, 1) := by decide +kernel
theorem dX8_init_93 : decode cX8_init 93 = .ok (.new 57, 3) := by decide +kernel
theorem dX8_init_96 : decode cX8_init 96 = .ok (.dup, 1) := by decide +kernel
theorem dX8_init_97 : decode cX8_init 97 = .ok (.invokespecial 59, 3) := by decide +kernel
theorem dX8_init_100 : decode cX8_init 100 = .ok (.putfield 60, 3) := by decide +kernel
theorem dX8_init_103 : decode cX8_init 103 = .ok (.aload_n 0, 1) := by decide +kernel
theorem dX8_init_104 : decode cX8_init 104 = .ok (.new 64, 3) := by decide +kernel
theorem dX8_init_107 : decode cX8_init 107 = .ok (.dup, 1) := by decide +kernel
theorem dX8_init_108 : decode cX8_init 108 = .ok (.invokespecial 66, 3) := by decide +kernel
theorem dX8_init_111 : decode cX8_init 111 = .ok (.putfield 67, 3) := by decide +kernel
theorem dX8_init_114 : decode cX8_init 114 = .ok (.aload_n 0, 1) := by decide +kernel
theorem dX8_init_115 : decode cX8_init 115 = .ok (.bipush 32, 2) := by decide +kernel
theorem dX8_init_117 : decode cX8_init 117 = .ok (.newarray .int, 2) := by decide +kernel
theorem dX8_init_119 : decode cX8_init 119 = .ok (.putfield 71, 3) := by decide +kernel
theorem dX8_init_122 : decode cX8_init 122 = .ok (.return_, 1) := by decide +kernel
theorem dX8_write_0 : decode cX8_write 0 = .ok (.iload_n 1, 1) := by decide +kernel
theorem dX8_write_1 : decode cX8_write 1 = .ok (.ifCond .lt 10, 3) := by decide +kernel
theorem dX8_write_4 : decode cX8_write 4 = .ok (.iload_n 1, 1) := by decide +kernel
theorem dX8_write_5 : decode cX8_write 5 = .ok (.sipush 255, 3) := by decide +kernel
theorem dX8_write_8 : decode cX8_write 8 = .ok (.if_icmp .le 6, 3) := by decide +kernel
theorem dX8_write_11 : decode cX8_write 11 = .ok (.bipush (-2), 2) := by decide +kernel
theorem dX8_write_13 : decode cX8_write 13 = .ok (.ireturn, 1) := by decide +kernel
theorem dX8_write_14 : decode cX8_write 14 = .ok (.aload_n 0, 1) := by decide +kernel
theorem dX8_write_15 : decode cX8_write 15 = .ok (.getfield 12, 3) := by decide +kernel
theorem dX8_write_18 : decode cX8_write 18 = .ok (.invokevirtual 75, 3) := by decide +kernel
theorem dX8_write_21 : decode cX8_write 21 = .ok (.ifCond .eq 6, 3) := by decide +kernel
theorem dX8_write_24 : decode cX8_write 24 = .ok (.bipush (-4), 2) := by decide +kernel
theorem dX8_write_26 : decode cX8_write 26 = .ok (.ireturn, 1) := by decide +kernel
theorem dX8_write_27 : decode cX8_write 27 = .ok (.aload_n 0, 1) := by decide +kernel
theorem dX8_write_28 : decode cX8_write 28 = .ok (.getfield 12, 3) := by decide +kernel
theorem dX8_write_31 : decode cX8_write 31 = .ok (.iload_n 1, 1) := by decide +kernel
theorem dX8_write_32 : decode cX8_write 32 = .ok (.invokevirtual 79, 3) := by decide +kernel
theorem dX8_write_35 : decode cX8_write 35 = .ok (.ireturn, 1) := by decide +kernel
theorem dX8_wipe_0 : decode cX8_wipe 0 = .ok (.aload_n 0, 1) := by decide +kernel
theorem dX8_wipe_1 : decode cX8_wipe 1 = .ok (.getfield 12, 3) := by decide +kernel
theorem dX8_wipe_4 : decode cX8_wipe 4 = .ok (.invokevirtual 83, 3) := by decide +kernel
theorem dX8_wipe_7 : decode cX8_wipe 7 = .ok (.ireturn, 1) := by decide +kernel
theorem dX8_fault_0 : decode cX8_fault 0 = .ok (.aload_n 0, 1) := by decide +kernel
theorem dX8_fault_1 : decode cX8_fault 1 = .ok (.getfield 12, 3) := by decide +kernel
theorem dX8_fault_4 : decode cX8_fault 4 = .ok (.invokevirtual 87, 3) := by decide +kernel
theorem dX8_fault_7 : decode cX8_fault 7 = .ok (.ireturn, 1) := by decide +kernel
theorem dX8_night_0 : decode cX8_night 0 = .ok (.aload_n 0, 1) := by decide +kernel
theorem dX8_night_1 : decode cX8_night 1 = .ok (.getfield 12, 3) := by decide +kernel
theorem dX8_night_4 : decode cX8_night 4 = .ok (.invokevirtual 87, 3) := by decide +kernel
theorem dX8_night_7 : decode cX8_night 7 = .ok (.bipush (-9), 2) := by decide +kernel
theorem dX8_night_9 : decode cX8_night 9 = .ok (.if_icmp .eq 6, 3) := by decide +kernel
theorem dX8_night_12 : decode cX8_night 12 = .ok (.bipush (-3), 2) := by decide +kernel
theorem dX8_night_14 : decode cX8_night 14 = .ok (.ireturn, 1) := by decide +kernel
theorem dX8_night_15 : decode cX8_night 15 = .ok (.aload_n 0, 1) := by decide +kernel
theorem dX8_night_16 : decode cX8_night 16 = .ok (.getfield 26, 3) := by decide +kernel
theorem dX8_night_19 : decode cX8_night 19 = .ok (.invokevirtual 90, 3) := by decide +kernel
theorem dX8_night_22 : decode cX8_night 22 = .ok (.aload_n 0, 1) := by decide +kernel
theorem dX8_night_23 : decode cX8_night 23 = .ok (.getfield 19, 3) := by decide +kernel
theorem dX8_night_26 : decode cX8_night 26 = .ok (.invokevirtual 92, 3) := by decide +kernel
theorem dX8_night_29 : decode cX8_night 29 = .ok (.aload_n 0, 1) := by decide +kernel
theorem dX8_night_30 : decode cX8_night 30 = .ok (.getfield 53, 3) := by decide +kernel
theorem dX8_night_33 : decode cX8_night 33 = .ok (.invokevirtual 93, 3) := by decide +kernel
theorem dX8_night_36 : decode cX8_night 36 = .ok (.aload_n 0, 1) := by decide +kernel
theorem dX8_night_37 : decode cX8_night 37 = .ok (.getfield 36, 3) := by decide +kernel
theorem dX8_night_40 : decode cX8_night 40 = .ok (.iconst 0, 1) := by decide +kernel
theorem dX8_night_41 : decode cX8_night 41 = .ok (.putfield 94, 3) := by decide +kernel
theorem dX8_night_44 : decode cX8_night 44 = .ok (.aload_n 0, 1) := by decide +kernel
theorem dX8_night_45 : decode cX8_night 45 = .ok (.getfield 40, 3) := by decide +kernel
theorem dX8_night_48 : decode cX8_night 48 = .ok (.iconst 0, 1) := by decide +kernel
theorem dX8_night_49 : decode cX8_night 49 = .ok (.putfield 94, 3) := by decide +kernel
theorem dX8_night_52 : decode cX8_night 52 = .ok (.aload_n 0, 1) := by decide +kernel
theorem dX8_night_53 : decode cX8_night 53 = .ok (.aload_n 0, 1) := by decide +kernel
theorem dX8_night_54 : decode cX8_night 54 = .ok (.getfield 12, 3) := by decide +kernel
theorem dX8_night_57 : decode cX8_night 57 = .ok (.invokevirtual 98, 3) := by decide +kernel
theorem dX8_night_60 : decode cX8_night 60 = .ok (.putfield 101, 3) := by decide +kernel
theorem dX8_night_63 : decode cX8_night 63 = .ok (.aload_n 0, 1) := by decide +kernel
theorem dX8_night_64 : decode cX8_night 64 = .ok (.getfield 12, 3) := by decide +kernel
theorem dX8_night_67 : decode cX8_night 67 = .ok (.aload_n 0, 1) := by decide +kernel
theorem dX8_night_68 : decode cX8_night 68 = .ok (.getfield 26, 3) := by decide +kernel
theorem dX8_night_71 : decode cX8_night 71 = .ok (.aload_n 0, 1) := by decide +kernel
theorem dX8_night_72 : decode cX8_night 72 = .ok (.getfield 19, 3) := by decide +kernel
theorem dX8_night_75 : decode cX8_night 75 = .ok (.invokevirtual 104, 3) := by decide +kernel
theorem dX8_night_78 : decode cX8_night 78 = .ok (.bipush 10, 2) := by decide +kernel
theorem dX8_night_80 : decode cX8_night 80 = .ok (.aload_n 0, 1) := by decide +kernel
theorem dX8_night_81 : decode cX8_night 81 = .ok (.getfield 26, 3) := by decide +kernel
theorem dX8_night_84 : decode cX8_night 84 = .ok (.getfield 108, 3) := by decide +kernel
theorem dX8_night_87 : decode cX8_night 87 = .ok (.imul, 1) := by decide +kernel
theorem dX8_night_88 : decode cX8_night 88 = .ok (.aload_n 0, 1) := by decide +kernel
theorem dX8_night_89 : decode cX8_night 89 = .ok (.getfield 19, 3) := by decide +kernel
theorem dX8_night_92 : decode cX8_night 92 = .ok (.getfield 111, 3) := by decide +kernel
theorem dX8_night_95 : decode cX8_night 95 = .ok (.iadd, 1) := by decide +kernel
theorem dX8_night_96 : decode cX8_night 96 = .ok (.ireturn, 1) := by decide +kernel
theorem dX8_about_0 : decode cX8_about 0 = .ok (.iload_n 1, 1) := by decide +kernel
theorem dX8_about_1 : decode cX8_about 1 = .ok (.tableswitch 140 0 9 #[55, 63, 71, 76, 84, 100, 108, 116, 124, 132], 55) := by decide +kernel
theorem dX8_about_56 : decode cX8_about 56 = .ok (.aload_n 0, 1) := by decide +kernel
theorem dX8_about_57 : decode cX8_about 57 = .ok (.getfield 26, 3) := by decide +kernel
theorem dX8_about_60 : decode cX8_about 60 = .ok (.getfield 108, 3) := by decide +kernel
theorem dX8_about_63 : decode cX8_about 63 = .ok (.ireturn, 1) := by decide +kernel
theorem dX8_about_64 : decode cX8_about 64 = .ok (.aload_n 0, 1) := by decide +kernel
theorem dX8_about_65 : decode cX8_about 65 = .ok (.getfield 19, 3) := by decide +kernel
theorem dX8_about_68 : decode cX8_about 68 = .ok (.getfield 111, 3) := by decide +kernel
theorem dX8_about_71 : decode cX8_about 71 = .ok (.ireturn, 1) := by decide +kernel
theorem dX8_about_72 : decode cX8_about 72 = .ok (.aload_n 0, 1) := by decide +kernel
theorem dX8_about_73 : decode cX8_about 73 = .ok (.getfield 101, 3) := by decide +kernel
theorem dX8_about_76 : decode cX8_about 76 = .ok (.ireturn, 1) := by decide +kernel
theorem dX8_about_77 : decode cX8_about 77 = .ok (.aload_n 0, 1) := by decide +kernel
theorem dX8_about_78 : decode cX8_about 78 = .ok (.getfield 26, 3) := by decide +kernel
theorem dX8_about_81 : decode cX8_about 81 = .ok (.getfield 114, 3) := by decide +kernel
theorem dX8_about_84 : decode cX8_about 84 = .ok (.ireturn, 1) := by decide +kernel
theorem dX8_about_85 : decode cX8_about 85 = .ok (.aload_n 0, 1) := by decide +kernel
theorem dX8_about_86 : decode cX8_about 86 = .ok (.getfield 26, 3) := by decide +kernel
theorem dX8_about_89 : decode cX8_about 89 = .ok (.getfield 117, 3) := by decide +kernel
theorem dX8_about_92 : decode cX8_about 92 = .ok (.ifCond .eq 7, 3) := by decide +kernel
theorem dX8_about_95 : decode cX8_about 95 = .ok (.iconst 1, 1) := by decide +kernel
theorem dX8_about_96 : decode cX8_about 96 = .ok (.goto 4, 3) := by decide +kernel
theorem dX8_about_99 : decode cX8_about 99 = .ok (.iconst 0, 1) := by decide +kernel
theorem dX8_about_100 : decode cX8_about 100 = .ok (.ireturn, 1) := by decide +kernel
theorem dX8_about_101 : decode cX8_about 101 = .ok (.aload_n 0, 1) := by decide +kernel
theorem dX8_about_102 : decode cX8_about 102 = .ok (.getfield 26, 3) := by decide +kernel
theorem dX8_about_105 : decode cX8_about 105 = .ok (.getfield 120, 3) := by decide +kernel
theorem dX8_about_108 : decode cX8_about 108 = .ok (.ireturn, 1) := by decide +kernel
theorem dX8_about_109 : decode cX8_about 109 = .ok (.aload_n 0, 1) := by decide +kernel
theorem dX8_about_110 : decode cX8_about 110 = .ok (.getfield 26, 3) := by decide +kernel
theorem dX8_about_113 : decode cX8_about 113 = .ok (.invokevirtual 123, 3) := by decide +kernel
theorem dX8_about_116 : decode cX8_about 116 = .ok (.ireturn, 1) := by decide +kernel
theorem dX8_about_117 : decode cX8_about 117 = .ok (.aload_n 0, 1) := by decide +kernel
theorem dX8_about_118 : decode cX8_about 118 = .ok (.getfield 53, 3) := by decide +kernel
theorem dX8_about_121 : decode cX8_about 121 = .ok (.getfield 126, 3) := by decide +kernel
theorem dX8_about_124 : decode cX8_about 124 = .ok (.ireturn, 1) := by decide +kernel
theorem dX8_about_125 : decode cX8_about 125 = .ok (.aload_n 0, 1) := by decide +kernel
theorem dX8_about_126 : decode cX8_about 126 = .ok (.getfield 60, 3) := by decide +kernel
theorem dX8_about_129 : decode cX8_about 129 = .ok (.getfield 127, 3) := by decide +kernel
theorem dX8_about_132 : decode cX8_about 132 = .ok (.ireturn, 1) := by decide +kernel
theorem dX8_about_133 : decode cX8_about 133 = .ok (.aload_n 0, 1) := by decide +kernel
theorem dX8_about_134 : decode cX8_about 134 = .ok (.getfield 12, 3) := by decide +kernel
theorem dX8_about_137 : decode cX8_about 137 = .ok (.getfield 128, 3) := by decide +kernel
theorem dX8_about_140 : decode cX8_about 140 = .ok (.ireturn, 1) := by decide +kernel
theorem dX8_about_141 : decode cX8_about 141 = .ok (.bipush (-2), 2) := by decide +kernel
theorem dX8_about_143 : decode cX8_about 143 = .ok (.ireturn, 1) := by decide +kernel
theorem dX8_roof_0 : decode cX8_roof 0 = .ok (.aload_n 0, 1) := by decide +kernel
theorem dX8_roof_1 : decode cX8_roof 1 = .ok (.getfield 26, 3) := by decide +kernel
theorem dX8_roof_4 : decode cX8_roof 4 = .ok (.iload_n 1, 1) := by decide +kernel
theorem dX8_roof_5 : decode cX8_roof 5 = .ok (.invokevirtual 131, 3) := by decide +kernel
theorem dX8_roof_8 : decode cX8_roof 8 = .ok (.ifCond .ne 5, 3) := by decide +kernel
theorem dX8_roof_11 : decode cX8_roof 11 = .ok (.iconst (-1), 1) := by decide +kernel
theorem dX8_roof_12 : decode cX8_roof 12 = .ok (.ireturn, 1) := by decide +kernel
theorem dX8_roof_13 : decode cX8_roof 13 = .ok (.iload_n 2, 1) := by decide +kernel
theorem dX8_roof_14 : decode cX8_roof 14 = .ok (.tableswitch 90 0 4 #[34, 44, 54, 64, 80], 34) := by decide +kernel
theorem dX8_roof_48 : decode cX8_roof 48 = .ok (.aload_n 0, 1) := by decide +kernel
theorem dX8_roof_49 : decode cX8_roof 49 = .ok (.getfield 26, 3) := by decide +kernel
theorem dX8_roof_52 : decode cX8_roof 52 = .ok (.getfield 135, 3) := by decide +kernel
theorem dX8_roof_55 : decode cX8_roof 55 = .ok (.iload_n 1, 1) := by decide +kernel
theorem dX8_roof_56 : decode cX8_roof 56 = .ok (.iaload, 1) := by decide +kernel
theorem dX8_roof_57 : decode cX8_roof 57 = .ok (.ireturn, 1) := by decide +kernel
theorem dX8_roof_58 : decode cX8_roof 58 = .ok (.aload_n 0, 1) := by decide +kernel
theorem dX8_roof_59 : decode cX8_roof 59 = .ok (.getfield 26, 3) := by decide +kernel
theorem dX8_roof_62 : decode cX8_roof 62 = .ok (.getfield 138, 3) := by decide +kernel
theorem dX8_roof_65 : decode cX8_roof 65 = .ok (.iload_n 1, 1) := by decide +kernel
theorem dX8_roof_66 : decode cX8_roof 66 = .ok (.iaload, 1) := by decide +kernel
theorem dX8_roof_67 : decode cX8_roof 67 = .ok (.ireturn, 1) := by decide +kernel
theorem dX8_roof_68 : decode cX8_roof 68 = .ok (.aload_n 0, 1) := by decide +kernel
theorem dX8_roof_69 : decode cX8_roof 69 = .ok (.getfield 26, 3) := by decide +kernel
theorem dX8_roof_72 : decode cX8_roof 72 = .ok (.getfield 141, 3) := by decide +kernel
theorem dX8_roof_75 : decode cX8_roof 75 = .ok (.iload_n 1, 1) := by decide +kernel
theorem dX8_roof_76 : decode cX8_roof 76 = .ok (.iaload, 1) := by decide +kernel
theorem dX8_roof_77 : decode cX8_roof 77 = .ok (.ireturn, 1) := by decide +kernel
theorem dX8_roof_78 : decode cX8_roof 78 = .ok (.aload_n 0, 1) := by decide +kernel
theorem dX8_roof_79 : decode cX8_roof 79 = .ok (.getfield 26, 3) := by decide +kernel
theorem dX8_roof_82 : decode cX8_roof 82 = .ok (.iload_n 1, 1) := by decide +kernel
theorem dX8_roof_83 : decode cX8_roof 83 = .ok (.aload_n 0, 1) := by decide +kernel
theorem dX8_roof_84 : decode cX8_roof 84 = .ok (.getfield 26, 3) := by decide +kernel
theorem dX8_roof_87 : decode cX8_roof 87 = .ok (.invokevirtual 144, 3) := by decide +kernel
theorem dX8_roof_90 : decode cX8_roof 90 = .ok (.invokevirtual 147, 3) := by decide +kernel
theorem dX8_roof_93 : decode cX8_roof 93 = .ok (.ireturn, 1) := by decide +kernel
theorem dX8_roof_94 : decode cX8_roof 94 = .ok (.aload_n 0, 1) := by decide +kernel
theorem dX8_roof_95 : decode cX8_roof 95 = .ok (.invokevirtual 151, 3) := by decide +kernel
theorem dX8_roof_98 : decode cX8_roof 98 = .ok (.aload_n 0, 1) := by decide +kernel
theorem dX8_roof_99 : decode cX8_roof 99 = .ok (.iload_n 1, 1) := by decide +kernel
theorem dX8_roof_100 : decode cX8_roof 100 = .ok (.invokevirtual 154, 3) := by decide +kernel
theorem dX8_roof_103 : decode cX8_roof 103 = .ok (.ireturn, 1) := by decide +kernel
theorem dX8_roof_104 : decode cX8_roof 104 = .ok (.bipush (-2), 2) := by decide +kernel
theorem dX8_roof_106 : decode cX8_roof 106 = .ok (.ireturn, 1) := by decide +kernel
theorem dX8_starsHeldNow_0 : decode cX8_starsHeldNow 0 = .ok (.iconst 0, 1) := by decide +kernel
theorem dX8_starsHeldNow_1 : decode cX8_starsHeldNow 1 = .ok (.istore_n 2, 1) := by decide +kernel
theorem dX8_starsHeldNow_2 : decode cX8_starsHeldNow 2 = .ok (.iconst 0, 1) := by decide +kernel
theorem dX8_starsHeldNow_3 : decode cX8_starsHeldNow 3 = .ok (.istore_n 3, 1) := by decide +kernel
theorem dX8_starsHeldNow_4 : decode cX8_starsHeldNow 4 = .ok (.iload_n 3, 1) := by decide +kernel
theorem dX8_starsHeldNow_5 : decode cX8_starsHeldNow 5 = .ok (.aload_n 0, 1) := by decide +kernel
theorem dX8_starsHeldNow_6 : decode cX8_starsHeldNow 6 = .ok (.getfield 19, 3) := by decide +kernel
theorem dX8_starsHeldNow_9 : decode cX8_starsHeldNow 9 = .ok (.getfield 111, 3) := by decide +kernel
theorem dX8_starsHeldNow_12 : decode cX8_starsHeldNow 12 = .ok (.if_icmp .ge 41, 3) := by decide +kernel
theorem dX8_starsHeldNow_15 : decode cX8_starsHeldNow 15 = .ok (.aload_n 0, 1) := by decide +kernel
theorem dX8_starsHeldNow_16 : decode cX8_starsHeldNow 16 = .ok (.getfield 46, 3) := by decide +kernel
theorem dX8_starsHeldNow_19 : decode cX8_starsHeldNow 19 = .ok (.aload_n 0, 1) := by decide +kernel
theorem dX8_starsHeldNow_20 : decode cX8_starsHeldNow 20 = .ok (.getfield 19, 3) := by decide +kernel
theorem dX8_starsHeldNow_23 : decode cX8_starsHeldNow 23 = .ok (.iload_n 3, 1) := by decide +kernel
theorem dX8_starsHeldNow_24 : decode cX8_starsHeldNow 24 = .ok (.aload_n 0, 1) := by decide +kernel
theorem dX8_starsHeldNow_25 : decode cX8_starsHeldNow 25 = .ok (.getfield 26, 3) := by decide +kernel
theorem dX8_starsHeldNow_28 : decode cX8_starsHeldNow 28 = .ok (.getfield 114, 3) := by decide +kernel
theorem dX8_starsHeldNow_31 : decode cX8_starsHeldNow 31 = .ok (.invokevirtual 157, 3) := by decide +kernel
theorem dX8_starsHeldNow_34 : decode cX8_starsHeldNow 34 = .ok (.invokevirtual 160, 3) := by decide +kernel
theorem dX8_starsHeldNow_37 : decode cX8_starsHeldNow 37 = .ok (.iload_n 1, 1) := by decide +kernel
theorem dX8_starsHeldNow_38 : decode cX8_starsHeldNow 38 = .ok (.if_icmp .ne 9, 3) := by decide +kernel
theorem dX8_starsHeldNow_41 : decode cX8_starsHeldNow 41 = .ok (.iload_n 2, 1) := by decide +kernel
theorem dX8_starsHeldNow_42 : decode cX8_starsHeldNow 42 = .ok (.iconst 1, 1) := by decide +kernel
theorem dX8_starsHeldNow_43 : decode cX8_starsHeldNow 43 = .ok (.iload_n 3, 1) := by decide +kernel
theorem dX8_starsHeldNow_44 : decode cX8_starsHeldNow 44 = .ok (.ishl, 1) := by decide +kernel
theorem dX8_starsHeldNow_45 : decode cX8_starsHeldNow 45 = .ok (.ior, 1) := by decide +kernel
theorem dX8_starsHeldNow_46 : decode cX8_starsHeldNow 46 = .ok (.istore_n 2, 1) := by decide +kernel
theorem dX8_starsHeldNow_47 : decode cX8_starsHeldNow 47 = .ok (.iinc 3 1, 3) := by decide +kernel
theorem dX8_starsHeldNow_50 : decode cX8_starsHeldNow 50 = .ok (.goto (-46), 3) := by decide +kernel
theorem dX8_starsHeldNow_53 : decode cX8_starsHeldNow 53 = .ok (.iload_n 2, 1) := by decide +kernel
theorem dX8_starsHeldNow_54 : decode cX8_starsHeldNow 54 = .ok (.ireturn, 1) := by decide +kernel
theorem dX8_star_0 : decode cX8_star 0 = .ok (.aload_n 0, 1) := by decide +kernel
theorem dX8_star_1 : decode cX8_star 1 = .ok (.getfield 19, 3) := by decide +kernel
theorem dX8_star_4 : decode cX8_star 4 = .ok (.iload_n 1, 1) := by decide +kernel
theorem dX8_star_5 : decode cX8_star 5 = .ok (.invokevirtual 163, 3) := by decide +kernel
theorem dX8_star_8 : decode cX8_star 8 = .ok (.ifCond .ne 5, 3) := by decide +kernel
theorem dX8_star_11 : decode cX8_star 11 = .ok (.iconst (-1), 1) := by decide +kernel
theorem dX8_star_12 : decode cX8_star 12 = .ok (.ireturn, 1) := by decide +kernel
theorem dX8_star_13 : decode cX8_star 13 = .ok (.iload_n 2, 1) := by decide +kernel
theorem dX8_star_14 : decode cX8_star 14 = .ok (.tableswitch 135 0 4 #[34, 50, 60, 70, 97], 34) := by decide +kernel
theorem dX8_star_48 : decode cX8_star 48 = .ok (.aload_n 0, 1) := by decide +kernel
theorem dX8_star_49 : decode cX8_star 49 = .ok (.getfield 19, 3) := by decide +kernel
theorem dX8_star_52 : decode cX8_star 52 = .ok (.iload_n 1, 1) := by decide +kernel
theorem dX8_star_53 : decode cX8_star 53 = .ok (.aload_n 0, 1) := by decide +kernel
theorem dX8_star_54 : decode cX8_star 54 = .ok (.getfield 26, 3) := by decide +kernel
theorem dX8_star_57 : decode cX8_star 57 = .ok (.getfield 114, 3) := by decide +kernel
theorem dX8_star_60 : decode cX8_star 60 = .ok (.invokevirtual 157, 3) := by decide +kernel
theorem dX8_star_63 : decode cX8_star 63 = .ok (.ireturn, 1) := by decide +kernel
theorem dX8_star_64 : decode cX8_star 64 = .ok (.aload_n 0, 1) := by decide +kernel
theorem dX8_star_65 : decode cX8_star 65 = .ok (.getfield 19, 3) := by decide +kernel
theorem dX8_star_68 : decode cX8_star 68 = .ok (.getfield 166, 3) := by decide +kernel
theorem dX8_star_71 : decode cX8_star 71 = .ok (.iload_n 1, 1) := by decide +kernel
theorem dX8_star_72 : decode cX8_star 72 = .ok (.iaload, 1) := by decide +kernel
theorem dX8_star_73 : decode cX8_star 73 = .ok (.ireturn, 1) := by decide +kernel
theorem dX8_star_74 : decode cX8_star 74 = .ok (.aload_n 0, 1) := by decide +kernel
theorem dX8_star_75 : decode cX8_star 75 = .ok (.getfield 19, 3) := by decide +kernel
theorem dX8_star_78 : decode cX8_star 78 = .ok (.getfield 169, 3) := by decide +kernel
theorem dX8_star_81 : decode cX8_star 81 = .ok (.iload_n 1, 1) := by decide +kernel
theorem dX8_star_82 : decode cX8_star 82 = .ok (.iaload, 1) := by decide +kernel
theorem dX8_star_83 : decode cX8_star 83 = .ok (.ireturn, 1) := by decide +kernel
theorem dX8_star_84 : decode cX8_star 84 = .ok (.aload_n 0, 1) := by decide +kernel
theorem dX8_star_85 : decode cX8_star 85 = .ok (.invokevirtual 151, 3) := by decide +kernel
theorem dX8_star_88 : decode cX8_star 88 = .ok (.aload_n 0, 1) := by decide +kernel
theorem dX8_star_89 : decode cX8_star 89 = .ok (.getfield 46, 3) := by decide +kernel
theorem dX8_star_92 : decode cX8_star 92 = .ok (.aload_n 0, 1) := by decide +kernel
theorem dX8_star_93 : decode cX8_star 93 = .ok (.getfield 19, 3) := by decide +kernel
theorem dX8_star_96 : decode cX8_star 96 = .ok (.iload_n 1, 1) := by decide +kernel
theorem dX8_star_97 : decode cX8_star 97 = .ok (.aload_n 0, 1) := by decide +kernel
theorem dX8_star_98 : decode cX8_star 98 = .ok (.getfield 26, 3) := by decide +kernel
theorem dX8_star_101 : decode cX8_star 101 = .ok (.getfield 114, 3) := by decide +kernel
theorem dX8_star_104 : decode cX8_star 104 = .ok (.invokevirtual 157, 3) := by decide +kernel
theorem dX8_star_107 : decode cX8_star 107 = .ok (.invokevirtual 160, 3) := by decide +kernel
theorem dX8_star_110 : decode cX8_star 110 = .ok (.ireturn, 1) := by decide +kernel
theorem dX8_star_111 : decode cX8_star 111 = .ok (.aload_n 0, 1) := by decide +kernel
theorem dX8_star_112 : decode cX8_star 112 = .ok (.invokevirtual 151, 3) := by decide +kernel
theorem dX8_star_115 : decode cX8_star 115 = .ok (.aload_n 0, 1) := by decide +kernel
theorem dX8_star_116 : decode cX8_star 116 = .ok (.getfield 26, 3) := by decide +kernel
theorem dX8_star_119 : decode cX8_star 119 = .ok (.getfield 117, 3) := by decide +kernel
theorem dX8_star_122 : decode cX8_star 122 = .ok (.ifCond .eq 7, 3) := by decide +kernel
theorem dX8_star_125 : decode cX8_star 125 = .ok (.iconst 0, 1) := by decide +kernel
theorem dX8_star_126 : decode cX8_star 126 = .ok (.goto 22, 3) := by decide +kernel
theorem dX8_star_129 : decode cX8_star 129 = .ok (.aload_n 0, 1) := by decide +kernel
theorem dX8_star_130 : decode cX8_star 130 = .ok (.getfield 46, 3) := by decide +kernel
theorem dX8_star_133 : decode cX8_star 133 = .ok (.aload_n 0, 1) := by decide +kernel
theorem dX8_star_134 : decode cX8_star 134 = .ok (.getfield 19, 3) := by decide +kernel
theorem dX8_star_137 : decode cX8_star 137 = .ok (.iload_n 1, 1) := by decide +kernel
theorem dX8_star_138 : decode cX8_star 138 = .ok (.aload_n 0, 1) := by decide +kernel
theorem dX8_star_139 : decode cX8_star 139 = .ok (.getfield 26, 3) := by decide +kernel
theorem dX8_star_142 : decode cX8_star 142 = .ok (.getfield 114, 3) := by decide +kernel
theorem dX8_star_145 : decode cX8_star 145 = .ok (.invokevirtual 172, 3) := by decide +kernel
theorem dX8_star_148 : decode cX8_star 148 = .ok (.ireturn, 1) := by decide +kernel
theorem dX8_star_149 : decode cX8_star 149 = .ok (.bipush (-2), 2) := by decide +kernel
theorem dX8_star_151 : decode cX8_star 151 = .ok (.ireturn, 1) := by decide +kernel
theorem dX8_purse_0 : decode cX8_purse 0 = .ok (.iload_n 1, 1) := by decide +kernel
theorem dX8_purse_1 : decode cX8_purse 1 = .ok (.invokestatic 176, 3) := by decide +kernel
theorem dX8_purse_4 : decode cX8_purse 4 = .ok (.ifCond .eq 15, 3) := by decide +kernel
theorem dX8_purse_7 : decode cX8_purse 7 = .ok (.aload_n 0, 1) := by decide +kernel
theorem dX8_purse_8 : decode cX8_purse 8 = .ok (.getfield 26, 3) := by decide +kernel
theorem dX8_purse_11 : decode cX8_purse 11 = .ok (.getfield 179, 3) := by decide +kernel
theorem dX8_purse_14 : decode cX8_purse 14 = .ok (.iload_n 1, 1) := by decide +kernel
theorem dX8_purse_15 : decode cX8_purse 15 = .ok (.iaload, 1) := by decide +kernel
theorem dX8_purse_16 : decode cX8_purse 16 = .ok (.goto 4, 3) := by decide +kernel
theorem dX8_purse_19 : decode cX8_purse 19 = .ok (.iconst (-1), 1) := by decide +kernel
theorem dX8_purse_20 : decode cX8_purse 20 = .ok (.ireturn, 1) := by decide +kernel
theorem dX8_isLandlord_0 : decode cX8_isLandlord 0 = .ok (.iload_n 0, 1) := by decide +kernel
theorem dX8_isLandlord_1 : decode cX8_isLandlord 1 = .ok (.ifCond .lt 12, 3) := by decide +kernel
theorem dX8_isLandlord_4 : decode cX8_isLandlord 4 = .ok (.iload_n 0, 1) := by decide +kernel
theorem dX8_isLandlord_5 : decode cX8_isLandlord 5 = .ok (.iconst 4, 1) := by decide +kernel
theorem dX8_isLandlord_6 : decode cX8_isLandlord 6 = .ok (.if_icmp .ge 7, 3) := by decide +kernel
theorem dX8_isLandlord_9 : decode cX8_isLandlord 9 = .ok (.iconst 1, 1) := by decide +kernel
theorem dX8_isLandlord_10 : decode cX8_isLandlord 10 = .ok (.goto 4, 3) := by decide +kernel
theorem dX8_isLandlord_13 : decode cX8_isLandlord 13 = .ok (.iconst 0, 1) := by decide +kernel
theorem dX8_isLandlord_14 : decode cX8_isLandlord 14 = .ok (.ireturn, 1) := by decide +kernel
theorem dX8_surveyTown_0 : decode cX8_surveyTown 0 = .ok (.aload_n 0, 1) := by decide +kernel
theorem dX8_surveyTown_1 : decode cX8_surveyTown 1 = .ok (.getfield 46, 3) := by decide +kernel
theorem dX8_surveyTown_4 : decode cX8_surveyTown 4 = .ok (.aload_n 0, 1) := by decide +kernel
theorem dX8_surveyTown_5 : decode cX8_surveyTown 5 = .ok (.getfield 26, 3) := by decide +kernel
theorem dX8_surveyTown_8 : decode cX8_surveyTown 8 = .ok (.aload_n 0, 1) := by decide +kernel
theorem dX8_surveyTown_9 : decode cX8_surveyTown 9 = .ok (.getfield 26, 3) := by decide +kernel
theorem dX8_surveyTown_12 : decode cX8_surveyTown 12 = .ok (.invokevirtual 144, 3) := by decide +kernel
theorem dX8_surveyTown_15 : decode cX8_surveyTown 15 = .ok (.aload_n 0, 1) := by decide +kernel
theorem dX8_surveyTown_16 : decode cX8_surveyTown 16 = .ok (.getfield 101, 3) := by decide +kernel
theorem dX8_surveyTown_19 : decode cX8_surveyTown 19 = .ok (.invokevirtual 182, 3) := by decide +kernel
theorem dX8_surveyTown_22 : decode cX8_surveyTown 22 = .ok (.return_, 1) := by decide +kernel
theorem dX8_build_0 : decode cX8_build 0 = .ok (.aload_n 0, 1) := by decide +kernel
theorem dX8_build_1 : decode cX8_build 1 = .ok (.getfield 26, 3) := by decide +kernel
theorem dX8_build_4 : decode cX8_build 4 = .ok (.iload_n 1, 1) := by decide +kernel
theorem dX8_build_5 : decode cX8_build 5 = .ok (.invokevirtual 131, 3) := by decide +kernel
theorem dX8_build_8 : decode cX8_build 8 = .ok (.ifCond .ne 5, 3) := by decide +kernel
theorem dX8_build_11 : decode cX8_build 11 = .ok (.iconst (-1), 1) := by decide +kernel
theorem dX8_build_12 : decode cX8_build 12 = .ok (.ireturn, 1) := by decide +kernel
theorem dX8_build_13 : decode cX8_build 13 = .ok (.iload_n 2, 1) := by decide +kernel
theorem dX8_build_14 : decode cX8_build 14 = .ok (.ifCond .lt 9, 3) := by decide +kernel
theorem dX8_build_17 : decode cX8_build 17 = .ok (.iload_n 2, 1) := by decide +kernel
theorem dX8_build_18 : decode cX8_build 18 = .ok (.bipush 10, 2) := by decide +kernel
theorem dX8_build_20 : decode cX8_build 20 = .ok (.if_icmp .lt 6, 3) := by decide +kernel
theorem dX8_build_23 : decode cX8_build 23 = .ok (.bipush (-2), 2) := by decide +kernel
theorem dX8_build_25 : decode cX8_build 25 = .ok (.ireturn, 1) := by decide +kernel
theorem dX8_build_26 : decode cX8_build 26 = .ok (.aload_n 0, 1) := by decide +kernel
theorem dX8_build_27 : decode cX8_build 27 = .ok (.getfield 26, 3) := by decide +kernel
theorem dX8_build_30 : decode cX8_build 30 = .ok (.getfield 138, 3) := by decide +kernel
theorem dX8_build_33 : decode cX8_build 33 = .ok (.iload_n 1, 1) := by decide +kernel
theorem dX8_build_34 : decode cX8_build 34 = .ok (.iaload, 1) := by decide +kernel
theorem dX8_build_35 : decode cX8_build 35 = .ok (.istore_n 3, 1) := by decide +kernel
theorem dX8_build_36 : decode cX8_build 36 = .ok (.iload_n 3, 1) := by decide +kernel
theorem dX8_build_37 : decode cX8_build 37 = .ok (.iload_n 2, 1) := by decide +kernel
theorem dX8_build_38 : decode cX8_build 38 = .ok (.if_icmp .ne 6, 3) := by decide +kernel
theorem dX8_build_41 : decode cX8_build 41 = .ok (.bipush (-3), 2) := by decide +kernel
theorem dX8_build_43 : decode cX8_build 43 = .ok (.ireturn, 1) := by decide +kernel
theorem dX8_build_44 : decode cX8_build 44 = .ok (.aload_n 0, 1) := by decide +kernel
theorem dX8_build_45 : decode cX8_build 45 = .ok (.getfield 26, 3) := by decide +kernel
theorem dX8_build_48 : decode cX8_build 48 = .ok (.iload_n 1, 1) := by decide +kernel
theorem dX8_build_49 : decode cX8_build 49 = .ok (.iload_n 2, 1) := by decide +kernel
theorem dX8_build_50 : decode cX8_build 50 = .ok (.invokevirtual 186, 3) := by decide +kernel
theorem dX8_build_53 : decode cX8_build 53 = .ok (.aload_n 0, 1) := by decide +kernel
theorem dX8_build_54 : decode cX8_build 54 = .ok (.getfield 53, 3) := by decide +kernel
theorem dX8_build_57 : decode cX8_build 57 = .ok (.iconst 0, 1) := by decide +kernel
theorem dX8_build_58 : decode cX8_build 58 = .ok (.iload_n 1, 1) := by decide +kernel
theorem dX8_build_59 : decode cX8_build 59 = .ok (.iload_n 3, 1) := by decide +kernel
theorem dX8_build_60 : decode cX8_build 60 = .ok (.invokevirtual 190, 3) := by decide +kernel
theorem dX8_build_63 : decode cX8_build 63 = .ok (.iload_n 3, 1) := by decide +kernel
theorem dX8_build_64 : decode cX8_build 64 = .ok (.ireturn, 1) := by decide +kernel
theorem dX8_light_0 : decode cX8_light 0 = .ok (.aload_n 0, 1) := by decide +kernel
theorem dX8_light_1 : decode cX8_light 1 = .ok (.getfield 26, 3) := by decide +kernel
theorem dX8_light_4 : decode cX8_light 4 = .ok (.iload_n 1, 1) := by decide +kernel
theorem dX8_light_5 : decode cX8_light 5 = .ok (.invokevirtual 131, 3) := by decide +kernel
theorem dX8_light_8 : decode cX8_light 8 = .ok (.ifCond .ne 5, 3) := by decide +kernel
theorem dX8_light_11 : decode cX8_light 11 = .ok (.iconst (-1), 1) := by decide +kernel
theorem dX8_light_12 : decode cX8_light 12 = .ok (.ireturn, 1) := by decide +kernel
theorem dX8_light_13 : decode cX8_light 13 = .ok (.aload_n 0, 1) := by decide +kernel
theorem dX8_light_14 : decode cX8_light 14 = .ok (.getfield 26, 3) := by decide +kernel
theorem dX8_light_17 : decode cX8_light 17 = .ok (.dup, 1) := by decide +kernel
theorem dX8_light_18 : decode cX8_light 18 = .ok (.getfield 120, 3) := by decide +kernel
theorem dX8_light_21 : decode cX8_light 21 = .ok (.iconst 1, 1) := by decide +kernel
theorem dX8_light_22 : decode cX8_light 22 = .ok (.iload_n 1, 1) := by decide +kernel
theorem dX8_light_23 : decode cX8_light 23 = .ok (.ishl, 1) := by decide +kernel
theorem dX8_light_24 : decode cX8_light 24 = .ok (.ixor, 1) := by decide +kernel
theorem dX8_light_25 : decode cX8_light 25 = .ok (.putfield 120, 3) := by decide +kernel
theorem dX8_light_28 : decode cX8_light 28 = .ok (.aload_n 0, 1) := by decide +kernel
theorem dX8_light_29 : decode cX8_light 29 = .ok (.getfield 53, 3) := by decide +kernel
theorem dX8_light_32 : decode cX8_light 32 = .ok (.iconst 1, 1) := by decide +kernel
theorem dX8_light_33 : decode cX8_light 33 = .ok (.iload_n 1, 1) := by decide +kernel
theorem dX8_light_34 : decode cX8_light 34 = .ok (.iconst 0, 1) := by decide +kernel
theorem dX8_light_35 : decode cX8_light 35 = .ok (.invokevirtual 190, 3) := by decide +kernel
theorem dX8_light_38 : decode cX8_light 38 = .ok (.aload_n 0, 1) := by decide +kernel
theorem dX8_light_39 : decode cX8_light 39 = .ok (.getfield 26, 3) := by decide +kernel
theorem dX8_light_42 : decode cX8_light 42 = .ok (.getfield 120, 3) := by decide +kernel
theorem dX8_light_45 : decode cX8_light 45 = .ok (.iload_n 1, 1) := by decide +kernel
theorem dX8_light_46 : decode cX8_light 46 = .ok (.ishr, 1) := by decide +kernel
theorem dX8_light_47 : decode cX8_light 47 = .ok (.iconst 1, 1) := by decide +kernel
theorem dX8_light_48 : decode cX8_light 48 = .ok (.iand, 1) := by decide +kernel
theorem dX8_light_49 : decode cX8_light 49 = .ok (.ireturn, 1) := by decide +kernel
theorem dX8_sell_0 : decode cX8_sell 0 = .ok (.aload_n 0, 1) := by decide +kernel
theorem dX8_sell_1 : decode cX8_sell 1 = .ok (.getfield 26, 3) := by decide +kernel
theorem dX8_sell_4 : decode cX8_sell 4 = .ok (.iload_n 1, 1) := by decide +kernel
theorem dX8_sell_5 : decode cX8_sell 5 = .ok (.invokevirtual 131, 3) := by decide +kernel
theorem dX8_sell_8 : decode cX8_sell 8 = .ok (.ifCond .eq 10, 3) := by decide +kernel
theorem dX8_sell_11 : decode cX8_sell 11 = .ok (.iload_n 2, 1) := by decide +kernel
theorem dX8_sell_12 : decode cX8_sell 12 = .ok (.invokestatic 176, 3) := by decide +kernel
theorem dX8_sell_15 : decode cX8_sell 15 = .ok (.ifCond .ne 5, 3) := by decide +kernel
theorem dX8_sell_18 : decode cX8_sell 18 = .ok (.iconst (-1), 1) := by decide +kernel
theorem dX8_sell_19 : decode cX8_sell 19 = .ok (.ireturn, 1) := by decide +kernel
theorem dX8_sell_20 : decode cX8_sell 20 = .ok (.aload_n 0, 1) := by decide +kernel
theorem dX8_sell_21 : decode cX8_sell 21 = .ok (.getfield 26, 3) := by decide +kernel
theorem dX8_sell_24 : decode cX8_sell 24 = .ok (.getfield 141, 3) := by decide +kernel
theorem dX8_sell_27 : decode cX8_sell 27 = .ok (.iload_n 1, 1) := by decide +kernel
theorem dX8_sell_28 : decode cX8_sell 28 = .ok (.iaload, 1) := by decide +kernel
theorem dX8_sell_29 : decode cX8_sell 29 = .ok (.istore_n 3, 1) := by decide +kernel
theorem dX8_sell_30 : decode cX8_sell 30 = .ok (.iload_n 3, 1) := by decide +kernel
theorem dX8_sell_31 : decode cX8_sell 31 = .ok (.iload_n 2, 1) := by decide +kernel
theorem dX8_sell_32 : decode cX8_sell 32 = .ok (.if_icmp .ne 6, 3) := by decide +kernel
theorem dX8_sell_35 : decode cX8_sell 35 = .ok (.bipush (-3), 2) := by decide +kernel
theorem dX8_sell_37 : decode cX8_sell 37 = .ok (.ireturn, 1) := by decide +kernel
theorem dX8_sell_38 : decode cX8_sell 38 = .ok (.aload_n 0, 1) := by decide +kernel
theorem dX8_sell_39 : decode cX8_sell 39 = .ok (.getfield 26, 3) := by decide +kernel
theorem dX8_sell_42 : decode cX8_sell 42 = .ok (.iload_n 1, 1) := by decide +kernel
theorem dX8_sell_43 : decode cX8_sell 43 = .ok (.iload_n 2, 1) := by decide +kernel
theorem dX8_sell_44 : decode cX8_sell 44 = .ok (.invokevirtual 193, 3) := by decide +kernel
theorem dX8_sell_47 : decode cX8_sell 47 = .ok (.aload_n 0, 1) := by decide +kernel
theorem dX8_sell_48 : decode cX8_sell 48 = .ok (.getfield 53, 3) := by decide +kernel
theorem dX8_sell_51 : decode cX8_sell 51 = .ok (.iconst 2, 1) := by decide +kernel
theorem dX8_sell_52 : decode cX8_sell 52 = .ok (.iload_n 1, 1) := by decide +kernel
theorem dX8_sell_53 : decode cX8_sell 53 = .ok (.iload_n 3, 1) := by decide +kernel
theorem dX8_sell_54 : decode cX8_sell 54 = .ok (.invokevirtual 190, 3) := by decide +kernel
theorem dX8_sell_57 : decode cX8_sell 57 = .ok (.iload_n 3, 1) := by decide +kernel
theorem dX8_sell_58 : decode cX8_sell 58 = .ok (.ireturn, 1) := by decide +kernel
theorem dX8_clouds_0 : decode cX8_clouds 0 = .ok (.aload_n 0, 1) := by decide +kernel
theorem dX8_clouds_1 : decode cX8_clouds 1 = .ok (.getfield 26, 3) := by decide +kernel
theorem dX8_clouds_4 : decode cX8_clouds 4 = .ok (.aload_n 0, 1) := by decide +kernel
theorem dX8_clouds_5 : decode cX8_clouds 5 = .ok (.getfield 26, 3) := by decide +kernel
theorem dX8_clouds_8 : decode cX8_clouds 8 = .ok (.getfield 117, 3) := by decide +kernel
theorem dX8_clouds_11 : decode cX8_clouds 11 = .ok (.ifCond .ne 7, 3) := by decide +kernel
theorem dX8_clouds_14 : decode cX8_clouds 14 = .ok (.iconst 1, 1) := by decide +kernel
theorem dX8_clouds_15 : decode cX8_clouds 15 = .ok (.goto 4, 3) := by decide +kernel
theorem dX8_clouds_18 : decode cX8_clouds 18 = .ok (.iconst 0, 1) := by decide +kernel
theorem dX8_clouds_19 : decode cX8_clouds 19 = .ok (.putfield 117, 3) := by decide +kernel
theorem dX8_clouds_22 : decode cX8_clouds 22 = .ok (.aload_n 0, 1) := by decide +kernel
theorem dX8_clouds_23 : decode cX8_clouds 23 = .ok (.getfield 53, 3) := by decide +kernel
theorem dX8_clouds_26 : decode cX8_clouds 26 = .ok (.iconst 3, 1) := by decide +kernel
theorem dX8_clouds_27 : decode cX8_clouds 27 = .ok (.iconst 0, 1) := by decide +kernel
theorem dX8_clouds_28 : decode cX8_clouds 28 = .ok (.iconst 0, 1) := by decide +kernel
theorem dX8_clouds_29 : decode cX8_clouds 29 = .ok (.invokevirtual 190, 3) := by decide +kernel
theorem dX8_clouds_32 : decode cX8_clouds 32 = .ok (.aload_n 0, 1) := by decide +kernel
theorem dX8_clouds_33 : decode cX8_clouds 33 = .ok (.getfield 26, 3) := by decide +kernel
theorem dX8_clouds_36 : decode cX8_clouds 36 = .ok (.getfield 117, 3) := by decide +kernel
theorem dX8_clouds_39 : decode cX8_clouds 39 = .ok (.ifCond .eq 7, 3) := by decide +kernel
theorem dX8_clouds_42 : decode cX8_clouds 42 = .ok (.iconst 1, 1) := by decide +kernel
theorem dX8_clouds_43 : decode cX8_clouds 43 = .ok (.goto 4, 3) := by decide +kernel
theorem dX8_clouds_46 : decode cX8_clouds 46 = .ok (.iconst 0, 1) := by decide +kernel
theorem dX8_clouds_47 : decode cX8_clouds 47 = .ok (.ireturn, 1) := by decide +kernel
theorem dX8_hour_0 : decode cX8_hour 0 = .ok (.aload_n 0, 1) := by decide +kernel
theorem dX8_hour_1 : decode cX8_hour 1 = .ok (.iconst 1, 1) := by decide +kernel
theorem dX8_hour_2 : decode cX8_hour 2 = .ok (.invokevirtual 196, 3) := by decide +kernel
theorem dX8_hour_5 : decode cX8_hour 5 = .ok (.istore_n 1, 1) := by decide +kernel
theorem dX8_hour_6 : decode cX8_hour 6 = .ok (.aload_n 0, 1) := by decide +kernel
theorem dX8_hour_7 : decode cX8_hour 7 = .ok (.getfield 26, 3) := by decide +kernel
theorem dX8_hour_10 : decode cX8_hour 10 = .ok (.dup, 1) := by decide +kernel
theorem dX8_hour_11 : decode cX8_hour 11 = .ok (.getfield 114, 3) := by decide +kernel
theorem dX8_hour_14 : decode cX8_hour 14 = .ok (.iconst 1, 1) := by decide +kernel
theorem dX8_hour_15 : decode cX8_hour 15 = .ok (.iadd, 1) := by decide +kernel
theorem dX8_hour_16 : decode cX8_hour 16 = .ok (.putfield 114, 3) := by decide +kernel
theorem dX8_hour_19 : decode cX8_hour 19 = .ok (.aload_n 0, 1) := by decide +kernel
theorem dX8_hour_20 : decode cX8_hour 20 = .ok (.getfield 53, 3) := by decide +kernel
theorem dX8_hour_23 : decode cX8_hour 23 = .ok (.iconst 4, 1) := by decide +kernel
theorem dX8_hour_24 : decode cX8_hour 24 = .ok (.iconst 0, 1) := by decide +kernel
theorem dX8_hour_25 : decode cX8_hour 25 = .ok (.iconst 0, 1) := by decide +kernel
theorem dX8_hour_26 : decode cX8_hour 26 = .ok (.invokevirtual 190, 3) := by decide +kernel
theorem dX8_hour_29 : decode cX8_hour 29 = .ok (.iload_n 1, 1) := by decide +kernel
theorem dX8_hour_30 : decode cX8_hour 30 = .ok (.ireturn, 1) := by decide +kernel
theorem dX8_undo_0 : decode cX8_undo 0 = .ok (.aload_n 0, 1) := by decide +kernel
theorem dX8_undo_1 : decode cX8_undo 1 = .ok (.getfield 53, 3) := by decide +kernel
theorem dX8_undo_4 : decode cX8_undo 4 = .ok (.invokevirtual 199, 3) := by decide +kernel
theorem dX8_undo_7 : decode cX8_undo 7 = .ok (.istore_n 1, 1) := by decide +kernel
theorem dX8_undo_8 : decode cX8_undo 8 = .ok (.iload_n 1, 1) := by decide +kernel
theorem dX8_undo_9 : decode cX8_undo 9 = .ok (.ifCond .lt 9, 3) := by decide +kernel
theorem dX8_undo_12 : decode cX8_undo 12 = .ok (.iload_n 1, 1) := by decide +kernel
theorem dX8_undo_13 : decode cX8_undo 13 = .ok (.bipush 14, 2) := by decide +kernel
theorem dX8_undo_15 : decode cX8_undo 15 = .ok (.if_icmp .lt 6, 3) := by decide +kernel
theorem dX8_undo_18 : decode cX8_undo 18 = .ok (.bipush (-3), 2) := by decide +kernel
theorem dX8_undo_20 : decode cX8_undo 20 = .ok (.ireturn, 1) := by decide +kernel
theorem dX8_undo_21 : decode cX8_undo 21 = .ok (.aload_n 0, 1) := by decide +kernel
theorem dX8_undo_22 : decode cX8_undo 22 = .ok (.getfield 53, 3) := by decide +kernel
theorem dX8_undo_25 : decode cX8_undo 25 = .ok (.getfield 202, 3) := by decide +kernel
theorem dX8_undo_28 : decode cX8_undo 28 = .ok (.iload_n 1, 1) := by decide +kernel
theorem dX8_undo_29 : decode cX8_undo 29 = .ok (.iaload, 1) := by decide +kernel
theorem dX8_undo_30 : decode cX8_undo 30 = .ok (.istore_n 2, 1) := by decide +kernel
theorem dX8_undo_31 : decode cX8_undo 31 = .ok (.aload_n 0, 1) := by decide +kernel
theorem dX8_undo_32 : decode cX8_undo 32 = .ok (.getfield 53, 3) := by decide +kernel
theorem dX8_undo_35 : decode cX8_undo 35 = .ok (.getfield 205, 3) := by decide +kernel
theorem dX8_undo_38 : decode cX8_undo 38 = .ok (.iload_n 1, 1) := by decide +kernel
theorem dX8_undo_39 : decode cX8_undo 39 = .ok (.iaload, 1) := by decide +kernel
theorem dX8_undo_40 : decode cX8_undo 40 = .ok (.tableswitch 115 0 3 #[32, 52, 70, 90], 32) := by decide +kernel
theorem dX8_undo_72 : decode cX8_undo 72 = .ok (.aload_n 0, 1) := by decide +kernel
theorem dX8_undo_73 : decode cX8_undo 73 = .ok (.getfield 26, 3) := by decide +kernel
theorem dX8_undo_76 : decode cX8_undo 76 = .ok (.iload_n 2, 1) := by decide +kernel
theorem dX8_undo_77 : decode cX8_undo 77 = .ok (.aload_n 0, 1) := by decide +kernel
theorem dX8_undo_78 : decode cX8_undo 78 = .ok (.getfield 53, 3) := by decide +kernel
theorem dX8_undo_81 : decode cX8_undo 81 = .ok (.getfield 208, 3) := by decide +kernel
theorem dX8_undo_84 : decode cX8_undo 84 = .ok (.iload_n 1, 1) := by decide +kernel
theorem dX8_undo_85 : decode cX8_undo 85 = .ok (.iaload, 1) := by decide +kernel
theorem dX8_undo_86 : decode cX8_undo 86 = .ok (.invokevirtual 186, 3) := by decide +kernel
theorem dX8_undo_89 : decode cX8_undo 89 = .ok (.goto 85, 3) := by decide +kernel
theorem dX8_undo_92 : decode cX8_undo 92 = .ok (.aload_n 0, 1) := by decide +kernel
theorem dX8_undo_93 : decode cX8_undo 93 = .ok (.getfield 26, 3) := by decide +kernel
theorem dX8_undo_96 : decode cX8_undo 96 = .ok (.dup, 1) := by decide +kernel
theorem dX8_undo_97 : decode cX8_undo 97 = .ok (.getfield 120, 3) := by decide +kernel
theorem dX8_undo_100 : decode cX8_undo 100 = .ok (.iconst 1, 1) := by decide +kernel
theorem dX8_undo_101 : decode cX8_undo 101 = .ok (.iload_n 2, 1) := by decide +kernel
theorem dX8_undo_102 : decode cX8_undo 102 = .ok (.ishl, 1) := by decide +kernel
theorem dX8_undo_103 : decode cX8_undo 103 = .ok (.ixor, 1) := by decide +kernel
theorem dX8_undo_104 : decode cX8_undo 104 = .ok (.putfield 120, 3) := by decide +kernel
theorem dX8_undo_107 : decode cX8_undo 107 = .ok (.goto 67, 3) := by decide +kernel
theorem dX8_undo_110 : decode cX8_undo 110 = .ok (.aload_n 0, 1) := by decide +kernel
theorem dX8_undo_111 : decode cX8_undo 111 = .ok (.getfield 26, 3) := by decide +kernel
theorem dX8_undo_114 : decode cX8_undo 114 = .ok (.iload_n 2, 1) := by decide +kernel
theorem dX8_undo_115 : decode cX8_undo 115 = .ok (.aload_n 0, 1) := by decide +kernel
theorem dX8_undo_116 : decode cX8_undo 116 = .ok (.getfield 53, 3) := by decide +kernel
theorem dX8_undo_119 : decode cX8_undo 119 = .ok (.getfield 208, 3) := by decide +kernel
theorem dX8_undo_122 : decode cX8_undo 122 = .ok (.iload_n 1, 1) := by decide +kernel
theorem dX8_undo_123 : decode cX8_undo 123 = .ok (.iaload, 1) := by decide +kernel
theorem dX8_undo_124 : decode cX8_undo 124 = .ok (.invokevirtual 193, 3) := by decide +kernel
theorem dX8_undo_127 : decode cX8_undo 127 = .ok (.goto 47, 3) := by decide +kernel
theorem dX8_undo_130 : decode cX8_undo 130 = .ok (.aload_n 0, 1) := by decide +kernel
theorem dX8_undo_131 : decode cX8_undo 131 = .ok (.getfield 26, 3) := by decide +kernel
theorem dX8_undo_134 : decode cX8_undo 134 = .ok (.aload_n 0, 1) := by decide +kernel
theorem dX8_undo_135 : decode cX8_undo 135 = .ok (.getfield 26, 3) := by decide +kernel
theorem dX8_undo_138 : decode cX8_undo 138 = .ok (.getfield 117, 3) := by decide +kernel
theorem dX8_undo_141 : decode cX8_undo 141 = .ok (.ifCond .ne 7, 3) := by decide +kernel
theorem dX8_undo_144 : decode cX8_undo 144 = .ok (.iconst 1, 1) := by decide +kernel
theorem dX8_undo_145 : decode cX8_undo 145 = .ok (.goto 4, 3) := by decide +kernel
theorem dX8_undo_148 : decode cX8_undo 148 = .ok (.iconst 0, 1) := by decide +kernel
theorem dX8_undo_149 : decode cX8_undo 149 = .ok (.putfield 117, 3) := by decide +kernel
theorem dX8_undo_152 : decode cX8_undo 152 = .ok (.goto 22, 3) := by decide +kernel
theorem dX8_undo_155 : decode cX8_undo 155 = .ok (.aload_n 0, 1) := by decide +kernel
theorem dX8_undo_156 : decode cX8_undo 156 = .ok (.getfield 26, 3) := by decide +kernel
theorem dX8_undo_159 : decode cX8_undo 159 = .ok (.dup, 1) := by decide +kernel
theorem dX8_undo_160 : decode cX8_undo 160 = .ok (.getfield 114, 3) := by decide +kernel
theorem dX8_undo_163 : decode cX8_undo 163 = .ok (.iconst 1, 1) := by decide +kernel
theorem dX8_undo_164 : decode cX8_undo 164 = .ok (.isub, 1) := by decide +kernel
theorem dX8_undo_165 : decode cX8_undo 165 = .ok (.putfield 114, 3) := by decide +kernel
theorem dX8_undo_168 : decode cX8_undo 168 = .ok (.aload_n 0, 1) := by decide +kernel
theorem dX8_undo_169 : decode cX8_undo 169 = .ok (.iconst (-1), 1) := by decide +kernel
theorem dX8_undo_170 : decode cX8_undo 170 = .ok (.invokevirtual 196, 3) := by decide +kernel
theorem dX8_undo_173 : decode cX8_undo 173 = .ok (.pop, 1) := by decide +kernel
theorem dX8_undo_174 : decode cX8_undo 174 = .ok (.aload_n 0, 1) := by decide +kernel
theorem dX8_undo_175 : decode cX8_undo 175 = .ok (.getfield 53, 3) := by decide +kernel
theorem dX8_undo_178 : decode cX8_undo 178 = .ok (.getfield 126, 3) := by decide +kernel
theorem dX8_undo_181 : decode cX8_undo 181 = .ok (.ireturn, 1) := by decide +kernel
theorem dX8_payPurses_0 : decode cX8_payPurses 0 = .ok (.aload_n 0, 1) := by decide +kernel
theorem dX8_payPurses_1 : decode cX8_payPurses 1 = .ok (.getfield 46, 3) := by decide +kernel
theorem dX8_payPurses_4 : decode cX8_payPurses 4 = .ok (.aload_n 0, 1) := by decide +kernel
theorem dX8_payPurses_5 : decode cX8_payPurses 5 = .ok (.getfield 26, 3) := by decide +kernel
theorem dX8_payPurses_8 : decode cX8_payPurses 8 = .ok (.aload_n 0, 1) := by decide +kernel
theorem dX8_payPurses_9 : decode cX8_payPurses 9 = .ok (.getfield 26, 3) := by decide +kernel
theorem dX8_payPurses_12 : decode cX8_payPurses 12 = .ok (.invokevirtual 144, 3) := by decide +kernel
theorem dX8_payPurses_15 : decode cX8_payPurses 15 = .ok (.aload_n 0, 1) := by decide +kernel
theorem dX8_payPurses_16 : decode cX8_payPurses 16 = .ok (.getfield 101, 3) := by decide +kernel
theorem dX8_payPurses_19 : decode cX8_payPurses 19 = .ok (.invokevirtual 182, 3) := by decide +kernel
theorem dX8_payPurses_22 : decode cX8_payPurses 22 = .ok (.iconst 0, 1) := by decide +kernel
theorem dX8_payPurses_23 : decode cX8_payPurses 23 = .ok (.istore_n 2, 1) := by decide +kernel
theorem dX8_payPurses_24 : decode cX8_payPurses 24 = .ok (.iconst 0, 1) := by decide +kernel
theorem dX8_payPurses_25 : decode cX8_payPurses 25 = .ok (.istore_n 3, 1) := by decide +kernel
theorem dX8_payPurses_26 : decode cX8_payPurses 26 = .ok (.iload_n 3, 1) := by decide +kernel
theorem dX8_payPurses_27 : decode cX8_payPurses 27 = .ok (.iconst 4, 1) := by decide +kernel
theorem dX8_payPurses_28 : decode cX8_payPurses 28 = .ok (.if_icmp .ge 56, 3) := by decide +kernel
theorem dX8_payPurses_31 : decode cX8_payPurses 31 = .ok (.aload_n 0, 1) := by decide +kernel
theorem dX8_payPurses_32 : decode cX8_payPurses 32 = .ok (.getfield 46, 3) := by decide +kernel
theorem dX8_payPurses_35 : decode cX8_payPurses 35 = .ok (.aload_n 0, 1) := by decide +kernel
theorem dX8_payPurses_36 : decode cX8_payPurses 36 = .ok (.getfield 26, 3) := by decide +kernel
theorem dX8_payPurses_39 : decode cX8_payPurses 39 = .ok (.aload_n 0, 1) := by decide +kernel
theorem dX8_payPurses_40 : decode cX8_payPurses 40 = .ok (.getfield 19, 3) := by decide +kernel
theorem dX8_payPurses_43 : decode cX8_payPurses 43 = .ok (.aload_n 0, 1) := by decide +kernel
theorem dX8_payPurses_44 : decode cX8_payPurses 44 = .ok (.getfield 26, 3) := by decide +kernel
theorem dX8_payPurses_47 : decode cX8_payPurses 47 = .ok (.iload_n 3, 1) := by decide +kernel
theorem dX8_payPurses_48 : decode cX8_payPurses 48 = .ok (.invokevirtual 211, 3) := by decide +kernel
theorem dX8_payPurses_51 : decode cX8_payPurses 51 = .ok (.iconst 1, 1) := by decide +kernel
theorem dX8_payPurses_52 : decode cX8_payPurses 52 = .ok (.invokevirtual 214, 3) := by decide +kernel
theorem dX8_payPurses_55 : decode cX8_payPurses 55 = .ok (.istore 4, 2) := by decide +kernel
theorem dX8_payPurses_57 : decode cX8_payPurses 57 = .ok (.aload_n 0, 1) := by decide +kernel
theorem dX8_payPurses_58 : decode cX8_payPurses 58 = .ok (.getfield 26, 3) := by decide +kernel
theorem dX8_payPurses_61 : decode cX8_payPurses 61 = .ok (.getfield 179, 3) := by decide +kernel
theorem dX8_payPurses_64 : decode cX8_payPurses 64 = .ok (.iload_n 3, 1) := by decide +kernel
theorem dX8_payPurses_65 : decode cX8_payPurses 65 = .ok (.dup2, 1) := by decide +kernel
theorem dX8_payPurses_66 : decode cX8_payPurses 66 = .ok (.iaload, 1) := by decide +kernel
theorem dX8_payPurses_67 : decode cX8_payPurses 67 = .ok (.iload_n 1, 1) := by decide +kernel
theorem dX8_payPurses_68 : decode cX8_payPurses 68 = .ok (.iload 4, 2) := by decide +kernel
theorem dX8_payPurses_70 : decode cX8_payPurses 70 = .ok (.imul, 1) := by decide +kernel
theorem dX8_payPurses_71 : decode cX8_payPurses 71 = .ok (.iadd, 1) := by decide +kernel
theorem dX8_payPurses_72 : decode cX8_payPurses 72 = .ok (.iastore, 1) := by decide +kernel
theorem dX8_payPurses_73 : decode cX8_payPurses 73 = .ok (.iload_n 2, 1) := by decide +kernel
theorem dX8_payPurses_74 : decode cX8_payPurses 74 = .ok (.iload 4, 2) := by decide +kernel
theorem dX8_payPurses_76 : decode cX8_payPurses 76 = .ok (.iadd, 1) := by decide +kernel
theorem dX8_payPurses_77 : decode cX8_payPurses 77 = .ok (.istore_n 2, 1) := by decide +kernel
theorem dX8_payPurses_78 : decode cX8_payPurses 78 = .ok (.iinc 3 1, 3) := by decide +kernel
theorem dX8_payPurses_81 : decode cX8_payPurses 81 = .ok (.goto (-55), 3) := by decide +kernel
theorem dX8_payPurses_84 : decode cX8_payPurses 84 = .ok (.iload_n 2, 1) := by decide +kernel
theorem dX8_payPurses_85 : decode cX8_payPurses 85 = .ok (.ireturn, 1) := by decide +kernel
theorem dX8_rents_0 : decode cX8_rents 0 = .ok (.iload_n 1, 1) := by decide +kernel
theorem dX8_rents_1 : decode cX8_rents 1 = .ok (.invokestatic 176, 3) := by decide +kernel
theorem dX8_rents_4 : decode cX8_rents 4 = .ok (.ifCond .ne 10, 3) := by decide +kernel
theorem dX8_rents_7 : decode cX8_rents 7 = .ok (.iload_n 1, 1) := by decide +kernel
theorem dX8_rents_8 : decode cX8_rents 8 = .ok (.iconst 4, 1) := by decide +kernel
theorem dX8_rents_9 : decode cX8_rents 9 = .ok (.if_icmp .eq 5, 3) := by decide +kernel
theorem dX8_rents_12 : decode cX8_rents 12 = .ok (.iconst (-1), 1) := by decide +kernel
theorem dX8_rents_13 : decode cX8_rents 13 = .ok (.ireturn, 1) := by decide +kernel
theorem dX8_rents_14 : decode cX8_rents 14 = .ok (.iload_n 2, 1) := by decide +kernel
theorem dX8_rents_15 : decode cX8_rents 15 = .ok (.ifCond .lt 9, 3) := by decide +kernel
theorem dX8_rents_18 : decode cX8_rents 18 = .ok (.iload_n 2, 1) := by decide +kernel
theorem dX8_rents_19 : decode cX8_rents 19 = .ok (.bipush 12, 2) := by decide +kernel
theorem dX8_rents_21 : decode cX8_rents 21 = .ok (.if_icmp .le 6, 3) := by decide +kernel
theorem dX8_rents_24 : decode cX8_rents 24 = .ok (.bipush (-2), 2) := by decide +kernel
theorem dX8_rents_26 : decode cX8_rents 26 = .ok (.ireturn, 1) := by decide +kernel
theorem dX8_rents_27 : decode cX8_rents 27 = .ok (.aload_n 0, 1) := by decide +kernel
theorem dX8_rents_28 : decode cX8_rents 28 = .ok (.invokevirtual 151, 3) := by decide +kernel
theorem dX8_rents_31 : decode cX8_rents 31 = .ok (.iload_n 1, 1) := by decide +kernel
theorem dX8_rents_32 : decode cX8_rents 32 = .ok (.iconst 4, 1) := by decide +kernel
theorem dX8_rents_33 : decode cX8_rents 33 = .ok (.if_icmp .ne 13, 3) := by decide +kernel
theorem dX8_rents_36 : decode cX8_rents 36 = .ok (.aload_n 0, 1) := by decide +kernel
theorem dX8_rents_37 : decode cX8_rents 37 = .ok (.getfield 26, 3) := by decide +kernel
theorem dX8_rents_40 : decode cX8_rents 40 = .ok (.invokevirtual 144, 3) := by decide +kernel
theorem dX8_rents_43 : decode cX8_rents 43 = .ok (.goto 11, 3) := by decide +kernel
theorem dX8_rents_46 : decode cX8_rents 46 = .ok (.aload_n 0, 1) := by decide +kernel
theorem dX8_rents_47 : decode cX8_rents 47 = .ok (.getfield 26, 3) := by decide +kernel
theorem dX8_rents_50 : decode cX8_rents 50 = .ok (.iload_n 1, 1) := by decide +kernel
theorem dX8_rents_51 : decode cX8_rents 51 = .ok (.invokevirtual 211, 3) := by decide +kernel
theorem dX8_rents_54 : decode cX8_rents 54 = .ok (.istore_n 3, 1) := by decide +kernel
theorem dX8_rents_55 : decode cX8_rents 55 = .ok (.aload_n 0, 1) := by decide +kernel
theorem dX8_rents_56 : decode cX8_rents 56 = .ok (.getfield 46, 3) := by decide +kernel
theorem dX8_rents_59 : decode cX8_rents 59 = .ok (.aload_n 0, 1) := by decide +kernel
theorem dX8_rents_60 : decode cX8_rents 60 = .ok (.getfield 26, 3) := by decide +kernel
theorem dX8_rents_63 : decode cX8_rents 63 = .ok (.aload_n 0, 1) := by decide +kernel
theorem dX8_rents_64 : decode cX8_rents 64 = .ok (.getfield 19, 3) := by decide +kernel
theorem dX8_rents_67 : decode cX8_rents 67 = .ok (.iload_n 3, 1) := by decide +kernel
theorem dX8_rents_68 : decode cX8_rents 68 = .ok (.iload_n 2, 1) := by decide +kernel
theorem dX8_rents_69 : decode cX8_rents 69 = .ok (.invokevirtual 214, 3) := by decide +kernel
theorem dX8_rents_72 : decode cX8_rents 72 = .ok (.ireturn, 1) := by decide +kernel
theorem dX8_hold_0 : decode cX8_hold 0 = .ok (.aload_n 0, 1) := by decide +kernel
theorem dX8_hold_1 : decode cX8_hold 1 = .ok (.getfield 19, 3) := by decide +kernel
theorem dX8_hold_4 : decode cX8_hold 4 = .ok (.iload_n 1, 1) := by decide +kernel
theorem dX8_hold_5 : decode cX8_hold 5 = .ok (.invokevirtual 163, 3) := by decide +kernel
theorem dX8_hold_8 : decode cX8_hold 8 = .ok (.ifCond .ne 5, 3) := by decide +kernel
theorem dX8_hold_11 : decode cX8_hold 11 = .ok (.iconst (-1), 1) := by decide +kernel
theorem dX8_hold_12 : decode cX8_hold 12 = .ok (.ireturn, 1) := by decide +kernel
theorem dX8_hold_13 : decode cX8_hold 13 = .ok (.iload_n 2, 1) := by decide +kernel
theorem dX8_hold_14 : decode cX8_hold 14 = .ok (.bipush 10, 2) := by decide +kernel
theorem dX8_hold_16 : decode cX8_hold 16 = .ok (.invokestatic 218, 3) := by decide +kernel
theorem dX8_hold_19 : decode cX8_hold 19 = .ok (.ifCond .ne 6, 3) := by decide +kernel
theorem dX8_hold_22 : decode cX8_hold 22 = .ok (.bipush (-2), 2) := by decide +kernel
theorem dX8_hold_24 : decode cX8_hold 24 = .ok (.ireturn, 1) := by decide +kernel
theorem dX8_hold_25 : decode cX8_hold 25 = .ok (.aload_n 0, 1) := by decide +kernel
theorem dX8_hold_26 : decode cX8_hold 26 = .ok (.invokevirtual 151, 3) := by decide +kernel
theorem dX8_hold_29 : decode cX8_hold 29 = .ok (.aload_n 0, 1) := by decide +kernel
theorem dX8_hold_30 : decode cX8_hold 30 = .ok (.getfield 19, 3) := by decide +kernel
theorem dX8_hold_33 : decode cX8_hold 33 = .ok (.iload_n 1, 1) := by decide +kernel
theorem dX8_hold_34 : decode cX8_hold 34 = .ok (.aload_n 0, 1) := by decide +kernel
theorem dX8_hold_35 : decode cX8_hold 35 = .ok (.getfield 26, 3) := by decide +kernel
theorem dX8_hold_38 : decode cX8_hold 38 = .ok (.getfield 114, 3) := by decide +kernel
theorem dX8_hold_41 : decode cX8_hold 41 = .ok (.iload_n 2, 1) := by decide +kernel
theorem dX8_hold_42 : decode cX8_hold 42 = .ok (.invokevirtual 222, 3) := by decide +kernel
theorem dX8_hold_45 : decode cX8_hold 45 = .ok (.istore_n 3, 1) := by decide +kernel
theorem dX8_hold_46 : decode cX8_hold 46 = .ok (.bipush (-9), 2) := by decide +kernel
theorem dX8_hold_48 : decode cX8_hold 48 = .ok (.istore 4, 2) := by decide +kernel
theorem dX8_hold_50 : decode cX8_hold 50 = .ok (.iconst 0, 1) := by decide +kernel
theorem dX8_hold_51 : decode cX8_hold 51 = .ok (.istore 5, 2) := by decide +kernel
theorem dX8_hold_53 : decode cX8_hold 53 = .ok (.iload 5, 2) := by decide +kernel
theorem dX8_hold_55 : decode cX8_hold 55 = .ok (.aload_n 0, 1) := by decide +kernel
theorem dX8_hold_56 : decode cX8_hold 56 = .ok (.getfield 26, 3) := by decide +kernel
theorem dX8_hold_59 : decode cX8_hold 59 = .ok (.invokevirtual 144, 3) := by decide +kernel
theorem dX8_hold_62 : decode cX8_hold 62 = .ok (.if_icmp .gt 61, 3) := by decide +kernel
theorem dX8_hold_65 : decode cX8_hold 65 = .ok (.iload_n 3, 1) := by decide +kernel
theorem dX8_hold_66 : decode cX8_hold 66 = .ok (.aload_n 0, 1) := by decide +kernel
theorem dX8_hold_67 : decode cX8_hold 67 = .ok (.getfield 46, 3) := by decide +kernel
theorem dX8_hold_70 : decode cX8_hold 70 = .ok (.iload 5, 2) := by decide +kernel
theorem dX8_hold_72 : decode cX8_hold 72 = .ok (.invokevirtual 226, 3) := by decide +kernel
theorem dX8_hold_75 : decode cX8_hold 75 = .ok (.iconst (-1), 1) := by decide +kernel
theorem dX8_hold_76 : decode cX8_hold 76 = .ok (.ixor, 1) := by decide +kernel
theorem dX8_hold_77 : decode cX8_hold 77 = .ok (.iand, 1) := by decide +kernel
theorem dX8_hold_78 : decode cX8_hold 78 = .ok (.ifCond .ne 7, 3) := by decide +kernel
theorem dX8_hold_81 : decode cX8_hold 81 = .ok (.iconst 1, 1) := by decide +kernel
theorem dX8_hold_82 : decode cX8_hold 82 = .ok (.goto 4, 3) := by decide +kernel
theorem dX8_hold_85 : decode cX8_hold 85 = .ok (.iconst 0, 1) := by decide +kernel
theorem dX8_hold_86 : decode cX8_hold 86 = .ok (.istore 6, 2) := by decide +kernel
theorem dX8_hold_88 : decode cX8_hold 88 = .ok (.iload 6, 2) := by decide +kernel
theorem dX8_hold_90 : decode cX8_hold 90 = .ok (.ifCond .eq 27, 3) := by decide +kernel
theorem dX8_hold_93 : decode cX8_hold 93 = .ok (.iload 4, 2) := by decide +kernel
theorem dX8_hold_95 : decode cX8_hold 95 = .ok (.bipush (-9), 2) := by decide +kernel
theorem dX8_hold_97 : decode cX8_hold 97 = .ok (.if_icmp .eq 16, 3) := by decide +kernel
theorem dX8_hold_100 : decode cX8_hold 100 = .ok (.iload 5, 2) := by decide +kernel
theorem dX8_hold_102 : decode cX8_hold 102 = .ok (.invokestatic 229, 3) := by decide +kernel
theorem dX8_hold_105 : decode cX8_hold 105 = .ok (.iload 4, 2) := by decide +kernel
theorem dX8_hold_107 : decode cX8_hold 107 = .ok (.invokestatic 229, 3) := by decide +kernel
theorem dX8_hold_110 : decode cX8_hold 110 = .ok (.if_icmp .ge 7, 3) := by decide +kernel
theorem dX8_hold_113 : decode cX8_hold 113 = .ok (.iload 5, 2) := by decide +kernel
theorem dX8_hold_115 : decode cX8_hold 115 = .ok (.istore 4, 2) := by decide +kernel
theorem dX8_hold_117 : decode cX8_hold 117 = .ok (.iinc 5 1, 3) := by decide +kernel
theorem dX8_hold_120 : decode cX8_hold 120 = .ok (.goto (-67), 3) := by decide +kernel
theorem dX8_hold_123 : decode cX8_hold 123 = .ok (.iload 4, 2) := by decide +kernel
theorem dX8_hold_125 : decode cX8_hold 125 = .ok (.ireturn, 1) := by decide +kernel
theorem dX8_isSpan_0 : decode cX8_isSpan 0 = .ok (.iload_n 0, 1) := by decide +kernel
theorem dX8_isSpan_1 : decode cX8_isSpan 1 = .ok (.iconst 1, 1) := by decide +kernel
theorem dX8_isSpan_2 : decode cX8_isSpan 2 = .ok (.if_icmp .lt 12, 3) := by decide +kernel
theorem dX8_isSpan_5 : decode cX8_isSpan 5 = .ok (.iload_n 0, 1) := by decide +kernel
theorem dX8_isSpan_6 : decode cX8_isSpan 6 = .ok (.iload_n 1, 1) := by decide +kernel
theorem dX8_isSpan_7 : decode cX8_isSpan 7 = .ok (.if_icmp .gt 7, 3) := by decide +kernel
theorem dX8_isSpan_10 : decode cX8_isSpan 10 = .ok (.iconst 1, 1) := by decide +kernel
theorem dX8_isSpan_11 : decode cX8_isSpan 11 = .ok (.goto 4, 3) := by decide +kernel
theorem dX8_isSpan_14 : decode cX8_isSpan 14 = .ok (.iconst 0, 1) := by decide +kernel
theorem dX8_isSpan_15 : decode cX8_isSpan 15 = .ok (.ireturn, 1) := by decide +kernel
theorem dX8_fires_0 : decode cX8_fires 0 = .ok (.iload_n 1, 1) := by decide +kernel
theorem dX8_fires_1 : decode cX8_fires 1 = .ok (.bipush 10, 2) := by decide +kernel
theorem dX8_fires_3 : decode cX8_fires 3 = .ok (.invokestatic 218, 3) := by decide +kernel
theorem dX8_fires_6 : decode cX8_fires 6 = .ok (.ifCond .eq 12, 3) := by decide +kernel
theorem dX8_fires_9 : decode cX8_fires 9 = .ok (.iload_n 2, 1) := by decide +kernel
theorem dX8_fires_10 : decode cX8_fires 10 = .ok (.ifCond .lt 8, 3) := by decide +kernel
theorem dX8_fires_13 : decode cX8_fires 13 = .ok (.iload_n 2, 1) := by decide +kernel
theorem dX8_fires_14 : decode cX8_fires 14 = .ok (.iconst 1, 1) := by decide +kernel
theorem dX8_fires_15 : decode cX8_fires 15 = .ok (.if_icmp .le 6, 3) := by decide +kernel
theorem dX8_fires_18 : decode cX8_fires 18 = .ok (.bipush (-2), 2) := by decide +kernel
theorem dX8_fires_20 : decode cX8_fires 20 = .ok (.ireturn, 1) := by decide +kernel
theorem dX8_fires_21 : decode cX8_fires 21 = .ok (.aload_n 0, 1) := by decide +kernel
theorem dX8_fires_22 : decode cX8_fires 22 = .ok (.getfield 30, 3) := by decide +kernel
theorem dX8_fires_25 : decode cX8_fires 25 = .ok (.aload_n 0, 1) := by decide +kernel
theorem dX8_fires_26 : decode cX8_fires 26 = .ok (.getfield 26, 3) := by decide +kernel
theorem dX8_fires_29 : decode cX8_fires 29 = .ok (.invokevirtual 234, 3) := by decide +kernel
theorem dX8_fires_32 : decode cX8_fires 32 = .ok (.iconst 0, 1) := by decide +kernel
theorem dX8_fires_33 : decode cX8_fires 33 = .ok (.istore_n 3, 1) := by decide +kernel
theorem dX8_fires_34 : decode cX8_fires 34 = .ok (.aload_n 0, 1) := by decide +kernel
theorem dX8_fires_35 : decode cX8_fires 35 = .ok (.iconst 0, 1) := by decide +kernel
theorem dX8_fires_36 : decode cX8_fires 36 = .ok (.iload_n 1, 1) := by decide +kernel
theorem dX8_fires_37 : decode cX8_fires 37 = .ok (.invokevirtual 238, 3) := by decide +kernel
theorem dX8_fires_40 : decode cX8_fires 40 = .ok (.istore 4, 2) := by decide +kernel
theorem dX8_fires_42 : decode cX8_fires 42 = .ok (.iconst 1, 1) := by decide +kernel
theorem dX8_fires_43 : decode cX8_fires 43 = .ok (.istore 5, 2) := by decide +kernel
theorem dX8_fires_45 : decode cX8_fires 45 = .ok (.iload 5, 2) := by decide +kernel
theorem dX8_fires_47 : decode cX8_fires 47 = .ok (.aload_n 0, 1) := by decide +kernel
theorem dX8_fires_48 : decode cX8_fires 48 = .ok (.getfield 26, 3) := by decide +kernel
theorem dX8_fires_51 : decode cX8_fires 51 = .ok (.invokevirtual 144, 3) := by decide +kernel
theorem dX8_fires_54 : decode cX8_fires 54 = .ok (.if_icmp .gt 63, 3) := by decide +kernel
theorem dX8_fires_57 : decode cX8_fires 57 = .ok (.aload_n 0, 1) := by decide +kernel
theorem dX8_fires_58 : decode cX8_fires 58 = .ok (.iload 5, 2) := by decide +kernel
theorem dX8_fires_60 : decode cX8_fires 60 = .ok (.iload_n 1, 1) := by decide +kernel
theorem dX8_fires_61 : decode cX8_fires 61 = .ok (.invokevirtual 238, 3) := by decide +kernel
theorem dX8_fires_64 : decode cX8_fires 64 = .ok (.istore 6, 2) := by decide +kernel
theorem dX8_fires_66 : decode cX8_fires 66 = .ok (.iload 5, 2) := by decide +kernel
theorem dX8_fires_68 : decode cX8_fires 68 = .ok (.invokestatic 229, 3) := by decide +kernel
theorem dX8_fires_71 : decode cX8_fires 71 = .ok (.iload_n 3, 1) := by decide +kernel
theorem dX8_fires_72 : decode cX8_fires 72 = .ok (.invokestatic 229, 3) := by decide +kernel
theorem dX8_fires_75 : decode cX8_fires 75 = .ok (.if_icmp .ge 7, 3) := by decide +kernel
theorem dX8_fires_78 : decode cX8_fires 78 = .ok (.iconst 1, 1) := by decide +kernel
theorem dX8_fires_79 : decode cX8_fires 79 = .ok (.goto 4, 3) := by decide +kernel
theorem dX8_fires_82 : decode cX8_fires 82 = .ok (.iconst 0, 1) := by decide +kernel
theorem dX8_fires_83 : decode cX8_fires 83 = .ok (.istore 7, 2) := by decide +kernel
theorem dX8_fires_85 : decode cX8_fires 85 = .ok (.iload 6, 2) := by decide +kernel
theorem dX8_fires_87 : decode cX8_fires 87 = .ok (.iload 4, 2) := by decide +kernel
theorem dX8_fires_89 : decode cX8_fires 89 = .ok (.if_icmp .gt 15, 3) := by decide +kernel
theorem dX8_fires_92 : decode cX8_fires 92 = .ok (.iload 6, 2) := by decide +kernel
theorem dX8_fires_94 : decode cX8_fires 94 = .ok (.iload 4, 2) := by decide +kernel
theorem dX8_fires_96 : decode cX8_fires 96 = .ok (.if_icmp .ne 15, 3) := by decide +kernel
theorem dX8_fires_99 : decode cX8_fires 99 = .ok (.iload 7, 2) := by decide +kernel
theorem dX8_fires_101 : decode cX8_fires 101 = .ok (.ifCond .eq 10, 3) := by decide +kernel
theorem dX8_fires_104 : decode cX8_fires 104 = .ok (.iload 5, 2) := by decide +kernel
theorem dX8_fires_106 : decode cX8_fires 106 = .ok (.istore_n 3, 1) := by decide +kernel
theorem dX8_fires_107 : decode cX8_fires 107 = .ok (.iload 6, 2) := by decide +kernel
theorem dX8_fires_109 : decode cX8_fires 109 = .ok (.istore 4, 2) := by decide +kernel
theorem dX8_fires_111 : decode cX8_fires 111 = .ok (.iinc 5 1, 3) := by decide +kernel
theorem dX8_fires_114 : decode cX8_fires 114 = .ok (.goto (-69), 3) := by decide +kernel
theorem dX8_fires_117 : decode cX8_fires 117 = .ok (.iload_n 2, 1) := by decide +kernel
theorem dX8_fires_118 : decode cX8_fires 118 = .ok (.ifCond .ne 7, 3) := by decide +kernel
theorem dX8_fires_121 : decode cX8_fires 121 = .ok (.iload_n 3, 1) := by decide +kernel
theorem dX8_fires_122 : decode cX8_fires 122 = .ok (.goto 5, 3) := by decide +kernel
theorem dX8_fires_125 : decode cX8_fires 125 = .ok (.iload 4, 2) := by decide +kernel
theorem dX8_fires_127 : decode cX8_fires 127 = .ok (.ireturn, 1) := by decide +kernel
theorem dX8_gainOfFires_0 : decode cX8_gainOfFires 0 = .ok (.aload_n 0, 1) := by decide +kernel
theorem dX8_gainOfFires_1 : decode cX8_gainOfFires 1 = .ok (.getfield 30, 3) := by decide +kernel
theorem dX8_gainOfFires_4 : decode cX8_gainOfFires 4 = .ok (.iload_n 1, 1) := by decide +kernel
theorem dX8_gainOfFires_5 : decode cX8_gainOfFires 5 = .ok (.putfield 120, 3) := by decide +kernel
theorem dX8_gainOfFires_8 : decode cX8_gainOfFires 8 = .ok (.aload_n 0, 1) := by decide +kernel
theorem dX8_gainOfFires_9 : decode cX8_gainOfFires 9 = .ok (.getfield 46, 3) := by decide +kernel
theorem dX8_gainOfFires_12 : decode cX8_gainOfFires 12 = .ok (.aload_n 0, 1) := by decide +kernel
theorem dX8_gainOfFires_13 : decode cX8_gainOfFires 13 = .ok (.getfield 30, 3) := by decide +kernel
theorem dX8_gainOfFires_16 : decode cX8_gainOfFires 16 = .ok (.aload_n 0, 1) := by decide +kernel
theorem dX8_gainOfFires_17 : decode cX8_gainOfFires 17 = .ok (.getfield 30, 3) := by decide +kernel
theorem dX8_gainOfFires_20 : decode cX8_gainOfFires 20 = .ok (.invokevirtual 144, 3) := by decide +kernel
theorem dX8_gainOfFires_23 : decode cX8_gainOfFires 23 = .ok (.aload_n 0, 1) := by decide +kernel
theorem dX8_gainOfFires_24 : decode cX8_gainOfFires 24 = .ok (.getfield 101, 3) := by decide +kernel
theorem dX8_gainOfFires_27 : decode cX8_gainOfFires 27 = .ok (.invokevirtual 182, 3) := by decide +kernel
theorem dX8_gainOfFires_30 : decode cX8_gainOfFires 30 = .ok (.aload_n 0, 1) := by decide +kernel
theorem dX8_gainOfFires_31 : decode cX8_gainOfFires 31 = .ok (.getfield 46, 3) := by decide +kernel
theorem dX8_gainOfFires_34 : decode cX8_gainOfFires 34 = .ok (.aload_n 0, 1) := by decide +kernel
theorem dX8_gainOfFires_35 : decode cX8_gainOfFires 35 = .ok (.getfield 30, 3) := by decide +kernel
theorem dX8_gainOfFires_38 : decode cX8_gainOfFires 38 = .ok (.aload_n 0, 1) := by decide +kernel
theorem dX8_gainOfFires_39 : decode cX8_gainOfFires 39 = .ok (.getfield 19, 3) := by decide +kernel
theorem dX8_gainOfFires_42 : decode cX8_gainOfFires 42 = .ok (.aload_n 0, 1) := by decide +kernel
theorem dX8_gainOfFires_43 : decode cX8_gainOfFires 43 = .ok (.getfield 30, 3) := by decide +kernel
theorem dX8_gainOfFires_46 : decode cX8_gainOfFires 46 = .ok (.invokevirtual 144, 3) := by decide +kernel
theorem dX8_gainOfFires_49 : decode cX8_gainOfFires 49 = .ok (.iload_n 2, 1) := by decide +kernel
theorem dX8_gainOfFires_50 : decode cX8_gainOfFires 50 = .ok (.invokevirtual 214, 3) := by decide +kernel
theorem dX8_gainOfFires_53 : decode cX8_gainOfFires 53 = .ok (.iload_n 2, 1) := by decide +kernel
theorem dX8_gainOfFires_54 : decode cX8_gainOfFires 54 = .ok (.iload_n 1, 1) := by decide +kernel
theorem dX8_gainOfFires_55 : decode cX8_gainOfFires 55 = .ok (.invokestatic 229, 3) := by decide +kernel
theorem dX8_gainOfFires_58 : decode cX8_gainOfFires 58 = .ok (.imul, 1) := by decide +kernel
theorem dX8_gainOfFires_59 : decode cX8_gainOfFires 59 = .ok (.iadd, 1) := by decide +kernel
theorem dX8_gainOfFires_60 : decode cX8_gainOfFires 60 = .ok (.ireturn, 1) := by decide +kernel
theorem dX8_share_0 : decode cX8_share 0 = .ok (.aload_n 0, 1) := by decide +kernel
theorem dX8_share_1 : decode cX8_share 1 = .ok (.getfield 26, 3) := by decide +kernel
theorem dX8_share_4 : decode cX8_share 4 = .ok (.iload_n 1, 1) := by decide +kernel
theorem dX8_share_5 : decode cX8_share 5 = .ok (.invokevirtual 131, 3) := by decide +kernel
theorem dX8_share_8 : decode cX8_share 8 = .ok (.ifCond .ne 5, 3) := by decide +kernel
theorem dX8_share_11 : decode cX8_share 11 = .ok (.iconst (-1), 1) := by decide +kernel
theorem dX8_share_12 : decode cX8_share 12 = .ok (.ireturn, 1) := by decide +kernel
theorem dX8_share_13 : decode cX8_share 13 = .ok (.iload_n 2, 1) := by decide +kernel
theorem dX8_share_14 : decode cX8_share 14 = .ok (.bipush 10, 2) := by decide +kernel
theorem dX8_share_16 : decode cX8_share 16 = .ok (.invokestatic 218, 3) := by decide +kernel
theorem dX8_share_19 : decode cX8_share 19 = .ok (.ifCond .ne 6, 3) := by decide +kernel
theorem dX8_share_22 : decode cX8_share 22 = .ok (.bipush (-2), 2) := by decide +kernel
theorem dX8_share_24 : decode cX8_share 24 = .ok (.ireturn, 1) := by decide +kernel
theorem dX8_share_25 : decode cX8_share 25 = .ok (.iconst 0, 1) := by decide +kernel
theorem dX8_share_26 : decode cX8_share 26 = .ok (.istore 4, 2) := by decide +kernel
theorem dX8_share_28 : decode cX8_share 28 = .ok (.iload 4, 2) := by decide +kernel
theorem dX8_share_30 : decode cX8_share 30 = .ok (.aload_n 0, 1) := by decide +kernel
theorem dX8_share_31 : decode cX8_share 31 = .ok (.getfield 26, 3) := by decide +kernel
theorem dX8_share_34 : decode cX8_share 34 = .ok (.invokevirtual 144, 3) := by decide +kernel
theorem dX8_share_37 : decode cX8_share 37 = .ok (.if_icmp .gt 58, 3) := by decide +kernel
theorem dX8_share_40 : decode cX8_share 40 = .ok (.iload 4, 2) := by decide +kernel
theorem dX8_share_42 : decode cX8_share 42 = .ok (.bipush 32, 2) := by decide +kernel
theorem dX8_share_44 : decode cX8_share 44 = .ok (.if_icmp .ge 51, 3) := by decide +kernel
theorem dX8_share_47 : decode cX8_share 47 = .ok (.aload_n 0, 1) := by decide +kernel
theorem dX8_share_48 : decode cX8_share 48 = .ok (.getfield 46, 3) := by decide +kernel
theorem dX8_share_51 : decode cX8_share 51 = .ok (.aload_n 0, 1) := by decide +kernel
theorem dX8_share_52 : decode cX8_share 52 = .ok (.getfield 26, 3) := by decide +kernel
theorem dX8_share_55 : decode cX8_share 55 = .ok (.iload 4, 2) := by decide +kernel
theorem dX8_share_57 : decode cX8_share 57 = .ok (.aload_n 0, 1) := by decide +kernel
theorem dX8_share_58 : decode cX8_share 58 = .ok (.getfield 101, 3) := by decide +kernel
theorem dX8_share_61 : decode cX8_share 61 = .ok (.invokevirtual 182, 3) := by decide +kernel
theorem dX8_share_64 : decode cX8_share 64 = .ok (.aload_n 0, 1) := by decide +kernel
theorem dX8_share_65 : decode cX8_share 65 = .ok (.getfield 71, 3) := by decide +kernel
theorem dX8_share_68 : decode cX8_share 68 = .ok (.iload 4, 2) := by decide +kernel
theorem dX8_share_70 : decode cX8_share 70 = .ok (.aload_n 0, 1) := by decide +kernel
theorem dX8_share_71 : decode cX8_share 71 = .ok (.getfield 46, 3) := by decide +kernel
theorem dX8_share_74 : decode cX8_share 74 = .ok (.aload_n 0, 1) := by decide +kernel
theorem dX8_share_75 : decode cX8_share 75 = .ok (.getfield 26, 3) := by decide +kernel
theorem dX8_share_78 : decode cX8_share 78 = .ok (.aload_n 0, 1) := by decide +kernel
theorem dX8_share_79 : decode cX8_share 79 = .ok (.getfield 19, 3) := by decide +kernel
theorem dX8_share_82 : decode cX8_share 82 = .ok (.iload 4, 2) := by decide +kernel
theorem dX8_share_84 : decode cX8_share 84 = .ok (.iload_n 2, 1) := by decide +kernel
theorem dX8_share_85 : decode cX8_share 85 = .ok (.invokevirtual 214, 3) := by decide +kernel
theorem dX8_share_88 : decode cX8_share 88 = .ok (.iastore, 1) := by decide +kernel
theorem dX8_share_89 : decode cX8_share 89 = .ok (.iinc 4 1, 3) := by decide +kernel
theorem dX8_share_92 : decode cX8_share 92 = .ok (.goto (-64), 3) := by decide +kernel
theorem dX8_share_95 : decode cX8_share 95 = .ok (.aload_n 0, 1) := by decide +kernel
theorem dX8_share_96 : decode cX8_share 96 = .ok (.iload_n 1, 1) := by decide +kernel
theorem dX8_share_97 : decode cX8_share 97 = .ok (.invokevirtual 241, 3) := by decide +kernel
theorem dX8_share_100 : decode cX8_share 100 = .ok (.aload_n 0, 1) := by decide +kernel
theorem dX8_share_101 : decode cX8_share 101 = .ok (.getfield 26, 3) := by decide +kernel
theorem dX8_share_104 : decode cX8_share 104 = .ok (.getfield 108, 3) := by decide +kernel
theorem dX8_share_107 : decode cX8_share 107 = .ok (.invokestatic 244, 3) := by decide +kernel
theorem dX8_share_110 : decode cX8_share 110 = .ok (.iload_n 3, 1) := by decide +kernel
theorem dX8_share_111 : decode cX8_share 111 = .ok (.invokestatic 247, 3) := by decide +kernel
theorem dX8_share_114 : decode cX8_share 114 = .ok (.ireturn, 1) := by decide +kernel
theorem dX8_gainInAllOrders_0 : decode cX8_gainInAllOrders 0 = .ok (.iconst 0, 1) := by decide +kernel
theorem dX8_gainInAllOrders_1 : decode cX8_gainInAllOrders 1 = .ok (.istore_n 2, 1) := by decide +kernel
theorem dX8_gainInAllOrders_2 : decode cX8_gainInAllOrders 2 = .ok (.iconst 1, 1) := by decide +kernel
theorem dX8_gainInAllOrders_3 : decode cX8_gainInAllOrders 3 = .ok (.iload_n 1, 1) := by decide +kernel
theorem dX8_gainInAllOrders_4 : decode cX8_gainInAllOrders 4 = .ok (.ishl, 1) := by decide +kernel
theorem dX8_gainInAllOrders_5 : decode cX8_gainInAllOrders 5 = .ok (.istore_n 3, 1) := by decide +kernel
theorem dX8_gainInAllOrders_6 : decode cX8_gainInAllOrders 6 = .ok (.iconst 0, 1) := by decide +kernel
theorem dX8_gainInAllOrders_7 : decode cX8_gainInAllOrders 7 = .ok (.istore 4, 2) := by decide +kernel
theorem dX8_gainInAllOrders_9 : decode cX8_gainInAllOrders 9 = .ok (.iload 4, 2) := by decide +kernel
theorem dX8_gainInAllOrders_11 : decode cX8_gainInAllOrders 11 = .ok (.aload_n 0, 1) := by decide +kernel
theorem dX8_gainInAllOrders_12 : decode cX8_gainInAllOrders 12 = .ok (.getfield 26, 3) := by decide +kernel
theorem dX8_gainInAllOrders_15 : decode cX8_gainInAllOrders 15 = .ok (.invokevirtual 144, 3) := by decide +kernel
theorem dX8_gainInAllOrders_18 : decode cX8_gainInAllOrders 18 = .ok (.if_icmp .gt 84, 3) := by decide +kernel
theorem dX8_gainInAllOrders_21 : decode cX8_gainInAllOrders 21 = .ok (.iload 4, 2) := by decide +kernel
theorem dX8_gainInAllOrders_23 : decode cX8_gainInAllOrders 23 = .ok (.bipush 32, 2) := by decide +kernel
theorem dX8_gainInAllOrders_25 : decode cX8_gainInAllOrders 25 = .ok (.if_icmp .ge 77, 3) := by decide +kernel
theorem dX8_gainInAllOrders_28 : decode cX8_gainInAllOrders 28 = .ok (.iload 4, 2) := by decide +kernel
theorem dX8_gainInAllOrders_30 : decode cX8_gainInAllOrders 30 = .ok (.iload_n 3, 1) := by decide +kernel
theorem dX8_gainInAllOrders_31 : decode cX8_gainInAllOrders 31 = .ok (.iand, 1) := by decide +kernel
theorem dX8_gainInAllOrders_32 : decode cX8_gainInAllOrders 32 = .ok (.ifCond .eq 64, 3) := by decide +kernel
theorem dX8_gainInAllOrders_35 : decode cX8_gainInAllOrders 35 = .ok (.iload 4, 2) := by decide +kernel
theorem dX8_gainInAllOrders_37 : decode cX8_gainInAllOrders 37 = .ok (.invokestatic 229, 3) := by decide +kernel
theorem dX8_gainInAllOrders_40 : decode cX8_gainInAllOrders 40 = .ok (.iconst 1, 1) := by decide +kernel
theorem dX8_gainInAllOrders_41 : decode cX8_gainInAllOrders 41 = .ok (.isub, 1) := by decide +kernel
theorem dX8_gainInAllOrders_42 : decode cX8_gainInAllOrders 42 = .ok (.istore 5, 2) := by decide +kernel
theorem dX8_gainInAllOrders_44 : decode cX8_gainInAllOrders 44 = .ok (.aload_n 0, 1) := by decide +kernel
theorem dX8_gainInAllOrders_45 : decode cX8_gainInAllOrders 45 = .ok (.getfield 26, 3) := by decide +kernel
theorem dX8_gainInAllOrders_48 : decode cX8_gainInAllOrders 48 = .ok (.getfield 108, 3) := by decide +kernel
theorem dX8_gainInAllOrders_51 : decode cX8_gainInAllOrders 51 = .ok (.iconst 1, 1) := by decide +kernel
theorem dX8_gainInAllOrders_52 : decode cX8_gainInAllOrders 52 = .ok (.isub, 1) := by decide +kernel
theorem dX8_gainInAllOrders_53 : decode cX8_gainInAllOrders 53 = .ok (.iload 5, 2) := by decide +kernel
theorem dX8_gainInAllOrders_55 : decode cX8_gainInAllOrders 55 = .ok (.isub, 1) := by decide +kernel
theorem dX8_gainInAllOrders_56 : decode cX8_gainInAllOrders 56 = .ok (.istore 6, 2) := by decide +kernel
theorem dX8_gainInAllOrders_58 : decode cX8_gainInAllOrders 58 = .ok (.aload_n 0, 1) := by decide +kernel
theorem dX8_gainInAllOrders_59 : decode cX8_gainInAllOrders 59 = .ok (.getfield 71, 3) := by decide +kernel
theorem dX8_gainInAllOrders_62 : decode cX8_gainInAllOrders 62 = .ok (.iload 4, 2) := by decide +kernel
theorem dX8_gainInAllOrders_64 : decode cX8_gainInAllOrders 64 = .ok (.iaload, 1) := by decide +kernel
theorem dX8_gainInAllOrders_65 : decode cX8_gainInAllOrders 65 = .ok (.aload_n 0, 1) := by decide +kernel
theorem dX8_gainInAllOrders_66 : decode cX8_gainInAllOrders 66 = .ok (.getfield 71, 3) := by decide +kernel
theorem dX8_gainInAllOrders_69 : decode cX8_gainInAllOrders 69 = .ok (.iload 4, 2) := by decide +kernel
theorem dX8_gainInAllOrders_71 : decode cX8_gainInAllOrders 71 = .ok (.iload_n 3, 1) := by decide +kernel
theorem dX8_gainInAllOrders_72 : decode cX8_gainInAllOrders 72 = .ok (.iconst (-1), 1) := by decide +kernel
theorem dX8_gainInAllOrders_73 : decode cX8_gainInAllOrders 73 = .ok (.ixor, 1) := by decide +kernel
theorem dX8_gainInAllOrders_74 : decode cX8_gainInAllOrders 74 = .ok (.iand, 1) := by decide +kernel
theorem dX8_gainInAllOrders_75 : decode cX8_gainInAllOrders 75 = .ok (.iaload, 1) := by decide +kernel
theorem dX8_gainInAllOrders_76 : decode cX8_gainInAllOrders 76 = .ok (.isub, 1) := by decide +kernel
theorem dX8_gainInAllOrders_77 : decode cX8_gainInAllOrders 77 = .ok (.istore 7, 2) := by decide +kernel
theorem dX8_gainInAllOrders_79 : decode cX8_gainInAllOrders 79 = .ok (.iload_n 2, 1) := by decide +kernel
theorem dX8_gainInAllOrders_80 : decode cX8_gainInAllOrders 80 = .ok (.iload 7, 2) := by decide +kernel
theorem dX8_gainInAllOrders_82 : decode cX8_gainInAllOrders 82 = .ok (.iload 5, 2) := by decide +kernel
theorem dX8_gainInAllOrders_84 : decode cX8_gainInAllOrders 84 = .ok (.invokestatic 244, 3) := by decide +kernel
theorem dX8_gainInAllOrders_87 : decode cX8_gainInAllOrders 87 = .ok (.imul, 1) := by decide +kernel
theorem dX8_gainInAllOrders_88 : decode cX8_gainInAllOrders 88 = .ok (.iload 6, 2) := by decide +kernel
theorem dX8_gainInAllOrders_90 : decode cX8_gainInAllOrders 90 = .ok (.invokestatic 244, 3) := by decide +kernel
theorem dX8_gainInAllOrders_93 : decode cX8_gainInAllOrders 93 = .ok (.imul, 1) := by decide +kernel
theorem dX8_gainInAllOrders_94 : decode cX8_gainInAllOrders 94 = .ok (.iadd, 1) := by decide +kernel
theorem dX8_gainInAllOrders_95 : decode cX8_gainInAllOrders 95 = .ok (.istore_n 2, 1) := by decide +kernel
theorem dX8_gainInAllOrders_96 : decode cX8_gainInAllOrders 96 = .ok (.iinc 4 1, 3) := by decide +kernel
theorem dX8_gainInAllOrders_99 : decode cX8_gainInAllOrders 99 = .ok (.goto (-90), 3) := by decide +kernel
theorem dX8_gainInAllOrders_102 : decode cX8_gainInAllOrders 102 = .ok (.iload_n 2, 1) := by decide +kernel
theorem dX8_gainInAllOrders_103 : decode cX8_gainInAllOrders 103 = .ok (.ireturn, 1) := by decide +kernel
theorem dX8_orders_0 : decode cX8_orders 0 = .ok (.iload_n 0, 1) := by decide +kernel
theorem dX8_orders_1 : decode cX8_orders 1 = .ok (.ifCond .lt 19, 3) := by decide +kernel
theorem dX8_orders_4 : decode cX8_orders 4 = .ok (.iload_n 0, 1) := by decide +kernel
theorem dX8_orders_5 : decode cX8_orders 5 = .ok (.getstatic 251, 3) := by decide +kernel
theorem dX8_orders_8 : decode cX8_orders 8 = .ok (.arraylength, 1) := by decide +kernel
theorem dX8_orders_9 : decode cX8_orders 9 = .ok (.if_icmp .ge 11, 3) := by decide +kernel
theorem dX8_orders_12 : decode cX8_orders 12 = .ok (.getstatic 251, 3) := by decide +kernel
theorem dX8_orders_15 : decode cX8_orders 15 = .ok (.iload_n 0, 1) := by decide +kernel
theorem dX8_orders_16 : decode cX8_orders 16 = .ok (.iaload, 1) := by decide +kernel
theorem dX8_orders_17 : decode cX8_orders 17 = .ok (.goto 4, 3) := by decide +kernel
theorem dX8_orders_20 : decode cX8_orders 20 = .ok (.iconst 0, 1) := by decide +kernel
theorem dX8_orders_21 : decode cX8_orders 21 = .ok (.ireturn, 1) := by decide +kernel
theorem dX8_bestLaw_0 : decode cX8_bestLaw 0 = .ok (.iload_n 1, 1) := by decide +kernel
theorem dX8_bestLaw_1 : decode cX8_bestLaw 1 = .ok (.invokestatic 176, 3) := by decide +kernel
theorem dX8_bestLaw_4 : decode cX8_bestLaw 4 = .ok (.ifCond .ne 5, 3) := by decide +kernel
theorem dX8_bestLaw_7 : decode cX8_bestLaw 7 = .ok (.iconst (-1), 1) := by decide +kernel
theorem dX8_bestLaw_8 : decode cX8_bestLaw 8 = .ok (.ireturn, 1) := by decide +kernel
theorem dX8_bestLaw_9 : decode cX8_bestLaw 9 = .ok (.iload_n 2, 1) := by decide +kernel
theorem dX8_bestLaw_10 : decode cX8_bestLaw 10 = .ok (.ifCond .lt 9, 3) := by decide +kernel
theorem dX8_bestLaw_13 : decode cX8_bestLaw 13 = .ok (.iload_n 2, 1) := by decide +kernel
theorem dX8_bestLaw_14 : decode cX8_bestLaw 14 = .ok (.bipush 12, 2) := by decide +kernel
theorem dX8_bestLaw_16 : decode cX8_bestLaw 16 = .ok (.if_icmp .le 6, 3) := by decide +kernel
theorem dX8_bestLaw_19 : decode cX8_bestLaw 19 = .ok (.bipush (-2), 2) := by decide +kernel
theorem dX8_bestLaw_21 : decode cX8_bestLaw 21 = .ok (.ireturn, 1) := by decide +kernel
theorem dX8_bestLaw_22 : decode cX8_bestLaw 22 = .ok (.iconst 0, 1) := by decide +kernel
theorem dX8_bestLaw_23 : decode cX8_bestLaw 23 = .ok (.istore_n 3, 1) := by decide +kernel
theorem dX8_bestLaw_24 : decode cX8_bestLaw 24 = .ok (.aload_n 0, 1) := by decide +kernel
theorem dX8_bestLaw_25 : decode cX8_bestLaw 25 = .ok (.iconst 0, 1) := by decide +kernel
theorem dX8_bestLaw_26 : decode cX8_bestLaw 26 = .ok (.iload_n 1, 1) := by decide +kernel
theorem dX8_bestLaw_27 : decode cX8_bestLaw 27 = .ok (.iload_n 2, 1) := by decide +kernel
theorem dX8_bestLaw_28 : decode cX8_bestLaw 28 = .ok (.invokevirtual 254, 3) := by decide +kernel
theorem dX8_bestLaw_31 : decode cX8_bestLaw 31 = .ok (.istore 4, 2) := by decide +kernel
theorem dX8_bestLaw_33 : decode cX8_bestLaw 33 = .ok (.iconst 1, 1) := by decide +kernel
theorem dX8_bestLaw_34 : decode cX8_bestLaw 34 = .ok (.istore 5, 2) := by decide +kernel
theorem dX8_bestLaw_36 : decode cX8_bestLaw 36 = .ok (.iload 5, 2) := by decide +kernel
theorem dX8_bestLaw_38 : decode cX8_bestLaw 38 = .ok (.iconst 3, 1) := by decide +kernel
theorem dX8_bestLaw_39 : decode cX8_bestLaw 39 = .ok (.if_icmp .ge 33, 3) := by decide +kernel
theorem dX8_bestLaw_42 : decode cX8_bestLaw 42 = .ok (.aload_n 0, 1) := by decide +kernel
theorem dX8_bestLaw_43 : decode cX8_bestLaw 43 = .ok (.iload 5, 2) := by decide +kernel
theorem dX8_bestLaw_45 : decode cX8_bestLaw 45 = .ok (.iload_n 1, 1) := by decide +kernel
theorem dX8_bestLaw_46 : decode cX8_bestLaw 46 = .ok (.iload_n 2, 1) := by decide +kernel
theorem dX8_bestLaw_47 : decode cX8_bestLaw 47 = .ok (.invokevirtual 254, 3) := by decide +kernel
theorem dX8_bestLaw_50 : decode cX8_bestLaw 50 = .ok (.istore 6, 2) := by decide +kernel
theorem dX8_bestLaw_52 : decode cX8_bestLaw 52 = .ok (.iload 6, 2) := by decide +kernel
theorem dX8_bestLaw_54 : decode cX8_bestLaw 54 = .ok (.iload 4, 2) := by decide +kernel
theorem dX8_bestLaw_56 : decode cX8_bestLaw 56 = .ok (.if_icmp .le 10, 3) := by decide +kernel
theorem dX8_bestLaw_59 : decode cX8_bestLaw 59 = .ok (.iload 5, 2) := by decide +kernel
theorem dX8_bestLaw_61 : decode cX8_bestLaw 61 = .ok (.istore_n 3, 1) := by decide +kernel
theorem dX8_bestLaw_62 : decode cX8_bestLaw 62 = .ok (.iload 6, 2) := by decide +kernel
theorem dX8_bestLaw_64 : decode cX8_bestLaw 64 = .ok (.istore 4, 2) := by decide +kernel
theorem dX8_bestLaw_66 : decode cX8_bestLaw 66 = .ok (.iinc 5 1, 3) := by decide +kernel
theorem dX8_bestLaw_69 : decode cX8_bestLaw 69 = .ok (.goto (-33), 3) := by decide +kernel
theorem dX8_bestLaw_72 : decode cX8_bestLaw 72 = .ok (.iload_n 3, 1) := by decide +kernel
theorem dX8_bestLaw_73 : decode cX8_bestLaw 73 = .ok (.ireturn, 1) := by decide +kernel
theorem dX8_rentsByLaw_0 : decode cX8_rentsByLaw 0 = .ok (.aload_n 0, 1) := by decide +kernel
theorem dX8_rentsByLaw_1 : decode cX8_rentsByLaw 1 = .ok (.getfield 46, 3) := by decide +kernel
theorem dX8_rentsByLaw_4 : decode cX8_rentsByLaw 4 = .ok (.aload_n 0, 1) := by decide +kernel
theorem dX8_rentsByLaw_5 : decode cX8_rentsByLaw 5 = .ok (.getfield 26, 3) := by decide +kernel
theorem dX8_rentsByLaw_8 : decode cX8_rentsByLaw 8 = .ok (.aload_n 0, 1) := by decide +kernel
theorem dX8_rentsByLaw_9 : decode cX8_rentsByLaw 9 = .ok (.getfield 26, 3) := by decide +kernel
theorem dX8_rentsByLaw_12 : decode cX8_rentsByLaw 12 = .ok (.invokevirtual 144, 3) := by decide +kernel
theorem dX8_rentsByLaw_15 : decode cX8_rentsByLaw 15 = .ok (.iload_n 1, 1) := by decide +kernel
theorem dX8_rentsByLaw_16 : decode cX8_rentsByLaw 16 = .ok (.invokevirtual 182, 3) := by decide +kernel
theorem dX8_rentsByLaw_19 : decode cX8_rentsByLaw 19 = .ok (.aload_n 0, 1) := by decide +kernel
theorem dX8_rentsByLaw_20 : decode cX8_rentsByLaw 20 = .ok (.getfield 46, 3) := by decide +kernel
theorem dX8_rentsByLaw_23 : decode cX8_rentsByLaw 23 = .ok (.aload_n 0, 1) := by decide +kernel
theorem dX8_rentsByLaw_24 : decode cX8_rentsByLaw 24 = .ok (.getfield 26, 3) := by decide +kernel
theorem dX8_rentsByLaw_27 : decode cX8_rentsByLaw 27 = .ok (.aload_n 0, 1) := by decide +kernel
theorem dX8_rentsByLaw_28 : decode cX8_rentsByLaw 28 = .ok (.getfield 19, 3) := by decide +kernel
theorem dX8_rentsByLaw_31 : decode cX8_rentsByLaw 31 = .ok (.aload_n 0, 1) := by decide +kernel
theorem dX8_rentsByLaw_32 : decode cX8_rentsByLaw 32 = .ok (.getfield 26, 3) := by decide +kernel
theorem dX8_rentsByLaw_35 : decode cX8_rentsByLaw 35 = .ok (.iload_n 2, 1) := by decide +kernel
theorem dX8_rentsByLaw_36 : decode cX8_rentsByLaw 36 = .ok (.invokevirtual 211, 3) := by decide +kernel
theorem dX8_rentsByLaw_39 : decode cX8_rentsByLaw 39 = .ok (.iload_n 3, 1) := by decide +kernel
theorem dX8_rentsByLaw_40 : decode cX8_rentsByLaw 40 = .ok (.invokevirtual 214, 3) := by decide +kernel
theorem dX8_rentsByLaw_43 : decode cX8_rentsByLaw 43 = .ok (.ireturn, 1) := by decide +kernel
theorem dX8_starless_0 : decode cX8_starless 0 = .ok (.iload_n 1, 1) := by decide +kernel
theorem dX8_starless_1 : decode cX8_starless 1 = .ok (.bipush 10, 2) := by decide +kernel
theorem dX8_starless_3 : decode cX8_starless 3 = .ok (.invokestatic 218, 3) := by decide +kernel
theorem dX8_starless_6 : decode cX8_starless 6 = .ok (.ifCond .ne 6, 3) := by decide +kernel
theorem dX8_starless_9 : decode cX8_starless 9 = .ok (.bipush (-2), 2) := by decide +kernel
theorem dX8_starless_11 : decode cX8_starless 11 = .ok (.ireturn, 1) := by decide +kernel
theorem dX8_starless_12 : decode cX8_starless 12 = .ok (.aload_n 0, 1) := by decide +kernel
theorem dX8_starless_13 : decode cX8_starless 13 = .ok (.invokevirtual 151, 3) := by decide +kernel
theorem dX8_starless_16 : decode cX8_starless 16 = .ok (.aload_n 0, 1) := by decide +kernel
theorem dX8_starless_17 : decode cX8_starless 17 = .ok (.getfield 46, 3) := by decide +kernel
theorem dX8_starless_20 : decode cX8_starless 20 = .ok (.aload_n 0, 1) := by decide +kernel
theorem dX8_starless_21 : decode cX8_starless 21 = .ok (.getfield 19, 3) := by decide +kernel
theorem dX8_starless_24 : decode cX8_starless 24 = .ok (.aload_n 0, 1) := by decide +kernel
theorem dX8_starless_25 : decode cX8_starless 25 = .ok (.getfield 26, 3) := by decide +kernel
theorem dX8_starless_28 : decode cX8_starless 28 = .ok (.getfield 114, 3) := by decide +kernel
theorem dX8_starless_31 : decode cX8_starless 31 = .ok (.iload_n 1, 1) := by decide +kernel
theorem dX8_starless_32 : decode cX8_starless 32 = .ok (.invokevirtual 257, 3) := by decide +kernel
theorem dX8_starless_35 : decode cX8_starless 35 = .ok (.istore_n 2, 1) := by decide +kernel
theorem dX8_starless_36 : decode cX8_starless 36 = .ok (.iconst 0, 1) := by decide +kernel
theorem dX8_starless_37 : decode cX8_starless 37 = .ok (.istore_n 3, 1) := by decide +kernel
theorem dX8_starless_38 : decode cX8_starless 38 = .ok (.iload_n 3, 1) := by decide +kernel
theorem dX8_starless_39 : decode cX8_starless 39 = .ok (.iconst 4, 1) := by decide +kernel
theorem dX8_starless_40 : decode cX8_starless 40 = .ok (.if_icmp .ge 33, 3) := by decide +kernel
theorem dX8_starless_43 : decode cX8_starless 43 = .ok (.aload_n 0, 1) := by decide +kernel
theorem dX8_starless_44 : decode cX8_starless 44 = .ok (.getfield 26, 3) := by decide +kernel
theorem dX8_starless_47 : decode cX8_starless 47 = .ok (.iload_n 3, 1) := by decide +kernel
theorem dX8_starless_48 : decode cX8_starless 48 = .ok (.invokevirtual 211, 3) := by decide +kernel
theorem dX8_starless_51 : decode cX8_starless 51 = .ok (.istore 4, 2) := by decide +kernel
theorem dX8_starless_53 : decode cX8_starless 53 = .ok (.iload 4, 2) := by decide +kernel
theorem dX8_starless_55 : decode cX8_starless 55 = .ok (.ifCond .eq 12, 3) := by decide +kernel
theorem dX8_starless_58 : decode cX8_starless 58 = .ok (.iload 4, 2) := by decide +kernel
theorem dX8_starless_60 : decode cX8_starless 60 = .ok (.iload_n 2, 1) := by decide +kernel
theorem dX8_starless_61 : decode cX8_starless 61 = .ok (.iand, 1) := by decide +kernel
theorem dX8_starless_62 : decode cX8_starless 62 = .ok (.ifCond .ne 5, 3) := by decide +kernel
theorem dX8_starless_65 : decode cX8_starless 65 = .ok (.iload_n 3, 1) := by decide +kernel
theorem dX8_starless_66 : decode cX8_starless 66 = .ok (.ireturn, 1) := by decide +kernel
theorem dX8_starless_67 : decode cX8_starless 67 = .ok (.iinc 3 1, 3) := by decide +kernel
theorem dX8_starless_70 : decode cX8_starless 70 = .ok (.goto (-32), 3) := by decide +kernel
theorem dX8_starless_73 : decode cX8_starless 73 = .ok (.bipush (-9), 2) := by decide +kernel
theorem dX8_starless_75 : decode cX8_starless 75 = .ok (.ireturn, 1) := by decide +kernel
theorem dX8_rests_0 : decode cX8_rests 0 = .ok (.aload_n 0, 1) := by decide +kernel
theorem dX8_rests_1 : decode cX8_rests 1 = .ok (.getfield 26, 3) := by decide +kernel
theorem dX8_rests_4 : decode cX8_rests 4 = .ok (.iload_n 1, 1) := by decide +kernel
theorem dX8_rests_5 : decode cX8_rests 5 = .ok (.invokevirtual 131, 3) := by decide +kernel
theorem dX8_rests_8 : decode cX8_rests 8 = .ok (.ifCond .eq 14, 3) := by decide +kernel
theorem dX8_rests_11 : decode cX8_rests 11 = .ok (.aload_n 0, 1) := by decide +kernel
theorem dX8_rests_12 : decode cX8_rests 12 = .ok (.getfield 26, 3) := by decide +kernel
theorem dX8_rests_15 : decode cX8_rests 15 = .ok (.iload_n 2, 1) := by decide +kernel
theorem dX8_rests_16 : decode cX8_rests 16 = .ok (.invokevirtual 131, 3) := by decide +kernel
theorem dX8_rests_19 : decode cX8_rests 19 = .ok (.ifCond .ne 5, 3) := by decide +kernel
theorem dX8_rests_22 : decode cX8_rests 22 = .ok (.iconst (-1), 1) := by decide +kernel
theorem dX8_rests_23 : decode cX8_rests 23 = .ok (.ireturn, 1) := by decide +kernel
theorem dX8_rests_24 : decode cX8_rests 24 = .ok (.iload_n 1, 1) := by decide +kernel
theorem dX8_rests_25 : decode cX8_rests 25 = .ok (.iload_n 2, 1) := by decide +kernel
theorem dX8_rests_26 : decode cX8_rests 26 = .ok (.if_icmp .eq 23, 3) := by decide +kernel
theorem dX8_rests_29 : decode cX8_rests 29 = .ok (.iload_n 3, 1) := by decide +kernel
theorem dX8_rests_30 : decode cX8_rests 30 = .ok (.bipush 10, 2) := by decide +kernel
theorem dX8_rests_32 : decode cX8_rests 32 = .ok (.invokestatic 218, 3) := by decide +kernel
theorem dX8_rests_35 : decode cX8_rests 35 = .ok (.ifCond .eq 14, 3) := by decide +kernel
theorem dX8_rests_38 : decode cX8_rests 38 = .ok (.iload 4, 2) := by decide +kernel
theorem dX8_rests_40 : decode cX8_rests 40 = .ok (.ifCond .lt 9, 3) := by decide +kernel
theorem dX8_rests_43 : decode cX8_rests 43 = .ok (.iload 4, 2) := by decide +kernel
theorem dX8_rests_45 : decode cX8_rests 45 = .ok (.iconst 1, 1) := by decide +kernel
theorem dX8_rests_46 : decode cX8_rests 46 = .ok (.if_icmp .le 6, 3) := by decide +kernel
theorem dX8_rests_49 : decode cX8_rests 49 = .ok (.bipush (-2), 2) := by decide +kernel
theorem dX8_rests_51 : decode cX8_rests 51 = .ok (.ireturn, 1) := by decide +kernel
theorem dX8_rests_52 : decode cX8_rests 52 = .ok (.aload_n 0, 1) := by decide +kernel
theorem dX8_rests_53 : decode cX8_rests 53 = .ok (.getfield 30, 3) := by decide +kernel
theorem dX8_rests_56 : decode cX8_rests 56 = .ok (.aload_n 0, 1) := by decide +kernel
theorem dX8_rests_57 : decode cX8_rests 57 = .ok (.getfield 26, 3) := by decide +kernel
theorem dX8_rests_60 : decode cX8_rests 60 = .ok (.invokevirtual 234, 3) := by decide +kernel
theorem dX8_rests_63 : decode cX8_rests 63 = .ok (.iconst 0, 1) := by decide +kernel
theorem dX8_rests_64 : decode cX8_rests 64 = .ok (.istore 5, 2) := by decide +kernel
theorem dX8_rests_66 : decode cX8_rests 66 = .ok (.iload 5, 2) := by decide +kernel
theorem dX8_rests_68 : decode cX8_rests 68 = .ok (.bipush 100, 2) := by decide +kernel
theorem dX8_rests_70 : decode cX8_rests 70 = .ok (.if_icmp .ge 18, 3) := by decide +kernel
theorem dX8_rests_73 : decode cX8_rests 73 = .ok (.aload_n 0, 1) := by decide +kernel
theorem dX8_rests_74 : decode cX8_rests 74 = .ok (.iload_n 1, 1) := by decide +kernel
theorem dX8_rests_75 : decode cX8_rests 75 = .ok (.iload_n 2, 1) := by decide +kernel
theorem dX8_rests_76 : decode cX8_rests 76 = .ok (.iload_n 3, 1) := by decide +kernel
theorem dX8_rests_77 : decode cX8_rests 77 = .ok (.iload 5, 2) := by decide +kernel
theorem dX8_rests_79 : decode cX8_rests 79 = .ok (.invokevirtual 260, 3) := by decide +kernel
theorem dX8_rests_82 : decode cX8_rests 82 = .ok (.iinc 5 1, 3) := by decide +kernel
theorem dX8_rests_85 : decode cX8_rests 85 = .ok (.goto (-19), 3) := by decide +kernel
theorem dX8_rests_88 : decode cX8_rests 88 = .ok (.iload 4, 2) := by decide +kernel
theorem dX8_rests_90 : decode cX8_rests 90 = .ok (.ifCond .ne 13, 3) := by decide +kernel
theorem dX8_rests_93 : decode cX8_rests 93 = .ok (.aload_n 0, 1) := by decide +kernel
theorem dX8_rests_94 : decode cX8_rests 94 = .ok (.getfield 67, 3) := by decide +kernel
theorem dX8_rests_97 : decode cX8_rests 97 = .ok (.invokevirtual 264, 3) := by decide +kernel
theorem dX8_rests_100 : decode cX8_rests 100 = .ok (.goto 10, 3) := by decide +kernel
theorem dX8_rests_103 : decode cX8_rests 103 = .ok (.aload_n 0, 1) := by decide +kernel
theorem dX8_rests_104 : decode cX8_rests 104 = .ok (.getfield 67, 3) := by decide +kernel
theorem dX8_rests_107 : decode cX8_rests 107 = .ok (.invokevirtual 267, 3) := by decide +kernel
theorem dX8_rests_110 : decode cX8_rests 110 = .ok (.ireturn, 1) := by decide +kernel
theorem dX8_tryHeights_0 : decode cX8_tryHeights 0 = .ok (.iload 4, 2) := by decide +kernel
theorem dX8_tryHeights_2 : decode cX8_tryHeights 2 = .ok (.invokestatic 270, 3) := by decide +kernel
theorem dX8_tryHeights_5 : decode cX8_tryHeights 5 = .ok (.istore 5, 2) := by decide +kernel
theorem dX8_tryHeights_7 : decode cX8_tryHeights 7 = .ok (.iload 4, 2) := by decide +kernel
theorem dX8_tryHeights_9 : decode cX8_tryHeights 9 = .ok (.invokestatic 273, 3) := by decide +kernel
theorem dX8_tryHeights_12 : decode cX8_tryHeights 12 = .ok (.istore 6, 2) := by decide +kernel
theorem dX8_tryHeights_14 : decode cX8_tryHeights 14 = .ok (.aload_n 0, 1) := by decide +kernel
theorem dX8_tryHeights_15 : decode cX8_tryHeights 15 = .ok (.getfield 30, 3) := by decide +kernel
theorem dX8_tryHeights_18 : decode cX8_tryHeights 18 = .ok (.iload_n 1, 1) := by decide +kernel
theorem dX8_tryHeights_19 : decode cX8_tryHeights 19 = .ok (.iload 5, 2) := by decide +kernel
theorem dX8_tryHeights_21 : decode cX8_tryHeights 21 = .ok (.invokevirtual 186, 3) := by decide +kernel
theorem dX8_tryHeights_24 : decode cX8_tryHeights 24 = .ok (.aload_n 0, 1) := by decide +kernel
theorem dX8_tryHeights_25 : decode cX8_tryHeights 25 = .ok (.getfield 30, 3) := by decide +kernel
theorem dX8_tryHeights_28 : decode cX8_tryHeights 28 = .ok (.iload_n 2, 1) := by decide +kernel
theorem dX8_tryHeights_29 : decode cX8_tryHeights 29 = .ok (.iload 6, 2) := by decide +kernel
theorem dX8_tryHeights_31 : decode cX8_tryHeights 31 = .ok (.invokevirtual 186, 3) := by decide +kernel
theorem dX8_tryHeights_34 : decode cX8_tryHeights 34 = .ok (.aload_n 0, 1) := by decide +kernel
theorem dX8_tryHeights_35 : decode cX8_tryHeights 35 = .ok (.getfield 46, 3) := by decide +kernel
theorem dX8_tryHeights_38 : decode cX8_tryHeights 38 = .ok (.aload_n 0, 1) := by decide +kernel
theorem dX8_tryHeights_39 : decode cX8_tryHeights 39 = .ok (.getfield 30, 3) := by decide +kernel
theorem dX8_tryHeights_42 : decode cX8_tryHeights 42 = .ok (.aload_n 0, 1) := by decide +kernel
theorem dX8_tryHeights_43 : decode cX8_tryHeights 43 = .ok (.getfield 30, 3) := by decide +kernel
theorem dX8_tryHeights_46 : decode cX8_tryHeights 46 = .ok (.invokevirtual 144, 3) := by decide +kernel
theorem dX8_tryHeights_49 : decode cX8_tryHeights 49 = .ok (.aload_n 0, 1) := by decide +kernel
theorem dX8_tryHeights_50 : decode cX8_tryHeights 50 = .ok (.getfield 101, 3) := by decide +kernel
theorem dX8_tryHeights_53 : decode cX8_tryHeights 53 = .ok (.invokevirtual 182, 3) := by decide +kernel
theorem dX8_tryHeights_56 : decode cX8_tryHeights 56 = .ok (.aload_n 0, 1) := by decide +kernel
theorem dX8_tryHeights_57 : decode cX8_tryHeights 57 = .ok (.getfield 46, 3) := by decide +kernel
theorem dX8_tryHeights_60 : decode cX8_tryHeights 60 = .ok (.aload_n 0, 1) := by decide +kernel
theorem dX8_tryHeights_61 : decode cX8_tryHeights 61 = .ok (.getfield 30, 3) := by decide +kernel
theorem dX8_tryHeights_64 : decode cX8_tryHeights 64 = .ok (.aload_n 0, 1) := by decide +kernel
theorem dX8_tryHeights_65 : decode cX8_tryHeights 65 = .ok (.getfield 19, 3) := by decide +kernel
theorem dX8_tryHeights_68 : decode cX8_tryHeights 68 = .ok (.iconst 1, 1) := by decide +kernel
theorem dX8_tryHeights_69 : decode cX8_tryHeights 69 = .ok (.iload_n 1, 1) := by decide +kernel
theorem dX8_tryHeights_70 : decode cX8_tryHeights 70 = .ok (.ishl, 1) := by decide +kernel
theorem dX8_tryHeights_71 : decode cX8_tryHeights 71 = .ok (.iload_n 3, 1) := by decide +kernel
theorem dX8_tryHeights_72 : decode cX8_tryHeights 72 = .ok (.invokevirtual 214, 3) := by decide +kernel
theorem dX8_tryHeights_75 : decode cX8_tryHeights 75 = .ok (.iload 5, 2) := by decide +kernel
theorem dX8_tryHeights_77 : decode cX8_tryHeights 77 = .ok (.isub, 1) := by decide +kernel
theorem dX8_tryHeights_78 : decode cX8_tryHeights 78 = .ok (.istore 7, 2) := by decide +kernel
theorem dX8_tryHeights_80 : decode cX8_tryHeights 80 = .ok (.aload_n 0, 1) := by decide +kernel
theorem dX8_tryHeights_81 : decode cX8_tryHeights 81 = .ok (.getfield 46, 3) := by decide +kernel
theorem dX8_tryHeights_84 : decode cX8_tryHeights 84 = .ok (.aload_n 0, 1) := by decide +kernel
theorem dX8_tryHeights_85 : decode cX8_tryHeights 85 = .ok (.getfield 30, 3) := by decide +kernel
theorem dX8_tryHeights_88 : decode cX8_tryHeights 88 = .ok (.aload_n 0, 1) := by decide +kernel
theorem dX8_tryHeights_89 : decode cX8_tryHeights 89 = .ok (.getfield 19, 3) := by decide +kernel
theorem dX8_tryHeights_92 : decode cX8_tryHeights 92 = .ok (.iconst 1, 1) := by decide +kernel
theorem dX8_tryHeights_93 : decode cX8_tryHeights 93 = .ok (.iload_n 2, 1) := by decide +kernel
theorem dX8_tryHeights_94 : decode cX8_tryHeights 94 = .ok (.ishl, 1) := by decide +kernel
theorem dX8_tryHeights_95 : decode cX8_tryHeights 95 = .ok (.iload_n 3, 1) := by decide +kernel
theorem dX8_tryHeights_96 : decode cX8_tryHeights 96 = .ok (.invokevirtual 214, 3) := by decide +kernel
theorem dX8_tryHeights_99 : decode cX8_tryHeights 99 = .ok (.iload 6, 2) := by decide +kernel
theorem dX8_tryHeights_101 : decode cX8_tryHeights 101 = .ok (.isub, 1) := by decide +kernel
theorem dX8_tryHeights_102 : decode cX8_tryHeights 102 = .ok (.istore 8, 2) := by decide +kernel
theorem dX8_tryHeights_104 : decode cX8_tryHeights 104 = .ok (.aload_n 0, 1) := by decide +kernel
theorem dX8_tryHeights_105 : decode cX8_tryHeights 105 = .ok (.getfield 67, 3) := by decide +kernel
theorem dX8_tryHeights_108 : decode cX8_tryHeights 108 = .ok (.iload 4, 2) := by decide +kernel
theorem dX8_tryHeights_110 : decode cX8_tryHeights 110 = .ok (.iload 7, 2) := by decide +kernel
theorem dX8_tryHeights_112 : decode cX8_tryHeights 112 = .ok (.iload 8, 2) := by decide +kernel
theorem dX8_tryHeights_114 : decode cX8_tryHeights 114 = .ok (.invokevirtual 276, 3) := by decide +kernel
theorem dX8_tryHeights_117 : decode cX8_tryHeights 117 = .ok (.return_, 1) := by decide +kernel
theorem dX8_shine_0 : decode cX8_shine 0 = .ok (.iload_n 1, 1) := by decide +kernel
theorem dX8_shine_1 : decode cX8_shine 1 = .ok (.ifCond .lt 19, 3) := by decide +kernel
theorem dX8_shine_4 : decode cX8_shine 4 = .ok (.iload_n 1, 1) := by decide +kernel
theorem dX8_shine_5 : decode cX8_shine 5 = .ok (.bipush 10, 2) := by decide +kernel
theorem dX8_shine_7 : decode cX8_shine 7 = .ok (.if_icmp .ge 13, 3) := by decide +kernel
theorem dX8_shine_10 : decode cX8_shine 10 = .ok (.iload_n 2, 1) := by decide +kernel
theorem dX8_shine_11 : decode cX8_shine 11 = .ok (.ifCond .lt 9, 3) := by decide +kernel
theorem dX8_shine_14 : decode cX8_shine 14 = .ok (.iload_n 2, 1) := by decide +kernel
theorem dX8_shine_15 : decode cX8_shine 15 = .ok (.bipush 10, 2) := by decide +kernel
theorem dX8_shine_17 : decode cX8_shine 17 = .ok (.if_icmp .lt 6, 3) := by decide +kernel
theorem dX8_shine_20 : decode cX8_shine 20 = .ok (.bipush (-2), 2) := by decide +kernel
theorem dX8_shine_22 : decode cX8_shine 22 = .ok (.ireturn, 1) := by decide +kernel
theorem dX8_shine_23 : decode cX8_shine 23 = .ok (.aload_n 0, 1) := by decide +kernel
theorem dX8_shine_24 : decode cX8_shine 24 = .ok (.getfield 60, 3) := by decide +kernel
theorem dX8_shine_27 : decode cX8_shine 27 = .ok (.invokevirtual 279, 3) := by decide +kernel
theorem dX8_shine_30 : decode cX8_shine 30 = .ok (.ifCond .eq 6, 3) := by decide +kernel
theorem dX8_shine_33 : decode cX8_shine 33 = .ok (.bipush (-4), 2) := by decide +kernel
theorem dX8_shine_35 : decode cX8_shine 35 = .ok (.ireturn, 1) := by decide +kernel
theorem dX8_shine_36 : decode cX8_shine 36 = .ok (.aload_n 0, 1) := by decide +kernel
theorem dX8_shine_37 : decode cX8_shine 37 = .ok (.getfield 60, 3) := by decide +kernel
theorem dX8_shine_40 : decode cX8_shine 40 = .ok (.iload_n 1, 1) := by decide +kernel
theorem dX8_shine_41 : decode cX8_shine 41 = .ok (.iload_n 2, 1) := by decide +kernel
theorem dX8_shine_42 : decode cX8_shine 42 = .ok (.iload_n 3, 1) := by decide +kernel
theorem dX8_shine_43 : decode cX8_shine 43 = .ok (.invokevirtual 280, 3) := by decide +kernel
theorem dX8_shine_46 : decode cX8_shine 46 = .ok (.ireturn, 1) := by decide +kernel
theorem dX8_unshine_0 : decode cX8_unshine 0 = .ok (.aload_n 0, 1) := by decide +kernel
theorem dX8_unshine_1 : decode cX8_unshine 1 = .ok (.getfield 60, 3) := by decide +kernel
theorem dX8_unshine_4 : decode cX8_unshine 4 = .ok (.invokevirtual 282, 3) := by decide +kernel
theorem dX8_unshine_7 : decode cX8_unshine 7 = .ok (.ireturn, 1) := by decide +kernel
theorem dX8_found_0 : decode cX8_found 0 = .ok (.iload_n 1, 1) := by decide +kernel
theorem dX8_found_1 : decode cX8_found 1 = .ok (.ifCond .lt 8, 3) := by decide +kernel
theorem dX8_found_4 : decode cX8_found 4 = .ok (.iload_n 1, 1) := by decide +kernel
theorem dX8_found_5 : decode cX8_found 5 = .ok (.iconst 1, 1) := by decide +kernel
theorem dX8_found_6 : decode cX8_found 6 = .ok (.if_icmp .le 6, 3) := by decide +kernel
theorem dX8_found_9 : decode cX8_found 9 = .ok (.bipush (-2), 2) := by decide +kernel
theorem dX8_found_11 : decode cX8_found 11 = .ok (.ireturn, 1) := by decide +kernel
theorem dX8_found_12 : decode cX8_found 12 = .ok (.aload_n 0, 1) := by decide +kernel
theorem dX8_found_13 : decode cX8_found 13 = .ok (.getfield 60, 3) := by decide +kernel
theorem dX8_found_16 : decode cX8_found 16 = .ok (.invokevirtual 283, 3) := by decide +kernel
theorem dX8_found_19 : decode cX8_found 19 = .ok (.lstore_n 2, 1) := by decide +kernel
theorem dX8_found_20 : decode cX8_found 20 = .ok (.iload_n 1, 1) := by decide +kernel
theorem dX8_found_21 : decode cX8_found 21 = .ok (.ifCond .ne 10, 3) := by decide +kernel
theorem dX8_found_24 : decode cX8_found 24 = .ok (.lload_n 2, 1) := by decide +kernel
theorem dX8_found_25 : decode cX8_found 25 = .ok (.invokestatic 287, 3) := by decide +kernel
theorem dX8_found_28 : decode cX8_found 28 = .ok (.goto 7, 3) := by decide +kernel
theorem dX8_found_31 : decode cX8_found 31 = .ok (.lload_n 2, 1) := by decide +kernel
theorem dX8_found_32 : decode cX8_found 32 = .ok (.invokestatic 292, 3) := by decide +kernel
theorem dX8_found_35 : decode cX8_found 35 = .ok (.ireturn, 1) := by decide +kernel
theorem dX8_look_0 : decode cX8_look 0 = .ok (.aload_n 0, 1) := by decide +kernel
theorem dX8_look_1 : decode cX8_look 1 = .ok (.getfield 60, 3) := by decide +kernel
theorem dX8_look_4 : decode cX8_look 4 = .ok (.invokevirtual 295, 3) := by decide +kernel
theorem dX8_look_7 : decode cX8_look 7 = .ok (.ireturn, 1) := by decide +kernel
theorem dX8_chance_0 : decode cX8_chance 0 = .ok (.aload_n 0, 1) := by decide +kernel
theorem dX8_chance_1 : decode cX8_chance 1 = .ok (.getfield 19, 3) := by decide +kernel
theorem dX8_chance_4 : decode cX8_chance 4 = .ok (.iload_n 1, 1) := by decide +kernel
theorem dX8_chance_5 : decode cX8_chance 5 = .ok (.invokevirtual 163, 3) := by decide +kernel
theorem dX8_chance_8 : decode cX8_chance 8 = .ok (.ifCond .ne 5, 3) := by decide +kernel
theorem dX8_chance_11 : decode cX8_chance 11 = .ok (.iconst (-1), 1) := by decide +kernel
theorem dX8_chance_12 : decode cX8_chance 12 = .ok (.ireturn, 1) := by decide +kernel
theorem dX8_chance_13 : decode cX8_chance 13 = .ok (.iload_n 2, 1) := by decide +kernel
theorem dX8_chance_14 : decode cX8_chance 14 = .ok (.bipush 6, 2) := by decide +kernel
theorem dX8_chance_16 : decode cX8_chance 16 = .ok (.invokestatic 218, 3) := by decide +kernel
theorem dX8_chance_19 : decode cX8_chance 19 = .ok (.ifCond .eq 13, 3) := by decide +kernel
theorem dX8_chance_22 : decode cX8_chance 22 = .ok (.iload_n 3, 1) := by decide +kernel
theorem dX8_chance_23 : decode cX8_chance 23 = .ok (.ifCond .lt 9, 3) := by decide +kernel
theorem dX8_chance_26 : decode cX8_chance 26 = .ok (.iload_n 3, 1) := by decide +kernel
theorem dX8_chance_27 : decode cX8_chance 27 = .ok (.bipush 10, 2) := by decide +kernel
theorem dX8_chance_29 : decode cX8_chance 29 = .ok (.if_icmp .le 6, 3) := by decide +kernel
theorem dX8_chance_32 : decode cX8_chance 32 = .ok (.bipush (-2), 2) := by decide +kernel
theorem dX8_chance_34 : decode cX8_chance 34 = .ok (.ireturn, 1) := by decide +kernel
theorem dX8_chance_35 : decode cX8_chance 35 = .ok (.aload_n 0, 1) := by decide +kernel
theorem dX8_chance_36 : decode cX8_chance 36 = .ok (.invokevirtual 151, 3) := by decide +kernel
theorem dX8_chance_39 : decode cX8_chance 39 = .ok (.iconst 1, 1) := by decide +kernel
theorem dX8_chance_40 : decode cX8_chance 40 = .ok (.istore 5, 2) := by decide +kernel
theorem dX8_chance_42 : decode cX8_chance 42 = .ok (.iconst 1, 1) := by decide +kernel
theorem dX8_chance_43 : decode cX8_chance 43 = .ok (.istore 6, 2) := by decide +kernel
theorem dX8_chance_45 : decode cX8_chance 45 = .ok (.iconst 0, 1) := by decide +kernel
theorem dX8_chance_46 : decode cX8_chance 46 = .ok (.istore 7, 2) := by decide +kernel
theorem dX8_chance_48 : decode cX8_chance 48 = .ok (.iload 7, 2) := by decide +kernel
theorem dX8_chance_50 : decode cX8_chance 50 = .ok (.iload_n 2, 1) := by decide +kernel
theorem dX8_chance_51 : decode cX8_chance 51 = .ok (.if_icmp .ge 47, 3) := by decide +kernel
theorem dX8_chance_54 : decode cX8_chance 54 = .ok (.aload_n 0, 1) := by decide +kernel
theorem dX8_chance_55 : decode cX8_chance 55 = .ok (.getfield 46, 3) := by decide +kernel
theorem dX8_chance_58 : decode cX8_chance 58 = .ok (.aload_n 0, 1) := by decide +kernel
theorem dX8_chance_59 : decode cX8_chance 59 = .ok (.getfield 19, 3) := by decide +kernel
theorem dX8_chance_62 : decode cX8_chance 62 = .ok (.iload_n 1, 1) := by decide +kernel
theorem dX8_chance_63 : decode cX8_chance 63 = .ok (.aload_n 0, 1) := by decide +kernel
theorem dX8_chance_64 : decode cX8_chance 64 = .ok (.getfield 26, 3) := by decide +kernel
theorem dX8_chance_67 : decode cX8_chance 67 = .ok (.getfield 114, 3) := by decide +kernel
theorem dX8_chance_70 : decode cX8_chance 70 = .ok (.iload 7, 2) := by decide +kernel
theorem dX8_chance_72 : decode cX8_chance 72 = .ok (.iadd, 1) := by decide +kernel
theorem dX8_chance_73 : decode cX8_chance 73 = .ok (.invokevirtual 172, 3) := by decide +kernel
theorem dX8_chance_76 : decode cX8_chance 76 = .ok (.ifCond .le 16, 3) := by decide +kernel
theorem dX8_chance_79 : decode cX8_chance 79 = .ok (.iload 5, 2) := by decide +kernel
theorem dX8_chance_81 : decode cX8_chance 81 = .ok (.bipush 10, 2) := by decide +kernel
theorem dX8_chance_83 : decode cX8_chance 83 = .ok (.imul, 1) := by decide +kernel
theorem dX8_chance_84 : decode cX8_chance 84 = .ok (.istore 5, 2) := by decide +kernel
theorem dX8_chance_86 : decode cX8_chance 86 = .ok (.iload 6, 2) := by decide +kernel
theorem dX8_chance_88 : decode cX8_chance 88 = .ok (.iload_n 3, 1) := by decide +kernel
theorem dX8_chance_89 : decode cX8_chance 89 = .ok (.imul, 1) := by decide +kernel
theorem dX8_chance_90 : decode cX8_chance 90 = .ok (.istore 6, 2) := by decide +kernel
theorem dX8_chance_92 : decode cX8_chance 92 = .ok (.iinc 7 1, 3) := by decide +kernel
theorem dX8_chance_95 : decode cX8_chance 95 = .ok (.goto (-47), 3) := by decide +kernel
theorem dX8_chance_98 : decode cX8_chance 98 = .ok (.iload 5, 2) := by decide +kernel
theorem dX8_chance_100 : decode cX8_chance 100 = .ok (.iload 6, 2) := by decide +kernel
theorem dX8_chance_102 : decode cX8_chance 102 = .ok (.isub, 1) := by decide +kernel
theorem dX8_chance_103 : decode cX8_chance 103 = .ok (.iload 5, 2) := by decide +kernel
theorem dX8_chance_105 : decode cX8_chance 105 = .ok (.iload 4, 2) := by decide +kernel
theorem dX8_chance_107 : decode cX8_chance 107 = .ok (.invokestatic 247, 3) := by decide +kernel
theorem dX8_chance_110 : decode cX8_chance 110 = .ok (.ireturn, 1) := by decide +kernel
theorem dX8_fraction_0 : decode cX8_fraction 0 = .ok (.iload_n 0, 1) := by decide +kernel
theorem dX8_fraction_1 : decode cX8_fraction 1 = .ok (.invokestatic 298, 3) := by decide +kernel
theorem dX8_fraction_4 : decode cX8_fraction 4 = .ok (.iload_n 1, 1) := by decide +kernel
theorem dX8_fraction_5 : decode cX8_fraction 5 = .ok (.invokestatic 303, 3) := by decide +kernel
theorem dX8_fraction_8 : decode cX8_fraction 8 = .ok (.istore_n 3, 1) := by decide +kernel
theorem dX8_fraction_9 : decode cX8_fraction 9 = .ok (.iload_n 2, 1) := by decide +kernel
theorem dX8_fraction_10 : decode cX8_fraction 10 = .ok (.ifCond .eq 7, 3) := by decide +kernel
theorem dX8_fraction_13 : decode cX8_fraction 13 = .ok (.iload_n 0, 1) := by decide +kernel
theorem dX8_fraction_14 : decode cX8_fraction 14 = .ok (.goto 4, 3) := by decide +kernel
theorem dX8_fraction_17 : decode cX8_fraction 17 = .ok (.iload_n 1, 1) := by decide +kernel
theorem dX8_fraction_18 : decode cX8_fraction 18 = .ok (.istore 4, 2) := by decide +kernel
theorem dX8_fraction_20 : decode cX8_fraction 20 = .ok (.iload_n 3, 1) := by decide +kernel
theorem dX8_fraction_21 : decode cX8_fraction 21 = .ok (.ifCond .ne 8, 3) := by decide +kernel
theorem dX8_fraction_24 : decode cX8_fraction 24 = .ok (.iload 4, 2) := by decide +kernel
theorem dX8_fraction_26 : decode cX8_fraction 26 = .ok (.goto 7, 3) := by decide +kernel
theorem dX8_fraction_29 : decode cX8_fraction 29 = .ok (.iload 4, 2) := by decide +kernel
theorem dX8_fraction_31 : decode cX8_fraction 31 = .ok (.iload_n 3, 1) := by decide +kernel
theorem dX8_fraction_32 : decode cX8_fraction 32 = .ok (.idiv, 1) := by decide +kernel
theorem dX8_fraction_33 : decode cX8_fraction 33 = .ok (.ireturn, 1) := by decide +kernel
theorem dX8_commonDivisor_0 : decode cX8_commonDivisor 0 = .ok (.iload_n 0, 1) := by decide +kernel
theorem dX8_commonDivisor_1 : decode cX8_commonDivisor 1 = .ok (.istore_n 2, 1) := by decide +kernel
theorem dX8_commonDivisor_2 : decode cX8_commonDivisor 2 = .ok (.iload_n 1, 1) := by decide +kernel
theorem dX8_commonDivisor_3 : decode cX8_commonDivisor 3 = .ok (.istore_n 3, 1) := by decide +kernel
theorem dX8_commonDivisor_4 : decode cX8_commonDivisor 4 = .ok (.iconst 0, 1) := by decide +kernel
theorem dX8_commonDivisor_5 : decode cX8_commonDivisor 5 = .ok (.istore 4, 2) := by decide +kernel
theorem dX8_commonDivisor_7 : decode cX8_commonDivisor 7 = .ok (.iload 4, 2) := by decide +kernel
theorem dX8_commonDivisor_9 : decode cX8_commonDivisor 9 = .ok (.bipush 64, 2) := by decide +kernel
theorem dX8_commonDivisor_11 : decode cX8_commonDivisor 11 = .ok (.if_icmp .ge 23, 3) := by decide +kernel
theorem dX8_commonDivisor_14 : decode cX8_commonDivisor 14 = .ok (.iload_n 3, 1) := by decide +kernel
theorem dX8_commonDivisor_15 : decode cX8_commonDivisor 15 = .ok (.ifCond .eq 19, 3) := by decide +kernel
theorem dX8_commonDivisor_18 : decode cX8_commonDivisor 18 = .ok (.iload_n 2, 1) := by decide +kernel
theorem dX8_commonDivisor_19 : decode cX8_commonDivisor 19 = .ok (.iload_n 3, 1) := by decide +kernel
theorem dX8_commonDivisor_20 : decode cX8_commonDivisor 20 = .ok (.irem, 1) := by decide +kernel
theorem dX8_commonDivisor_21 : decode cX8_commonDivisor 21 = .ok (.istore 5, 2) := by decide +kernel
theorem dX8_commonDivisor_23 : decode cX8_commonDivisor 23 = .ok (.iload_n 3, 1) := by decide +kernel
theorem dX8_commonDivisor_24 : decode cX8_commonDivisor 24 = .ok (.istore_n 2, 1) := by decide +kernel
theorem dX8_commonDivisor_25 : decode cX8_commonDivisor 25 = .ok (.iload 5, 2) := by decide +kernel
theorem dX8_commonDivisor_27 : decode cX8_commonDivisor 27 = .ok (.istore_n 3, 1) := by decide +kernel
theorem dX8_commonDivisor_28 : decode cX8_commonDivisor 28 = .ok (.iinc 4 1, 3) := by decide +kernel
theorem dX8_commonDivisor_31 : decode cX8_commonDivisor 31 = .ok (.goto (-24), 3) := by decide +kernel
theorem dX8_commonDivisor_34 : decode cX8_commonDivisor 34 = .ok (.iload_n 2, 1) := by decide +kernel
theorem dX8_commonDivisor_35 : decode cX8_commonDivisor 35 = .ok (.ireturn, 1) := by decide +kernel
theorem dX8_seed_0 : decode cX8_seed 0 = .ok (.aload_n 0, 1) := by decide +kernel
theorem dX8_seed_1 : decode cX8_seed 1 = .ok (.getfield 306, 3) := by decide +kernel
theorem dX8_seed_4 : decode cX8_seed 4 = .ok (.lstore_n 3, 1) := by decide +kernel
theorem dX8_seed_5 : decode cX8_seed 5 = .ok (.aload_n 0, 1) := by decide +kernel
theorem dX8_seed_6 : decode cX8_seed 6 = .ok (.lload_n 1, 1) := by decide +kernel
theorem dX8_seed_7 : decode cX8_seed 7 = .ok (.putfield 306, 3) := by decide +kernel
theorem dX8_seed_10 : decode cX8_seed 10 = .ok (.lload_n 3, 1) := by decide +kernel
theorem dX8_seed_11 : decode cX8_seed 11 = .ok (.lreturn, 1) := by decide +kernel
theorem dX8_nights_0 : decode cX8_nights 0 = .ok (.iload_n 1, 1) := by decide +kernel
theorem dX8_nights_1 : decode cX8_nights 1 = .ok (.bipush 30, 2) := by decide +kernel
theorem dX8_nights_3 : decode cX8_nights 3 = .ok (.invokestatic 218, 3) := by decide +kernel
theorem dX8_nights_6 : decode cX8_nights 6 = .ok (.ifCond .ne 6, 3) := by decide +kernel
theorem dX8_nights_9 : decode cX8_nights 9 = .ok (.bipush (-2), 2) := by decide +kernel
theorem dX8_nights_11 : decode cX8_nights 11 = .ok (.ireturn, 1) := by decide +kernel
theorem dX8_nights_12 : decode cX8_nights 12 = .ok (.aload_n 0, 1) := by decide +kernel
theorem dX8_nights_13 : decode cX8_nights 13 = .ok (.invokevirtual 151, 3) := by decide +kernel
theorem dX8_nights_16 : decode cX8_nights 16 = .ok (.iconst 0, 1) := by decide +kernel
theorem dX8_nights_17 : decode cX8_nights 17 = .ok (.istore_n 2, 1) := by decide +kernel
theorem dX8_nights_18 : decode cX8_nights 18 = .ok (.iconst 0, 1) := by decide +kernel
theorem dX8_nights_19 : decode cX8_nights 19 = .ok (.istore_n 3, 1) := by decide +kernel
theorem dX8_nights_20 : decode cX8_nights 20 = .ok (.iload_n 3, 1) := by decide +kernel
theorem dX8_nights_21 : decode cX8_nights 21 = .ok (.iload_n 1, 1) := by decide +kernel
theorem dX8_nights_22 : decode cX8_nights 22 = .ok (.if_icmp .ge 83, 3) := by decide +kernel
theorem dX8_nights_25 : decode cX8_nights 25 = .ok (.aload_n 0, 1) := by decide +kernel
theorem dX8_nights_26 : decode cX8_nights 26 = .ok (.aload_n 0, 1) := by decide +kernel
theorem dX8_nights_27 : decode cX8_nights 27 = .ok (.getfield 306, 3) := by decide +kernel
theorem dX8_nights_30 : decode cX8_nights 30 = .ok (.ldc2_w 310, 3) := by decide +kernel
theorem dX8_nights_33 : decode cX8_nights 33 = .ok (.lmul, 1) := by decide +kernel
theorem dX8_nights_34 : decode cX8_nights 34 = .ok (.ldc2_w 312, 3) := by decide +kernel
theorem dX8_nights_37 : decode cX8_nights 37 = .ok (.ladd, 1) := by decide +kernel
theorem dX8_nights_38 : decode cX8_nights 38 = .ok (.putfield 306, 3) := by decide +kernel
theorem dX8_nights_41 : decode cX8_nights 41 = .ok (.aload_n 0, 1) := by decide +kernel
theorem dX8_nights_42 : decode cX8_nights 42 = .ok (.getfield 306, 3) := by decide +kernel
theorem dX8_nights_45 : decode cX8_nights 45 = .ok (.bipush 33, 2) := by decide +kernel
theorem dX8_nights_47 : decode cX8_nights 47 = .ok (.lushr, 1) := by decide +kernel
theorem dX8_nights_48 : decode cX8_nights 48 = .ok (.ldc2_w 314, 3) := by decide +kernel
theorem dX8_nights_51 : decode cX8_nights 51 = .ok (.lrem, 1) := by decide +kernel
theorem dX8_nights_52 : decode cX8_nights 52 = .ok (.lconst 0, 1) := by decide +kernel
theorem dX8_nights_53 : decode cX8_nights 53 = .ok (.lcmp, 1) := by decide +kernel
theorem dX8_nights_54 : decode cX8_nights 54 = .ok (.ifCond .ne 7, 3) := by decide +kernel
theorem dX8_nights_57 : decode cX8_nights 57 = .ok (.iconst 1, 1) := by decide +kernel
theorem dX8_nights_58 : decode cX8_nights 58 = .ok (.goto 4, 3) := by decide +kernel
theorem dX8_nights_61 : decode cX8_nights 61 = .ok (.iconst 0, 1) := by decide +kernel
theorem dX8_nights_62 : decode cX8_nights 62 = .ok (.istore 4, 2) := by decide +kernel
theorem dX8_nights_64 : decode cX8_nights 64 = .ok (.iload 4, 2) := by decide +kernel
theorem dX8_nights_66 : decode cX8_nights 66 = .ok (.ifCond .ne 33, 3) := by decide +kernel
theorem dX8_nights_69 : decode cX8_nights 69 = .ok (.iload_n 2, 1) := by decide +kernel
theorem dX8_nights_70 : decode cX8_nights 70 = .ok (.aload_n 0, 1) := by decide +kernel
theorem dX8_nights_71 : decode cX8_nights 71 = .ok (.getfield 46, 3) := by decide +kernel
theorem dX8_nights_74 : decode cX8_nights 74 = .ok (.aload_n 0, 1) := by decide +kernel
theorem dX8_nights_75 : decode cX8_nights 75 = .ok (.getfield 19, 3) := by decide +kernel
theorem dX8_nights_78 : decode cX8_nights 78 = .ok (.aload_n 0, 1) := by decide +kernel
theorem dX8_nights_79 : decode cX8_nights 79 = .ok (.getfield 26, 3) := by decide +kernel
theorem dX8_nights_82 : decode cX8_nights 82 = .ok (.invokevirtual 144, 3) := by decide +kernel
theorem dX8_nights_85 : decode cX8_nights 85 = .ok (.aload_n 0, 1) := by decide +kernel
theorem dX8_nights_86 : decode cX8_nights 86 = .ok (.getfield 26, 3) := by decide +kernel
theorem dX8_nights_89 : decode cX8_nights 89 = .ok (.getfield 114, 3) := by decide +kernel
theorem dX8_nights_92 : decode cX8_nights 92 = .ok (.iload_n 3, 1) := by decide +kernel
theorem dX8_nights_93 : decode cX8_nights 93 = .ok (.iadd, 1) := by decide +kernel
theorem dX8_nights_94 : decode cX8_nights 94 = .ok (.invokevirtual 316, 3) := by decide +kernel
theorem dX8_nights_97 : decode cX8_nights 97 = .ok (.iadd, 1) := by decide +kernel
theorem dX8_nights_98 : decode cX8_nights 98 = .ok (.istore_n 2, 1) := by decide +kernel
theorem dX8_nights_99 : decode cX8_nights 99 = .ok (.iinc 3 1, 3) := by decide +kernel
theorem dX8_nights_102 : decode cX8_nights 102 = .ok (.goto (-82), 3) := by decide +kernel
theorem dX8_nights_105 : decode cX8_nights 105 = .ok (.iload_n 2, 1) := by decide +kernel
theorem dX8_nights_106 : decode cX8_nights 106 = .ok (.ireturn, 1) := by decide +kernel
theorem dX8_keep_0 : decode cX8_keep 0 = .ok (.aload_n 0, 1) := by decide +kernel
theorem dX8_keep_1 : decode cX8_keep 1 = .ok (.iload_n 1, 1) := by decide +kernel
theorem dX8_keep_2 : decode cX8_keep 2 = .ok (.invokevirtual 319, 3) := by decide +kernel
theorem dX8_keep_5 : decode cX8_keep 5 = .ok (.astore_n 2, 1) := by decide +kernel
theorem dX8_keep_6 : decode cX8_keep 6 = .ok (.aload_n 2, 1) := by decide +kernel
theorem dX8_keep_7 : decode cX8_keep 7 = .ok (.ifnonnull 5, 3) := by decide +kernel
theorem dX8_keep_10 : decode cX8_keep 10 = .ok (.iconst (-1), 1) := by decide +kernel
theorem dX8_keep_11 : decode cX8_keep 11 = .ok (.ireturn, 1) := by decide +kernel
theorem dX8_keep_12 : decode cX8_keep 12 = .ok (.aload_n 2, 1) := by decide +kernel
theorem dX8_keep_13 : decode cX8_keep 13 = .ok (.getfield 323, 3) := by decide +kernel
theorem dX8_keep_16 : decode cX8_keep 16 = .ok (.aload_n 0, 1) := by decide +kernel
theorem dX8_keep_17 : decode cX8_keep 17 = .ok (.getfield 26, 3) := by decide +kernel
theorem dX8_keep_20 : decode cX8_keep 20 = .ok (.invokevirtual 234, 3) := by decide +kernel
theorem dX8_keep_23 : decode cX8_keep 23 = .ok (.aload_n 2, 1) := by decide +kernel
theorem dX8_keep_24 : decode cX8_keep 24 = .ok (.iconst 1, 1) := by decide +kernel
theorem dX8_keep_25 : decode cX8_keep 25 = .ok (.putfield 94, 3) := by decide +kernel
theorem dX8_keep_28 : decode cX8_keep 28 = .ok (.aload_n 0, 1) := by decide +kernel
theorem dX8_keep_29 : decode cX8_keep 29 = .ok (.getfield 26, 3) := by decide +kernel
theorem dX8_keep_32 : decode cX8_keep 32 = .ok (.getfield 114, 3) := by decide +kernel
theorem dX8_keep_35 : decode cX8_keep 35 = .ok (.ireturn, 1) := by decide +kernel
theorem dX8_again_0 : decode cX8_again 0 = .ok (.aload_n 0, 1) := by decide +kernel
theorem dX8_again_1 : decode cX8_again 1 = .ok (.iload_n 1, 1) := by decide +kernel
theorem dX8_again_2 : decode cX8_again 2 = .ok (.invokevirtual 319, 3) := by decide +kernel
theorem dX8_again_5 : decode cX8_again 5 = .ok (.astore_n 2, 1) := by decide +kernel
theorem dX8_again_6 : decode cX8_again 6 = .ok (.aload_n 2, 1) := by decide +kernel
theorem dX8_again_7 : decode cX8_again 7 = .ok (.ifnonnull 5, 3) := by decide +kernel
theorem dX8_again_10 : decode cX8_again 10 = .ok (.iconst (-1), 1) := by decide +kernel
theorem dX8_again_11 : decode cX8_again 11 = .ok (.ireturn, 1) := by decide +kernel
theorem dX8_again_12 : decode cX8_again 12 = .ok (.aload_n 2, 1) := by decide +kernel
theorem dX8_again_13 : decode cX8_again 13 = .ok (.getfield 94, 3) := by decide +kernel
theorem dX8_again_16 : decode cX8_again 16 = .ok (.ifCond .ne 6, 3) := by decide +kernel
theorem dX8_again_19 : decode cX8_again 19 = .ok (.bipush (-3), 2) := by decide +kernel
theorem dX8_again_21 : decode cX8_again 21 = .ok (.ireturn, 1) := by decide +kernel
theorem dX8_again_22 : decode cX8_again 22 = .ok (.aload_n 0, 1) := by decide +kernel
theorem dX8_again_23 : decode cX8_again 23 = .ok (.getfield 26, 3) := by decide +kernel
theorem dX8_again_26 : decode cX8_again 26 = .ok (.aload_n 2, 1) := by decide +kernel
theorem dX8_again_27 : decode cX8_again 27 = .ok (.getfield 323, 3) := by decide +kernel
theorem dX8_again_30 : decode cX8_again 30 = .ok (.invokevirtual 234, 3) := by decide +kernel
theorem dX8_again_33 : decode cX8_again 33 = .ok (.aload_n 0, 1) := by decide +kernel
theorem dX8_again_34 : decode cX8_again 34 = .ok (.getfield 53, 3) := by decide +kernel
theorem dX8_again_37 : decode cX8_again 37 = .ok (.invokevirtual 93, 3) := by decide +kernel
theorem dX8_again_40 : decode cX8_again 40 = .ok (.aload_n 0, 1) := by decide +kernel
theorem dX8_again_41 : decode cX8_again 41 = .ok (.getfield 26, 3) := by decide +kernel
theorem dX8_again_44 : decode cX8_again 44 = .ok (.getfield 114, 3) := by decide +kernel
theorem dX8_again_47 : decode cX8_again 47 = .ok (.ireturn, 1) := by decide +kernel
theorem dX8_slotOf_0 : decode cX8_slotOf 0 = .ok (.iload_n 1, 1) := by decide +kernel
theorem dX8_slotOf_1 : decode cX8_slotOf 1 = .ok (.lookupswitch 37 #[(0, 27), (1, 32)], 27) := by decide +kernel
theorem dX8_slotOf_28 : decode cX8_slotOf 28 = .ok (.aload_n 0, 1) := by decide +kernel
theorem dX8_slotOf_29 : decode cX8_slotOf 29 = .ok (.getfield 36, 3) := by decide +kernel
theorem dX8_slotOf_32 : decode cX8_slotOf 32 = .ok (.areturn, 1) := by decide +kernel
theorem dX8_slotOf_33 : decode cX8_slotOf 33 = .ok (.aload_n 0, 1) := by decide +kernel
theorem dX8_slotOf_34 : decode cX8_slotOf 34 = .ok (.getfield 40, 3) := by decide +kernel
theorem dX8_slotOf_37 : decode cX8_slotOf 37 = .ok (.areturn, 1) := by decide +kernel
theorem dX8_slotOf_38 : decode cX8_slotOf 38 = .ok (.aconst_null, 1) := by decide +kernel
theorem dX8_slotOf_39 : decode cX8_slotOf 39 = .ok (.areturn, 1) := by decide +kernel
theorem dX9_init_0 : decode cX9_init 0 = .ok (.aload_n 0, 1) := by decide +kernel
theorem dX9_init_1 : decode cX9_init 1 = .ok (.invokespecial 1, 3) := by decide +kernel
theorem dX9_init_4 : decode cX9_init 4 = .ok (.aload_n 0, 1) := by decide +kernel
theorem dX9_init_5 : decode cX9_init 5 = .ok (.bipush 48, 2) := by decide +kernel
theorem dX9_init_7 : decode cX9_init 7 = .ok (.newarray .int, 2) := by decide +kernel
theorem dX9_init_9 : decode cX9_init 9 = .ok (.putfield 7, 3) := by decide +kernel
theorem dX9_init_12 : decode cX9_init 12 = .ok (.aload_n 0, 1) := by decide +kernel
theorem dX9_init_13 : decode cX9_init 13 = .ok (.iconst 5, 1) := by decide +kernel
theorem dX9_init_14 : decode cX9_init 14 = .ok (.newarray .int, 2) := by decide +kernel
theorem dX9_init_16 : decode cX9_init 16 = .ok (.putfield 13, 3) := by decide +kernel
theorem dX9_init_19 : decode cX9_init 19 = .ok (.aload_n 0, 1) := by decide +kernel
theorem dX9_init_20 : decode cX9_init 20 = .ok (.iconst 4, 1) := by decide +kernel
theorem dX9_init_21 : decode cX9_init 21 = .ok (.newarray .int, 2) := by decide +kernel
theorem dX9_init_23 : decode cX9_init 23 = .ok (.putfield 16, 3) := by decide +kernel
theorem dX9_init_26 : decode cX9_init 26 = .ok (.aload_n 0, 1) := by decide +kernel
theorem dX9_init_27 : decode cX9_init 27 = .ok (.iconst 4, 1) := by decide +kernel
theorem dX9_init_28 : decode cX9_init 28 = .ok (.newarray .int, 2) := by decide +kernel
theorem dX9_init_30 : decode cX9_init 30 = .ok (.putfield 19, 3) := by decide +kernel
theorem dX9_init_33 : decode cX9_init 33 = .ok (.aload_n 0, 1) := by decide +kernel
theorem dX9_init_34 : decode cX9_init 34 = .ok (.iconst 4, 1) := by decide +kernel
theorem dX9_init_35 : decode cX9_init 35 = .ok (.newarray .int, 2) := by decide +kernel
theorem dX9_init_37 : decode cX9_init 37 = .ok (.putfield 22, 3) := by decide +kernel
theorem dX9_init_40 : decode cX9_init 40 = .ok (.aload_n 0, 1) := by decide +kernel
theorem dX9_init_41 : decode cX9_init 41 = .ok (.bipush 20, 2) := by decide +kernel
theorem dX9_init_43 : decode cX9_init 43 = .ok (.newarray .int, 2) := by decide +kernel
theorem dX9_init_45 : decode cX9_init 45 = .ok (.putfield 25, 3) := by decide +kernel
theorem dX9_init_48 : decode cX9_init 48 = .ok (.aload_n 0, 1) := by decide +kernel
theorem dX9_init_49 : decode cX9_init 49 = .ok (.bipush 12, 2) := by decide +kernel
theorem dX9_init_51 : decode cX9_init 51 = .ok (.newarray .int, 2) := by decide +kernel
theorem dX9_init_53 : decode cX9_init 53 = .ok (.putfield 28, 3) := by decide +kernel
theorem dX9_init_56 : decode cX9_init 56 = .ok (.aload_n 0, 1) := by decide +kernel
theorem dX9_init_57 : decode cX9_init 57 = .ok (.bipush 17, 2) := by decide +kernel
theorem dX9_init_59 : decode cX9_init 59 = .ok (.newarray .int, 2) := by decide +kernel
theorem dX9_init_61 : decode cX9_init 61 = .ok (.putfield 31, 3) := by decide +kernel
theorem dX9_init_64 : decode cX9_init 64 = .ok (.aload_n 0, 1) := by decide +kernel
theorem dX9_init_65 : decode cX9_init 65 = .ok (.bipush 17, 2) := by decide +kernel
theorem dX9_init_67 : decode cX9_init 67 = .ok (.newarray .int, 2) := by decide +kernel
theorem dX9_init_69 : decode cX9_init 69 = .ok (.putfield 34, 3) := by decide +kernel
theorem dX9_init_72 : decode cX9_init 72 = .ok (.aload_n 0, 1) := by decide +kernel
theorem dX9_init_73 : decode cX9_init 73 = .ok (.sipush 238, 3) := by decide +kernel
theorem dX9_init_76 : decode cX9_init 76 = .ok (.newarray .int, 2) := by decide +kernel
theorem dX9_init_78 : decode cX9_init 78 = .ok (.putfield 37, 3) := by decide +kernel
theorem dX9_init_81 : decode cX9_init 81 = .ok (.aload_n 0, 1) := by decide +kernel
theorem dX9_init_82 : decode cX9_init 82 = .ok (.bipush 34, 2) := by decide +kernel
theorem dX9_init_84 : decode cX9_init 84 = .ok (.newarray .int, 2) := by decide +kernel
theorem dX9_init_86 : decode cX9_init 86 = .ok (.putfield 40, 3) := by decide +kernel
theorem dX9_init_89 : decode cX9_init 89 = .ok (.aload_n 0, 1) := by decide +kernel
theorem dX9_init_90 : decode cX9_init 90 = .ok (.iconst 2, 1) := by decide +kernel
theorem dX9_init_91 : decode cX9_init 91 = .ok (.newarray .boolean, 2) := by decide +kernel
theorem dX9_init_93 : decode cX9_init 93 = .ok (.putfield 43, 3) := by decide +kernel
theorem dX9_init_96 : decode cX9_init 96 = .ok (.aload_n 0, 1) := by decide +kernel
theorem dX9_init_97 : decode cX9_init 97 = .ok (.bipush 6, 2) := by decide +kernel
theorem dX9_init_99 : decode cX9_init 99 = .ok (.newarray .int, 2) := by decide +kernel
theorem dX9_init_101 : decode cX9_init 101 = .ok (.putfield 47, 3) := by decide +kernel
theorem dX9_init_104 : decode cX9_init 104 = .ok (.aload_n 0, 1) := by decide +kernel
theorem dX9_init_105 : decode cX9_init 105 = .ok (.bipush 6, 2) := by decide +kernel
theorem dX9_init_107 : decode cX9_init 107 = .ok (.newarray .int, 2) := by decide +kernel
theorem dX9_init_109 : decode cX9_init 109 = .ok (.putfield 50, 3) := by decide +kernel
theorem dX9_init_112 : decode cX9_init 112 = .ok (.aload_n 0, 1) := by decide +kernel
theorem dX9_init_113 : decode cX9_init 113 = .ok (.bipush 6, 2) := by decide +kernel
theorem dX9_init_115 : decode cX9_init 115 = .ok (.newarray .boolean, 2) := by decide +kernel
theorem dX9_init_117 : decode cX9_init 117 = .ok (.putfield 53, 3) := by decide +kernel
theorem dX9_init_120 : decode cX9_init 120 = .ok (.aload_n 0, 1) := by decide +kernel
theorem dX9_init_121 : decode cX9_init 121 = .ok (.bipush 32, 2) := by decide +kernel
theorem dX9_init_123 : decode cX9_init 123 = .ok (.newarray .int, 2) := by decide +kernel
theorem dX9_init_125 : decode cX9_init 125 = .ok (.putfield 56, 3) := by decide +kernel
theorem dX9_init_128 : decode cX9_init 128 = .ok (.aload_n 0, 1) := by decide +kernel
theorem dX9_init_129 : decode cX9_init 129 = .ok (.bipush 40, 2) := by decide +kernel
theorem dX9_init_131 : decode cX9_init 131 = .ok (.newarray .boolean, 2) := by decide +kernel
theorem dX9_init_133 : decode cX9_init 133 = .ok (.putfield 59, 3) := by decide +kernel
theorem dX9_init_136 : decode cX9_init 136 = .ok (.return_, 1) := by decide +kernel
theorem dX9_in_0 : decode cX9_in 0 = .ok (.lload_n 0, 1) := by decide +kernel
theorem dX9_in_1 : decode cX9_in 1 = .ok (.lload_n 2, 1) := by decide +kernel
theorem dX9_in_2 : decode cX9_in 2 = .ok (.lcmp, 1) := by decide +kernel
theorem dX9_in_3 : decode cX9_in 3 = .ok (.ifCond .lt 14, 3) := by decide +kernel
theorem dX9_in_6 : decode cX9_in 6 = .ok (.lload_n 0, 1) := by decide +kernel
theorem dX9_in_7 : decode cX9_in 7 = .ok (.lload 4, 2) := by decide +kernel
theorem dX9_in_9 : decode cX9_in 9 = .ok (.lcmp, 1) := by decide +kernel
theorem dX9_in_10 : decode cX9_in 10 = .ok (.ifCond .gt 7, 3) := by decide +kernel
theorem dX9_in_13 : decode cX9_in 13 = .ok (.iconst 1, 1) := by decide +kernel
theorem dX9_in_14 : decode cX9_in 14 = .ok (.goto 4, 3) := by decide +kernel
theorem dX9_in_17 : decode cX9_in 17 = .ok (.iconst 0, 1) := by decide +kernel
theorem dX9_in_18 : decode cX9_in 18 = .ok (.ireturn, 1) := by decide +kernel
theorem dX9_has_0 : decode cX9_has 0 = .ok (.iload_n 0, 1) := by decide +kernel
theorem dX9_has_1 : decode cX9_has 1 = .ok (.iload_n 1, 1) := by decide +kernel
theorem dX9_has_2 : decode cX9_has 2 = .ok (.ishr, 1) := by decide +kernel
theorem dX9_has_3 : decode cX9_has 3 = .ok (.iconst 1, 1) := by decide +kernel
theorem dX9_has_4 : decode cX9_has 4 = .ok (.iand, 1) := by decide +kernel
theorem dX9_has_5 : decode cX9_has 5 = .ok (.iconst 1, 1) := by decide +kernel
theorem dX9_has_6 : decode cX9_has 6 = .ok (.if_icmp .ne 7, 3) := by decide +kernel
theorem dX9_has_9 : decode cX9_has 9 = .ok (.iconst 1, 1) := by decide +kernel
theorem dX9_has_10 : decode cX9_has 10 = .ok (.goto 4, 3) := by decide +kernel
theorem dX9_has_13 : decode cX9_has 13 = .ok (.iconst 0, 1) := by decide +kernel
theorem dX9_has_14 : decode cX9_has 14 = .ok (.ireturn, 1) := by decide +kernel
theorem dX9_many_0 : decode cX9_many 0 = .ok (.iconst 0, 1) := by decide +kernel
theorem dX9_many_1 : decode cX9_many 1 = .ok (.istore_n 1, 1) := by decide +kernel
theorem dX9_many_2 : decode cX9_many 2 = .ok (.iconst 0, 1) := by decide +kernel
theorem dX9_many_3 : decode cX9_many 3 = .ok (.istore_n 2, 1) := by decide +kernel
theorem dX9_many_4 : decode cX9_many 4 = .ok (.iload_n 2, 1) := by decide +kernel
theorem dX9_many_5 : decode cX9_many 5 = .ok (.bipush 10, 2) := by decide +kernel
theorem dX9_many_7 : decode cX9_many 7 = .ok (.if_icmp .ge 17, 3) := by decide +kernel
theorem dX9_many_10 : decode cX9_many 10 = .ok (.iload_n 1, 1) := by decide +kernel
theorem dX9_many_11 : decode cX9_many 11 = .ok (.iload_n 0, 1) := by decide +kernel
theorem dX9_many_12 : decode cX9_many 12 = .ok (.iload_n 2, 1) := by decide +kernel
theorem dX9_many_13 : decode cX9_many 13 = .ok (.ishr, 1) := by decide +kernel
theorem dX9_many_14 : decode cX9_many 14 = .ok (.iconst 1, 1) := by decide +kernel
theorem dX9_many_15 : decode cX9_many 15 = .ok (.iand, 1) := by decide +kernel
theorem dX9_many_16 : decode cX9_many 16 = .ok (.iadd, 1) := by decide +kernel
theorem dX9_many_17 : decode cX9_many 17 = .ok (.istore_n 1, 1) := by decide +kernel
theorem dX9_many_18 : decode cX9_many 18 = .ok (.iinc 2 1, 3) := by decide +kernel
theorem dX9_many_21 : decode cX9_many 21 = .ok (.goto (-17), 3) := by decide +kernel
theorem dX9_many_24 : decode cX9_many 24 = .ok (.iload_n 1, 1) := by decide +kernel
theorem dX9_many_25 : decode cX9_many 25 = .ok (.ireturn, 1) := by decide +kernel
theorem dX9_far_0 : decode cX9_far 0 = .ok (.iload_n 0, 1) := by decide +kernel
theorem dX9_far_1 : decode cX9_far 1 = .ok (.iload_n 1, 1) := by decide +kernel
theorem dX9_far_2 : decode cX9_far 2 = .ok (.if_icmp .ge 9, 3) := by decide +kernel
theorem dX9_far_5 : decode cX9_far 5 = .ok (.iload_n 1, 1) := by decide +kernel
theorem dX9_far_6 : decode cX9_far 6 = .ok (.iload_n 0, 1) := by decide +kernel
theorem dX9_far_7 : decode cX9_far 7 = .ok (.isub, 1) := by decide +kernel
theorem dX9_far_8 : decode cX9_far 8 = .ok (.goto 6, 3) := by decide +kernel
theorem dX9_far_11 : decode cX9_far 11 = .ok (.iload_n 0, 1) := by decide +kernel
theorem dX9_far_12 : decode cX9_far 12 = .ok (.iload_n 1, 1) := by decide +kernel
theorem dX9_far_13 : decode cX9_far 13 = .ok (.isub, 1) := by decide +kernel
theorem dX9_far_14 : decode cX9_far 14 = .ok (.ireturn, 1) := by decide +kernel
theorem dX9_noRoof_0 : decode cX9_noRoof 0 = .ok (.iload_n 1, 1) := by decide +kernel
theorem dX9_noRoof_1 : decode cX9_noRoof 1 = .ok (.i2l, 1) := by decide +kernel
theorem dX9_noRoof_2 : decode cX9_noRoof 2 = .ok (.lconst 0, 1) := by decide +kernel
theorem dX9_noRoof_3 : decode cX9_noRoof 3 = .ok (.aload_n 0, 1) := by decide +kernel
theorem dX9_noRoof_4 : decode cX9_noRoof 4 = .ok (.getfield 66, 3) := by decide +kernel
theorem dX9_noRoof_7 : decode cX9_noRoof 7 = .ok (.iconst 1, 1) := by decide +kernel
theorem dX9_noRoof_8 : decode cX9_noRoof 8 = .ok (.isub, 1) := by decide +kernel
theorem dX9_noRoof_9 : decode cX9_noRoof 9 = .ok (.i2l, 1) := by decide +kernel
theorem dX9_noRoof_10 : decode cX9_noRoof 10 = .ok (.invokestatic 69, 3) := by decide +kernel
theorem dX9_noRoof_13 : decode cX9_noRoof 13 = .ok (.ifCond .ne 7, 3) := by decide +kernel
theorem dX9_noRoof_16 : decode cX9_noRoof 16 = .ok (.iconst 1, 1) := by decide +kernel
theorem dX9_noRoof_17 : decode cX9_noRoof 17 = .ok (.goto 4, 3) := by decide +kernel
theorem dX9_noRoof_20 : decode cX9_noRoof 20 = .ok (.iconst 0, 1) := by decide +kernel
theorem dX9_noRoof_21 : decode cX9_noRoof 21 = .ok (.ireturn, 1) := by decide +kernel
theorem dX9_noStar_0 : decode cX9_noStar 0 = .ok (.iload_n 1, 1) := by decide +kernel
theorem dX9_noStar_1 : decode cX9_noStar 1 = .ok (.i2l, 1) := by decide +kernel
theorem dX9_noStar_2 : decode cX9_noStar 2 = .ok (.lconst 0, 1) := by decide +kernel
theorem dX9_noStar_3 : decode cX9_noStar 3 = .ok (.aload_n 0, 1) := by decide +kernel
theorem dX9_noStar_4 : decode cX9_noStar 4 = .ok (.getfield 73, 3) := by decide +kernel
theorem dX9_noStar_7 : decode cX9_noStar 7 = .ok (.iconst 1, 1) := by decide +kernel
theorem dX9_noStar_8 : decode cX9_noStar 8 = .ok (.isub, 1) := by decide +kernel
theorem dX9_noStar_9 : decode cX9_noStar 9 = .ok (.i2l, 1) := by decide +kernel
theorem dX9_noStar_10 : decode cX9_noStar 10 = .ok (.invokestatic 69, 3) := by decide +kernel
theorem dX9_noStar_13 : decode cX9_noStar 13 = .ok (.ifCond .ne 7, 3) := by decide +kernel
theorem dX9_noStar_16 : decode cX9_noStar 16 = .ok (.iconst 1, 1) := by decide +kernel
theorem dX9_noStar_17 : decode cX9_noStar 17 = .ok (.goto 4, 3) := by decide +kernel
theorem dX9_noStar_20 : decode cX9_noStar 20 = .ok (.iconst 0, 1) := by decide +kernel
theorem dX9_noStar_21 : decode cX9_noStar 21 = .ok (.ireturn, 1) := by decide +kernel
theorem dX9_all_0 : decode cX9_all 0 = .ok (.iconst 1, 1) := by decide +kernel
theorem dX9_all_1 : decode cX9_all 1 = .ok (.aload_n 0, 1) := by decide +kernel
theorem dX9_all_2 : decode cX9_all 2 = .ok (.getfield 66, 3) := by decide +kernel
theorem dX9_all_5 : decode cX9_all 5 = .ok (.ishl, 1) := by decide +kernel
theorem dX9_all_6 : decode cX9_all 6 = .ok (.iconst 1, 1) := by decide +kernel
theorem dX9_all_7 : decode cX9_all 7 = .ok (.isub, 1) := by decide +kernel
theorem dX9_all_8 : decode cX9_all 8 = .ok (.ireturn, 1) := by decide +kernel
theorem dX9_write_0 : decode cX9_write 0 = .ok (.aload_n 0, 1) := by decide +kernel
theorem dX9_write_1 : decode cX9_write 1 = .ok (.iconst 0, 1) := by decide +kernel
theorem dX9_write_2 : decode cX9_write 2 = .ok (.putfield 62, 3) := by decide +kernel
theorem dX9_write_5 : decode cX9_write 5 = .ok (.iload_n 1, 1) := by decide +kernel
theorem dX9_write_6 : decode cX9_write 6 = .ok (.i2l, 1) := by decide +kernel
theorem dX9_write_7 : decode cX9_write 7 = .ok (.lconst 0, 1) := by decide +kernel
theorem dX9_write_8 : decode cX9_write 8 = .ok (.ldc2_w 76, 3) := by decide +kernel
theorem dX9_write_11 : decode cX9_write 11 = .ok (.invokestatic 69, 3) := by decide +kernel
theorem dX9_write_14 : decode cX9_write 14 = .ok (.ifCond .ne 6, 3) := by decide +kernel
theorem dX9_write_17 : decode cX9_write 17 = .ok (.bipush (-2), 2) := by decide +kernel
theorem dX9_write_19 : decode cX9_write 19 = .ok (.ireturn, 1) := by decide +kernel
theorem dX9_write_20 : decode cX9_write 20 = .ok (.aload_n 0, 1) := by decide +kernel
theorem dX9_write_21 : decode cX9_write 21 = .ok (.getfield 78, 3) := by decide +kernel
theorem dX9_write_24 : decode cX9_write 24 = .ok (.bipush 48, 2) := by decide +kernel
theorem dX9_write_26 : decode cX9_write 26 = .ok (.if_icmp .ne 6, 3) := by decide +kernel
theorem dX9_write_29 : decode cX9_write 29 = .ok (.bipush (-4), 2) := by decide +kernel
theorem dX9_write_31 : decode cX9_write 31 = .ok (.ireturn, 1) := by decide +kernel
theorem dX9_write_32 : decode cX9_write 32 = .ok (.aload_n 0, 1) := by decide +kernel
theorem dX9_write_33 : decode cX9_write 33 = .ok (.getfield 7, 3) := by decide +kernel
theorem dX9_write_36 : decode cX9_write 36 = .ok (.aload_n 0, 1) := by decide +kernel
theorem dX9_write_37 : decode cX9_write 37 = .ok (.getfield 78, 3) := by decide +kernel
theorem dX9_write_40 : decode cX9_write 40 = .ok (.iload_n 1, 1) := by decide +kernel
theorem dX9_write_41 : decode cX9_write 41 = .ok (.iastore, 1) := by decide +kernel
theorem dX9_write_42 : decode cX9_write 42 = .ok (.aload_n 0, 1) := by decide +kernel
theorem dX9_write_43 : decode cX9_write 43 = .ok (.dup, 1) := by decide +kernel
theorem dX9_write_44 : decode cX9_write 44 = .ok (.getfield 78, 3) := by decide +kernel
theorem dX9_write_47 : decode cX9_write 47 = .ok (.iconst 1, 1) := by decide +kernel
theorem dX9_write_48 : decode cX9_write 48 = .ok (.iadd, 1) := by decide +kernel
theorem dX9_write_49 : decode cX9_write 49 = .ok (.putfield 78, 3) := by decide +kernel
theorem dX9_write_52 : decode cX9_write 52 = .ok (.aload_n 0, 1) := by decide +kernel
theorem dX9_write_53 : decode cX9_write 53 = .ok (.getfield 78, 3) := by decide +kernel
theorem dX9_write_56 : decode cX9_write 56 = .ok (.ireturn, 1) := by decide +kernel
theorem dX9_wipe_0 : decode cX9_wipe 0 = .ok (.aload_n 0, 1) := by decide +kernel
theorem dX9_wipe_1 : decode cX9_wipe 1 = .ok (.iconst 0, 1) := by decide +kernel
theorem dX9_wipe_2 : decode cX9_wipe 2 = .ok (.putfield 62, 3) := by decide +kernel
theorem dX9_wipe_5 : decode cX9_wipe 5 = .ok (.aload_n 0, 1) := by decide +kernel
theorem dX9_wipe_6 : decode cX9_wipe 6 = .ok (.getfield 78, 3) := by decide +kernel
theorem dX9_wipe_9 : decode cX9_wipe 9 = .ok (.istore_n 1, 1) := by decide +kernel
theorem dX9_wipe_10 : decode cX9_wipe 10 = .ok (.aload_n 0, 1) := by decide +kernel
theorem dX9_wipe_11 : decode cX9_wipe 11 = .ok (.iconst 0, 1) := by decide +kernel
theorem dX9_wipe_12 : decode cX9_wipe 12 = .ok (.putfield 78, 3) := by decide +kernel
theorem dX9_wipe_15 : decode cX9_wipe 15 = .ok (.iload_n 1, 1) := by decide +kernel
theorem dX9_wipe_16 : decode cX9_wipe 16 = .ok (.ireturn, 1) := by decide +kernel
theorem dX9_figure_0 : decode cX9_figure 0 = .ok (.aload_n 0, 1) := by decide +kernel
theorem dX9_figure_1 : decode cX9_figure 1 = .ok (.getfield 81, 3) := by decide +kernel
theorem dX9_figure_4 : decode cX9_figure 4 = .ok (.aload_n 0, 1) := by decide +kernel
theorem dX9_figure_5 : decode cX9_figure 5 = .ok (.getfield 78, 3) := by decide +kernel
theorem dX9_figure_8 : decode cX9_figure 8 = .ok (.if_icmp .eq 26, 3) := by decide +kernel
theorem dX9_figure_11 : decode cX9_figure 11 = .ok (.aload_n 0, 1) := by decide +kernel
theorem dX9_figure_12 : decode cX9_figure 12 = .ok (.getfield 7, 3) := by decide +kernel
theorem dX9_figure_15 : decode cX9_figure 15 = .ok (.aload_n 0, 1) := by decide +kernel
theorem dX9_figure_16 : decode cX9_figure 16 = .ok (.getfield 81, 3) := by decide +kernel
theorem dX9_figure_19 : decode cX9_figure 19 = .ok (.iaload, 1) := by decide +kernel
theorem dX9_figure_20 : decode cX9_figure 20 = .ok (.bipush 48, 2) := by decide +kernel
theorem dX9_figure_22 : decode cX9_figure 22 = .ok (.isub, 1) := by decide +kernel
theorem dX9_figure_23 : decode cX9_figure 23 = .ok (.i2l, 1) := by decide +kernel
theorem dX9_figure_24 : decode cX9_figure 24 = .ok (.iload_n 1, 1) := by decide +kernel
theorem dX9_figure_25 : decode cX9_figure 25 = .ok (.i2l, 1) := by decide +kernel
theorem dX9_figure_26 : decode cX9_figure 26 = .ok (.iload_n 2, 1) := by decide +kernel
theorem dX9_figure_27 : decode cX9_figure 27 = .ok (.i2l, 1) := by decide +kernel
theorem dX9_figure_28 : decode cX9_figure 28 = .ok (.invokestatic 69, 3) := by decide +kernel
theorem dX9_figure_31 : decode cX9_figure 31 = .ok (.ifCond .ne 6, 3) := by decide +kernel
theorem dX9_figure_34 : decode cX9_figure 34 = .ok (.bipush (-9), 2) := by decide +kernel
theorem dX9_figure_36 : decode cX9_figure 36 = .ok (.ireturn, 1) := by decide +kernel
theorem dX9_figure_37 : decode cX9_figure 37 = .ok (.aload_n 0, 1) := by decide +kernel
theorem dX9_figure_38 : decode cX9_figure 38 = .ok (.dup, 1) := by decide +kernel
theorem dX9_figure_39 : decode cX9_figure 39 = .ok (.getfield 81, 3) := by decide +kernel
theorem dX9_figure_42 : decode cX9_figure 42 = .ok (.iconst 1, 1) := by decide +kernel
theorem dX9_figure_43 : decode cX9_figure 43 = .ok (.iadd, 1) := by decide +kernel
theorem dX9_figure_44 : decode cX9_figure 44 = .ok (.putfield 81, 3) := by decide +kernel
theorem dX9_figure_47 : decode cX9_figure 47 = .ok (.aload_n 0, 1) := by decide +kernel
theorem dX9_figure_48 : decode cX9_figure 48 = .ok (.getfield 7, 3) := by decide +kernel
theorem dX9_figure_51 : decode cX9_figure 51 = .ok (.aload_n 0, 1) := by decide +kernel
theorem dX9_figure_52 : decode cX9_figure 52 = .ok (.getfield 81, 3) := by decide +kernel
theorem dX9_figure_55 : decode cX9_figure 55 = .ok (.iconst 1, 1) := by decide +kernel
theorem dX9_figure_56 : decode cX9_figure 56 = .ok (.isub, 1) := by decide +kernel
theorem dX9_figure_57 : decode cX9_figure 57 = .ok (.iaload, 1) := by decide +kernel
theorem dX9_figure_58 : decode cX9_figure 58 = .ok (.bipush 48, 2) := by decide +kernel
theorem dX9_figure_60 : decode cX9_figure 60 = .ok (.isub, 1) := by decide +kernel
theorem dX9_figure_61 : decode cX9_figure 61 = .ok (.ireturn, 1) := by decide +kernel
theorem dX9_isTaken_0 : decode cX9_isTaken 0 = .ok (.iconst 0, 1) := by decide +kernel
theorem dX9_isTaken_1 : decode cX9_isTaken 1 = .ok (.istore_n 2, 1) := by decide +kernel
theorem dX9_isTaken_2 : decode cX9_isTaken 2 = .ok (.iconst 0, 1) := by decide +kernel
theorem dX9_isTaken_3 : decode cX9_isTaken 3 = .ok (.istore_n 3, 1) := by decide +kernel
theorem dX9_isTaken_4 : decode cX9_isTaken 4 = .ok (.iload_n 3, 1) := by decide +kernel
theorem dX9_isTaken_5 : decode cX9_isTaken 5 = .ok (.aload_n 0, 1) := by decide +kernel
theorem dX9_isTaken_6 : decode cX9_isTaken 6 = .ok (.getfield 84, 3) := by decide +kernel
theorem dX9_isTaken_9 : decode cX9_isTaken 9 = .ok (.if_icmp .ge 31, 3) := by decide +kernel
theorem dX9_isTaken_12 : decode cX9_isTaken 12 = .ok (.iload_n 2, 1) := by decide +kernel
theorem dX9_isTaken_13 : decode cX9_isTaken 13 = .ok (.ifCond .ne 15, 3) := by decide +kernel
theorem dX9_isTaken_16 : decode cX9_isTaken 16 = .ok (.aload_n 0, 1) := by decide +kernel
theorem dX9_isTaken_17 : decode cX9_isTaken 17 = .ok (.getfield 25, 3) := by decide +kernel
theorem dX9_isTaken_20 : decode cX9_isTaken 20 = .ok (.iconst 4, 1) := by decide +kernel
theorem dX9_isTaken_21 : decode cX9_isTaken 21 = .ok (.iload_n 3, 1) := by decide +kernel
theorem dX9_isTaken_22 : decode cX9_isTaken 22 = .ok (.imul, 1) := by decide +kernel
theorem dX9_isTaken_23 : decode cX9_isTaken 23 = .ok (.iaload, 1) := by decide +kernel
theorem dX9_isTaken_24 : decode cX9_isTaken 24 = .ok (.iload_n 1, 1) := by decide +kernel
theorem dX9_isTaken_25 : decode cX9_isTaken 25 = .ok (.if_icmp .ne 7, 3) := by decide +kernel
theorem dX9_isTaken_28 : decode cX9_isTaken 28 = .ok (.iconst 1, 1) := by decide +kernel
theorem dX9_isTaken_29 : decode cX9_isTaken 29 = .ok (.goto 4, 3) := by decide +kernel
theorem dX9_isTaken_32 : decode cX9_isTaken 32 = .ok (.iconst 0, 1) := by decide +kernel
theorem dX9_isTaken_33 : decode cX9_isTaken 33 = .ok (.istore_n 2, 1) := by decide +kernel
theorem dX9_isTaken_34 : decode cX9_isTaken 34 = .ok (.iinc 3 1, 3) := by decide +kernel
theorem dX9_isTaken_37 : decode cX9_isTaken 37 = .ok (.goto (-33), 3) := by decide +kernel
theorem dX9_isTaken_40 : decode cX9_isTaken 40 = .ok (.iload_n 2, 1) := by decide +kernel
theorem dX9_isTaken_41 : decode cX9_isTaken 41 = .ok (.ireturn, 1) := by decide +kernel
theorem dX9_readRoof_0 : decode cX9_readRoof 0 = .ok (.aload_n 0, 1) := by decide +kernel
theorem dX9_readRoof_1 : decode cX9_readRoof 1 = .ok (.getfield 81, 3) := by decide +kernel
theorem dX9_readRoof_4 : decode cX9_readRoof 4 = .ok (.aload_n 0, 1) := by decide +kernel
theorem dX9_readRoof_5 : decode cX9_readRoof 5 = .ok (.getfield 78, 3) := by decide +kernel
theorem dX9_readRoof_8 : decode cX9_readRoof 8 = .ok (.if_icmp .ge 24, 3) := by decide +kernel
theorem dX9_readRoof_11 : decode cX9_readRoof 11 = .ok (.aload_n 0, 1) := by decide +kernel
theorem dX9_readRoof_12 : decode cX9_readRoof 12 = .ok (.aload_n 0, 1) := by decide +kernel
theorem dX9_readRoof_13 : decode cX9_readRoof 13 = .ok (.getfield 7, 3) := by decide +kernel
theorem dX9_readRoof_16 : decode cX9_readRoof 16 = .ok (.aload_n 0, 1) := by decide +kernel
theorem dX9_readRoof_17 : decode cX9_readRoof 17 = .ok (.getfield 81, 3) := by decide +kernel
theorem dX9_readRoof_20 : decode cX9_readRoof 20 = .ok (.iaload, 1) := by decide +kernel
theorem dX9_readRoof_21 : decode cX9_readRoof 21 = .ok (.bipush 48, 2) := by decide +kernel
theorem dX9_readRoof_23 : decode cX9_readRoof 23 = .ok (.isub, 1) := by decide +kernel
theorem dX9_readRoof_24 : decode cX9_readRoof 24 = .ok (.invokevirtual 87, 3) := by decide +kernel
theorem dX9_readRoof_27 : decode cX9_readRoof 27 = .ok (.ifCond .eq 5, 3) := by decide +kernel
theorem dX9_readRoof_30 : decode cX9_readRoof 30 = .ok (.iconst 0, 1) := by decide +kernel
theorem dX9_readRoof_31 : decode cX9_readRoof 31 = .ok (.ireturn, 1) := by decide +kernel
theorem dX9_readRoof_32 : decode cX9_readRoof 32 = .ok (.iconst 0, 1) := by decide +kernel
theorem dX9_readRoof_33 : decode cX9_readRoof 33 = .ok (.istore_n 1, 1) := by decide +kernel
theorem dX9_readRoof_34 : decode cX9_readRoof 34 = .ok (.iload_n 1, 1) := by decide +kernel
theorem dX9_readRoof_35 : decode cX9_readRoof 35 = .ok (.iconst 4, 1) := by decide +kernel
theorem dX9_readRoof_36 : decode cX9_readRoof 36 = .ok (.if_icmp .ge 57, 3) := by decide +kernel
theorem dX9_readRoof_39 : decode cX9_readRoof 39 = .ok (.aload_n 0, 1) := by decide +kernel
theorem dX9_readRoof_40 : decode cX9_readRoof 40 = .ok (.iconst 0, 1) := by decide +kernel
theorem dX9_readRoof_41 : decode cX9_readRoof 41 = .ok (.iload_n 1, 1) := by decide +kernel
theorem dX9_readRoof_42 : decode cX9_readRoof 42 = .ok (.iconst 2, 1) := by decide +kernel
theorem dX9_readRoof_43 : decode cX9_readRoof 43 = .ok (.if_icmp .ge 8, 3) := by decide +kernel
theorem dX9_readRoof_46 : decode cX9_readRoof 46 = .ok (.bipush 9, 2) := by decide +kernel
theorem dX9_readRoof_48 : decode cX9_readRoof 48 = .ok (.goto 13, 3) := by decide +kernel
theorem dX9_readRoof_51 : decode cX9_readRoof 51 = .ok (.iload_n 1, 1) := by decide +kernel
theorem dX9_readRoof_52 : decode cX9_readRoof 52 = .ok (.iconst 2, 1) := by decide +kernel
theorem dX9_readRoof_53 : decode cX9_readRoof 53 = .ok (.if_icmp .ne 7, 3) := by decide +kernel
theorem dX9_readRoof_56 : decode cX9_readRoof 56 = .ok (.iconst 1, 1) := by decide +kernel
theorem dX9_readRoof_57 : decode cX9_readRoof 57 = .ok (.goto 4, 3) := by decide +kernel
theorem dX9_readRoof_60 : decode cX9_readRoof 60 = .ok (.iconst 3, 1) := by decide +kernel
theorem dX9_readRoof_61 : decode cX9_readRoof 61 = .ok (.invokevirtual 91, 3) := by decide +kernel
theorem dX9_readRoof_64 : decode cX9_readRoof 64 = .ok (.istore_n 2, 1) := by decide +kernel
theorem dX9_readRoof_65 : decode cX9_readRoof 65 = .ok (.iload_n 2, 1) := by decide +kernel
theorem dX9_readRoof_66 : decode cX9_readRoof 66 = .ok (.bipush (-9), 2) := by decide +kernel
theorem dX9_readRoof_68 : decode cX9_readRoof 68 = .ok (.if_icmp .ne 5, 3) := by decide +kernel
theorem dX9_readRoof_71 : decode cX9_readRoof 71 = .ok (.iconst 0, 1) := by decide +kernel
theorem dX9_readRoof_72 : decode cX9_readRoof 72 = .ok (.ireturn, 1) := by decide +kernel
theorem dX9_readRoof_73 : decode cX9_readRoof 73 = .ok (.aload_n 0, 1) := by decide +kernel
theorem dX9_readRoof_74 : decode cX9_readRoof 74 = .ok (.getfield 25, 3) := by decide +kernel
theorem dX9_readRoof_77 : decode cX9_readRoof 77 = .ok (.iconst 4, 1) := by decide +kernel
theorem dX9_readRoof_78 : decode cX9_readRoof 78 = .ok (.aload_n 0, 1) := by decide +kernel
theorem dX9_readRoof_79 : decode cX9_readRoof 79 = .ok (.getfield 84, 3) := by decide +kernel
theorem dX9_readRoof_82 : decode cX9_readRoof 82 = .ok (.imul, 1) := by decide +kernel
theorem dX9_readRoof_83 : decode cX9_readRoof 83 = .ok (.iload_n 1, 1) := by decide +kernel
theorem dX9_readRoof_84 : decode cX9_readRoof 84 = .ok (.iadd, 1) := by decide +kernel
theorem dX9_readRoof_85 : decode cX9_readRoof 85 = .ok (.iload_n 2, 1) := by decide +kernel
theorem dX9_readRoof_86 : decode cX9_readRoof 86 = .ok (.iastore, 1) := by decide +kernel
theorem dX9_readRoof_87 : decode cX9_readRoof 87 = .ok (.iinc 1 1, 3) := by decide +kernel
theorem dX9_readRoof_90 : decode cX9_readRoof 90 = .ok (.goto (-56), 3) := by decide +kernel
theorem dX9_readRoof_93 : decode cX9_readRoof 93 = .ok (.aload_n 0, 1) := by decide +kernel
theorem dX9_readRoof_94 : decode cX9_readRoof 94 = .ok (.dup, 1) := by decide +kernel
theorem dX9_readRoof_95 : decode cX9_readRoof 95 = .ok (.getfield 84, 3) := by decide +kernel
theorem dX9_readRoof_98 : decode cX9_readRoof 98 = .ok (.iconst 1, 1) := by decide +kernel
theorem dX9_readRoof_99 : decode cX9_readRoof 99 = .ok (.iadd, 1) := by decide +kernel
theorem dX9_readRoof_100 : decode cX9_readRoof 100 = .ok (.putfield 84, 3) := by decide +kernel
theorem dX9_readRoof_103 : decode cX9_readRoof 103 = .ok (.iconst 1, 1) := by decide +kernel
theorem dX9_readRoof_104 : decode cX9_readRoof 104 = .ok (.ireturn, 1) := by decide +kernel
theorem dX9_readStar_0 : decode cX9_readStar 0 = .ok (.iconst 0, 1) := by decide +kernel
theorem dX9_readStar_1 : decode cX9_readStar 1 = .ok (.istore_n 1, 1) := by decide +kernel
theorem dX9_readStar_2 : decode cX9_readStar 2 = .ok (.iload_n 1, 1) := by decide +kernel
theorem dX9_readStar_3 : decode cX9_readStar 3 = .ok (.iconst 3, 1) := by decide +kernel
theorem dX9_readStar_4 : decode cX9_readStar 4 = .ok (.if_icmp .ge 67, 3) := by decide +kernel
theorem dX9_readStar_7 : decode cX9_readStar 7 = .ok (.iload_n 1, 1) := by decide +kernel
theorem dX9_readStar_8 : decode cX9_readStar 8 = .ok (.ifCond .ne 13, 3) := by decide +kernel
theorem dX9_readStar_11 : decode cX9_readStar 11 = .ok (.aload_n 0, 1) := by decide +kernel
theorem dX9_readStar_12 : decode cX9_readStar 12 = .ok (.iconst 0, 1) := by decide +kernel
theorem dX9_readStar_13 : decode cX9_readStar 13 = .ok (.bipush 9, 2) := by decide +kernel
theorem dX9_readStar_15 : decode cX9_readStar 15 = .ok (.invokevirtual 91, 3) := by decide +kernel
theorem dX9_readStar_18 : decode cX9_readStar 18 = .ok (.goto 24, 3) := by decide +kernel
theorem dX9_readStar_21 : decode cX9_readStar 21 = .ok (.iload_n 1, 1) := by decide +kernel
theorem dX9_readStar_22 : decode cX9_readStar 22 = .ok (.iconst 1, 1) := by decide +kernel
theorem dX9_readStar_23 : decode cX9_readStar 23 = .ok (.if_icmp .ne 12, 3) := by decide +kernel
theorem dX9_readStar_26 : decode cX9_readStar 26 = .ok (.aload_n 0, 1) := by decide +kernel
theorem dX9_readStar_27 : decode cX9_readStar 27 = .ok (.iconst 0, 1) := by decide +kernel
theorem dX9_readStar_28 : decode cX9_readStar 28 = .ok (.iconst 3, 1) := by decide +kernel
theorem dX9_readStar_29 : decode cX9_readStar 29 = .ok (.invokevirtual 91, 3) := by decide +kernel
theorem dX9_readStar_32 : decode cX9_readStar 32 = .ok (.goto 10, 3) := by decide +kernel
theorem dX9_readStar_35 : decode cX9_readStar 35 = .ok (.aload_n 0, 1) := by decide +kernel
theorem dX9_readStar_36 : decode cX9_readStar 36 = .ok (.iconst 1, 1) := by decide +kernel
theorem dX9_readStar_37 : decode cX9_readStar 37 = .ok (.bipush 9, 2) := by decide +kernel
theorem dX9_readStar_39 : decode cX9_readStar 39 = .ok (.invokevirtual 91, 3) := by decide +kernel
theorem dX9_readStar_42 : decode cX9_readStar 42 = .ok (.istore_n 2, 1) := by decide +kernel
theorem dX9_readStar_43 : decode cX9_readStar 43 = .ok (.iload_n 2, 1) := by decide +kernel
theorem dX9_readStar_44 : decode cX9_readStar 44 = .ok (.bipush (-9), 2) := by decide +kernel
theorem dX9_readStar_46 : decode cX9_readStar 46 = .ok (.if_icmp .ne 5, 3) := by decide +kernel
theorem dX9_readStar_49 : decode cX9_readStar 49 = .ok (.iconst 0, 1) := by decide +kernel
theorem dX9_readStar_50 : decode cX9_readStar 50 = .ok (.ireturn, 1) := by decide +kernel
theorem dX9_readStar_51 : decode cX9_readStar 51 = .ok (.aload_n 0, 1) := by decide +kernel
theorem dX9_readStar_52 : decode cX9_readStar 52 = .ok (.getfield 28, 3) := by decide +kernel
theorem dX9_readStar_55 : decode cX9_readStar 55 = .ok (.iconst 3, 1) := by decide +kernel
theorem dX9_readStar_56 : decode cX9_readStar 56 = .ok (.aload_n 0, 1) := by decide +kernel
theorem dX9_readStar_57 : decode cX9_readStar 57 = .ok (.getfield 95, 3) := by decide +kernel
theorem dX9_readStar_60 : decode cX9_readStar 60 = .ok (.imul, 1) := by decide +kernel
theorem dX9_readStar_61 : decode cX9_readStar 61 = .ok (.iload_n 1, 1) := by decide +kernel
theorem dX9_readStar_62 : decode cX9_readStar 62 = .ok (.iadd, 1) := by decide +kernel
theorem dX9_readStar_63 : decode cX9_readStar 63 = .ok (.iload_n 2, 1) := by decide +kernel
theorem dX9_readStar_64 : decode cX9_readStar 64 = .ok (.iastore, 1) := by decide +kernel
theorem dX9_readStar_65 : decode cX9_readStar 65 = .ok (.iinc 1 1, 3) := by decide +kernel
theorem dX9_readStar_68 : decode cX9_readStar 68 = .ok (.goto (-66), 3) := by decide +kernel
theorem dX9_readStar_71 : decode cX9_readStar 71 = .ok (.aload_n 0, 1) := by decide +kernel
theorem dX9_readStar_72 : decode cX9_readStar 72 = .ok (.dup, 1) := by decide +kernel
theorem dX9_readStar_73 : decode cX9_readStar 73 = .ok (.getfield 95, 3) := by decide +kernel
theorem dX9_readStar_76 : decode cX9_readStar 76 = .ok (.iconst 1, 1) := by decide +kernel
theorem dX9_readStar_77 : decode cX9_readStar 77 = .ok (.iadd, 1) := by decide +kernel
theorem dX9_readStar_78 : decode cX9_readStar 78 = .ok (.putfield 95, 3) := by decide +kernel
theorem dX9_readStar_81 : decode cX9_readStar 81 = .ok (.iconst 1, 1) := by decide +kernel
theorem dX9_readStar_82 : decode cX9_readStar 82 = .ok (.ireturn, 1) := by decide +kernel
theorem dX9_readPart_0 : decode cX9_readPart 0 = .ok (.aload_n 0, 1) := by decide +kernel
theorem dX9_readPart_1 : decode cX9_readPart 1 = .ok (.getfield 7, 3) := by decide +kernel
theorem dX9_readPart_4 : decode cX9_readPart 4 = .ok (.aload_n 0, 1) := by decide +kernel
theorem dX9_readPart_5 : decode cX9_readPart 5 = .ok (.getfield 81, 3) := by decide +kernel
theorem dX9_readPart_8 : decode cX9_readPart 8 = .ok (.iaload, 1) := by decide +kernel
theorem dX9_readPart_9 : decode cX9_readPart 9 = .ok (.istore_n 1, 1) := by decide +kernel
theorem dX9_readPart_10 : decode cX9_readPart 10 = .ok (.aload_n 0, 1) := by decide +kernel
theorem dX9_readPart_11 : decode cX9_readPart 11 = .ok (.dup, 1) := by decide +kernel
theorem dX9_readPart_12 : decode cX9_readPart 12 = .ok (.getfield 81, 3) := by decide +kernel
theorem dX9_readPart_15 : decode cX9_readPart 15 = .ok (.iconst 1, 1) := by decide +kernel
