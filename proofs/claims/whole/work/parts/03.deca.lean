theorem dX0_init_0 : decode cX0_init 0 = .ok (.aload_n 0, 1) := by decide +kernel
theorem dX0_init_1 : decode cX0_init 1 = .ok (.invokespecial 1, 3) := by decide +kernel
theorem dX0_init_4 : decode cX0_init 4 = .ok (.aload_n 0, 1) := by decide +kernel
theorem dX0_init_5 : decode cX0_init 5 = .ok (.iconst 0, 1) := by decide +kernel
theorem dX0_init_6 : decode cX0_init 6 = .ok (.putfield 7, 3) := by decide +kernel
theorem dX0_init_9 : decode cX0_init 9 = .ok (.aload_n 0, 1) := by decide +kernel
theorem dX0_init_10 : decode cX0_init 10 = .ok (.lconst 0, 1) := by decide +kernel
theorem dX0_init_11 : decode cX0_init 11 = .ok (.putfield 13, 3) := by decide +kernel
theorem dX0_init_14 : decode cX0_init 14 = .ok (.aload_n 0, 1) := by decide +kernel
theorem dX0_init_15 : decode cX0_init 15 = .ok (.new 17, 3) := by decide +kernel
theorem dX0_init_18 : decode cX0_init 18 = .ok (.dup, 1) := by decide +kernel
theorem dX0_init_19 : decode cX0_init 19 = .ok (.aload_n 1, 1) := by decide +kernel
theorem dX0_init_20 : decode cX0_init 20 = .ok (.invokespecial 19, 3) := by decide +kernel
theorem dX0_init_23 : decode cX0_init 23 = .ok (.putfield 22, 3) := by decide +kernel
theorem dX0_init_26 : decode cX0_init 26 = .ok (.return_, 1) := by decide +kernel
theorem dX1_init_0 : decode cX1_init 0 = .ok (.aload_n 0, 1) := by decide +kernel
theorem dX1_init_1 : decode cX1_init 1 = .ok (.invokespecial 3, 3) := by decide +kernel
theorem dX1_init_4 : decode cX1_init 4 = .ok (.aload_n 0, 1) := by decide +kernel
theorem dX1_init_5 : decode cX1_init 5 = .ok (.iconst 0, 1) := by decide +kernel
theorem dX1_init_6 : decode cX1_init 6 = .ok (.putfield 9, 3) := by decide +kernel
theorem dX1_init_9 : decode cX1_init 9 = .ok (.iload_n 1, 1) := by decide +kernel
theorem dX1_init_10 : decode cX1_init 10 = .ok (.iconst 1, 1) := by decide +kernel
theorem dX1_init_11 : decode cX1_init 11 = .ok (.invokestatic 15, 3) := by decide +kernel
theorem dX1_init_14 : decode cX1_init 14 = .ok (.istore_n 2, 1) := by decide +kernel
theorem dX1_init_15 : decode cX1_init 15 = .ok (.aload_n 0, 1) := by decide +kernel
theorem dX1_init_16 : decode cX1_init 16 = .ok (.iload_n 2, 1) := by decide +kernel
theorem dX1_init_17 : decode cX1_init 17 = .ok (.newarray .int, 2) := by decide +kernel
theorem dX1_init_19 : decode cX1_init 19 = .ok (.putfield 21, 3) := by decide +kernel
theorem dX1_init_22 : decode cX1_init 22 = .ok (.aload_n 0, 1) := by decide +kernel
theorem dX1_init_23 : decode cX1_init 23 = .ok (.iload_n 2, 1) := by decide +kernel
theorem dX1_init_24 : decode cX1_init 24 = .ok (.newarray .int, 2) := by decide +kernel
theorem dX1_init_26 : decode cX1_init 26 = .ok (.putfield 25, 3) := by decide +kernel
theorem dX1_init_29 : decode cX1_init 29 = .ok (.aload_n 0, 1) := by decide +kernel
theorem dX1_init_30 : decode cX1_init 30 = .ok (.iload_n 2, 1) := by decide +kernel
theorem dX1_init_31 : decode cX1_init 31 = .ok (.newarray .int, 2) := by decide +kernel
theorem dX1_init_33 : decode cX1_init 33 = .ok (.putfield 28, 3) := by decide +kernel
theorem dX1_init_36 : decode cX1_init 36 = .ok (.return_, 1) := by decide +kernel
theorem dX1_isFull_0 : decode cX1_isFull 0 = .ok (.aload_n 0, 1) := by decide +kernel
theorem dX1_isFull_1 : decode cX1_isFull 1 = .ok (.getfield 9, 3) := by decide +kernel
theorem dX1_isFull_4 : decode cX1_isFull 4 = .ok (.aload_n 0, 1) := by decide +kernel
theorem dX1_isFull_5 : decode cX1_isFull 5 = .ok (.getfield 21, 3) := by decide +kernel
theorem dX1_isFull_8 : decode cX1_isFull 8 = .ok (.arraylength, 1) := by decide +kernel
theorem dX1_isFull_9 : decode cX1_isFull 9 = .ok (.if_icmp .lt 7, 3) := by decide +kernel
theorem dX1_isFull_12 : decode cX1_isFull 12 = .ok (.iconst 1, 1) := by decide +kernel
theorem dX1_isFull_13 : decode cX1_isFull 13 = .ok (.goto 4, 3) := by decide +kernel
theorem dX1_isFull_16 : decode cX1_isFull 16 = .ok (.iconst 0, 1) := by decide +kernel
theorem dX1_isFull_17 : decode cX1_isFull 17 = .ok (.ireturn, 1) := by decide +kernel
theorem dX1_add_0 : decode cX1_add 0 = .ok (.aload_n 0, 1) := by decide +kernel
theorem dX1_add_1 : decode cX1_add 1 = .ok (.invokevirtual 31, 3) := by decide +kernel
theorem dX1_add_4 : decode cX1_add 4 = .ok (.ifCond .eq 4, 3) := by decide +kernel
theorem dX1_add_7 : decode cX1_add 7 = .ok (.return_, 1) := by decide +kernel
theorem dX1_add_8 : decode cX1_add 8 = .ok (.aload_n 0, 1) := by decide +kernel
theorem dX1_add_9 : decode cX1_add 9 = .ok (.getfield 21, 3) := by decide +kernel
theorem dX1_add_12 : decode cX1_add 12 = .ok (.aload_n 0, 1) := by decide +kernel
theorem dX1_add_13 : decode cX1_add 13 = .ok (.getfield 9, 3) := by decide +kernel
theorem dX1_add_16 : decode cX1_add 16 = .ok (.iload_n 1, 1) := by decide +kernel
theorem dX1_add_17 : decode cX1_add 17 = .ok (.iastore, 1) := by decide +kernel
theorem dX1_add_18 : decode cX1_add 18 = .ok (.aload_n 0, 1) := by decide +kernel
theorem dX1_add_19 : decode cX1_add 19 = .ok (.getfield 25, 3) := by decide +kernel
theorem dX1_add_22 : decode cX1_add 22 = .ok (.aload_n 0, 1) := by decide +kernel
theorem dX1_add_23 : decode cX1_add 23 = .ok (.getfield 9, 3) := by decide +kernel
theorem dX1_add_26 : decode cX1_add 26 = .ok (.iload_n 2, 1) := by decide +kernel
theorem dX1_add_27 : decode cX1_add 27 = .ok (.iastore, 1) := by decide +kernel
theorem dX1_add_28 : decode cX1_add 28 = .ok (.aload_n 0, 1) := by decide +kernel
theorem dX1_add_29 : decode cX1_add 29 = .ok (.getfield 28, 3) := by decide +kernel
theorem dX1_add_32 : decode cX1_add 32 = .ok (.aload_n 0, 1) := by decide +kernel
theorem dX1_add_33 : decode cX1_add 33 = .ok (.getfield 9, 3) := by decide +kernel
theorem dX1_add_36 : decode cX1_add 36 = .ok (.iconst 0, 1) := by decide +kernel
theorem dX1_add_37 : decode cX1_add 37 = .ok (.iastore, 1) := by decide +kernel
theorem dX1_add_38 : decode cX1_add 38 = .ok (.iconst 0, 1) := by decide +kernel
theorem dX1_add_39 : decode cX1_add 39 = .ok (.istore_n 3, 1) := by decide +kernel
theorem dX1_add_40 : decode cX1_add 40 = .ok (.iload_n 3, 1) := by decide +kernel
theorem dX1_add_41 : decode cX1_add 41 = .ok (.aload_n 0, 1) := by decide +kernel
theorem dX1_add_42 : decode cX1_add 42 = .ok (.getfield 9, 3) := by decide +kernel
theorem dX1_add_45 : decode cX1_add 45 = .ok (.if_icmp .ge 34, 3) := by decide +kernel
theorem dX1_add_48 : decode cX1_add 48 = .ok (.aload_n 0, 1) := by decide +kernel
theorem dX1_add_49 : decode cX1_add 49 = .ok (.iload_n 3, 1) := by decide +kernel
theorem dX1_add_50 : decode cX1_add 50 = .ok (.iload_n 1, 1) := by decide +kernel
theorem dX1_add_51 : decode cX1_add 51 = .ok (.invokevirtual 35, 3) := by decide +kernel
theorem dX1_add_54 : decode cX1_add 54 = .ok (.iload_n 2, 1) := by decide +kernel
theorem dX1_add_55 : decode cX1_add 55 = .ok (.if_icmp .ne 18, 3) := by decide +kernel
theorem dX1_add_58 : decode cX1_add 58 = .ok (.aload_n 0, 1) := by decide +kernel
theorem dX1_add_59 : decode cX1_add 59 = .ok (.getfield 28, 3) := by decide +kernel
theorem dX1_add_62 : decode cX1_add 62 = .ok (.aload_n 0, 1) := by decide +kernel
theorem dX1_add_63 : decode cX1_add 63 = .ok (.getfield 9, 3) := by decide +kernel
theorem dX1_add_66 : decode cX1_add 66 = .ok (.dup2, 1) := by decide +kernel
theorem dX1_add_67 : decode cX1_add 67 = .ok (.iaload, 1) := by decide +kernel
theorem dX1_add_68 : decode cX1_add 68 = .ok (.iconst 1, 1) := by decide +kernel
theorem dX1_add_69 : decode cX1_add 69 = .ok (.iload_n 3, 1) := by decide +kernel
theorem dX1_add_70 : decode cX1_add 70 = .ok (.ishl, 1) := by decide +kernel
theorem dX1_add_71 : decode cX1_add 71 = .ok (.ior, 1) := by decide +kernel
theorem dX1_add_72 : decode cX1_add 72 = .ok (.iastore, 1) := by decide +kernel
theorem dX1_add_73 : decode cX1_add 73 = .ok (.iinc 3 1, 3) := by decide +kernel
theorem dX1_add_76 : decode cX1_add 76 = .ok (.goto (-36), 3) := by decide +kernel
theorem dX1_add_79 : decode cX1_add 79 = .ok (.aload_n 0, 1) := by decide +kernel
theorem dX1_add_80 : decode cX1_add 80 = .ok (.dup, 1) := by decide +kernel
theorem dX1_add_81 : decode cX1_add 81 = .ok (.getfield 9, 3) := by decide +kernel
theorem dX1_add_84 : decode cX1_add 84 = .ok (.iconst 1, 1) := by decide +kernel
theorem dX1_add_85 : decode cX1_add 85 = .ok (.iadd, 1) := by decide +kernel
theorem dX1_add_86 : decode cX1_add 86 = .ok (.putfield 9, 3) := by decide +kernel
theorem dX1_add_89 : decode cX1_add 89 = .ok (.return_, 1) := by decide +kernel
theorem dX1_across_0 : decode cX1_across 0 = .ok (.aload_n 0, 1) := by decide +kernel
theorem dX1_across_1 : decode cX1_across 1 = .ok (.getfield 21, 3) := by decide +kernel
theorem dX1_across_4 : decode cX1_across 4 = .ok (.iload_n 1, 1) := by decide +kernel
theorem dX1_across_5 : decode cX1_across 5 = .ok (.iaload, 1) := by decide +kernel
theorem dX1_across_6 : decode cX1_across 6 = .ok (.iload_n 2, 1) := by decide +kernel
theorem dX1_across_7 : decode cX1_across 7 = .ok (.if_icmp .ne 10, 3) := by decide +kernel
theorem dX1_across_10 : decode cX1_across 10 = .ok (.aload_n 0, 1) := by decide +kernel
theorem dX1_across_11 : decode cX1_across 11 = .ok (.getfield 25, 3) := by decide +kernel
theorem dX1_across_14 : decode cX1_across 14 = .ok (.iload_n 1, 1) := by decide +kernel
theorem dX1_across_15 : decode cX1_across 15 = .ok (.iaload, 1) := by decide +kernel
theorem dX1_across_16 : decode cX1_across 16 = .ok (.ireturn, 1) := by decide +kernel
theorem dX1_across_17 : decode cX1_across 17 = .ok (.aload_n 0, 1) := by decide +kernel
theorem dX1_across_18 : decode cX1_across 18 = .ok (.getfield 25, 3) := by decide +kernel
theorem dX1_across_21 : decode cX1_across 21 = .ok (.iload_n 1, 1) := by decide +kernel
theorem dX1_across_22 : decode cX1_across 22 = .ok (.iaload, 1) := by decide +kernel
theorem dX1_across_23 : decode cX1_across 23 = .ok (.iload_n 2, 1) := by decide +kernel
theorem dX1_across_24 : decode cX1_across 24 = .ok (.if_icmp .ne 12, 3) := by decide +kernel
theorem dX1_across_27 : decode cX1_across 27 = .ok (.aload_n 0, 1) := by decide +kernel
theorem dX1_across_28 : decode cX1_across 28 = .ok (.getfield 21, 3) := by decide +kernel
theorem dX1_across_31 : decode cX1_across 31 = .ok (.iload_n 1, 1) := by decide +kernel
theorem dX1_across_32 : decode cX1_across 32 = .ok (.iaload, 1) := by decide +kernel
theorem dX1_across_33 : decode cX1_across 33 = .ok (.goto 4, 3) := by decide +kernel
theorem dX1_across_36 : decode cX1_across 36 = .ok (.iconst (-1), 1) := by decide +kernel
theorem dX1_across_37 : decode cX1_across 37 = .ok (.ireturn, 1) := by decide +kernel
theorem dX1_isFirstOpen_0 : decode cX1_isFirstOpen 0 = .ok (.aload_n 2, 1) := by decide +kernel
theorem dX1_isFirstOpen_1 : decode cX1_isFirstOpen 1 = .ok (.iload_n 1, 1) := by decide +kernel
theorem dX1_isFirstOpen_2 : decode cX1_isFirstOpen 2 = .ok (.iaload, 1) := by decide +kernel
theorem dX1_isFirstOpen_3 : decode cX1_isFirstOpen 3 = .ok (.ifCond .gt 5, 3) := by decide +kernel
theorem dX1_isFirstOpen_6 : decode cX1_isFirstOpen 6 = .ok (.iconst 0, 1) := by decide +kernel
theorem dX1_isFirstOpen_7 : decode cX1_isFirstOpen 7 = .ok (.ireturn, 1) := by decide +kernel
theorem dX1_isFirstOpen_8 : decode cX1_isFirstOpen 8 = .ok (.aload_n 0, 1) := by decide +kernel
theorem dX1_isFirstOpen_9 : decode cX1_isFirstOpen 9 = .ok (.getfield 28, 3) := by decide +kernel
theorem dX1_isFirstOpen_12 : decode cX1_isFirstOpen 12 = .ok (.iload_n 1, 1) := by decide +kernel
theorem dX1_isFirstOpen_13 : decode cX1_isFirstOpen 13 = .ok (.iaload, 1) := by decide +kernel
theorem dX1_isFirstOpen_14 : decode cX1_isFirstOpen 14 = .ok (.ifCond .ne 5, 3) := by decide +kernel
theorem dX1_isFirstOpen_17 : decode cX1_isFirstOpen 17 = .ok (.iconst 1, 1) := by decide +kernel
theorem dX1_isFirstOpen_18 : decode cX1_isFirstOpen 18 = .ok (.ireturn, 1) := by decide +kernel
theorem dX1_isFirstOpen_19 : decode cX1_isFirstOpen 19 = .ok (.iconst 0, 1) := by decide +kernel
theorem dX1_isFirstOpen_20 : decode cX1_isFirstOpen 20 = .ok (.istore_n 3, 1) := by decide +kernel
theorem dX1_isFirstOpen_21 : decode cX1_isFirstOpen 21 = .ok (.iload_n 3, 1) := by decide +kernel
theorem dX1_isFirstOpen_22 : decode cX1_isFirstOpen 22 = .ok (.iload_n 1, 1) := by decide +kernel
theorem dX1_isFirstOpen_23 : decode cX1_isFirstOpen 23 = .ok (.if_icmp .ge 30, 3) := by decide +kernel
theorem dX1_isFirstOpen_26 : decode cX1_isFirstOpen 26 = .ok (.aload_n 0, 1) := by decide +kernel
theorem dX1_isFirstOpen_27 : decode cX1_isFirstOpen 27 = .ok (.getfield 28, 3) := by decide +kernel
theorem dX1_isFirstOpen_30 : decode cX1_isFirstOpen 30 = .ok (.iload_n 1, 1) := by decide +kernel
theorem dX1_isFirstOpen_31 : decode cX1_isFirstOpen 31 = .ok (.iaload, 1) := by decide +kernel
theorem dX1_isFirstOpen_32 : decode cX1_isFirstOpen 32 = .ok (.iload_n 3, 1) := by decide +kernel
theorem dX1_isFirstOpen_33 : decode cX1_isFirstOpen 33 = .ok (.ishr, 1) := by decide +kernel
theorem dX1_isFirstOpen_34 : decode cX1_isFirstOpen 34 = .ok (.iconst 1, 1) := by decide +kernel
theorem dX1_isFirstOpen_35 : decode cX1_isFirstOpen 35 = .ok (.iand, 1) := by decide +kernel
theorem dX1_isFirstOpen_36 : decode cX1_isFirstOpen 36 = .ok (.ifCond .eq 11, 3) := by decide +kernel
theorem dX1_isFirstOpen_39 : decode cX1_isFirstOpen 39 = .ok (.aload_n 2, 1) := by decide +kernel
theorem dX1_isFirstOpen_40 : decode cX1_isFirstOpen 40 = .ok (.iload_n 3, 1) := by decide +kernel
theorem dX1_isFirstOpen_41 : decode cX1_isFirstOpen 41 = .ok (.iaload, 1) := by decide +kernel
theorem dX1_isFirstOpen_42 : decode cX1_isFirstOpen 42 = .ok (.ifCond .le 5, 3) := by decide +kernel
theorem dX1_isFirstOpen_45 : decode cX1_isFirstOpen 45 = .ok (.iconst 0, 1) := by decide +kernel
theorem dX1_isFirstOpen_46 : decode cX1_isFirstOpen 46 = .ok (.ireturn, 1) := by decide +kernel
theorem dX1_isFirstOpen_47 : decode cX1_isFirstOpen 47 = .ok (.iinc 3 1, 3) := by decide +kernel
theorem dX1_isFirstOpen_50 : decode cX1_isFirstOpen 50 = .ok (.goto (-29), 3) := by decide +kernel
theorem dX1_isFirstOpen_53 : decode cX1_isFirstOpen 53 = .ok (.iconst 1, 1) := by decide +kernel
theorem dX1_isFirstOpen_54 : decode cX1_isFirstOpen 54 = .ok (.ireturn, 1) := by decide +kernel
theorem dX2_init_0 : decode cX2_init 0 = .ok (.aload_n 0, 1) := by decide +kernel
theorem dX2_init_1 : decode cX2_init 1 = .ok (.invokespecial 3, 3) := by decide +kernel
theorem dX2_init_4 : decode cX2_init 4 = .ok (.aload_n 0, 1) := by decide +kernel
theorem dX2_init_5 : decode cX2_init 5 = .ok (.bipush 9, 2) := by decide +kernel
theorem dX2_init_7 : decode cX2_init 7 = .ok (.newarray .int, 2) := by decide +kernel
theorem dX2_init_9 : decode cX2_init 9 = .ok (.putfield 9, 3) := by decide +kernel
theorem dX2_init_12 : decode cX2_init 12 = .ok (.aload_n 0, 1) := by decide +kernel
theorem dX2_init_13 : decode cX2_init 13 = .ok (.bipush 48, 2) := by decide +kernel
theorem dX2_init_15 : decode cX2_init 15 = .ok (.newarray .int, 2) := by decide +kernel
theorem dX2_init_17 : decode cX2_init 17 = .ok (.putfield 15, 3) := by decide +kernel
theorem dX2_init_20 : decode cX2_init 20 = .ok (.aload_n 0, 1) := by decide +kernel
theorem dX2_init_21 : decode cX2_init 21 = .ok (.bipush 56, 2) := by decide +kernel
theorem dX2_init_23 : decode cX2_init 23 = .ok (.newarray .int, 2) := by decide +kernel
theorem dX2_init_25 : decode cX2_init 25 = .ok (.putfield 18, 3) := by decide +kernel
theorem dX2_init_28 : decode cX2_init 28 = .ok (.aload_n 0, 1) := by decide +kernel
theorem dX2_init_29 : decode cX2_init 29 = .ok (.bipush 6, 2) := by decide +kernel
theorem dX2_init_31 : decode cX2_init 31 = .ok (.newarray .int, 2) := by decide +kernel
theorem dX2_init_33 : decode cX2_init 33 = .ok (.putfield 21, 3) := by decide +kernel
theorem dX2_init_36 : decode cX2_init 36 = .ok (.aload_n 0, 1) := by decide +kernel
theorem dX2_init_37 : decode cX2_init 37 = .ok (.bipush 6, 2) := by decide +kernel
theorem dX2_init_39 : decode cX2_init 39 = .ok (.newarray .int, 2) := by decide +kernel
theorem dX2_init_41 : decode cX2_init 41 = .ok (.putfield 24, 3) := by decide +kernel
theorem dX2_init_44 : decode cX2_init 44 = .ok (.aload_n 0, 1) := by decide +kernel
theorem dX2_init_45 : decode cX2_init 45 = .ok (.iconst 0, 1) := by decide +kernel
theorem dX2_init_46 : decode cX2_init 46 = .ok (.putfield 27, 3) := by decide +kernel
theorem dX2_init_49 : decode cX2_init 49 = .ok (.aload_n 0, 1) := by decide +kernel
theorem dX2_init_50 : decode cX2_init 50 = .ok (.iconst 0, 1) := by decide +kernel
theorem dX2_init_51 : decode cX2_init 51 = .ok (.putfield 31, 3) := by decide +kernel
theorem dX2_init_54 : decode cX2_init 54 = .ok (.aload_n 0, 1) := by decide +kernel
theorem dX2_init_55 : decode cX2_init 55 = .ok (.iconst 0, 1) := by decide +kernel
theorem dX2_init_56 : decode cX2_init 56 = .ok (.putfield 34, 3) := by decide +kernel
theorem dX2_init_59 : decode cX2_init 59 = .ok (.aload_n 0, 1) := by decide +kernel
theorem dX2_init_60 : decode cX2_init 60 = .ok (.iconst (-1), 1) := by decide +kernel
theorem dX2_init_61 : decode cX2_init 61 = .ok (.putfield 37, 3) := by decide +kernel
theorem dX2_init_64 : decode cX2_init 64 = .ok (.aload_n 0, 1) := by decide +kernel
theorem dX2_init_65 : decode cX2_init 65 = .ok (.aload_n 1, 1) := by decide +kernel
theorem dX2_init_66 : decode cX2_init 66 = .ok (.putfield 40, 3) := by decide +kernel
theorem dX2_init_69 : decode cX2_init 69 = .ok (.return_, 1) := by decide +kernel
theorem dX2_prepare_0 : decode cX2_prepare 0 = .ok (.aload_n 0, 1) := by decide +kernel
theorem dX2_prepare_1 : decode cX2_prepare 1 = .ok (.aload_n 1, 1) := by decide +kernel
theorem dX2_prepare_2 : decode cX2_prepare 2 = .ok (.getfield 44, 3) := by decide +kernel
theorem dX2_prepare_5 : decode cX2_prepare 5 = .ok (.putfield 40, 3) := by decide +kernel
theorem dX2_prepare_8 : decode cX2_prepare 8 = .ok (.aload_n 0, 1) := by decide +kernel
theorem dX2_prepare_9 : decode cX2_prepare 9 = .ok (.iload_n 3, 1) := by decide +kernel
theorem dX2_prepare_10 : decode cX2_prepare 10 = .ok (.putfield 27, 3) := by decide +kernel
theorem dX2_prepare_13 : decode cX2_prepare 13 = .ok (.aload_n 0, 1) := by decide +kernel
theorem dX2_prepare_14 : decode cX2_prepare 14 = .ok (.aload_n 1, 1) := by decide +kernel
theorem dX2_prepare_15 : decode cX2_prepare 15 = .ok (.getfield 47, 3) := by decide +kernel
theorem dX2_prepare_18 : decode cX2_prepare 18 = .ok (.iload_n 2, 1) := by decide +kernel
theorem dX2_prepare_19 : decode cX2_prepare 19 = .ok (.iaload, 1) := by decide +kernel
theorem dX2_prepare_20 : decode cX2_prepare 20 = .ok (.putfield 31, 3) := by decide +kernel
theorem dX2_prepare_23 : decode cX2_prepare 23 = .ok (.aload_n 0, 1) := by decide +kernel
theorem dX2_prepare_24 : decode cX2_prepare 24 = .ok (.aload_n 0, 1) := by decide +kernel
theorem dX2_prepare_25 : decode cX2_prepare 25 = .ok (.getfield 40, 3) := by decide +kernel
theorem dX2_prepare_28 : decode cX2_prepare 28 = .ok (.getfield 50, 3) := by decide +kernel
theorem dX2_prepare_31 : decode cX2_prepare 31 = .ok (.iload_n 2, 1) := by decide +kernel
theorem dX2_prepare_32 : decode cX2_prepare 32 = .ok (.iaload, 1) := by decide +kernel
theorem dX2_prepare_33 : decode cX2_prepare 33 = .ok (.putfield 34, 3) := by decide +kernel
theorem dX2_prepare_36 : decode cX2_prepare 36 = .ok (.aload_n 1, 1) := by decide +kernel
theorem dX2_prepare_37 : decode cX2_prepare 37 = .ok (.iload_n 2, 1) := by decide +kernel
theorem dX2_prepare_38 : decode cX2_prepare 38 = .ok (.aload_n 0, 1) := by decide +kernel
theorem dX2_prepare_39 : decode cX2_prepare 39 = .ok (.getfield 9, 3) := by decide +kernel
theorem dX2_prepare_42 : decode cX2_prepare 42 = .ok (.invokevirtual 55, 3) := by decide +kernel
theorem dX2_prepare_45 : decode cX2_prepare 45 = .ok (.aload_n 0, 1) := by decide +kernel
theorem dX2_prepare_46 : decode cX2_prepare 46 = .ok (.getfield 15, 3) := by decide +kernel
theorem dX2_prepare_49 : decode cX2_prepare 49 = .ok (.iconst 0, 1) := by decide +kernel
theorem dX2_prepare_50 : decode cX2_prepare 50 = .ok (.invokestatic 59, 3) := by decide +kernel
theorem dX2_prepare_53 : decode cX2_prepare 53 = .ok (.iconst 0, 1) := by decide +kernel
theorem dX2_prepare_54 : decode cX2_prepare 54 = .ok (.istore 4, 2) := by decide +kernel
theorem dX2_prepare_56 : decode cX2_prepare 56 = .ok (.iload 4, 2) := by decide +kernel
theorem dX2_prepare_58 : decode cX2_prepare 58 = .ok (.aload_n 0, 1) := by decide +kernel
theorem dX2_prepare_59 : decode cX2_prepare 59 = .ok (.getfield 40, 3) := by decide +kernel
theorem dX2_prepare_62 : decode cX2_prepare 62 = .ok (.getfield 65, 3) := by decide +kernel
theorem dX2_prepare_65 : decode cX2_prepare 65 = .ok (.if_icmp .ge 85, 3) := by decide +kernel
theorem dX2_prepare_68 : decode cX2_prepare 68 = .ok (.aload_n 0, 1) := by decide +kernel
theorem dX2_prepare_69 : decode cX2_prepare 69 = .ok (.getfield 40, 3) := by decide +kernel
theorem dX2_prepare_72 : decode cX2_prepare 72 = .ok (.getfield 68, 3) := by decide +kernel
theorem dX2_prepare_75 : decode cX2_prepare 75 = .ok (.iload 4, 2) := by decide +kernel
theorem dX2_prepare_77 : decode cX2_prepare 77 = .ok (.iaload, 1) := by decide +kernel
theorem dX2_prepare_78 : decode cX2_prepare 78 = .ok (.aload_n 1, 1) := by decide +kernel
theorem dX2_prepare_79 : decode cX2_prepare 79 = .ok (.getfield 71, 3) := by decide +kernel
theorem dX2_prepare_82 : decode cX2_prepare 82 = .ok (.isub, 1) := by decide +kernel
theorem dX2_prepare_83 : decode cX2_prepare 83 = .ok (.istore 5, 2) := by decide +kernel
theorem dX2_prepare_85 : decode cX2_prepare 85 = .ok (.aload_n 0, 1) := by decide +kernel
theorem dX2_prepare_86 : decode cX2_prepare 86 = .ok (.getfield 40, 3) := by decide +kernel
theorem dX2_prepare_89 : decode cX2_prepare 89 = .ok (.getfield 74, 3) := by decide +kernel
theorem dX2_prepare_92 : decode cX2_prepare 92 = .ok (.iload 4, 2) := by decide +kernel
theorem dX2_prepare_94 : decode cX2_prepare 94 = .ok (.iaload, 1) := by decide +kernel
theorem dX2_prepare_95 : decode cX2_prepare 95 = .ok (.iload_n 2, 1) := by decide +kernel
theorem dX2_prepare_96 : decode cX2_prepare 96 = .ok (.if_icmp .ne 48, 3) := by decide +kernel
theorem dX2_prepare_99 : decode cX2_prepare 99 = .ok (.iload 5, 2) := by decide +kernel
theorem dX2_prepare_101 : decode cX2_prepare 101 = .ok (.ifCond .lt 43, 3) := by decide +kernel
theorem dX2_prepare_104 : decode cX2_prepare 104 = .ok (.iload 5, 2) := by decide +kernel
theorem dX2_prepare_106 : decode cX2_prepare 106 = .ok (.iload_n 3, 1) := by decide +kernel
theorem dX2_prepare_107 : decode cX2_prepare 107 = .ok (.if_icmp .ge 37, 3) := by decide +kernel
theorem dX2_prepare_110 : decode cX2_prepare 110 = .ok (.aload_n 0, 1) := by decide +kernel
theorem dX2_prepare_111 : decode cX2_prepare 111 = .ok (.getfield 15, 3) := by decide +kernel
theorem dX2_prepare_114 : decode cX2_prepare 114 = .ok (.iload 5, 2) := by decide +kernel
theorem dX2_prepare_116 : decode cX2_prepare 116 = .ok (.bipush 8, 2) := by decide +kernel
theorem dX2_prepare_118 : decode cX2_prepare 118 = .ok (.imul, 1) := by decide +kernel
theorem dX2_prepare_119 : decode cX2_prepare 119 = .ok (.aload_n 0, 1) := by decide +kernel
theorem dX2_prepare_120 : decode cX2_prepare 120 = .ok (.getfield 40, 3) := by decide +kernel
theorem dX2_prepare_123 : decode cX2_prepare 123 = .ok (.getfield 77, 3) := by decide +kernel
theorem dX2_prepare_126 : decode cX2_prepare 126 = .ok (.iload 4, 2) := by decide +kernel
theorem dX2_prepare_128 : decode cX2_prepare 128 = .ok (.iaload, 1) := by decide +kernel
theorem dX2_prepare_129 : decode cX2_prepare 129 = .ok (.iadd, 1) := by decide +kernel
theorem dX2_prepare_130 : decode cX2_prepare 130 = .ok (.dup2, 1) := by decide +kernel
theorem dX2_prepare_131 : decode cX2_prepare 131 = .ok (.iaload, 1) := by decide +kernel
theorem dX2_prepare_132 : decode cX2_prepare 132 = .ok (.aload_n 0, 1) := by decide +kernel
theorem dX2_prepare_133 : decode cX2_prepare 133 = .ok (.getfield 40, 3) := by decide +kernel
theorem dX2_prepare_136 : decode cX2_prepare 136 = .ok (.getfield 80, 3) := by decide +kernel
theorem dX2_prepare_139 : decode cX2_prepare 139 = .ok (.iload 4, 2) := by decide +kernel
theorem dX2_prepare_141 : decode cX2_prepare 141 = .ok (.iaload, 1) := by decide +kernel
theorem dX2_prepare_142 : decode cX2_prepare 142 = .ok (.iadd, 1) := by decide +kernel
theorem dX2_prepare_143 : decode cX2_prepare 143 = .ok (.iastore, 1) := by decide +kernel
theorem dX2_prepare_144 : decode cX2_prepare 144 = .ok (.iinc 4 1, 3) := by decide +kernel
theorem dX2_prepare_147 : decode cX2_prepare 147 = .ok (.goto (-91), 3) := by decide +kernel
theorem dX2_prepare_150 : decode cX2_prepare 150 = .ok (.return_, 1) := by decide +kernel
theorem dX2_giveMore_0 : decode cX2_giveMore 0 = .ok (.iconst 0, 1) := by decide +kernel
theorem dX2_giveMore_1 : decode cX2_giveMore 1 = .ok (.istore_n 2, 1) := by decide +kernel
theorem dX2_giveMore_2 : decode cX2_giveMore 2 = .ok (.iload_n 2, 1) := by decide +kernel
theorem dX2_giveMore_3 : decode cX2_giveMore 3 = .ok (.aload_n 0, 1) := by decide +kernel
theorem dX2_giveMore_4 : decode cX2_giveMore 4 = .ok (.getfield 40, 3) := by decide +kernel
theorem dX2_giveMore_7 : decode cX2_giveMore 7 = .ok (.getfield 83, 3) := by decide +kernel
theorem dX2_giveMore_10 : decode cX2_giveMore 10 = .ok (.getfield 87, 3) := by decide +kernel
theorem dX2_giveMore_13 : decode cX2_giveMore 13 = .ok (.if_icmp .ge 23, 3) := by decide +kernel
theorem dX2_giveMore_16 : decode cX2_giveMore 16 = .ok (.aload_n 0, 1) := by decide +kernel
theorem dX2_giveMore_17 : decode cX2_giveMore 17 = .ok (.getfield 9, 3) := by decide +kernel
theorem dX2_giveMore_20 : decode cX2_giveMore 20 = .ok (.iload_n 2, 1) := by decide +kernel
theorem dX2_giveMore_21 : decode cX2_giveMore 21 = .ok (.dup2, 1) := by decide +kernel
theorem dX2_giveMore_22 : decode cX2_giveMore 22 = .ok (.iaload, 1) := by decide +kernel
theorem dX2_giveMore_23 : decode cX2_giveMore 23 = .ok (.iload_n 1, 1) := by decide +kernel
theorem dX2_giveMore_24 : decode cX2_giveMore 24 = .ok (.iload_n 2, 1) := by decide +kernel
theorem dX2_giveMore_25 : decode cX2_giveMore 25 = .ok (.ishr, 1) := by decide +kernel
theorem dX2_giveMore_26 : decode cX2_giveMore 26 = .ok (.iconst 1, 1) := by decide +kernel
theorem dX2_giveMore_27 : decode cX2_giveMore 27 = .ok (.iand, 1) := by decide +kernel
theorem dX2_giveMore_28 : decode cX2_giveMore 28 = .ok (.iadd, 1) := by decide +kernel
theorem dX2_giveMore_29 : decode cX2_giveMore 29 = .ok (.iastore, 1) := by decide +kernel
theorem dX2_giveMore_30 : decode cX2_giveMore 30 = .ok (.iinc 2 1, 3) := by decide +kernel
theorem dX2_giveMore_33 : decode cX2_giveMore 33 = .ok (.goto (-31), 3) := by decide +kernel
theorem dX2_giveMore_36 : decode cX2_giveMore 36 = .ok (.return_, 1) := by decide +kernel
theorem dX2_solve_0 : decode cX2_solve 0 = .ok (.aload_n 0, 1) := by decide +kernel
theorem dX2_solve_1 : decode cX2_solve 1 = .ok (.invokevirtual 92, 3) := by decide +kernel
theorem dX2_solve_4 : decode cX2_solve 4 = .ok (.aload_n 0, 1) := by decide +kernel
theorem dX2_solve_5 : decode cX2_solve 5 = .ok (.iconst (-1), 1) := by decide +kernel
theorem dX2_solve_6 : decode cX2_solve 6 = .ok (.putfield 37, 3) := by decide +kernel
theorem dX2_solve_9 : decode cX2_solve 9 = .ok (.aload_n 0, 1) := by decide +kernel
theorem dX2_solve_10 : decode cX2_solve 10 = .ok (.getfield 18, 3) := by decide +kernel
theorem dX2_solve_13 : decode cX2_solve 13 = .ok (.aload_n 0, 1) := by decide +kernel
theorem dX2_solve_14 : decode cX2_solve 14 = .ok (.getfield 31, 3) := by decide +kernel
theorem dX2_solve_17 : decode cX2_solve 17 = .ok (.iaload, 1) := by decide +kernel
theorem dX2_solve_18 : decode cX2_solve 18 = .ok (.iconst (-1), 1) := by decide +kernel
theorem dX2_solve_19 : decode cX2_solve 19 = .ok (.if_icmp .eq 13, 3) := by decide +kernel
theorem dX2_solve_22 : decode cX2_solve 22 = .ok (.aload_n 0, 1) := by decide +kernel
theorem dX2_solve_23 : decode cX2_solve 23 = .ok (.iconst 0, 1) := by decide +kernel
theorem dX2_solve_24 : decode cX2_solve 24 = .ok (.aload_n 0, 1) := by decide +kernel
theorem dX2_solve_25 : decode cX2_solve 25 = .ok (.getfield 31, 3) := by decide +kernel
theorem dX2_solve_28 : decode cX2_solve 28 = .ok (.iconst 0, 1) := by decide +kernel
theorem dX2_solve_29 : decode cX2_solve 29 = .ok (.invokevirtual 95, 3) := by decide +kernel
theorem dX2_solve_32 : decode cX2_solve 32 = .ok (.return_, 1) := by decide +kernel
theorem dX2_findBounds_0 : decode cX2_findBounds 0 = .ok (.iconst 0, 1) := by decide +kernel
theorem dX2_findBounds_1 : decode cX2_findBounds 1 = .ok (.istore_n 1, 1) := by decide +kernel
theorem dX2_findBounds_2 : decode cX2_findBounds 2 = .ok (.iload_n 1, 1) := by decide +kernel
theorem dX2_findBounds_3 : decode cX2_findBounds 3 = .ok (.aload_n 0, 1) := by decide +kernel
theorem dX2_findBounds_4 : decode cX2_findBounds 4 = .ok (.getfield 40, 3) := by decide +kernel
theorem dX2_findBounds_7 : decode cX2_findBounds 7 = .ok (.getfield 99, 3) := by decide +kernel
theorem dX2_findBounds_10 : decode cX2_findBounds 10 = .ok (.if_icmp .ge 36, 3) := by decide +kernel
theorem dX2_findBounds_13 : decode cX2_findBounds 13 = .ok (.aload_n 0, 1) := by decide +kernel
theorem dX2_findBounds_14 : decode cX2_findBounds 14 = .ok (.getfield 18, 3) := by decide +kernel
theorem dX2_findBounds_17 : decode cX2_findBounds 17 = .ok (.aload_n 0, 1) := by decide +kernel
theorem dX2_findBounds_18 : decode cX2_findBounds 18 = .ok (.getfield 27, 3) := by decide +kernel
theorem dX2_findBounds_21 : decode cX2_findBounds 21 = .ok (.bipush 8, 2) := by decide +kernel
theorem dX2_findBounds_23 : decode cX2_findBounds 23 = .ok (.imul, 1) := by decide +kernel
theorem dX2_findBounds_24 : decode cX2_findBounds 24 = .ok (.iload_n 1, 1) := by decide +kernel
theorem dX2_findBounds_25 : decode cX2_findBounds 25 = .ok (.iadd, 1) := by decide +kernel
theorem dX2_findBounds_26 : decode cX2_findBounds 26 = .ok (.iload_n 1, 1) := by decide +kernel
theorem dX2_findBounds_27 : decode cX2_findBounds 27 = .ok (.aload_n 0, 1) := by decide +kernel
theorem dX2_findBounds_28 : decode cX2_findBounds 28 = .ok (.getfield 34, 3) := by decide +kernel
theorem dX2_findBounds_31 : decode cX2_findBounds 31 = .ok (.if_icmp .ne 7, 3) := by decide +kernel
theorem dX2_findBounds_34 : decode cX2_findBounds 34 = .ok (.iconst 0, 1) := by decide +kernel
theorem dX2_findBounds_35 : decode cX2_findBounds 35 = .ok (.goto 4, 3) := by decide +kernel
theorem dX2_findBounds_38 : decode cX2_findBounds 38 = .ok (.iconst (-1), 1) := by decide +kernel
theorem dX2_findBounds_39 : decode cX2_findBounds 39 = .ok (.iastore, 1) := by decide +kernel
theorem dX2_findBounds_40 : decode cX2_findBounds 40 = .ok (.iinc 1 1, 3) := by decide +kernel
theorem dX2_findBounds_43 : decode cX2_findBounds 43 = .ok (.goto (-41), 3) := by decide +kernel
theorem dX2_findBounds_46 : decode cX2_findBounds 46 = .ok (.aload_n 0, 1) := by decide +kernel
theorem dX2_findBounds_47 : decode cX2_findBounds 47 = .ok (.getfield 27, 3) := by decide +kernel
theorem dX2_findBounds_50 : decode cX2_findBounds 50 = .ok (.iconst 1, 1) := by decide +kernel
theorem dX2_findBounds_51 : decode cX2_findBounds 51 = .ok (.isub, 1) := by decide +kernel
theorem dX2_findBounds_52 : decode cX2_findBounds 52 = .ok (.istore_n 1, 1) := by decide +kernel
theorem dX2_findBounds_53 : decode cX2_findBounds 53 = .ok (.iload_n 1, 1) := by decide +kernel
theorem dX2_findBounds_54 : decode cX2_findBounds 54 = .ok (.ifCond .lt 114, 3) := by decide +kernel
theorem dX2_findBounds_57 : decode cX2_findBounds 57 = .ok (.iconst 0, 1) := by decide +kernel
theorem dX2_findBounds_58 : decode cX2_findBounds 58 = .ok (.istore_n 2, 1) := by decide +kernel
theorem dX2_findBounds_59 : decode cX2_findBounds 59 = .ok (.iload_n 2, 1) := by decide +kernel
theorem dX2_findBounds_60 : decode cX2_findBounds 60 = .ok (.aload_n 0, 1) := by decide +kernel
theorem dX2_findBounds_61 : decode cX2_findBounds 61 = .ok (.getfield 40, 3) := by decide +kernel
theorem dX2_findBounds_64 : decode cX2_findBounds 64 = .ok (.getfield 99, 3) := by decide +kernel
theorem dX2_findBounds_67 : decode cX2_findBounds 67 = .ok (.if_icmp .ge 95, 3) := by decide +kernel
theorem dX2_findBounds_70 : decode cX2_findBounds 70 = .ok (.aload_n 0, 1) := by decide +kernel
theorem dX2_findBounds_71 : decode cX2_findBounds 71 = .ok (.iload_n 1, 1) := by decide +kernel
theorem dX2_findBounds_72 : decode cX2_findBounds 72 = .ok (.iload_n 2, 1) := by decide +kernel
theorem dX2_findBounds_73 : decode cX2_findBounds 73 = .ok (.invokevirtual 102, 3) := by decide +kernel
theorem dX2_findBounds_76 : decode cX2_findBounds 76 = .ok (.istore_n 3, 1) := by decide +kernel
theorem dX2_findBounds_77 : decode cX2_findBounds 77 = .ok (.iconst 0, 1) := by decide +kernel
theorem dX2_findBounds_78 : decode cX2_findBounds 78 = .ok (.istore 4, 2) := by decide +kernel
theorem dX2_findBounds_80 : decode cX2_findBounds 80 = .ok (.iload 4, 2) := by decide +kernel
theorem dX2_findBounds_82 : decode cX2_findBounds 82 = .ok (.aload_n 0, 1) := by decide +kernel
theorem dX2_findBounds_83 : decode cX2_findBounds 83 = .ok (.getfield 40, 3) := by decide +kernel
theorem dX2_findBounds_86 : decode cX2_findBounds 86 = .ok (.getfield 83, 3) := by decide +kernel
theorem dX2_findBounds_89 : decode cX2_findBounds 89 = .ok (.getfield 87, 3) := by decide +kernel
theorem dX2_findBounds_92 : decode cX2_findBounds 92 = .ok (.if_icmp .ge 52, 3) := by decide +kernel
theorem dX2_findBounds_95 : decode cX2_findBounds 95 = .ok (.aload_n 0, 1) := by decide +kernel
theorem dX2_findBounds_96 : decode cX2_findBounds 96 = .ok (.getfield 40, 3) := by decide +kernel
theorem dX2_findBounds_99 : decode cX2_findBounds 99 = .ok (.getfield 83, 3) := by decide +kernel
theorem dX2_findBounds_102 : decode cX2_findBounds 102 = .ok (.iload 4, 2) := by decide +kernel
theorem dX2_findBounds_104 : decode cX2_findBounds 104 = .ok (.iload_n 2, 1) := by decide +kernel
theorem dX2_findBounds_105 : decode cX2_findBounds 105 = .ok (.invokevirtual 106, 3) := by decide +kernel
theorem dX2_findBounds_108 : decode cX2_findBounds 108 = .ok (.istore 5, 2) := by decide +kernel
theorem dX2_findBounds_110 : decode cX2_findBounds 110 = .ok (.iload 5, 2) := by decide +kernel
theorem dX2_findBounds_112 : decode cX2_findBounds 112 = .ok (.iconst (-1), 1) := by decide +kernel
theorem dX2_findBounds_113 : decode cX2_findBounds 113 = .ok (.if_icmp .eq 25, 3) := by decide +kernel
theorem dX2_findBounds_116 : decode cX2_findBounds 116 = .ok (.aload_n 0, 1) := by decide +kernel
theorem dX2_findBounds_117 : decode cX2_findBounds 117 = .ok (.getfield 9, 3) := by decide +kernel
theorem dX2_findBounds_120 : decode cX2_findBounds 120 = .ok (.iload 4, 2) := by decide +kernel
theorem dX2_findBounds_122 : decode cX2_findBounds 122 = .ok (.iaload, 1) := by decide +kernel
theorem dX2_findBounds_123 : decode cX2_findBounds 123 = .ok (.ifCond .le 15, 3) := by decide +kernel
theorem dX2_findBounds_126 : decode cX2_findBounds 126 = .ok (.iload_n 3, 1) := by decide +kernel
theorem dX2_findBounds_127 : decode cX2_findBounds 127 = .ok (.aload_n 0, 1) := by decide +kernel
theorem dX2_findBounds_128 : decode cX2_findBounds 128 = .ok (.iload_n 1, 1) := by decide +kernel
theorem dX2_findBounds_129 : decode cX2_findBounds 129 = .ok (.iload 5, 2) := by decide +kernel
theorem dX2_findBounds_131 : decode cX2_findBounds 131 = .ok (.invokevirtual 102, 3) := by decide +kernel
theorem dX2_findBounds_134 : decode cX2_findBounds 134 = .ok (.invokestatic 109, 3) := by decide +kernel
theorem dX2_findBounds_137 : decode cX2_findBounds 137 = .ok (.istore_n 3, 1) := by decide +kernel
theorem dX2_findBounds_138 : decode cX2_findBounds 138 = .ok (.iinc 4 1, 3) := by decide +kernel
theorem dX2_findBounds_141 : decode cX2_findBounds 141 = .ok (.goto (-61), 3) := by decide +kernel
theorem dX2_findBounds_144 : decode cX2_findBounds 144 = .ok (.aload_n 0, 1) := by decide +kernel
theorem dX2_findBounds_145 : decode cX2_findBounds 145 = .ok (.getfield 18, 3) := by decide +kernel
theorem dX2_findBounds_148 : decode cX2_findBounds 148 = .ok (.iload_n 1, 1) := by decide +kernel
theorem dX2_findBounds_149 : decode cX2_findBounds 149 = .ok (.bipush 8, 2) := by decide +kernel
theorem dX2_findBounds_151 : decode cX2_findBounds 151 = .ok (.imul, 1) := by decide +kernel
theorem dX2_findBounds_152 : decode cX2_findBounds 152 = .ok (.iload_n 2, 1) := by decide +kernel
theorem dX2_findBounds_153 : decode cX2_findBounds 153 = .ok (.iadd, 1) := by decide +kernel
theorem dX2_findBounds_154 : decode cX2_findBounds 154 = .ok (.iload_n 3, 1) := by decide +kernel
theorem dX2_findBounds_155 : decode cX2_findBounds 155 = .ok (.iastore, 1) := by decide +kernel
theorem dX2_findBounds_156 : decode cX2_findBounds 156 = .ok (.iinc 2 1, 3) := by decide +kernel
theorem dX2_findBounds_159 : decode cX2_findBounds 159 = .ok (.goto (-100), 3) := by decide +kernel
theorem dX2_findBounds_162 : decode cX2_findBounds 162 = .ok (.iinc 1 (-1), 3) := by decide +kernel
theorem dX2_findBounds_165 : decode cX2_findBounds 165 = .ok (.goto (-112), 3) := by decide +kernel
theorem dX2_findBounds_168 : decode cX2_findBounds 168 = .ok (.return_, 1) := by decide +kernel
theorem dX2_boundBy_0 : decode cX2_boundBy 0 = .ok (.aload_n 0, 1) := by decide +kernel
theorem dX2_boundBy_1 : decode cX2_boundBy 1 = .ok (.getfield 18, 3) := by decide +kernel
theorem dX2_boundBy_4 : decode cX2_boundBy 4 = .ok (.iload_n 1, 1) := by decide +kernel
theorem dX2_boundBy_5 : decode cX2_boundBy 5 = .ok (.iconst 1, 1) := by decide +kernel
theorem dX2_boundBy_6 : decode cX2_boundBy 6 = .ok (.iadd, 1) := by decide +kernel
theorem dX2_boundBy_7 : decode cX2_boundBy 7 = .ok (.bipush 8, 2) := by decide +kernel
theorem dX2_boundBy_9 : decode cX2_boundBy 9 = .ok (.imul, 1) := by decide +kernel
theorem dX2_boundBy_10 : decode cX2_boundBy 10 = .ok (.iload_n 2, 1) := by decide +kernel
theorem dX2_boundBy_11 : decode cX2_boundBy 11 = .ok (.iadd, 1) := by decide +kernel
theorem dX2_boundBy_12 : decode cX2_boundBy 12 = .ok (.iaload, 1) := by decide +kernel
theorem dX2_boundBy_13 : decode cX2_boundBy 13 = .ok (.istore_n 3, 1) := by decide +kernel
theorem dX2_boundBy_14 : decode cX2_boundBy 14 = .ok (.iload_n 3, 1) := by decide +kernel
theorem dX2_boundBy_15 : decode cX2_boundBy 15 = .ok (.iconst (-1), 1) := by decide +kernel
theorem dX2_boundBy_16 : decode cX2_boundBy 16 = .ok (.if_icmp .ne 7, 3) := by decide +kernel
theorem dX2_boundBy_19 : decode cX2_boundBy 19 = .ok (.iconst (-1), 1) := by decide +kernel
theorem dX2_boundBy_20 : decode cX2_boundBy 20 = .ok (.goto 16, 3) := by decide +kernel
theorem dX2_boundBy_23 : decode cX2_boundBy 23 = .ok (.iload_n 3, 1) := by decide +kernel
theorem dX2_boundBy_24 : decode cX2_boundBy 24 = .ok (.aload_n 0, 1) := by decide +kernel
theorem dX2_boundBy_25 : decode cX2_boundBy 25 = .ok (.getfield 15, 3) := by decide +kernel
theorem dX2_boundBy_28 : decode cX2_boundBy 28 = .ok (.iload_n 1, 1) := by decide +kernel
theorem dX2_boundBy_29 : decode cX2_boundBy 29 = .ok (.bipush 8, 2) := by decide +kernel
theorem dX2_boundBy_31 : decode cX2_boundBy 31 = .ok (.imul, 1) := by decide +kernel
theorem dX2_boundBy_32 : decode cX2_boundBy 32 = .ok (.iload_n 2, 1) := by decide +kernel
theorem dX2_boundBy_33 : decode cX2_boundBy 33 = .ok (.iadd, 1) := by decide +kernel
theorem dX2_boundBy_34 : decode cX2_boundBy 34 = .ok (.iaload, 1) := by decide +kernel
theorem dX2_boundBy_35 : decode cX2_boundBy 35 = .ok (.iadd, 1) := by decide +kernel
theorem dX2_boundBy_36 : decode cX2_boundBy 36 = .ok (.ireturn, 1) := by decide +kernel
theorem dX2_search_0 : decode cX2_search 0 = .ok (.iload_n 1, 1) := by decide +kernel
theorem dX2_search_1 : decode cX2_search 1 = .ok (.aload_n 0, 1) := by decide +kernel
theorem dX2_search_2 : decode cX2_search 2 = .ok (.getfield 27, 3) := by decide +kernel
theorem dX2_search_5 : decode cX2_search 5 = .ok (.if_icmp .lt 26, 3) := by decide +kernel
theorem dX2_search_8 : decode cX2_search 8 = .ok (.aload_n 0, 1) := by decide +kernel
theorem dX2_search_9 : decode cX2_search 9 = .ok (.iload_n 3, 1) := by decide +kernel
theorem dX2_search_10 : decode cX2_search 10 = .ok (.putfield 37, 3) := by decide +kernel
theorem dX2_search_13 : decode cX2_search 13 = .ok (.aload_n 0, 1) := by decide +kernel
theorem dX2_search_14 : decode cX2_search 14 = .ok (.getfield 21, 3) := by decide +kernel
theorem dX2_search_17 : decode cX2_search 17 = .ok (.iconst 0, 1) := by decide +kernel
theorem dX2_search_18 : decode cX2_search 18 = .ok (.aload_n 0, 1) := by decide +kernel
theorem dX2_search_19 : decode cX2_search 19 = .ok (.getfield 24, 3) := by decide +kernel
theorem dX2_search_22 : decode cX2_search 22 = .ok (.iconst 0, 1) := by decide +kernel
theorem dX2_search_23 : decode cX2_search 23 = .ok (.aload_n 0, 1) := by decide +kernel
theorem dX2_search_24 : decode cX2_search 24 = .ok (.getfield 27, 3) := by decide +kernel
theorem dX2_search_27 : decode cX2_search 27 = .ok (.invokestatic 114, 3) := by decide +kernel
theorem dX2_search_30 : decode cX2_search 30 = .ok (.return_, 1) := by decide +kernel
theorem dX2_search_31 : decode cX2_search 31 = .ok (.aload_n 0, 1) := by decide +kernel
theorem dX2_search_32 : decode cX2_search 32 = .ok (.iload_n 1, 1) := by decide +kernel
theorem dX2_search_33 : decode cX2_search 33 = .ok (.iload_n 2, 1) := by decide +kernel
theorem dX2_search_34 : decode cX2_search 34 = .ok (.iconst (-1), 1) := by decide +kernel
theorem dX2_search_35 : decode cX2_search 35 = .ok (.iload_n 3, 1) := by decide +kernel
theorem dX2_search_36 : decode cX2_search 36 = .ok (.invokevirtual 120, 3) := by decide +kernel
theorem dX2_search_39 : decode cX2_search 39 = .ok (.iconst 0, 1) := by decide +kernel
theorem dX2_search_40 : decode cX2_search 40 = .ok (.istore 4, 2) := by decide +kernel
theorem dX2_search_42 : decode cX2_search 42 = .ok (.iload 4, 2) := by decide +kernel
theorem dX2_search_44 : decode cX2_search 44 = .ok (.aload_n 0, 1) := by decide +kernel
theorem dX2_search_45 : decode cX2_search 45 = .ok (.getfield 40, 3) := by decide +kernel
theorem dX2_search_48 : decode cX2_search 48 = .ok (.getfield 83, 3) := by decide +kernel
theorem dX2_search_51 : decode cX2_search 51 = .ok (.getfield 87, 3) := by decide +kernel
theorem dX2_search_54 : decode cX2_search 54 = .ok (.if_icmp .ge 81, 3) := by decide +kernel
theorem dX2_search_57 : decode cX2_search 57 = .ok (.aload_n 0, 1) := by decide +kernel
theorem dX2_search_58 : decode cX2_search 58 = .ok (.getfield 40, 3) := by decide +kernel
theorem dX2_search_61 : decode cX2_search 61 = .ok (.getfield 83, 3) := by decide +kernel
theorem dX2_search_64 : decode cX2_search 64 = .ok (.iload 4, 2) := by decide +kernel
theorem dX2_search_66 : decode cX2_search 66 = .ok (.iload_n 2, 1) := by decide +kernel
theorem dX2_search_67 : decode cX2_search 67 = .ok (.invokevirtual 106, 3) := by decide +kernel
theorem dX2_search_70 : decode cX2_search 70 = .ok (.istore 5, 2) := by decide +kernel
theorem dX2_search_72 : decode cX2_search 72 = .ok (.iload 5, 2) := by decide +kernel
theorem dX2_search_74 : decode cX2_search 74 = .ok (.iconst (-1), 1) := by decide +kernel
theorem dX2_search_75 : decode cX2_search 75 = .ok (.if_icmp .eq 54, 3) := by decide +kernel
theorem dX2_search_78 : decode cX2_search 78 = .ok (.aload_n 0, 1) := by decide +kernel
theorem dX2_search_79 : decode cX2_search 79 = .ok (.getfield 40, 3) := by decide +kernel
theorem dX2_search_82 : decode cX2_search 82 = .ok (.getfield 83, 3) := by decide +kernel
theorem dX2_search_85 : decode cX2_search 85 = .ok (.iload 4, 2) := by decide +kernel
theorem dX2_search_87 : decode cX2_search 87 = .ok (.aload_n 0, 1) := by decide +kernel
theorem dX2_search_88 : decode cX2_search 88 = .ok (.getfield 9, 3) := by decide +kernel
theorem dX2_search_91 : decode cX2_search 91 = .ok (.invokevirtual 124, 3) := by decide +kernel
theorem dX2_search_94 : decode cX2_search 94 = .ok (.ifCond .eq 35, 3) := by decide +kernel
theorem dX2_search_97 : decode cX2_search 97 = .ok (.aload_n 0, 1) := by decide +kernel
theorem dX2_search_98 : decode cX2_search 98 = .ok (.getfield 9, 3) := by decide +kernel
theorem dX2_search_101 : decode cX2_search 101 = .ok (.iload 4, 2) := by decide +kernel
theorem dX2_search_103 : decode cX2_search 103 = .ok (.dup2, 1) := by decide +kernel
theorem dX2_search_104 : decode cX2_search 104 = .ok (.iaload, 1) := by decide +kernel
theorem dX2_search_105 : decode cX2_search 105 = .ok (.iconst 1, 1) := by decide +kernel
theorem dX2_search_106 : decode cX2_search 106 = .ok (.isub, 1) := by decide +kernel
theorem dX2_search_107 : decode cX2_search 107 = .ok (.iastore, 1) := by decide +kernel
theorem dX2_search_108 : decode cX2_search 108 = .ok (.aload_n 0, 1) := by decide +kernel
theorem dX2_search_109 : decode cX2_search 109 = .ok (.iload_n 1, 1) := by decide +kernel
theorem dX2_search_110 : decode cX2_search 110 = .ok (.iload 5, 2) := by decide +kernel
theorem dX2_search_112 : decode cX2_search 112 = .ok (.iload 4, 2) := by decide +kernel
theorem dX2_search_114 : decode cX2_search 114 = .ok (.iload_n 3, 1) := by decide +kernel
theorem dX2_search_115 : decode cX2_search 115 = .ok (.invokevirtual 120, 3) := by decide +kernel
theorem dX2_search_118 : decode cX2_search 118 = .ok (.aload_n 0, 1) := by decide +kernel
theorem dX2_search_119 : decode cX2_search 119 = .ok (.getfield 9, 3) := by decide +kernel
theorem dX2_search_122 : decode cX2_search 122 = .ok (.iload 4, 2) := by decide +kernel
theorem dX2_search_124 : decode cX2_search 124 = .ok (.dup2, 1) := by decide +kernel
theorem dX2_search_125 : decode cX2_search 125 = .ok (.iaload, 1) := by decide +kernel
theorem dX2_search_126 : decode cX2_search 126 = .ok (.iconst 1, 1) := by decide +kernel
theorem dX2_search_127 : decode cX2_search 127 = .ok (.iadd, 1) := by decide +kernel
theorem dX2_search_128 : decode cX2_search 128 = .ok (.iastore, 1) := by decide +kernel
theorem dX2_search_129 : decode cX2_search 129 = .ok (.iinc 4 1, 3) := by decide +kernel
theorem dX2_search_132 : decode cX2_search 132 = .ok (.goto (-90), 3) := by decide +kernel
theorem dX2_search_135 : decode cX2_search 135 = .ok (.return_, 1) := by decide +kernel
theorem dX2_spend_0 : decode cX2_spend 0 = .ok (.aload_n 0, 1) := by decide +kernel
theorem dX2_spend_1 : decode cX2_spend 1 = .ok (.iload_n 1, 1) := by decide +kernel
theorem dX2_spend_2 : decode cX2_spend 2 = .ok (.iload_n 2, 1) := by decide +kernel
theorem dX2_spend_3 : decode cX2_spend 3 = .ok (.invokevirtual 102, 3) := by decide +kernel
theorem dX2_spend_6 : decode cX2_spend 6 = .ok (.istore 5, 2) := by decide +kernel
theorem dX2_spend_8 : decode cX2_spend 8 = .ok (.iload 5, 2) := by decide +kernel
theorem dX2_spend_10 : decode cX2_spend 10 = .ok (.iconst (-1), 1) := by decide +kernel
theorem dX2_spend_11 : decode cX2_spend 11 = .ok (.if_icmp .eq 44, 3) := by decide +kernel
theorem dX2_spend_14 : decode cX2_spend 14 = .ok (.iload 4, 2) := by decide +kernel
theorem dX2_spend_16 : decode cX2_spend 16 = .ok (.iload 5, 2) := by decide +kernel
theorem dX2_spend_18 : decode cX2_spend 18 = .ok (.iadd, 1) := by decide +kernel
theorem dX2_spend_19 : decode cX2_spend 19 = .ok (.aload_n 0, 1) := by decide +kernel
theorem dX2_spend_20 : decode cX2_spend 20 = .ok (.getfield 37, 3) := by decide +kernel
theorem dX2_spend_23 : decode cX2_spend 23 = .ok (.if_icmp .le 32, 3) := by decide +kernel
theorem dX2_spend_26 : decode cX2_spend 26 = .ok (.aload_n 0, 1) := by decide +kernel
theorem dX2_spend_27 : decode cX2_spend 27 = .ok (.getfield 21, 3) := by decide +kernel
theorem dX2_spend_30 : decode cX2_spend 30 = .ok (.iload_n 1, 1) := by decide +kernel
theorem dX2_spend_31 : decode cX2_spend 31 = .ok (.iload_n 3, 1) := by decide +kernel
theorem dX2_spend_32 : decode cX2_spend 32 = .ok (.iastore, 1) := by decide +kernel
theorem dX2_spend_33 : decode cX2_spend 33 = .ok (.aload_n 0, 1) := by decide +kernel
theorem dX2_spend_34 : decode cX2_spend 34 = .ok (.iload_n 1, 1) := by decide +kernel
theorem dX2_spend_35 : decode cX2_spend 35 = .ok (.iconst 1, 1) := by decide +kernel
theorem dX2_spend_36 : decode cX2_spend 36 = .ok (.iadd, 1) := by decide +kernel
theorem dX2_spend_37 : decode cX2_spend 37 = .ok (.iload_n 2, 1) := by decide +kernel
theorem dX2_spend_38 : decode cX2_spend 38 = .ok (.iload 4, 2) := by decide +kernel
theorem dX2_spend_40 : decode cX2_spend 40 = .ok (.aload_n 0, 1) := by decide +kernel
theorem dX2_spend_41 : decode cX2_spend 41 = .ok (.getfield 15, 3) := by decide +kernel
theorem dX2_spend_44 : decode cX2_spend 44 = .ok (.iload_n 1, 1) := by decide +kernel
theorem dX2_spend_45 : decode cX2_spend 45 = .ok (.bipush 8, 2) := by decide +kernel
theorem dX2_spend_47 : decode cX2_spend 47 = .ok (.imul, 1) := by decide +kernel
theorem dX2_spend_48 : decode cX2_spend 48 = .ok (.iload_n 2, 1) := by decide +kernel
theorem dX2_spend_49 : decode cX2_spend 49 = .ok (.iadd, 1) := by decide +kernel
theorem dX2_spend_50 : decode cX2_spend 50 = .ok (.iaload, 1) := by decide +kernel
theorem dX2_spend_51 : decode cX2_spend 51 = .ok (.iadd, 1) := by decide +kernel
theorem dX2_spend_52 : decode cX2_spend 52 = .ok (.invokevirtual 95, 3) := by decide +kernel
theorem dX2_spend_55 : decode cX2_spend 55 = .ok (.return_, 1) := by decide +kernel
theorem dX3_init_0 : decode cX3_init 0 = .ok (.aload_n 0, 1) := by decide +kernel
theorem dX3_init_1 : decode cX3_init 1 = .ok (.invokespecial 3, 3) := by decide +kernel
theorem dX3_init_4 : decode cX3_init 4 = .ok (.aload_n 0, 1) := by decide +kernel
theorem dX3_init_5 : decode cX3_init 5 = .ok (.sipush 400, 3) := by decide +kernel
theorem dX3_init_8 : decode cX3_init 8 = .ok (.newarray .int, 2) := by decide +kernel
theorem dX3_init_10 : decode cX3_init 10 = .ok (.putfield 11, 3) := by decide +kernel
theorem dX3_init_13 : decode cX3_init 13 = .ok (.aload_n 0, 1) := by decide +kernel
theorem dX3_init_14 : decode cX3_init 14 = .ok (.sipush 400, 3) := by decide +kernel
theorem dX3_init_17 : decode cX3_init 17 = .ok (.newarray .int, 2) := by decide +kernel
theorem dX3_init_19 : decode cX3_init 19 = .ok (.putfield 17, 3) := by decide +kernel
theorem dX3_init_22 : decode cX3_init 22 = .ok (.aload_n 0, 1) := by decide +kernel
theorem dX3_init_23 : decode cX3_init 23 = .ok (.bipush 12, 2) := by decide +kernel
theorem dX3_init_25 : decode cX3_init 25 = .ok (.newarray .int, 2) := by decide +kernel
theorem dX3_init_27 : decode cX3_init 27 = .ok (.putfield 20, 3) := by decide +kernel
theorem dX3_init_30 : decode cX3_init 30 = .ok (.aload_n 0, 1) := by decide +kernel
theorem dX3_init_31 : decode cX3_init 31 = .ok (.bipush 12, 2) := by decide +kernel
theorem dX3_init_33 : decode cX3_init 33 = .ok (.newarray .int, 2) := by decide +kernel
theorem dX3_init_35 : decode cX3_init 35 = .ok (.putfield 23, 3) := by decide +kernel
theorem dX3_init_38 : decode cX3_init 38 = .ok (.aload_n 0, 1) := by decide +kernel
theorem dX3_init_39 : decode cX3_init 39 = .ok (.bipush 12, 2) := by decide +kernel
theorem dX3_init_41 : decode cX3_init 41 = .ok (.newarray .int, 2) := by decide +kernel
theorem dX3_init_43 : decode cX3_init 43 = .ok (.putfield 26, 3) := by decide +kernel
theorem dX3_init_46 : decode cX3_init 46 = .ok (.aload_n 0, 1) := by decide +kernel
theorem dX3_init_47 : decode cX3_init 47 = .ok (.bipush 60, 2) := by decide +kernel
theorem dX3_init_49 : decode cX3_init 49 = .ok (.newarray .long, 2) := by decide +kernel
theorem dX3_init_51 : decode cX3_init 51 = .ok (.putfield 29, 3) := by decide +kernel
theorem dX3_init_54 : decode cX3_init 54 = .ok (.aload_n 0, 1) := by decide +kernel
theorem dX3_init_55 : decode cX3_init 55 = .ok (.iconst 0, 1) := by decide +kernel
theorem dX3_init_56 : decode cX3_init 56 = .ok (.putfield 33, 3) := by decide +kernel
theorem dX3_init_59 : decode cX3_init 59 = .ok (.aload_n 0, 1) := by decide +kernel
theorem dX3_init_60 : decode cX3_init 60 = .ok (.iconst 0, 1) := by decide +kernel
theorem dX3_init_61 : decode cX3_init 61 = .ok (.putfield 37, 3) := by decide +kernel
theorem dX3_init_64 : decode cX3_init 64 = .ok (.aload_n 0, 1) := by decide +kernel
theorem dX3_init_65 : decode cX3_init 65 = .ok (.iconst 0, 1) := by decide +kernel
theorem dX3_init_66 : decode cX3_init 66 = .ok (.putfield 40, 3) := by decide +kernel
theorem dX3_init_69 : decode cX3_init 69 = .ok (.return_, 1) := by decide +kernel
theorem dX3_read_0 : decode cX3_read 0 = .ok (.aload_n 1, 1) := by decide +kernel
theorem dX3_read_1 : decode cX3_read 1 = .ok (.invokevirtual 43, 3) := by decide +kernel
theorem dX3_read_4 : decode cX3_read 4 = .ok (.aload_n 0, 1) := by decide +kernel
theorem dX3_read_5 : decode cX3_read 5 = .ok (.iconst 0, 1) := by decide +kernel
theorem dX3_read_6 : decode cX3_read 6 = .ok (.putfield 33, 3) := by decide +kernel
theorem dX3_read_9 : decode cX3_read 9 = .ok (.aload_n 0, 1) := by decide +kernel
theorem dX3_read_10 : decode cX3_read 10 = .ok (.iconst 0, 1) := by decide +kernel
theorem dX3_read_11 : decode cX3_read 11 = .ok (.putfield 37, 3) := by decide +kernel
theorem dX3_read_14 : decode cX3_read 14 = .ok (.aload_n 0, 1) := by decide +kernel
theorem dX3_read_15 : decode cX3_read 15 = .ok (.iconst 0, 1) := by decide +kernel
theorem dX3_read_16 : decode cX3_read 16 = .ok (.putfield 40, 3) := by decide +kernel
theorem dX3_read_19 : decode cX3_read 19 = .ok (.iconst 1, 1) := by decide +kernel
theorem dX3_read_20 : decode cX3_read 20 = .ok (.istore_n 2, 1) := by decide +kernel
theorem dX3_read_21 : decode cX3_read 21 = .ok (.iconst 0, 1) := by decide +kernel
theorem dX3_read_22 : decode cX3_read 22 = .ok (.istore_n 3, 1) := by decide +kernel
theorem dX3_read_23 : decode cX3_read 23 = .ok (.iload_n 2, 1) := by decide +kernel
theorem dX3_read_24 : decode cX3_read 24 = .ok (.ifCond .eq 105, 3) := by decide +kernel
theorem dX3_read_27 : decode cX3_read 27 = .ok (.iload_n 3, 1) := by decide +kernel
theorem dX3_read_28 : decode cX3_read 28 = .ok (.bipush 12, 2) := by decide +kernel
theorem dX3_read_30 : decode cX3_read 30 = .ok (.if_icmp .gt 99, 3) := by decide +kernel
theorem dX3_read_33 : decode cX3_read 33 = .ok (.aload_n 1, 1) := by decide +kernel
theorem dX3_read_34 : decode cX3_read 34 = .ok (.ldc 46, 2) := by decide +kernel
theorem dX3_read_36 : decode cX3_read 36 = .ok (.invokevirtual 48, 3) := by decide +kernel
theorem dX3_read_39 : decode cX3_read 39 = .ok (.pop, 1) := by decide +kernel
theorem dX3_read_40 : decode cX3_read 40 = .ok (.iload_n 3, 1) := by decide +kernel
theorem dX3_read_41 : decode cX3_read 41 = .ok (.bipush 12, 2) := by decide +kernel
theorem dX3_read_43 : decode cX3_read 43 = .ok (.if_icmp .ge 66, 3) := by decide +kernel
theorem dX3_read_46 : decode cX3_read 46 = .ok (.aload_n 0, 1) := by decide +kernel
theorem dX3_read_47 : decode cX3_read 47 = .ok (.getfield 20, 3) := by decide +kernel
theorem dX3_read_50 : decode cX3_read 50 = .ok (.iload_n 3, 1) := by decide +kernel
theorem dX3_read_51 : decode cX3_read 51 = .ok (.aload_n 0, 1) := by decide +kernel
theorem dX3_read_52 : decode cX3_read 52 = .ok (.getfield 33, 3) := by decide +kernel
theorem dX3_read_55 : decode cX3_read 55 = .ok (.iastore, 1) := by decide +kernel
theorem dX3_read_56 : decode cX3_read 56 = .ok (.aload_n 0, 1) := by decide +kernel
theorem dX3_read_57 : decode cX3_read 57 = .ok (.aload_n 1, 1) := by decide +kernel
theorem dX3_read_58 : decode cX3_read 58 = .ok (.invokevirtual 52, 3) := by decide +kernel
theorem dX3_read_61 : decode cX3_read 61 = .ok (.aload_n 0, 1) := by decide +kernel
theorem dX3_read_62 : decode cX3_read 62 = .ok (.getfield 23, 3) := by decide +kernel
theorem dX3_read_65 : decode cX3_read 65 = .ok (.iload_n 3, 1) := by decide +kernel
theorem dX3_read_66 : decode cX3_read 66 = .ok (.aload_n 0, 1) := by decide +kernel
theorem dX3_read_67 : decode cX3_read 67 = .ok (.getfield 33, 3) := by decide +kernel
theorem dX3_read_70 : decode cX3_read 70 = .ok (.iastore, 1) := by decide +kernel
theorem dX3_read_71 : decode cX3_read 71 = .ok (.aload_n 1, 1) := by decide +kernel
theorem dX3_read_72 : decode cX3_read 72 = .ok (.ldc 56, 2) := by decide +kernel
theorem dX3_read_74 : decode cX3_read 74 = .ok (.invokevirtual 58, 3) := by decide +kernel
theorem dX3_read_77 : decode cX3_read 77 = .ok (.ifCond .eq 9, 3) := by decide +kernel
theorem dX3_read_80 : decode cX3_read 80 = .ok (.aload_n 0, 1) := by decide +kernel
theorem dX3_read_81 : decode cX3_read 81 = .ok (.aload_n 1, 1) := by decide +kernel
theorem dX3_read_82 : decode cX3_read 82 = .ok (.iconst 0, 1) := by decide +kernel
theorem dX3_read_83 : decode cX3_read 83 = .ok (.invokevirtual 62, 3) := by decide +kernel
theorem dX3_read_86 : decode cX3_read 86 = .ok (.aload_n 0, 1) := by decide +kernel
theorem dX3_read_87 : decode cX3_read 87 = .ok (.getfield 26, 3) := by decide +kernel
theorem dX3_read_90 : decode cX3_read 90 = .ok (.iload_n 3, 1) := by decide +kernel
theorem dX3_read_91 : decode cX3_read 91 = .ok (.aload_n 0, 1) := by decide +kernel
theorem dX3_read_92 : decode cX3_read 92 = .ok (.getfield 33, 3) := by decide +kernel
theorem dX3_read_95 : decode cX3_read 95 = .ok (.iastore, 1) := by decide +kernel
theorem dX3_read_96 : decode cX3_read 96 = .ok (.aload_n 0, 1) := by decide +kernel
theorem dX3_read_97 : decode cX3_read 97 = .ok (.dup, 1) := by decide +kernel
theorem dX3_read_98 : decode cX3_read 98 = .ok (.getfield 37, 3) := by decide +kernel
theorem dX3_read_101 : decode cX3_read 101 = .ok (.iconst 1, 1) := by decide +kernel
theorem dX3_read_102 : decode cX3_read 102 = .ok (.iadd, 1) := by decide +kernel
theorem dX3_read_103 : decode cX3_read 103 = .ok (.putfield 37, 3) := by decide +kernel
theorem dX3_read_106 : decode cX3_read 106 = .ok (.goto 12, 3) := by decide +kernel
theorem dX3_read_109 : decode cX3_read 109 = .ok (.aload_n 1, 1) := by decide +kernel
theorem dX3_read_110 : decode cX3_read 110 = .ok (.aload_n 1, 1) := by decide +kernel
theorem dX3_read_111 : decode cX3_read 111 = .ok (.getfield 66, 3) := by decide +kernel
theorem dX3_read_114 : decode cX3_read 114 = .ok (.iconst 4, 1) := by decide +kernel
theorem dX3_read_115 : decode cX3_read 115 = .ok (.invokevirtual 69, 3) := by decide +kernel
theorem dX3_read_118 : decode cX3_read 118 = .ok (.aload_n 1, 1) := by decide +kernel
theorem dX3_read_119 : decode cX3_read 119 = .ok (.invokevirtual 73, 3) := by decide +kernel
theorem dX3_read_122 : decode cX3_read 122 = .ok (.istore_n 2, 1) := by decide +kernel
theorem dX3_read_123 : decode cX3_read 123 = .ok (.iinc 3 1, 3) := by decide +kernel
theorem dX3_read_126 : decode cX3_read 126 = .ok (.goto (-103), 3) := by decide +kernel
theorem dX3_read_129 : decode cX3_read 129 = .ok (.return_, 1) := by decide +kernel
theorem dX3_readTest_0 : decode cX3_readTest 0 = .ok (.aload_n 0, 1) := by decide +kernel
theorem dX3_readTest_1 : decode cX3_readTest 1 = .ok (.aload_n 1, 1) := by decide +kernel
theorem dX3_readTest_2 : decode cX3_readTest 2 = .ok (.iload_n 2, 1) := by decide +kernel
theorem dX3_readTest_3 : decode cX3_readTest 3 = .ok (.invokevirtual 77, 3) := by decide +kernel
theorem dX3_readTest_6 : decode cX3_readTest 6 = .ok (.iconst 0, 1) := by decide +kernel
theorem dX3_readTest_7 : decode cX3_readTest 7 = .ok (.istore_n 3, 1) := by decide +kernel
theorem dX3_readTest_8 : decode cX3_readTest 8 = .ok (.iconst 1, 1) := by decide +kernel
theorem dX3_readTest_9 : decode cX3_readTest 9 = .ok (.istore 4, 2) := by decide +kernel
theorem dX3_readTest_11 : decode cX3_readTest 11 = .ok (.iconst 0, 1) := by decide +kernel
theorem dX3_readTest_12 : decode cX3_readTest 12 = .ok (.istore 5, 2) := by decide +kernel
theorem dX3_readTest_14 : decode cX3_readTest 14 = .ok (.iload 4, 2) := by decide +kernel
theorem dX3_readTest_16 : decode cX3_readTest 16 = .ok (.ifCond .eq 76, 3) := by decide +kernel
theorem dX3_readTest_19 : decode cX3_readTest 19 = .ok (.iload 5, 2) := by decide +kernel
theorem dX3_readTest_21 : decode cX3_readTest 21 = .ok (.sipush 400, 3) := by decide +kernel
theorem dX3_readTest_24 : decode cX3_readTest 24 = .ok (.if_icmp .ge 68, 3) := by decide +kernel
theorem dX3_readTest_27 : decode cX3_readTest 27 = .ok (.aload_n 1, 1) := by decide +kernel
theorem dX3_readTest_28 : decode cX3_readTest 28 = .ok (.ldc 80, 2) := by decide +kernel
theorem dX3_readTest_30 : decode cX3_readTest 30 = .ok (.invokevirtual 58, 3) := by decide +kernel
theorem dX3_readTest_33 : decode cX3_readTest 33 = .ok (.ifCond .eq 19, 3) := by decide +kernel
theorem dX3_readTest_36 : decode cX3_readTest 36 = .ok (.aload_n 0, 1) := by decide +kernel
theorem dX3_readTest_37 : decode cX3_readTest 37 = .ok (.aload_n 1, 1) := by decide +kernel
theorem dX3_readTest_38 : decode cX3_readTest 38 = .ok (.iload_n 2, 1) := by decide +kernel
theorem dX3_readTest_39 : decode cX3_readTest 39 = .ok (.invokevirtual 77, 3) := by decide +kernel
theorem dX3_readTest_42 : decode cX3_readTest 42 = .ok (.aload_n 0, 1) := by decide +kernel
theorem dX3_readTest_43 : decode cX3_readTest 43 = .ok (.bipush 38, 2) := by decide +kernel
theorem dX3_readTest_45 : decode cX3_readTest 45 = .ok (.iconst 0, 1) := by decide +kernel
theorem dX3_readTest_46 : decode cX3_readTest 46 = .ok (.invokevirtual 82, 3) := by decide +kernel
theorem dX3_readTest_49 : decode cX3_readTest 49 = .ok (.goto 37, 3) := by decide +kernel
theorem dX3_readTest_52 : decode cX3_readTest 52 = .ok (.aload_n 1, 1) := by decide +kernel
theorem dX3_readTest_53 : decode cX3_readTest 53 = .ok (.ldc 85, 2) := by decide +kernel
theorem dX3_readTest_55 : decode cX3_readTest 55 = .ok (.invokevirtual 58, 3) := by decide +kernel
theorem dX3_readTest_58 : decode cX3_readTest 58 = .ok (.ifCond .eq 25, 3) := by decide +kernel
theorem dX3_readTest_61 : decode cX3_readTest 61 = .ok (.iload_n 3, 1) := by decide +kernel
theorem dX3_readTest_62 : decode cX3_readTest 62 = .ok (.ifCond .eq 10, 3) := by decide +kernel
theorem dX3_readTest_65 : decode cX3_readTest 65 = .ok (.aload_n 0, 1) := by decide +kernel
theorem dX3_readTest_66 : decode cX3_readTest 66 = .ok (.bipush 124, 2) := by decide +kernel
theorem dX3_readTest_68 : decode cX3_readTest 68 = .ok (.iconst 0, 1) := by decide +kernel
theorem dX3_readTest_69 : decode cX3_readTest 69 = .ok (.invokevirtual 82, 3) := by decide +kernel
theorem dX3_readTest_72 : decode cX3_readTest 72 = .ok (.iconst 1, 1) := by decide +kernel
theorem dX3_readTest_73 : decode cX3_readTest 73 = .ok (.istore_n 3, 1) := by decide +kernel
theorem dX3_readTest_74 : decode cX3_readTest 74 = .ok (.aload_n 0, 1) := by decide +kernel
theorem dX3_readTest_75 : decode cX3_readTest 75 = .ok (.aload_n 1, 1) := by decide +kernel
theorem dX3_readTest_76 : decode cX3_readTest 76 = .ok (.iload_n 2, 1) := by decide +kernel
theorem dX3_readTest_77 : decode cX3_readTest 77 = .ok (.invokevirtual 77, 3) := by decide +kernel
theorem dX3_readTest_80 : decode cX3_readTest 80 = .ok (.goto 6, 3) := by decide +kernel
theorem dX3_readTest_83 : decode cX3_readTest 83 = .ok (.iconst 0, 1) := by decide +kernel
theorem dX3_readTest_84 : decode cX3_readTest 84 = .ok (.istore 4, 2) := by decide +kernel
theorem dX3_readTest_86 : decode cX3_readTest 86 = .ok (.iinc 5 1, 3) := by decide +kernel
theorem dX3_readTest_89 : decode cX3_readTest 89 = .ok (.goto (-75), 3) := by decide +kernel
theorem dX3_readTest_92 : decode cX3_readTest 92 = .ok (.iload_n 3, 1) := by decide +kernel
theorem dX3_readTest_93 : decode cX3_readTest 93 = .ok (.ifCond .eq 10, 3) := by decide +kernel
theorem dX3_readTest_96 : decode cX3_readTest 96 = .ok (.aload_n 0, 1) := by decide +kernel
theorem dX3_readTest_97 : decode cX3_readTest 97 = .ok (.bipush 124, 2) := by decide +kernel
theorem dX3_readTest_99 : decode cX3_readTest 99 = .ok (.iconst 0, 1) := by decide +kernel
theorem dX3_readTest_100 : decode cX3_readTest 100 = .ok (.invokevirtual 82, 3) := by decide +kernel
theorem dX3_readTest_103 : decode cX3_readTest 103 = .ok (.return_, 1) := by decide +kernel
theorem dX3_readFact_0 : decode cX3_readFact 0 = .ok (.aload_n 1, 1) := by decide +kernel
theorem dX3_readFact_1 : decode cX3_readFact 1 = .ok (.getfield 87, 3) := by decide +kernel
theorem dX3_readFact_4 : decode cX3_readFact 4 = .ok (.ifCond .eq 4, 3) := by decide +kernel
theorem dX3_readFact_7 : decode cX3_readFact 7 = .ok (.return_, 1) := by decide +kernel
theorem dX3_readFact_8 : decode cX3_readFact 8 = .ok (.aload_n 1, 1) := by decide +kernel
theorem dX3_readFact_9 : decode cX3_readFact 9 = .ok (.invokevirtual 90, 3) := by decide +kernel
theorem dX3_readFact_12 : decode cX3_readFact 12 = .ok (.bipush 91, 2) := by decide +kernel
theorem dX3_readFact_14 : decode cX3_readFact 14 = .ok (.if_icmp .ne 7, 3) := by decide +kernel
theorem dX3_readFact_17 : decode cX3_readFact 17 = .ok (.iconst 1, 1) := by decide +kernel
theorem dX3_readFact_18 : decode cX3_readFact 18 = .ok (.goto 4, 3) := by decide +kernel
theorem dX3_readFact_21 : decode cX3_readFact 21 = .ok (.iconst 0, 1) := by decide +kernel
theorem dX3_readFact_22 : decode cX3_readFact 22 = .ok (.istore_n 3, 1) := by decide +kernel
theorem dX3_readFact_23 : decode cX3_readFact 23 = .ok (.iload_n 3, 1) := by decide +kernel
theorem dX3_readFact_24 : decode cX3_readFact 24 = .ok (.ifCond .ne 12, 3) := by decide +kernel
theorem dX3_readFact_27 : decode cX3_readFact 27 = .ok (.aload_n 1, 1) := by decide +kernel
theorem dX3_readFact_28 : decode cX3_readFact 28 = .ok (.ldc 94, 2) := by decide +kernel
theorem dX3_readFact_30 : decode cX3_readFact 30 = .ok (.invokevirtual 96, 3) := by decide +kernel
theorem dX3_readFact_33 : decode cX3_readFact 33 = .ok (.ifCond .eq 21, 3) := by decide +kernel
theorem dX3_readFact_36 : decode cX3_readFact 36 = .ok (.iload_n 2, 1) := by decide +kernel
theorem dX3_readFact_37 : decode cX3_readFact 37 = .ok (.bipush 10, 2) := by decide +kernel
theorem dX3_readFact_39 : decode cX3_readFact 39 = .ok (.if_icmp .lt 15, 3) := by decide +kernel
theorem dX3_readFact_42 : decode cX3_readFact 42 = .ok (.aload_n 1, 1) := by decide +kernel
theorem dX3_readFact_43 : decode cX3_readFact 43 = .ok (.aload_n 1, 1) := by decide +kernel
theorem dX3_readFact_44 : decode cX3_readFact 44 = .ok (.getfield 99, 3) := by decide +kernel
theorem dX3_readFact_47 : decode cX3_readFact 47 = .ok (.iconst 2, 1) := by decide +kernel
theorem dX3_readFact_48 : decode cX3_readFact 48 = .ok (.invokevirtual 69, 3) := by decide +kernel
theorem dX3_readFact_51 : decode cX3_readFact 51 = .ok (.goto 91, 3) := by decide +kernel
theorem dX3_readFact_54 : decode cX3_readFact 54 = .ok (.aload_n 1, 1) := by decide +kernel
theorem dX3_readFact_55 : decode cX3_readFact 55 = .ok (.bipush 91, 2) := by decide +kernel
theorem dX3_readFact_57 : decode cX3_readFact 57 = .ok (.invokevirtual 102, 3) := by decide +kernel
theorem dX3_readFact_60 : decode cX3_readFact 60 = .ok (.ifCond .eq 32, 3) := by decide +kernel
theorem dX3_readFact_63 : decode cX3_readFact 63 = .ok (.aload_n 0, 1) := by decide +kernel
theorem dX3_readFact_64 : decode cX3_readFact 64 = .ok (.aload_n 1, 1) := by decide +kernel
theorem dX3_readFact_65 : decode cX3_readFact 65 = .ok (.iload_n 2, 1) := by decide +kernel
theorem dX3_readFact_66 : decode cX3_readFact 66 = .ok (.iconst 1, 1) := by decide +kernel
theorem dX3_readFact_67 : decode cX3_readFact 67 = .ok (.iadd, 1) := by decide +kernel
theorem dX3_readFact_68 : decode cX3_readFact 68 = .ok (.invokevirtual 62, 3) := by decide +kernel
theorem dX3_readFact_71 : decode cX3_readFact 71 = .ok (.aload_n 1, 1) := by decide +kernel
theorem dX3_readFact_72 : decode cX3_readFact 72 = .ok (.bipush 93, 2) := by decide +kernel
theorem dX3_readFact_74 : decode cX3_readFact 74 = .ok (.invokevirtual 102, 3) := by decide +kernel
theorem dX3_readFact_77 : decode cX3_readFact 77 = .ok (.ifCond .ne 65, 3) := by decide +kernel
theorem dX3_readFact_80 : decode cX3_readFact 80 = .ok (.aload_n 1, 1) := by decide +kernel
theorem dX3_readFact_81 : decode cX3_readFact 81 = .ok (.aload_n 1, 1) := by decide +kernel
theorem dX3_readFact_82 : decode cX3_readFact 82 = .ok (.getfield 99, 3) := by decide +kernel
theorem dX3_readFact_85 : decode cX3_readFact 85 = .ok (.iconst 0, 1) := by decide +kernel
theorem dX3_readFact_86 : decode cX3_readFact 86 = .ok (.invokevirtual 69, 3) := by decide +kernel
theorem dX3_readFact_89 : decode cX3_readFact 89 = .ok (.goto 53, 3) := by decide +kernel
theorem dX3_readFact_92 : decode cX3_readFact 92 = .ok (.aload_n 1, 1) := by decide +kernel
theorem dX3_readFact_93 : decode cX3_readFact 93 = .ok (.ldc 94, 2) := by decide +kernel
theorem dX3_readFact_95 : decode cX3_readFact 95 = .ok (.invokevirtual 58, 3) := by decide +kernel
theorem dX3_readFact_98 : decode cX3_readFact 98 = .ok (.ifCond .eq 20, 3) := by decide +kernel
theorem dX3_readFact_101 : decode cX3_readFact 101 = .ok (.aload_n 0, 1) := by decide +kernel
theorem dX3_readFact_102 : decode cX3_readFact 102 = .ok (.aload_n 1, 1) := by decide +kernel
theorem dX3_readFact_103 : decode cX3_readFact 103 = .ok (.iload_n 2, 1) := by decide +kernel
theorem dX3_readFact_104 : decode cX3_readFact 104 = .ok (.iconst 1, 1) := by decide +kernel
theorem dX3_readFact_105 : decode cX3_readFact 105 = .ok (.iadd, 1) := by decide +kernel
theorem dX3_readFact_106 : decode cX3_readFact 106 = .ok (.invokevirtual 77, 3) := by decide +kernel
theorem dX3_readFact_109 : decode cX3_readFact 109 = .ok (.aload_n 0, 1) := by decide +kernel
theorem dX3_readFact_110 : decode cX3_readFact 110 = .ok (.iconst 2, 1) := by decide +kernel
theorem dX3_readFact_111 : decode cX3_readFact 111 = .ok (.iconst 0, 1) := by decide +kernel
theorem dX3_readFact_112 : decode cX3_readFact 112 = .ok (.invokevirtual 82, 3) := by decide +kernel
theorem dX3_readFact_115 : decode cX3_readFact 115 = .ok (.goto 27, 3) := by decide +kernel
theorem dX3_readFact_118 : decode cX3_readFact 118 = .ok (.aload_n 0, 1) := by decide +kernel
theorem dX3_readFact_119 : decode cX3_readFact 119 = .ok (.aload_n 1, 1) := by decide +kernel
theorem dX3_readFact_120 : decode cX3_readFact 120 = .ok (.invokevirtual 52, 3) := by decide +kernel
theorem dX3_readFact_123 : decode cX3_readFact 123 = .ok (.aload_n 0, 1) := by decide +kernel
theorem dX3_readFact_124 : decode cX3_readFact 124 = .ok (.aload_n 1, 1) := by decide +kernel
theorem dX3_readFact_125 : decode cX3_readFact 125 = .ok (.invokevirtual 106, 3) := by decide +kernel
theorem dX3_readFact_128 : decode cX3_readFact 128 = .ok (.istore 4, 2) := by decide +kernel
theorem dX3_readFact_130 : decode cX3_readFact 130 = .ok (.aload_n 0, 1) := by decide +kernel
theorem dX3_readFact_131 : decode cX3_readFact 131 = .ok (.aload_n 1, 1) := by decide +kernel
theorem dX3_readFact_132 : decode cX3_readFact 132 = .ok (.invokevirtual 52, 3) := by decide +kernel
theorem dX3_readFact_135 : decode cX3_readFact 135 = .ok (.aload_n 0, 1) := by decide +kernel
theorem dX3_readFact_136 : decode cX3_readFact 136 = .ok (.iload 4, 2) := by decide +kernel
theorem dX3_readFact_138 : decode cX3_readFact 138 = .ok (.iconst 0, 1) := by decide +kernel
theorem dX3_readFact_139 : decode cX3_readFact 139 = .ok (.invokevirtual 82, 3) := by decide +kernel
theorem dX3_readFact_142 : decode cX3_readFact 142 = .ok (.return_, 1) := by decide +kernel
theorem dX3_readSign_0 : decode cX3_readSign 0 = .ok (.aload_n 1, 1) := by decide +kernel
theorem dX3_readSign_1 : decode cX3_readSign 1 = .ok (.getfield 87, 3) := by decide +kernel
theorem dX3_readSign_4 : decode cX3_readSign 4 = .ok (.ifCond .eq 5, 3) := by decide +kernel
theorem dX3_readSign_7 : decode cX3_readSign 7 = .ok (.iconst (-1), 1) := by decide +kernel
theorem dX3_readSign_8 : decode cX3_readSign 8 = .ok (.ireturn, 1) := by decide +kernel
theorem dX3_readSign_9 : decode cX3_readSign 9 = .ok (.aload_n 1, 1) := by decide +kernel
theorem dX3_readSign_10 : decode cX3_readSign 10 = .ok (.invokevirtual 90, 3) := by decide +kernel
theorem dX3_readSign_13 : decode cX3_readSign 13 = .ok (.istore_n 2, 1) := by decide +kernel
theorem dX3_readSign_14 : decode cX3_readSign 14 = .ok (.aload_n 1, 1) := by decide +kernel
theorem dX3_readSign_15 : decode cX3_readSign 15 = .ok (.getfield 99, 3) := by decide +kernel
theorem dX3_readSign_18 : decode cX3_readSign 18 = .ok (.istore_n 3, 1) := by decide +kernel
theorem dX3_readSign_19 : decode cX3_readSign 19 = .ok (.iload_n 2, 1) := by decide +kernel
theorem dX3_readSign_20 : decode cX3_readSign 20 = .ok (.bipush 60, 2) := by decide +kernel
theorem dX3_readSign_22 : decode cX3_readSign 22 = .ok (.if_icmp .eq 23, 3) := by decide +kernel
theorem dX3_readSign_25 : decode cX3_readSign 25 = .ok (.iload_n 2, 1) := by decide +kernel
theorem dX3_readSign_26 : decode cX3_readSign 26 = .ok (.bipush 61, 2) := by decide +kernel
theorem dX3_readSign_28 : decode cX3_readSign 28 = .ok (.if_icmp .eq 17, 3) := by decide +kernel
theorem dX3_readSign_31 : decode cX3_readSign 31 = .ok (.iload_n 2, 1) := by decide +kernel
theorem dX3_readSign_32 : decode cX3_readSign 32 = .ok (.bipush 62, 2) := by decide +kernel
theorem dX3_readSign_34 : decode cX3_readSign 34 = .ok (.if_icmp .eq 11, 3) := by decide +kernel
theorem dX3_readSign_37 : decode cX3_readSign 37 = .ok (.aload_n 1, 1) := by decide +kernel
theorem dX3_readSign_38 : decode cX3_readSign 38 = .ok (.iload_n 3, 1) := by decide +kernel
theorem dX3_readSign_39 : decode cX3_readSign 39 = .ok (.iconst 0, 1) := by decide +kernel
theorem dX3_readSign_40 : decode cX3_readSign 40 = .ok (.invokevirtual 69, 3) := by decide +kernel
theorem dX3_readSign_43 : decode cX3_readSign 43 = .ok (.iconst (-1), 1) := by decide +kernel
theorem dX3_readSign_44 : decode cX3_readSign 44 = .ok (.ireturn, 1) := by decide +kernel
theorem dX3_readSign_45 : decode cX3_readSign 45 = .ok (.aload_n 0, 1) := by decide +kernel
theorem dX3_readSign_46 : decode cX3_readSign 46 = .ok (.aload_n 1, 1) := by decide +kernel
theorem dX3_readSign_47 : decode cX3_readSign 47 = .ok (.iload_n 3, 1) := by decide +kernel
theorem dX3_readSign_48 : decode cX3_readSign 48 = .ok (.invokevirtual 110, 3) := by decide +kernel
theorem dX3_readSign_51 : decode cX3_readSign 51 = .ok (.aload_n 1, 1) := by decide +kernel
theorem dX3_readSign_52 : decode cX3_readSign 52 = .ok (.iload_n 3, 1) := by decide +kernel
theorem dX3_readSign_53 : decode cX3_readSign 53 = .ok (.iconst 1, 1) := by decide +kernel
theorem dX3_readSign_54 : decode cX3_readSign 54 = .ok (.iadd, 1) := by decide +kernel
theorem dX3_readSign_55 : decode cX3_readSign 55 = .ok (.putfield 99, 3) := by decide +kernel
theorem dX3_readSign_58 : decode cX3_readSign 58 = .ok (.iload_n 2, 1) := by decide +kernel
theorem dX3_readSign_59 : decode cX3_readSign 59 = .ok (.bipush 61, 2) := by decide +kernel
theorem dX3_readSign_61 : decode cX3_readSign 61 = .ok (.if_icmp .eq 52, 3) := by decide +kernel
theorem dX3_readSign_64 : decode cX3_readSign 64 = .ok (.aload_n 1, 1) := by decide +kernel
theorem dX3_readSign_65 : decode cX3_readSign 65 = .ok (.getfield 99, 3) := by decide +kernel
theorem dX3_readSign_68 : decode cX3_readSign 68 = .ok (.aload_n 1, 1) := by decide +kernel
theorem dX3_readSign_69 : decode cX3_readSign 69 = .ok (.getfield 113, 3) := by decide +kernel
theorem dX3_readSign_72 : decode cX3_readSign 72 = .ok (.if_icmp .ge 41, 3) := by decide +kernel
theorem dX3_readSign_75 : decode cX3_readSign 75 = .ok (.aload_n 1, 1) := by decide +kernel
theorem dX3_readSign_76 : decode cX3_readSign 76 = .ok (.getfield 116, 3) := by decide +kernel
theorem dX3_readSign_79 : decode cX3_readSign 79 = .ok (.aload_n 1, 1) := by decide +kernel
theorem dX3_readSign_80 : decode cX3_readSign 80 = .ok (.getfield 99, 3) := by decide +kernel
theorem dX3_readSign_83 : decode cX3_readSign 83 = .ok (.baload, 1) := by decide +kernel
theorem dX3_readSign_84 : decode cX3_readSign 84 = .ok (.bipush 61, 2) := by decide +kernel
theorem dX3_readSign_86 : decode cX3_readSign 86 = .ok (.if_icmp .ne 27, 3) := by decide +kernel
theorem dX3_readSign_89 : decode cX3_readSign 89 = .ok (.aload_n 1, 1) := by decide +kernel
theorem dX3_readSign_90 : decode cX3_readSign 90 = .ok (.dup, 1) := by decide +kernel
theorem dX3_readSign_91 : decode cX3_readSign 91 = .ok (.getfield 99, 3) := by decide +kernel
theorem dX3_readSign_94 : decode cX3_readSign 94 = .ok (.iconst 1, 1) := by decide +kernel
theorem dX3_readSign_95 : decode cX3_readSign 95 = .ok (.iadd, 1) := by decide +kernel
theorem dX3_readSign_96 : decode cX3_readSign 96 = .ok (.putfield 99, 3) := by decide +kernel
theorem dX3_readSign_99 : decode cX3_readSign 99 = .ok (.iload_n 2, 1) := by decide +kernel
theorem dX3_readSign_100 : decode cX3_readSign 100 = .ok (.bipush 60, 2) := by decide +kernel
theorem dX3_readSign_102 : decode cX3_readSign 102 = .ok (.if_icmp .ne 8, 3) := by decide +kernel
theorem dX3_readSign_105 : decode cX3_readSign 105 = .ok (.bipush 108, 2) := by decide +kernel
theorem dX3_readSign_107 : decode cX3_readSign 107 = .ok (.goto 5, 3) := by decide +kernel
theorem dX3_readSign_110 : decode cX3_readSign 110 = .ok (.bipush 103, 2) := by decide +kernel
theorem dX3_readSign_112 : decode cX3_readSign 112 = .ok (.ireturn, 1) := by decide +kernel
theorem dX3_readSign_113 : decode cX3_readSign 113 = .ok (.iload_n 2, 1) := by decide +kernel
theorem dX3_readSign_114 : decode cX3_readSign 114 = .ok (.ireturn, 1) := by decide +kernel
theorem dX3_readSum_0 : decode cX3_readSum 0 = .ok (.aload_n 0, 1) := by decide +kernel
theorem dX3_readSum_1 : decode cX3_readSum 1 = .ok (.aload_n 1, 1) := by decide +kernel
theorem dX3_readSum_2 : decode cX3_readSum 2 = .ok (.invokevirtual 120, 3) := by decide +kernel
theorem dX3_readSum_5 : decode cX3_readSum 5 = .ok (.iconst (-1), 1) := by decide +kernel
theorem dX3_readSum_6 : decode cX3_readSum 6 = .ok (.istore_n 2, 1) := by decide +kernel
theorem dX3_readSum_7 : decode cX3_readSum 7 = .ok (.iconst 1, 1) := by decide +kernel
theorem dX3_readSum_8 : decode cX3_readSum 8 = .ok (.istore_n 3, 1) := by decide +kernel
theorem dX3_readSum_9 : decode cX3_readSum 9 = .ok (.iconst 0, 1) := by decide +kernel
theorem dX3_readSum_10 : decode cX3_readSum 10 = .ok (.istore 4, 2) := by decide +kernel
theorem dX3_readSum_12 : decode cX3_readSum 12 = .ok (.iload_n 3, 1) := by decide +kernel
theorem dX3_readSum_13 : decode cX3_readSum 13 = .ok (.ifCond .eq 131, 3) := by decide +kernel
theorem dX3_readSum_16 : decode cX3_readSum 16 = .ok (.iload 4, 2) := by decide +kernel
theorem dX3_readSum_18 : decode cX3_readSum 18 = .ok (.sipush 400, 3) := by decide +kernel
theorem dX3_readSum_21 : decode cX3_readSum 21 = .ok (.if_icmp .ge 123, 3) := by decide +kernel
theorem dX3_readSum_24 : decode cX3_readSum 24 = .ok (.aload_n 1, 1) := by decide +kernel
theorem dX3_readSum_25 : decode cX3_readSum 25 = .ok (.invokevirtual 90, 3) := by decide +kernel
theorem dX3_readSum_28 : decode cX3_readSum 28 = .ok (.istore 5, 2) := by decide +kernel
theorem dX3_readSum_30 : decode cX3_readSum 30 = .ok (.aload_n 1, 1) := by decide +kernel
theorem dX3_readSum_31 : decode cX3_readSum 31 = .ok (.getfield 87, 3) := by decide +kernel
theorem dX3_readSum_34 : decode cX3_readSum 34 = .ok (.ifCond .ne 49, 3) := by decide +kernel
theorem dX3_readSum_37 : decode cX3_readSum 37 = .ok (.iload 5, 2) := by decide +kernel
theorem dX3_readSum_39 : decode cX3_readSum 39 = .ok (.bipush 42, 2) := by decide +kernel
theorem dX3_readSum_41 : decode cX3_readSum 41 = .ok (.if_icmp .eq 17, 3) := by decide +kernel
theorem dX3_readSum_44 : decode cX3_readSum 44 = .ok (.iload 5, 2) := by decide +kernel
theorem dX3_readSum_46 : decode cX3_readSum 46 = .ok (.bipush 47, 2) := by decide +kernel
theorem dX3_readSum_48 : decode cX3_readSum 48 = .ok (.if_icmp .eq 10, 3) := by decide +kernel
theorem dX3_readSum_51 : decode cX3_readSum 51 = .ok (.iload 5, 2) := by decide +kernel
theorem dX3_readSum_53 : decode cX3_readSum 53 = .ok (.bipush 37, 2) := by decide +kernel
theorem dX3_readSum_55 : decode cX3_readSum 55 = .ok (.if_icmp .ne 28, 3) := by decide +kernel
theorem dX3_readSum_58 : decode cX3_readSum 58 = .ok (.aload_n 1, 1) := by decide +kernel
theorem dX3_readSum_59 : decode cX3_readSum 59 = .ok (.dup, 1) := by decide +kernel
theorem dX3_readSum_60 : decode cX3_readSum 60 = .ok (.getfield 99, 3) := by decide +kernel
theorem dX3_readSum_63 : decode cX3_readSum 63 = .ok (.iconst 1, 1) := by decide +kernel
theorem dX3_readSum_64 : decode cX3_readSum 64 = .ok (.iadd, 1) := by decide +kernel
theorem dX3_readSum_65 : decode cX3_readSum 65 = .ok (.putfield 99, 3) := by decide +kernel
theorem dX3_readSum_68 : decode cX3_readSum 68 = .ok (.aload_n 0, 1) := by decide +kernel
theorem dX3_readSum_69 : decode cX3_readSum 69 = .ok (.aload_n 1, 1) := by decide +kernel
theorem dX3_readSum_70 : decode cX3_readSum 70 = .ok (.invokevirtual 120, 3) := by decide +kernel
theorem dX3_readSum_73 : decode cX3_readSum 73 = .ok (.aload_n 0, 1) := by decide +kernel
theorem dX3_readSum_74 : decode cX3_readSum 74 = .ok (.iload 5, 2) := by decide +kernel
theorem dX3_readSum_76 : decode cX3_readSum 76 = .ok (.iconst 0, 1) := by decide +kernel
theorem dX3_readSum_77 : decode cX3_readSum 77 = .ok (.invokevirtual 82, 3) := by decide +kernel
theorem dX3_readSum_80 : decode cX3_readSum 80 = .ok (.goto 58, 3) := by decide +kernel
theorem dX3_readSum_83 : decode cX3_readSum 83 = .ok (.aload_n 1, 1) := by decide +kernel
theorem dX3_readSum_84 : decode cX3_readSum 84 = .ok (.getfield 87, 3) := by decide +kernel
theorem dX3_readSum_87 : decode cX3_readSum 87 = .ok (.ifCond .ne 49, 3) := by decide +kernel
theorem dX3_readSum_90 : decode cX3_readSum 90 = .ok (.iload 5, 2) := by decide +kernel
theorem dX3_readSum_92 : decode cX3_readSum 92 = .ok (.bipush 43, 2) := by decide +kernel
theorem dX3_readSum_94 : decode cX3_readSum 94 = .ok (.if_icmp .eq 10, 3) := by decide +kernel
theorem dX3_readSum_97 : decode cX3_readSum 97 = .ok (.iload 5, 2) := by decide +kernel
theorem dX3_readSum_99 : decode cX3_readSum 99 = .ok (.bipush 45, 2) := by decide +kernel
theorem dX3_readSum_101 : decode cX3_readSum 101 = .ok (.if_icmp .ne 35, 3) := by decide +kernel
theorem dX3_readSum_104 : decode cX3_readSum 104 = .ok (.aload_n 1, 1) := by decide +kernel
theorem dX3_readSum_105 : decode cX3_readSum 105 = .ok (.dup, 1) := by decide +kernel
theorem dX3_readSum_106 : decode cX3_readSum 106 = .ok (.getfield 99, 3) := by decide +kernel
theorem dX3_readSum_109 : decode cX3_readSum 109 = .ok (.iconst 1, 1) := by decide +kernel
theorem dX3_readSum_110 : decode cX3_readSum 110 = .ok (.iadd, 1) := by decide +kernel
theorem dX3_readSum_111 : decode cX3_readSum 111 = .ok (.putfield 99, 3) := by decide +kernel
theorem dX3_readSum_114 : decode cX3_readSum 114 = .ok (.iload_n 2, 1) := by decide +kernel
theorem dX3_readSum_115 : decode cX3_readSum 115 = .ok (.iconst (-1), 1) := by decide +kernel
theorem dX3_readSum_116 : decode cX3_readSum 116 = .ok (.if_icmp .eq 9, 3) := by decide +kernel
theorem dX3_readSum_119 : decode cX3_readSum 119 = .ok (.aload_n 0, 1) := by decide +kernel
theorem dX3_readSum_120 : decode cX3_readSum 120 = .ok (.iload_n 2, 1) := by decide +kernel
theorem dX3_readSum_121 : decode cX3_readSum 121 = .ok (.iconst 0, 1) := by decide +kernel
theorem dX3_readSum_122 : decode cX3_readSum 122 = .ok (.invokevirtual 82, 3) := by decide +kernel
theorem dX3_readSum_125 : decode cX3_readSum 125 = .ok (.iload 5, 2) := by decide +kernel
theorem dX3_readSum_127 : decode cX3_readSum 127 = .ok (.istore_n 2, 1) := by decide +kernel
theorem dX3_readSum_128 : decode cX3_readSum 128 = .ok (.aload_n 0, 1) := by decide +kernel
theorem dX3_readSum_129 : decode cX3_readSum 129 = .ok (.aload_n 1, 1) := by decide +kernel
theorem dX3_readSum_130 : decode cX3_readSum 130 = .ok (.invokevirtual 120, 3) := by decide +kernel
theorem dX3_readSum_133 : decode cX3_readSum 133 = .ok (.goto 5, 3) := by decide +kernel
theorem dX3_readSum_136 : decode cX3_readSum 136 = .ok (.iconst 0, 1) := by decide +kernel
theorem dX3_readSum_137 : decode cX3_readSum 137 = .ok (.istore_n 3, 1) := by decide +kernel
theorem dX3_readSum_138 : decode cX3_readSum 138 = .ok (.iinc 4 1, 3) := by decide +kernel
theorem dX3_readSum_141 : decode cX3_readSum 141 = .ok (.goto (-129), 3) := by decide +kernel
theorem dX3_readSum_144 : decode cX3_readSum 144 = .ok (.iload_n 2, 1) := by decide +kernel
theorem dX3_readSum_145 : decode cX3_readSum 145 = .ok (.iconst (-1), 1) := by decide +kernel
theorem dX3_readSum_146 : decode cX3_readSum 146 = .ok (.if_icmp .eq 9, 3) := by decide +kernel
theorem dX3_readSum_149 : decode cX3_readSum 149 = .ok (.aload_n 0, 1) := by decide +kernel
theorem dX3_readSum_150 : decode cX3_readSum 150 = .ok (.iload_n 2, 1) := by decide +kernel
theorem dX3_readSum_151 : decode cX3_readSum 151 = .ok (.iconst 0, 1) := by decide +kernel
theorem dX3_readSum_152 : decode cX3_readSum 152 = .ok (.invokevirtual 82, 3) := by decide +kernel
theorem dX3_readSum_155 : decode cX3_readSum 155 = .ok (.return_, 1) := by decide +kernel
theorem dX3_readValue_0 : decode cX3_readValue 0 = .ok (.aload_n 1, 1) := by decide +kernel
theorem dX3_readValue_1 : decode cX3_readValue 1 = .ok (.getfield 87, 3) := by decide +kernel
theorem dX3_readValue_4 : decode cX3_readValue 4 = .ok (.ifCond .eq 4, 3) := by decide +kernel
theorem dX3_readValue_7 : decode cX3_readValue 7 = .ok (.return_, 1) := by decide +kernel
theorem dX3_readValue_8 : decode cX3_readValue 8 = .ok (.aload_n 1, 1) := by decide +kernel
theorem dX3_readValue_9 : decode cX3_readValue 9 = .ok (.invokevirtual 90, 3) := by decide +kernel
theorem dX3_readValue_12 : decode cX3_readValue 12 = .ok (.invokestatic 123, 3) := by decide +kernel
theorem dX3_readValue_15 : decode cX3_readValue 15 = .ok (.ifCond .eq 18, 3) := by decide +kernel
theorem dX3_readValue_18 : decode cX3_readValue 18 = .ok (.aload_n 0, 1) := by decide +kernel
theorem dX3_readValue_19 : decode cX3_readValue 19 = .ok (.iconst 0, 1) := by decide +kernel
theorem dX3_readValue_20 : decode cX3_readValue 20 = .ok (.aload_n 1, 1) := by decide +kernel
theorem dX3_readValue_21 : decode cX3_readValue 21 = .ok (.iconst 0, 1) := by decide +kernel
theorem dX3_readValue_22 : decode cX3_readValue 22 = .ok (.ldc 127, 2) := by decide +kernel
theorem dX3_readValue_24 : decode cX3_readValue 24 = .ok (.invokevirtual 128, 3) := by decide +kernel
theorem dX3_readValue_27 : decode cX3_readValue 27 = .ok (.invokevirtual 82, 3) := by decide +kernel
theorem dX3_readValue_30 : decode cX3_readValue 30 = .ok (.goto 14, 3) := by decide +kernel
theorem dX3_readValue_33 : decode cX3_readValue 33 = .ok (.aload_n 0, 1) := by decide +kernel
theorem dX3_readValue_34 : decode cX3_readValue 34 = .ok (.iconst 1, 1) := by decide +kernel
theorem dX3_readValue_35 : decode cX3_readValue 35 = .ok (.aload_n 1, 1) := by decide +kernel
theorem dX3_readValue_36 : decode cX3_readValue 36 = .ok (.ldc 132, 2) := by decide +kernel
theorem dX3_readValue_38 : decode cX3_readValue 38 = .ok (.invokevirtual 48, 3) := by decide +kernel
theorem dX3_readValue_41 : decode cX3_readValue 41 = .ok (.invokevirtual 82, 3) := by decide +kernel
theorem dX3_readValue_44 : decode cX3_readValue 44 = .ok (.aload_n 0, 1) := by decide +kernel
theorem dX3_readValue_45 : decode cX3_readValue 45 = .ok (.aload_n 1, 1) := by decide +kernel
theorem dX3_readValue_46 : decode cX3_readValue 46 = .ok (.aload_n 1, 1) := by decide +kernel
theorem dX3_readValue_47 : decode cX3_readValue 47 = .ok (.getfield 66, 3) := by decide +kernel
theorem dX3_readValue_50 : decode cX3_readValue 50 = .ok (.invokevirtual 110, 3) := by decide +kernel
theorem dX3_readValue_53 : decode cX3_readValue 53 = .ok (.return_, 1) := by decide +kernel
theorem dX3_countPart_0 : decode cX3_countPart 0 = .ok (.aload_n 0, 1) := by decide +kernel
theorem dX3_countPart_1 : decode cX3_countPart 1 = .ok (.dup, 1) := by decide +kernel
theorem dX3_countPart_2 : decode cX3_countPart 2 = .ok (.getfield 40, 3) := by decide +kernel
theorem dX3_countPart_5 : decode cX3_countPart 5 = .ok (.iconst 1, 1) := by decide +kernel
theorem dX3_countPart_6 : decode cX3_countPart 6 = .ok (.iadd, 1) := by decide +kernel
theorem dX3_countPart_7 : decode cX3_countPart 7 = .ok (.putfield 40, 3) := by decide +kernel
theorem dX3_countPart_10 : decode cX3_countPart 10 = .ok (.aload_n 0, 1) := by decide +kernel
theorem dX3_countPart_11 : decode cX3_countPart 11 = .ok (.getfield 40, 3) := by decide +kernel
theorem dX3_countPart_14 : decode cX3_countPart 14 = .ok (.bipush 60, 2) := by decide +kernel
theorem dX3_countPart_16 : decode cX3_countPart 16 = .ok (.if_icmp .le 9, 3) := by decide +kernel
theorem dX3_countPart_19 : decode cX3_countPart 19 = .ok (.aload_n 1, 1) := by decide +kernel
theorem dX3_countPart_20 : decode cX3_countPart 20 = .ok (.iload_n 2, 1) := by decide +kernel
theorem dX3_countPart_21 : decode cX3_countPart 21 = .ok (.iconst 3, 1) := by decide +kernel
theorem dX3_countPart_22 : decode cX3_countPart 22 = .ok (.invokevirtual 69, 3) := by decide +kernel
theorem dX3_countPart_25 : decode cX3_countPart 25 = .ok (.return_, 1) := by decide +kernel
theorem dX3_emit_0 : decode cX3_emit 0 = .ok (.aload_n 0, 1) := by decide +kernel
theorem dX3_emit_1 : decode cX3_emit 1 = .ok (.getfield 33, 3) := by decide +kernel
theorem dX3_emit_4 : decode cX3_emit 4 = .ok (.aload_n 0, 1) := by decide +kernel
theorem dX3_emit_5 : decode cX3_emit 5 = .ok (.getfield 11, 3) := by decide +kernel
theorem dX3_emit_8 : decode cX3_emit 8 = .ok (.arraylength, 1) := by decide +kernel
theorem dX3_emit_9 : decode cX3_emit 9 = .ok (.if_icmp .ge 33, 3) := by decide +kernel
theorem dX3_emit_12 : decode cX3_emit 12 = .ok (.aload_n 0, 1) := by decide +kernel
theorem dX3_emit_13 : decode cX3_emit 13 = .ok (.getfield 11, 3) := by decide +kernel
theorem dX3_emit_16 : decode cX3_emit 16 = .ok (.aload_n 0, 1) := by decide +kernel
theorem dX3_emit_17 : decode cX3_emit 17 = .ok (.getfield 33, 3) := by decide +kernel
theorem dX3_emit_20 : decode cX3_emit 20 = .ok (.iload_n 1, 1) := by decide +kernel
theorem dX3_emit_21 : decode cX3_emit 21 = .ok (.iastore, 1) := by decide +kernel
theorem dX3_emit_22 : decode cX3_emit 22 = .ok (.aload_n 0, 1) := by decide +kernel
theorem dX3_emit_23 : decode cX3_emit 23 = .ok (.getfield 17, 3) := by decide +kernel
theorem dX3_emit_26 : decode cX3_emit 26 = .ok (.aload_n 0, 1) := by decide +kernel
theorem dX3_emit_27 : decode cX3_emit 27 = .ok (.getfield 33, 3) := by decide +kernel
theorem dX3_emit_30 : decode cX3_emit 30 = .ok (.iload_n 2, 1) := by decide +kernel
theorem dX3_emit_31 : decode cX3_emit 31 = .ok (.iastore, 1) := by decide +kernel
theorem dX3_emit_32 : decode cX3_emit 32 = .ok (.aload_n 0, 1) := by decide +kernel
theorem dX3_emit_33 : decode cX3_emit 33 = .ok (.dup, 1) := by decide +kernel
theorem dX3_emit_34 : decode cX3_emit 34 = .ok (.getfield 33, 3) := by decide +kernel
theorem dX3_emit_37 : decode cX3_emit 37 = .ok (.iconst 1, 1) := by decide +kernel
theorem dX3_emit_38 : decode cX3_emit 38 = .ok (.iadd, 1) := by decide +kernel
theorem dX3_emit_39 : decode cX3_emit 39 = .ok (.putfield 33, 3) := by decide +kernel
theorem dX3_emit_42 : decode cX3_emit 42 = .ok (.return_, 1) := by decide +kernel
theorem dX3_valueFor_0 : decode cX3_valueFor 0 = .ok (.iconst 0, 1) := by decide +kernel
theorem dX3_valueFor_1 : decode cX3_valueFor 1 = .ok (.istore_n 2, 1) := by decide +kernel
theorem dX3_valueFor_2 : decode cX3_valueFor 2 = .ok (.iload_n 2, 1) := by decide +kernel
theorem dX3_valueFor_3 : decode cX3_valueFor 3 = .ok (.aload_n 0, 1) := by decide +kernel
theorem dX3_valueFor_4 : decode cX3_valueFor 4 = .ok (.getfield 37, 3) := by decide +kernel
theorem dX3_valueFor_7 : decode cX3_valueFor 7 = .ok (.if_icmp .ge 56, 3) := by decide +kernel
theorem dX3_valueFor_10 : decode cX3_valueFor 10 = .ok (.aload_n 0, 1) := by decide +kernel
theorem dX3_valueFor_11 : decode cX3_valueFor 11 = .ok (.getfield 23, 3) := by decide +kernel
theorem dX3_valueFor_14 : decode cX3_valueFor 14 = .ok (.iload_n 2, 1) := by decide +kernel
theorem dX3_valueFor_15 : decode cX3_valueFor 15 = .ok (.iaload, 1) := by decide +kernel
theorem dX3_valueFor_16 : decode cX3_valueFor 16 = .ok (.istore_n 3, 1) := by decide +kernel
theorem dX3_valueFor_17 : decode cX3_valueFor 17 = .ok (.aload_n 0, 1) := by decide +kernel
theorem dX3_valueFor_18 : decode cX3_valueFor 18 = .ok (.getfield 26, 3) := by decide +kernel
theorem dX3_valueFor_21 : decode cX3_valueFor 21 = .ok (.iload_n 2, 1) := by decide +kernel
theorem dX3_valueFor_22 : decode cX3_valueFor 22 = .ok (.iaload, 1) := by decide +kernel
theorem dX3_valueFor_23 : decode cX3_valueFor 23 = .ok (.istore 4, 2) := by decide +kernel
theorem dX3_valueFor_25 : decode cX3_valueFor 25 = .ok (.iload_n 3, 1) := by decide +kernel
theorem dX3_valueFor_26 : decode cX3_valueFor 26 = .ok (.iload 4, 2) := by decide +kernel
theorem dX3_valueFor_28 : decode cX3_valueFor 28 = .ok (.if_icmp .eq 16, 3) := by decide +kernel
theorem dX3_valueFor_31 : decode cX3_valueFor 31 = .ok (.aload_n 0, 1) := by decide +kernel
theorem dX3_valueFor_32 : decode cX3_valueFor 32 = .ok (.iload_n 3, 1) := by decide +kernel
theorem dX3_valueFor_33 : decode cX3_valueFor 33 = .ok (.iload 4, 2) := by decide +kernel
theorem dX3_valueFor_35 : decode cX3_valueFor 35 = .ok (.aload_n 1, 1) := by decide +kernel
theorem dX3_valueFor_36 : decode cX3_valueFor 36 = .ok (.invokevirtual 134, 3) := by decide +kernel
theorem dX3_valueFor_39 : decode cX3_valueFor 39 = .ok (.lconst 0, 1) := by decide +kernel
theorem dX3_valueFor_40 : decode cX3_valueFor 40 = .ok (.lcmp, 1) := by decide +kernel
theorem dX3_valueFor_41 : decode cX3_valueFor 41 = .ok (.ifCond .eq 16, 3) := by decide +kernel
theorem dX3_valueFor_44 : decode cX3_valueFor 44 = .ok (.aload_n 0, 1) := by decide +kernel
theorem dX3_valueFor_45 : decode cX3_valueFor 45 = .ok (.aload_n 0, 1) := by decide +kernel
theorem dX3_valueFor_46 : decode cX3_valueFor 46 = .ok (.getfield 20, 3) := by decide +kernel
theorem dX3_valueFor_49 : decode cX3_valueFor 49 = .ok (.iload_n 2, 1) := by decide +kernel
theorem dX3_valueFor_50 : decode cX3_valueFor 50 = .ok (.iaload, 1) := by decide +kernel
theorem dX3_valueFor_51 : decode cX3_valueFor 51 = .ok (.iload_n 3, 1) := by decide +kernel
theorem dX3_valueFor_52 : decode cX3_valueFor 52 = .ok (.aload_n 1, 1) := by decide +kernel
theorem dX3_valueFor_53 : decode cX3_valueFor 53 = .ok (.invokevirtual 134, 3) := by decide +kernel
theorem dX3_valueFor_56 : decode cX3_valueFor 56 = .ok (.lreturn, 1) := by decide +kernel
theorem dX3_valueFor_57 : decode cX3_valueFor 57 = .ok (.iinc 2 1, 3) := by decide +kernel
theorem dX3_valueFor_60 : decode cX3_valueFor 60 = .ok (.goto (-58), 3) := by decide +kernel
theorem dX3_valueFor_63 : decode cX3_valueFor 63 = .ok (.lconst 0, 1) := by decide +kernel
theorem dX3_valueFor_64 : decode cX3_valueFor 64 = .ok (.lreturn, 1) := by decide +kernel
theorem dX3_reckon_0 : decode cX3_reckon 0 = .ok (.iconst 0, 1) := by decide +kernel
theorem dX3_reckon_1 : decode cX3_reckon 1 = .ok (.istore 4, 2) := by decide +kernel
theorem dX3_reckon_3 : decode cX3_reckon 3 = .ok (.iload_n 1, 1) := by decide +kernel
theorem dX3_reckon_4 : decode cX3_reckon 4 = .ok (.istore 5, 2) := by decide +kernel
theorem dX3_reckon_6 : decode cX3_reckon 6 = .ok (.iload 5, 2) := by decide +kernel
theorem dX3_reckon_8 : decode cX3_reckon 8 = .ok (.iload_n 2, 1) := by decide +kernel
theorem dX3_reckon_9 : decode cX3_reckon 9 = .ok (.if_icmp .ge 140, 3) := by decide +kernel
theorem dX3_reckon_12 : decode cX3_reckon 12 = .ok (.aload_n 0, 1) := by decide +kernel
theorem dX3_reckon_13 : decode cX3_reckon 13 = .ok (.getfield 11, 3) := by decide +kernel
theorem dX3_reckon_16 : decode cX3_reckon 16 = .ok (.iload 5, 2) := by decide +kernel
theorem dX3_reckon_18 : decode cX3_reckon 18 = .ok (.iaload, 1) := by decide +kernel
theorem dX3_reckon_19 : decode cX3_reckon 19 = .ok (.istore 6, 2) := by decide +kernel
theorem dX3_reckon_21 : decode cX3_reckon 21 = .ok (.iload 6, 2) := by decide +kernel
theorem dX3_reckon_23 : decode cX3_reckon 23 = .ok (.ifCond .eq 9, 3) := by decide +kernel
theorem dX3_reckon_26 : decode cX3_reckon 26 = .ok (.iload 6, 2) := by decide +kernel
theorem dX3_reckon_28 : decode cX3_reckon 28 = .ok (.iconst 1, 1) := by decide +kernel
theorem dX3_reckon_29 : decode cX3_reckon 29 = .ok (.if_icmp .ne 33, 3) := by decide +kernel
theorem dX3_reckon_32 : decode cX3_reckon 32 = .ok (.iload 4, 2) := by decide +kernel
theorem dX3_reckon_34 : decode cX3_reckon 34 = .ok (.aload_n 0, 1) := by decide +kernel
theorem dX3_reckon_35 : decode cX3_reckon 35 = .ok (.getfield 29, 3) := by decide +kernel
theorem dX3_reckon_38 : decode cX3_reckon 38 = .ok (.arraylength, 1) := by decide +kernel
theorem dX3_reckon_39 : decode cX3_reckon 39 = .ok (.if_icmp .ge 104, 3) := by decide +kernel
theorem dX3_reckon_42 : decode cX3_reckon 42 = .ok (.aload_n 0, 1) := by decide +kernel
theorem dX3_reckon_43 : decode cX3_reckon 43 = .ok (.getfield 29, 3) := by decide +kernel
theorem dX3_reckon_46 : decode cX3_reckon 46 = .ok (.iload 4, 2) := by decide +kernel
theorem dX3_reckon_48 : decode cX3_reckon 48 = .ok (.aload_n 0, 1) := by decide +kernel
theorem dX3_reckon_49 : decode cX3_reckon 49 = .ok (.iload 5, 2) := by decide +kernel
theorem dX3_reckon_51 : decode cX3_reckon 51 = .ok (.aload_n 3, 1) := by decide +kernel
theorem dX3_reckon_52 : decode cX3_reckon 52 = .ok (.invokevirtual 138, 3) := by decide +kernel
theorem dX3_reckon_55 : decode cX3_reckon 55 = .ok (.lastore, 1) := by decide +kernel
theorem dX3_reckon_56 : decode cX3_reckon 56 = .ok (.iinc 4 1, 3) := by decide +kernel
theorem dX3_reckon_59 : decode cX3_reckon 59 = .ok (.goto 84, 3) := by decide +kernel
theorem dX3_reckon_62 : decode cX3_reckon 62 = .ok (.iload 6, 2) := by decide +kernel
theorem dX3_reckon_64 : decode cX3_reckon 64 = .ok (.iconst 2, 1) := by decide +kernel
theorem dX3_reckon_65 : decode cX3_reckon 65 = .ok (.if_icmp .ne 39, 3) := by decide +kernel
theorem dX3_reckon_68 : decode cX3_reckon 68 = .ok (.iload 4, 2) := by decide +kernel
theorem dX3_reckon_70 : decode cX3_reckon 70 = .ok (.ifCond .le 34, 3) := by decide +kernel
theorem dX3_reckon_73 : decode cX3_reckon 73 = .ok (.aload_n 0, 1) := by decide +kernel
theorem dX3_reckon_74 : decode cX3_reckon 74 = .ok (.getfield 29, 3) := by decide +kernel
theorem dX3_reckon_77 : decode cX3_reckon 77 = .ok (.iload 4, 2) := by decide +kernel
theorem dX3_reckon_79 : decode cX3_reckon 79 = .ok (.iconst 1, 1) := by decide +kernel
theorem dX3_reckon_80 : decode cX3_reckon 80 = .ok (.isub, 1) := by decide +kernel
theorem dX3_reckon_81 : decode cX3_reckon 81 = .ok (.aload_n 0, 1) := by decide +kernel
theorem dX3_reckon_82 : decode cX3_reckon 82 = .ok (.getfield 29, 3) := by decide +kernel
theorem dX3_reckon_85 : decode cX3_reckon 85 = .ok (.iload 4, 2) := by decide +kernel
theorem dX3_reckon_87 : decode cX3_reckon 87 = .ok (.iconst 1, 1) := by decide +kernel
theorem dX3_reckon_88 : decode cX3_reckon 88 = .ok (.isub, 1) := by decide +kernel
theorem dX3_reckon_89 : decode cX3_reckon 89 = .ok (.laload, 1) := by decide +kernel
theorem dX3_reckon_90 : decode cX3_reckon 90 = .ok (.lconst 0, 1) := by decide +kernel
theorem dX3_reckon_91 : decode cX3_reckon 91 = .ok (.lcmp, 1) := by decide +kernel
theorem dX3_reckon_92 : decode cX3_reckon 92 = .ok (.ifCond .ne 7, 3) := by decide +kernel
theorem dX3_reckon_95 : decode cX3_reckon 95 = .ok (.lconst 1, 1) := by decide +kernel
theorem dX3_reckon_96 : decode cX3_reckon 96 = .ok (.goto 4, 3) := by decide +kernel
theorem dX3_reckon_99 : decode cX3_reckon 99 = .ok (.lconst 0, 1) := by decide +kernel
theorem dX3_reckon_100 : decode cX3_reckon 100 = .ok (.lastore, 1) := by decide +kernel
theorem dX3_reckon_101 : decode cX3_reckon 101 = .ok (.goto 42, 3) := by decide +kernel
theorem dX3_reckon_104 : decode cX3_reckon 104 = .ok (.iload 4, 2) := by decide +kernel
theorem dX3_reckon_106 : decode cX3_reckon 106 = .ok (.iconst 1, 1) := by decide +kernel
theorem dX3_reckon_107 : decode cX3_reckon 107 = .ok (.if_icmp .le 36, 3) := by decide +kernel
theorem dX3_reckon_110 : decode cX3_reckon 110 = .ok (.iinc 4 (-1), 3) := by decide +kernel
theorem dX3_reckon_113 : decode cX3_reckon 113 = .ok (.aload_n 0, 1) := by decide +kernel
theorem dX3_reckon_114 : decode cX3_reckon 114 = .ok (.getfield 29, 3) := by decide +kernel
theorem dX3_reckon_117 : decode cX3_reckon 117 = .ok (.iload 4, 2) := by decide +kernel
theorem dX3_reckon_119 : decode cX3_reckon 119 = .ok (.iconst 1, 1) := by decide +kernel
theorem dX3_reckon_120 : decode cX3_reckon 120 = .ok (.isub, 1) := by decide +kernel
theorem dX3_reckon_121 : decode cX3_reckon 121 = .ok (.iload 6, 2) := by decide +kernel
theorem dX3_reckon_123 : decode cX3_reckon 123 = .ok (.aload_n 0, 1) := by decide +kernel
theorem dX3_reckon_124 : decode cX3_reckon 124 = .ok (.getfield 29, 3) := by decide +kernel
theorem dX3_reckon_127 : decode cX3_reckon 127 = .ok (.iload 4, 2) := by decide +kernel
theorem dX3_reckon_129 : decode cX3_reckon 129 = .ok (.iconst 1, 1) := by decide +kernel
theorem dX3_reckon_130 : decode cX3_reckon 130 = .ok (.isub, 1) := by decide +kernel
theorem dX3_reckon_131 : decode cX3_reckon 131 = .ok (.laload, 1) := by decide +kernel
theorem dX3_reckon_132 : decode cX3_reckon 132 = .ok (.aload_n 0, 1) := by decide +kernel
theorem dX3_reckon_133 : decode cX3_reckon 133 = .ok (.getfield 29, 3) := by decide +kernel
theorem dX3_reckon_136 : decode cX3_reckon 136 = .ok (.iload 4, 2) := by decide +kernel
theorem dX3_reckon_138 : decode cX3_reckon 138 = .ok (.laload, 1) := by decide +kernel
theorem dX3_reckon_139 : decode cX3_reckon 139 = .ok (.invokestatic 142, 3) := by decide +kernel
theorem dX3_reckon_142 : decode cX3_reckon 142 = .ok (.lastore, 1) := by decide +kernel
theorem dX3_reckon_143 : decode cX3_reckon 143 = .ok (.iinc 5 1, 3) := by decide +kernel
theorem dX3_reckon_146 : decode cX3_reckon 146 = .ok (.goto (-140), 3) := by decide +kernel
theorem dX3_reckon_149 : decode cX3_reckon 149 = .ok (.iload 4, 2) := by decide +kernel
theorem dX3_reckon_151 : decode cX3_reckon 151 = .ok (.ifCond .le 12, 3) := by decide +kernel
theorem dX3_reckon_154 : decode cX3_reckon 154 = .ok (.aload_n 0, 1) := by decide +kernel
theorem dX3_reckon_155 : decode cX3_reckon 155 = .ok (.getfield 29, 3) := by decide +kernel
theorem dX3_reckon_158 : decode cX3_reckon 158 = .ok (.iconst 0, 1) := by decide +kernel
theorem dX3_reckon_159 : decode cX3_reckon 159 = .ok (.laload, 1) := by decide +kernel
theorem dX3_reckon_160 : decode cX3_reckon 160 = .ok (.goto 4, 3) := by decide +kernel
theorem dX3_reckon_163 : decode cX3_reckon 163 = .ok (.lconst 0, 1) := by decide +kernel
theorem dX3_reckon_164 : decode cX3_reckon 164 = .ok (.lreturn, 1) := by decide +kernel
theorem dX3_pushed_0 : decode cX3_pushed 0 = .ok (.aload_n 0, 1) := by decide +kernel
theorem dX3_pushed_1 : decode cX3_pushed 1 = .ok (.getfield 17, 3) := by decide +kernel
theorem dX3_pushed_4 : decode cX3_pushed 4 = .ok (.iload_n 1, 1) := by decide +kernel
theorem dX3_pushed_5 : decode cX3_pushed 5 = .ok (.iaload, 1) := by decide +kernel
theorem dX3_pushed_6 : decode cX3_pushed 6 = .ok (.istore_n 3, 1) := by decide +kernel
theorem dX3_pushed_7 : decode cX3_pushed 7 = .ok (.aload_n 0, 1) := by decide +kernel
theorem dX3_pushed_8 : decode cX3_pushed 8 = .ok (.getfield 11, 3) := by decide +kernel
theorem dX3_pushed_11 : decode cX3_pushed 11 = .ok (.iload_n 1, 1) := by decide +kernel
theorem dX3_pushed_12 : decode cX3_pushed 12 = .ok (.iaload, 1) := by decide +kernel
theorem dX3_pushed_13 : decode cX3_pushed 13 = .ok (.ifCond .ne 6, 3) := by decide +kernel
theorem dX3_pushed_16 : decode cX3_pushed 16 = .ok (.iload_n 3, 1) := by decide +kernel
theorem dX3_pushed_17 : decode cX3_pushed 17 = .ok (.i2l, 1) := by decide +kernel
theorem dX3_pushed_18 : decode cX3_pushed 18 = .ok (.lreturn, 1) := by decide +kernel
theorem dX3_pushed_19 : decode cX3_pushed 19 = .ok (.iload_n 3, 1) := by decide +kernel
theorem dX3_pushed_20 : decode cX3_pushed 20 = .ok (.ifCond .lt 15, 3) := by decide +kernel
theorem dX3_pushed_23 : decode cX3_pushed 23 = .ok (.iload_n 3, 1) := by decide +kernel
theorem dX3_pushed_24 : decode cX3_pushed 24 = .ok (.aload_n 2, 1) := by decide +kernel
theorem dX3_pushed_25 : decode cX3_pushed 25 = .ok (.arraylength, 1) := by decide +kernel
theorem dX3_pushed_26 : decode cX3_pushed 26 = .ok (.if_icmp .ge 9, 3) := by decide +kernel
theorem dX3_pushed_29 : decode cX3_pushed 29 = .ok (.aload_n 2, 1) := by decide +kernel
theorem dX3_pushed_30 : decode cX3_pushed 30 = .ok (.iload_n 3, 1) := by decide +kernel
theorem dX3_pushed_31 : decode cX3_pushed 31 = .ok (.laload, 1) := by decide +kernel
theorem dX3_pushed_32 : decode cX3_pushed 32 = .ok (.goto 4, 3) := by decide +kernel
theorem dX3_pushed_35 : decode cX3_pushed 35 = .ok (.lconst 0, 1) := by decide +kernel
theorem dX3_pushed_36 : decode cX3_pushed 36 = .ok (.lreturn, 1) := by decide +kernel
theorem dX3_join_0 : decode cX3_join 0 = .ok (.iload_n 0, 1) := by decide +kernel
theorem dX3_join_1 : decode cX3_join 1 = .ok (.lookupswitch 115 #[(37, 93), (38, 107), (42, 75), (43, 67), (45, 71), (47, 79), (124, 111)], 67) := by decide +kernel
theorem dX3_join_68 : decode cX3_join 68 = .ok (.lload_n 1, 1) := by decide +kernel
theorem dX3_join_69 : decode cX3_join 69 = .ok (.lload_n 3, 1) := by decide +kernel
theorem dX3_join_70 : decode cX3_join 70 = .ok (.ladd, 1) := by decide +kernel
theorem dX3_join_71 : decode cX3_join 71 = .ok (.lreturn, 1) := by decide +kernel
theorem dX3_join_72 : decode cX3_join 72 = .ok (.lload_n 1, 1) := by decide +kernel
theorem dX3_join_73 : decode cX3_join 73 = .ok (.lload_n 3, 1) := by decide +kernel
theorem dX3_join_74 : decode cX3_join 74 = .ok (.lsub, 1) := by decide +kernel
theorem dX3_join_75 : decode cX3_join 75 = .ok (.lreturn, 1) := by decide +kernel
theorem dX3_join_76 : decode cX3_join 76 = .ok (.lload_n 1, 1) := by decide +kernel
theorem dX3_join_77 : decode cX3_join 77 = .ok (.lload_n 3, 1) := by decide +kernel
theorem dX3_join_78 : decode cX3_join 78 = .ok (.lmul, 1) := by decide +kernel
theorem dX3_join_79 : decode cX3_join 79 = .ok (.lreturn, 1) := by decide +kernel
theorem dX3_join_80 : decode cX3_join 80 = .ok (.lload_n 3, 1) := by decide +kernel
theorem dX3_join_81 : decode cX3_join 81 = .ok (.lconst 0, 1) := by decide +kernel
theorem dX3_join_82 : decode cX3_join 82 = .ok (.lcmp, 1) := by decide +kernel
theorem dX3_join_83 : decode cX3_join 83 = .ok (.ifCond .ne 7, 3) := by decide +kernel
theorem dX3_join_86 : decode cX3_join 86 = .ok (.lconst 0, 1) := by decide +kernel
theorem dX3_join_87 : decode cX3_join 87 = .ok (.goto 6, 3) := by decide +kernel
theorem dX3_join_90 : decode cX3_join 90 = .ok (.lload_n 1, 1) := by decide +kernel
theorem dX3_join_91 : decode cX3_join 91 = .ok (.lload_n 3, 1) := by decide +kernel
theorem dX3_join_92 : decode cX3_join 92 = .ok (.ldiv, 1) := by decide +kernel
theorem dX3_join_93 : decode cX3_join 93 = .ok (.lreturn, 1) := by decide +kernel
theorem dX3_join_94 : decode cX3_join 94 = .ok (.lload_n 3, 1) := by decide +kernel
theorem dX3_join_95 : decode cX3_join 95 = .ok (.lconst 0, 1) := by decide +kernel
theorem dX3_join_96 : decode cX3_join 96 = .ok (.lcmp, 1) := by decide +kernel
theorem dX3_join_97 : decode cX3_join 97 = .ok (.ifCond .ne 7, 3) := by decide +kernel
theorem dX3_join_100 : decode cX3_join 100 = .ok (.lconst 0, 1) := by decide +kernel
theorem dX3_join_101 : decode cX3_join 101 = .ok (.goto 6, 3) := by decide +kernel
theorem dX3_join_104 : decode cX3_join 104 = .ok (.lload_n 1, 1) := by decide +kernel
theorem dX3_join_105 : decode cX3_join 105 = .ok (.lload_n 3, 1) := by decide +kernel
theorem dX3_join_106 : decode cX3_join 106 = .ok (.lrem, 1) := by decide +kernel
theorem dX3_join_107 : decode cX3_join 107 = .ok (.lreturn, 1) := by decide +kernel
theorem dX3_join_108 : decode cX3_join 108 = .ok (.lload_n 1, 1) := by decide +kernel
theorem dX3_join_109 : decode cX3_join 109 = .ok (.lload_n 3, 1) := by decide +kernel
theorem dX3_join_110 : decode cX3_join 110 = .ok (.land, 1) := by decide +kernel
theorem dX3_join_111 : decode cX3_join 111 = .ok (.lreturn, 1) := by decide +kernel
theorem dX3_join_112 : decode cX3_join 112 = .ok (.lload_n 1, 1) := by decide +kernel
theorem dX3_join_113 : decode cX3_join 113 = .ok (.lload_n 3, 1) := by decide +kernel
theorem dX3_join_114 : decode cX3_join 114 = .ok (.lor, 1) := by decide +kernel
theorem dX3_join_115 : decode cX3_join 115 = .ok (.lreturn, 1) := by decide +kernel
theorem dX3_join_116 : decode cX3_join 116 = .ok (.iload_n 0, 1) := by decide +kernel
theorem dX3_join_117 : decode cX3_join 117 = .ok (.lload_n 1, 1) := by decide +kernel
theorem dX3_join_118 : decode cX3_join 118 = .ok (.lload_n 3, 1) := by decide +kernel
theorem dX3_join_119 : decode cX3_join 119 = .ok (.invokestatic 146, 3) := by decide +kernel
theorem dX3_join_122 : decode cX3_join 122 = .ok (.ifCond .eq 7, 3) := by decide +kernel
theorem dX3_join_125 : decode cX3_join 125 = .ok (.lconst 1, 1) := by decide +kernel
theorem dX3_join_126 : decode cX3_join 126 = .ok (.goto 4, 3) := by decide +kernel
theorem dX3_join_129 : decode cX3_join 129 = .ok (.lconst 0, 1) := by decide +kernel
theorem dX3_join_130 : decode cX3_join 130 = .ok (.lreturn, 1) := by decide +kernel
theorem dX3_compares_0 : decode cX3_compares 0 = .ok (.iload_n 0, 1) := by decide +kernel
theorem dX3_compares_1 : decode cX3_compares 1 = .ok (.lookupswitch 91 #[(60, 43), (61, 67), (103, 79), (108, 55)], 43) := by decide +kernel
theorem dX3_compares_44 : decode cX3_compares 44 = .ok (.lload_n 1, 1) := by decide +kernel
theorem dX3_compares_45 : decode cX3_compares 45 = .ok (.lload_n 3, 1) := by decide +kernel
theorem dX3_compares_46 : decode cX3_compares 46 = .ok (.lcmp, 1) := by decide +kernel
theorem dX3_compares_47 : decode cX3_compares 47 = .ok (.ifCond .ge 7, 3) := by decide +kernel
theorem dX3_compares_50 : decode cX3_compares 50 = .ok (.iconst 1, 1) := by decide +kernel
theorem dX3_compares_51 : decode cX3_compares 51 = .ok (.goto 4, 3) := by decide +kernel
theorem dX3_compares_54 : decode cX3_compares 54 = .ok (.iconst 0, 1) := by decide +kernel
theorem dX3_compares_55 : decode cX3_compares 55 = .ok (.ireturn, 1) := by decide +kernel
theorem dX3_compares_56 : decode cX3_compares 56 = .ok (.lload_n 1, 1) := by decide +kernel
theorem dX3_compares_57 : decode cX3_compares 57 = .ok (.lload_n 3, 1) := by decide +kernel
theorem dX3_compares_58 : decode cX3_compares 58 = .ok (.lcmp, 1) := by decide +kernel
theorem dX3_compares_59 : decode cX3_compares 59 = .ok (.ifCond .gt 7, 3) := by decide +kernel
theorem dX3_compares_62 : decode cX3_compares 62 = .ok (.iconst 1, 1) := by decide +kernel
theorem dX3_compares_63 : decode cX3_compares 63 = .ok (.goto 4, 3) := by decide +kernel
theorem dX3_compares_66 : decode cX3_compares 66 = .ok (.iconst 0, 1) := by decide +kernel
theorem dX3_compares_67 : decode cX3_compares 67 = .ok (.ireturn, 1) := by decide +kernel
theorem dX3_compares_68 : decode cX3_compares 68 = .ok (.lload_n 1, 1) := by decide +kernel
theorem dX3_compares_69 : decode cX3_compares 69 = .ok (.lload_n 3, 1) := by decide +kernel
theorem dX3_compares_70 : decode cX3_compares 70 = .ok (.lcmp, 1) := by decide +kernel
theorem dX3_compares_71 : decode cX3_compares 71 = .ok (.ifCond .ne 7, 3) := by decide +kernel
theorem dX3_compares_74 : decode cX3_compares 74 = .ok (.iconst 1, 1) := by decide +kernel
theorem dX3_compares_75 : decode cX3_compares 75 = .ok (.goto 4, 3) := by decide +kernel
theorem dX3_compares_78 : decode cX3_compares 78 = .ok (.iconst 0, 1) := by decide +kernel
theorem dX3_compares_79 : decode cX3_compares 79 = .ok (.ireturn, 1) := by decide +kernel
theorem dX3_compares_80 : decode cX3_compares 80 = .ok (.lload_n 1, 1) := by decide +kernel
theorem dX3_compares_81 : decode cX3_compares 81 = .ok (.lload_n 3, 1) := by decide +kernel
theorem dX3_compares_82 : decode cX3_compares 82 = .ok (.lcmp, 1) := by decide +kernel
theorem dX3_compares_83 : decode cX3_compares 83 = .ok (.ifCond .lt 7, 3) := by decide +kernel
theorem dX3_compares_86 : decode cX3_compares 86 = .ok (.iconst 1, 1) := by decide +kernel
theorem dX3_compares_87 : decode cX3_compares 87 = .ok (.goto 4, 3) := by decide +kernel
theorem dX3_compares_90 : decode cX3_compares 90 = .ok (.iconst 0, 1) := by decide +kernel
theorem dX3_compares_91 : decode cX3_compares 91 = .ok (.ireturn, 1) := by decide +kernel
theorem dX3_compares_92 : decode cX3_compares 92 = .ok (.lload_n 1, 1) := by decide +kernel
theorem dX3_compares_93 : decode cX3_compares 93 = .ok (.lload_n 3, 1) := by decide +kernel
theorem dX3_compares_94 : decode cX3_compares 94 = .ok (.lcmp, 1) := by decide +kernel
theorem dX3_compares_95 : decode cX3_compares 95 = .ok (.ifCond .le 7, 3) := by decide +kernel
theorem dX3_compares_98 : decode cX3_compares 98 = .ok (.iconst 1, 1) := by decide +kernel
theorem dX3_compares_99 : decode cX3_compares 99 = .ok (.goto 4, 3) := by decide +kernel
theorem dX3_compares_102 : decode cX3_compares 102 = .ok (.iconst 0, 1) := by decide +kernel
theorem dX3_compares_103 : decode cX3_compares 103 = .ok (.ireturn, 1) := by decide +kernel
theorem dX4_init_0 : decode cX4_init 0 = .ok (.aload_n 0, 1) := by decide +kernel
theorem dX4_init_1 : decode cX4_init 1 = .ok (.invokespecial 3, 3) := by decide +kernel
theorem dX4_init_4 : decode cX4_init 4 = .ok (.aload_n 0, 1) := by decide +kernel
theorem dX4_init_5 : decode cX4_init 5 = .ok (.iconst 0, 1) := by decide +kernel
theorem dX4_init_6 : decode cX4_init 6 = .ok (.putfield 9, 3) := by decide +kernel
theorem dX4_init_9 : decode cX4_init 9 = .ok (.aload_n 0, 1) := by decide +kernel
theorem dX4_init_10 : decode cX4_init 10 = .ok (.iconst 4, 1) := by decide +kernel
theorem dX4_init_11 : decode cX4_init 11 = .ok (.newarray .int, 2) := by decide +kernel
theorem dX4_init_13 : decode cX4_init 13 = .ok (.putfield 15, 3) := by decide +kernel
theorem dX4_init_16 : decode cX4_init 16 = .ok (.aload_n 0, 1) := by decide +kernel
theorem dX4_init_17 : decode cX4_init 17 = .ok (.iconst 4, 1) := by decide +kernel
theorem dX4_init_18 : decode cX4_init 18 = .ok (.newarray .int, 2) := by decide +kernel
theorem dX4_init_20 : decode cX4_init 20 = .ok (.putfield 19, 3) := by decide +kernel
theorem dX4_init_23 : decode cX4_init 23 = .ok (.aload_n 0, 1) := by decide +kernel
theorem dX4_init_24 : decode cX4_init 24 = .ok (.bipush 36, 2) := by decide +kernel
theorem dX4_init_26 : decode cX4_init 26 = .ok (.newarray .int, 2) := by decide +kernel
theorem dX4_init_28 : decode cX4_init 28 = .ok (.putfield 22, 3) := by decide +kernel
theorem dX4_init_31 : decode cX4_init 31 = .ok (.aload_n 0, 1) := by decide +kernel
theorem dX4_init_32 : decode cX4_init 32 = .ok (.bipush 36, 2) := by decide +kernel
theorem dX4_init_34 : decode cX4_init 34 = .ok (.newarray .int, 2) := by decide +kernel
theorem dX4_init_36 : decode cX4_init 36 = .ok (.putfield 25, 3) := by decide +kernel
theorem dX4_init_39 : decode cX4_init 39 = .ok (.aload_n 0, 1) := by decide +kernel
theorem dX4_init_40 : decode cX4_init 40 = .ok (.aload_n 1, 1) := by decide +kernel
theorem dX4_init_41 : decode cX4_init 41 = .ok (.putfield 28, 3) := by decide +kernel
theorem dX4_init_44 : decode cX4_init 44 = .ok (.return_, 1) := by decide +kernel
theorem dX4_startIn_0 : decode cX4_startIn 0 = .ok (.aload_n 0, 1) := by decide +kernel
theorem dX4_startIn_1 : decode cX4_startIn 1 = .ok (.aload_n 1, 1) := by decide +kernel
theorem dX4_startIn_2 : decode cX4_startIn 2 = .ok (.putfield 28, 3) := by decide +kernel
theorem dX4_startIn_5 : decode cX4_startIn 5 = .ok (.aload_n 0, 1) := by decide +kernel
theorem dX4_startIn_6 : decode cX4_startIn 6 = .ok (.iconst 0, 1) := by decide +kernel
theorem dX4_startIn_7 : decode cX4_startIn 7 = .ok (.putfield 9, 3) := by decide +kernel
theorem dX4_startIn_10 : decode cX4_startIn 10 = .ok (.aload_n 1, 1) := by decide +kernel
theorem dX4_startIn_11 : decode cX4_startIn 11 = .ok (.getfield 32, 3) := by decide +kernel
theorem dX4_startIn_14 : decode cX4_startIn 14 = .ok (.iconst 0, 1) := by decide +kernel
theorem dX4_startIn_15 : decode cX4_startIn 15 = .ok (.aload_n 0, 1) := by decide +kernel
theorem dX4_startIn_16 : decode cX4_startIn 16 = .ok (.getfield 15, 3) := by decide +kernel
theorem dX4_startIn_19 : decode cX4_startIn 19 = .ok (.iconst 0, 1) := by decide +kernel
theorem dX4_startIn_20 : decode cX4_startIn 20 = .ok (.aload_n 0, 1) := by decide +kernel
theorem dX4_startIn_21 : decode cX4_startIn 21 = .ok (.getfield 15, 3) := by decide +kernel
theorem dX4_startIn_24 : decode cX4_startIn 24 = .ok (.arraylength, 1) := by decide +kernel
theorem dX4_startIn_25 : decode cX4_startIn 25 = .ok (.invokestatic 37, 3) := by decide +kernel
theorem dX4_startIn_28 : decode cX4_startIn 28 = .ok (.aload_n 1, 1) := by decide +kernel
theorem dX4_startIn_29 : decode cX4_startIn 29 = .ok (.getfield 43, 3) := by decide +kernel
theorem dX4_startIn_32 : decode cX4_startIn 32 = .ok (.iconst 0, 1) := by decide +kernel
theorem dX4_startIn_33 : decode cX4_startIn 33 = .ok (.aload_n 0, 1) := by decide +kernel
theorem dX4_startIn_34 : decode cX4_startIn 34 = .ok (.getfield 22, 3) := by decide +kernel
theorem dX4_startIn_37 : decode cX4_startIn 37 = .ok (.iconst 0, 1) := by decide +kernel
theorem dX4_startIn_38 : decode cX4_startIn 38 = .ok (.aload_n 0, 1) := by decide +kernel
theorem dX4_startIn_39 : decode cX4_startIn 39 = .ok (.getfield 22, 3) := by decide +kernel
theorem dX4_startIn_42 : decode cX4_startIn 42 = .ok (.arraylength, 1) := by decide +kernel
theorem dX4_startIn_43 : decode cX4_startIn 43 = .ok (.invokestatic 37, 3) := by decide +kernel
theorem dX4_startIn_46 : decode cX4_startIn 46 = .ok (.aload_n 0, 1) := by decide +kernel
theorem dX4_startIn_47 : decode cX4_startIn 47 = .ok (.getfield 19, 3) := by decide +kernel
theorem dX4_startIn_50 : decode cX4_startIn 50 = .ok (.iconst 0, 1) := by decide +kernel
theorem dX4_startIn_51 : decode cX4_startIn 51 = .ok (.invokestatic 46, 3) := by decide +kernel
theorem dX4_startIn_54 : decode cX4_startIn 54 = .ok (.aload_n 0, 1) := by decide +kernel
theorem dX4_startIn_55 : decode cX4_startIn 55 = .ok (.getfield 25, 3) := by decide +kernel
theorem dX4_startIn_58 : decode cX4_startIn 58 = .ok (.iconst 0, 1) := by decide +kernel
theorem dX4_startIn_59 : decode cX4_startIn 59 = .ok (.invokestatic 46, 3) := by decide +kernel
theorem dX4_startIn_62 : decode cX4_startIn 62 = .ok (.return_, 1) := by decide +kernel
theorem dX4_copy_0 : decode cX4_copy 0 = .ok (.aload_n 0, 1) := by decide +kernel
theorem dX4_copy_1 : decode cX4_copy 1 = .ok (.aload_n 1, 1) := by decide +kernel
theorem dX4_copy_2 : decode cX4_copy 2 = .ok (.getfield 28, 3) := by decide +kernel
theorem dX4_copy_5 : decode cX4_copy 5 = .ok (.putfield 28, 3) := by decide +kernel
theorem dX4_copy_8 : decode cX4_copy 8 = .ok (.aload_n 0, 1) := by decide +kernel
theorem dX4_copy_9 : decode cX4_copy 9 = .ok (.aload_n 1, 1) := by decide +kernel
theorem dX4_copy_10 : decode cX4_copy 10 = .ok (.getfield 9, 3) := by decide +kernel
theorem dX4_copy_13 : decode cX4_copy 13 = .ok (.putfield 9, 3) := by decide +kernel
theorem dX4_copy_16 : decode cX4_copy 16 = .ok (.aload_n 1, 1) := by decide +kernel
theorem dX4_copy_17 : decode cX4_copy 17 = .ok (.getfield 15, 3) := by decide +kernel
theorem dX4_copy_20 : decode cX4_copy 20 = .ok (.iconst 0, 1) := by decide +kernel
theorem dX4_copy_21 : decode cX4_copy 21 = .ok (.aload_n 0, 1) := by decide +kernel
theorem dX4_copy_22 : decode cX4_copy 22 = .ok (.getfield 15, 3) := by decide +kernel
theorem dX4_copy_25 : decode cX4_copy 25 = .ok (.iconst 0, 1) := by decide +kernel
theorem dX4_copy_26 : decode cX4_copy 26 = .ok (.aload_n 0, 1) := by decide +kernel
theorem dX4_copy_27 : decode cX4_copy 27 = .ok (.getfield 15, 3) := by decide +kernel
theorem dX4_copy_30 : decode cX4_copy 30 = .ok (.arraylength, 1) := by decide +kernel
theorem dX4_copy_31 : decode cX4_copy 31 = .ok (.invokestatic 37, 3) := by decide +kernel
theorem dX4_copy_34 : decode cX4_copy 34 = .ok (.aload_n 1, 1) := by decide +kernel
theorem dX4_copy_35 : decode cX4_copy 35 = .ok (.getfield 19, 3) := by decide +kernel
theorem dX4_copy_38 : decode cX4_copy 38 = .ok (.iconst 0, 1) := by decide +kernel
theorem dX4_copy_39 : decode cX4_copy 39 = .ok (.aload_n 0, 1) := by decide +kernel
theorem dX4_copy_40 : decode cX4_copy 40 = .ok (.getfield 19, 3) := by decide +kernel
theorem dX4_copy_43 : decode cX4_copy 43 = .ok (.iconst 0, 1) := by decide +kernel
theorem dX4_copy_44 : decode cX4_copy 44 = .ok (.aload_n 0, 1) := by decide +kernel
theorem dX4_copy_45 : decode cX4_copy 45 = .ok (.getfield 19, 3) := by decide +kernel
theorem dX4_copy_48 : decode cX4_copy 48 = .ok (.arraylength, 1) := by decide +kernel
theorem dX4_copy_49 : decode cX4_copy 49 = .ok (.invokestatic 37, 3) := by decide +kernel
theorem dX4_copy_52 : decode cX4_copy 52 = .ok (.aload_n 1, 1) := by decide +kernel
theorem dX4_copy_53 : decode cX4_copy 53 = .ok (.getfield 22, 3) := by decide +kernel
theorem dX4_copy_56 : decode cX4_copy 56 = .ok (.iconst 0, 1) := by decide +kernel
theorem dX4_copy_57 : decode cX4_copy 57 = .ok (.aload_n 0, 1) := by decide +kernel
theorem dX4_copy_58 : decode cX4_copy 58 = .ok (.getfield 22, 3) := by decide +kernel
theorem dX4_copy_61 : decode cX4_copy 61 = .ok (.iconst 0, 1) := by decide +kernel
theorem dX4_copy_62 : decode cX4_copy 62 = .ok (.aload_n 0, 1) := by decide +kernel
theorem dX4_copy_63 : decode cX4_copy 63 = .ok (.getfield 22, 3) := by decide +kernel
theorem dX4_copy_66 : decode cX4_copy 66 = .ok (.arraylength, 1) := by decide +kernel
theorem dX4_copy_67 : decode cX4_copy 67 = .ok (.invokestatic 37, 3) := by decide +kernel
theorem dX4_copy_70 : decode cX4_copy 70 = .ok (.aload_n 1, 1) := by decide +kernel
theorem dX4_copy_71 : decode cX4_copy 71 = .ok (.getfield 25, 3) := by decide +kernel
theorem dX4_copy_74 : decode cX4_copy 74 = .ok (.iconst 0, 1) := by decide +kernel
theorem dX4_copy_75 : decode cX4_copy 75 = .ok (.aload_n 0, 1) := by decide +kernel
theorem dX4_copy_76 : decode cX4_copy 76 = .ok (.getfield 25, 3) := by decide +kernel
theorem dX4_copy_79 : decode cX4_copy 79 = .ok (.iconst 0, 1) := by decide +kernel
theorem dX4_copy_80 : decode cX4_copy 80 = .ok (.aload_n 0, 1) := by decide +kernel
theorem dX4_copy_81 : decode cX4_copy 81 = .ok (.getfield 25, 3) := by decide +kernel
theorem dX4_copy_84 : decode cX4_copy 84 = .ok (.arraylength, 1) := by decide +kernel
theorem dX4_copy_85 : decode cX4_copy 85 = .ok (.invokestatic 37, 3) := by decide +kernel
theorem dX4_copy_88 : decode cX4_copy 88 = .ok (.return_, 1) := by decide +kernel
theorem dX4_leftTo_0 : decode cX4_leftTo 0 = .ok (.aload_n 0, 1) := by decide +kernel
theorem dX4_leftTo_1 : decode cX4_leftTo 1 = .ok (.getfield 28, 3) := by decide +kernel
theorem dX4_leftTo_4 : decode cX4_leftTo 4 = .ok (.getfield 52, 3) := by decide +kernel
theorem dX4_leftTo_7 : decode cX4_leftTo 7 = .ok (.aload_n 0, 1) := by decide +kernel
theorem dX4_leftTo_8 : decode cX4_leftTo 8 = .ok (.getfield 22, 3) := by decide +kernel
theorem dX4_leftTo_11 : decode cX4_leftTo 11 = .ok (.iload_n 1, 1) := by decide +kernel
theorem dX4_leftTo_12 : decode cX4_leftTo 12 = .ok (.bipush 9, 2) := by decide +kernel
theorem dX4_leftTo_14 : decode cX4_leftTo 14 = .ok (.imul, 1) := by decide +kernel
theorem dX4_leftTo_15 : decode cX4_leftTo 15 = .ok (.iload_n 2, 1) := by decide +kernel
theorem dX4_leftTo_16 : decode cX4_leftTo 16 = .ok (.iadd, 1) := by decide +kernel
theorem dX4_leftTo_17 : decode cX4_leftTo 17 = .ok (.iaload, 1) := by decide +kernel
theorem dX4_leftTo_18 : decode cX4_leftTo 18 = .ok (.isub, 1) := by decide +kernel
theorem dX4_leftTo_19 : decode cX4_leftTo 19 = .ok (.ireturn, 1) := by decide +kernel
theorem dX4_tellLeft_0 : decode cX4_tellLeft 0 = .ok (.iconst 0, 1) := by decide +kernel
theorem dX4_tellLeft_1 : decode cX4_tellLeft 1 = .ok (.istore_n 3, 1) := by decide +kernel
theorem dX4_tellLeft_2 : decode cX4_tellLeft 2 = .ok (.iload_n 3, 1) := by decide +kernel
theorem dX4_tellLeft_3 : decode cX4_tellLeft 3 = .ok (.aload_n 0, 1) := by decide +kernel
theorem dX4_tellLeft_4 : decode cX4_tellLeft 4 = .ok (.getfield 28, 3) := by decide +kernel
theorem dX4_tellLeft_7 : decode cX4_tellLeft 7 = .ok (.getfield 55, 3) := by decide +kernel
theorem dX4_tellLeft_10 : decode cX4_tellLeft 10 = .ok (.getfield 59, 3) := by decide +kernel
theorem dX4_tellLeft_13 : decode cX4_tellLeft 13 = .ok (.if_icmp .ge 18, 3) := by decide +kernel
theorem dX4_tellLeft_16 : decode cX4_tellLeft 16 = .ok (.aload_n 2, 1) := by decide +kernel
theorem dX4_tellLeft_17 : decode cX4_tellLeft 17 = .ok (.iload_n 3, 1) := by decide +kernel
theorem dX4_tellLeft_18 : decode cX4_tellLeft 18 = .ok (.aload_n 0, 1) := by decide +kernel
theorem dX4_tellLeft_19 : decode cX4_tellLeft 19 = .ok (.iload_n 1, 1) := by decide +kernel
theorem dX4_tellLeft_20 : decode cX4_tellLeft 20 = .ok (.iload_n 3, 1) := by decide +kernel
theorem dX4_tellLeft_21 : decode cX4_tellLeft 21 = .ok (.invokevirtual 64, 3) := by decide +kernel
theorem dX4_tellLeft_24 : decode cX4_tellLeft 24 = .ok (.iastore, 1) := by decide +kernel
theorem dX4_tellLeft_25 : decode cX4_tellLeft 25 = .ok (.iinc 3 1, 3) := by decide +kernel
theorem dX4_tellLeft_28 : decode cX4_tellLeft 28 = .ok (.goto (-26), 3) := by decide +kernel
theorem dX4_tellLeft_31 : decode cX4_tellLeft 31 = .ok (.return_, 1) := by decide +kernel
theorem dX4_lostBy_0 : decode cX4_lostBy 0 = .ok (.iconst 0, 1) := by decide +kernel
theorem dX4_lostBy_1 : decode cX4_lostBy 1 = .ok (.istore_n 2, 1) := by decide +kernel
theorem dX4_lostBy_2 : decode cX4_lostBy 2 = .ok (.iconst 0, 1) := by decide +kernel
theorem dX4_lostBy_3 : decode cX4_lostBy 3 = .ok (.istore_n 3, 1) := by decide +kernel
theorem dX4_lostBy_4 : decode cX4_lostBy 4 = .ok (.iload_n 3, 1) := by decide +kernel
theorem dX4_lostBy_5 : decode cX4_lostBy 5 = .ok (.aload_n 0, 1) := by decide +kernel
theorem dX4_lostBy_6 : decode cX4_lostBy 6 = .ok (.getfield 28, 3) := by decide +kernel
theorem dX4_lostBy_9 : decode cX4_lostBy 9 = .ok (.getfield 55, 3) := by decide +kernel
theorem dX4_lostBy_12 : decode cX4_lostBy 12 = .ok (.getfield 59, 3) := by decide +kernel
theorem dX4_lostBy_15 : decode cX4_lostBy 15 = .ok (.if_icmp .ge 24, 3) := by decide +kernel
theorem dX4_lostBy_18 : decode cX4_lostBy 18 = .ok (.aload_n 0, 1) := by decide +kernel
theorem dX4_lostBy_19 : decode cX4_lostBy 19 = .ok (.iload_n 1, 1) := by decide +kernel
theorem dX4_lostBy_20 : decode cX4_lostBy 20 = .ok (.iload_n 3, 1) := by decide +kernel
theorem dX4_lostBy_21 : decode cX4_lostBy 21 = .ok (.invokevirtual 64, 3) := by decide +kernel
theorem dX4_lostBy_24 : decode cX4_lostBy 24 = .ok (.ifCond .ne 9, 3) := by decide +kernel
theorem dX4_lostBy_27 : decode cX4_lostBy 27 = .ok (.iload_n 2, 1) := by decide +kernel
theorem dX4_lostBy_28 : decode cX4_lostBy 28 = .ok (.iconst 1, 1) := by decide +kernel
theorem dX4_lostBy_29 : decode cX4_lostBy 29 = .ok (.iload_n 3, 1) := by decide +kernel
theorem dX4_lostBy_30 : decode cX4_lostBy 30 = .ok (.ishl, 1) := by decide +kernel
theorem dX4_lostBy_31 : decode cX4_lostBy 31 = .ok (.ior, 1) := by decide +kernel
theorem dX4_lostBy_32 : decode cX4_lostBy 32 = .ok (.istore_n 2, 1) := by decide +kernel
theorem dX4_lostBy_33 : decode cX4_lostBy 33 = .ok (.iinc 3 1, 3) := by decide +kernel
theorem dX4_lostBy_36 : decode cX4_lostBy 36 = .ok (.goto (-32), 3) := by decide +kernel
theorem dX4_lostBy_39 : decode cX4_lostBy 39 = .ok (.iload_n 2, 1) := by decide +kernel
theorem dX4_lostBy_40 : decode cX4_lostBy 40 = .ok (.ireturn, 1) := by decide +kernel
theorem dX4_crossedByAll_0 : decode cX4_crossedByAll 0 = .ok (.iconst 0, 1) := by decide +kernel
theorem dX4_crossedByAll_1 : decode cX4_crossedByAll 1 = .ok (.istore_n 2, 1) := by decide +kernel
theorem dX4_crossedByAll_2 : decode cX4_crossedByAll 2 = .ok (.iconst 0, 1) := by decide +kernel
theorem dX4_crossedByAll_3 : decode cX4_crossedByAll 3 = .ok (.istore_n 3, 1) := by decide +kernel
theorem dX4_crossedByAll_4 : decode cX4_crossedByAll 4 = .ok (.iload_n 3, 1) := by decide +kernel
theorem dX4_crossedByAll_5 : decode cX4_crossedByAll 5 = .ok (.aload_n 0, 1) := by decide +kernel
theorem dX4_crossedByAll_6 : decode cX4_crossedByAll 6 = .ok (.getfield 28, 3) := by decide +kernel
theorem dX4_crossedByAll_9 : decode cX4_crossedByAll 9 = .ok (.getfield 68, 3) := by decide +kernel
theorem dX4_crossedByAll_12 : decode cX4_crossedByAll 12 = .ok (.if_icmp .ge 23, 3) := by decide +kernel
theorem dX4_crossedByAll_15 : decode cX4_crossedByAll 15 = .ok (.iload_n 2, 1) := by decide +kernel
theorem dX4_crossedByAll_16 : decode cX4_crossedByAll 16 = .ok (.aload_n 0, 1) := by decide +kernel
theorem dX4_crossedByAll_17 : decode cX4_crossedByAll 17 = .ok (.getfield 22, 3) := by decide +kernel
theorem dX4_crossedByAll_20 : decode cX4_crossedByAll 20 = .ok (.iload_n 3, 1) := by decide +kernel
theorem dX4_crossedByAll_21 : decode cX4_crossedByAll 21 = .ok (.bipush 9, 2) := by decide +kernel
theorem dX4_crossedByAll_23 : decode cX4_crossedByAll 23 = .ok (.imul, 1) := by decide +kernel
theorem dX4_crossedByAll_24 : decode cX4_crossedByAll 24 = .ok (.iload_n 1, 1) := by decide +kernel
theorem dX4_crossedByAll_25 : decode cX4_crossedByAll 25 = .ok (.iadd, 1) := by decide +kernel
theorem dX4_crossedByAll_26 : decode cX4_crossedByAll 26 = .ok (.iaload, 1) := by decide +kernel
theorem dX4_crossedByAll_27 : decode cX4_crossedByAll 27 = .ok (.iadd, 1) := by decide +kernel
theorem dX4_crossedByAll_28 : decode cX4_crossedByAll 28 = .ok (.istore_n 2, 1) := by decide +kernel
theorem dX4_crossedByAll_29 : decode cX4_crossedByAll 29 = .ok (.iinc 3 1, 3) := by decide +kernel
theorem dX4_crossedByAll_32 : decode cX4_crossedByAll 32 = .ok (.goto (-28), 3) := by decide +kernel
theorem dX4_crossedByAll_35 : decode cX4_crossedByAll 35 = .ok (.iload_n 2, 1) := by decide +kernel
theorem dX4_crossedByAll_36 : decode cX4_crossedByAll 36 = .ok (.ireturn, 1) := by decide +kernel
theorem dX4_canCross_0 : decode cX4_canCross 0 = .ok (.aload_n 0, 1) := by decide +kernel
theorem dX4_canCross_1 : decode cX4_canCross 1 = .ok (.getfield 28, 3) := by decide +kernel
theorem dX4_canCross_4 : decode cX4_canCross 4 = .ok (.getfield 55, 3) := by decide +kernel
theorem dX4_canCross_7 : decode cX4_canCross 7 = .ok (.iload_n 2, 1) := by decide +kernel
theorem dX4_canCross_8 : decode cX4_canCross 8 = .ok (.aload_n 0, 1) := by decide +kernel
theorem dX4_canCross_9 : decode cX4_canCross 9 = .ok (.getfield 15, 3) := by decide +kernel
theorem dX4_canCross_12 : decode cX4_canCross 12 = .ok (.iload_n 1, 1) := by decide +kernel
theorem dX4_canCross_13 : decode cX4_canCross 13 = .ok (.iaload, 1) := by decide +kernel
theorem dX4_canCross_14 : decode cX4_canCross 14 = .ok (.invokevirtual 71, 3) := by decide +kernel
theorem dX4_canCross_17 : decode cX4_canCross 17 = .ok (.iconst (-1), 1) := by decide +kernel
theorem dX4_canCross_18 : decode cX4_canCross 18 = .ok (.if_icmp .eq 16, 3) := by decide +kernel
theorem dX4_canCross_21 : decode cX4_canCross 21 = .ok (.aload_n 0, 1) := by decide +kernel
theorem dX4_canCross_22 : decode cX4_canCross 22 = .ok (.iload_n 1, 1) := by decide +kernel
theorem dX4_canCross_23 : decode cX4_canCross 23 = .ok (.iload_n 2, 1) := by decide +kernel
theorem dX4_canCross_24 : decode cX4_canCross 24 = .ok (.invokevirtual 64, 3) := by decide +kernel
theorem dX4_canCross_27 : decode cX4_canCross 27 = .ok (.ifCond .le 7, 3) := by decide +kernel
theorem dX4_canCross_30 : decode cX4_canCross 30 = .ok (.iconst 1, 1) := by decide +kernel
theorem dX4_canCross_31 : decode cX4_canCross 31 = .ok (.goto 4, 3) := by decide +kernel
theorem dX4_canCross_34 : decode cX4_canCross 34 = .ok (.iconst 0, 1) := by decide +kernel
theorem dX4_canCross_35 : decode cX4_canCross 35 = .ok (.ireturn, 1) := by decide +kernel
theorem dX4_goOver_0 : decode cX4_goOver 0 = .ok (.aload_n 0, 1) := by decide +kernel
theorem dX4_goOver_1 : decode cX4_goOver 1 = .ok (.getfield 15, 3) := by decide +kernel
theorem dX4_goOver_4 : decode cX4_goOver 4 = .ok (.iload_n 1, 1) := by decide +kernel
theorem dX4_goOver_5 : decode cX4_goOver 5 = .ok (.aload_n 0, 1) := by decide +kernel
theorem dX4_goOver_6 : decode cX4_goOver 6 = .ok (.getfield 28, 3) := by decide +kernel
theorem dX4_goOver_9 : decode cX4_goOver 9 = .ok (.getfield 55, 3) := by decide +kernel
theorem dX4_goOver_12 : decode cX4_goOver 12 = .ok (.iload_n 2, 1) := by decide +kernel
theorem dX4_goOver_13 : decode cX4_goOver 13 = .ok (.aload_n 0, 1) := by decide +kernel
theorem dX4_goOver_14 : decode cX4_goOver 14 = .ok (.getfield 15, 3) := by decide +kernel
theorem dX4_goOver_17 : decode cX4_goOver 17 = .ok (.iload_n 1, 1) := by decide +kernel
theorem dX4_goOver_18 : decode cX4_goOver 18 = .ok (.iaload, 1) := by decide +kernel
theorem dX4_goOver_19 : decode cX4_goOver 19 = .ok (.invokevirtual 71, 3) := by decide +kernel
theorem dX4_goOver_22 : decode cX4_goOver 22 = .ok (.iastore, 1) := by decide +kernel
theorem dX4_goOver_23 : decode cX4_goOver 23 = .ok (.aload_n 0, 1) := by decide +kernel
theorem dX4_goOver_24 : decode cX4_goOver 24 = .ok (.getfield 22, 3) := by decide +kernel
theorem dX4_goOver_27 : decode cX4_goOver 27 = .ok (.iload_n 1, 1) := by decide +kernel
theorem dX4_goOver_28 : decode cX4_goOver 28 = .ok (.bipush 9, 2) := by decide +kernel
theorem dX4_goOver_30 : decode cX4_goOver 30 = .ok (.imul, 1) := by decide +kernel
theorem dX4_goOver_31 : decode cX4_goOver 31 = .ok (.iload_n 2, 1) := by decide +kernel
theorem dX4_goOver_32 : decode cX4_goOver 32 = .ok (.iadd, 1) := by decide +kernel
theorem dX4_goOver_33 : decode cX4_goOver 33 = .ok (.dup2, 1) := by decide +kernel
theorem dX4_goOver_34 : decode cX4_goOver 34 = .ok (.iaload, 1) := by decide +kernel
theorem dX4_goOver_35 : decode cX4_goOver 35 = .ok (.iconst 1, 1) := by decide +kernel
theorem dX4_goOver_36 : decode cX4_goOver 36 = .ok (.iadd, 1) := by decide +kernel
theorem dX4_goOver_37 : decode cX4_goOver 37 = .ok (.iastore, 1) := by decide +kernel
theorem dX4_goOver_38 : decode cX4_goOver 38 = .ok (.aload_n 0, 1) := by decide +kernel
theorem dX4_goOver_39 : decode cX4_goOver 39 = .ok (.getfield 25, 3) := by decide +kernel
theorem dX4_goOver_42 : decode cX4_goOver 42 = .ok (.iload_n 1, 1) := by decide +kernel
theorem dX4_goOver_43 : decode cX4_goOver 43 = .ok (.bipush 9, 2) := by decide +kernel
theorem dX4_goOver_45 : decode cX4_goOver 45 = .ok (.imul, 1) := by decide +kernel
theorem dX4_goOver_46 : decode cX4_goOver 46 = .ok (.iload_n 2, 1) := by decide +kernel
theorem dX4_goOver_47 : decode cX4_goOver 47 = .ok (.iadd, 1) := by decide +kernel
theorem dX4_goOver_48 : decode cX4_goOver 48 = .ok (.dup2, 1) := by decide +kernel
theorem dX4_goOver_49 : decode cX4_goOver 49 = .ok (.iaload, 1) := by decide +kernel
theorem dX4_goOver_50 : decode cX4_goOver 50 = .ok (.iconst 1, 1) := by decide +kernel
theorem dX4_goOver_51 : decode cX4_goOver 51 = .ok (.iadd, 1) := by decide +kernel
theorem dX4_goOver_52 : decode cX4_goOver 52 = .ok (.iastore, 1) := by decide +kernel
theorem dX4_goOver_53 : decode cX4_goOver 53 = .ok (.return_, 1) := by decide +kernel
theorem dX4_forget_0 : decode cX4_forget 0 = .ok (.iconst 0, 1) := by decide +kernel
theorem dX4_forget_1 : decode cX4_forget 1 = .ok (.istore_n 2, 1) := by decide +kernel
theorem dX4_forget_2 : decode cX4_forget 2 = .ok (.iload_n 2, 1) := by decide +kernel
theorem dX4_forget_3 : decode cX4_forget 3 = .ok (.aload_n 0, 1) := by decide +kernel
theorem dX4_forget_4 : decode cX4_forget 4 = .ok (.getfield 28, 3) := by decide +kernel
theorem dX4_forget_7 : decode cX4_forget 7 = .ok (.getfield 68, 3) := by decide +kernel
theorem dX4_forget_10 : decode cX4_forget 10 = .ok (.if_icmp .ge 33, 3) := by decide +kernel
theorem dX4_forget_13 : decode cX4_forget 13 = .ok (.aload_n 0, 1) := by decide +kernel
theorem dX4_forget_14 : decode cX4_forget 14 = .ok (.getfield 22, 3) := by decide +kernel
theorem dX4_forget_17 : decode cX4_forget 17 = .ok (.iload_n 2, 1) := by decide +kernel
theorem dX4_forget_18 : decode cX4_forget 18 = .ok (.bipush 9, 2) := by decide +kernel
theorem dX4_forget_20 : decode cX4_forget 20 = .ok (.imul, 1) := by decide +kernel
theorem dX4_forget_21 : decode cX4_forget 21 = .ok (.iload_n 1, 1) := by decide +kernel
theorem dX4_forget_22 : decode cX4_forget 22 = .ok (.iadd, 1) := by decide +kernel
theorem dX4_forget_23 : decode cX4_forget 23 = .ok (.iconst 0, 1) := by decide +kernel
theorem dX4_forget_24 : decode cX4_forget 24 = .ok (.iastore, 1) := by decide +kernel
theorem dX4_forget_25 : decode cX4_forget 25 = .ok (.aload_n 0, 1) := by decide +kernel
theorem dX4_forget_26 : decode cX4_forget 26 = .ok (.getfield 25, 3) := by decide +kernel
theorem dX4_forget_29 : decode cX4_forget 29 = .ok (.iload_n 2, 1) := by decide +kernel
theorem dX4_forget_30 : decode cX4_forget 30 = .ok (.bipush 9, 2) := by decide +kernel
theorem dX4_forget_32 : decode cX4_forget 32 = .ok (.imul, 1) := by decide +kernel
theorem dX4_forget_33 : decode cX4_forget 33 = .ok (.iload_n 1, 1) := by decide +kernel
theorem dX4_forget_34 : decode cX4_forget 34 = .ok (.iadd, 1) := by decide +kernel
theorem dX4_forget_35 : decode cX4_forget 35 = .ok (.iconst 0, 1) := by decide +kernel
theorem dX4_forget_36 : decode cX4_forget 36 = .ok (.iastore, 1) := by decide +kernel
theorem dX4_forget_37 : decode cX4_forget 37 = .ok (.iinc 2 1, 3) := by decide +kernel
theorem dX4_forget_40 : decode cX4_forget 40 = .ok (.goto (-38), 3) := by decide +kernel
theorem dX4_forget_43 : decode cX4_forget 43 = .ok (.return_, 1) := by decide +kernel
theorem dX4_endDay_0 : decode cX4_endDay 0 = .ok (.iconst 0, 1) := by decide +kernel
theorem dX4_endDay_1 : decode cX4_endDay 1 = .ok (.istore_n 1, 1) := by decide +kernel
theorem dX4_endDay_2 : decode cX4_endDay 2 = .ok (.iconst 0, 1) := by decide +kernel
theorem dX4_endDay_3 : decode cX4_endDay 3 = .ok (.istore_n 2, 1) := by decide +kernel
theorem dX4_endDay_4 : decode cX4_endDay 4 = .ok (.iload_n 2, 1) := by decide +kernel
theorem dX4_endDay_5 : decode cX4_endDay 5 = .ok (.aload_n 0, 1) := by decide +kernel
theorem dX4_endDay_6 : decode cX4_endDay 6 = .ok (.getfield 28, 3) := by decide +kernel
theorem dX4_endDay_9 : decode cX4_endDay 9 = .ok (.getfield 74, 3) := by decide +kernel
theorem dX4_endDay_12 : decode cX4_endDay 12 = .ok (.if_icmp .ge 83, 3) := by decide +kernel
theorem dX4_endDay_15 : decode cX4_endDay 15 = .ok (.aload_n 0, 1) := by decide +kernel
theorem dX4_endDay_16 : decode cX4_endDay 16 = .ok (.getfield 28, 3) := by decide +kernel
theorem dX4_endDay_19 : decode cX4_endDay 19 = .ok (.getfield 77, 3) := by decide +kernel
theorem dX4_endDay_22 : decode cX4_endDay 22 = .ok (.iload_n 2, 1) := by decide +kernel
theorem dX4_endDay_23 : decode cX4_endDay 23 = .ok (.iaload, 1) := by decide +kernel
theorem dX4_endDay_24 : decode cX4_endDay 24 = .ok (.istore_n 3, 1) := by decide +kernel
theorem dX4_endDay_25 : decode cX4_endDay 25 = .ok (.aload_n 0, 1) := by decide +kernel
theorem dX4_endDay_26 : decode cX4_endDay 26 = .ok (.getfield 28, 3) := by decide +kernel
theorem dX4_endDay_29 : decode cX4_endDay 29 = .ok (.getfield 80, 3) := by decide +kernel
theorem dX4_endDay_32 : decode cX4_endDay 32 = .ok (.iload_n 2, 1) := by decide +kernel
theorem dX4_endDay_33 : decode cX4_endDay 33 = .ok (.iaload, 1) := by decide +kernel
theorem dX4_endDay_34 : decode cX4_endDay 34 = .ok (.aload_n 0, 1) := by decide +kernel
theorem dX4_endDay_35 : decode cX4_endDay 35 = .ok (.getfield 9, 3) := by decide +kernel
theorem dX4_endDay_38 : decode cX4_endDay 38 = .ok (.if_icmp .ne 51, 3) := by decide +kernel
theorem dX4_endDay_41 : decode cX4_endDay 41 = .ok (.aload_n 0, 1) := by decide +kernel
theorem dX4_endDay_42 : decode cX4_endDay 42 = .ok (.getfield 15, 3) := by decide +kernel
theorem dX4_endDay_45 : decode cX4_endDay 45 = .ok (.iload_n 3, 1) := by decide +kernel
theorem dX4_endDay_46 : decode cX4_endDay 46 = .ok (.iaload, 1) := by decide +kernel
theorem dX4_endDay_47 : decode cX4_endDay 47 = .ok (.aload_n 0, 1) := by decide +kernel
theorem dX4_endDay_48 : decode cX4_endDay 48 = .ok (.getfield 28, 3) := by decide +kernel
theorem dX4_endDay_51 : decode cX4_endDay 51 = .ok (.getfield 83, 3) := by decide +kernel
theorem dX4_endDay_54 : decode cX4_endDay 54 = .ok (.iload_n 2, 1) := by decide +kernel
theorem dX4_endDay_55 : decode cX4_endDay 55 = .ok (.iaload, 1) := by decide +kernel
theorem dX4_endDay_56 : decode cX4_endDay 56 = .ok (.if_icmp .ne 33, 3) := by decide +kernel
theorem dX4_endDay_59 : decode cX4_endDay 59 = .ok (.aload_n 0, 1) := by decide +kernel
theorem dX4_endDay_60 : decode cX4_endDay 60 = .ok (.getfield 19, 3) := by decide +kernel
theorem dX4_endDay_63 : decode cX4_endDay 63 = .ok (.iload_n 3, 1) := by decide +kernel
theorem dX4_endDay_64 : decode cX4_endDay 64 = .ok (.dup2, 1) := by decide +kernel
theorem dX4_endDay_65 : decode cX4_endDay 65 = .ok (.iaload, 1) := by decide +kernel
theorem dX4_endDay_66 : decode cX4_endDay 66 = .ok (.aload_n 0, 1) := by decide +kernel
theorem dX4_endDay_67 : decode cX4_endDay 67 = .ok (.getfield 28, 3) := by decide +kernel
theorem dX4_endDay_70 : decode cX4_endDay 70 = .ok (.getfield 86, 3) := by decide +kernel
theorem dX4_endDay_73 : decode cX4_endDay 73 = .ok (.iload_n 2, 1) := by decide +kernel
theorem dX4_endDay_74 : decode cX4_endDay 74 = .ok (.iaload, 1) := by decide +kernel
theorem dX4_endDay_75 : decode cX4_endDay 75 = .ok (.iadd, 1) := by decide +kernel
theorem dX4_endDay_76 : decode cX4_endDay 76 = .ok (.iastore, 1) := by decide +kernel
theorem dX4_endDay_77 : decode cX4_endDay 77 = .ok (.iload_n 1, 1) := by decide +kernel
theorem dX4_endDay_78 : decode cX4_endDay 78 = .ok (.aload_n 0, 1) := by decide +kernel
theorem dX4_endDay_79 : decode cX4_endDay 79 = .ok (.getfield 28, 3) := by decide +kernel
theorem dX4_endDay_82 : decode cX4_endDay 82 = .ok (.getfield 86, 3) := by decide +kernel
theorem dX4_endDay_85 : decode cX4_endDay 85 = .ok (.iload_n 2, 1) := by decide +kernel
theorem dX4_endDay_86 : decode cX4_endDay 86 = .ok (.iaload, 1) := by decide +kernel
theorem dX4_endDay_87 : decode cX4_endDay 87 = .ok (.iadd, 1) := by decide +kernel
theorem dX4_endDay_88 : decode cX4_endDay 88 = .ok (.istore_n 1, 1) := by decide +kernel
theorem dX4_endDay_89 : decode cX4_endDay 89 = .ok (.iinc 2 1, 3) := by decide +kernel
theorem dX4_endDay_92 : decode cX4_endDay 92 = .ok (.goto (-88), 3) := by decide +kernel
theorem dX4_endDay_95 : decode cX4_endDay 95 = .ok (.aload_n 0, 1) := by decide +kernel
theorem dX4_endDay_96 : decode cX4_endDay 96 = .ok (.aload_n 0, 1) := by decide +kernel
theorem dX4_endDay_97 : decode cX4_endDay 97 = .ok (.getfield 9, 3) := by decide +kernel
theorem dX4_endDay_100 : decode cX4_endDay 100 = .ok (.iconst 1, 1) := by decide +kernel
theorem dX4_endDay_101 : decode cX4_endDay 101 = .ok (.iadd, 1) := by decide +kernel
theorem dX4_endDay_102 : decode cX4_endDay 102 = .ok (.sipush 999, 3) := by decide +kernel
theorem dX4_endDay_105 : decode cX4_endDay 105 = .ok (.invokestatic 89, 3) := by decide +kernel
theorem dX4_endDay_108 : decode cX4_endDay 108 = .ok (.putfield 9, 3) := by decide +kernel
theorem dX4_endDay_111 : decode cX4_endDay 111 = .ok (.iload_n 1, 1) := by decide +kernel
theorem dX4_endDay_112 : decode cX4_endDay 112 = .ok (.ireturn, 1) := by decide +kernel
theorem dX4_isFrosty_0 : decode cX4_isFrosty 0 = .ok (.iconst 0, 1) := by decide +kernel
theorem dX4_isFrosty_1 : decode cX4_isFrosty 1 = .ok (.istore_n 1, 1) := by decide +kernel
theorem dX4_isFrosty_2 : decode cX4_isFrosty 2 = .ok (.iload_n 1, 1) := by decide +kernel
theorem dX4_isFrosty_3 : decode cX4_isFrosty 3 = .ok (.aload_n 0, 1) := by decide +kernel
theorem dX4_isFrosty_4 : decode cX4_isFrosty 4 = .ok (.getfield 28, 3) := by decide +kernel
theorem dX4_isFrosty_7 : decode cX4_isFrosty 7 = .ok (.getfield 94, 3) := by decide +kernel
theorem dX4_isFrosty_10 : decode cX4_isFrosty 10 = .ok (.if_icmp .ge 43, 3) := by decide +kernel
theorem dX4_isFrosty_13 : decode cX4_isFrosty 13 = .ok (.aload_n 0, 1) := by decide +kernel
theorem dX4_isFrosty_14 : decode cX4_isFrosty 14 = .ok (.getfield 9, 3) := by decide +kernel
theorem dX4_isFrosty_17 : decode cX4_isFrosty 17 = .ok (.aload_n 0, 1) := by decide +kernel
theorem dX4_isFrosty_18 : decode cX4_isFrosty 18 = .ok (.getfield 28, 3) := by decide +kernel
theorem dX4_isFrosty_21 : decode cX4_isFrosty 21 = .ok (.getfield 97, 3) := by decide +kernel
theorem dX4_isFrosty_24 : decode cX4_isFrosty 24 = .ok (.iload_n 1, 1) := by decide +kernel
theorem dX4_isFrosty_25 : decode cX4_isFrosty 25 = .ok (.iaload, 1) := by decide +kernel
theorem dX4_isFrosty_26 : decode cX4_isFrosty 26 = .ok (.if_icmp .lt 21, 3) := by decide +kernel
theorem dX4_isFrosty_29 : decode cX4_isFrosty 29 = .ok (.aload_n 0, 1) := by decide +kernel
theorem dX4_isFrosty_30 : decode cX4_isFrosty 30 = .ok (.getfield 9, 3) := by decide +kernel
theorem dX4_isFrosty_33 : decode cX4_isFrosty 33 = .ok (.aload_n 0, 1) := by decide +kernel
theorem dX4_isFrosty_34 : decode cX4_isFrosty 34 = .ok (.getfield 28, 3) := by decide +kernel
theorem dX4_isFrosty_37 : decode cX4_isFrosty 37 = .ok (.getfield 100, 3) := by decide +kernel
theorem dX4_isFrosty_40 : decode cX4_isFrosty 40 = .ok (.iload_n 1, 1) := by decide +kernel
theorem dX4_isFrosty_41 : decode cX4_isFrosty 41 = .ok (.iaload, 1) := by decide +kernel
theorem dX4_isFrosty_42 : decode cX4_isFrosty 42 = .ok (.if_icmp .gt 5, 3) := by decide +kernel
theorem dX4_isFrosty_45 : decode cX4_isFrosty 45 = .ok (.iconst 1, 1) := by decide +kernel
theorem dX4_isFrosty_46 : decode cX4_isFrosty 46 = .ok (.ireturn, 1) := by decide +kernel
theorem dX4_isFrosty_47 : decode cX4_isFrosty 47 = .ok (.iinc 1 1, 3) := by decide +kernel
theorem dX4_isFrosty_50 : decode cX4_isFrosty 50 = .ok (.goto (-48), 3) := by decide +kernel
theorem dX4_isFrosty_53 : decode cX4_isFrosty 53 = .ok (.iconst 0, 1) := by decide +kernel
theorem dX4_isFrosty_54 : decode cX4_isFrosty 54 = .ok (.ireturn, 1) := by decide +kernel
theorem dX4_paidToAll_0 : decode cX4_paidToAll 0 = .ok (.iconst 0, 1) := by decide +kernel
theorem dX4_paidToAll_1 : decode cX4_paidToAll 1 = .ok (.istore_n 1, 1) := by decide +kernel
theorem dX4_paidToAll_2 : decode cX4_paidToAll 2 = .ok (.iconst 0, 1) := by decide +kernel
theorem dX4_paidToAll_3 : decode cX4_paidToAll 3 = .ok (.istore_n 2, 1) := by decide +kernel
theorem dX4_paidToAll_4 : decode cX4_paidToAll 4 = .ok (.iload_n 2, 1) := by decide +kernel
theorem dX4_paidToAll_5 : decode cX4_paidToAll 5 = .ok (.aload_n 0, 1) := by decide +kernel
theorem dX4_paidToAll_6 : decode cX4_paidToAll 6 = .ok (.getfield 28, 3) := by decide +kernel
theorem dX4_paidToAll_9 : decode cX4_paidToAll 9 = .ok (.getfield 68, 3) := by decide +kernel
theorem dX4_paidToAll_12 : decode cX4_paidToAll 12 = .ok (.if_icmp .ge 18, 3) := by decide +kernel
theorem dX4_paidToAll_15 : decode cX4_paidToAll 15 = .ok (.iload_n 1, 1) := by decide +kernel
theorem dX4_paidToAll_16 : decode cX4_paidToAll 16 = .ok (.aload_n 0, 1) := by decide +kernel
theorem dX4_paidToAll_17 : decode cX4_paidToAll 17 = .ok (.getfield 19, 3) := by decide +kernel
theorem dX4_paidToAll_20 : decode cX4_paidToAll 20 = .ok (.iload_n 2, 1) := by decide +kernel
theorem dX4_paidToAll_21 : decode cX4_paidToAll 21 = .ok (.iaload, 1) := by decide +kernel
theorem dX4_paidToAll_22 : decode cX4_paidToAll 22 = .ok (.iadd, 1) := by decide +kernel
theorem dX4_paidToAll_23 : decode cX4_paidToAll 23 = .ok (.istore_n 1, 1) := by decide +kernel
theorem dX4_paidToAll_24 : decode cX4_paidToAll 24 = .ok (.iinc 2 1, 3) := by decide +kernel
theorem dX4_paidToAll_27 : decode cX4_paidToAll 27 = .ok (.goto (-23), 3) := by decide +kernel
theorem dX4_paidToAll_30 : decode cX4_paidToAll 30 = .ok (.iload_n 1, 1) := by decide +kernel
theorem dX4_paidToAll_31 : decode cX4_paidToAll 31 = .ok (.ireturn, 1) := by decide +kernel
theorem dX4_whoIsHome_0 : decode cX4_whoIsHome 0 = .ok (.iconst 0, 1) := by decide +kernel
theorem dX4_whoIsHome_1 : decode cX4_whoIsHome 1 = .ok (.istore_n 1, 1) := by decide +kernel
theorem dX4_whoIsHome_2 : decode cX4_whoIsHome 2 = .ok (.iconst 0, 1) := by decide +kernel
theorem dX4_whoIsHome_3 : decode cX4_whoIsHome 3 = .ok (.istore_n 2, 1) := by decide +kernel
theorem dX4_whoIsHome_4 : decode cX4_whoIsHome 4 = .ok (.iload_n 2, 1) := by decide +kernel
theorem dX4_whoIsHome_5 : decode cX4_whoIsHome 5 = .ok (.aload_n 0, 1) := by decide +kernel
theorem dX4_whoIsHome_6 : decode cX4_whoIsHome 6 = .ok (.getfield 28, 3) := by decide +kernel
theorem dX4_whoIsHome_9 : decode cX4_whoIsHome 9 = .ok (.getfield 68, 3) := by decide +kernel
theorem dX4_whoIsHome_12 : decode cX4_whoIsHome 12 = .ok (.if_icmp .ge 33, 3) := by decide +kernel
theorem dX4_whoIsHome_15 : decode cX4_whoIsHome 15 = .ok (.aload_n 0, 1) := by decide +kernel
theorem dX4_whoIsHome_16 : decode cX4_whoIsHome 16 = .ok (.getfield 15, 3) := by decide +kernel
theorem dX4_whoIsHome_19 : decode cX4_whoIsHome 19 = .ok (.iload_n 2, 1) := by decide +kernel
theorem dX4_whoIsHome_20 : decode cX4_whoIsHome 20 = .ok (.iaload, 1) := by decide +kernel
theorem dX4_whoIsHome_21 : decode cX4_whoIsHome 21 = .ok (.aload_n 0, 1) := by decide +kernel
theorem dX4_whoIsHome_22 : decode cX4_whoIsHome 22 = .ok (.getfield 28, 3) := by decide +kernel
theorem dX4_whoIsHome_25 : decode cX4_whoIsHome 25 = .ok (.getfield 32, 3) := by decide +kernel
theorem dX4_whoIsHome_28 : decode cX4_whoIsHome 28 = .ok (.iload_n 2, 1) := by decide +kernel
theorem dX4_whoIsHome_29 : decode cX4_whoIsHome 29 = .ok (.iaload, 1) := by decide +kernel
theorem dX4_whoIsHome_30 : decode cX4_whoIsHome 30 = .ok (.if_icmp .ne 9, 3) := by decide +kernel
theorem dX4_whoIsHome_33 : decode cX4_whoIsHome 33 = .ok (.iload_n 1, 1) := by decide +kernel
theorem dX4_whoIsHome_34 : decode cX4_whoIsHome 34 = .ok (.iconst 1, 1) := by decide +kernel
theorem dX4_whoIsHome_35 : decode cX4_whoIsHome 35 = .ok (.iload_n 2, 1) := by decide +kernel
theorem dX4_whoIsHome_36 : decode cX4_whoIsHome 36 = .ok (.ishl, 1) := by decide +kernel
theorem dX4_whoIsHome_37 : decode cX4_whoIsHome 37 = .ok (.ior, 1) := by decide +kernel
theorem dX4_whoIsHome_38 : decode cX4_whoIsHome 38 = .ok (.istore_n 1, 1) := by decide +kernel
theorem dX4_whoIsHome_39 : decode cX4_whoIsHome 39 = .ok (.iinc 2 1, 3) := by decide +kernel
theorem dX4_whoIsHome_42 : decode cX4_whoIsHome 42 = .ok (.goto (-38), 3) := by decide +kernel
theorem dX4_whoIsHome_45 : decode cX4_whoIsHome 45 = .ok (.iload_n 1, 1) := by decide +kernel
theorem dX4_whoIsHome_46 : decode cX4_whoIsHome 46 = .ok (.ireturn, 1) := by decide +kernel
theorem dX4_nextWant_0 : decode cX4_nextWant 0 = .ok (.iconst (-1), 1) := by decide +kernel
theorem dX4_nextWant_1 : decode cX4_nextWant 1 = .ok (.istore_n 2, 1) := by decide +kernel
theorem dX4_nextWant_2 : decode cX4_nextWant 2 = .ok (.iconst 0, 1) := by decide +kernel
theorem dX4_nextWant_3 : decode cX4_nextWant 3 = .ok (.istore_n 3, 1) := by decide +kernel
theorem dX4_nextWant_4 : decode cX4_nextWant 4 = .ok (.iload_n 3, 1) := by decide +kernel
theorem dX4_nextWant_5 : decode cX4_nextWant 5 = .ok (.aload_n 0, 1) := by decide +kernel
theorem dX4_nextWant_6 : decode cX4_nextWant 6 = .ok (.getfield 28, 3) := by decide +kernel
theorem dX4_nextWant_9 : decode cX4_nextWant 9 = .ok (.getfield 74, 3) := by decide +kernel
theorem dX4_nextWant_12 : decode cX4_nextWant 12 = .ok (.if_icmp .ge 66, 3) := by decide +kernel
theorem dX4_nextWant_15 : decode cX4_nextWant 15 = .ok (.aload_n 0, 1) := by decide +kernel
theorem dX4_nextWant_16 : decode cX4_nextWant 16 = .ok (.getfield 28, 3) := by decide +kernel
theorem dX4_nextWant_19 : decode cX4_nextWant 19 = .ok (.getfield 77, 3) := by decide +kernel
theorem dX4_nextWant_22 : decode cX4_nextWant 22 = .ok (.iload_n 3, 1) := by decide +kernel
theorem dX4_nextWant_23 : decode cX4_nextWant 23 = .ok (.iaload, 1) := by decide +kernel
theorem dX4_nextWant_24 : decode cX4_nextWant 24 = .ok (.iload_n 1, 1) := by decide +kernel
theorem dX4_nextWant_25 : decode cX4_nextWant 25 = .ok (.if_icmp .ne 47, 3) := by decide +kernel
theorem dX4_nextWant_28 : decode cX4_nextWant 28 = .ok (.aload_n 0, 1) := by decide +kernel
theorem dX4_nextWant_29 : decode cX4_nextWant 29 = .ok (.getfield 28, 3) := by decide +kernel
theorem dX4_nextWant_32 : decode cX4_nextWant 32 = .ok (.getfield 80, 3) := by decide +kernel
theorem dX4_nextWant_35 : decode cX4_nextWant 35 = .ok (.iload_n 3, 1) := by decide +kernel
theorem dX4_nextWant_36 : decode cX4_nextWant 36 = .ok (.iaload, 1) := by decide +kernel
theorem dX4_nextWant_37 : decode cX4_nextWant 37 = .ok (.aload_n 0, 1) := by decide +kernel
theorem dX4_nextWant_38 : decode cX4_nextWant 38 = .ok (.getfield 9, 3) := by decide +kernel
theorem dX4_nextWant_41 : decode cX4_nextWant 41 = .ok (.if_icmp .lt 31, 3) := by decide +kernel
theorem dX4_nextWant_44 : decode cX4_nextWant 44 = .ok (.iload_n 2, 1) := by decide +kernel
theorem dX4_nextWant_45 : decode cX4_nextWant 45 = .ok (.iconst (-1), 1) := by decide +kernel
theorem dX4_nextWant_46 : decode cX4_nextWant 46 = .ok (.if_icmp .eq 24, 3) := by decide +kernel
theorem dX4_nextWant_49 : decode cX4_nextWant 49 = .ok (.aload_n 0, 1) := by decide +kernel
theorem dX4_nextWant_50 : decode cX4_nextWant 50 = .ok (.getfield 28, 3) := by decide +kernel
theorem dX4_nextWant_53 : decode cX4_nextWant 53 = .ok (.getfield 80, 3) := by decide +kernel
theorem dX4_nextWant_56 : decode cX4_nextWant 56 = .ok (.iload_n 3, 1) := by decide +kernel
theorem dX4_nextWant_57 : decode cX4_nextWant 57 = .ok (.iaload, 1) := by decide +kernel
theorem dX4_nextWant_58 : decode cX4_nextWant 58 = .ok (.aload_n 0, 1) := by decide +kernel
theorem dX4_nextWant_59 : decode cX4_nextWant 59 = .ok (.getfield 28, 3) := by decide +kernel
theorem dX4_nextWant_62 : decode cX4_nextWant 62 = .ok (.getfield 80, 3) := by decide +kernel
theorem dX4_nextWant_65 : decode cX4_nextWant 65 = .ok (.iload_n 2, 1) := by decide +kernel
theorem dX4_nextWant_66 : decode cX4_nextWant 66 = .ok (.iaload, 1) := by decide +kernel
theorem dX4_nextWant_67 : decode cX4_nextWant 67 = .ok (.if_icmp .ge 5, 3) := by decide +kernel
theorem dX4_nextWant_70 : decode cX4_nextWant 70 = .ok (.iload_n 3, 1) := by decide +kernel
theorem dX4_nextWant_71 : decode cX4_nextWant 71 = .ok (.istore_n 2, 1) := by decide +kernel
theorem dX4_nextWant_72 : decode cX4_nextWant 72 = .ok (.iinc 3 1, 3) := by decide +kernel
theorem dX4_nextWant_75 : decode cX4_nextWant 75 = .ok (.goto (-71), 3) := by decide +kernel
theorem dX4_nextWant_78 : decode cX4_nextWant 78 = .ok (.iload_n 2, 1) := by decide +kernel
theorem dX4_nextWant_79 : decode cX4_nextWant 79 = .ok (.ireturn, 1) := by decide +kernel
theorem dX4_goalOf_0 : decode cX4_goalOf 0 = .ok (.aload_n 0, 1) := by decide +kernel
theorem dX4_goalOf_1 : decode cX4_goalOf 1 = .ok (.iload_n 1, 1) := by decide +kernel
theorem dX4_goalOf_2 : decode cX4_goalOf 2 = .ok (.invokevirtual 103, 3) := by decide +kernel
theorem dX4_goalOf_5 : decode cX4_goalOf 5 = .ok (.istore_n 2, 1) := by decide +kernel
theorem dX4_goalOf_6 : decode cX4_goalOf 6 = .ok (.iload_n 2, 1) := by decide +kernel
theorem dX4_goalOf_7 : decode cX4_goalOf 7 = .ok (.iconst (-1), 1) := by decide +kernel
theorem dX4_goalOf_8 : decode cX4_goalOf 8 = .ok (.if_icmp .ne 15, 3) := by decide +kernel
theorem dX4_goalOf_11 : decode cX4_goalOf 11 = .ok (.aload_n 0, 1) := by decide +kernel
theorem dX4_goalOf_12 : decode cX4_goalOf 12 = .ok (.getfield 28, 3) := by decide +kernel
theorem dX4_goalOf_15 : decode cX4_goalOf 15 = .ok (.getfield 32, 3) := by decide +kernel
theorem dX4_goalOf_18 : decode cX4_goalOf 18 = .ok (.iload_n 1, 1) := by decide +kernel
theorem dX4_goalOf_19 : decode cX4_goalOf 19 = .ok (.iaload, 1) := by decide +kernel
theorem dX4_goalOf_20 : decode cX4_goalOf 20 = .ok (.goto 12, 3) := by decide +kernel
theorem dX4_goalOf_23 : decode cX4_goalOf 23 = .ok (.aload_n 0, 1) := by decide +kernel
theorem dX4_goalOf_24 : decode cX4_goalOf 24 = .ok (.getfield 28, 3) := by decide +kernel
theorem dX4_goalOf_27 : decode cX4_goalOf 27 = .ok (.getfield 83, 3) := by decide +kernel
theorem dX4_goalOf_30 : decode cX4_goalOf 30 = .ok (.iload_n 2, 1) := by decide +kernel
theorem dX4_goalOf_31 : decode cX4_goalOf 31 = .ok (.iaload, 1) := by decide +kernel
theorem dX4_goalOf_32 : decode cX4_goalOf 32 = .ok (.ireturn, 1) := by decide +kernel
theorem dX4_tellWords_0 : decode cX4_tellWords 0 = .ok (.aload_n 0, 1) := by decide +kernel
theorem dX4_tellWords_1 : decode cX4_tellWords 1 = .ok (.getfield 15, 3) := by decide +kernel
theorem dX4_tellWords_4 : decode cX4_tellWords 4 = .ok (.iload_n 1, 1) := by decide +kernel
theorem dX4_tellWords_5 : decode cX4_tellWords 5 = .ok (.iaload, 1) := by decide +kernel
theorem dX4_tellWords_6 : decode cX4_tellWords 6 = .ok (.istore 5, 2) := by decide +kernel
theorem dX4_tellWords_8 : decode cX4_tellWords 8 = .ok (.aload_n 0, 1) := by decide +kernel
theorem dX4_tellWords_9 : decode cX4_tellWords 9 = .ok (.getfield 28, 3) := by decide +kernel
theorem dX4_tellWords_12 : decode cX4_tellWords 12 = .ok (.getfield 55, 3) := by decide +kernel
theorem dX4_tellWords_15 : decode cX4_tellWords 15 = .ok (.iload_n 2, 1) := by decide +kernel
theorem dX4_tellWords_16 : decode cX4_tellWords 16 = .ok (.iload 5, 2) := by decide +kernel
theorem dX4_tellWords_18 : decode cX4_tellWords 18 = .ok (.invokevirtual 71, 3) := by decide +kernel
theorem dX4_tellWords_21 : decode cX4_tellWords 21 = .ok (.istore 6, 2) := by decide +kernel
theorem dX4_tellWords_23 : decode cX4_tellWords 23 = .ok (.iload_n 3, 1) := by decide +kernel
theorem dX4_tellWords_24 : decode cX4_tellWords 24 = .ok (.iconst (-1), 1) := by decide +kernel
theorem dX4_tellWords_25 : decode cX4_tellWords 25 = .ok (.if_icmp .ne 15, 3) := by decide +kernel
theorem dX4_tellWords_28 : decode cX4_tellWords 28 = .ok (.aload_n 0, 1) := by decide +kernel
theorem dX4_tellWords_29 : decode cX4_tellWords 29 = .ok (.getfield 28, 3) := by decide +kernel
theorem dX4_tellWords_32 : decode cX4_tellWords 32 = .ok (.getfield 32, 3) := by decide +kernel
theorem dX4_tellWords_35 : decode cX4_tellWords 35 = .ok (.iload_n 1, 1) := by decide +kernel
theorem dX4_tellWords_36 : decode cX4_tellWords 36 = .ok (.iaload, 1) := by decide +kernel
theorem dX4_tellWords_37 : decode cX4_tellWords 37 = .ok (.goto 12, 3) := by decide +kernel
theorem dX4_tellWords_40 : decode cX4_tellWords 40 = .ok (.aload_n 0, 1) := by decide +kernel
theorem dX4_tellWords_41 : decode cX4_tellWords 41 = .ok (.getfield 28, 3) := by decide +kernel
theorem dX4_tellWords_44 : decode cX4_tellWords 44 = .ok (.getfield 83, 3) := by decide +kernel
theorem dX4_tellWords_47 : decode cX4_tellWords 47 = .ok (.iload_n 3, 1) := by decide +kernel
theorem dX4_tellWords_48 : decode cX4_tellWords 48 = .ok (.iaload, 1) := by decide +kernel
theorem dX4_tellWords_49 : decode cX4_tellWords 49 = .ok (.istore 7, 2) := by decide +kernel
theorem dX4_tellWords_51 : decode cX4_tellWords 51 = .ok (.aload 4, 2) := by decide +kernel
theorem dX4_tellWords_53 : decode cX4_tellWords 53 = .ok (.arraylength, 1) := by decide +kernel
theorem dX4_tellWords_54 : decode cX4_tellWords 54 = .ok (.bipush 12, 2) := by decide +kernel
theorem dX4_tellWords_56 : decode cX4_tellWords 56 = .ok (.if_icmp .lt 9, 3) := by decide +kernel
theorem dX4_tellWords_59 : decode cX4_tellWords 59 = .ok (.iload 6, 2) := by decide +kernel
theorem dX4_tellWords_61 : decode cX4_tellWords 61 = .ok (.iconst (-1), 1) := by decide +kernel
theorem dX4_tellWords_62 : decode cX4_tellWords 62 = .ok (.if_icmp .ne 4, 3) := by decide +kernel
theorem dX4_tellWords_65 : decode cX4_tellWords 65 = .ok (.return_, 1) := by decide +kernel
theorem dX4_tellWords_66 : decode cX4_tellWords 66 = .ok (.aload 4, 2) := by decide +kernel
theorem dX4_tellWords_68 : decode cX4_tellWords 68 = .ok (.iconst 0, 1) := by decide +kernel
theorem dX4_tellWords_69 : decode cX4_tellWords 69 = .ok (.iload_n 1, 1) := by decide +kernel
theorem dX4_tellWords_70 : decode cX4_tellWords 70 = .ok (.i2l, 1) := by decide +kernel
theorem dX4_tellWords_71 : decode cX4_tellWords 71 = .ok (.lastore, 1) := by decide +kernel
theorem dX4_tellWords_72 : decode cX4_tellWords 72 = .ok (.aload 4, 2) := by decide +kernel
theorem dX4_tellWords_74 : decode cX4_tellWords 74 = .ok (.iconst 1, 1) := by decide +kernel
theorem dX4_tellWords_75 : decode cX4_tellWords 75 = .ok (.iload_n 2, 1) := by decide +kernel
theorem dX4_tellWords_76 : decode cX4_tellWords 76 = .ok (.i2l, 1) := by decide +kernel
theorem dX4_tellWords_77 : decode cX4_tellWords 77 = .ok (.lastore, 1) := by decide +kernel
theorem dX4_tellWords_78 : decode cX4_tellWords 78 = .ok (.aload 4, 2) := by decide +kernel
theorem dX4_tellWords_80 : decode cX4_tellWords 80 = .ok (.iconst 2, 1) := by decide +kernel
theorem dX4_tellWords_81 : decode cX4_tellWords 81 = .ok (.iload 5, 2) := by decide +kernel
theorem dX4_tellWords_83 : decode cX4_tellWords 83 = .ok (.i2l, 1) := by decide +kernel
theorem dX4_tellWords_84 : decode cX4_tellWords 84 = .ok (.lastore, 1) := by decide +kernel
theorem dX4_tellWords_85 : decode cX4_tellWords 85 = .ok (.aload 4, 2) := by decide +kernel
theorem dX4_tellWords_87 : decode cX4_tellWords 87 = .ok (.iconst 3, 1) := by decide +kernel
theorem dX4_tellWords_88 : decode cX4_tellWords 88 = .ok (.iload 6, 2) := by decide +kernel
theorem dX4_tellWords_90 : decode cX4_tellWords 90 = .ok (.i2l, 1) := by decide +kernel
theorem dX4_tellWords_91 : decode cX4_tellWords 91 = .ok (.lastore, 1) := by decide +kernel
theorem dX4_tellWords_92 : decode cX4_tellWords 92 = .ok (.aload 4, 2) := by decide +kernel
theorem dX4_tellWords_94 : decode cX4_tellWords 94 = .ok (.iconst 4, 1) := by decide +kernel
theorem dX4_tellWords_95 : decode cX4_tellWords 95 = .ok (.aload_n 0, 1) := by decide +kernel
theorem dX4_tellWords_96 : decode cX4_tellWords 96 = .ok (.getfield 28, 3) := by decide +kernel
theorem dX4_tellWords_99 : decode cX4_tellWords 99 = .ok (.getfield 32, 3) := by decide +kernel
theorem dX4_tellWords_102 : decode cX4_tellWords 102 = .ok (.iload_n 1, 1) := by decide +kernel
theorem dX4_tellWords_103 : decode cX4_tellWords 103 = .ok (.iaload, 1) := by decide +kernel
theorem dX4_tellWords_104 : decode cX4_tellWords 104 = .ok (.i2l, 1) := by decide +kernel
theorem dX4_tellWords_105 : decode cX4_tellWords 105 = .ok (.lastore, 1) := by decide +kernel
theorem dX4_tellWords_106 : decode cX4_tellWords 106 = .ok (.aload 4, 2) := by decide +kernel
theorem dX4_tellWords_108 : decode cX4_tellWords 108 = .ok (.iconst 5, 1) := by decide +kernel
theorem dX4_tellWords_109 : decode cX4_tellWords 109 = .ok (.aload_n 0, 1) := by decide +kernel
theorem dX4_tellWords_110 : decode cX4_tellWords 110 = .ok (.iload_n 1, 1) := by decide +kernel
theorem dX4_tellWords_111 : decode cX4_tellWords 111 = .ok (.iload_n 2, 1) := by decide +kernel
theorem dX4_tellWords_112 : decode cX4_tellWords 112 = .ok (.invokevirtual 64, 3) := by decide +kernel
theorem dX4_tellWords_115 : decode cX4_tellWords 115 = .ok (.i2l, 1) := by decide +kernel
theorem dX4_tellWords_116 : decode cX4_tellWords 116 = .ok (.lastore, 1) := by decide +kernel
theorem dX4_tellWords_117 : decode cX4_tellWords 117 = .ok (.aload 4, 2) := by decide +kernel
theorem dX4_tellWords_119 : decode cX4_tellWords 119 = .ok (.bipush 6, 2) := by decide +kernel
theorem dX4_tellWords_121 : decode cX4_tellWords 121 = .ok (.aload_n 0, 1) := by decide +kernel
theorem dX4_tellWords_122 : decode cX4_tellWords 122 = .ok (.getfield 9, 3) := by decide +kernel
theorem dX4_tellWords_125 : decode cX4_tellWords 125 = .ok (.i2l, 1) := by decide +kernel
theorem dX4_tellWords_126 : decode cX4_tellWords 126 = .ok (.lastore, 1) := by decide +kernel
theorem dX4_tellWords_127 : decode cX4_tellWords 127 = .ok (.aload 4, 2) := by decide +kernel
theorem dX4_tellWords_129 : decode cX4_tellWords 129 = .ok (.bipush 7, 2) := by decide +kernel
theorem dX4_tellWords_131 : decode cX4_tellWords 131 = .ok (.iload 7, 2) := by decide +kernel
theorem dX4_tellWords_133 : decode cX4_tellWords 133 = .ok (.i2l, 1) := by decide +kernel
theorem dX4_tellWords_134 : decode cX4_tellWords 134 = .ok (.lastore, 1) := by decide +kernel
theorem dX4_tellWords_135 : decode cX4_tellWords 135 = .ok (.aload 4, 2) := by decide +kernel
theorem dX4_tellWords_137 : decode cX4_tellWords 137 = .ok (.bipush 8, 2) := by decide +kernel
theorem dX4_tellWords_139 : decode cX4_tellWords 139 = .ok (.iload_n 3, 1) := by decide +kernel
theorem dX4_tellWords_140 : decode cX4_tellWords 140 = .ok (.iconst (-1), 1) := by decide +kernel
theorem dX4_tellWords_141 : decode cX4_tellWords 141 = .ok (.if_icmp .ne 7, 3) := by decide +kernel
theorem dX4_tellWords_144 : decode cX4_tellWords 144 = .ok (.lconst 0, 1) := by decide +kernel
theorem dX4_tellWords_145 : decode cX4_tellWords 145 = .ok (.goto 13, 3) := by decide +kernel
theorem dX4_tellWords_148 : decode cX4_tellWords 148 = .ok (.aload_n 0, 1) := by decide +kernel
theorem dX4_tellWords_149 : decode cX4_tellWords 149 = .ok (.getfield 28, 3) := by decide +kernel
theorem dX4_tellWords_152 : decode cX4_tellWords 152 = .ok (.getfield 86, 3) := by decide +kernel
theorem dX4_tellWords_155 : decode cX4_tellWords 155 = .ok (.iload_n 3, 1) := by decide +kernel
theorem dX4_tellWords_156 : decode cX4_tellWords 156 = .ok (.iaload, 1) := by decide +kernel
theorem dX4_tellWords_157 : decode cX4_tellWords 157 = .ok (.i2l, 1) := by decide +kernel
theorem dX4_tellWords_158 : decode cX4_tellWords 158 = .ok (.lastore, 1) := by decide +kernel
theorem dX4_tellWords_159 : decode cX4_tellWords 159 = .ok (.aload 4, 2) := by decide +kernel
theorem dX4_tellWords_161 : decode cX4_tellWords 161 = .ok (.bipush 9, 2) := by decide +kernel
theorem dX4_tellWords_163 : decode cX4_tellWords 163 = .ok (.iload_n 3, 1) := by decide +kernel
theorem dX4_tellWords_164 : decode cX4_tellWords 164 = .ok (.iconst (-1), 1) := by decide +kernel
theorem dX4_tellWords_165 : decode cX4_tellWords 165 = .ok (.if_icmp .ne 7, 3) := by decide +kernel
theorem dX4_tellWords_168 : decode cX4_tellWords 168 = .ok (.lconst 0, 1) := by decide +kernel
theorem dX4_tellWords_169 : decode cX4_tellWords 169 = .ok (.goto 18, 3) := by decide +kernel
theorem dX4_tellWords_172 : decode cX4_tellWords 172 = .ok (.aload_n 0, 1) := by decide +kernel
theorem dX4_tellWords_173 : decode cX4_tellWords 173 = .ok (.getfield 28, 3) := by decide +kernel
theorem dX4_tellWords_176 : decode cX4_tellWords 176 = .ok (.getfield 80, 3) := by decide +kernel
theorem dX4_tellWords_179 : decode cX4_tellWords 179 = .ok (.iload_n 3, 1) := by decide +kernel
theorem dX4_tellWords_180 : decode cX4_tellWords 180 = .ok (.iaload, 1) := by decide +kernel
theorem dX4_tellWords_181 : decode cX4_tellWords 181 = .ok (.aload_n 0, 1) := by decide +kernel
theorem dX4_tellWords_182 : decode cX4_tellWords 182 = .ok (.getfield 9, 3) := by decide +kernel
theorem dX4_tellWords_185 : decode cX4_tellWords 185 = .ok (.isub, 1) := by decide +kernel
theorem dX4_tellWords_186 : decode cX4_tellWords 186 = .ok (.i2l, 1) := by decide +kernel
theorem dX4_tellWords_187 : decode cX4_tellWords 187 = .ok (.lastore, 1) := by decide +kernel
theorem dX4_tellWords_188 : decode cX4_tellWords 188 = .ok (.aload 4, 2) := by decide +kernel
theorem dX4_tellWords_190 : decode cX4_tellWords 190 = .ok (.bipush 10, 2) := by decide +kernel
theorem dX4_tellWords_192 : decode cX4_tellWords 192 = .ok (.aload_n 0, 1) := by decide +kernel
theorem dX4_tellWords_193 : decode cX4_tellWords 193 = .ok (.getfield 28, 3) := by decide +kernel
theorem dX4_tellWords_196 : decode cX4_tellWords 196 = .ok (.iload 5, 2) := by decide +kernel
theorem dX4_tellWords_198 : decode cX4_tellWords 198 = .ok (.iload 6, 2) := by decide +kernel
theorem dX4_tellWords_200 : decode cX4_tellWords 200 = .ok (.iload 7, 2) := by decide +kernel
theorem dX4_tellWords_202 : decode cX4_tellWords 202 = .ok (.invokevirtual 109, 3) := by decide +kernel
theorem dX4_tellWords_205 : decode cX4_tellWords 205 = .ok (.i2l, 1) := by decide +kernel
theorem dX4_tellWords_206 : decode cX4_tellWords 206 = .ok (.lastore, 1) := by decide +kernel
theorem dX4_tellWords_207 : decode cX4_tellWords 207 = .ok (.aload 4, 2) := by decide +kernel
theorem dX4_tellWords_209 : decode cX4_tellWords 209 = .ok (.bipush 11, 2) := by decide +kernel
theorem dX4_tellWords_211 : decode cX4_tellWords 211 = .ok (.aload_n 0, 1) := by decide +kernel
theorem dX4_tellWords_212 : decode cX4_tellWords 212 = .ok (.iload 5, 2) := by decide +kernel
theorem dX4_tellWords_214 : decode cX4_tellWords 214 = .ok (.invokevirtual 113, 3) := by decide +kernel
theorem dX4_tellWords_217 : decode cX4_tellWords 217 = .ok (.iconst 1, 1) := by decide +kernel
theorem dX4_tellWords_218 : decode cX4_tellWords 218 = .ok (.isub, 1) := by decide +kernel
theorem dX4_tellWords_219 : decode cX4_tellWords 219 = .ok (.i2l, 1) := by decide +kernel
theorem dX4_tellWords_220 : decode cX4_tellWords 220 = .ok (.lastore, 1) := by decide +kernel
theorem dX4_tellWords_221 : decode cX4_tellWords 221 = .ok (.return_, 1) := by decide +kernel
theorem dX4_othersIn_0 : decode cX4_othersIn 0 = .ok (.iconst 0, 1) := by decide +kernel
theorem dX4_othersIn_1 : decode cX4_othersIn 1 = .ok (.istore_n 2, 1) := by decide +kernel
theorem dX4_othersIn_2 : decode cX4_othersIn 2 = .ok (.iconst 0, 1) := by decide +kernel
theorem dX4_othersIn_3 : decode cX4_othersIn 3 = .ok (.istore_n 3, 1) := by decide +kernel
theorem dX4_othersIn_4 : decode cX4_othersIn 4 = .ok (.iload_n 3, 1) := by decide +kernel
theorem dX4_othersIn_5 : decode cX4_othersIn 5 = .ok (.aload_n 0, 1) := by decide +kernel
theorem dX4_othersIn_6 : decode cX4_othersIn 6 = .ok (.getfield 28, 3) := by decide +kernel
theorem dX4_othersIn_9 : decode cX4_othersIn 9 = .ok (.getfield 68, 3) := by decide +kernel
theorem dX4_othersIn_12 : decode cX4_othersIn 12 = .ok (.if_icmp .ge 22, 3) := by decide +kernel
theorem dX4_othersIn_15 : decode cX4_othersIn 15 = .ok (.aload_n 0, 1) := by decide +kernel
theorem dX4_othersIn_16 : decode cX4_othersIn 16 = .ok (.getfield 15, 3) := by decide +kernel
theorem dX4_othersIn_19 : decode cX4_othersIn 19 = .ok (.iload_n 3, 1) := by decide +kernel
theorem dX4_othersIn_20 : decode cX4_othersIn 20 = .ok (.iaload, 1) := by decide +kernel
theorem dX4_othersIn_21 : decode cX4_othersIn 21 = .ok (.iload_n 1, 1) := by decide +kernel
theorem dX4_othersIn_22 : decode cX4_othersIn 22 = .ok (.if_icmp .ne 6, 3) := by decide +kernel
theorem dX4_othersIn_25 : decode cX4_othersIn 25 = .ok (.iinc 2 1, 3) := by decide +kernel
theorem dX4_othersIn_28 : decode cX4_othersIn 28 = .ok (.iinc 3 1, 3) := by decide +kernel
theorem dX4_othersIn_31 : decode cX4_othersIn 31 = .ok (.goto (-27), 3) := by decide +kernel
theorem dX4_othersIn_34 : decode cX4_othersIn 34 = .ok (.iload_n 2, 1) := by decide +kernel
theorem dX4_othersIn_35 : decode cX4_othersIn 35 = .ok (.ireturn, 1) := by decide +kernel
theorem dX4_reachOf_0 : decode cX4_reachOf 0 = .ok (.iconst 1, 1) := by decide +kernel
theorem dX4_reachOf_1 : decode cX4_reachOf 1 = .ok (.aload_n 0, 1) := by decide +kernel
theorem dX4_reachOf_2 : decode cX4_reachOf 2 = .ok (.getfield 15, 3) := by decide +kernel
theorem dX4_reachOf_5 : decode cX4_reachOf 5 = .ok (.iload_n 1, 1) := by decide +kernel
theorem dX4_reachOf_6 : decode cX4_reachOf 6 = .ok (.iaload, 1) := by decide +kernel
theorem dX4_reachOf_7 : decode cX4_reachOf 7 = .ok (.ishl, 1) := by decide +kernel
theorem dX4_reachOf_8 : decode cX4_reachOf 8 = .ok (.istore_n 3, 1) := by decide +kernel
theorem dX4_reachOf_9 : decode cX4_reachOf 9 = .ok (.iconst 1, 1) := by decide +kernel
theorem dX4_reachOf_10 : decode cX4_reachOf 10 = .ok (.istore 4, 2) := by decide +kernel
theorem dX4_reachOf_12 : decode cX4_reachOf 12 = .ok (.iload 4, 2) := by decide +kernel
theorem dX4_reachOf_14 : decode cX4_reachOf 14 = .ok (.aload_n 0, 1) := by decide +kernel
theorem dX4_reachOf_15 : decode cX4_reachOf 15 = .ok (.getfield 28, 3) := by decide +kernel
theorem dX4_reachOf_18 : decode cX4_reachOf 18 = .ok (.getfield 116, 3) := by decide +kernel
theorem dX4_reachOf_21 : decode cX4_reachOf 21 = .ok (.if_icmp .ge 106, 3) := by decide +kernel
theorem dX4_reachOf_24 : decode cX4_reachOf 24 = .ok (.iload_n 3, 1) := by decide +kernel
theorem dX4_reachOf_25 : decode cX4_reachOf 25 = .ok (.istore 5, 2) := by decide +kernel
theorem dX4_reachOf_27 : decode cX4_reachOf 27 = .ok (.iconst 0, 1) := by decide +kernel
theorem dX4_reachOf_28 : decode cX4_reachOf 28 = .ok (.istore 6, 2) := by decide +kernel
theorem dX4_reachOf_30 : decode cX4_reachOf 30 = .ok (.iload 6, 2) := by decide +kernel
theorem dX4_reachOf_32 : decode cX4_reachOf 32 = .ok (.aload_n 0, 1) := by decide +kernel
theorem dX4_reachOf_33 : decode cX4_reachOf 33 = .ok (.getfield 28, 3) := by decide +kernel
theorem dX4_reachOf_36 : decode cX4_reachOf 36 = .ok (.getfield 55, 3) := by decide +kernel
theorem dX4_reachOf_39 : decode cX4_reachOf 39 = .ok (.getfield 59, 3) := by decide +kernel
theorem dX4_reachOf_42 : decode cX4_reachOf 42 = .ok (.if_icmp .ge 70, 3) := by decide +kernel
theorem dX4_reachOf_45 : decode cX4_reachOf 45 = .ok (.iconst 1, 1) := by decide +kernel
theorem dX4_reachOf_46 : decode cX4_reachOf 46 = .ok (.aload_n 0, 1) := by decide +kernel
theorem dX4_reachOf_47 : decode cX4_reachOf 47 = .ok (.getfield 28, 3) := by decide +kernel
theorem dX4_reachOf_50 : decode cX4_reachOf 50 = .ok (.getfield 55, 3) := by decide +kernel
theorem dX4_reachOf_53 : decode cX4_reachOf 53 = .ok (.getfield 119, 3) := by decide +kernel
theorem dX4_reachOf_56 : decode cX4_reachOf 56 = .ok (.iload 6, 2) := by decide +kernel
theorem dX4_reachOf_58 : decode cX4_reachOf 58 = .ok (.iaload, 1) := by decide +kernel
theorem dX4_reachOf_59 : decode cX4_reachOf 59 = .ok (.ishl, 1) := by decide +kernel
theorem dX4_reachOf_60 : decode cX4_reachOf 60 = .ok (.iconst 1, 1) := by decide +kernel
theorem dX4_reachOf_61 : decode cX4_reachOf 61 = .ok (.aload_n 0, 1) := by decide +kernel
theorem dX4_reachOf_62 : decode cX4_reachOf 62 = .ok (.getfield 28, 3) := by decide +kernel
theorem dX4_reachOf_65 : decode cX4_reachOf 65 = .ok (.getfield 55, 3) := by decide +kernel
theorem dX4_reachOf_68 : decode cX4_reachOf 68 = .ok (.getfield 122, 3) := by decide +kernel
theorem dX4_reachOf_71 : decode cX4_reachOf 71 = .ok (.iload 6, 2) := by decide +kernel
theorem dX4_reachOf_73 : decode cX4_reachOf 73 = .ok (.iaload, 1) := by decide +kernel
theorem dX4_reachOf_74 : decode cX4_reachOf 74 = .ok (.ishl, 1) := by decide +kernel
theorem dX4_reachOf_75 : decode cX4_reachOf 75 = .ok (.ior, 1) := by decide +kernel
theorem dX4_reachOf_76 : decode cX4_reachOf 76 = .ok (.istore 7, 2) := by decide +kernel
theorem dX4_reachOf_78 : decode cX4_reachOf 78 = .ok (.iload_n 3, 1) := by decide +kernel
theorem dX4_reachOf_79 : decode cX4_reachOf 79 = .ok (.iload 7, 2) := by decide +kernel
theorem dX4_reachOf_81 : decode cX4_reachOf 81 = .ok (.iand, 1) := by decide +kernel
theorem dX4_reachOf_82 : decode cX4_reachOf 82 = .ok (.ifCond .eq 24, 3) := by decide +kernel
theorem dX4_reachOf_85 : decode cX4_reachOf 85 = .ok (.iload 6, 2) := by decide +kernel
theorem dX4_reachOf_87 : decode cX4_reachOf 87 = .ok (.iload_n 2, 1) := by decide +kernel
theorem dX4_reachOf_88 : decode cX4_reachOf 88 = .ok (.if_icmp .eq 13, 3) := by decide +kernel
theorem dX4_reachOf_91 : decode cX4_reachOf 91 = .ok (.aload_n 0, 1) := by decide +kernel
theorem dX4_reachOf_92 : decode cX4_reachOf 92 = .ok (.iload_n 1, 1) := by decide +kernel
theorem dX4_reachOf_93 : decode cX4_reachOf 93 = .ok (.iload 6, 2) := by decide +kernel
theorem dX4_reachOf_95 : decode cX4_reachOf 95 = .ok (.invokevirtual 64, 3) := by decide +kernel
theorem dX4_reachOf_98 : decode cX4_reachOf 98 = .ok (.ifCond .le 8, 3) := by decide +kernel
theorem dX4_reachOf_101 : decode cX4_reachOf 101 = .ok (.iload_n 3, 1) := by decide +kernel
theorem dX4_reachOf_102 : decode cX4_reachOf 102 = .ok (.iload 7, 2) := by decide +kernel
theorem dX4_reachOf_104 : decode cX4_reachOf 104 = .ok (.ior, 1) := by decide +kernel
theorem dX4_reachOf_105 : decode cX4_reachOf 105 = .ok (.istore_n 3, 1) := by decide +kernel
theorem dX4_reachOf_106 : decode cX4_reachOf 106 = .ok (.iinc 6 1, 3) := by decide +kernel
theorem dX4_reachOf_109 : decode cX4_reachOf 109 = .ok (.goto (-79), 3) := by decide +kernel
theorem dX4_reachOf_112 : decode cX4_reachOf 112 = .ok (.iload_n 3, 1) := by decide +kernel
theorem dX4_reachOf_113 : decode cX4_reachOf 113 = .ok (.iload 5, 2) := by decide +kernel
theorem dX4_reachOf_115 : decode cX4_reachOf 115 = .ok (.if_icmp .ne 6, 3) := by decide +kernel
theorem dX4_reachOf_118 : decode cX4_reachOf 118 = .ok (.goto 9, 3) := by decide +kernel
theorem dX4_reachOf_121 : decode cX4_reachOf 121 = .ok (.iinc 4 1, 3) := by decide +kernel
theorem dX4_reachOf_124 : decode cX4_reachOf 124 = .ok (.goto (-112), 3) := by decide +kernel
theorem dX4_reachOf_127 : decode cX4_reachOf 127 = .ok (.iload_n 3, 1) := by decide +kernel
theorem dX4_reachOf_128 : decode cX4_reachOf 128 = .ok (.ireturn, 1) := by decide +kernel
theorem dX4_measure_0 : decode cX4_measure 0 = .ok (.aload_n 3, 1) := by decide +kernel
theorem dX4_measure_1 : decode cX4_measure 1 = .ok (.bipush 99, 2) := by decide +kernel
theorem dX4_measure_3 : decode cX4_measure 3 = .ok (.invokestatic 46, 3) := by decide +kernel
theorem dX4_measure_6 : decode cX4_measure 6 = .ok (.aload_n 3, 1) := by decide +kernel
theorem dX4_measure_7 : decode cX4_measure 7 = .ok (.iload_n 2, 1) := by decide +kernel
theorem dX4_measure_8 : decode cX4_measure 8 = .ok (.iconst 0, 1) := by decide +kernel
theorem dX4_measure_9 : decode cX4_measure 9 = .ok (.iastore, 1) := by decide +kernel
theorem dX4_measure_10 : decode cX4_measure 10 = .ok (.iconst 1, 1) := by decide +kernel
theorem dX4_measure_11 : decode cX4_measure 11 = .ok (.istore 4, 2) := by decide +kernel
theorem dX4_measure_13 : decode cX4_measure 13 = .ok (.iload 4, 2) := by decide +kernel
theorem dX4_measure_15 : decode cX4_measure 15 = .ok (.aload_n 0, 1) := by decide +kernel
theorem dX4_measure_16 : decode cX4_measure 16 = .ok (.getfield 28, 3) := by decide +kernel
theorem dX4_measure_19 : decode cX4_measure 19 = .ok (.getfield 116, 3) := by decide +kernel
theorem dX4_measure_22 : decode cX4_measure 22 = .ok (.if_icmp .ge 107, 3) := by decide +kernel
theorem dX4_measure_25 : decode cX4_measure 25 = .ok (.iconst 0, 1) := by decide +kernel
theorem dX4_measure_26 : decode cX4_measure 26 = .ok (.istore 5, 2) := by decide +kernel
theorem dX4_measure_28 : decode cX4_measure 28 = .ok (.iload 5, 2) := by decide +kernel
theorem dX4_measure_30 : decode cX4_measure 30 = .ok (.aload_n 0, 1) := by decide +kernel
theorem dX4_measure_31 : decode cX4_measure 31 = .ok (.getfield 28, 3) := by decide +kernel
theorem dX4_measure_34 : decode cX4_measure 34 = .ok (.getfield 55, 3) := by decide +kernel
theorem dX4_measure_37 : decode cX4_measure 37 = .ok (.getfield 59, 3) := by decide +kernel
theorem dX4_measure_40 : decode cX4_measure 40 = .ok (.if_icmp .ge 83, 3) := by decide +kernel
theorem dX4_measure_43 : decode cX4_measure 43 = .ok (.aload_n 0, 1) := by decide +kernel
theorem dX4_measure_44 : decode cX4_measure 44 = .ok (.iload_n 1, 1) := by decide +kernel
theorem dX4_measure_45 : decode cX4_measure 45 = .ok (.iload 5, 2) := by decide +kernel
theorem dX4_measure_47 : decode cX4_measure 47 = .ok (.invokevirtual 64, 3) := by decide +kernel
theorem dX4_measure_50 : decode cX4_measure 50 = .ok (.ifCond .le 67, 3) := by decide +kernel
theorem dX4_measure_53 : decode cX4_measure 53 = .ok (.aload_n 0, 1) := by decide +kernel
theorem dX4_measure_54 : decode cX4_measure 54 = .ok (.getfield 28, 3) := by decide +kernel
theorem dX4_measure_57 : decode cX4_measure 57 = .ok (.getfield 55, 3) := by decide +kernel
theorem dX4_measure_60 : decode cX4_measure 60 = .ok (.getfield 119, 3) := by decide +kernel
theorem dX4_measure_63 : decode cX4_measure 63 = .ok (.iload 5, 2) := by decide +kernel
theorem dX4_measure_65 : decode cX4_measure 65 = .ok (.iaload, 1) := by decide +kernel
theorem dX4_measure_66 : decode cX4_measure 66 = .ok (.istore 6, 2) := by decide +kernel
theorem dX4_measure_68 : decode cX4_measure 68 = .ok (.aload_n 0, 1) := by decide +kernel
theorem dX4_measure_69 : decode cX4_measure 69 = .ok (.getfield 28, 3) := by decide +kernel
theorem dX4_measure_72 : decode cX4_measure 72 = .ok (.getfield 55, 3) := by decide +kernel
theorem dX4_measure_75 : decode cX4_measure 75 = .ok (.getfield 122, 3) := by decide +kernel
theorem dX4_measure_78 : decode cX4_measure 78 = .ok (.iload 5, 2) := by decide +kernel
theorem dX4_measure_80 : decode cX4_measure 80 = .ok (.iaload, 1) := by decide +kernel
theorem dX4_measure_81 : decode cX4_measure 81 = .ok (.istore 7, 2) := by decide +kernel
theorem dX4_measure_83 : decode cX4_measure 83 = .ok (.aload_n 3, 1) := by decide +kernel
theorem dX4_measure_84 : decode cX4_measure 84 = .ok (.iload 6, 2) := by decide +kernel
theorem dX4_measure_86 : decode cX4_measure 86 = .ok (.aload_n 3, 1) := by decide +kernel
theorem dX4_measure_87 : decode cX4_measure 87 = .ok (.iload 6, 2) := by decide +kernel
theorem dX4_measure_89 : decode cX4_measure 89 = .ok (.iaload, 1) := by decide +kernel
theorem dX4_measure_90 : decode cX4_measure 90 = .ok (.aload_n 3, 1) := by decide +kernel
theorem dX4_measure_91 : decode cX4_measure 91 = .ok (.iload 7, 2) := by decide +kernel
theorem dX4_measure_93 : decode cX4_measure 93 = .ok (.iaload, 1) := by decide +kernel
theorem dX4_measure_94 : decode cX4_measure 94 = .ok (.iconst 1, 1) := by decide +kernel
theorem dX4_measure_95 : decode cX4_measure 95 = .ok (.iadd, 1) := by decide +kernel
theorem dX4_measure_96 : decode cX4_measure 96 = .ok (.invokestatic 89, 3) := by decide +kernel
theorem dX4_measure_99 : decode cX4_measure 99 = .ok (.iastore, 1) := by decide +kernel
theorem dX4_measure_100 : decode cX4_measure 100 = .ok (.aload_n 3, 1) := by decide +kernel
theorem dX4_measure_101 : decode cX4_measure 101 = .ok (.iload 7, 2) := by decide +kernel
theorem dX4_measure_103 : decode cX4_measure 103 = .ok (.aload_n 3, 1) := by decide +kernel
theorem dX4_measure_104 : decode cX4_measure 104 = .ok (.iload 7, 2) := by decide +kernel
theorem dX4_measure_106 : decode cX4_measure 106 = .ok (.iaload, 1) := by decide +kernel
theorem dX4_measure_107 : decode cX4_measure 107 = .ok (.aload_n 3, 1) := by decide +kernel
theorem dX4_measure_108 : decode cX4_measure 108 = .ok (.iload 6, 2) := by decide +kernel
theorem dX4_measure_110 : decode cX4_measure 110 = .ok (.iaload, 1) := by decide +kernel
theorem dX4_measure_111 : decode cX4_measure 111 = .ok (.iconst 1, 1) := by decide +kernel
theorem dX4_measure_112 : decode cX4_measure 112 = .ok (.iadd, 1) := by decide +kernel
theorem dX4_measure_113 : decode cX4_measure 113 = .ok (.invokestatic 89, 3) := by decide +kernel
theorem dX4_measure_116 : decode cX4_measure 116 = .ok (.iastore, 1) := by decide +kernel
theorem dX4_measure_117 : decode cX4_measure 117 = .ok (.iinc 5 1, 3) := by decide +kernel
theorem dX4_measure_120 : decode cX4_measure 120 = .ok (.goto (-92), 3) := by decide +kernel
theorem dX4_measure_123 : decode cX4_measure 123 = .ok (.iinc 4 1, 3) := by decide +kernel
theorem dX4_measure_126 : decode cX4_measure 126 = .ok (.goto (-113), 3) := by decide +kernel
theorem dX4_measure_129 : decode cX4_measure 129 = .ok (.return_, 1) := by decide +kernel
theorem dX4_firstStep_0 : decode cX4_firstStep 0 = .ok (.aload_n 0, 1) := by decide +kernel
theorem dX4_firstStep_1 : decode cX4_firstStep 1 = .ok (.getfield 15, 3) := by decide +kernel
theorem dX4_firstStep_4 : decode cX4_firstStep 4 = .ok (.iload_n 1, 1) := by decide +kernel
theorem dX4_firstStep_5 : decode cX4_firstStep 5 = .ok (.iaload, 1) := by decide +kernel
theorem dX4_firstStep_6 : decode cX4_firstStep 6 = .ok (.istore_n 3, 1) := by decide +kernel
theorem dX4_firstStep_7 : decode cX4_firstStep 7 = .ok (.iconst 0, 1) := by decide +kernel
theorem dX4_firstStep_8 : decode cX4_firstStep 8 = .ok (.istore 4, 2) := by decide +kernel
theorem dX4_firstStep_10 : decode cX4_firstStep 10 = .ok (.iload 4, 2) := by decide +kernel
theorem dX4_firstStep_12 : decode cX4_firstStep 12 = .ok (.aload_n 0, 1) := by decide +kernel
theorem dX4_firstStep_13 : decode cX4_firstStep 13 = .ok (.getfield 28, 3) := by decide +kernel
theorem dX4_firstStep_16 : decode cX4_firstStep 16 = .ok (.getfield 55, 3) := by decide +kernel
theorem dX4_firstStep_19 : decode cX4_firstStep 19 = .ok (.getfield 59, 3) := by decide +kernel
theorem dX4_firstStep_22 : decode cX4_firstStep 22 = .ok (.if_icmp .ge 45, 3) := by decide +kernel
theorem dX4_firstStep_25 : decode cX4_firstStep 25 = .ok (.aload_n 0, 1) := by decide +kernel
theorem dX4_firstStep_26 : decode cX4_firstStep 26 = .ok (.iload_n 1, 1) := by decide +kernel
theorem dX4_firstStep_27 : decode cX4_firstStep 27 = .ok (.iload 4, 2) := by decide +kernel
theorem dX4_firstStep_29 : decode cX4_firstStep 29 = .ok (.invokevirtual 125, 3) := by decide +kernel
theorem dX4_firstStep_32 : decode cX4_firstStep 32 = .ok (.ifCond .eq 29, 3) := by decide +kernel
theorem dX4_firstStep_35 : decode cX4_firstStep 35 = .ok (.aload_n 2, 1) := by decide +kernel
theorem dX4_firstStep_36 : decode cX4_firstStep 36 = .ok (.aload_n 0, 1) := by decide +kernel
theorem dX4_firstStep_37 : decode cX4_firstStep 37 = .ok (.getfield 28, 3) := by decide +kernel
theorem dX4_firstStep_40 : decode cX4_firstStep 40 = .ok (.getfield 55, 3) := by decide +kernel
theorem dX4_firstStep_43 : decode cX4_firstStep 43 = .ok (.iload 4, 2) := by decide +kernel
theorem dX4_firstStep_45 : decode cX4_firstStep 45 = .ok (.iload_n 3, 1) := by decide +kernel
theorem dX4_firstStep_46 : decode cX4_firstStep 46 = .ok (.invokevirtual 71, 3) := by decide +kernel
theorem dX4_firstStep_49 : decode cX4_firstStep 49 = .ok (.iaload, 1) := by decide +kernel
theorem dX4_firstStep_50 : decode cX4_firstStep 50 = .ok (.aload_n 2, 1) := by decide +kernel
theorem dX4_firstStep_51 : decode cX4_firstStep 51 = .ok (.iload_n 3, 1) := by decide +kernel
theorem dX4_firstStep_52 : decode cX4_firstStep 52 = .ok (.iaload, 1) := by decide +kernel
theorem dX4_firstStep_53 : decode cX4_firstStep 53 = .ok (.iconst 1, 1) := by decide +kernel
theorem dX4_firstStep_54 : decode cX4_firstStep 54 = .ok (.isub, 1) := by decide +kernel
theorem dX4_firstStep_55 : decode cX4_firstStep 55 = .ok (.if_icmp .ne 6, 3) := by decide +kernel
theorem dX4_firstStep_58 : decode cX4_firstStep 58 = .ok (.iload 4, 2) := by decide +kernel
theorem dX4_firstStep_60 : decode cX4_firstStep 60 = .ok (.ireturn, 1) := by decide +kernel
theorem dX4_firstStep_61 : decode cX4_firstStep 61 = .ok (.iinc 4 1, 3) := by decide +kernel
theorem dX4_firstStep_64 : decode cX4_firstStep 64 = .ok (.goto (-54), 3) := by decide +kernel
theorem dX4_firstStep_67 : decode cX4_firstStep 67 = .ok (.iconst (-1), 1) := by decide +kernel
theorem dX4_firstStep_68 : decode cX4_firstStep 68 = .ok (.ireturn, 1) := by decide +kernel
theorem dX5_init_0 : decode cX5_init 0 = .ok (.aload_n 0, 1) := by decide +kernel
theorem dX5_init_1 : decode cX5_init 1 = .ok (.invokespecial 3, 3) := by decide +kernel
theorem dX5_init_4 : decode cX5_init 4 = .ok (.aload_n 0, 1) := by decide +kernel
theorem dX5_init_5 : decode cX5_init 5 = .ok (.bipush 9, 2) := by decide +kernel
theorem dX5_init_7 : decode cX5_init 7 = .ok (.newarray .int, 2) := by decide +kernel
theorem dX5_init_9 : decode cX5_init 9 = .ok (.putfield 9, 3) := by decide +kernel
theorem dX5_init_12 : decode cX5_init 12 = .ok (.aload_n 0, 1) := by decide +kernel
theorem dX5_init_13 : decode cX5_init 13 = .ok (.bipush 9, 2) := by decide +kernel
theorem dX5_init_15 : decode cX5_init 15 = .ok (.newarray .int, 2) := by decide +kernel
theorem dX5_init_17 : decode cX5_init 17 = .ok (.putfield 15, 3) := by decide +kernel
theorem dX5_init_20 : decode cX5_init 20 = .ok (.aload_n 0, 1) := by decide +kernel
theorem dX5_init_21 : decode cX5_init 21 = .ok (.sipush 256, 3) := by decide +kernel
theorem dX5_init_24 : decode cX5_init 24 = .ok (.newarray .int, 2) := by decide +kernel
theorem dX5_init_26 : decode cX5_init 26 = .ok (.putfield 18, 3) := by decide +kernel
theorem dX5_init_29 : decode cX5_init 29 = .ok (.aload_n 0, 1) := by decide +kernel
theorem dX5_init_30 : decode cX5_init 30 = .ok (.sipush 256, 3) := by decide +kernel
theorem dX5_init_33 : decode cX5_init 33 = .ok (.newarray .int, 2) := by decide +kernel
theorem dX5_init_35 : decode cX5_init 35 = .ok (.putfield 21, 3) := by decide +kernel
theorem dX5_init_38 : decode cX5_init 38 = .ok (.aload_n 0, 1) := by decide +kernel
theorem dX5_init_39 : decode cX5_init 39 = .ok (.sipush 256, 3) := by decide +kernel
theorem dX5_init_42 : decode cX5_init 42 = .ok (.newarray .int, 2) := by decide +kernel
theorem dX5_init_44 : decode cX5_init 44 = .ok (.putfield 24, 3) := by decide +kernel
theorem dX5_init_47 : decode cX5_init 47 = .ok (.aload_n 0, 1) := by decide +kernel
theorem dX5_init_48 : decode cX5_init 48 = .ok (.iconst 0, 1) := by decide +kernel
theorem dX5_init_49 : decode cX5_init 49 = .ok (.putfield 27, 3) := by decide +kernel
theorem dX5_init_52 : decode cX5_init 52 = .ok (.aload_n 0, 1) := by decide +kernel
theorem dX5_init_53 : decode cX5_init 53 = .ok (.iconst 0, 1) := by decide +kernel
theorem dX5_init_54 : decode cX5_init 54 = .ok (.putfield 31, 3) := by decide +kernel
theorem dX5_init_57 : decode cX5_init 57 = .ok (.aload_n 0, 1) := by decide +kernel
theorem dX5_init_58 : decode cX5_init 58 = .ok (.iconst 0, 1) := by decide +kernel
theorem dX5_init_59 : decode cX5_init 59 = .ok (.putfield 34, 3) := by decide +kernel
theorem dX5_init_62 : decode cX5_init 62 = .ok (.aload_n 0, 1) := by decide +kernel
theorem dX5_init_63 : decode cX5_init 63 = .ok (.iconst 0, 1) := by decide +kernel
theorem dX5_init_64 : decode cX5_init 64 = .ok (.putfield 37, 3) := by decide +kernel
theorem dX5_init_67 : decode cX5_init 67 = .ok (.aload_n 0, 1) := by decide +kernel
theorem dX5_init_68 : decode cX5_init 68 = .ok (.aload_n 1, 1) := by decide +kernel
theorem dX5_init_69 : decode cX5_init 69 = .ok (.putfield 40, 3) := by decide +kernel
theorem dX5_init_72 : decode cX5_init 72 = .ok (.return_, 1) := by decide +kernel
theorem dX5_prepare_0 : decode cX5_prepare 0 = .ok (.aload_n 0, 1) := by decide +kernel
theorem dX5_prepare_1 : decode cX5_prepare 1 = .ok (.aload_n 1, 1) := by decide +kernel
theorem dX5_prepare_2 : decode cX5_prepare 2 = .ok (.getfield 44, 3) := by decide +kernel
theorem dX5_prepare_5 : decode cX5_prepare 5 = .ok (.getfield 50, 3) := by decide +kernel
theorem dX5_prepare_8 : decode cX5_prepare 8 = .ok (.putfield 40, 3) := by decide +kernel
theorem dX5_prepare_11 : decode cX5_prepare 11 = .ok (.aload_n 0, 1) := by decide +kernel
theorem dX5_prepare_12 : decode cX5_prepare 12 = .ok (.aload_n 1, 1) := by decide +kernel
theorem dX5_prepare_13 : decode cX5_prepare 13 = .ok (.getfield 44, 3) := by decide +kernel
theorem dX5_prepare_16 : decode cX5_prepare 16 = .ok (.getfield 53, 3) := by decide +kernel
theorem dX5_prepare_19 : decode cX5_prepare 19 = .ok (.iload_n 2, 1) := by decide +kernel
theorem dX5_prepare_20 : decode cX5_prepare 20 = .ok (.iaload, 1) := by decide +kernel
theorem dX5_prepare_21 : decode cX5_prepare 21 = .ok (.putfield 34, 3) := by decide +kernel
theorem dX5_prepare_24 : decode cX5_prepare 24 = .ok (.aload_n 0, 1) := by decide +kernel
theorem dX5_prepare_25 : decode cX5_prepare 25 = .ok (.aload_n 1, 1) := by decide +kernel
theorem dX5_prepare_26 : decode cX5_prepare 26 = .ok (.getfield 56, 3) := by decide +kernel
theorem dX5_prepare_29 : decode cX5_prepare 29 = .ok (.iload_n 2, 1) := by decide +kernel
theorem dX5_prepare_30 : decode cX5_prepare 30 = .ok (.iaload, 1) := by decide +kernel
theorem dX5_prepare_31 : decode cX5_prepare 31 = .ok (.putfield 37, 3) := by decide +kernel
theorem dX5_prepare_34 : decode cX5_prepare 34 = .ok (.aload_n 0, 1) := by decide +kernel
theorem dX5_prepare_35 : decode cX5_prepare 35 = .ok (.iconst 0, 1) := by decide +kernel
theorem dX5_prepare_36 : decode cX5_prepare 36 = .ok (.putfield 27, 3) := by decide +kernel
theorem dX5_prepare_39 : decode cX5_prepare 39 = .ok (.iconst 1, 1) := by decide +kernel
theorem dX5_prepare_40 : decode cX5_prepare 40 = .ok (.istore_n 3, 1) := by decide +kernel
theorem dX5_prepare_41 : decode cX5_prepare 41 = .ok (.iconst 0, 1) := by decide +kernel
theorem dX5_prepare_42 : decode cX5_prepare 42 = .ok (.istore 4, 2) := by decide +kernel
theorem dX5_prepare_44 : decode cX5_prepare 44 = .ok (.iload 4, 2) := by decide +kernel
theorem dX5_prepare_46 : decode cX5_prepare 46 = .ok (.aload_n 0, 1) := by decide +kernel
theorem dX5_prepare_47 : decode cX5_prepare 47 = .ok (.getfield 40, 3) := by decide +kernel
theorem dX5_prepare_50 : decode cX5_prepare 50 = .ok (.getfield 59, 3) := by decide +kernel
theorem dX5_prepare_53 : decode cX5_prepare 53 = .ok (.if_icmp .ge 73, 3) := by decide +kernel
theorem dX5_prepare_56 : decode cX5_prepare 56 = .ok (.aload_n 0, 1) := by decide +kernel
theorem dX5_prepare_57 : decode cX5_prepare 57 = .ok (.getfield 27, 3) := by decide +kernel
theorem dX5_prepare_60 : decode cX5_prepare 60 = .ok (.bipush 8, 2) := by decide +kernel
theorem dX5_prepare_62 : decode cX5_prepare 62 = .ok (.if_icmp .gt 64, 3) := by decide +kernel
theorem dX5_prepare_65 : decode cX5_prepare 65 = .ok (.aload_n 0, 1) := by decide +kernel
theorem dX5_prepare_66 : decode cX5_prepare 66 = .ok (.getfield 9, 3) := by decide +kernel
theorem dX5_prepare_69 : decode cX5_prepare 69 = .ok (.iload 4, 2) := by decide +kernel
theorem dX5_prepare_71 : decode cX5_prepare 71 = .ok (.aload_n 1, 1) := by decide +kernel
theorem dX5_prepare_72 : decode cX5_prepare 72 = .ok (.getfield 64, 3) := by decide +kernel
theorem dX5_prepare_75 : decode cX5_prepare 75 = .ok (.iload_n 2, 1) := by decide +kernel
theorem dX5_prepare_76 : decode cX5_prepare 76 = .ok (.bipush 9, 2) := by decide +kernel
theorem dX5_prepare_78 : decode cX5_prepare 78 = .ok (.imul, 1) := by decide +kernel
theorem dX5_prepare_79 : decode cX5_prepare 79 = .ok (.iload 4, 2) := by decide +kernel
theorem dX5_prepare_81 : decode cX5_prepare 81 = .ok (.iadd, 1) := by decide +kernel
theorem dX5_prepare_82 : decode cX5_prepare 82 = .ok (.iaload, 1) := by decide +kernel
theorem dX5_prepare_83 : decode cX5_prepare 83 = .ok (.iastore, 1) := by decide +kernel
theorem dX5_prepare_84 : decode cX5_prepare 84 = .ok (.aload_n 0, 1) := by decide +kernel
theorem dX5_prepare_85 : decode cX5_prepare 85 = .ok (.dup, 1) := by decide +kernel
theorem dX5_prepare_86 : decode cX5_prepare 86 = .ok (.getfield 27, 3) := by decide +kernel
theorem dX5_prepare_89 : decode cX5_prepare 89 = .ok (.aload_n 0, 1) := by decide +kernel
theorem dX5_prepare_90 : decode cX5_prepare 90 = .ok (.getfield 9, 3) := by decide +kernel
theorem dX5_prepare_93 : decode cX5_prepare 93 = .ok (.iload 4, 2) := by decide +kernel
theorem dX5_prepare_95 : decode cX5_prepare 95 = .ok (.iaload, 1) := by decide +kernel
theorem dX5_prepare_96 : decode cX5_prepare 96 = .ok (.iadd, 1) := by decide +kernel
theorem dX5_prepare_97 : decode cX5_prepare 97 = .ok (.putfield 27, 3) := by decide +kernel
theorem dX5_prepare_100 : decode cX5_prepare 100 = .ok (.aload_n 0, 1) := by decide +kernel
theorem dX5_prepare_101 : decode cX5_prepare 101 = .ok (.getfield 15, 3) := by decide +kernel
theorem dX5_prepare_104 : decode cX5_prepare 104 = .ok (.iload 4, 2) := by decide +kernel
theorem dX5_prepare_106 : decode cX5_prepare 106 = .ok (.iload_n 3, 1) := by decide +kernel
theorem dX5_prepare_107 : decode cX5_prepare 107 = .ok (.iastore, 1) := by decide +kernel
theorem dX5_prepare_108 : decode cX5_prepare 108 = .ok (.iload_n 3, 1) := by decide +kernel
theorem dX5_prepare_109 : decode cX5_prepare 109 = .ok (.aload_n 0, 1) := by decide +kernel
theorem dX5_prepare_110 : decode cX5_prepare 110 = .ok (.getfield 9, 3) := by decide +kernel
theorem dX5_prepare_113 : decode cX5_prepare 113 = .ok (.iload 4, 2) := by decide +kernel
theorem dX5_prepare_115 : decode cX5_prepare 115 = .ok (.iaload, 1) := by decide +kernel
theorem dX5_prepare_116 : decode cX5_prepare 116 = .ok (.iconst 1, 1) := by decide +kernel
theorem dX5_prepare_117 : decode cX5_prepare 117 = .ok (.iadd, 1) := by decide +kernel
theorem dX5_prepare_118 : decode cX5_prepare 118 = .ok (.imul, 1) := by decide +kernel
theorem dX5_prepare_119 : decode cX5_prepare 119 = .ok (.istore_n 3, 1) := by decide +kernel
theorem dX5_prepare_120 : decode cX5_prepare 120 = .ok (.iinc 4 1, 3) := by decide +kernel
theorem dX5_prepare_123 : decode cX5_prepare 123 = .ok (.goto (-79), 3) := by decide +kernel
theorem dX5_prepare_126 : decode cX5_prepare 126 = .ok (.aload_n 0, 1) := by decide +kernel
theorem dX5_prepare_127 : decode cX5_prepare 127 = .ok (.iload_n 3, 1) := by decide +kernel
theorem dX5_prepare_128 : decode cX5_prepare 128 = .ok (.iconst 1, 1) := by decide +kernel
theorem dX5_prepare_129 : decode cX5_prepare 129 = .ok (.isub, 1) := by decide +kernel
theorem dX5_prepare_130 : decode cX5_prepare 130 = .ok (.putfield 31, 3) := by decide +kernel
theorem dX5_prepare_133 : decode cX5_prepare 133 = .ok (.aload_n 0, 1) := by decide +kernel
theorem dX5_prepare_134 : decode cX5_prepare 134 = .ok (.getfield 27, 3) := by decide +kernel
theorem dX5_prepare_137 : decode cX5_prepare 137 = .ok (.bipush 8, 2) := by decide +kernel
theorem dX5_prepare_139 : decode cX5_prepare 139 = .ok (.if_icmp .gt 7, 3) := by decide +kernel
theorem dX5_prepare_142 : decode cX5_prepare 142 = .ok (.iconst 1, 1) := by decide +kernel
theorem dX5_prepare_143 : decode cX5_prepare 143 = .ok (.goto 4, 3) := by decide +kernel
theorem dX5_prepare_146 : decode cX5_prepare 146 = .ok (.iconst 0, 1) := by decide +kernel
theorem dX5_prepare_147 : decode cX5_prepare 147 = .ok (.ireturn, 1) := by decide +kernel
theorem dX5_tell_0 : decode cX5_tell 0 = .ok (.aload_n 0, 1) := by decide +kernel
theorem dX5_tell_1 : decode cX5_tell 1 = .ok (.getfield 18, 3) := by decide +kernel
theorem dX5_tell_4 : decode cX5_tell 4 = .ok (.iconst (-1), 1) := by decide +kernel
theorem dX5_tell_5 : decode cX5_tell 5 = .ok (.invokestatic 67, 3) := by decide +kernel
theorem dX5_tell_8 : decode cX5_tell 8 = .ok (.aload_n 0, 1) := by decide +kernel
theorem dX5_tell_9 : decode cX5_tell 9 = .ok (.iconst 0, 1) := by decide +kernel
theorem dX5_tell_10 : decode cX5_tell 10 = .ok (.aload_n 0, 1) := by decide +kernel
theorem dX5_tell_11 : decode cX5_tell 11 = .ok (.getfield 34, 3) := by decide +kernel
theorem dX5_tell_14 : decode cX5_tell 14 = .ok (.aload_n 0, 1) := by decide +kernel
theorem dX5_tell_15 : decode cX5_tell 15 = .ok (.getfield 27, 3) := by decide +kernel
theorem dX5_tell_18 : decode cX5_tell 18 = .ok (.invokevirtual 73, 3) := by decide +kernel
theorem dX5_tell_21 : decode cX5_tell 21 = .ok (.return_, 1) := by decide +kernel
theorem dX5_rowCount_0 : decode cX5_rowCount 0 = .ok (.aload_n 0, 1) := by decide +kernel
theorem dX5_rowCount_1 : decode cX5_rowCount 1 = .ok (.getfield 18, 3) := by decide +kernel
theorem dX5_rowCount_4 : decode cX5_rowCount 4 = .ok (.iconst 0, 1) := by decide +kernel
theorem dX5_rowCount_5 : decode cX5_rowCount 5 = .ok (.iaload, 1) := by decide +kernel
theorem dX5_rowCount_6 : decode cX5_rowCount 6 = .ok (.ireturn, 1) := by decide +kernel
theorem dX5_lastOnes_0 : decode cX5_lastOnes 0 = .ok (.aload_n 0, 1) := by decide +kernel
theorem dX5_lastOnes_1 : decode cX5_lastOnes 1 = .ok (.getfield 21, 3) := by decide +kernel
theorem dX5_lastOnes_4 : decode cX5_lastOnes 4 = .ok (.iconst 0, 1) := by decide +kernel
theorem dX5_lastOnes_5 : decode cX5_lastOnes 5 = .ok (.iaload, 1) := by decide +kernel
theorem dX5_lastOnes_6 : decode cX5_lastOnes 6 = .ok (.ireturn, 1) := by decide +kernel
theorem dX5_lastOfFirst_0 : decode cX5_lastOfFirst 0 = .ok (.aload_n 0, 1) := by decide +kernel
theorem dX5_lastOfFirst_1 : decode cX5_lastOfFirst 1 = .ok (.getfield 24, 3) := by decide +kernel
theorem dX5_lastOfFirst_4 : decode cX5_lastOfFirst 4 = .ok (.iconst 0, 1) := by decide +kernel
theorem dX5_lastOfFirst_5 : decode cX5_lastOfFirst 5 = .ok (.iaload, 1) := by decide +kernel
theorem dX5_lastOfFirst_6 : decode cX5_lastOfFirst 6 = .ok (.ireturn, 1) := by decide +kernel
theorem dX5_follow_0 : decode cX5_follow 0 = .ok (.aload_n 0, 1) := by decide +kernel
theorem dX5_follow_1 : decode cX5_follow 1 = .ok (.getfield 18, 3) := by decide +kernel
theorem dX5_follow_4 : decode cX5_follow 4 = .ok (.iload_n 1, 1) := by decide +kernel
theorem dX5_follow_5 : decode cX5_follow 5 = .ok (.iload_n 3, 1) := by decide +kernel
theorem dX5_follow_6 : decode cX5_follow 6 = .ok (.ifCond .ne 15, 3) := by decide +kernel
theorem dX5_follow_9 : decode cX5_follow 9 = .ok (.iload_n 2, 1) := by decide +kernel
theorem dX5_follow_10 : decode cX5_follow 10 = .ok (.aload_n 0, 1) := by decide +kernel
theorem dX5_follow_11 : decode cX5_follow 11 = .ok (.getfield 37, 3) := by decide +kernel
theorem dX5_follow_14 : decode cX5_follow 14 = .ok (.if_icmp .ne 7, 3) := by decide +kernel
theorem dX5_follow_17 : decode cX5_follow 17 = .ok (.iconst 1, 1) := by decide +kernel
theorem dX5_follow_18 : decode cX5_follow 18 = .ok (.goto 4, 3) := by decide +kernel
theorem dX5_follow_21 : decode cX5_follow 21 = .ok (.iconst 0, 1) := by decide +kernel
theorem dX5_follow_22 : decode cX5_follow 22 = .ok (.iastore, 1) := by decide +kernel
theorem dX5_follow_23 : decode cX5_follow 23 = .ok (.aload_n 0, 1) := by decide +kernel
theorem dX5_follow_24 : decode cX5_follow 24 = .ok (.getfield 21, 3) := by decide +kernel
theorem dX5_follow_27 : decode cX5_follow 27 = .ok (.iload_n 1, 1) := by decide +kernel
theorem dX5_follow_28 : decode cX5_follow 28 = .ok (.iconst 0, 1) := by decide +kernel
theorem dX5_follow_29 : decode cX5_follow 29 = .ok (.iastore, 1) := by decide +kernel
theorem dX5_follow_30 : decode cX5_follow 30 = .ok (.aload_n 0, 1) := by decide +kernel
theorem dX5_follow_31 : decode cX5_follow 31 = .ok (.getfield 24, 3) := by decide +kernel
theorem dX5_follow_34 : decode cX5_follow 34 = .ok (.iload_n 1, 1) := by decide +kernel
theorem dX5_follow_35 : decode cX5_follow 35 = .ok (.bipush (-2), 2) := by decide +kernel
theorem dX5_follow_37 : decode cX5_follow 37 = .ok (.iastore, 1) := by decide +kernel
theorem dX5_follow_38 : decode cX5_follow 38 = .ok (.iload_n 3, 1) := by decide +kernel
theorem dX5_follow_39 : decode cX5_follow 39 = .ok (.ifCond .gt 4, 3) := by decide +kernel
theorem dX5_follow_42 : decode cX5_follow 42 = .ok (.return_, 1) := by decide +kernel
theorem dX5_follow_43 : decode cX5_follow 43 = .ok (.iconst 0, 1) := by decide +kernel
theorem dX5_follow_44 : decode cX5_follow 44 = .ok (.istore 4, 2) := by decide +kernel
theorem dX5_follow_46 : decode cX5_follow 46 = .ok (.iload 4, 2) := by decide +kernel
theorem dX5_follow_48 : decode cX5_follow 48 = .ok (.aload_n 0, 1) := by decide +kernel
theorem dX5_follow_49 : decode cX5_follow 49 = .ok (.getfield 40, 3) := by decide +kernel
theorem dX5_follow_52 : decode cX5_follow 52 = .ok (.getfield 59, 3) := by decide +kernel
theorem dX5_follow_55 : decode cX5_follow 55 = .ok (.if_icmp .ge 111, 3) := by decide +kernel
theorem dX5_follow_58 : decode cX5_follow 58 = .ok (.aload_n 0, 1) := by decide +kernel
theorem dX5_follow_59 : decode cX5_follow 59 = .ok (.getfield 40, 3) := by decide +kernel
theorem dX5_follow_62 : decode cX5_follow 62 = .ok (.iload 4, 2) := by decide +kernel
theorem dX5_follow_64 : decode cX5_follow 64 = .ok (.iload_n 2, 1) := by decide +kernel
theorem dX5_follow_65 : decode cX5_follow 65 = .ok (.invokevirtual 77, 3) := by decide +kernel
theorem dX5_follow_68 : decode cX5_follow 68 = .ok (.istore 5, 2) := by decide +kernel
theorem dX5_follow_70 : decode cX5_follow 70 = .ok (.iload 5, 2) := by decide +kernel
theorem dX5_follow_72 : decode cX5_follow 72 = .ok (.iconst (-1), 1) := by decide +kernel
theorem dX5_follow_73 : decode cX5_follow 73 = .ok (.if_icmp .eq 87, 3) := by decide +kernel
theorem dX5_follow_76 : decode cX5_follow 76 = .ok (.aload_n 0, 1) := by decide +kernel
theorem dX5_follow_77 : decode cX5_follow 77 = .ok (.getfield 9, 3) := by decide +kernel
theorem dX5_follow_80 : decode cX5_follow 80 = .ok (.iload 4, 2) := by decide +kernel
theorem dX5_follow_82 : decode cX5_follow 82 = .ok (.iaload, 1) := by decide +kernel
theorem dX5_follow_83 : decode cX5_follow 83 = .ok (.ifCond .le 77, 3) := by decide +kernel
theorem dX5_follow_86 : decode cX5_follow 86 = .ok (.iload_n 1, 1) := by decide +kernel
theorem dX5_follow_87 : decode cX5_follow 87 = .ok (.aload_n 0, 1) := by decide +kernel
theorem dX5_follow_88 : decode cX5_follow 88 = .ok (.getfield 15, 3) := by decide +kernel
theorem dX5_follow_91 : decode cX5_follow 91 = .ok (.iload 4, 2) := by decide +kernel
theorem dX5_follow_93 : decode cX5_follow 93 = .ok (.iaload, 1) := by decide +kernel
theorem dX5_follow_94 : decode cX5_follow 94 = .ok (.iadd, 1) := by decide +kernel
theorem dX5_follow_95 : decode cX5_follow 95 = .ok (.istore 6, 2) := by decide +kernel
theorem dX5_follow_97 : decode cX5_follow 97 = .ok (.aload_n 0, 1) := by decide +kernel
theorem dX5_follow_98 : decode cX5_follow 98 = .ok (.getfield 18, 3) := by decide +kernel
theorem dX5_follow_101 : decode cX5_follow 101 = .ok (.iload 6, 2) := by decide +kernel
theorem dX5_follow_103 : decode cX5_follow 103 = .ok (.iaload, 1) := by decide +kernel
theorem dX5_follow_104 : decode cX5_follow 104 = .ok (.iconst (-1), 1) := by decide +kernel
theorem dX5_follow_105 : decode cX5_follow 105 = .ok (.if_icmp .ne 36, 3) := by decide +kernel
theorem dX5_follow_108 : decode cX5_follow 108 = .ok (.aload_n 0, 1) := by decide +kernel
theorem dX5_follow_109 : decode cX5_follow 109 = .ok (.getfield 9, 3) := by decide +kernel
theorem dX5_follow_112 : decode cX5_follow 112 = .ok (.iload 4, 2) := by decide +kernel
theorem dX5_follow_114 : decode cX5_follow 114 = .ok (.dup2, 1) := by decide +kernel
theorem dX5_follow_115 : decode cX5_follow 115 = .ok (.iaload, 1) := by decide +kernel
theorem dX5_follow_116 : decode cX5_follow 116 = .ok (.iconst 1, 1) := by decide +kernel
theorem dX5_follow_117 : decode cX5_follow 117 = .ok (.isub, 1) := by decide +kernel
theorem dX5_follow_118 : decode cX5_follow 118 = .ok (.iastore, 1) := by decide +kernel
theorem dX5_follow_119 : decode cX5_follow 119 = .ok (.aload_n 0, 1) := by decide +kernel
theorem dX5_follow_120 : decode cX5_follow 120 = .ok (.iload 6, 2) := by decide +kernel
theorem dX5_follow_122 : decode cX5_follow 122 = .ok (.iload 5, 2) := by decide +kernel
theorem dX5_follow_124 : decode cX5_follow 124 = .ok (.iload_n 3, 1) := by decide +kernel
theorem dX5_follow_125 : decode cX5_follow 125 = .ok (.iconst 1, 1) := by decide +kernel
theorem dX5_follow_126 : decode cX5_follow 126 = .ok (.isub, 1) := by decide +kernel
theorem dX5_follow_127 : decode cX5_follow 127 = .ok (.invokevirtual 73, 3) := by decide +kernel
theorem dX5_follow_130 : decode cX5_follow 130 = .ok (.aload_n 0, 1) := by decide +kernel
theorem dX5_follow_131 : decode cX5_follow 131 = .ok (.getfield 9, 3) := by decide +kernel
theorem dX5_follow_134 : decode cX5_follow 134 = .ok (.iload 4, 2) := by decide +kernel
theorem dX5_follow_136 : decode cX5_follow 136 = .ok (.dup2, 1) := by decide +kernel
theorem dX5_follow_137 : decode cX5_follow 137 = .ok (.iaload, 1) := by decide +kernel
theorem dX5_follow_138 : decode cX5_follow 138 = .ok (.iconst 1, 1) := by decide +kernel
theorem dX5_follow_139 : decode cX5_follow 139 = .ok (.iadd, 1) := by decide +kernel
theorem dX5_follow_140 : decode cX5_follow 140 = .ok (.iastore, 1) := by decide +kernel
theorem dX5_follow_141 : decode cX5_follow 141 = .ok (.aload_n 0, 1) := by decide +kernel
theorem dX5_follow_142 : decode cX5_follow 142 = .ok (.getfield 18, 3) := by decide +kernel
theorem dX5_follow_145 : decode cX5_follow 145 = .ok (.iload 6, 2) := by decide +kernel
theorem dX5_follow_147 : decode cX5_follow 147 = .ok (.iaload, 1) := by decide +kernel
theorem dX5_follow_148 : decode cX5_follow 148 = .ok (.ifCond .le 12, 3) := by decide +kernel
theorem dX5_follow_151 : decode cX5_follow 151 = .ok (.aload_n 0, 1) := by decide +kernel
theorem dX5_follow_152 : decode cX5_follow 152 = .ok (.iload_n 1, 1) := by decide +kernel
theorem dX5_follow_153 : decode cX5_follow 153 = .ok (.iload 6, 2) := by decide +kernel
theorem dX5_follow_155 : decode cX5_follow 155 = .ok (.iload 4, 2) := by decide +kernel
theorem dX5_follow_157 : decode cX5_follow 157 = .ok (.invokevirtual 81, 3) := by decide +kernel
theorem dX5_follow_160 : decode cX5_follow 160 = .ok (.iinc 4 1, 3) := by decide +kernel
theorem dX5_follow_163 : decode cX5_follow 163 = .ok (.goto (-117), 3) := by decide +kernel
theorem dX5_follow_166 : decode cX5_follow 166 = .ok (.return_, 1) := by decide +kernel
theorem dX5_addRows_0 : decode cX5_addRows 0 = .ok (.aload_n 0, 1) := by decide +kernel
theorem dX5_addRows_1 : decode cX5_addRows 1 = .ok (.getfield 18, 3) := by decide +kernel
theorem dX5_addRows_4 : decode cX5_addRows 4 = .ok (.iload_n 1, 1) := by decide +kernel
theorem dX5_addRows_5 : decode cX5_addRows 5 = .ok (.iaload, 1) := by decide +kernel
theorem dX5_addRows_6 : decode cX5_addRows 6 = .ok (.ifCond .ne 27, 3) := by decide +kernel
theorem dX5_addRows_9 : decode cX5_addRows 9 = .ok (.aload_n 0, 1) := by decide +kernel
theorem dX5_addRows_10 : decode cX5_addRows 10 = .ok (.getfield 24, 3) := by decide +kernel
theorem dX5_addRows_13 : decode cX5_addRows 13 = .ok (.iload_n 1, 1) := by decide +kernel
theorem dX5_addRows_14 : decode cX5_addRows 14 = .ok (.iload_n 2, 1) := by decide +kernel
theorem dX5_addRows_15 : decode cX5_addRows 15 = .ok (.aload_n 0, 1) := by decide +kernel
theorem dX5_addRows_16 : decode cX5_addRows 16 = .ok (.getfield 31, 3) := by decide +kernel
theorem dX5_addRows_19 : decode cX5_addRows 19 = .ok (.if_icmp .ne 7, 3) := by decide +kernel
theorem dX5_addRows_22 : decode cX5_addRows 22 = .ok (.iload_n 3, 1) := by decide +kernel
theorem dX5_addRows_23 : decode cX5_addRows 23 = .ok (.goto 9, 3) := by decide +kernel
theorem dX5_addRows_26 : decode cX5_addRows 26 = .ok (.aload_n 0, 1) := by decide +kernel
theorem dX5_addRows_27 : decode cX5_addRows 27 = .ok (.getfield 24, 3) := by decide +kernel
theorem dX5_addRows_30 : decode cX5_addRows 30 = .ok (.iload_n 2, 1) := by decide +kernel
theorem dX5_addRows_31 : decode cX5_addRows 31 = .ok (.iaload, 1) := by decide +kernel
theorem dX5_addRows_32 : decode cX5_addRows 32 = .ok (.iastore, 1) := by decide +kernel
theorem dX5_addRows_33 : decode cX5_addRows 33 = .ok (.aload_n 0, 1) := by decide +kernel
theorem dX5_addRows_34 : decode cX5_addRows 34 = .ok (.getfield 18, 3) := by decide +kernel
theorem dX5_addRows_37 : decode cX5_addRows 37 = .ok (.iload_n 1, 1) := by decide +kernel
theorem dX5_addRows_38 : decode cX5_addRows 38 = .ok (.dup2, 1) := by decide +kernel
theorem dX5_addRows_39 : decode cX5_addRows 39 = .ok (.iaload, 1) := by decide +kernel
theorem dX5_addRows_40 : decode cX5_addRows 40 = .ok (.aload_n 0, 1) := by decide +kernel
theorem dX5_addRows_41 : decode cX5_addRows 41 = .ok (.getfield 18, 3) := by decide +kernel
theorem dX5_addRows_44 : decode cX5_addRows 44 = .ok (.iload_n 2, 1) := by decide +kernel
theorem dX5_addRows_45 : decode cX5_addRows 45 = .ok (.iaload, 1) := by decide +kernel
theorem dX5_addRows_46 : decode cX5_addRows 46 = .ok (.iadd, 1) := by decide +kernel
theorem dX5_addRows_47 : decode cX5_addRows 47 = .ok (.iastore, 1) := by decide +kernel
theorem dX5_addRows_48 : decode cX5_addRows 48 = .ok (.aload_n 0, 1) := by decide +kernel
theorem dX5_addRows_49 : decode cX5_addRows 49 = .ok (.getfield 21, 3) := by decide +kernel
theorem dX5_addRows_52 : decode cX5_addRows 52 = .ok (.iload_n 1, 1) := by decide +kernel
theorem dX5_addRows_53 : decode cX5_addRows 53 = .ok (.dup2, 1) := by decide +kernel
theorem dX5_addRows_54 : decode cX5_addRows 54 = .ok (.iaload, 1) := by decide +kernel
theorem dX5_addRows_55 : decode cX5_addRows 55 = .ok (.iload_n 2, 1) := by decide +kernel
theorem dX5_addRows_56 : decode cX5_addRows 56 = .ok (.aload_n 0, 1) := by decide +kernel
theorem dX5_addRows_57 : decode cX5_addRows 57 = .ok (.getfield 31, 3) := by decide +kernel
theorem dX5_addRows_60 : decode cX5_addRows 60 = .ok (.if_icmp .ne 9, 3) := by decide +kernel
theorem dX5_addRows_63 : decode cX5_addRows 63 = .ok (.iconst 1, 1) := by decide +kernel
theorem dX5_addRows_64 : decode cX5_addRows 64 = .ok (.iload_n 3, 1) := by decide +kernel
theorem dX5_addRows_65 : decode cX5_addRows 65 = .ok (.ishl, 1) := by decide +kernel
theorem dX5_addRows_66 : decode cX5_addRows 66 = .ok (.goto 9, 3) := by decide +kernel
theorem dX5_addRows_69 : decode cX5_addRows 69 = .ok (.aload_n 0, 1) := by decide +kernel
theorem dX5_addRows_70 : decode cX5_addRows 70 = .ok (.getfield 21, 3) := by decide +kernel
theorem dX5_addRows_73 : decode cX5_addRows 73 = .ok (.iload_n 2, 1) := by decide +kernel
theorem dX5_addRows_74 : decode cX5_addRows 74 = .ok (.iaload, 1) := by decide +kernel
theorem dX5_addRows_75 : decode cX5_addRows 75 = .ok (.ior, 1) := by decide +kernel
theorem dX5_addRows_76 : decode cX5_addRows 76 = .ok (.iastore, 1) := by decide +kernel
theorem dX5_addRows_77 : decode cX5_addRows 77 = .ok (.return_, 1) := by decide +kernel
theorem dX6_init_0 : decode cX6_init 0 = .ok (.aload_n 0, 1) := by decide +kernel
theorem dX6_init_1 : decode cX6_init 1 = .ok (.invokespecial 3, 3) := by decide +kernel
theorem dX6_init_4 : decode cX6_init 4 = .ok (.aload_n 0, 1) := by decide +kernel
theorem dX6_init_5 : decode cX6_init 5 = .ok (.sipush 400, 3) := by decide +kernel
theorem dX6_init_8 : decode cX6_init 8 = .ok (.newarray .byte, 2) := by decide +kernel
theorem dX6_init_10 : decode cX6_init 10 = .ok (.putfield 11, 3) := by decide +kernel
theorem dX6_init_13 : decode cX6_init 13 = .ok (.aload_n 0, 1) := by decide +kernel
theorem dX6_init_14 : decode cX6_init 14 = .ok (.iconst 0, 1) := by decide +kernel
theorem dX6_init_15 : decode cX6_init 15 = .ok (.putfield 15, 3) := by decide +kernel
theorem dX6_init_18 : decode cX6_init 18 = .ok (.aload_n 0, 1) := by decide +kernel
theorem dX6_init_19 : decode cX6_init 19 = .ok (.iconst 0, 1) := by decide +kernel
theorem dX6_init_20 : decode cX6_init 20 = .ok (.putfield 19, 3) := by decide +kernel
theorem dX6_init_23 : decode cX6_init 23 = .ok (.aload_n 0, 1) := by decide +kernel
theorem dX6_init_24 : decode cX6_init 24 = .ok (.iconst 0, 1) := by decide +kernel
theorem dX6_init_25 : decode cX6_init 25 = .ok (.putfield 22, 3) := by decide +kernel
theorem dX6_init_28 : decode cX6_init 28 = .ok (.aload_n 0, 1) := by decide +kernel
theorem dX6_init_29 : decode cX6_init 29 = .ok (.iconst 0, 1) := by decide +kernel
theorem dX6_init_30 : decode cX6_init 30 = .ok (.putfield 25, 3) := by decide +kernel
theorem dX6_init_33 : decode cX6_init 33 = .ok (.return_, 1) := by decide +kernel
theorem dX6_put_0 : decode cX6_put 0 = .ok (.bipush 24, 2) := by decide +kernel
theorem dX6_put_2 : decode cX6_put 2 = .ok (.istore_n 2, 1) := by decide +kernel
theorem dX6_put_3 : decode cX6_put 3 = .ok (.iload_n 2, 1) := by decide +kernel
theorem dX6_put_4 : decode cX6_put 4 = .ok (.ifCond .lt 42, 3) := by decide +kernel
theorem dX6_put_7 : decode cX6_put 7 = .ok (.aload_n 0, 1) := by decide +kernel
theorem dX6_put_8 : decode cX6_put 8 = .ok (.getfield 15, 3) := by decide +kernel
theorem dX6_put_11 : decode cX6_put 11 = .ok (.sipush 400, 3) := by decide +kernel
theorem dX6_put_14 : decode cX6_put 14 = .ok (.if_icmp .ge 32, 3) := by decide +kernel
theorem dX6_put_17 : decode cX6_put 17 = .ok (.aload_n 0, 1) := by decide +kernel
theorem dX6_put_18 : decode cX6_put 18 = .ok (.getfield 11, 3) := by decide +kernel
theorem dX6_put_21 : decode cX6_put 21 = .ok (.aload_n 0, 1) := by decide +kernel
theorem dX6_put_22 : decode cX6_put 22 = .ok (.getfield 15, 3) := by decide +kernel
theorem dX6_put_25 : decode cX6_put 25 = .ok (.iload_n 1, 1) := by decide +kernel
theorem dX6_put_26 : decode cX6_put 26 = .ok (.iload_n 2, 1) := by decide +kernel
theorem dX6_put_27 : decode cX6_put 27 = .ok (.ishr, 1) := by decide +kernel
theorem dX6_put_28 : decode cX6_put 28 = .ok (.i2b, 1) := by decide +kernel
theorem dX6_put_29 : decode cX6_put 29 = .ok (.bastore, 1) := by decide +kernel
theorem dX6_put_30 : decode cX6_put 30 = .ok (.aload_n 0, 1) := by decide +kernel
theorem dX6_put_31 : decode cX6_put 31 = .ok (.dup, 1) := by decide +kernel
theorem dX6_put_32 : decode cX6_put 32 = .ok (.getfield 15, 3) := by decide +kernel
theorem dX6_put_35 : decode cX6_put 35 = .ok (.iconst 1, 1) := by decide +kernel
theorem dX6_put_36 : decode cX6_put 36 = .ok (.iadd, 1) := by decide +kernel
theorem dX6_put_37 : decode cX6_put 37 = .ok (.putfield 15, 3) := by decide +kernel
theorem dX6_put_40 : decode cX6_put 40 = .ok (.iinc 2 (-8), 3) := by decide +kernel
theorem dX6_put_43 : decode cX6_put 43 = .ok (.goto (-40), 3) := by decide +kernel
theorem dX6_put_46 : decode cX6_put 46 = .ok (.return_, 1) := by decide +kernel
theorem dX6_begin_0 : decode cX6_begin 0 = .ok (.aload_n 0, 1) := by decide +kernel
theorem dX6_begin_1 : decode cX6_begin 1 = .ok (.iconst 0, 1) := by decide +kernel
theorem dX6_begin_2 : decode cX6_begin 2 = .ok (.putfield 19, 3) := by decide +kernel
theorem dX6_begin_5 : decode cX6_begin 5 = .ok (.aload_n 0, 1) := by decide +kernel
theorem dX6_begin_6 : decode cX6_begin 6 = .ok (.iconst 0, 1) := by decide +kernel
theorem dX6_begin_7 : decode cX6_begin 7 = .ok (.putfield 22, 3) := by decide +kernel
theorem dX6_begin_10 : decode cX6_begin 10 = .ok (.aload_n 0, 1) := by decide +kernel
theorem dX6_begin_11 : decode cX6_begin 11 = .ok (.iconst 0, 1) := by decide +kernel
theorem dX6_begin_12 : decode cX6_begin 12 = .ok (.putfield 25, 3) := by decide +kernel
theorem dX6_begin_15 : decode cX6_begin 15 = .ok (.return_, 1) := by decide +kernel
theorem dX6_fail_0 : decode cX6_fail 0 = .ok (.aload_n 0, 1) := by decide +kernel
theorem dX6_fail_1 : decode cX6_fail 1 = .ok (.getfield 25, 3) := by decide +kernel
theorem dX6_fail_4 : decode cX6_fail 4 = .ok (.ifCond .ne 15, 3) := by decide +kernel
theorem dX6_fail_7 : decode cX6_fail 7 = .ok (.aload_n 0, 1) := by decide +kernel
theorem dX6_fail_8 : decode cX6_fail 8 = .ok (.iconst 1, 1) := by decide +kernel
theorem dX6_fail_9 : decode cX6_fail 9 = .ok (.bipush 8, 2) := by decide +kernel
theorem dX6_fail_11 : decode cX6_fail 11 = .ok (.iload_n 1, 1) := by decide +kernel
theorem dX6_fail_12 : decode cX6_fail 12 = .ok (.imul, 1) := by decide +kernel
theorem dX6_fail_13 : decode cX6_fail 13 = .ok (.iadd, 1) := by decide +kernel
theorem dX6_fail_14 : decode cX6_fail 14 = .ok (.iload_n 2, 1) := by decide +kernel
theorem dX6_fail_15 : decode cX6_fail 15 = .ok (.iadd, 1) := by decide +kernel
theorem dX6_fail_16 : decode cX6_fail 16 = .ok (.putfield 25, 3) := by decide +kernel
theorem dX6_fail_19 : decode cX6_fail 19 = .ok (.return_, 1) := by decide +kernel
theorem dX6_next_0 : decode cX6_next 0 = .ok (.aload_n 0, 1) := by decide +kernel
theorem dX6_next_1 : decode cX6_next 1 = .ok (.getfield 19, 3) := by decide +kernel
theorem dX6_next_4 : decode cX6_next 4 = .ok (.aload_n 0, 1) := by decide +kernel
theorem dX6_next_5 : decode cX6_next 5 = .ok (.getfield 15, 3) := by decide +kernel
theorem dX6_next_8 : decode cX6_next 8 = .ok (.if_icmp .ge 30, 3) := by decide +kernel
theorem dX6_next_11 : decode cX6_next 11 = .ok (.aload_n 0, 1) := by decide +kernel
theorem dX6_next_12 : decode cX6_next 12 = .ok (.getfield 11, 3) := by decide +kernel
theorem dX6_next_15 : decode cX6_next 15 = .ok (.aload_n 0, 1) := by decide +kernel
theorem dX6_next_16 : decode cX6_next 16 = .ok (.getfield 19, 3) := by decide +kernel
theorem dX6_next_19 : decode cX6_next 19 = .ok (.baload, 1) := by decide +kernel
theorem dX6_next_20 : decode cX6_next 20 = .ok (.bipush 32, 2) := by decide +kernel
theorem dX6_next_22 : decode cX6_next 22 = .ok (.if_icmp .ne 16, 3) := by decide +kernel
theorem dX6_next_25 : decode cX6_next 25 = .ok (.aload_n 0, 1) := by decide +kernel
theorem dX6_next_26 : decode cX6_next 26 = .ok (.dup, 1) := by decide +kernel
theorem dX6_next_27 : decode cX6_next 27 = .ok (.getfield 19, 3) := by decide +kernel
theorem dX6_next_30 : decode cX6_next 30 = .ok (.iconst 1, 1) := by decide +kernel
theorem dX6_next_31 : decode cX6_next 31 = .ok (.iadd, 1) := by decide +kernel
theorem dX6_next_32 : decode cX6_next 32 = .ok (.putfield 19, 3) := by decide +kernel
theorem dX6_next_35 : decode cX6_next 35 = .ok (.goto (-35), 3) := by decide +kernel
theorem dX6_next_38 : decode cX6_next 38 = .ok (.aload_n 0, 1) := by decide +kernel
theorem dX6_next_39 : decode cX6_next 39 = .ok (.getfield 19, 3) := by decide +kernel
theorem dX6_next_42 : decode cX6_next 42 = .ok (.aload_n 0, 1) := by decide +kernel
theorem dX6_next_43 : decode cX6_next 43 = .ok (.getfield 15, 3) := by decide +kernel
theorem dX6_next_46 : decode cX6_next 46 = .ok (.if_icmp .ge 19, 3) := by decide +kernel
theorem dX6_next_49 : decode cX6_next 49 = .ok (.aload_n 0, 1) := by decide +kernel
theorem dX6_next_50 : decode cX6_next 50 = .ok (.getfield 11, 3) := by decide +kernel
theorem dX6_next_53 : decode cX6_next 53 = .ok (.aload_n 0, 1) := by decide +kernel
theorem dX6_next_54 : decode cX6_next 54 = .ok (.getfield 19, 3) := by decide +kernel
theorem dX6_next_57 : decode cX6_next 57 = .ok (.baload, 1) := by decide +kernel
theorem dX6_next_58 : decode cX6_next 58 = .ok (.sipush 255, 3) := by decide +kernel
theorem dX6_next_61 : decode cX6_next 61 = .ok (.iand, 1) := by decide +kernel
theorem dX6_next_62 : decode cX6_next 62 = .ok (.goto 4, 3) := by decide +kernel
theorem dX6_next_65 : decode cX6_next 65 = .ok (.iconst (-1), 1) := by decide +kernel
theorem dX6_next_66 : decode cX6_next 66 = .ok (.ireturn, 1) := by decide +kernel
theorem dX6_takeSign_0 : decode cX6_takeSign 0 = .ok (.aload_n 0, 1) := by decide +kernel
theorem dX6_takeSign_1 : decode cX6_takeSign 1 = .ok (.getfield 25, 3) := by decide +kernel
theorem dX6_takeSign_4 : decode cX6_takeSign 4 = .ok (.ifCond .ne 11, 3) := by decide +kernel
theorem dX6_takeSign_7 : decode cX6_takeSign 7 = .ok (.aload_n 0, 1) := by decide +kernel
theorem dX6_takeSign_8 : decode cX6_takeSign 8 = .ok (.invokevirtual 28, 3) := by decide +kernel
theorem dX6_takeSign_11 : decode cX6_takeSign 11 = .ok (.iload_n 1, 1) := by decide +kernel
theorem dX6_takeSign_12 : decode cX6_takeSign 12 = .ok (.if_icmp .eq 5, 3) := by decide +kernel
theorem dX6_takeSign_15 : decode cX6_takeSign 15 = .ok (.iconst 0, 1) := by decide +kernel
theorem dX6_takeSign_16 : decode cX6_takeSign 16 = .ok (.ireturn, 1) := by decide +kernel
theorem dX6_takeSign_17 : decode cX6_takeSign 17 = .ok (.aload_n 0, 1) := by decide +kernel
theorem dX6_takeSign_18 : decode cX6_takeSign 18 = .ok (.dup, 1) := by decide +kernel
theorem dX6_takeSign_19 : decode cX6_takeSign 19 = .ok (.getfield 19, 3) := by decide +kernel
theorem dX6_takeSign_22 : decode cX6_takeSign 22 = .ok (.iconst 1, 1) := by decide +kernel
theorem dX6_takeSign_23 : decode cX6_takeSign 23 = .ok (.iadd, 1) := by decide +kernel
theorem dX6_takeSign_24 : decode cX6_takeSign 24 = .ok (.putfield 19, 3) := by decide +kernel
theorem dX6_takeSign_27 : decode cX6_takeSign 27 = .ok (.iconst 1, 1) := by decide +kernel
theorem dX6_takeSign_28 : decode cX6_takeSign 28 = .ok (.ireturn, 1) := by decide +kernel
theorem dX6_takeWord_0 : decode cX6_takeWord 0 = .ok (.aload_n 0, 1) := by decide +kernel
theorem dX6_takeWord_1 : decode cX6_takeWord 1 = .ok (.getfield 25, 3) := by decide +kernel
theorem dX6_takeWord_4 : decode cX6_takeWord 4 = .ok (.ifCond .ne 11, 3) := by decide +kernel
theorem dX6_takeWord_7 : decode cX6_takeWord 7 = .ok (.aload_n 0, 1) := by decide +kernel
theorem dX6_takeWord_8 : decode cX6_takeWord 8 = .ok (.aload_n 1, 1) := by decide +kernel
theorem dX6_takeWord_9 : decode cX6_takeWord 9 = .ok (.invokevirtual 32, 3) := by decide +kernel
theorem dX6_takeWord_12 : decode cX6_takeWord 12 = .ok (.ifCond .ne 5, 3) := by decide +kernel
theorem dX6_takeWord_15 : decode cX6_takeWord 15 = .ok (.iconst 0, 1) := by decide +kernel
theorem dX6_takeWord_16 : decode cX6_takeWord 16 = .ok (.ireturn, 1) := by decide +kernel
theorem dX6_takeWord_17 : decode cX6_takeWord 17 = .ok (.aload_n 0, 1) := by decide +kernel
theorem dX6_takeWord_18 : decode cX6_takeWord 18 = .ok (.aload_n 0, 1) := by decide +kernel
theorem dX6_takeWord_19 : decode cX6_takeWord 19 = .ok (.getfield 19, 3) := by decide +kernel
theorem dX6_takeWord_22 : decode cX6_takeWord 22 = .ok (.putfield 22, 3) := by decide +kernel
theorem dX6_takeWord_25 : decode cX6_takeWord 25 = .ok (.aload_n 0, 1) := by decide +kernel
theorem dX6_takeWord_26 : decode cX6_takeWord 26 = .ok (.dup, 1) := by decide +kernel
theorem dX6_takeWord_27 : decode cX6_takeWord 27 = .ok (.getfield 19, 3) := by decide +kernel
theorem dX6_takeWord_30 : decode cX6_takeWord 30 = .ok (.aload_n 1, 1) := by decide +kernel
theorem dX6_takeWord_31 : decode cX6_takeWord 31 = .ok (.invokevirtual 36, 3) := by decide +kernel
theorem dX6_takeWord_34 : decode cX6_takeWord 34 = .ok (.iadd, 1) := by decide +kernel
theorem dX6_takeWord_35 : decode cX6_takeWord 35 = .ok (.putfield 19, 3) := by decide +kernel
theorem dX6_takeWord_38 : decode cX6_takeWord 38 = .ok (.iconst 1, 1) := by decide +kernel
theorem dX6_takeWord_39 : decode cX6_takeWord 39 = .ok (.ireturn, 1) := by decide +kernel
theorem dX6_seesWord_0 : decode cX6_seesWord 0 = .ok (.aload_n 0, 1) := by decide +kernel
theorem dX6_seesWord_1 : decode cX6_seesWord 1 = .ok (.invokevirtual 28, 3) := by decide +kernel
theorem dX6_seesWord_4 : decode cX6_seesWord 4 = .ok (.pop, 1) := by decide +kernel
theorem dX6_seesWord_5 : decode cX6_seesWord 5 = .ok (.aload_n 0, 1) := by decide +kernel
theorem dX6_seesWord_6 : decode cX6_seesWord 6 = .ok (.aload_n 1, 1) := by decide +kernel
theorem dX6_seesWord_7 : decode cX6_seesWord 7 = .ok (.iconst 0, 1) := by decide +kernel
theorem dX6_seesWord_8 : decode cX6_seesWord 8 = .ok (.aload_n 1, 1) := by decide +kernel
theorem dX6_seesWord_9 : decode cX6_seesWord 9 = .ok (.invokevirtual 36, 3) := by decide +kernel
theorem dX6_seesWord_12 : decode cX6_seesWord 12 = .ok (.aload_n 0, 1) := by decide +kernel
theorem dX6_seesWord_13 : decode cX6_seesWord 13 = .ok (.invokevirtual 40, 3) := by decide +kernel
theorem dX6_seesWord_16 : decode cX6_seesWord 16 = .ok (.invokevirtual 43, 3) := by decide +kernel
theorem dX6_seesWord_19 : decode cX6_seesWord 19 = .ok (.ireturn, 1) := by decide +kernel
theorem dX6_word_0 : decode cX6_word 0 = .ok (.aload_n 0, 1) := by decide +kernel
theorem dX6_word_1 : decode cX6_word 1 = .ok (.getfield 25, 3) := by decide +kernel
theorem dX6_word_4 : decode cX6_word 4 = .ok (.ifCond .eq 5, 3) := by decide +kernel
theorem dX6_word_7 : decode cX6_word 7 = .ok (.iconst (-1), 1) := by decide +kernel
theorem dX6_word_8 : decode cX6_word 8 = .ok (.ireturn, 1) := by decide +kernel
theorem dX6_word_9 : decode cX6_word 9 = .ok (.aload_n 0, 1) := by decide +kernel
theorem dX6_word_10 : decode cX6_word 10 = .ok (.invokevirtual 28, 3) := by decide +kernel
theorem dX6_word_13 : decode cX6_word 13 = .ok (.pop, 1) := by decide +kernel
theorem dX6_word_14 : decode cX6_word 14 = .ok (.aload_n 0, 1) := by decide +kernel
theorem dX6_word_15 : decode cX6_word 15 = .ok (.aload_n 0, 1) := by decide +kernel
theorem dX6_word_16 : decode cX6_word 16 = .ok (.getfield 19, 3) := by decide +kernel
theorem dX6_word_19 : decode cX6_word 19 = .ok (.putfield 22, 3) := by decide +kernel
theorem dX6_word_22 : decode cX6_word 22 = .ok (.aload_n 0, 1) := by decide +kernel
theorem dX6_word_23 : decode cX6_word 23 = .ok (.invokevirtual 40, 3) := by decide +kernel
theorem dX6_word_26 : decode cX6_word 26 = .ok (.istore_n 2, 1) := by decide +kernel
theorem dX6_word_27 : decode cX6_word 27 = .ok (.iconst 0, 1) := by decide +kernel
theorem dX6_word_28 : decode cX6_word 28 = .ok (.istore_n 3, 1) := by decide +kernel
theorem dX6_word_29 : decode cX6_word 29 = .ok (.iconst 0, 1) := by decide +kernel
theorem dX6_word_30 : decode cX6_word 30 = .ok (.istore 4, 2) := by decide +kernel
theorem dX6_word_32 : decode cX6_word 32 = .ok (.iload 4, 2) := by decide +kernel
theorem dX6_word_34 : decode cX6_word 34 = .ok (.aload_n 1, 1) := by decide +kernel
theorem dX6_word_35 : decode cX6_word 35 = .ok (.invokevirtual 36, 3) := by decide +kernel
theorem dX6_word_38 : decode cX6_word 38 = .ok (.if_icmp .ge 65, 3) := by decide +kernel
theorem dX6_word_41 : decode cX6_word 41 = .ok (.iload 4, 2) := by decide +kernel
theorem dX6_word_43 : decode cX6_word 43 = .ok (.istore 5, 2) := by decide +kernel
theorem dX6_word_45 : decode cX6_word 45 = .ok (.iload 5, 2) := by decide +kernel
theorem dX6_word_47 : decode cX6_word 47 = .ok (.aload_n 1, 1) := by decide +kernel
theorem dX6_word_48 : decode cX6_word 48 = .ok (.invokevirtual 36, 3) := by decide +kernel
theorem dX6_word_51 : decode cX6_word 51 = .ok (.if_icmp .ge 20, 3) := by decide +kernel
theorem dX6_word_54 : decode cX6_word 54 = .ok (.aload_n 1, 1) := by decide +kernel
theorem dX6_word_55 : decode cX6_word 55 = .ok (.iload 5, 2) := by decide +kernel
theorem dX6_word_57 : decode cX6_word 57 = .ok (.invokevirtual 47, 3) := by decide +kernel
theorem dX6_word_60 : decode cX6_word 60 = .ok (.bipush 32, 2) := by decide +kernel
theorem dX6_word_62 : decode cX6_word 62 = .ok (.if_icmp .eq 9, 3) := by decide +kernel
theorem dX6_word_65 : decode cX6_word 65 = .ok (.iinc 5 1, 3) := by decide +kernel
theorem dX6_word_68 : decode cX6_word 68 = .ok (.goto (-23), 3) := by decide +kernel
theorem dX6_word_71 : decode cX6_word 71 = .ok (.aload_n 0, 1) := by decide +kernel
theorem dX6_word_72 : decode cX6_word 72 = .ok (.aload_n 1, 1) := by decide +kernel
theorem dX6_word_73 : decode cX6_word 73 = .ok (.iload 4, 2) := by decide +kernel
theorem dX6_word_75 : decode cX6_word 75 = .ok (.iload 5, 2) := by decide +kernel
theorem dX6_word_77 : decode cX6_word 77 = .ok (.iload_n 2, 1) := by decide +kernel
theorem dX6_word_78 : decode cX6_word 78 = .ok (.invokevirtual 43, 3) := by decide +kernel
theorem dX6_word_81 : decode cX6_word 81 = .ok (.ifCond .eq 10, 3) := by decide +kernel
theorem dX6_word_84 : decode cX6_word 84 = .ok (.aload_n 0, 1) := by decide +kernel
theorem dX6_word_85 : decode cX6_word 85 = .ok (.iload_n 2, 1) := by decide +kernel
theorem dX6_word_86 : decode cX6_word 86 = .ok (.putfield 19, 3) := by decide +kernel
theorem dX6_word_89 : decode cX6_word 89 = .ok (.iload_n 3, 1) := by decide +kernel
theorem dX6_word_90 : decode cX6_word 90 = .ok (.ireturn, 1) := by decide +kernel
theorem dX6_word_91 : decode cX6_word 91 = .ok (.iinc 3 1, 3) := by decide +kernel
theorem dX6_word_94 : decode cX6_word 94 = .ok (.iload 5, 2) := by decide +kernel
theorem dX6_word_96 : decode cX6_word 96 = .ok (.iconst 1, 1) := by decide +kernel
theorem dX6_word_97 : decode cX6_word 97 = .ok (.iadd, 1) := by decide +kernel
theorem dX6_word_98 : decode cX6_word 98 = .ok (.istore 4, 2) := by decide +kernel
theorem dX6_word_100 : decode cX6_word 100 = .ok (.goto (-68), 3) := by decide +kernel
theorem dX6_word_103 : decode cX6_word 103 = .ok (.aload_n 0, 1) := by decide +kernel
theorem dX6_word_104 : decode cX6_word 104 = .ok (.aload_n 0, 1) := by decide +kernel
theorem dX6_word_105 : decode cX6_word 105 = .ok (.getfield 22, 3) := by decide +kernel
theorem dX6_word_108 : decode cX6_word 108 = .ok (.iconst 0, 1) := by decide +kernel
theorem dX6_word_109 : decode cX6_word 109 = .ok (.invokevirtual 51, 3) := by decide +kernel
theorem dX6_word_112 : decode cX6_word 112 = .ok (.iconst (-1), 1) := by decide +kernel
theorem dX6_word_113 : decode cX6_word 113 = .ok (.ireturn, 1) := by decide +kernel
theorem dX6_number_0 : decode cX6_number 0 = .ok (.aload_n 0, 1) := by decide +kernel
theorem dX6_number_1 : decode cX6_number 1 = .ok (.getfield 25, 3) := by decide +kernel
theorem dX6_number_4 : decode cX6_number 4 = .ok (.ifCond .eq 5, 3) := by decide +kernel
theorem dX6_number_7 : decode cX6_number 7 = .ok (.iload_n 1, 1) := by decide +kernel
theorem dX6_number_8 : decode cX6_number 8 = .ok (.ireturn, 1) := by decide +kernel
theorem dX6_number_9 : decode cX6_number 9 = .ok (.aload_n 0, 1) := by decide +kernel
theorem dX6_number_10 : decode cX6_number 10 = .ok (.invokevirtual 28, 3) := by decide +kernel
theorem dX6_number_13 : decode cX6_number 13 = .ok (.pop, 1) := by decide +kernel
theorem dX6_number_14 : decode cX6_number 14 = .ok (.aload_n 0, 1) := by decide +kernel
theorem dX6_number_15 : decode cX6_number 15 = .ok (.aload_n 0, 1) := by decide +kernel
theorem dX6_number_16 : decode cX6_number 16 = .ok (.getfield 19, 3) := by decide +kernel
theorem dX6_number_19 : decode cX6_number 19 = .ok (.putfield 22, 3) := by decide +kernel
theorem dX6_number_22 : decode cX6_number 22 = .ok (.iconst 0, 1) := by decide +kernel
theorem dX6_number_23 : decode cX6_number 23 = .ok (.istore_n 3, 1) := by decide +kernel
theorem dX6_number_24 : decode cX6_number 24 = .ok (.aload_n 0, 1) := by decide +kernel
theorem dX6_number_25 : decode cX6_number 25 = .ok (.getfield 19, 3) := by decide +kernel
theorem dX6_number_28 : decode cX6_number 28 = .ok (.aload_n 0, 1) := by decide +kernel
theorem dX6_number_29 : decode cX6_number 29 = .ok (.getfield 15, 3) := by decide +kernel
theorem dX6_number_32 : decode cX6_number 32 = .ok (.if_icmp .ge 62, 3) := by decide +kernel
theorem dX6_number_35 : decode cX6_number 35 = .ok (.aload_n 0, 1) := by decide +kernel
theorem dX6_number_36 : decode cX6_number 36 = .ok (.getfield 11, 3) := by decide +kernel
theorem dX6_number_39 : decode cX6_number 39 = .ok (.aload_n 0, 1) := by decide +kernel
theorem dX6_number_40 : decode cX6_number 40 = .ok (.getfield 19, 3) := by decide +kernel
theorem dX6_number_43 : decode cX6_number 43 = .ok (.baload, 1) := by decide +kernel
theorem dX6_number_44 : decode cX6_number 44 = .ok (.invokestatic 55, 3) := by decide +kernel
theorem dX6_number_47 : decode cX6_number 47 = .ok (.ifCond .eq 47, 3) := by decide +kernel
theorem dX6_number_50 : decode cX6_number 50 = .ok (.aload_n 0, 1) := by decide +kernel
theorem dX6_number_51 : decode cX6_number 51 = .ok (.getfield 19, 3) := by decide +kernel
theorem dX6_number_54 : decode cX6_number 54 = .ok (.aload_n 0, 1) := by decide +kernel
theorem dX6_number_55 : decode cX6_number 55 = .ok (.getfield 22, 3) := by decide +kernel
theorem dX6_number_58 : decode cX6_number 58 = .ok (.isub, 1) := by decide +kernel
theorem dX6_number_59 : decode cX6_number 59 = .ok (.iconst 5, 1) := by decide +kernel
theorem dX6_number_60 : decode cX6_number 60 = .ok (.if_icmp .ge 21, 3) := by decide +kernel
theorem dX6_number_63 : decode cX6_number 63 = .ok (.iload_n 3, 1) := by decide +kernel
theorem dX6_number_64 : decode cX6_number 64 = .ok (.bipush 10, 2) := by decide +kernel
theorem dX6_number_66 : decode cX6_number 66 = .ok (.imul, 1) := by decide +kernel
theorem dX6_number_67 : decode cX6_number 67 = .ok (.aload_n 0, 1) := by decide +kernel
theorem dX6_number_68 : decode cX6_number 68 = .ok (.getfield 11, 3) := by decide +kernel
theorem dX6_number_71 : decode cX6_number 71 = .ok (.aload_n 0, 1) := by decide +kernel
theorem dX6_number_72 : decode cX6_number 72 = .ok (.getfield 19, 3) := by decide +kernel
theorem dX6_number_75 : decode cX6_number 75 = .ok (.baload, 1) := by decide +kernel
theorem dX6_number_76 : decode cX6_number 76 = .ok (.iadd, 1) := by decide +kernel
theorem dX6_number_77 : decode cX6_number 77 = .ok (.bipush 48, 2) := by decide +kernel
theorem dX6_number_79 : decode cX6_number 79 = .ok (.isub, 1) := by decide +kernel
theorem dX6_number_80 : decode cX6_number 80 = .ok (.istore_n 3, 1) := by decide +kernel
theorem dX6_number_81 : decode cX6_number 81 = .ok (.aload_n 0, 1) := by decide +kernel
theorem dX6_number_82 : decode cX6_number 82 = .ok (.dup, 1) := by decide +kernel
theorem dX6_number_83 : decode cX6_number 83 = .ok (.getfield 19, 3) := by decide +kernel
theorem dX6_number_86 : decode cX6_number 86 = .ok (.iconst 1, 1) := by decide +kernel
theorem dX6_number_87 : decode cX6_number 87 = .ok (.iadd, 1) := by decide +kernel
theorem dX6_number_88 : decode cX6_number 88 = .ok (.putfield 19, 3) := by decide +kernel
theorem dX6_number_91 : decode cX6_number 91 = .ok (.goto (-67), 3) := by decide +kernel
theorem dX6_number_94 : decode cX6_number 94 = .ok (.aload_n 0, 1) := by decide +kernel
theorem dX6_number_95 : decode cX6_number 95 = .ok (.getfield 19, 3) := by decide +kernel
theorem dX6_number_98 : decode cX6_number 98 = .ok (.aload_n 0, 1) := by decide +kernel
theorem dX6_number_99 : decode cX6_number 99 = .ok (.getfield 22, 3) := by decide +kernel
theorem dX6_number_102 : decode cX6_number 102 = .ok (.if_icmp .ne 15, 3) := by decide +kernel
theorem dX6_number_105 : decode cX6_number 105 = .ok (.aload_n 0, 1) := by decide +kernel
theorem dX6_number_106 : decode cX6_number 106 = .ok (.aload_n 0, 1) := by decide +kernel
theorem dX6_number_107 : decode cX6_number 107 = .ok (.getfield 22, 3) := by decide +kernel
theorem dX6_number_110 : decode cX6_number 110 = .ok (.iconst 0, 1) := by decide +kernel
theorem dX6_number_111 : decode cX6_number 111 = .ok (.invokevirtual 51, 3) := by decide +kernel
theorem dX6_number_114 : decode cX6_number 114 = .ok (.goto 35, 3) := by decide +kernel
theorem dX6_number_117 : decode cX6_number 117 = .ok (.aload_n 0, 1) := by decide +kernel
theorem dX6_number_118 : decode cX6_number 118 = .ok (.getfield 19, 3) := by decide +kernel
theorem dX6_number_121 : decode cX6_number 121 = .ok (.aload_n 0, 1) := by decide +kernel
theorem dX6_number_122 : decode cX6_number 122 = .ok (.getfield 22, 3) := by decide +kernel
theorem dX6_number_125 : decode cX6_number 125 = .ok (.isub, 1) := by decide +kernel
theorem dX6_number_126 : decode cX6_number 126 = .ok (.iconst 5, 1) := by decide +kernel
theorem dX6_number_127 : decode cX6_number 127 = .ok (.if_icmp .gt 13, 3) := by decide +kernel
theorem dX6_number_130 : decode cX6_number 130 = .ok (.iload_n 3, 1) := by decide +kernel
theorem dX6_number_131 : decode cX6_number 131 = .ok (.iload_n 1, 1) := by decide +kernel
theorem dX6_number_132 : decode cX6_number 132 = .ok (.if_icmp .lt 8, 3) := by decide +kernel
theorem dX6_number_135 : decode cX6_number 135 = .ok (.iload_n 3, 1) := by decide +kernel
theorem dX6_number_136 : decode cX6_number 136 = .ok (.iload_n 2, 1) := by decide +kernel
theorem dX6_number_137 : decode cX6_number 137 = .ok (.if_icmp .le 12, 3) := by decide +kernel
theorem dX6_number_140 : decode cX6_number 140 = .ok (.aload_n 0, 1) := by decide +kernel
theorem dX6_number_141 : decode cX6_number 141 = .ok (.aload_n 0, 1) := by decide +kernel
theorem dX6_number_142 : decode cX6_number 142 = .ok (.getfield 22, 3) := by decide +kernel
theorem dX6_number_145 : decode cX6_number 145 = .ok (.iconst 1, 1) := by decide +kernel
theorem dX6_number_146 : decode cX6_number 146 = .ok (.invokevirtual 51, 3) := by decide +kernel
theorem dX6_number_149 : decode cX6_number 149 = .ok (.iload_n 3, 1) := by decide +kernel
theorem dX6_number_150 : decode cX6_number 150 = .ok (.ireturn, 1) := by decide +kernel
theorem dX6_takeNextClause_0 : decode cX6_takeNextClause 0 = .ok (.aload_n 0, 1) := by decide +kernel
theorem dX6_takeNextClause_1 : decode cX6_takeNextClause 1 = .ok (.getfield 25, 3) := by decide +kernel
theorem dX6_takeNextClause_4 : decode cX6_takeNextClause 4 = .ok (.ifCond .eq 5, 3) := by decide +kernel
theorem dX6_takeNextClause_7 : decode cX6_takeNextClause 7 = .ok (.iconst 0, 1) := by decide +kernel
theorem dX6_takeNextClause_8 : decode cX6_takeNextClause 8 = .ok (.ireturn, 1) := by decide +kernel
theorem dX6_takeNextClause_9 : decode cX6_takeNextClause 9 = .ok (.aload_n 0, 1) := by decide +kernel
theorem dX6_takeNextClause_10 : decode cX6_takeNextClause 10 = .ok (.invokevirtual 28, 3) := by decide +kernel
theorem dX6_takeNextClause_13 : decode cX6_takeNextClause 13 = .ok (.istore_n 1, 1) := by decide +kernel
theorem dX6_takeNextClause_14 : decode cX6_takeNextClause 14 = .ok (.iload_n 1, 1) := by decide +kernel
theorem dX6_takeNextClause_15 : decode cX6_takeNextClause 15 = .ok (.bipush 59, 2) := by decide +kernel
theorem dX6_takeNextClause_17 : decode cX6_takeNextClause 17 = .ok (.if_icmp .ne 15, 3) := by decide +kernel
theorem dX6_takeNextClause_20 : decode cX6_takeNextClause 20 = .ok (.aload_n 0, 1) := by decide +kernel
theorem dX6_takeNextClause_21 : decode cX6_takeNextClause 21 = .ok (.dup, 1) := by decide +kernel
theorem dX6_takeNextClause_22 : decode cX6_takeNextClause 22 = .ok (.getfield 19, 3) := by decide +kernel
theorem dX6_takeNextClause_25 : decode cX6_takeNextClause 25 = .ok (.iconst 1, 1) := by decide +kernel
theorem dX6_takeNextClause_26 : decode cX6_takeNextClause 26 = .ok (.iadd, 1) := by decide +kernel
theorem dX6_takeNextClause_27 : decode cX6_takeNextClause 27 = .ok (.putfield 19, 3) := by decide +kernel
theorem dX6_takeNextClause_30 : decode cX6_takeNextClause 30 = .ok (.iconst 1, 1) := by decide +kernel
theorem dX6_takeNextClause_31 : decode cX6_takeNextClause 31 = .ok (.ireturn, 1) := by decide +kernel
theorem dX6_takeNextClause_32 : decode cX6_takeNextClause 32 = .ok (.iload_n 1, 1) := by decide +kernel
theorem dX6_takeNextClause_33 : decode cX6_takeNextClause 33 = .ok (.iconst (-1), 1) := by decide +kernel
theorem dX6_takeNextClause_34 : decode cX6_takeNextClause 34 = .ok (.if_icmp .eq 12, 3) := by decide +kernel
theorem dX6_takeNextClause_37 : decode cX6_takeNextClause 37 = .ok (.aload_n 0, 1) := by decide +kernel
theorem dX6_takeNextClause_38 : decode cX6_takeNextClause 38 = .ok (.aload_n 0, 1) := by decide +kernel
theorem dX6_takeNextClause_39 : decode cX6_takeNextClause 39 = .ok (.getfield 19, 3) := by decide +kernel
theorem dX6_takeNextClause_42 : decode cX6_takeNextClause 42 = .ok (.iconst 0, 1) := by decide +kernel
theorem dX6_takeNextClause_43 : decode cX6_takeNextClause 43 = .ok (.invokevirtual 51, 3) := by decide +kernel
theorem dX6_takeNextClause_46 : decode cX6_takeNextClause 46 = .ok (.iconst 0, 1) := by decide +kernel
theorem dX6_takeNextClause_47 : decode cX6_takeNextClause 47 = .ok (.ireturn, 1) := by decide +kernel
theorem dX6_isDigit_0 : decode cX6_isDigit 0 = .ok (.iload_n 0, 1) := by decide +kernel
theorem dX6_isDigit_1 : decode cX6_isDigit 1 = .ok (.bipush 48, 2) := by decide +kernel
theorem dX6_isDigit_3 : decode cX6_isDigit 3 = .ok (.if_icmp .lt 13, 3) := by decide +kernel
theorem dX6_isDigit_6 : decode cX6_isDigit 6 = .ok (.iload_n 0, 1) := by decide +kernel
theorem dX6_isDigit_7 : decode cX6_isDigit 7 = .ok (.bipush 57, 2) := by decide +kernel
theorem dX6_isDigit_9 : decode cX6_isDigit 9 = .ok (.if_icmp .gt 7, 3) := by decide +kernel
theorem dX6_isDigit_12 : decode cX6_isDigit 12 = .ok (.iconst 1, 1) := by decide +kernel
theorem dX6_isDigit_13 : decode cX6_isDigit 13 = .ok (.goto 4, 3) := by decide +kernel
theorem dX6_isDigit_16 : decode cX6_isDigit 16 = .ok (.iconst 0, 1) := by decide +kernel
theorem dX6_isDigit_17 : decode cX6_isDigit 17 = .ok (.ireturn, 1) := by decide +kernel
theorem dX6_wordEnd_0 : decode cX6_wordEnd 0 = .ok (.aload_n 0, 1) := by decide +kernel
theorem dX6_wordEnd_1 : decode cX6_wordEnd 1 = .ok (.getfield 19, 3) := by decide +kernel
theorem dX6_wordEnd_4 : decode cX6_wordEnd 4 = .ok (.istore_n 1, 1) := by decide +kernel
theorem dX6_wordEnd_5 : decode cX6_wordEnd 5 = .ok (.iload_n 1, 1) := by decide +kernel
theorem dX6_wordEnd_6 : decode cX6_wordEnd 6 = .ok (.aload_n 0, 1) := by decide +kernel
theorem dX6_wordEnd_7 : decode cX6_wordEnd 7 = .ok (.getfield 15, 3) := by decide +kernel
theorem dX6_wordEnd_10 : decode cX6_wordEnd 10 = .ok (.if_icmp .ge 31, 3) := by decide +kernel
theorem dX6_wordEnd_13 : decode cX6_wordEnd 13 = .ok (.aload_n 0, 1) := by decide +kernel
theorem dX6_wordEnd_14 : decode cX6_wordEnd 14 = .ok (.getfield 11, 3) := by decide +kernel
theorem dX6_wordEnd_17 : decode cX6_wordEnd 17 = .ok (.iload_n 1, 1) := by decide +kernel
theorem dX6_wordEnd_18 : decode cX6_wordEnd 18 = .ok (.baload, 1) := by decide +kernel
theorem dX6_wordEnd_19 : decode cX6_wordEnd 19 = .ok (.bipush 97, 2) := by decide +kernel
theorem dX6_wordEnd_21 : decode cX6_wordEnd 21 = .ok (.if_icmp .lt 20, 3) := by decide +kernel
theorem dX6_wordEnd_24 : decode cX6_wordEnd 24 = .ok (.aload_n 0, 1) := by decide +kernel
theorem dX6_wordEnd_25 : decode cX6_wordEnd 25 = .ok (.getfield 11, 3) := by decide +kernel
theorem dX6_wordEnd_28 : decode cX6_wordEnd 28 = .ok (.iload_n 1, 1) := by decide +kernel
theorem dX6_wordEnd_29 : decode cX6_wordEnd 29 = .ok (.baload, 1) := by decide +kernel
theorem dX6_wordEnd_30 : decode cX6_wordEnd 30 = .ok (.bipush 122, 2) := by decide +kernel
theorem dX6_wordEnd_32 : decode cX6_wordEnd 32 = .ok (.if_icmp .gt 9, 3) := by decide +kernel
theorem dX6_wordEnd_35 : decode cX6_wordEnd 35 = .ok (.iinc 1 1, 3) := by decide +kernel
theorem dX6_wordEnd_38 : decode cX6_wordEnd 38 = .ok (.goto (-33), 3) := by decide +kernel
theorem dX6_wordEnd_41 : decode cX6_wordEnd 41 = .ok (.iload_n 1, 1) := by decide +kernel
theorem dX6_wordEnd_42 : decode cX6_wordEnd 42 = .ok (.ireturn, 1) := by decide +kernel
theorem dX6_isSame_0 : decode cX6_isSame 0 = .ok (.iload_n 3, 1) := by decide +kernel
theorem dX6_isSame_1 : decode cX6_isSame 1 = .ok (.iload_n 2, 1) := by decide +kernel
theorem dX6_isSame_2 : decode cX6_isSame 2 = .ok (.isub, 1) := by decide +kernel
theorem dX6_isSame_3 : decode cX6_isSame 3 = .ok (.iload 4, 2) := by decide +kernel
theorem dX6_isSame_5 : decode cX6_isSame 5 = .ok (.aload_n 0, 1) := by decide +kernel
theorem dX6_isSame_6 : decode cX6_isSame 6 = .ok (.getfield 19, 3) := by decide +kernel
theorem dX6_isSame_9 : decode cX6_isSame 9 = .ok (.isub, 1) := by decide +kernel
theorem dX6_isSame_10 : decode cX6_isSame 10 = .ok (.if_icmp .eq 5, 3) := by decide +kernel
theorem dX6_isSame_13 : decode cX6_isSame 13 = .ok (.iconst 0, 1) := by decide +kernel
theorem dX6_isSame_14 : decode cX6_isSame 14 = .ok (.ireturn, 1) := by decide +kernel
theorem dX6_isSame_15 : decode cX6_isSame 15 = .ok (.iload_n 2, 1) := by decide +kernel
theorem dX6_isSame_16 : decode cX6_isSame 16 = .ok (.istore 5, 2) := by decide +kernel
theorem dX6_isSame_18 : decode cX6_isSame 18 = .ok (.iload 5, 2) := by decide +kernel
theorem dX6_isSame_20 : decode cX6_isSame 20 = .ok (.iload_n 3, 1) := by decide +kernel
theorem dX6_isSame_21 : decode cX6_isSame 21 = .ok (.if_icmp .ge 34, 3) := by decide +kernel
theorem dX6_isSame_24 : decode cX6_isSame 24 = .ok (.aload_n 1, 1) := by decide +kernel
theorem dX6_isSame_25 : decode cX6_isSame 25 = .ok (.iload 5, 2) := by decide +kernel
theorem dX6_isSame_27 : decode cX6_isSame 27 = .ok (.invokevirtual 47, 3) := by decide +kernel
theorem dX6_isSame_30 : decode cX6_isSame 30 = .ok (.aload_n 0, 1) := by decide +kernel
theorem dX6_isSame_31 : decode cX6_isSame 31 = .ok (.getfield 11, 3) := by decide +kernel
theorem dX6_isSame_34 : decode cX6_isSame 34 = .ok (.aload_n 0, 1) := by decide +kernel
theorem dX6_isSame_35 : decode cX6_isSame 35 = .ok (.getfield 19, 3) := by decide +kernel
theorem dX6_isSame_38 : decode cX6_isSame 38 = .ok (.iload 5, 2) := by decide +kernel
theorem dX6_isSame_40 : decode cX6_isSame 40 = .ok (.iadd, 1) := by decide +kernel
theorem dX6_isSame_41 : decode cX6_isSame 41 = .ok (.iload_n 2, 1) := by decide +kernel
theorem dX6_isSame_42 : decode cX6_isSame 42 = .ok (.isub, 1) := by decide +kernel
theorem dX6_isSame_43 : decode cX6_isSame 43 = .ok (.baload, 1) := by decide +kernel
theorem dX6_isSame_44 : decode cX6_isSame 44 = .ok (.if_icmp .eq 5, 3) := by decide +kernel
theorem dX6_isSame_47 : decode cX6_isSame 47 = .ok (.iconst 0, 1) := by decide +kernel
theorem dX6_isSame_48 : decode cX6_isSame 48 = .ok (.ireturn, 1) := by decide +kernel
theorem dX6_isSame_49 : decode cX6_isSame 49 = .ok (.iinc 5 1, 3) := by decide +kernel
theorem dX6_isSame_52 : decode cX6_isSame 52 = .ok (.goto (-34), 3) := by decide +kernel
theorem dX6_isSame_55 : decode cX6_isSame 55 = .ok (.iconst 1, 1) := by decide +kernel
theorem dX6_isSame_56 : decode cX6_isSame 56 = .ok (.ireturn, 1) := by decide +kernel
theorem dX7_init_0 : decode cX7_init 0 = .ok (.aload_n 0, 1) := by decide +kernel
theorem dX7_init_1 : decode cX7_init 1 = .ok (.invokespecial 3, 3) := by decide +kernel
theorem dX7_init_4 : decode cX7_init 4 = .ok (.aload_n 0, 1) := by decide +kernel
theorem dX7_init_5 : decode cX7_init 5 = .ok (.iconst 0, 1) := by decide +kernel
theorem dX7_init_6 : decode cX7_init 6 = .ok (.putfield 9, 3) := by decide +kernel
theorem dX7_init_9 : decode cX7_init 9 = .ok (.aload_n 0, 1) := by decide +kernel
theorem dX7_init_10 : decode cX7_init 10 = .ok (.iconst 0, 1) := by decide +kernel
theorem dX7_init_11 : decode cX7_init 11 = .ok (.putfield 15, 3) := by decide +kernel
theorem dX7_init_14 : decode cX7_init 14 = .ok (.aload_n 0, 1) := by decide +kernel
theorem dX7_init_15 : decode cX7_init 15 = .ok (.new 18, 3) := by decide +kernel
theorem dX7_init_18 : decode cX7_init 18 = .ok (.dup, 1) := by decide +kernel
theorem dX7_init_19 : decode cX7_init 19 = .ok (.bipush 9, 2) := by decide +kernel
theorem dX7_init_21 : decode cX7_init 21 = .ok (.invokespecial 20, 3) := by decide +kernel
theorem dX7_init_24 : decode cX7_init 24 = .ok (.putfield 23, 3) := by decide +kernel
theorem dX7_init_27 : decode cX7_init 27 = .ok (.aload_n 0, 1) := by decide +kernel
theorem dX7_init_28 : decode cX7_init 28 = .ok (.new 18, 3) := by decide +kernel
theorem dX7_init_31 : decode cX7_init 31 = .ok (.dup, 1) := by decide +kernel
theorem dX7_init_32 : decode cX7_init 32 = .ok (.iconst 4, 1) := by decide +kernel
theorem dX7_init_33 : decode cX7_init 33 = .ok (.invokespecial 20, 3) := by decide +kernel
theorem dX7_init_36 : decode cX7_init 36 = .ok (.putfield 27, 3) := by decide +kernel
theorem dX7_init_39 : decode cX7_init 39 = .ok (.aload_n 0, 1) := by decide +kernel
theorem dX7_init_40 : decode cX7_init 40 = .ok (.iconst 0, 1) := by decide +kernel
theorem dX7_init_41 : decode cX7_init 41 = .ok (.putfield 30, 3) := by decide +kernel
theorem dX7_init_44 : decode cX7_init 44 = .ok (.aload_n 0, 1) := by decide +kernel
theorem dX7_init_45 : decode cX7_init 45 = .ok (.iconst 4, 1) := by decide +kernel
theorem dX7_init_46 : decode cX7_init 46 = .ok (.newarray .int, 2) := by decide +kernel
theorem dX7_init_48 : decode cX7_init 48 = .ok (.putfield 33, 3) := by decide +kernel
theorem dX7_init_51 : decode cX7_init 51 = .ok (.aload_n 0, 1) := by decide +kernel
theorem dX7_init_52 : decode cX7_init 52 = .ok (.iconst 4, 1) := by decide +kernel
theorem dX7_init_53 : decode cX7_init 53 = .ok (.newarray .int, 2) := by decide +kernel
theorem dX7_init_55 : decode cX7_init 55 = .ok (.putfield 37, 3) := by decide +kernel
theorem dX7_init_58 : decode cX7_init 58 = .ok (.aload_n 0, 1) := by decide +kernel
theorem dX7_init_59 : decode cX7_init 59 = .ok (.iconst 0, 1) := by decide +kernel
theorem dX7_init_60 : decode cX7_init 60 = .ok (.putfield 40, 3) := by decide +kernel
theorem dX7_init_63 : decode cX7_init 63 = .ok (.aload_n 0, 1) := by decide +kernel
theorem dX7_init_64 : decode cX7_init 64 = .ok (.iconst 4, 1) := by decide +kernel
theorem dX7_init_65 : decode cX7_init 65 = .ok (.newarray .int, 2) := by decide +kernel
theorem dX7_init_67 : decode cX7_init 67 = .ok (.putfield 43, 3) := by decide +kernel
theorem dX7_init_70 : decode cX7_init 70 = .ok (.aload_n 0, 1) := by decide +kernel
theorem dX7_init_71 : decode cX7_init 71 = .ok (.bipush 36, 2) := by decide +kernel
theorem dX7_init_73 : decode cX7_init 73 = .ok (.newarray .int, 2) := by decide +kernel
theorem dX7_init_75 : decode cX7_init 75 = .ok (.putfield 46, 3) := by decide +kernel
theorem dX7_init_78 : decode cX7_init 78 = .ok (.aload_n 0, 1) := by decide +kernel
theorem dX7_init_79 : decode cX7_init 79 = .ok (.iconst 0, 1) := by decide +kernel
theorem dX7_init_80 : decode cX7_init 80 = .ok (.putfield 49, 3) := by decide +kernel
theorem dX7_init_83 : decode cX7_init 83 = .ok (.aload_n 0, 1) := by decide +kernel
theorem dX7_init_84 : decode cX7_init 84 = .ok (.bipush 8, 2) := by decide +kernel
theorem dX7_init_86 : decode cX7_init 86 = .ok (.newarray .int, 2) := by decide +kernel
theorem dX7_init_88 : decode cX7_init 88 = .ok (.putfield 52, 3) := by decide +kernel
theorem dX7_init_91 : decode cX7_init 91 = .ok (.aload_n 0, 1) := by decide +kernel
theorem dX7_init_92 : decode cX7_init 92 = .ok (.bipush 8, 2) := by decide +kernel
theorem dX7_init_94 : decode cX7_init 94 = .ok (.newarray .int, 2) := by decide +kernel
theorem dX7_init_96 : decode cX7_init 96 = .ok (.putfield 55, 3) := by decide +kernel
theorem dX7_init_99 : decode cX7_init 99 = .ok (.aload_n 0, 1) := by decide +kernel
theorem dX7_init_100 : decode cX7_init 100 = .ok (.bipush 8, 2) := by decide +kernel
theorem dX7_init_102 : decode cX7_init 102 = .ok (.newarray .int, 2) := by decide +kernel
theorem dX7_init_104 : decode cX7_init 104 = .ok (.putfield 58, 3) := by decide +kernel
theorem dX7_init_107 : decode cX7_init 107 = .ok (.aload_n 0, 1) := by decide +kernel
theorem dX7_init_108 : decode cX7_init 108 = .ok (.bipush 8, 2) := by decide +kernel
theorem dX7_init_110 : decode cX7_init 110 = .ok (.newarray .int, 2) := by decide +kernel
theorem dX7_init_112 : decode cX7_init 112 = .ok (.putfield 61, 3) := by decide +kernel
theorem dX7_init_115 : decode cX7_init 115 = .ok (.aload_n 0, 1) := by decide +kernel
theorem dX7_init_116 : decode cX7_init 116 = .ok (.bipush 64, 2) := by decide +kernel
theorem dX7_init_118 : decode cX7_init 118 = .ok (.newarray .int, 2) := by decide +kernel
theorem dX7_init_120 : decode cX7_init 120 = .ok (.putfield 64, 3) := by decide +kernel
theorem dX7_init_123 : decode cX7_init 123 = .ok (.return_, 1) := by decide +kernel
theorem dX7_read_0 : decode cX7_read 0 = .ok (.aload_n 1, 1) := by decide +kernel
theorem dX7_read_1 : decode cX7_read 1 = .ok (.invokevirtual 67, 3) := by decide +kernel
theorem dX7_read_4 : decode cX7_read 4 = .ok (.iconst 1, 1) := by decide +kernel
theorem dX7_read_5 : decode cX7_read 5 = .ok (.istore_n 2, 1) := by decide +kernel
theorem dX7_read_6 : decode cX7_read 6 = .ok (.iconst 0, 1) := by decide +kernel
theorem dX7_read_7 : decode cX7_read 7 = .ok (.istore_n 3, 1) := by decide +kernel
theorem dX7_read_8 : decode cX7_read 8 = .ok (.iload_n 2, 1) := by decide +kernel
theorem dX7_read_9 : decode cX7_read 9 = .ok (.ifCond .eq 26, 3) := by decide +kernel
theorem dX7_read_12 : decode cX7_read 12 = .ok (.iload_n 3, 1) := by decide +kernel
theorem dX7_read_13 : decode cX7_read 13 = .ok (.bipush 40, 2) := by decide +kernel
theorem dX7_read_15 : decode cX7_read 15 = .ok (.if_icmp .gt 20, 3) := by decide +kernel
theorem dX7_read_18 : decode cX7_read 18 = .ok (.aload_n 0, 1) := by decide +kernel
theorem dX7_read_19 : decode cX7_read 19 = .ok (.aload_n 1, 1) := by decide +kernel
theorem dX7_read_20 : decode cX7_read 20 = .ok (.iload_n 3, 1) := by decide +kernel
theorem dX7_read_21 : decode cX7_read 21 = .ok (.invokevirtual 72, 3) := by decide +kernel
theorem dX7_read_24 : decode cX7_read 24 = .ok (.aload_n 1, 1) := by decide +kernel
theorem dX7_read_25 : decode cX7_read 25 = .ok (.invokevirtual 76, 3) := by decide +kernel
theorem dX7_read_28 : decode cX7_read 28 = .ok (.istore_n 2, 1) := by decide +kernel
theorem dX7_read_29 : decode cX7_read 29 = .ok (.iinc 3 1, 3) := by decide +kernel
theorem dX7_read_32 : decode cX7_read 32 = .ok (.goto (-24), 3) := by decide +kernel
theorem dX7_read_35 : decode cX7_read 35 = .ok (.aload_n 1, 1) := by decide +kernel
theorem dX7_read_36 : decode cX7_read 36 = .ok (.getfield 80, 3) := by decide +kernel
theorem dX7_read_39 : decode cX7_read 39 = .ok (.ifCond .ne 7, 3) := by decide +kernel
theorem dX7_read_42 : decode cX7_read 42 = .ok (.aload_n 0, 1) := by decide +kernel
theorem dX7_read_43 : decode cX7_read 43 = .ok (.invokevirtual 83, 3) := by decide +kernel
theorem dX7_read_46 : decode cX7_read 46 = .ok (.return_, 1) := by decide +kernel
theorem dX7_readClause_0 : decode cX7_readClause 0 = .ok (.aload_n 1, 1) := by decide +kernel
theorem dX7_readClause_1 : decode cX7_readClause 1 = .ok (.ldc 86, 2) := by decide +kernel
theorem dX7_readClause_3 : decode cX7_readClause 3 = .ok (.invokevirtual 88, 3) := by decide +kernel
theorem dX7_readClause_6 : decode cX7_readClause 6 = .ok (.istore_n 3, 1) := by decide +kernel
theorem dX7_readClause_7 : decode cX7_readClause 7 = .ok (.aload_n 1, 1) := by decide +kernel
theorem dX7_readClause_8 : decode cX7_readClause 8 = .ok (.getfield 80, 3) := by decide +kernel
theorem dX7_readClause_11 : decode cX7_readClause 11 = .ok (.ifCond .eq 4, 3) := by decide +kernel
theorem dX7_readClause_14 : decode cX7_readClause 14 = .ok (.return_, 1) := by decide +kernel
theorem dX7_readClause_15 : decode cX7_readClause 15 = .ok (.iload_n 2, 1) := by decide +kernel
theorem dX7_readClause_16 : decode cX7_readClause 16 = .ok (.bipush 40, 2) := by decide +kernel
theorem dX7_readClause_18 : decode cX7_readClause 18 = .ok (.if_icmp .ge 32, 3) := by decide +kernel
theorem dX7_readClause_21 : decode cX7_readClause 21 = .ok (.iload_n 3, 1) := by decide +kernel
theorem dX7_readClause_22 : decode cX7_readClause 22 = .ok (.ifCond .ne 7, 3) := by decide +kernel
theorem dX7_readClause_25 : decode cX7_readClause 25 = .ok (.iconst 1, 1) := by decide +kernel
theorem dX7_readClause_26 : decode cX7_readClause 26 = .ok (.goto 4, 3) := by decide +kernel
theorem dX7_readClause_29 : decode cX7_readClause 29 = .ok (.iconst 0, 1) := by decide +kernel
theorem dX7_readClause_30 : decode cX7_readClause 30 = .ok (.iload_n 2, 1) := by decide +kernel
theorem dX7_readClause_31 : decode cX7_readClause 31 = .ok (.ifCond .ne 7, 3) := by decide +kernel
theorem dX7_readClause_34 : decode cX7_readClause 34 = .ok (.iconst 1, 1) := by decide +kernel
theorem dX7_readClause_35 : decode cX7_readClause 35 = .ok (.goto 4, 3) := by decide +kernel
theorem dX7_readClause_38 : decode cX7_readClause 38 = .ok (.iconst 0, 1) := by decide +kernel
theorem dX7_readClause_39 : decode cX7_readClause 39 = .ok (.if_icmp .ne 11, 3) := by decide +kernel
theorem dX7_readClause_42 : decode cX7_readClause 42 = .ok (.aload_n 0, 1) := by decide +kernel
theorem dX7_readClause_43 : decode cX7_readClause 43 = .ok (.iload_n 3, 1) := by decide +kernel
theorem dX7_readClause_44 : decode cX7_readClause 44 = .ok (.invokevirtual 92, 3) := by decide +kernel
theorem dX7_readClause_47 : decode cX7_readClause 47 = .ok (.ifCond .eq 13, 3) := by decide +kernel
theorem dX7_readClause_50 : decode cX7_readClause 50 = .ok (.aload_n 1, 1) := by decide +kernel
theorem dX7_readClause_51 : decode cX7_readClause 51 = .ok (.aload_n 1, 1) := by decide +kernel
theorem dX7_readClause_52 : decode cX7_readClause 52 = .ok (.getfield 96, 3) := by decide +kernel
theorem dX7_readClause_55 : decode cX7_readClause 55 = .ok (.iconst 4, 1) := by decide +kernel
theorem dX7_readClause_56 : decode cX7_readClause 56 = .ok (.invokevirtual 99, 3) := by decide +kernel
theorem dX7_readClause_59 : decode cX7_readClause 59 = .ok (.return_, 1) := by decide +kernel
theorem dX7_readClause_60 : decode cX7_readClause 60 = .ok (.iload_n 3, 1) := by decide +kernel
theorem dX7_readClause_61 : decode cX7_readClause 61 = .ok (.tableswitch 111 0 5 #[39, 63, 75, 87, 95, 103], 39) := by decide +kernel
theorem dX7_readClause_100 : decode cX7_readClause 100 = .ok (.aload_n 0, 1) := by decide +kernel
theorem dX7_readClause_101 : decode cX7_readClause 101 = .ok (.aload_n 1, 1) := by decide +kernel
theorem dX7_readClause_102 : decode cX7_readClause 102 = .ok (.iconst 2, 1) := by decide +kernel
theorem dX7_readClause_103 : decode cX7_readClause 103 = .ok (.bipush 8, 2) := by decide +kernel
theorem dX7_readClause_105 : decode cX7_readClause 105 = .ok (.invokevirtual 103, 3) := by decide +kernel
theorem dX7_readClause_108 : decode cX7_readClause 108 = .ok (.putfield 9, 3) := by decide +kernel
theorem dX7_readClause_111 : decode cX7_readClause 111 = .ok (.aload_n 0, 1) := by decide +kernel
theorem dX7_readClause_112 : decode cX7_readClause 112 = .ok (.aload_n 1, 1) := by decide +kernel
theorem dX7_readClause_113 : decode cX7_readClause 113 = .ok (.iconst 1, 1) := by decide +kernel
theorem dX7_readClause_114 : decode cX7_readClause 114 = .ok (.iconst 5, 1) := by decide +kernel
theorem dX7_readClause_115 : decode cX7_readClause 115 = .ok (.invokevirtual 103, 3) := by decide +kernel
theorem dX7_readClause_118 : decode cX7_readClause 118 = .ok (.putfield 15, 3) := by decide +kernel
theorem dX7_readClause_121 : decode cX7_readClause 121 = .ok (.goto 56, 3) := by decide +kernel
theorem dX7_readClause_124 : decode cX7_readClause 124 = .ok (.aload_n 0, 1) := by decide +kernel
theorem dX7_readClause_125 : decode cX7_readClause 125 = .ok (.aload_n 1, 1) := by decide +kernel
theorem dX7_readClause_126 : decode cX7_readClause 126 = .ok (.aload_n 0, 1) := by decide +kernel
theorem dX7_readClause_127 : decode cX7_readClause 127 = .ok (.getfield 23, 3) := by decide +kernel
theorem dX7_readClause_130 : decode cX7_readClause 130 = .ok (.invokevirtual 107, 3) := by decide +kernel
theorem dX7_readClause_133 : decode cX7_readClause 133 = .ok (.goto 44, 3) := by decide +kernel
theorem dX7_readClause_136 : decode cX7_readClause 136 = .ok (.aload_n 0, 1) := by decide +kernel
theorem dX7_readClause_137 : decode cX7_readClause 137 = .ok (.aload_n 1, 1) := by decide +kernel
theorem dX7_readClause_138 : decode cX7_readClause 138 = .ok (.aload_n 0, 1) := by decide +kernel
theorem dX7_readClause_139 : decode cX7_readClause 139 = .ok (.getfield 27, 3) := by decide +kernel
theorem dX7_readClause_142 : decode cX7_readClause 142 = .ok (.invokevirtual 107, 3) := by decide +kernel
theorem dX7_readClause_145 : decode cX7_readClause 145 = .ok (.goto 32, 3) := by decide +kernel
theorem dX7_readClause_148 : decode cX7_readClause 148 = .ok (.aload_n 0, 1) := by decide +kernel
theorem dX7_readClause_149 : decode cX7_readClause 149 = .ok (.aload_n 1, 1) := by decide +kernel
theorem dX7_readClause_150 : decode cX7_readClause 150 = .ok (.invokevirtual 111, 3) := by decide +kernel
theorem dX7_readClause_153 : decode cX7_readClause 153 = .ok (.goto 24, 3) := by decide +kernel
theorem dX7_readClause_156 : decode cX7_readClause 156 = .ok (.aload_n 0, 1) := by decide +kernel
theorem dX7_readClause_157 : decode cX7_readClause 157 = .ok (.aload_n 1, 1) := by decide +kernel
theorem dX7_readClause_158 : decode cX7_readClause 158 = .ok (.invokevirtual 115, 3) := by decide +kernel
theorem dX7_readClause_161 : decode cX7_readClause 161 = .ok (.goto 16, 3) := by decide +kernel
theorem dX7_readClause_164 : decode cX7_readClause 164 = .ok (.aload_n 0, 1) := by decide +kernel
theorem dX7_readClause_165 : decode cX7_readClause 165 = .ok (.aload_n 1, 1) := by decide +kernel
theorem dX7_readClause_166 : decode cX7_readClause 166 = .ok (.invokevirtual 118, 3) := by decide +kernel
theorem dX7_readClause_169 : decode cX7_readClause 169 = .ok (.goto 8, 3) := by decide +kernel
theorem dX7_readClause_172 : decode cX7_readClause 172 = .ok (.aload_n 0, 1) := by decide +kernel
theorem dX7_readClause_173 : decode cX7_readClause 173 = .ok (.aload_n 1, 1) := by decide +kernel
theorem dX7_readClause_174 : decode cX7_readClause 174 = .ok (.invokevirtual 121, 3) := by decide +kernel
theorem dX7_readClause_177 : decode cX7_readClause 177 = .ok (.return_, 1) := by decide +kernel
theorem dX7_isFull_0 : decode cX7_isFull 0 = .ok (.iload_n 1, 1) := by decide +kernel
theorem dX7_isFull_1 : decode cX7_isFull 1 = .ok (.tableswitch 98 1 6 #[39, 47, 55, 69, 98, 83], 39) := by decide +kernel
theorem dX7_isFull_40 : decode cX7_isFull 40 = .ok (.aload_n 0, 1) := by decide +kernel
theorem dX7_isFull_41 : decode cX7_isFull 41 = .ok (.getfield 23, 3) := by decide +kernel
theorem dX7_isFull_44 : decode cX7_isFull 44 = .ok (.invokevirtual 124, 3) := by decide +kernel
theorem dX7_isFull_47 : decode cX7_isFull 47 = .ok (.ireturn, 1) := by decide +kernel
theorem dX7_isFull_48 : decode cX7_isFull 48 = .ok (.aload_n 0, 1) := by decide +kernel
theorem dX7_isFull_49 : decode cX7_isFull 49 = .ok (.getfield 27, 3) := by decide +kernel
theorem dX7_isFull_52 : decode cX7_isFull 52 = .ok (.invokevirtual 124, 3) := by decide +kernel
theorem dX7_isFull_55 : decode cX7_isFull 55 = .ok (.ireturn, 1) := by decide +kernel
theorem dX7_isFull_56 : decode cX7_isFull 56 = .ok (.aload_n 0, 1) := by decide +kernel
theorem dX7_isFull_57 : decode cX7_isFull 57 = .ok (.getfield 30, 3) := by decide +kernel
theorem dX7_isFull_60 : decode cX7_isFull 60 = .ok (.iconst 4, 1) := by decide +kernel
theorem dX7_isFull_61 : decode cX7_isFull 61 = .ok (.if_icmp .lt 7, 3) := by decide +kernel
theorem dX7_isFull_64 : decode cX7_isFull 64 = .ok (.iconst 1, 1) := by decide +kernel
theorem dX7_isFull_65 : decode cX7_isFull 65 = .ok (.goto 4, 3) := by decide +kernel
theorem dX7_isFull_68 : decode cX7_isFull 68 = .ok (.iconst 0, 1) := by decide +kernel
theorem dX7_isFull_69 : decode cX7_isFull 69 = .ok (.ireturn, 1) := by decide +kernel
theorem dX7_isFull_70 : decode cX7_isFull 70 = .ok (.aload_n 0, 1) := by decide +kernel
theorem dX7_isFull_71 : decode cX7_isFull 71 = .ok (.getfield 40, 3) := by decide +kernel
theorem dX7_isFull_74 : decode cX7_isFull 74 = .ok (.iconst 4, 1) := by decide +kernel
theorem dX7_isFull_75 : decode cX7_isFull 75 = .ok (.if_icmp .lt 7, 3) := by decide +kernel
theorem dX7_isFull_78 : decode cX7_isFull 78 = .ok (.iconst 1, 1) := by decide +kernel
theorem dX7_isFull_79 : decode cX7_isFull 79 = .ok (.goto 4, 3) := by decide +kernel
theorem dX7_isFull_82 : decode cX7_isFull 82 = .ok (.iconst 0, 1) := by decide +kernel
theorem dX7_isFull_83 : decode cX7_isFull 83 = .ok (.ireturn, 1) := by decide +kernel
theorem dX7_isFull_84 : decode cX7_isFull 84 = .ok (.aload_n 0, 1) := by decide +kernel
theorem dX7_isFull_85 : decode cX7_isFull 85 = .ok (.getfield 49, 3) := by decide +kernel
theorem dX7_isFull_88 : decode cX7_isFull 88 = .ok (.bipush 8, 2) := by decide +kernel
theorem dX7_isFull_90 : decode cX7_isFull 90 = .ok (.if_icmp .lt 7, 3) := by decide +kernel
theorem dX7_isFull_93 : decode cX7_isFull 93 = .ok (.iconst 1, 1) := by decide +kernel
theorem dX7_isFull_94 : decode cX7_isFull 94 = .ok (.goto 4, 3) := by decide +kernel
theorem dX7_isFull_97 : decode cX7_isFull 97 = .ok (.iconst 0, 1) := by decide +kernel
theorem dX7_isFull_98 : decode cX7_isFull 98 = .ok (.ireturn, 1) := by decide +kernel
theorem dX7_isFull_99 : decode cX7_isFull 99 = .ok (.iconst 0, 1) := by decide +kernel
theorem dX7_isFull_100 : decode cX7_isFull 100 = .ok (.ireturn, 1) := by decide +kernel
theorem dX7_readLink_0 : decode cX7_readLink 0 = .ok (.aload_n 1, 1) := by decide +kernel
theorem dX7_readLink_1 : decode cX7_readLink 1 = .ok (.iconst 0, 1) := by decide +kernel
theorem dX7_readLink_2 : decode cX7_readLink 2 = .ok (.aload_n 0, 1) := by decide +kernel
theorem dX7_readLink_3 : decode cX7_readLink 3 = .ok (.getfield 9, 3) := by decide +kernel
theorem dX7_readLink_6 : decode cX7_readLink 6 = .ok (.iconst 1, 1) := by decide +kernel
theorem dX7_readLink_7 : decode cX7_readLink 7 = .ok (.isub, 1) := by decide +kernel
theorem dX7_readLink_8 : decode cX7_readLink 8 = .ok (.invokevirtual 103, 3) := by decide +kernel
theorem dX7_readLink_11 : decode cX7_readLink 11 = .ok (.istore_n 3, 1) := by decide +kernel
theorem dX7_readLink_12 : decode cX7_readLink 12 = .ok (.aload_n 1, 1) := by decide +kernel
theorem dX7_readLink_13 : decode cX7_readLink 13 = .ok (.iconst 0, 1) := by decide +kernel
theorem dX7_readLink_14 : decode cX7_readLink 14 = .ok (.aload_n 0, 1) := by decide +kernel
theorem dX7_readLink_15 : decode cX7_readLink 15 = .ok (.getfield 9, 3) := by decide +kernel
theorem dX7_readLink_18 : decode cX7_readLink 18 = .ok (.iconst 1, 1) := by decide +kernel
theorem dX7_readLink_19 : decode cX7_readLink 19 = .ok (.isub, 1) := by decide +kernel
theorem dX7_readLink_20 : decode cX7_readLink 20 = .ok (.invokevirtual 103, 3) := by decide +kernel
theorem dX7_readLink_23 : decode cX7_readLink 23 = .ok (.istore 4, 2) := by decide +kernel
theorem dX7_readLink_25 : decode cX7_readLink 25 = .ok (.aload_n 1, 1) := by decide +kernel
theorem dX7_readLink_26 : decode cX7_readLink 26 = .ok (.getfield 80, 3) := by decide +kernel
theorem dX7_readLink_29 : decode cX7_readLink 29 = .ok (.ifCond .ne 18, 3) := by decide +kernel
theorem dX7_readLink_32 : decode cX7_readLink 32 = .ok (.iload_n 3, 1) := by decide +kernel
theorem dX7_readLink_33 : decode cX7_readLink 33 = .ok (.iload 4, 2) := by decide +kernel
theorem dX7_readLink_35 : decode cX7_readLink 35 = .ok (.if_icmp .ne 12, 3) := by decide +kernel
theorem dX7_readLink_38 : decode cX7_readLink 38 = .ok (.aload_n 1, 1) := by decide +kernel
theorem dX7_readLink_39 : decode cX7_readLink 39 = .ok (.aload_n 1, 1) := by decide +kernel
theorem dX7_readLink_40 : decode cX7_readLink 40 = .ok (.getfield 96, 3) := by decide +kernel
theorem dX7_readLink_43 : decode cX7_readLink 43 = .ok (.iconst 1, 1) := by decide +kernel
theorem dX7_readLink_44 : decode cX7_readLink 44 = .ok (.invokevirtual 99, 3) := by decide +kernel
theorem dX7_readLink_47 : decode cX7_readLink 47 = .ok (.aload_n 1, 1) := by decide +kernel
theorem dX7_readLink_48 : decode cX7_readLink 48 = .ok (.getfield 80, 3) := by decide +kernel
theorem dX7_readLink_51 : decode cX7_readLink 51 = .ok (.ifCond .ne 10, 3) := by decide +kernel
theorem dX7_readLink_54 : decode cX7_readLink 54 = .ok (.aload_n 2, 1) := by decide +kernel
theorem dX7_readLink_55 : decode cX7_readLink 55 = .ok (.iload_n 3, 1) := by decide +kernel
theorem dX7_readLink_56 : decode cX7_readLink 56 = .ok (.iload 4, 2) := by decide +kernel
theorem dX7_readLink_58 : decode cX7_readLink 58 = .ok (.invokevirtual 126, 3) := by decide +kernel
theorem dX7_readLink_61 : decode cX7_readLink 61 = .ok (.return_, 1) := by decide +kernel
theorem dX7_readFrost_0 : decode cX7_readFrost 0 = .ok (.aload_n 1, 1) := by decide +kernel
theorem dX7_readFrost_1 : decode cX7_readFrost 1 = .ok (.iconst 0, 1) := by decide +kernel
theorem dX7_readFrost_2 : decode cX7_readFrost 2 = .ok (.bipush 99, 2) := by decide +kernel
theorem dX7_readFrost_4 : decode cX7_readFrost 4 = .ok (.invokevirtual 103, 3) := by decide +kernel
theorem dX7_readFrost_7 : decode cX7_readFrost 7 = .ok (.istore_n 2, 1) := by decide +kernel
theorem dX7_readFrost_8 : decode cX7_readFrost 8 = .ok (.aload_n 1, 1) := by decide +kernel
theorem dX7_readFrost_9 : decode cX7_readFrost 9 = .ok (.iload_n 2, 1) := by decide +kernel
theorem dX7_readFrost_10 : decode cX7_readFrost 10 = .ok (.bipush 99, 2) := by decide +kernel
theorem dX7_readFrost_12 : decode cX7_readFrost 12 = .ok (.invokevirtual 103, 3) := by decide +kernel
theorem dX7_readFrost_15 : decode cX7_readFrost 15 = .ok (.istore_n 3, 1) := by decide +kernel
theorem dX7_readFrost_16 : decode cX7_readFrost 16 = .ok (.aload_n 1, 1) := by decide +kernel
theorem dX7_readFrost_17 : decode cX7_readFrost 17 = .ok (.getfield 80, 3) := by decide +kernel
theorem dX7_readFrost_20 : decode cX7_readFrost 20 = .ok (.ifCond .ne 33, 3) := by decide +kernel
theorem dX7_readFrost_23 : decode cX7_readFrost 23 = .ok (.aload_n 0, 1) := by decide +kernel
theorem dX7_readFrost_24 : decode cX7_readFrost 24 = .ok (.getfield 33, 3) := by decide +kernel
theorem dX7_readFrost_27 : decode cX7_readFrost 27 = .ok (.aload_n 0, 1) := by decide +kernel
theorem dX7_readFrost_28 : decode cX7_readFrost 28 = .ok (.getfield 30, 3) := by decide +kernel
theorem dX7_readFrost_31 : decode cX7_readFrost 31 = .ok (.iload_n 2, 1) := by decide +kernel
theorem dX7_readFrost_32 : decode cX7_readFrost 32 = .ok (.iastore, 1) := by decide +kernel
theorem dX7_readFrost_33 : decode cX7_readFrost 33 = .ok (.aload_n 0, 1) := by decide +kernel
theorem dX7_readFrost_34 : decode cX7_readFrost 34 = .ok (.getfield 37, 3) := by decide +kernel
theorem dX7_readFrost_37 : decode cX7_readFrost 37 = .ok (.aload_n 0, 1) := by decide +kernel
theorem dX7_readFrost_38 : decode cX7_readFrost 38 = .ok (.getfield 30, 3) := by decide +kernel
theorem dX7_readFrost_41 : decode cX7_readFrost 41 = .ok (.iload_n 3, 1) := by decide +kernel
theorem dX7_readFrost_42 : decode cX7_readFrost 42 = .ok (.iastore, 1) := by decide +kernel
theorem dX7_readFrost_43 : decode cX7_readFrost 43 = .ok (.aload_n 0, 1) := by decide +kernel
theorem dX7_readFrost_44 : decode cX7_readFrost 44 = .ok (.dup, 1) := by decide +kernel
theorem dX7_readFrost_45 : decode cX7_readFrost 45 = .ok (.getfield 30, 3) := by decide +kernel
theorem dX7_readFrost_48 : decode cX7_readFrost 48 = .ok (.iconst 1, 1) := by decide +kernel
theorem dX7_readFrost_49 : decode cX7_readFrost 49 = .ok (.iadd, 1) := by decide +kernel
theorem dX7_readFrost_50 : decode cX7_readFrost 50 = .ok (.putfield 30, 3) := by decide +kernel
theorem dX7_readFrost_53 : decode cX7_readFrost 53 = .ok (.return_, 1) := by decide +kernel
theorem dX7_readPerson_0 : decode cX7_readPerson 0 = .ok (.aload_n 1, 1) := by decide +kernel
theorem dX7_readPerson_1 : decode cX7_readPerson 1 = .ok (.iconst 0, 1) := by decide +kernel
theorem dX7_readPerson_2 : decode cX7_readPerson 2 = .ok (.aload_n 0, 1) := by decide +kernel
theorem dX7_readPerson_3 : decode cX7_readPerson 3 = .ok (.getfield 9, 3) := by decide +kernel
theorem dX7_readPerson_6 : decode cX7_readPerson 6 = .ok (.iconst 1, 1) := by decide +kernel
theorem dX7_readPerson_7 : decode cX7_readPerson 7 = .ok (.isub, 1) := by decide +kernel
theorem dX7_readPerson_8 : decode cX7_readPerson 8 = .ok (.invokevirtual 103, 3) := by decide +kernel
theorem dX7_readPerson_11 : decode cX7_readPerson 11 = .ok (.istore_n 2, 1) := by decide +kernel
theorem dX7_readPerson_12 : decode cX7_readPerson 12 = .ok (.aload_n 1, 1) := by decide +kernel
theorem dX7_readPerson_13 : decode cX7_readPerson 13 = .ok (.getfield 80, 3) := by decide +kernel
theorem dX7_readPerson_16 : decode cX7_readPerson 16 = .ok (.ifCond .ne 23, 3) := by decide +kernel
theorem dX7_readPerson_19 : decode cX7_readPerson 19 = .ok (.aload_n 0, 1) := by decide +kernel
theorem dX7_readPerson_20 : decode cX7_readPerson 20 = .ok (.getfield 43, 3) := by decide +kernel
theorem dX7_readPerson_23 : decode cX7_readPerson 23 = .ok (.aload_n 0, 1) := by decide +kernel
theorem dX7_readPerson_24 : decode cX7_readPerson 24 = .ok (.getfield 40, 3) := by decide +kernel
theorem dX7_readPerson_27 : decode cX7_readPerson 27 = .ok (.iload_n 2, 1) := by decide +kernel
theorem dX7_readPerson_28 : decode cX7_readPerson 28 = .ok (.iastore, 1) := by decide +kernel
theorem dX7_readPerson_29 : decode cX7_readPerson 29 = .ok (.aload_n 0, 1) := by decide +kernel
theorem dX7_readPerson_30 : decode cX7_readPerson 30 = .ok (.dup, 1) := by decide +kernel
theorem dX7_readPerson_31 : decode cX7_readPerson 31 = .ok (.getfield 40, 3) := by decide +kernel
theorem dX7_readPerson_34 : decode cX7_readPerson 34 = .ok (.iconst 1, 1) := by decide +kernel
theorem dX7_readPerson_35 : decode cX7_readPerson 35 = .ok (.iadd, 1) := by decide +kernel
theorem dX7_readPerson_36 : decode cX7_readPerson 36 = .ok (.putfield 40, 3) := by decide +kernel
theorem dX7_readPerson_39 : decode cX7_readPerson 39 = .ok (.return_, 1) := by decide +kernel
theorem dX7_readCrossed_0 : decode cX7_readCrossed 0 = .ok (.aload_n 1, 1) := by decide +kernel
theorem dX7_readCrossed_1 : decode cX7_readCrossed 1 = .ok (.iconst 0, 1) := by decide +kernel
theorem dX7_readCrossed_2 : decode cX7_readCrossed 2 = .ok (.aload_n 0, 1) := by decide +kernel
theorem dX7_readCrossed_3 : decode cX7_readCrossed 3 = .ok (.getfield 40, 3) := by decide +kernel
theorem dX7_readCrossed_6 : decode cX7_readCrossed 6 = .ok (.iconst 1, 1) := by decide +kernel
theorem dX7_readCrossed_7 : decode cX7_readCrossed 7 = .ok (.isub, 1) := by decide +kernel
theorem dX7_readCrossed_8 : decode cX7_readCrossed 8 = .ok (.invokevirtual 103, 3) := by decide +kernel
theorem dX7_readCrossed_11 : decode cX7_readCrossed 11 = .ok (.istore_n 2, 1) := by decide +kernel
theorem dX7_readCrossed_12 : decode cX7_readCrossed 12 = .ok (.aload_n 1, 1) := by decide +kernel
theorem dX7_readCrossed_13 : decode cX7_readCrossed 13 = .ok (.iconst 0, 1) := by decide +kernel
theorem dX7_readCrossed_14 : decode cX7_readCrossed 14 = .ok (.aload_n 0, 1) := by decide +kernel
theorem dX7_readCrossed_15 : decode cX7_readCrossed 15 = .ok (.getfield 23, 3) := by decide +kernel
theorem dX7_readCrossed_18 : decode cX7_readCrossed 18 = .ok (.getfield 129, 3) := by decide +kernel
theorem dX7_readCrossed_21 : decode cX7_readCrossed 21 = .ok (.iconst 1, 1) := by decide +kernel
theorem dX7_readCrossed_22 : decode cX7_readCrossed 22 = .ok (.isub, 1) := by decide +kernel
theorem dX7_readCrossed_23 : decode cX7_readCrossed 23 = .ok (.invokevirtual 103, 3) := by decide +kernel
theorem dX7_readCrossed_26 : decode cX7_readCrossed 26 = .ok (.istore_n 3, 1) := by decide +kernel
theorem dX7_readCrossed_27 : decode cX7_readCrossed 27 = .ok (.aload_n 1, 1) := by decide +kernel
theorem dX7_readCrossed_28 : decode cX7_readCrossed 28 = .ok (.iconst 0, 1) := by decide +kernel
theorem dX7_readCrossed_29 : decode cX7_readCrossed 29 = .ok (.aload_n 0, 1) := by decide +kernel
theorem dX7_readCrossed_30 : decode cX7_readCrossed 30 = .ok (.getfield 15, 3) := by decide +kernel
theorem dX7_readCrossed_33 : decode cX7_readCrossed 33 = .ok (.invokevirtual 103, 3) := by decide +kernel
theorem dX7_readCrossed_36 : decode cX7_readCrossed 36 = .ok (.istore 4, 2) := by decide +kernel
theorem dX7_readCrossed_38 : decode cX7_readCrossed 38 = .ok (.aload_n 1, 1) := by decide +kernel
theorem dX7_readCrossed_39 : decode cX7_readCrossed 39 = .ok (.getfield 80, 3) := by decide +kernel
theorem dX7_readCrossed_42 : decode cX7_readCrossed 42 = .ok (.ifCond .ne 16, 3) := by decide +kernel
theorem dX7_readCrossed_45 : decode cX7_readCrossed 45 = .ok (.aload_n 0, 1) := by decide +kernel
theorem dX7_readCrossed_46 : decode cX7_readCrossed 46 = .ok (.getfield 46, 3) := by decide +kernel
theorem dX7_readCrossed_49 : decode cX7_readCrossed 49 = .ok (.iload_n 2, 1) := by decide +kernel
theorem dX7_readCrossed_50 : decode cX7_readCrossed 50 = .ok (.bipush 9, 2) := by decide +kernel
theorem dX7_readCrossed_52 : decode cX7_readCrossed 52 = .ok (.imul, 1) := by decide +kernel
theorem dX7_readCrossed_53 : decode cX7_readCrossed 53 = .ok (.iload_n 3, 1) := by decide +kernel
theorem dX7_readCrossed_54 : decode cX7_readCrossed 54 = .ok (.iadd, 1) := by decide +kernel
theorem dX7_readCrossed_55 : decode cX7_readCrossed 55 = .ok (.iload 4, 2) := by decide +kernel
theorem dX7_readCrossed_57 : decode cX7_readCrossed 57 = .ok (.iastore, 1) := by decide +kernel
theorem dX7_readCrossed_58 : decode cX7_readCrossed 58 = .ok (.return_, 1) := by decide +kernel
theorem dX7_readWant_0 : decode cX7_readWant 0 = .ok (.aload_n 1, 1) := by decide +kernel
theorem dX7_readWant_1 : decode cX7_readWant 1 = .ok (.iconst 0, 1) := by decide +kernel
theorem dX7_readWant_2 : decode cX7_readWant 2 = .ok (.aload_n 0, 1) := by decide +kernel
theorem dX7_readWant_3 : decode cX7_readWant 3 = .ok (.getfield 40, 3) := by decide +kernel
theorem dX7_readWant_6 : decode cX7_readWant 6 = .ok (.iconst 1, 1) := by decide +kernel
theorem dX7_readWant_7 : decode cX7_readWant 7 = .ok (.isub, 1) := by decide +kernel
theorem dX7_readWant_8 : decode cX7_readWant 8 = .ok (.invokevirtual 103, 3) := by decide +kernel
theorem dX7_readWant_11 : decode cX7_readWant 11 = .ok (.istore_n 2, 1) := by decide +kernel
theorem dX7_readWant_12 : decode cX7_readWant 12 = .ok (.aload_n 1, 1) := by decide +kernel
theorem dX7_readWant_13 : decode cX7_readWant 13 = .ok (.iconst 0, 1) := by decide +kernel
theorem dX7_readWant_14 : decode cX7_readWant 14 = .ok (.aload_n 0, 1) := by decide +kernel
theorem dX7_readWant_15 : decode cX7_readWant 15 = .ok (.getfield 9, 3) := by decide +kernel
theorem dX7_readWant_18 : decode cX7_readWant 18 = .ok (.iconst 1, 1) := by decide +kernel
theorem dX7_readWant_19 : decode cX7_readWant 19 = .ok (.isub, 1) := by decide +kernel
theorem dX7_readWant_20 : decode cX7_readWant 20 = .ok (.invokevirtual 103, 3) := by decide +kernel
theorem dX7_readWant_23 : decode cX7_readWant 23 = .ok (.istore_n 3, 1) := by decide +kernel
theorem dX7_readWant_24 : decode cX7_readWant 24 = .ok (.aload_n 1, 1) := by decide +kernel
theorem dX7_readWant_25 : decode cX7_readWant 25 = .ok (.iconst 0, 1) := by decide +kernel
theorem dX7_readWant_26 : decode cX7_readWant 26 = .ok (.bipush 99, 2) := by decide +kernel
theorem dX7_readWant_28 : decode cX7_readWant 28 = .ok (.invokevirtual 103, 3) := by decide +kernel
theorem dX7_readWant_31 : decode cX7_readWant 31 = .ok (.istore 4, 2) := by decide +kernel
theorem dX7_readWant_33 : decode cX7_readWant 33 = .ok (.aload_n 1, 1) := by decide +kernel
theorem dX7_readWant_34 : decode cX7_readWant 34 = .ok (.iconst 1, 1) := by decide +kernel
theorem dX7_readWant_35 : decode cX7_readWant 35 = .ok (.bipush 50, 2) := by decide +kernel
theorem dX7_readWant_37 : decode cX7_readWant 37 = .ok (.invokevirtual 103, 3) := by decide +kernel
theorem dX7_readWant_40 : decode cX7_readWant 40 = .ok (.istore 5, 2) := by decide +kernel
theorem dX7_readWant_42 : decode cX7_readWant 42 = .ok (.aload_n 1, 1) := by decide +kernel
theorem dX7_readWant_43 : decode cX7_readWant 43 = .ok (.getfield 80, 3) := by decide +kernel
theorem dX7_readWant_46 : decode cX7_readWant 46 = .ok (.ifCond .ne 55, 3) := by decide +kernel
theorem dX7_readWant_49 : decode cX7_readWant 49 = .ok (.aload_n 0, 1) := by decide +kernel
theorem dX7_readWant_50 : decode cX7_readWant 50 = .ok (.getfield 52, 3) := by decide +kernel
theorem dX7_readWant_53 : decode cX7_readWant 53 = .ok (.aload_n 0, 1) := by decide +kernel
theorem dX7_readWant_54 : decode cX7_readWant 54 = .ok (.getfield 49, 3) := by decide +kernel
theorem dX7_readWant_57 : decode cX7_readWant 57 = .ok (.iload_n 2, 1) := by decide +kernel
theorem dX7_readWant_58 : decode cX7_readWant 58 = .ok (.iastore, 1) := by decide +kernel
theorem dX7_readWant_59 : decode cX7_readWant 59 = .ok (.aload_n 0, 1) := by decide +kernel
theorem dX7_readWant_60 : decode cX7_readWant 60 = .ok (.getfield 55, 3) := by decide +kernel
theorem dX7_readWant_63 : decode cX7_readWant 63 = .ok (.aload_n 0, 1) := by decide +kernel
theorem dX7_readWant_64 : decode cX7_readWant 64 = .ok (.getfield 49, 3) := by decide +kernel
theorem dX7_readWant_67 : decode cX7_readWant 67 = .ok (.iload_n 3, 1) := by decide +kernel
theorem dX7_readWant_68 : decode cX7_readWant 68 = .ok (.iastore, 1) := by decide +kernel
theorem dX7_readWant_69 : decode cX7_readWant 69 = .ok (.aload_n 0, 1) := by decide +kernel
theorem dX7_readWant_70 : decode cX7_readWant 70 = .ok (.getfield 58, 3) := by decide +kernel
theorem dX7_readWant_73 : decode cX7_readWant 73 = .ok (.aload_n 0, 1) := by decide +kernel
theorem dX7_readWant_74 : decode cX7_readWant 74 = .ok (.getfield 49, 3) := by decide +kernel
theorem dX7_readWant_77 : decode cX7_readWant 77 = .ok (.iload 4, 2) := by decide +kernel
theorem dX7_readWant_79 : decode cX7_readWant 79 = .ok (.iastore, 1) := by decide +kernel
theorem dX7_readWant_80 : decode cX7_readWant 80 = .ok (.aload_n 0, 1) := by decide +kernel
theorem dX7_readWant_81 : decode cX7_readWant 81 = .ok (.getfield 61, 3) := by decide +kernel
theorem dX7_readWant_84 : decode cX7_readWant 84 = .ok (.aload_n 0, 1) := by decide +kernel
theorem dX7_readWant_85 : decode cX7_readWant 85 = .ok (.getfield 49, 3) := by decide +kernel
theorem dX7_readWant_88 : decode cX7_readWant 88 = .ok (.iload 5, 2) := by decide +kernel
theorem dX7_readWant_90 : decode cX7_readWant 90 = .ok (.iastore, 1) := by decide +kernel
theorem dX7_readWant_91 : decode cX7_readWant 91 = .ok (.aload_n 0, 1) := by decide +kernel
theorem dX7_readWant_92 : decode cX7_readWant 92 = .ok (.dup, 1) := by decide +kernel
theorem dX7_readWant_93 : decode cX7_readWant 93 = .ok (.getfield 49, 3) := by decide +kernel
theorem dX7_readWant_96 : decode cX7_readWant 96 = .ok (.iconst 1, 1) := by decide +kernel
theorem dX7_readWant_97 : decode cX7_readWant 97 = .ok (.iadd, 1) := by decide +kernel
theorem dX7_readWant_98 : decode cX7_readWant 98 = .ok (.putfield 49, 3) := by decide +kernel
theorem dX7_readWant_101 : decode cX7_readWant 101 = .ok (.return_, 1) := by decide +kernel
theorem dX7_findSteps_0 : decode cX7_findSteps 0 = .ok (.aload_n 0, 1) := by decide +kernel
theorem dX7_findSteps_1 : decode cX7_findSteps 1 = .ok (.getfield 64, 3) := by decide +kernel
theorem dX7_findSteps_4 : decode cX7_findSteps 4 = .ok (.bipush 99, 2) := by decide +kernel
theorem dX7_findSteps_6 : decode cX7_findSteps 6 = .ok (.invokestatic 132, 3) := by decide +kernel
theorem dX7_findSteps_9 : decode cX7_findSteps 9 = .ok (.iconst 0, 1) := by decide +kernel
theorem dX7_findSteps_10 : decode cX7_findSteps 10 = .ok (.istore_n 1, 1) := by decide +kernel
theorem dX7_findSteps_11 : decode cX7_findSteps 11 = .ok (.iload_n 1, 1) := by decide +kernel
theorem dX7_findSteps_12 : decode cX7_findSteps 12 = .ok (.aload_n 0, 1) := by decide +kernel
theorem dX7_findSteps_13 : decode cX7_findSteps 13 = .ok (.getfield 9, 3) := by decide +kernel
theorem dX7_findSteps_16 : decode cX7_findSteps 16 = .ok (.if_icmp .ge 102, 3) := by decide +kernel
theorem dX7_findSteps_19 : decode cX7_findSteps 19 = .ok (.aload_n 0, 1) := by decide +kernel
theorem dX7_findSteps_20 : decode cX7_findSteps 20 = .ok (.getfield 64, 3) := by decide +kernel
theorem dX7_findSteps_23 : decode cX7_findSteps 23 = .ok (.iload_n 1, 1) := by decide +kernel
theorem dX7_findSteps_24 : decode cX7_findSteps 24 = .ok (.bipush 8, 2) := by decide +kernel
theorem dX7_findSteps_26 : decode cX7_findSteps 26 = .ok (.imul, 1) := by decide +kernel
theorem dX7_findSteps_27 : decode cX7_findSteps 27 = .ok (.iload_n 1, 1) := by decide +kernel
theorem dX7_findSteps_28 : decode cX7_findSteps 28 = .ok (.iadd, 1) := by decide +kernel
theorem dX7_findSteps_29 : decode cX7_findSteps 29 = .ok (.iconst 0, 1) := by decide +kernel
theorem dX7_findSteps_30 : decode cX7_findSteps 30 = .ok (.iastore, 1) := by decide +kernel
theorem dX7_findSteps_31 : decode cX7_findSteps 31 = .ok (.iconst 1, 1) := by decide +kernel
theorem dX7_findSteps_32 : decode cX7_findSteps 32 = .ok (.istore_n 2, 1) := by decide +kernel
theorem dX7_findSteps_33 : decode cX7_findSteps 33 = .ok (.iload_n 2, 1) := by decide +kernel
theorem dX7_findSteps_34 : decode cX7_findSteps 34 = .ok (.aload_n 0, 1) := by decide +kernel
theorem dX7_findSteps_35 : decode cX7_findSteps 35 = .ok (.getfield 9, 3) := by decide +kernel
theorem dX7_findSteps_38 : decode cX7_findSteps 38 = .ok (.if_icmp .ge 74, 3) := by decide +kernel
theorem dX7_findSteps_41 : decode cX7_findSteps 41 = .ok (.iconst 0, 1) := by decide +kernel
theorem dX7_findSteps_42 : decode cX7_findSteps 42 = .ok (.istore_n 3, 1) := by decide +kernel
theorem dX7_findSteps_43 : decode cX7_findSteps 43 = .ok (.iload_n 3, 1) := by decide +kernel
theorem dX7_findSteps_44 : decode cX7_findSteps 44 = .ok (.aload_n 0, 1) := by decide +kernel
theorem dX7_findSteps_45 : decode cX7_findSteps 45 = .ok (.getfield 23, 3) := by decide +kernel
theorem dX7_findSteps_48 : decode cX7_findSteps 48 = .ok (.getfield 129, 3) := by decide +kernel
theorem dX7_findSteps_51 : decode cX7_findSteps 51 = .ok (.if_icmp .ge 55, 3) := by decide +kernel
theorem dX7_findSteps_54 : decode cX7_findSteps 54 = .ok (.aload_n 0, 1) := by decide +kernel
theorem dX7_findSteps_55 : decode cX7_findSteps 55 = .ok (.iload_n 1, 1) := by decide +kernel
theorem dX7_findSteps_56 : decode cX7_findSteps 56 = .ok (.aload_n 0, 1) := by decide +kernel
theorem dX7_findSteps_57 : decode cX7_findSteps 57 = .ok (.getfield 23, 3) := by decide +kernel
theorem dX7_findSteps_60 : decode cX7_findSteps 60 = .ok (.getfield 138, 3) := by decide +kernel
theorem dX7_findSteps_63 : decode cX7_findSteps 63 = .ok (.iload_n 3, 1) := by decide +kernel
theorem dX7_findSteps_64 : decode cX7_findSteps 64 = .ok (.iaload, 1) := by decide +kernel
theorem dX7_findSteps_65 : decode cX7_findSteps 65 = .ok (.aload_n 0, 1) := by decide +kernel
theorem dX7_findSteps_66 : decode cX7_findSteps 66 = .ok (.getfield 23, 3) := by decide +kernel
theorem dX7_findSteps_69 : decode cX7_findSteps 69 = .ok (.getfield 141, 3) := by decide +kernel
theorem dX7_findSteps_72 : decode cX7_findSteps 72 = .ok (.iload_n 3, 1) := by decide +kernel
theorem dX7_findSteps_73 : decode cX7_findSteps 73 = .ok (.iaload, 1) := by decide +kernel
theorem dX7_findSteps_74 : decode cX7_findSteps 74 = .ok (.invokevirtual 144, 3) := by decide +kernel
theorem dX7_findSteps_77 : decode cX7_findSteps 77 = .ok (.aload_n 0, 1) := by decide +kernel
theorem dX7_findSteps_78 : decode cX7_findSteps 78 = .ok (.iload_n 1, 1) := by decide +kernel
theorem dX7_findSteps_79 : decode cX7_findSteps 79 = .ok (.aload_n 0, 1) := by decide +kernel
theorem dX7_findSteps_80 : decode cX7_findSteps 80 = .ok (.getfield 23, 3) := by decide +kernel
theorem dX7_findSteps_83 : decode cX7_findSteps 83 = .ok (.getfield 141, 3) := by decide +kernel
theorem dX7_findSteps_86 : decode cX7_findSteps 86 = .ok (.iload_n 3, 1) := by decide +kernel
theorem dX7_findSteps_87 : decode cX7_findSteps 87 = .ok (.iaload, 1) := by decide +kernel
theorem dX7_findSteps_88 : decode cX7_findSteps 88 = .ok (.aload_n 0, 1) := by decide +kernel
theorem dX7_findSteps_89 : decode cX7_findSteps 89 = .ok (.getfield 23, 3) := by decide +kernel
theorem dX7_findSteps_92 : decode cX7_findSteps 92 = .ok (.getfield 138, 3) := by decide +kernel
theorem dX7_findSteps_95 : decode cX7_findSteps 95 = .ok (.iload_n 3, 1) := by decide +kernel
theorem dX7_findSteps_96 : decode cX7_findSteps 96 = .ok (.iaload, 1) := by decide +kernel
theorem dX7_findSteps_97 : decode cX7_findSteps 97 = .ok (.invokevirtual 144, 3) := by decide +kernel
theorem dX7_findSteps_100 : decode cX7_findSteps 100 = .ok (.iinc 3 1, 3) := by decide +kernel
theorem dX7_findSteps_103 : decode cX7_findSteps 103 = .ok (.goto (-60), 3) := by decide +kernel
theorem dX7_findSteps_106 : decode cX7_findSteps 106 = .ok (.iinc 2 1, 3) := by decide +kernel
theorem dX7_findSteps_109 : decode cX7_findSteps 109 = .ok (.goto (-76), 3) := by decide +kernel
theorem dX7_findSteps_112 : decode cX7_findSteps 112 = .ok (.iinc 1 1, 3) := by decide +kernel
theorem dX7_findSteps_115 : decode cX7_findSteps 115 = .ok (.goto (-104), 3) := by decide +kernel
theorem dX7_findSteps_118 : decode cX7_findSteps 118 = .ok (.return_, 1) := by decide +kernel
theorem dX7_shorten_0 : decode cX7_shorten 0 = .ok (.iload_n 1, 1) := by decide +kernel
theorem dX7_shorten_1 : decode cX7_shorten 1 = .ok (.bipush 8, 2) := by decide +kernel
theorem dX7_shorten_3 : decode cX7_shorten 3 = .ok (.imul, 1) := by decide +kernel
theorem dX7_shorten_4 : decode cX7_shorten 4 = .ok (.istore 4, 2) := by decide +kernel
theorem dX7_shorten_6 : decode cX7_shorten 6 = .ok (.aload_n 0, 1) := by decide +kernel
theorem dX7_shorten_7 : decode cX7_shorten 7 = .ok (.getfield 64, 3) := by decide +kernel
theorem dX7_shorten_10 : decode cX7_shorten 10 = .ok (.iload 4, 2) := by decide +kernel
theorem dX7_shorten_12 : decode cX7_shorten 12 = .ok (.iload_n 2, 1) := by decide +kernel
theorem dX7_shorten_13 : decode cX7_shorten 13 = .ok (.iadd, 1) := by decide +kernel
theorem dX7_shorten_14 : decode cX7_shorten 14 = .ok (.iaload, 1) := by decide +kernel
theorem dX7_shorten_15 : decode cX7_shorten 15 = .ok (.iconst 1, 1) := by decide +kernel
theorem dX7_shorten_16 : decode cX7_shorten 16 = .ok (.iadd, 1) := by decide +kernel
theorem dX7_shorten_17 : decode cX7_shorten 17 = .ok (.aload_n 0, 1) := by decide +kernel
theorem dX7_shorten_18 : decode cX7_shorten 18 = .ok (.getfield 64, 3) := by decide +kernel
theorem dX7_shorten_21 : decode cX7_shorten 21 = .ok (.iload 4, 2) := by decide +kernel
theorem dX7_shorten_23 : decode cX7_shorten 23 = .ok (.iload_n 3, 1) := by decide +kernel
theorem dX7_shorten_24 : decode cX7_shorten 24 = .ok (.iadd, 1) := by decide +kernel
theorem dX7_shorten_25 : decode cX7_shorten 25 = .ok (.iaload, 1) := by decide +kernel
theorem dX7_shorten_26 : decode cX7_shorten 26 = .ok (.if_icmp .ge 23, 3) := by decide +kernel
theorem dX7_shorten_29 : decode cX7_shorten 29 = .ok (.aload_n 0, 1) := by decide +kernel
theorem dX7_shorten_30 : decode cX7_shorten 30 = .ok (.getfield 64, 3) := by decide +kernel
theorem dX7_shorten_33 : decode cX7_shorten 33 = .ok (.iload 4, 2) := by decide +kernel
theorem dX7_shorten_35 : decode cX7_shorten 35 = .ok (.iload_n 3, 1) := by decide +kernel
theorem dX7_shorten_36 : decode cX7_shorten 36 = .ok (.iadd, 1) := by decide +kernel
theorem dX7_shorten_37 : decode cX7_shorten 37 = .ok (.aload_n 0, 1) := by decide +kernel
theorem dX7_shorten_38 : decode cX7_shorten 38 = .ok (.getfield 64, 3) := by decide +kernel
theorem dX7_shorten_41 : decode cX7_shorten 41 = .ok (.iload 4, 2) := by decide +kernel
theorem dX7_shorten_43 : decode cX7_shorten 43 = .ok (.iload_n 2, 1) := by decide +kernel
theorem dX7_shorten_44 : decode cX7_shorten 44 = .ok (.iadd, 1) := by decide +kernel
theorem dX7_shorten_45 : decode cX7_shorten 45 = .ok (.iaload, 1) := by decide +kernel
theorem dX7_shorten_46 : decode cX7_shorten 46 = .ok (.iconst 1, 1) := by decide +kernel
theorem dX7_shorten_47 : decode cX7_shorten 47 = .ok (.iadd, 1) := by decide +kernel
theorem dX7_shorten_48 : decode cX7_shorten 48 = .ok (.iastore, 1) := by decide +kernel
theorem dX7_shorten_49 : decode cX7_shorten 49 = .ok (.return_, 1) := by decide +kernel
theorem dX7_nearer_0 : decode cX7_nearer 0 = .ok (.aload_n 0, 1) := by decide +kernel
theorem dX7_nearer_1 : decode cX7_nearer 1 = .ok (.getfield 64, 3) := by decide +kernel
theorem dX7_nearer_4 : decode cX7_nearer 4 = .ok (.iload_n 1, 1) := by decide +kernel
theorem dX7_nearer_5 : decode cX7_nearer 5 = .ok (.bipush 8, 2) := by decide +kernel
theorem dX7_nearer_7 : decode cX7_nearer 7 = .ok (.imul, 1) := by decide +kernel
theorem dX7_nearer_8 : decode cX7_nearer 8 = .ok (.iload_n 3, 1) := by decide +kernel
theorem dX7_nearer_9 : decode cX7_nearer 9 = .ok (.iadd, 1) := by decide +kernel
theorem dX7_nearer_10 : decode cX7_nearer 10 = .ok (.iaload, 1) := by decide +kernel
theorem dX7_nearer_11 : decode cX7_nearer 11 = .ok (.istore 4, 2) := by decide +kernel
theorem dX7_nearer_13 : decode cX7_nearer 13 = .ok (.iload 4, 2) := by decide +kernel
theorem dX7_nearer_15 : decode cX7_nearer 15 = .ok (.bipush 99, 2) := by decide +kernel
theorem dX7_nearer_17 : decode cX7_nearer 17 = .ok (.if_icmp .ne 8, 3) := by decide +kernel
theorem dX7_nearer_20 : decode cX7_nearer 20 = .ok (.bipush 99, 2) := by decide +kernel
theorem dX7_nearer_22 : decode cX7_nearer 22 = .ok (.goto 17, 3) := by decide +kernel
theorem dX7_nearer_25 : decode cX7_nearer 25 = .ok (.iload 4, 2) := by decide +kernel
theorem dX7_nearer_27 : decode cX7_nearer 27 = .ok (.aload_n 0, 1) := by decide +kernel
theorem dX7_nearer_28 : decode cX7_nearer 28 = .ok (.getfield 64, 3) := by decide +kernel
theorem dX7_nearer_31 : decode cX7_nearer 31 = .ok (.iload_n 2, 1) := by decide +kernel
theorem dX7_nearer_32 : decode cX7_nearer 32 = .ok (.bipush 8, 2) := by decide +kernel
theorem dX7_nearer_34 : decode cX7_nearer 34 = .ok (.imul, 1) := by decide +kernel
theorem dX7_nearer_35 : decode cX7_nearer 35 = .ok (.iload_n 3, 1) := by decide +kernel
theorem dX7_nearer_36 : decode cX7_nearer 36 = .ok (.iadd, 1) := by decide +kernel
theorem dX7_nearer_37 : decode cX7_nearer 37 = .ok (.iaload, 1) := by decide +kernel
theorem dX7_nearer_38 : decode cX7_nearer 38 = .ok (.isub, 1) := by decide +kernel
theorem dX7_nearer_39 : decode cX7_nearer 39 = .ok (.ireturn, 1) := by decide +kernel
theorem dX8_init_0 : decode cX8_init 0 = .ok (.aload_n 0, 1) := by decide +kernel
theorem dX8_init_1 : decode cX8_init 1 = .ok (.invokespecial 3, 3) := by decide +kernel
theorem dX8_init_4 : decode cX8_init 4 = .ok (.aload_n 0, 1) := by decide +kernel
theorem dX8_init_5 : decode cX8_init 5 = .ok (.bipush 9, 2) := by decide +kernel
theorem dX8_init_7 : decode cX8_init 7 = .ok (.newarray .int, 2) := by decide +kernel
theorem dX8_init_9 : decode cX8_init 9 = .ok (.putfield 9, 3) := by decide +kernel
theorem dX8_init_12 : decode cX8_init 12 = .ok (.aload_n 0, 1) := by decide +kernel
theorem dX8_init_13 : decode cX8_init 13 = .ok (.iconst 0, 1) := by decide +kernel
theorem dX8_init_14 : decode cX8_init 14 = .ok (.putfield 15, 3) := by decide +kernel
theorem dX8_init_17 : decode cX8_init 17 = .ok (.aload_n 0, 1) := by decide +kernel
theorem dX8_init_18 : decode cX8_init 18 = .ok (.iconst 0, 1) := by decide +kernel
theorem dX8_init_19 : decode cX8_init 19 = .ok (.putfield 19, 3) := by decide +kernel
theorem dX8_init_22 : decode cX8_init 22 = .ok (.aload_n 0, 1) := by decide +kernel
theorem dX8_init_23 : decode cX8_init 23 = .ok (.aload_n 1, 1) := by decide +kernel
theorem dX8_init_24 : decode cX8_init 24 = .ok (.putfield 22, 3) := by decide +kernel
theorem dX8_init_27 : decode cX8_init 27 = .ok (.return_, 1) := by decide +kernel
theorem dX8_start_0 : decode cX8_start 0 = .ok (.aload_n 0, 1) := by decide +kernel
theorem dX8_start_1 : decode cX8_start 1 = .ok (.aload_n 1, 1) := by decide +kernel
theorem dX8_start_2 : decode cX8_start 2 = .ok (.getfield 26, 3) := by decide +kernel
theorem dX8_start_5 : decode cX8_start 5 = .ok (.getfield 32, 3) := by decide +kernel
theorem dX8_start_8 : decode cX8_start 8 = .ok (.putfield 22, 3) := by decide +kernel
theorem dX8_start_11 : decode cX8_start 11 = .ok (.aload_n 1, 1) := by decide +kernel
theorem dX8_start_12 : decode cX8_start 12 = .ok (.iload_n 2, 1) := by decide +kernel
theorem dX8_start_13 : decode cX8_start 13 = .ok (.aload_n 0, 1) := by decide +kernel
theorem dX8_start_14 : decode cX8_start 14 = .ok (.getfield 9, 3) := by decide +kernel
theorem dX8_start_17 : decode cX8_start 17 = .ok (.invokevirtual 35, 3) := by decide +kernel
theorem dX8_start_20 : decode cX8_start 20 = .ok (.aload_n 0, 1) := by decide +kernel
theorem dX8_start_21 : decode cX8_start 21 = .ok (.iconst 0, 1) := by decide +kernel
theorem dX8_start_22 : decode cX8_start 22 = .ok (.putfield 15, 3) := by decide +kernel
theorem dX8_start_25 : decode cX8_start 25 = .ok (.aload_n 0, 1) := by decide +kernel
theorem dX8_start_26 : decode cX8_start 26 = .ok (.aload_n 1, 1) := by decide +kernel
theorem dX8_start_27 : decode cX8_start 27 = .ok (.getfield 39, 3) := by decide +kernel
theorem dX8_start_30 : decode cX8_start 30 = .ok (.iload_n 2, 1) := by decide +kernel
theorem dX8_start_31 : decode cX8_start 31 = .ok (.iaload, 1) := by decide +kernel
theorem dX8_start_32 : decode cX8_start 32 = .ok (.putfield 19, 3) := by decide +kernel
theorem dX8_start_35 : decode cX8_start 35 = .ok (.aload_n 0, 1) := by decide +kernel
theorem dX8_start_36 : decode cX8_start 36 = .ok (.iconst 0, 1) := by decide +kernel
theorem dX8_start_37 : decode cX8_start 37 = .ok (.aload_n 0, 1) := by decide +kernel
theorem dX8_start_38 : decode cX8_start 38 = .ok (.getfield 19, 3) := by decide +kernel
theorem dX8_start_41 : decode cX8_start 41 = .ok (.invokevirtual 42, 3) := by decide +kernel
theorem dX8_start_44 : decode cX8_start 44 = .ok (.return_, 1) := by decide +kernel
theorem dX8_follow_0 : decode cX8_follow 0 = .ok (.iload_n 1, 1) := by decide +kernel
theorem dX8_follow_1 : decode cX8_follow 1 = .ok (.aload_n 0, 1) := by decide +kernel
theorem dX8_follow_2 : decode cX8_follow 2 = .ok (.getfield 15, 3) := by decide +kernel
theorem dX8_follow_5 : decode cX8_follow 5 = .ok (.if_icmp .le 13, 3) := by decide +kernel
theorem dX8_follow_8 : decode cX8_follow 8 = .ok (.aload_n 0, 1) := by decide +kernel
theorem dX8_follow_9 : decode cX8_follow 9 = .ok (.iload_n 1, 1) := by decide +kernel
theorem dX8_follow_10 : decode cX8_follow 10 = .ok (.putfield 15, 3) := by decide +kernel
theorem dX8_follow_13 : decode cX8_follow 13 = .ok (.aload_n 0, 1) := by decide +kernel
theorem dX8_follow_14 : decode cX8_follow 14 = .ok (.iload_n 2, 1) := by decide +kernel
theorem dX8_follow_15 : decode cX8_follow 15 = .ok (.putfield 19, 3) := by decide +kernel
theorem dX8_follow_18 : decode cX8_follow 18 = .ok (.iload_n 1, 1) := by decide +kernel
theorem dX8_follow_19 : decode cX8_follow 19 = .ok (.bipush 8, 2) := by decide +kernel
theorem dX8_follow_21 : decode cX8_follow 21 = .ok (.if_icmp .lt 4, 3) := by decide +kernel
theorem dX8_follow_24 : decode cX8_follow 24 = .ok (.return_, 1) := by decide +kernel
theorem dX8_follow_25 : decode cX8_follow 25 = .ok (.iconst 0, 1) := by decide +kernel
theorem dX8_follow_26 : decode cX8_follow 26 = .ok (.istore_n 3, 1) := by decide +kernel
theorem dX8_follow_27 : decode cX8_follow 27 = .ok (.iload_n 3, 1) := by decide +kernel
theorem dX8_follow_28 : decode cX8_follow 28 = .ok (.aload_n 0, 1) := by decide +kernel
theorem dX8_follow_29 : decode cX8_follow 29 = .ok (.getfield 22, 3) := by decide +kernel
theorem dX8_follow_32 : decode cX8_follow 32 = .ok (.getfield 46, 3) := by decide +kernel
theorem dX8_follow_35 : decode cX8_follow 35 = .ok (.if_icmp .ge 79, 3) := by decide +kernel
theorem dX8_follow_38 : decode cX8_follow 38 = .ok (.aload_n 0, 1) := by decide +kernel
theorem dX8_follow_39 : decode cX8_follow 39 = .ok (.getfield 15, 3) := by decide +kernel
theorem dX8_follow_42 : decode cX8_follow 42 = .ok (.bipush 8, 2) := by decide +kernel
theorem dX8_follow_44 : decode cX8_follow 44 = .ok (.if_icmp .ge 70, 3) := by decide +kernel
theorem dX8_follow_47 : decode cX8_follow 47 = .ok (.aload_n 0, 1) := by decide +kernel
theorem dX8_follow_48 : decode cX8_follow 48 = .ok (.getfield 22, 3) := by decide +kernel
theorem dX8_follow_51 : decode cX8_follow 51 = .ok (.iload_n 3, 1) := by decide +kernel
theorem dX8_follow_52 : decode cX8_follow 52 = .ok (.iload_n 2, 1) := by decide +kernel
theorem dX8_follow_53 : decode cX8_follow 53 = .ok (.invokevirtual 51, 3) := by decide +kernel
theorem dX8_follow_56 : decode cX8_follow 56 = .ok (.istore 4, 2) := by decide +kernel
theorem dX8_follow_58 : decode cX8_follow 58 = .ok (.iload 4, 2) := by decide +kernel
theorem dX8_follow_60 : decode cX8_follow 60 = .ok (.iconst (-1), 1) := by decide +kernel
theorem dX8_follow_61 : decode cX8_follow 61 = .ok (.if_icmp .eq 47, 3) := by decide +kernel
theorem dX8_follow_64 : decode cX8_follow 64 = .ok (.aload_n 0, 1) := by decide +kernel
theorem dX8_follow_65 : decode cX8_follow 65 = .ok (.getfield 22, 3) := by decide +kernel
theorem dX8_follow_68 : decode cX8_follow 68 = .ok (.iload_n 3, 1) := by decide +kernel
theorem dX8_follow_69 : decode cX8_follow 69 = .ok (.aload_n 0, 1) := by decide +kernel
theorem dX8_follow_70 : decode cX8_follow 70 = .ok (.getfield 9, 3) := by decide +kernel
theorem dX8_follow_73 : decode cX8_follow 73 = .ok (.invokevirtual 55, 3) := by decide +kernel
theorem dX8_follow_76 : decode cX8_follow 76 = .ok (.ifCond .eq 32, 3) := by decide +kernel
theorem dX8_follow_79 : decode cX8_follow 79 = .ok (.aload_n 0, 1) := by decide +kernel
theorem dX8_follow_80 : decode cX8_follow 80 = .ok (.getfield 9, 3) := by decide +kernel
theorem dX8_follow_83 : decode cX8_follow 83 = .ok (.iload_n 3, 1) := by decide +kernel
theorem dX8_follow_84 : decode cX8_follow 84 = .ok (.dup2, 1) := by decide +kernel
theorem dX8_follow_85 : decode cX8_follow 85 = .ok (.iaload, 1) := by decide +kernel
theorem dX8_follow_86 : decode cX8_follow 86 = .ok (.iconst 1, 1) := by decide +kernel
theorem dX8_follow_87 : decode cX8_follow 87 = .ok (.isub, 1) := by decide +kernel
theorem dX8_follow_88 : decode cX8_follow 88 = .ok (.iastore, 1) := by decide +kernel
theorem dX8_follow_89 : decode cX8_follow 89 = .ok (.aload_n 0, 1) := by decide +kernel
theorem dX8_follow_90 : decode cX8_follow 90 = .ok (.iload_n 1, 1) := by decide +kernel
theorem dX8_follow_91 : decode cX8_follow 91 = .ok (.iconst 1, 1) := by decide +kernel
theorem dX8_follow_92 : decode cX8_follow 92 = .ok (.iadd, 1) := by decide +kernel
theorem dX8_follow_93 : decode cX8_follow 93 = .ok (.iload 4, 2) := by decide +kernel
theorem dX8_follow_95 : decode cX8_follow 95 = .ok (.invokevirtual 42, 3) := by decide +kernel
theorem dX8_follow_98 : decode cX8_follow 98 = .ok (.aload_n 0, 1) := by decide +kernel
theorem dX8_follow_99 : decode cX8_follow 99 = .ok (.getfield 9, 3) := by decide +kernel
theorem dX8_follow_102 : decode cX8_follow 102 = .ok (.iload_n 3, 1) := by decide +kernel
theorem dX8_follow_103 : decode cX8_follow 103 = .ok (.dup2, 1) := by decide +kernel
theorem dX8_follow_104 : decode cX8_follow 104 = .ok (.iaload, 1) := by decide +kernel
theorem dX8_follow_105 : decode cX8_follow 105 = .ok (.iconst 1, 1) := by decide +kernel
theorem dX8_follow_106 : decode cX8_follow 106 = .ok (.iadd, 1) := by decide +kernel
theorem dX8_follow_107 : decode cX8_follow 107 = .ok (.iastore, 1) := by decide +kernel
theorem dX8_follow_108 : decode cX8_follow 108 = .ok (.iinc 3 1, 3) := by decide +kernel
theorem dX8_follow_111 : decode cX8_follow 111 = .ok (.goto (-84), 3) := by decide +kernel
theorem dX8_follow_114 : decode cX8_follow 114 = .ok (.return_, 1) := by decide +kernel
theorem dX9_init_0 : decode cX9_init 0 = .ok (.aload_n 0, 1) := by decide +kernel
theorem dX9_init_1 : decode cX9_init 1 = .ok (.invokespecial 1, 3) := by decide +kernel
theorem dX9_init_4 : decode cX9_init 4 = .ok (.aload_n 0, 1) := by decide +kernel
theorem dX9_init_5 : decode cX9_init 5 = .ok (.new 7, 3) := by decide +kernel
theorem dX9_init_8 : decode cX9_init 8 = .ok (.dup, 1) := by decide +kernel
theorem dX9_init_9 : decode cX9_init 9 = .ok (.invokespecial 9, 3) := by decide +kernel
theorem dX9_init_12 : decode cX9_init 12 = .ok (.putfield 10, 3) := by decide +kernel
theorem dX9_init_15 : decode cX9_init 15 = .ok (.aload_n 0, 1) := by decide +kernel
theorem dX9_init_16 : decode cX9_init 16 = .ok (.bipush 6, 2) := by decide +kernel
theorem dX9_init_18 : decode cX9_init 18 = .ok (.anewarray 16, 3) := by decide +kernel
theorem dX9_init_21 : decode cX9_init 21 = .ok (.putfield 18, 3) := by decide +kernel
theorem dX9_init_24 : decode cX9_init 24 = .ok (.aload_n 0, 1) := by decide +kernel
theorem dX9_init_25 : decode cX9_init 25 = .ok (.iconst 0, 1) := by decide +kernel
theorem dX9_init_26 : decode cX9_init 26 = .ok (.putfield 22, 3) := by decide +kernel
theorem dX9_init_29 : decode cX9_init 29 = .ok (.aload_n 0, 1) := by decide +kernel
theorem dX9_init_30 : decode cX9_init 30 = .ok (.bipush 20, 2) := by decide +kernel
theorem dX9_init_32 : decode cX9_init 32 = .ok (.anewarray 26, 3) := by decide +kernel
theorem dX9_init_35 : decode cX9_init 35 = .ok (.putfield 28, 3) := by decide +kernel
theorem dX9_init_38 : decode cX9_init 38 = .ok (.aload_n 0, 1) := by decide +kernel
theorem dX9_init_39 : decode cX9_init 39 = .ok (.iconst 0, 1) := by decide +kernel
theorem dX9_init_40 : decode cX9_init 40 = .ok (.putfield 32, 3) := by decide +kernel
theorem dX9_init_43 : decode cX9_init 43 = .ok (.aload_n 0, 1) := by decide +kernel
theorem dX9_init_44 : decode cX9_init 44 = .ok (.iconst 0, 1) := by decide +kernel
theorem dX9_init_45 : decode cX9_init 45 = .ok (.putfield 35, 3) := by decide +kernel
theorem dX9_init_48 : decode cX9_init 48 = .ok (.aload_n 0, 1) := by decide +kernel
theorem dX9_init_49 : decode cX9_init 49 = .ok (.iconst 4, 1) := by decide +kernel
theorem dX9_init_50 : decode cX9_init 50 = .ok (.anewarray 38, 3) := by decide +kernel
theorem dX9_init_53 : decode cX9_init 53 = .ok (.putfield 40, 3) := by decide +kernel
theorem dX9_init_56 : decode cX9_init 56 = .ok (.aload_n 0, 1) := by decide +kernel
theorem dX9_init_57 : decode cX9_init 57 = .ok (.lconst 0, 1) := by decide +kernel
theorem dX9_init_58 : decode cX9_init 58 = .ok (.putfield 44, 3) := by decide +kernel
theorem dX9_init_61 : decode cX9_init 61 = .ok (.aload_n 0, 1) := by decide +kernel
theorem dX9_init_62 : decode cX9_init 62 = .ok (.bipush 12, 2) := by decide +kernel
theorem dX9_init_64 : decode cX9_init 64 = .ok (.newarray .long, 2) := by decide +kernel
theorem dX9_init_66 : decode cX9_init 66 = .ok (.putfield 48, 3) := by decide +kernel
theorem dX9_init_69 : decode cX9_init 69 = .ok (.aload_n 0, 1) := by decide +kernel
theorem dX9_init_70 : decode cX9_init 70 = .ok (.bipush 8, 2) := by decide +kernel
theorem dX9_init_72 : decode cX9_init 72 = .ok (.newarray .int, 2) := by decide +kernel
theorem dX9_init_74 : decode cX9_init 74 = .ok (.putfield 52, 3) := by decide +kernel
theorem dX9_init_77 : decode cX9_init 77 = .ok (.aload_n 0, 1) := by decide +kernel
theorem dX9_init_78 : decode cX9_init 78 = .ok (.bipush 8, 2) := by decide +kernel
theorem dX9_init_80 : decode cX9_init 80 = .ok (.newarray .int, 2) := by decide +kernel
theorem dX9_init_82 : decode cX9_init 82 = .ok (.putfield 56, 3) := by decide +kernel
theorem dX9_init_85 : decode cX9_init 85 = .ok (.aload_n 0, 1) := by decide +kernel
theorem dX9_init_86 : decode cX9_init 86 = .ok (.iconst 4, 1) := by decide +kernel
theorem dX9_init_87 : decode cX9_init 87 = .ok (.newarray .int, 2) := by decide +kernel
theorem dX9_init_89 : decode cX9_init 89 = .ok (.putfield 59, 3) := by decide +kernel
theorem dX9_init_92 : decode cX9_init 92 = .ok (.aload_n 0, 1) := by decide +kernel
theorem dX9_init_93 : decode cX9_init 93 = .ok (.iconst 4, 1) := by decide +kernel
theorem dX9_init_94 : decode cX9_init 94 = .ok (.newarray .int, 2) := by decide +kernel
theorem dX9_init_96 : decode cX9_init 96 = .ok (.putfield 62, 3) := by decide +kernel
theorem dX9_init_99 : decode cX9_init 99 = .ok (.new 65, 3) := by decide +kernel
theorem dX9_init_102 : decode cX9_init 102 = .ok (.dup, 1) := by decide +kernel
theorem dX9_init_103 : decode cX9_init 103 = .ok (.invokespecial 67, 3) := by decide +kernel
theorem dX9_init_106 : decode cX9_init 106 = .ok (.astore_n 1, 1) := by decide +kernel
theorem dX9_init_107 : decode cX9_init 107 = .ok (.aload_n 0, 1) := by decide +kernel
theorem dX9_init_108 : decode cX9_init 108 = .ok (.new 26, 3) := by decide +kernel
theorem dX9_init_111 : decode cX9_init 111 = .ok (.dup, 1) := by decide +kernel
theorem dX9_init_112 : decode cX9_init 112 = .ok (.aload_n 1, 1) := by decide +kernel
theorem dX9_init_113 : decode cX9_init 113 = .ok (.invokespecial 68, 3) := by decide +kernel
theorem dX9_init_116 : decode cX9_init 116 = .ok (.putfield 71, 3) := by decide +kernel
theorem dX9_init_119 : decode cX9_init 119 = .ok (.aload_n 0, 1) := by decide +kernel
theorem dX9_init_120 : decode cX9_init 120 = .ok (.new 26, 3) := by decide +kernel
theorem dX9_init_123 : decode cX9_init 123 = .ok (.dup, 1) := by decide +kernel
theorem dX9_init_124 : decode cX9_init 124 = .ok (.aload_n 1, 1) := by decide +kernel
theorem dX9_init_125 : decode cX9_init 125 = .ok (.invokespecial 68, 3) := by decide +kernel
theorem dX9_init_128 : decode cX9_init 128 = .ok (.putfield 75, 3) := by decide +kernel
theorem dX9_init_131 : decode cX9_init 131 = .ok (.aload_n 0, 1) := by decide +kernel
theorem dX9_init_132 : decode cX9_init 132 = .ok (.new 78, 3) := by decide +kernel
theorem dX9_init_135 : decode cX9_init 135 = .ok (.dup, 1) := by decide +kernel
theorem dX9_init_136 : decode cX9_init 136 = .ok (.aload_n 1, 1) := by decide +kernel
theorem dX9_init_137 : decode cX9_init 137 = .ok (.invokespecial 80, 3) := by decide +kernel
theorem dX9_init_140 : decode cX9_init 140 = .ok (.putfield 81, 3) := by decide +kernel
theorem dX9_init_143 : decode cX9_init 143 = .ok (.aload_n 0, 1) := by decide +kernel
theorem dX9_init_144 : decode cX9_init 144 = .ok (.new 85, 3) := by decide +kernel
theorem dX9_init_147 : decode cX9_init 147 = .ok (.dup, 1) := by decide +kernel
theorem dX9_init_148 : decode cX9_init 148 = .ok (.aload_n 1, 1) := by decide +kernel
theorem dX9_init_149 : decode cX9_init 149 = .ok (.getfield 87, 3) := by decide +kernel
theorem dX9_init_152 : decode cX9_init 152 = .ok (.invokespecial 91, 3) := by decide +kernel
theorem dX9_init_155 : decode cX9_init 155 = .ok (.putfield 94, 3) := by decide +kernel
theorem dX9_init_158 : decode cX9_init 158 = .ok (.aload_n 0, 1) := by decide +kernel
theorem dX9_init_159 : decode cX9_init 159 = .ok (.new 98, 3) := by decide +kernel
theorem dX9_init_162 : decode cX9_init 162 = .ok (.dup, 1) := by decide +kernel
theorem dX9_init_163 : decode cX9_init 163 = .ok (.aload_n 1, 1) := by decide +kernel
theorem dX9_init_164 : decode cX9_init 164 = .ok (.getfield 87, 3) := by decide +kernel
theorem dX9_init_167 : decode cX9_init 167 = .ok (.invokespecial 100, 3) := by decide +kernel
theorem dX9_init_170 : decode cX9_init 170 = .ok (.putfield 101, 3) := by decide +kernel
theorem dX9_init_173 : decode cX9_init 173 = .ok (.iconst 0, 1) := by decide +kernel
theorem dX9_init_174 : decode cX9_init 174 = .ok (.istore_n 2, 1) := by decide +kernel
theorem dX9_init_175 : decode cX9_init 175 = .ok (.iload_n 2, 1) := by decide +kernel
theorem dX9_init_176 : decode cX9_init 176 = .ok (.bipush 6, 2) := by decide +kernel
theorem dX9_init_178 : decode cX9_init 178 = .ok (.if_icmp .ge 22, 3) := by decide +kernel
theorem dX9_init_181 : decode cX9_init 181 = .ok (.aload_n 0, 1) := by decide +kernel
theorem dX9_init_182 : decode cX9_init 182 = .ok (.getfield 18, 3) := by decide +kernel
theorem dX9_init_185 : decode cX9_init 185 = .ok (.iload_n 2, 1) := by decide +kernel
theorem dX9_init_186 : decode cX9_init 186 = .ok (.new 16, 3) := by decide +kernel
theorem dX9_init_189 : decode cX9_init 189 = .ok (.dup, 1) := by decide +kernel
theorem dX9_init_190 : decode cX9_init 190 = .ok (.invokespecial 105, 3) := by decide +kernel
theorem dX9_init_193 : decode cX9_init 193 = .ok (.aastore, 1) := by decide +kernel
theorem dX9_init_194 : decode cX9_init 194 = .ok (.iinc 2 1, 3) := by decide +kernel
theorem dX9_init_197 : decode cX9_init 197 = .ok (.goto (-22), 3) := by decide +kernel
theorem dX9_init_200 : decode cX9_init 200 = .ok (.iconst 0, 1) := by decide +kernel
theorem dX9_init_201 : decode cX9_init 201 = .ok (.istore_n 2, 1) := by decide +kernel
theorem dX9_init_202 : decode cX9_init 202 = .ok (.iload_n 2, 1) := by decide +kernel
theorem dX9_init_203 : decode cX9_init 203 = .ok (.bipush 20, 2) := by decide +kernel
theorem dX9_init_205 : decode cX9_init 205 = .ok (.if_icmp .ge 23, 3) := by decide +kernel
theorem dX9_init_208 : decode cX9_init 208 = .ok (.aload_n 0, 1) := by decide +kernel
theorem dX9_init_209 : decode cX9_init 209 = .ok (.getfield 28, 3) := by decide +kernel
theorem dX9_init_212 : decode cX9_init 212 = .ok (.iload_n 2, 1) := by decide +kernel
theorem dX9_init_213 : decode cX9_init 213 = .ok (.new 26, 3) := by decide +kernel
theorem dX9_init_216 : decode cX9_init 216 = .ok (.dup, 1) := by decide +kernel
theorem dX9_init_217 : decode cX9_init 217 = .ok (.aload_n 1, 1) := by decide +kernel
theorem dX9_init_218 : decode cX9_init 218 = .ok (.invokespecial 68, 3) := by decide +kernel
theorem dX9_init_221 : decode cX9_init 221 = .ok (.aastore, 1) := by decide +kernel
theorem dX9_init_222 : decode cX9_init 222 = .ok (.iinc 2 1, 3) := by decide +kernel
theorem dX9_init_225 : decode cX9_init 225 = .ok (.goto (-23), 3) := by decide +kernel
theorem dX9_init_228 : decode cX9_init 228 = .ok (.iconst 0, 1) := by decide +kernel
theorem dX9_init_229 : decode cX9_init 229 = .ok (.istore_n 2, 1) := by decide +kernel
theorem dX9_init_230 : decode cX9_init 230 = .ok (.iload_n 2, 1) := by decide +kernel
theorem dX9_init_231 : decode cX9_init 231 = .ok (.iconst 4, 1) := by decide +kernel
theorem dX9_init_232 : decode cX9_init 232 = .ok (.if_icmp .ge 23, 3) := by decide +kernel
theorem dX9_init_235 : decode cX9_init 235 = .ok (.aload_n 0, 1) := by decide +kernel
theorem dX9_init_236 : decode cX9_init 236 = .ok (.getfield 40, 3) := by decide +kernel
theorem dX9_init_239 : decode cX9_init 239 = .ok (.iload_n 2, 1) := by decide +kernel
theorem dX9_init_240 : decode cX9_init 240 = .ok (.new 38, 3) := by decide +kernel
theorem dX9_init_243 : decode cX9_init 243 = .ok (.dup, 1) := by decide +kernel
theorem dX9_init_244 : decode cX9_init 244 = .ok (.aload_n 1, 1) := by decide +kernel
theorem dX9_init_245 : decode cX9_init 245 = .ok (.invokespecial 106, 3) := by decide +kernel
theorem dX9_init_248 : decode cX9_init 248 = .ok (.aastore, 1) := by decide +kernel
theorem dX9_init_249 : decode cX9_init 249 = .ok (.iinc 2 1, 3) := by decide +kernel
theorem dX9_init_252 : decode cX9_init 252 = .ok (.goto (-22), 3) := by decide +kernel
theorem dX9_init_255 : decode cX9_init 255 = .ok (.return_, 1) := by decide +kernel
theorem dX9_feed_0 : decode cX9_feed 0 = .ok (.aload_n 0, 1) := by decide +kernel
theorem dX9_feed_1 : decode cX9_feed 1 = .ok (.getfield 10, 3) := by decide +kernel
theorem dX9_feed_4 : decode cX9_feed 4 = .ok (.getfield 107, 3) := by decide +kernel
theorem dX9_feed_7 : decode cX9_feed 7 = .ok (.bipush 20, 2) := by decide +kernel
theorem dX9_feed_9 : decode cX9_feed 9 = .ok (.iadd, 1) := by decide +kernel
theorem dX9_feed_10 : decode cX9_feed 10 = .ok (.sipush 400, 3) := by decide +kernel
theorem dX9_feed_13 : decode cX9_feed 13 = .ok (.if_icmp .le 5, 3) := by decide +kernel
theorem dX9_feed_16 : decode cX9_feed 16 = .ok (.iconst (-1), 1) := by decide +kernel
theorem dX9_feed_17 : decode cX9_feed 17 = .ok (.ireturn, 1) := by decide +kernel
theorem dX9_feed_18 : decode cX9_feed 18 = .ok (.aload_n 0, 1) := by decide +kernel
theorem dX9_feed_19 : decode cX9_feed 19 = .ok (.getfield 10, 3) := by decide +kernel
theorem dX9_feed_22 : decode cX9_feed 22 = .ok (.iload_n 1, 1) := by decide +kernel
theorem dX9_feed_23 : decode cX9_feed 23 = .ok (.invokevirtual 110, 3) := by decide +kernel
theorem dX9_feed_26 : decode cX9_feed 26 = .ok (.aload_n 0, 1) := by decide +kernel
theorem dX9_feed_27 : decode cX9_feed 27 = .ok (.getfield 10, 3) := by decide +kernel
theorem dX9_feed_30 : decode cX9_feed 30 = .ok (.iload_n 2, 1) := by decide +kernel
theorem dX9_feed_31 : decode cX9_feed 31 = .ok (.invokevirtual 110, 3) := by decide +kernel
theorem dX9_feed_34 : decode cX9_feed 34 = .ok (.aload_n 0, 1) := by decide +kernel
theorem dX9_feed_35 : decode cX9_feed 35 = .ok (.getfield 10, 3) := by decide +kernel
theorem dX9_feed_38 : decode cX9_feed 38 = .ok (.iload_n 3, 1) := by decide +kernel
theorem dX9_feed_39 : decode cX9_feed 39 = .ok (.invokevirtual 110, 3) := by decide +kernel
theorem dX9_feed_42 : decode cX9_feed 42 = .ok (.aload_n 0, 1) := by decide +kernel
theorem dX9_feed_43 : decode cX9_feed 43 = .ok (.getfield 10, 3) := by decide +kernel
theorem dX9_feed_46 : decode cX9_feed 46 = .ok (.iload 4, 2) := by decide +kernel
theorem dX9_feed_48 : decode cX9_feed 48 = .ok (.invokevirtual 110, 3) := by decide +kernel
theorem dX9_feed_51 : decode cX9_feed 51 = .ok (.aload_n 0, 1) := by decide +kernel
theorem dX9_feed_52 : decode cX9_feed 52 = .ok (.getfield 10, 3) := by decide +kernel
theorem dX9_feed_55 : decode cX9_feed 55 = .ok (.iload 5, 2) := by decide +kernel
theorem dX9_feed_57 : decode cX9_feed 57 = .ok (.invokevirtual 110, 3) := by decide +kernel
theorem dX9_feed_60 : decode cX9_feed 60 = .ok (.aload_n 0, 1) := by decide +kernel
theorem dX9_feed_61 : decode cX9_feed 61 = .ok (.getfield 10, 3) := by decide +kernel
theorem dX9_feed_64 : decode cX9_feed 64 = .ok (.getfield 107, 3) := by decide +kernel
theorem dX9_feed_67 : decode cX9_feed 67 = .ok (.ireturn, 1) := by decide +kernel
theorem dX9_end_0 : decode cX9_end 0 = .ok (.iload_n 1, 1) := by decide +kernel
theorem dX9_end_1 : decode cX9_end 1 = .ok (.ifCond .lt 14, 3) := by decide +kernel
theorem dX9_end_4 : decode cX9_end 4 = .ok (.iload_n 1, 1) := by decide +kernel
theorem dX9_end_5 : decode cX9_end 5 = .ok (.aload_n 0, 1) := by decide +kernel
theorem dX9_end_6 : decode cX9_end 6 = .ok (.getfield 10, 3) := by decide +kernel
theorem dX9_end_9 : decode cX9_end 9 = .ok (.getfield 107, 3) := by decide +kernel
theorem dX9_end_12 : decode cX9_end 12 = .ok (.if_icmp .le 5, 3) := by decide +kernel
theorem dX9_end_15 : decode cX9_end 15 = .ok (.iconst (-1), 1) := by decide +kernel
theorem dX9_end_16 : decode cX9_end 16 = .ok (.ireturn, 1) := by decide +kernel
theorem dX9_end_17 : decode cX9_end 17 = .ok (.aload_n 0, 1) := by decide +kernel
theorem dX9_end_18 : decode cX9_end 18 = .ok (.getfield 10, 3) := by decide +kernel
theorem dX9_end_21 : decode cX9_end 21 = .ok (.iload_n 1, 1) := by decide +kernel
theorem dX9_end_22 : decode cX9_end 22 = .ok (.putfield 107, 3) := by decide +kernel
theorem dX9_end_25 : decode cX9_end 25 = .ok (.iload_n 1, 1) := by decide +kernel
theorem dX9_end_26 : decode cX9_end 26 = .ok (.ireturn, 1) := by decide +kernel
theorem dX9_town_0 : decode cX9_town 0 = .ok (.new 65, 3) := by decide +kernel
theorem dX9_town_3 : decode cX9_town 3 = .ok (.dup, 1) := by decide +kernel
theorem dX9_town_4 : decode cX9_town 4 = .ok (.invokespecial 67, 3) := by decide +kernel
theorem dX9_town_7 : decode cX9_town 7 = .ok (.astore_n 1, 1) := by decide +kernel
theorem dX9_town_8 : decode cX9_town 8 = .ok (.aload_n 1, 1) := by decide +kernel
theorem dX9_town_9 : decode cX9_town 9 = .ok (.aload_n 0, 1) := by decide +kernel
theorem dX9_town_10 : decode cX9_town 10 = .ok (.getfield 10, 3) := by decide +kernel
theorem dX9_town_13 : decode cX9_town 13 = .ok (.invokevirtual 114, 3) := by decide +kernel
theorem dX9_town_16 : decode cX9_town 16 = .ok (.aload_n 0, 1) := by decide +kernel
theorem dX9_town_17 : decode cX9_town 17 = .ok (.getfield 10, 3) := by decide +kernel
theorem dX9_town_20 : decode cX9_town 20 = .ok (.iconst 0, 1) := by decide +kernel
theorem dX9_town_21 : decode cX9_town 21 = .ok (.putfield 107, 3) := by decide +kernel
theorem dX9_town_24 : decode cX9_town 24 = .ok (.aload_n 0, 1) := by decide +kernel
theorem dX9_town_25 : decode cX9_town 25 = .ok (.getfield 10, 3) := by decide +kernel
theorem dX9_town_28 : decode cX9_town 28 = .ok (.getfield 118, 3) := by decide +kernel
theorem dX9_town_31 : decode cX9_town 31 = .ok (.ifCond .eq 14, 3) := by decide +kernel
theorem dX9_town_34 : decode cX9_town 34 = .ok (.bipush (-2), 2) := by decide +kernel
theorem dX9_town_36 : decode cX9_town 36 = .ok (.aload_n 0, 1) := by decide +kernel
theorem dX9_town_37 : decode cX9_town 37 = .ok (.getfield 10, 3) := by decide +kernel
theorem dX9_town_40 : decode cX9_town 40 = .ok (.getfield 118, 3) := by decide +kernel
theorem dX9_town_43 : decode cX9_town 43 = .ok (.isub, 1) := by decide +kernel
theorem dX9_town_44 : decode cX9_town 44 = .ok (.ireturn, 1) := by decide +kernel
theorem dX9_town_45 : decode cX9_town 45 = .ok (.aload_n 0, 1) := by decide +kernel
theorem dX9_town_46 : decode cX9_town 46 = .ok (.getfield 71, 3) := by decide +kernel
theorem dX9_town_49 : decode cX9_town 49 = .ok (.aload_n 1, 1) := by decide +kernel
theorem dX9_town_50 : decode cX9_town 50 = .ok (.invokevirtual 121, 3) := by decide +kernel
theorem dX9_town_53 : decode cX9_town 53 = .ok (.aload_n 0, 1) := by decide +kernel
theorem dX9_town_54 : decode cX9_town 54 = .ok (.invokevirtual 124, 3) := by decide +kernel
theorem dX9_town_57 : decode cX9_town 57 = .ok (.aload_n 1, 1) := by decide +kernel
theorem dX9_town_58 : decode cX9_town 58 = .ok (.getfield 87, 3) := by decide +kernel
theorem dX9_town_61 : decode cX9_town 61 = .ok (.getfield 127, 3) := by decide +kernel
theorem dX9_town_64 : decode cX9_town 64 = .ok (.ireturn, 1) := by decide +kernel
theorem dX9_rule_0 : decode cX9_rule 0 = .ok (.aload_n 0, 1) := by decide +kernel
theorem dX9_rule_1 : decode cX9_rule 1 = .ok (.getfield 22, 3) := by decide +kernel
theorem dX9_rule_4 : decode cX9_rule 4 = .ok (.bipush 6, 2) := by decide +kernel
theorem dX9_rule_6 : decode cX9_rule 6 = .ok (.if_icmp .lt 5, 3) := by decide +kernel
theorem dX9_rule_9 : decode cX9_rule 9 = .ok (.iconst (-1), 1) := by decide +kernel
theorem dX9_rule_10 : decode cX9_rule 10 = .ok (.ireturn, 1) := by decide +kernel
theorem dX9_rule_11 : decode cX9_rule 11 = .ok (.aload_n 0, 1) := by decide +kernel
theorem dX9_rule_12 : decode cX9_rule 12 = .ok (.getfield 18, 3) := by decide +kernel
theorem dX9_rule_15 : decode cX9_rule 15 = .ok (.aload_n 0, 1) := by decide +kernel
theorem dX9_rule_16 : decode cX9_rule 16 = .ok (.getfield 22, 3) := by decide +kernel
theorem dX9_rule_19 : decode cX9_rule 19 = .ok (.aaload, 1) := by decide +kernel
theorem dX9_rule_20 : decode cX9_rule 20 = .ok (.aload_n 0, 1) := by decide +kernel
theorem dX9_rule_21 : decode cX9_rule 21 = .ok (.getfield 10, 3) := by decide +kernel
theorem dX9_rule_24 : decode cX9_rule 24 = .ok (.invokevirtual 132, 3) := by decide +kernel
theorem dX9_rule_27 : decode cX9_rule 27 = .ok (.aload_n 0, 1) := by decide +kernel
theorem dX9_rule_28 : decode cX9_rule 28 = .ok (.getfield 10, 3) := by decide +kernel
theorem dX9_rule_31 : decode cX9_rule 31 = .ok (.iconst 0, 1) := by decide +kernel
theorem dX9_rule_32 : decode cX9_rule 32 = .ok (.putfield 107, 3) := by decide +kernel
theorem dX9_rule_35 : decode cX9_rule 35 = .ok (.aload_n 0, 1) := by decide +kernel
theorem dX9_rule_36 : decode cX9_rule 36 = .ok (.getfield 10, 3) := by decide +kernel
theorem dX9_rule_39 : decode cX9_rule 39 = .ok (.getfield 118, 3) := by decide +kernel
theorem dX9_rule_42 : decode cX9_rule 42 = .ok (.ifCond .eq 14, 3) := by decide +kernel
theorem dX9_rule_45 : decode cX9_rule 45 = .ok (.bipush (-2), 2) := by decide +kernel
theorem dX9_rule_47 : decode cX9_rule 47 = .ok (.aload_n 0, 1) := by decide +kernel
theorem dX9_rule_48 : decode cX9_rule 48 = .ok (.getfield 10, 3) := by decide +kernel
theorem dX9_rule_51 : decode cX9_rule 51 = .ok (.getfield 118, 3) := by decide +kernel
theorem dX9_rule_54 : decode cX9_rule 54 = .ok (.isub, 1) := by decide +kernel
theorem dX9_rule_55 : decode cX9_rule 55 = .ok (.ireturn, 1) := by decide +kernel
theorem dX9_rule_56 : decode cX9_rule 56 = .ok (.aload_n 0, 1) := by decide +kernel
theorem dX9_rule_57 : decode cX9_rule 57 = .ok (.dup, 1) := by decide +kernel
theorem dX9_rule_58 : decode cX9_rule 58 = .ok (.getfield 22, 3) := by decide +kernel
theorem dX9_rule_61 : decode cX9_rule 61 = .ok (.iconst 1, 1) := by decide +kernel
theorem dX9_rule_62 : decode cX9_rule 62 = .ok (.iadd, 1) := by decide +kernel
theorem dX9_rule_63 : decode cX9_rule 63 = .ok (.putfield 22, 3) := by decide +kernel
theorem dX9_rule_66 : decode cX9_rule 66 = .ok (.aload_n 0, 1) := by decide +kernel
theorem dX9_rule_67 : decode cX9_rule 67 = .ok (.getfield 22, 3) := by decide +kernel
theorem dX9_rule_70 : decode cX9_rule 70 = .ok (.iconst 1, 1) := by decide +kernel
theorem dX9_rule_71 : decode cX9_rule 71 = .ok (.isub, 1) := by decide +kernel
theorem dX9_rule_72 : decode cX9_rule 72 = .ok (.ireturn, 1) := by decide +kernel
theorem dX9_person_0 : decode cX9_person 0 = .ok (.aload_n 0, 1) := by decide +kernel
theorem dX9_person_1 : decode cX9_person 1 = .ok (.iload_n 1, 1) := by decide +kernel
theorem dX9_person_2 : decode cX9_person 2 = .ok (.invokevirtual 133, 3) := by decide +kernel
theorem dX9_person_5 : decode cX9_person 5 = .ok (.ifCond .ne 5, 3) := by decide +kernel
theorem dX9_person_8 : decode cX9_person 8 = .ok (.iconst (-1), 1) := by decide +kernel
theorem dX9_person_9 : decode cX9_person 9 = .ok (.ireturn, 1) := by decide +kernel
theorem dX9_person_10 : decode cX9_person 10 = .ok (.iload_n 2, 1) := by decide +kernel
theorem dX9_person_11 : decode cX9_person 11 = .ok (.tableswitch 98 0 5 #[37, 47, 60, 70, 80, 89], 37) := by decide +kernel
theorem dX9_person_48 : decode cX9_person 48 = .ok (.aload_n 0, 1) := by decide +kernel
theorem dX9_person_49 : decode cX9_person 49 = .ok (.getfield 71, 3) := by decide +kernel
theorem dX9_person_52 : decode cX9_person 52 = .ok (.getfield 137, 3) := by decide +kernel
theorem dX9_person_55 : decode cX9_person 55 = .ok (.iload_n 1, 1) := by decide +kernel
theorem dX9_person_56 : decode cX9_person 56 = .ok (.iaload, 1) := by decide +kernel
theorem dX9_person_57 : decode cX9_person 57 = .ok (.ireturn, 1) := by decide +kernel
theorem dX9_person_58 : decode cX9_person 58 = .ok (.aload_n 0, 1) := by decide +kernel
theorem dX9_person_59 : decode cX9_person 59 = .ok (.getfield 71, 3) := by decide +kernel
theorem dX9_person_62 : decode cX9_person 62 = .ok (.getfield 140, 3) := by decide +kernel
theorem dX9_person_65 : decode cX9_person 65 = .ok (.getfield 144, 3) := by decide +kernel
theorem dX9_person_68 : decode cX9_person 68 = .ok (.iload_n 1, 1) := by decide +kernel
theorem dX9_person_69 : decode cX9_person 69 = .ok (.iaload, 1) := by decide +kernel
theorem dX9_person_70 : decode cX9_person 70 = .ok (.ireturn, 1) := by decide +kernel
theorem dX9_person_71 : decode cX9_person 71 = .ok (.aload_n 0, 1) := by decide +kernel
theorem dX9_person_72 : decode cX9_person 72 = .ok (.getfield 71, 3) := by decide +kernel
theorem dX9_person_75 : decode cX9_person 75 = .ok (.getfield 147, 3) := by decide +kernel
theorem dX9_person_78 : decode cX9_person 78 = .ok (.iload_n 1, 1) := by decide +kernel
theorem dX9_person_79 : decode cX9_person 79 = .ok (.iaload, 1) := by decide +kernel
theorem dX9_person_80 : decode cX9_person 80 = .ok (.ireturn, 1) := by decide +kernel
theorem dX9_person_81 : decode cX9_person 81 = .ok (.aload_n 0, 1) := by decide +kernel
theorem dX9_person_82 : decode cX9_person 82 = .ok (.getfield 71, 3) := by decide +kernel
theorem dX9_person_85 : decode cX9_person 85 = .ok (.iload_n 1, 1) := by decide +kernel
theorem dX9_person_86 : decode cX9_person 86 = .ok (.iconst (-1), 1) := by decide +kernel
theorem dX9_person_87 : decode cX9_person 87 = .ok (.invokevirtual 150, 3) := by decide +kernel
theorem dX9_person_90 : decode cX9_person 90 = .ok (.ireturn, 1) := by decide +kernel
theorem dX9_person_91 : decode cX9_person 91 = .ok (.aload_n 0, 1) := by decide +kernel
theorem dX9_person_92 : decode cX9_person 92 = .ok (.getfield 71, 3) := by decide +kernel
theorem dX9_person_95 : decode cX9_person 95 = .ok (.iload_n 1, 1) := by decide +kernel
theorem dX9_person_96 : decode cX9_person 96 = .ok (.invokevirtual 154, 3) := by decide +kernel
theorem dX9_person_99 : decode cX9_person 99 = .ok (.ireturn, 1) := by decide +kernel
theorem dX9_person_100 : decode cX9_person 100 = .ok (.aload_n 0, 1) := by decide +kernel
theorem dX9_person_101 : decode cX9_person 101 = .ok (.getfield 71, 3) := by decide +kernel
theorem dX9_person_104 : decode cX9_person 104 = .ok (.iload_n 1, 1) := by decide +kernel
theorem dX9_person_105 : decode cX9_person 105 = .ok (.invokevirtual 158, 3) := by decide +kernel
theorem dX9_person_108 : decode cX9_person 108 = .ok (.ireturn, 1) := by decide +kernel
theorem dX9_person_109 : decode cX9_person 109 = .ok (.iconst (-1), 1) := by decide +kernel
theorem dX9_person_110 : decode cX9_person 110 = .ok (.ireturn, 1) := by decide +kernel
theorem dX9_left_0 : decode cX9_left 0 = .ok (.aload_n 0, 1) := by decide +kernel
theorem dX9_left_1 : decode cX9_left 1 = .ok (.iload_n 1, 1) := by decide +kernel
theorem dX9_left_2 : decode cX9_left 2 = .ok (.invokevirtual 133, 3) := by decide +kernel
theorem dX9_left_5 : decode cX9_left 5 = .ok (.ifCond .eq 11, 3) := by decide +kernel
theorem dX9_left_8 : decode cX9_left 8 = .ok (.aload_n 0, 1) := by decide +kernel
theorem dX9_left_9 : decode cX9_left 9 = .ok (.iload_n 2, 1) := by decide +kernel
theorem dX9_left_10 : decode cX9_left 10 = .ok (.invokevirtual 161, 3) := by decide +kernel
theorem dX9_left_13 : decode cX9_left 13 = .ok (.ifCond .ne 5, 3) := by decide +kernel
theorem dX9_left_16 : decode cX9_left 16 = .ok (.iconst (-1), 1) := by decide +kernel
theorem dX9_left_17 : decode cX9_left 17 = .ok (.ireturn, 1) := by decide +kernel
theorem dX9_left_18 : decode cX9_left 18 = .ok (.aload_n 0, 1) := by decide +kernel
theorem dX9_left_19 : decode cX9_left 19 = .ok (.getfield 71, 3) := by decide +kernel
theorem dX9_left_22 : decode cX9_left 22 = .ok (.iload_n 1, 1) := by decide +kernel
theorem dX9_left_23 : decode cX9_left 23 = .ok (.iload_n 2, 1) := by decide +kernel
theorem dX9_left_24 : decode cX9_left 24 = .ok (.invokevirtual 164, 3) := by decide +kernel
theorem dX9_left_27 : decode cX9_left 27 = .ok (.ireturn, 1) := by decide +kernel
theorem dX9_bridge_0 : decode cX9_bridge 0 = .ok (.aload_n 0, 1) := by decide +kernel
theorem dX9_bridge_1 : decode cX9_bridge 1 = .ok (.iload_n 1, 1) := by decide +kernel
theorem dX9_bridge_2 : decode cX9_bridge 2 = .ok (.invokevirtual 161, 3) := by decide +kernel
theorem dX9_bridge_5 : decode cX9_bridge 5 = .ok (.ifCond .ne 5, 3) := by decide +kernel
theorem dX9_bridge_8 : decode cX9_bridge 8 = .ok (.iconst (-1), 1) := by decide +kernel
theorem dX9_bridge_9 : decode cX9_bridge 9 = .ok (.ireturn, 1) := by decide +kernel
theorem dX9_bridge_10 : decode cX9_bridge 10 = .ok (.iload_n 2, 1) := by decide +kernel
theorem dX9_bridge_11 : decode cX9_bridge 11 = .ok (.tableswitch 66 0 2 #[25, 41, 57], 25) := by decide +kernel
theorem dX9_bridge_36 : decode cX9_bridge 36 = .ok (.aload_n 0, 1) := by decide +kernel
theorem dX9_bridge_37 : decode cX9_bridge 37 = .ok (.getfield 71, 3) := by decide +kernel
theorem dX9_bridge_40 : decode cX9_bridge 40 = .ok (.getfield 140, 3) := by decide +kernel
theorem dX9_bridge_43 : decode cX9_bridge 43 = .ok (.getfield 87, 3) := by decide +kernel
theorem dX9_bridge_46 : decode cX9_bridge 46 = .ok (.getfield 167, 3) := by decide +kernel
theorem dX9_bridge_49 : decode cX9_bridge 49 = .ok (.iload_n 1, 1) := by decide +kernel
theorem dX9_bridge_50 : decode cX9_bridge 50 = .ok (.iaload, 1) := by decide +kernel
theorem dX9_bridge_51 : decode cX9_bridge 51 = .ok (.ireturn, 1) := by decide +kernel
theorem dX9_bridge_52 : decode cX9_bridge 52 = .ok (.aload_n 0, 1) := by decide +kernel
theorem dX9_bridge_53 : decode cX9_bridge 53 = .ok (.getfield 71, 3) := by decide +kernel
theorem dX9_bridge_56 : decode cX9_bridge 56 = .ok (.getfield 140, 3) := by decide +kernel
theorem dX9_bridge_59 : decode cX9_bridge 59 = .ok (.getfield 87, 3) := by decide +kernel
theorem dX9_bridge_62 : decode cX9_bridge 62 = .ok (.getfield 170, 3) := by decide +kernel
theorem dX9_bridge_65 : decode cX9_bridge 65 = .ok (.iload_n 1, 1) := by decide +kernel
theorem dX9_bridge_66 : decode cX9_bridge 66 = .ok (.iaload, 1) := by decide +kernel
theorem dX9_bridge_67 : decode cX9_bridge 67 = .ok (.ireturn, 1) := by decide +kernel
theorem dX9_bridge_68 : decode cX9_bridge 68 = .ok (.aload_n 0, 1) := by decide +kernel
theorem dX9_bridge_69 : decode cX9_bridge 69 = .ok (.getfield 71, 3) := by decide +kernel
theorem dX9_bridge_72 : decode cX9_bridge 72 = .ok (.iload_n 1, 1) := by decide +kernel
theorem dX9_bridge_73 : decode cX9_bridge 73 = .ok (.invokevirtual 173, 3) := by decide +kernel
theorem dX9_bridge_76 : decode cX9_bridge 76 = .ok (.ireturn, 1) := by decide +kernel
theorem dX9_bridge_77 : decode cX9_bridge 77 = .ok (.iconst (-1), 1) := by decide +kernel
theorem dX9_bridge_78 : decode cX9_bridge 78 = .ok (.ireturn, 1) := by decide +kernel
theorem dX9_count_0 : decode cX9_count 0 = .ok (.aload_n 0, 1) := by decide +kernel
theorem dX9_count_1 : decode cX9_count 1 = .ok (.getfield 71, 3) := by decide +kernel
theorem dX9_count_4 : decode cX9_count 4 = .ok (.getfield 140, 3) := by decide +kernel
theorem dX9_count_7 : decode cX9_count 7 = .ok (.astore_n 2, 1) := by decide +kernel
theorem dX9_count_8 : decode cX9_count 8 = .ok (.iload_n 1, 1) := by decide +kernel
theorem dX9_count_9 : decode cX9_count 9 = .ok (.tableswitch 171 0 13 #[71, 76, 81, 89, 97, 102, 107, 112, 120, 136, 144, 152, 157, 163], 71) := by decide +kernel
theorem dX9_count_80 : decode cX9_count 80 = .ok (.aload_n 2, 1) := by decide +kernel
theorem dX9_count_81 : decode cX9_count 81 = .ok (.getfield 176, 3) := by decide +kernel
theorem dX9_count_84 : decode cX9_count 84 = .ok (.ireturn, 1) := by decide +kernel
theorem dX9_count_85 : decode cX9_count 85 = .ok (.aload_n 2, 1) := by decide +kernel
theorem dX9_count_86 : decode cX9_count 86 = .ok (.getfield 179, 3) := by decide +kernel
theorem dX9_count_89 : decode cX9_count 89 = .ok (.ireturn, 1) := by decide +kernel
theorem dX9_count_90 : decode cX9_count 90 = .ok (.aload_n 2, 1) := by decide +kernel
theorem dX9_count_91 : decode cX9_count 91 = .ok (.getfield 87, 3) := by decide +kernel
theorem dX9_count_94 : decode cX9_count 94 = .ok (.getfield 127, 3) := by decide +kernel
theorem dX9_count_97 : decode cX9_count 97 = .ok (.ireturn, 1) := by decide +kernel
theorem dX9_count_98 : decode cX9_count 98 = .ok (.aload_n 2, 1) := by decide +kernel
theorem dX9_count_99 : decode cX9_count 99 = .ok (.getfield 182, 3) := by decide +kernel
theorem dX9_count_102 : decode cX9_count 102 = .ok (.getfield 127, 3) := by decide +kernel
theorem dX9_count_105 : decode cX9_count 105 = .ok (.ireturn, 1) := by decide +kernel
theorem dX9_count_106 : decode cX9_count 106 = .ok (.aload_n 2, 1) := by decide +kernel
theorem dX9_count_107 : decode cX9_count 107 = .ok (.getfield 185, 3) := by decide +kernel
theorem dX9_count_110 : decode cX9_count 110 = .ok (.ireturn, 1) := by decide +kernel
theorem dX9_count_111 : decode cX9_count 111 = .ok (.aload_n 2, 1) := by decide +kernel
theorem dX9_count_112 : decode cX9_count 112 = .ok (.getfield 188, 3) := by decide +kernel
theorem dX9_count_115 : decode cX9_count 115 = .ok (.ireturn, 1) := by decide +kernel
theorem dX9_count_116 : decode cX9_count 116 = .ok (.aload_n 0, 1) := by decide +kernel
theorem dX9_count_117 : decode cX9_count 117 = .ok (.getfield 22, 3) := by decide +kernel
theorem dX9_count_120 : decode cX9_count 120 = .ok (.ireturn, 1) := by decide +kernel
theorem dX9_count_121 : decode cX9_count 121 = .ok (.aload_n 0, 1) := by decide +kernel
theorem dX9_count_122 : decode cX9_count 122 = .ok (.getfield 71, 3) := by decide +kernel
theorem dX9_count_125 : decode cX9_count 125 = .ok (.getfield 191, 3) := by decide +kernel
theorem dX9_count_128 : decode cX9_count 128 = .ok (.ireturn, 1) := by decide +kernel
theorem dX9_count_129 : decode cX9_count 129 = .ok (.aload_n 0, 1) := by decide +kernel
theorem dX9_count_130 : decode cX9_count 130 = .ok (.getfield 71, 3) := by decide +kernel
theorem dX9_count_133 : decode cX9_count 133 = .ok (.invokevirtual 194, 3) := by decide +kernel
theorem dX9_count_136 : decode cX9_count 136 = .ok (.ifCond .eq 7, 3) := by decide +kernel
theorem dX9_count_139 : decode cX9_count 139 = .ok (.iconst 1, 1) := by decide +kernel
theorem dX9_count_140 : decode cX9_count 140 = .ok (.goto 4, 3) := by decide +kernel
theorem dX9_count_143 : decode cX9_count 143 = .ok (.iconst 0, 1) := by decide +kernel
theorem dX9_count_144 : decode cX9_count 144 = .ok (.ireturn, 1) := by decide +kernel
theorem dX9_count_145 : decode cX9_count 145 = .ok (.aload_n 0, 1) := by decide +kernel
theorem dX9_count_146 : decode cX9_count 146 = .ok (.getfield 71, 3) := by decide +kernel
theorem dX9_count_149 : decode cX9_count 149 = .ok (.invokevirtual 198, 3) := by decide +kernel
theorem dX9_count_152 : decode cX9_count 152 = .ok (.ireturn, 1) := by decide +kernel
theorem dX9_count_153 : decode cX9_count 153 = .ok (.aload_n 0, 1) := by decide +kernel
theorem dX9_count_154 : decode cX9_count 154 = .ok (.getfield 71, 3) := by decide +kernel
theorem dX9_count_157 : decode cX9_count 157 = .ok (.invokevirtual 202, 3) := by decide +kernel
theorem dX9_count_160 : decode cX9_count 160 = .ok (.ireturn, 1) := by decide +kernel
theorem dX9_count_161 : decode cX9_count 161 = .ok (.aload_n 0, 1) := by decide +kernel
theorem dX9_count_162 : decode cX9_count 162 = .ok (.getfield 35, 3) := by decide +kernel
theorem dX9_count_165 : decode cX9_count 165 = .ok (.ireturn, 1) := by decide +kernel
theorem dX9_count_166 : decode cX9_count 166 = .ok (.aload_n 0, 1) := by decide +kernel
theorem dX9_count_167 : decode cX9_count 167 = .ok (.getfield 44, 3) := by decide +kernel
theorem dX9_count_170 : decode cX9_count 170 = .ok (.l2i, 1) := by decide +kernel
theorem dX9_count_171 : decode cX9_count 171 = .ok (.ireturn, 1) := by decide +kernel
theorem dX9_count_172 : decode cX9_count 172 = .ok (.aload_n 0, 1) := by decide +kernel
theorem dX9_count_173 : decode cX9_count 173 = .ok (.getfield 10, 3) := by decide +kernel
theorem dX9_count_176 : decode cX9_count 176 = .ok (.getfield 107, 3) := by decide +kernel
theorem dX9_count_179 : decode cX9_count 179 = .ok (.ireturn, 1) := by decide +kernel
theorem dX9_count_180 : decode cX9_count 180 = .ok (.iconst (-1), 1) := by decide +kernel
theorem dX9_count_181 : decode cX9_count 181 = .ok (.ireturn, 1) := by decide +kernel
theorem dX9_cross_0 : decode cX9_cross 0 = .ok (.aload_n 0, 1) := by decide +kernel
theorem dX9_cross_1 : decode cX9_cross 1 = .ok (.iload_n 1, 1) := by decide +kernel
theorem dX9_cross_2 : decode cX9_cross 2 = .ok (.invokevirtual 133, 3) := by decide +kernel
theorem dX9_cross_5 : decode cX9_cross 5 = .ok (.ifCond .eq 23, 3) := by decide +kernel
theorem dX9_cross_8 : decode cX9_cross 8 = .ok (.aload_n 0, 1) := by decide +kernel
theorem dX9_cross_9 : decode cX9_cross 9 = .ok (.iload_n 2, 1) := by decide +kernel
theorem dX9_cross_10 : decode cX9_cross 10 = .ok (.invokevirtual 161, 3) := by decide +kernel
theorem dX9_cross_13 : decode cX9_cross 13 = .ok (.ifCond .eq 15, 3) := by decide +kernel
theorem dX9_cross_16 : decode cX9_cross 16 = .ok (.aload_n 0, 1) := by decide +kernel
theorem dX9_cross_17 : decode cX9_cross 17 = .ok (.getfield 71, 3) := by decide +kernel
theorem dX9_cross_20 : decode cX9_cross 20 = .ok (.iload_n 1, 1) := by decide +kernel
theorem dX9_cross_21 : decode cX9_cross 21 = .ok (.iload_n 2, 1) := by decide +kernel
theorem dX9_cross_22 : decode cX9_cross 22 = .ok (.invokevirtual 205, 3) := by decide +kernel
theorem dX9_cross_25 : decode cX9_cross 25 = .ok (.ifCond .ne 5, 3) := by decide +kernel
theorem dX9_cross_28 : decode cX9_cross 28 = .ok (.iconst (-1), 1) := by decide +kernel
theorem dX9_cross_29 : decode cX9_cross 29 = .ok (.ireturn, 1) := by decide +kernel
theorem dX9_cross_30 : decode cX9_cross 30 = .ok (.aload_n 0, 1) := by decide +kernel
theorem dX9_cross_31 : decode cX9_cross 31 = .ok (.invokevirtual 209, 3) := by decide +kernel
theorem dX9_cross_34 : decode cX9_cross 34 = .ok (.aload_n 0, 1) := by decide +kernel
theorem dX9_cross_35 : decode cX9_cross 35 = .ok (.getfield 71, 3) := by decide +kernel
theorem dX9_cross_38 : decode cX9_cross 38 = .ok (.iload_n 1, 1) := by decide +kernel
theorem dX9_cross_39 : decode cX9_cross 39 = .ok (.iload_n 2, 1) := by decide +kernel
theorem dX9_cross_40 : decode cX9_cross 40 = .ok (.invokevirtual 212, 3) := by decide +kernel
theorem dX9_cross_43 : decode cX9_cross 43 = .ok (.aload_n 0, 1) := by decide +kernel
theorem dX9_cross_44 : decode cX9_cross 44 = .ok (.getfield 71, 3) := by decide +kernel
theorem dX9_cross_47 : decode cX9_cross 47 = .ok (.getfield 137, 3) := by decide +kernel
theorem dX9_cross_50 : decode cX9_cross 50 = .ok (.iload_n 1, 1) := by decide +kernel
theorem dX9_cross_51 : decode cX9_cross 51 = .ok (.iaload, 1) := by decide +kernel
theorem dX9_cross_52 : decode cX9_cross 52 = .ok (.ireturn, 1) := by decide +kernel
theorem dX9_sail_0 : decode cX9_sail 0 = .ok (.aload_n 0, 1) := by decide +kernel
theorem dX9_sail_1 : decode cX9_sail 1 = .ok (.getfield 71, 3) := by decide +kernel
theorem dX9_sail_4 : decode cX9_sail 4 = .ok (.getfield 140, 3) := by decide +kernel
theorem dX9_sail_7 : decode cX9_sail 7 = .ok (.getfield 182, 3) := by decide +kernel
theorem dX9_sail_10 : decode cX9_sail 10 = .ok (.astore_n 3, 1) := by decide +kernel
theorem dX9_sail_11 : decode cX9_sail 11 = .ok (.aload_n 0, 1) := by decide +kernel
theorem dX9_sail_12 : decode cX9_sail 12 = .ok (.iload_n 1, 1) := by decide +kernel
theorem dX9_sail_13 : decode cX9_sail 13 = .ok (.invokevirtual 133, 3) := by decide +kernel
theorem dX9_sail_16 : decode cX9_sail 16 = .ok (.ifCond .eq 25, 3) := by decide +kernel
theorem dX9_sail_19 : decode cX9_sail 19 = .ok (.iload_n 2, 1) := by decide +kernel
theorem dX9_sail_20 : decode cX9_sail 20 = .ok (.ifCond .lt 21, 3) := by decide +kernel
theorem dX9_sail_23 : decode cX9_sail 23 = .ok (.iload_n 2, 1) := by decide +kernel
theorem dX9_sail_24 : decode cX9_sail 24 = .ok (.aload_n 3, 1) := by decide +kernel
theorem dX9_sail_25 : decode cX9_sail 25 = .ok (.getfield 127, 3) := by decide +kernel
theorem dX9_sail_28 : decode cX9_sail 28 = .ok (.if_icmp .ge 13, 3) := by decide +kernel
theorem dX9_sail_31 : decode cX9_sail 31 = .ok (.aload_n 0, 1) := by decide +kernel
theorem dX9_sail_32 : decode cX9_sail 32 = .ok (.getfield 71, 3) := by decide +kernel
theorem dX9_sail_35 : decode cX9_sail 35 = .ok (.invokevirtual 194, 3) := by decide +kernel
theorem dX9_sail_38 : decode cX9_sail 38 = .ok (.ifCond .eq 5, 3) := by decide +kernel
theorem dX9_sail_41 : decode cX9_sail 41 = .ok (.iconst (-1), 1) := by decide +kernel
theorem dX9_sail_42 : decode cX9_sail 42 = .ok (.ireturn, 1) := by decide +kernel
theorem dX9_sail_43 : decode cX9_sail 43 = .ok (.aload_n 3, 1) := by decide +kernel
theorem dX9_sail_44 : decode cX9_sail 44 = .ok (.iload_n 2, 1) := by decide +kernel
theorem dX9_sail_45 : decode cX9_sail 45 = .ok (.aload_n 0, 1) := by decide +kernel
theorem dX9_sail_46 : decode cX9_sail 46 = .ok (.getfield 71, 3) := by decide +kernel
theorem dX9_sail_49 : decode cX9_sail 49 = .ok (.getfield 137, 3) := by decide +kernel
theorem dX9_sail_52 : decode cX9_sail 52 = .ok (.iload_n 1, 1) := by decide +kernel
theorem dX9_sail_53 : decode cX9_sail 53 = .ok (.iaload, 1) := by decide +kernel
theorem dX9_sail_54 : decode cX9_sail 54 = .ok (.invokevirtual 216, 3) := by decide +kernel
theorem dX9_sail_57 : decode cX9_sail 57 = .ok (.istore 4, 2) := by decide +kernel
theorem dX9_sail_59 : decode cX9_sail 59 = .ok (.iload 4, 2) := by decide +kernel
theorem dX9_sail_61 : decode cX9_sail 61 = .ok (.iconst (-1), 1) := by decide +kernel
theorem dX9_sail_62 : decode cX9_sail 62 = .ok (.if_icmp .ne 5, 3) := by decide +kernel
theorem dX9_sail_65 : decode cX9_sail 65 = .ok (.iconst (-1), 1) := by decide +kernel
theorem dX9_sail_66 : decode cX9_sail 66 = .ok (.ireturn, 1) := by decide +kernel
theorem dX9_sail_67 : decode cX9_sail 67 = .ok (.aload_n 0, 1) := by decide +kernel
theorem dX9_sail_68 : decode cX9_sail 68 = .ok (.invokevirtual 209, 3) := by decide +kernel
theorem dX9_sail_71 : decode cX9_sail 71 = .ok (.aload_n 0, 1) := by decide +kernel
theorem dX9_sail_72 : decode cX9_sail 72 = .ok (.getfield 71, 3) := by decide +kernel
theorem dX9_sail_75 : decode cX9_sail 75 = .ok (.getfield 137, 3) := by decide +kernel
theorem dX9_sail_78 : decode cX9_sail 78 = .ok (.iload_n 1, 1) := by decide +kernel
theorem dX9_sail_79 : decode cX9_sail 79 = .ok (.iload 4, 2) := by decide +kernel
theorem dX9_sail_81 : decode cX9_sail 81 = .ok (.iastore, 1) := by decide +kernel
theorem dX9_sail_82 : decode cX9_sail 82 = .ok (.iload 4, 2) := by decide +kernel
theorem dX9_sail_84 : decode cX9_sail 84 = .ok (.ireturn, 1) := by decide +kernel
theorem dX9_carry_0 : decode cX9_carry 0 = .ok (.aload_n 0, 1) := by decide +kernel
theorem dX9_carry_1 : decode cX9_carry 1 = .ok (.iload_n 1, 1) := by decide +kernel
theorem dX9_carry_2 : decode cX9_carry 2 = .ok (.iload_n 2, 1) := by decide +kernel
theorem dX9_carry_3 : decode cX9_carry 3 = .ok (.invokevirtual 219, 3) := by decide +kernel
theorem dX9_carry_6 : decode cX9_carry 6 = .ok (.ifCond .eq 11, 3) := by decide +kernel
theorem dX9_carry_9 : decode cX9_carry 9 = .ok (.aload_n 0, 1) := by decide +kernel
theorem dX9_carry_10 : decode cX9_carry 10 = .ok (.iload_n 3, 1) := by decide +kernel
theorem dX9_carry_11 : decode cX9_carry 11 = .ok (.invokevirtual 161, 3) := by decide +kernel
theorem dX9_carry_14 : decode cX9_carry 14 = .ok (.ifCond .ne 5, 3) := by decide +kernel
theorem dX9_carry_17 : decode cX9_carry 17 = .ok (.iconst (-1), 1) := by decide +kernel
theorem dX9_carry_18 : decode cX9_carry 18 = .ok (.ireturn, 1) := by decide +kernel
theorem dX9_carry_19 : decode cX9_carry 19 = .ok (.aload_n 0, 1) := by decide +kernel
theorem dX9_carry_20 : decode cX9_carry 20 = .ok (.getfield 71, 3) := by decide +kernel
theorem dX9_carry_23 : decode cX9_carry 23 = .ok (.getfield 137, 3) := by decide +kernel
theorem dX9_carry_26 : decode cX9_carry 26 = .ok (.iload_n 1, 1) := by decide +kernel
theorem dX9_carry_27 : decode cX9_carry 27 = .ok (.iaload, 1) := by decide +kernel
theorem dX9_carry_28 : decode cX9_carry 28 = .ok (.aload_n 0, 1) := by decide +kernel
theorem dX9_carry_29 : decode cX9_carry 29 = .ok (.getfield 71, 3) := by decide +kernel
theorem dX9_carry_32 : decode cX9_carry 32 = .ok (.getfield 137, 3) := by decide +kernel
theorem dX9_carry_35 : decode cX9_carry 35 = .ok (.iload_n 2, 1) := by decide +kernel
theorem dX9_carry_36 : decode cX9_carry 36 = .ok (.iaload, 1) := by decide +kernel
theorem dX9_carry_37 : decode cX9_carry 37 = .ok (.if_icmp .ne 15, 3) := by decide +kernel
theorem dX9_carry_40 : decode cX9_carry 40 = .ok (.aload_n 0, 1) := by decide +kernel
theorem dX9_carry_41 : decode cX9_carry 41 = .ok (.getfield 71, 3) := by decide +kernel
theorem dX9_carry_44 : decode cX9_carry 44 = .ok (.iload_n 1, 1) := by decide +kernel
theorem dX9_carry_45 : decode cX9_carry 45 = .ok (.iload_n 3, 1) := by decide +kernel
theorem dX9_carry_46 : decode cX9_carry 46 = .ok (.invokevirtual 205, 3) := by decide +kernel
theorem dX9_carry_49 : decode cX9_carry 49 = .ok (.ifCond .ne 5, 3) := by decide +kernel
theorem dX9_carry_52 : decode cX9_carry 52 = .ok (.iconst (-1), 1) := by decide +kernel
theorem dX9_carry_53 : decode cX9_carry 53 = .ok (.ireturn, 1) := by decide +kernel
theorem dX9_carry_54 : decode cX9_carry 54 = .ok (.aload_n 0, 1) := by decide +kernel
theorem dX9_carry_55 : decode cX9_carry 55 = .ok (.invokevirtual 209, 3) := by decide +kernel
theorem dX9_carry_58 : decode cX9_carry 58 = .ok (.aload_n 0, 1) := by decide +kernel
theorem dX9_carry_59 : decode cX9_carry 59 = .ok (.getfield 71, 3) := by decide +kernel
theorem dX9_carry_62 : decode cX9_carry 62 = .ok (.iload_n 1, 1) := by decide +kernel
theorem dX9_carry_63 : decode cX9_carry 63 = .ok (.iload_n 3, 1) := by decide +kernel
theorem dX9_carry_64 : decode cX9_carry 64 = .ok (.invokevirtual 212, 3) := by decide +kernel
theorem dX9_carry_67 : decode cX9_carry 67 = .ok (.aload_n 0, 1) := by decide +kernel
theorem dX9_carry_68 : decode cX9_carry 68 = .ok (.getfield 71, 3) := by decide +kernel
theorem dX9_carry_71 : decode cX9_carry 71 = .ok (.getfield 137, 3) := by decide +kernel
theorem dX9_carry_74 : decode cX9_carry 74 = .ok (.iload_n 2, 1) := by decide +kernel
theorem dX9_carry_75 : decode cX9_carry 75 = .ok (.aload_n 0, 1) := by decide +kernel
theorem dX9_carry_76 : decode cX9_carry 76 = .ok (.getfield 71, 3) := by decide +kernel
theorem dX9_carry_79 : decode cX9_carry 79 = .ok (.getfield 137, 3) := by decide +kernel
theorem dX9_carry_82 : decode cX9_carry 82 = .ok (.iload_n 1, 1) := by decide +kernel
theorem dX9_carry_83 : decode cX9_carry 83 = .ok (.iaload, 1) := by decide +kernel
theorem dX9_carry_84 : decode cX9_carry 84 = .ok (.iastore, 1) := by decide +kernel
theorem dX9_carry_85 : decode cX9_carry 85 = .ok (.aload_n 0, 1) := by decide +kernel
theorem dX9_carry_86 : decode cX9_carry 86 = .ok (.getfield 71, 3) := by decide +kernel
theorem dX9_carry_89 : decode cX9_carry 89 = .ok (.getfield 137, 3) := by decide +kernel
theorem dX9_carry_92 : decode cX9_carry 92 = .ok (.iload_n 1, 1) := by decide +kernel
theorem dX9_carry_93 : decode cX9_carry 93 = .ok (.iaload, 1) := by decide +kernel
theorem dX9_carry_94 : decode cX9_carry 94 = .ok (.ireturn, 1) := by decide +kernel
theorem dX9_rebuild_0 : decode cX9_rebuild 0 = .ok (.aload_n 0, 1) := by decide +kernel
theorem dX9_rebuild_1 : decode cX9_rebuild 1 = .ok (.iload_n 1, 1) := by decide +kernel
theorem dX9_rebuild_2 : decode cX9_rebuild 2 = .ok (.invokevirtual 161, 3) := by decide +kernel
theorem dX9_rebuild_5 : decode cX9_rebuild 5 = .ok (.ifCond .ne 5, 3) := by decide +kernel
theorem dX9_rebuild_8 : decode cX9_rebuild 8 = .ok (.iconst (-1), 1) := by decide +kernel
theorem dX9_rebuild_9 : decode cX9_rebuild 9 = .ok (.ireturn, 1) := by decide +kernel
theorem dX9_rebuild_10 : decode cX9_rebuild 10 = .ok (.aload_n 0, 1) := by decide +kernel
theorem dX9_rebuild_11 : decode cX9_rebuild 11 = .ok (.getfield 71, 3) := by decide +kernel
theorem dX9_rebuild_14 : decode cX9_rebuild 14 = .ok (.iload_n 1, 1) := by decide +kernel
theorem dX9_rebuild_15 : decode cX9_rebuild 15 = .ok (.invokevirtual 173, 3) := by decide +kernel
theorem dX9_rebuild_18 : decode cX9_rebuild 18 = .ok (.istore_n 2, 1) := by decide +kernel
theorem dX9_rebuild_19 : decode cX9_rebuild 19 = .ok (.iload_n 2, 1) := by decide +kernel
theorem dX9_rebuild_20 : decode cX9_rebuild 20 = .ok (.ifCond .ne 5, 3) := by decide +kernel
theorem dX9_rebuild_23 : decode cX9_rebuild 23 = .ok (.iconst (-1), 1) := by decide +kernel
theorem dX9_rebuild_24 : decode cX9_rebuild 24 = .ok (.ireturn, 1) := by decide +kernel
theorem dX9_rebuild_25 : decode cX9_rebuild 25 = .ok (.aload_n 0, 1) := by decide +kernel
theorem dX9_rebuild_26 : decode cX9_rebuild 26 = .ok (.invokevirtual 209, 3) := by decide +kernel
theorem dX9_rebuild_29 : decode cX9_rebuild 29 = .ok (.aload_n 0, 1) := by decide +kernel
theorem dX9_rebuild_30 : decode cX9_rebuild 30 = .ok (.getfield 71, 3) := by decide +kernel
theorem dX9_rebuild_33 : decode cX9_rebuild 33 = .ok (.iload_n 1, 1) := by decide +kernel
theorem dX9_rebuild_34 : decode cX9_rebuild 34 = .ok (.invokevirtual 222, 3) := by decide +kernel
theorem dX9_rebuild_37 : decode cX9_rebuild 37 = .ok (.iload_n 2, 1) := by decide +kernel
theorem dX9_rebuild_38 : decode cX9_rebuild 38 = .ok (.ireturn, 1) := by decide +kernel
theorem dX9_day_0 : decode cX9_day 0 = .ok (.aload_n 0, 1) := by decide +kernel
theorem dX9_day_1 : decode cX9_day 1 = .ok (.invokevirtual 225, 3) := by decide +kernel
theorem dX9_day_4 : decode cX9_day 4 = .ok (.ifCond .eq 16, 3) := by decide +kernel
theorem dX9_day_7 : decode cX9_day 7 = .ok (.aload_n 0, 1) := by decide +kernel
theorem dX9_day_8 : decode cX9_day 8 = .ok (.getfield 71, 3) := by decide +kernel
theorem dX9_day_11 : decode cX9_day 11 = .ok (.getfield 191, 3) := by decide +kernel
theorem dX9_day_14 : decode cX9_day 14 = .ok (.sipush 999, 3) := by decide +kernel
theorem dX9_day_17 : decode cX9_day 17 = .ok (.if_icmp .lt 5, 3) := by decide +kernel
theorem dX9_day_20 : decode cX9_day 20 = .ok (.iconst (-1), 1) := by decide +kernel
theorem dX9_day_21 : decode cX9_day 21 = .ok (.ireturn, 1) := by decide +kernel
theorem dX9_day_22 : decode cX9_day 22 = .ok (.aload_n 0, 1) := by decide +kernel
theorem dX9_day_23 : decode cX9_day 23 = .ok (.invokevirtual 209, 3) := by decide +kernel
theorem dX9_day_26 : decode cX9_day 26 = .ok (.aload_n 0, 1) := by decide +kernel
theorem dX9_day_27 : decode cX9_day 27 = .ok (.getfield 71, 3) := by decide +kernel
theorem dX9_day_30 : decode cX9_day 30 = .ok (.invokevirtual 228, 3) := by decide +kernel
theorem dX9_day_33 : decode cX9_day 33 = .ok (.ireturn, 1) := by decide +kernel
theorem dX9_undo_0 : decode cX9_undo 0 = .ok (.aload_n 0, 1) := by decide +kernel
theorem dX9_undo_1 : decode cX9_undo 1 = .ok (.getfield 35, 3) := by decide +kernel
theorem dX9_undo_4 : decode cX9_undo 4 = .ok (.ifCond .ne 5, 3) := by decide +kernel
theorem dX9_undo_7 : decode cX9_undo 7 = .ok (.iconst (-1), 1) := by decide +kernel
theorem dX9_undo_8 : decode cX9_undo 8 = .ok (.ireturn, 1) := by decide +kernel
theorem dX9_undo_9 : decode cX9_undo 9 = .ok (.aload_n 0, 1) := by decide +kernel
theorem dX9_undo_10 : decode cX9_undo 10 = .ok (.dup, 1) := by decide +kernel
theorem dX9_undo_11 : decode cX9_undo 11 = .ok (.getfield 35, 3) := by decide +kernel
theorem dX9_undo_14 : decode cX9_undo 14 = .ok (.iconst 1, 1) := by decide +kernel
theorem dX9_undo_15 : decode cX9_undo 15 = .ok (.isub, 1) := by decide +kernel
theorem dX9_undo_16 : decode cX9_undo 16 = .ok (.putfield 35, 3) := by decide +kernel
theorem dX9_undo_19 : decode cX9_undo 19 = .ok (.aload_n 0, 1) := by decide +kernel
theorem dX9_undo_20 : decode cX9_undo 20 = .ok (.getfield 71, 3) := by decide +kernel
theorem dX9_undo_23 : decode cX9_undo 23 = .ok (.aload_n 0, 1) := by decide +kernel
theorem dX9_undo_24 : decode cX9_undo 24 = .ok (.getfield 28, 3) := by decide +kernel
theorem dX9_undo_27 : decode cX9_undo 27 = .ok (.aload_n 0, 1) := by decide +kernel
theorem dX9_undo_28 : decode cX9_undo 28 = .ok (.getfield 32, 3) := by decide +kernel
theorem dX9_undo_31 : decode cX9_undo 31 = .ok (.aload_n 0, 1) := by decide +kernel
theorem dX9_undo_32 : decode cX9_undo 32 = .ok (.getfield 35, 3) := by decide +kernel
theorem dX9_undo_35 : decode cX9_undo 35 = .ok (.iadd, 1) := by decide +kernel
theorem dX9_undo_36 : decode cX9_undo 36 = .ok (.bipush 20, 2) := by decide +kernel
theorem dX9_undo_38 : decode cX9_undo 38 = .ok (.irem, 1) := by decide +kernel
theorem dX9_undo_39 : decode cX9_undo 39 = .ok (.aaload, 1) := by decide +kernel
theorem dX9_undo_40 : decode cX9_undo 40 = .ok (.invokevirtual 231, 3) := by decide +kernel
theorem dX9_undo_43 : decode cX9_undo 43 = .ok (.aload_n 0, 1) := by decide +kernel
theorem dX9_undo_44 : decode cX9_undo 44 = .ok (.getfield 35, 3) := by decide +kernel
theorem dX9_undo_47 : decode cX9_undo 47 = .ok (.ireturn, 1) := by decide +kernel
theorem dX9_run_0 : decode cX9_run 0 = .ok (.aload_n 0, 1) := by decide +kernel
theorem dX9_run_1 : decode cX9_run 1 = .ok (.invokevirtual 225, 3) := by decide +kernel
theorem dX9_run_4 : decode cX9_run 4 = .ok (.ifCond .eq 26, 3) := by decide +kernel
theorem dX9_run_7 : decode cX9_run 7 = .ok (.iload_n 1, 1) := by decide +kernel
theorem dX9_run_8 : decode cX9_run 8 = .ok (.ifCond .lt 22, 3) := by decide +kernel
theorem dX9_run_11 : decode cX9_run 11 = .ok (.iload_n 1, 1) := by decide +kernel
theorem dX9_run_12 : decode cX9_run 12 = .ok (.aload_n 0, 1) := by decide +kernel
theorem dX9_run_13 : decode cX9_run 13 = .ok (.getfield 22, 3) := by decide +kernel
theorem dX9_run_16 : decode cX9_run 16 = .ok (.if_icmp .ge 14, 3) := by decide +kernel
theorem dX9_run_19 : decode cX9_run 19 = .ok (.iload_n 2, 1) := by decide +kernel
theorem dX9_run_20 : decode cX9_run 20 = .ok (.iconst 1, 1) := by decide +kernel
theorem dX9_run_21 : decode cX9_run 21 = .ok (.if_icmp .lt 9, 3) := by decide +kernel
theorem dX9_run_24 : decode cX9_run 24 = .ok (.iload_n 2, 1) := by decide +kernel
theorem dX9_run_25 : decode cX9_run 25 = .ok (.bipush 60, 2) := by decide +kernel
theorem dX9_run_27 : decode cX9_run 27 = .ok (.if_icmp .le 5, 3) := by decide +kernel
theorem dX9_run_30 : decode cX9_run 30 = .ok (.iconst (-1), 1) := by decide +kernel
theorem dX9_run_31 : decode cX9_run 31 = .ok (.ireturn, 1) := by decide +kernel
theorem dX9_run_32 : decode cX9_run 32 = .ok (.aload_n 0, 1) := by decide +kernel
theorem dX9_run_33 : decode cX9_run 33 = .ok (.getfield 71, 3) := by decide +kernel
theorem dX9_run_36 : decode cX9_run 36 = .ok (.getfield 191, 3) := by decide +kernel
theorem dX9_run_39 : decode cX9_run 39 = .ok (.iload_n 2, 1) := by decide +kernel
theorem dX9_run_40 : decode cX9_run 40 = .ok (.iadd, 1) := by decide +kernel
theorem dX9_run_41 : decode cX9_run 41 = .ok (.sipush 999, 3) := by decide +kernel
theorem dX9_run_44 : decode cX9_run 44 = .ok (.if_icmp .le 5, 3) := by decide +kernel
theorem dX9_run_47 : decode cX9_run 47 = .ok (.iconst (-1), 1) := by decide +kernel
theorem dX9_run_48 : decode cX9_run 48 = .ok (.ireturn, 1) := by decide +kernel
theorem dX9_run_49 : decode cX9_run 49 = .ok (.aload_n 0, 1) := by decide +kernel
theorem dX9_run_50 : decode cX9_run 50 = .ok (.invokevirtual 124, 3) := by decide +kernel
theorem dX9_run_53 : decode cX9_run 53 = .ok (.iconst 0, 1) := by decide +kernel
theorem dX9_run_54 : decode cX9_run 54 = .ok (.istore_n 3, 1) := by decide +kernel
theorem dX9_run_55 : decode cX9_run 55 = .ok (.iconst 0, 1) := by decide +kernel
theorem dX9_run_56 : decode cX9_run 56 = .ok (.istore 4, 2) := by decide +kernel
theorem dX9_run_58 : decode cX9_run 58 = .ok (.iload 4, 2) := by decide +kernel
theorem dX9_run_60 : decode cX9_run 60 = .ok (.iload_n 2, 1) := by decide +kernel
theorem dX9_run_61 : decode cX9_run 61 = .ok (.if_icmp .ge 55, 3) := by decide +kernel
theorem dX9_run_64 : decode cX9_run 64 = .ok (.iconst 0, 1) := by decide +kernel
theorem dX9_run_65 : decode cX9_run 65 = .ok (.istore 5, 2) := by decide +kernel
theorem dX9_run_67 : decode cX9_run 67 = .ok (.iload 5, 2) := by decide +kernel
theorem dX9_run_69 : decode cX9_run 69 = .ok (.aload_n 0, 1) := by decide +kernel
theorem dX9_run_70 : decode cX9_run 70 = .ok (.getfield 71, 3) := by decide +kernel
theorem dX9_run_73 : decode cX9_run 73 = .ok (.getfield 140, 3) := by decide +kernel
theorem dX9_run_76 : decode cX9_run 76 = .ok (.getfield 185, 3) := by decide +kernel
theorem dX9_run_79 : decode cX9_run 79 = .ok (.if_icmp .ge 21, 3) := by decide +kernel
theorem dX9_run_82 : decode cX9_run 82 = .ok (.aload_n 0, 1) := by decide +kernel
theorem dX9_run_83 : decode cX9_run 83 = .ok (.aload_n 0, 1) := by decide +kernel
theorem dX9_run_84 : decode cX9_run 84 = .ok (.getfield 18, 3) := by decide +kernel
theorem dX9_run_87 : decode cX9_run 87 = .ok (.iload_n 1, 1) := by decide +kernel
theorem dX9_run_88 : decode cX9_run 88 = .ok (.aaload, 1) := by decide +kernel
theorem dX9_run_89 : decode cX9_run 89 = .ok (.iload 5, 2) := by decide +kernel
theorem dX9_run_91 : decode cX9_run 91 = .ok (.invokevirtual 235, 3) := by decide +kernel
theorem dX9_run_94 : decode cX9_run 94 = .ok (.iinc 5 1, 3) := by decide +kernel
theorem dX9_run_97 : decode cX9_run 97 = .ok (.goto (-30), 3) := by decide +kernel
theorem dX9_run_100 : decode cX9_run 100 = .ok (.iload_n 3, 1) := by decide +kernel
theorem dX9_run_101 : decode cX9_run 101 = .ok (.aload_n 0, 1) := by decide +kernel
theorem dX9_run_102 : decode cX9_run 102 = .ok (.getfield 71, 3) := by decide +kernel
theorem dX9_run_105 : decode cX9_run 105 = .ok (.invokevirtual 228, 3) := by decide +kernel
theorem dX9_run_108 : decode cX9_run 108 = .ok (.iadd, 1) := by decide +kernel
theorem dX9_run_109 : decode cX9_run 109 = .ok (.istore_n 3, 1) := by decide +kernel
theorem dX9_run_110 : decode cX9_run 110 = .ok (.iinc 4 1, 3) := by decide +kernel
theorem dX9_run_113 : decode cX9_run 113 = .ok (.goto (-55), 3) := by decide +kernel
theorem dX9_run_116 : decode cX9_run 116 = .ok (.iload_n 3, 1) := by decide +kernel
theorem dX9_run_117 : decode cX9_run 117 = .ok (.ireturn, 1) := by decide +kernel
theorem dX9_way_0 : decode cX9_way 0 = .ok (.aload_n 0, 1) := by decide +kernel
theorem dX9_way_1 : decode cX9_way 1 = .ok (.iload_n 1, 1) := by decide +kernel
theorem dX9_way_2 : decode cX9_way 2 = .ok (.invokevirtual 133, 3) := by decide +kernel
theorem dX9_way_5 : decode cX9_way 5 = .ok (.ifCond .eq 30, 3) := by decide +kernel
theorem dX9_way_8 : decode cX9_way 8 = .ok (.iload_n 2, 1) := by decide +kernel
theorem dX9_way_9 : decode cX9_way 9 = .ok (.ifCond .lt 26, 3) := by decide +kernel
theorem dX9_way_12 : decode cX9_way 12 = .ok (.iload_n 2, 1) := by decide +kernel
theorem dX9_way_13 : decode cX9_way 13 = .ok (.aload_n 0, 1) := by decide +kernel
theorem dX9_way_14 : decode cX9_way 14 = .ok (.getfield 71, 3) := by decide +kernel
theorem dX9_way_17 : decode cX9_way 17 = .ok (.getfield 140, 3) := by decide +kernel
theorem dX9_way_20 : decode cX9_way 20 = .ok (.getfield 176, 3) := by decide +kernel
theorem dX9_way_23 : decode cX9_way 23 = .ok (.if_icmp .ge 12, 3) := by decide +kernel
theorem dX9_way_26 : decode cX9_way 26 = .ok (.iload_n 3, 1) := by decide +kernel
theorem dX9_way_27 : decode cX9_way 27 = .ok (.ifCond .lt 8, 3) := by decide +kernel
theorem dX9_way_30 : decode cX9_way 30 = .ok (.iload_n 3, 1) := by decide +kernel
theorem dX9_way_31 : decode cX9_way 31 = .ok (.iconst 1, 1) := by decide +kernel
theorem dX9_way_32 : decode cX9_way 32 = .ok (.if_icmp .le 6, 3) := by decide +kernel
theorem dX9_way_35 : decode cX9_way 35 = .ok (.bipush (-3), 2) := by decide +kernel
theorem dX9_way_37 : decode cX9_way 37 = .ok (.ireturn, 1) := by decide +kernel
theorem dX9_way_38 : decode cX9_way 38 = .ok (.aload_n 0, 1) := by decide +kernel
theorem dX9_way_39 : decode cX9_way 39 = .ok (.getfield 71, 3) := by decide +kernel
theorem dX9_way_42 : decode cX9_way 42 = .ok (.iload_n 1, 1) := by decide +kernel
theorem dX9_way_43 : decode cX9_way 43 = .ok (.iload_n 2, 1) := by decide +kernel
theorem dX9_way_44 : decode cX9_way 44 = .ok (.aload_n 0, 1) := by decide +kernel
theorem dX9_way_45 : decode cX9_way 45 = .ok (.getfield 52, 3) := by decide +kernel
theorem dX9_way_48 : decode cX9_way 48 = .ok (.invokevirtual 239, 3) := by decide +kernel
theorem dX9_way_51 : decode cX9_way 51 = .ok (.aload_n 0, 1) := by decide +kernel
theorem dX9_way_52 : decode cX9_way 52 = .ok (.getfield 52, 3) := by decide +kernel
theorem dX9_way_55 : decode cX9_way 55 = .ok (.aload_n 0, 1) := by decide +kernel
theorem dX9_way_56 : decode cX9_way 56 = .ok (.getfield 71, 3) := by decide +kernel
theorem dX9_way_59 : decode cX9_way 59 = .ok (.getfield 137, 3) := by decide +kernel
theorem dX9_way_62 : decode cX9_way 62 = .ok (.iload_n 1, 1) := by decide +kernel
theorem dX9_way_63 : decode cX9_way 63 = .ok (.iaload, 1) := by decide +kernel
theorem dX9_way_64 : decode cX9_way 64 = .ok (.iaload, 1) := by decide +kernel
theorem dX9_way_65 : decode cX9_way 65 = .ok (.istore 4, 2) := by decide +kernel
theorem dX9_way_67 : decode cX9_way 67 = .ok (.iload 4, 2) := by decide +kernel
theorem dX9_way_69 : decode cX9_way 69 = .ok (.bipush 99, 2) := by decide +kernel
theorem dX9_way_71 : decode cX9_way 71 = .ok (.if_icmp .ne 6, 3) := by decide +kernel
theorem dX9_way_74 : decode cX9_way 74 = .ok (.bipush (-2), 2) := by decide +kernel
theorem dX9_way_76 : decode cX9_way 76 = .ok (.ireturn, 1) := by decide +kernel
theorem dX9_way_77 : decode cX9_way 77 = .ok (.iload_n 3, 1) := by decide +kernel
theorem dX9_way_78 : decode cX9_way 78 = .ok (.ifCond .ne 8, 3) := by decide +kernel
theorem dX9_way_81 : decode cX9_way 81 = .ok (.iload 4, 2) := by decide +kernel
theorem dX9_way_83 : decode cX9_way 83 = .ok (.goto 15, 3) := by decide +kernel
theorem dX9_way_86 : decode cX9_way 86 = .ok (.aload_n 0, 1) := by decide +kernel
theorem dX9_way_87 : decode cX9_way 87 = .ok (.getfield 71, 3) := by decide +kernel
theorem dX9_way_90 : decode cX9_way 90 = .ok (.iload_n 1, 1) := by decide +kernel
theorem dX9_way_91 : decode cX9_way 91 = .ok (.aload_n 0, 1) := by decide +kernel
theorem dX9_way_92 : decode cX9_way 92 = .ok (.getfield 52, 3) := by decide +kernel
theorem dX9_way_95 : decode cX9_way 95 = .ok (.invokevirtual 243, 3) := by decide +kernel
theorem dX9_way_98 : decode cX9_way 98 = .ok (.ireturn, 1) := by decide +kernel
theorem dX9_life_0 : decode cX9_life 0 = .ok (.aload_n 0, 1) := by decide +kernel
theorem dX9_life_1 : decode cX9_life 1 = .ok (.iload_n 1, 1) := by decide +kernel
theorem dX9_life_2 : decode cX9_life 2 = .ok (.iload_n 2, 1) := by decide +kernel
theorem dX9_life_3 : decode cX9_life 3 = .ok (.invokevirtual 247, 3) := by decide +kernel
theorem dX9_life_6 : decode cX9_life 6 = .ok (.ifCond .eq 13, 3) := by decide +kernel
theorem dX9_life_9 : decode cX9_life 9 = .ok (.iload_n 3, 1) := by decide +kernel
theorem dX9_life_10 : decode cX9_life 10 = .ok (.ifCond .lt 9, 3) := by decide +kernel
theorem dX9_life_13 : decode cX9_life 13 = .ok (.iload_n 3, 1) := by decide +kernel
theorem dX9_life_14 : decode cX9_life 14 = .ok (.bipush 6, 2) := by decide +kernel
theorem dX9_life_16 : decode cX9_life 16 = .ok (.if_icmp .le 6, 3) := by decide +kernel
theorem dX9_life_19 : decode cX9_life 19 = .ok (.bipush (-3), 2) := by decide +kernel
theorem dX9_life_21 : decode cX9_life 21 = .ok (.ireturn, 1) := by decide +kernel
theorem dX9_life_22 : decode cX9_life 22 = .ok (.aload_n 0, 1) := by decide +kernel
theorem dX9_life_23 : decode cX9_life 23 = .ok (.getfield 81, 3) := by decide +kernel
theorem dX9_life_26 : decode cX9_life 26 = .ok (.aload_n 0, 1) := by decide +kernel
theorem dX9_life_27 : decode cX9_life 27 = .ok (.getfield 71, 3) := by decide +kernel
theorem dX9_life_30 : decode cX9_life 30 = .ok (.iload_n 1, 1) := by decide +kernel
theorem dX9_life_31 : decode cX9_life 31 = .ok (.iload_n 2, 1) := by decide +kernel
theorem dX9_life_32 : decode cX9_life 32 = .ok (.invokevirtual 250, 3) := by decide +kernel
theorem dX9_life_35 : decode cX9_life 35 = .ok (.aload_n 0, 1) := by decide +kernel
theorem dX9_life_36 : decode cX9_life 36 = .ok (.getfield 81, 3) := by decide +kernel
theorem dX9_life_39 : decode cX9_life 39 = .ok (.invokevirtual 254, 3) := by decide +kernel
theorem dX9_life_42 : decode cX9_life 42 = .ok (.aload_n 0, 1) := by decide +kernel
theorem dX9_life_43 : decode cX9_life 43 = .ok (.getfield 81, 3) := by decide +kernel
theorem dX9_life_46 : decode cX9_life 46 = .ok (.getfield 257, 3) := by decide +kernel
theorem dX9_life_49 : decode cX9_life 49 = .ok (.ifCond .lt 8, 3) := by decide +kernel
theorem dX9_life_52 : decode cX9_life 52 = .ok (.iload_n 3, 1) := by decide +kernel
theorem dX9_life_53 : decode cX9_life 53 = .ok (.iload_n 2, 1) := by decide +kernel
theorem dX9_life_54 : decode cX9_life 54 = .ok (.if_icmp .le 6, 3) := by decide +kernel
theorem dX9_life_57 : decode cX9_life 57 = .ok (.bipush (-2), 2) := by decide +kernel
theorem dX9_life_59 : decode cX9_life 59 = .ok (.ireturn, 1) := by decide +kernel
theorem dX9_life_60 : decode cX9_life 60 = .ok (.iload_n 3, 1) := by decide +kernel
theorem dX9_life_61 : decode cX9_life 61 = .ok (.ifCond .ne 13, 3) := by decide +kernel
theorem dX9_life_64 : decode cX9_life 64 = .ok (.aload_n 0, 1) := by decide +kernel
theorem dX9_life_65 : decode cX9_life 65 = .ok (.getfield 81, 3) := by decide +kernel
theorem dX9_life_68 : decode cX9_life 68 = .ok (.getfield 257, 3) := by decide +kernel
theorem dX9_life_71 : decode cX9_life 71 = .ok (.goto 14, 3) := by decide +kernel
theorem dX9_life_74 : decode cX9_life 74 = .ok (.aload_n 0, 1) := by decide +kernel
theorem dX9_life_75 : decode cX9_life 75 = .ok (.getfield 81, 3) := by decide +kernel
theorem dX9_life_78 : decode cX9_life 78 = .ok (.getfield 260, 3) := by decide +kernel
theorem dX9_life_81 : decode cX9_life 81 = .ok (.iload_n 3, 1) := by decide +kernel
theorem dX9_life_82 : decode cX9_life 82 = .ok (.iconst 1, 1) := by decide +kernel
theorem dX9_life_83 : decode cX9_life 83 = .ok (.isub, 1) := by decide +kernel
theorem dX9_life_84 : decode cX9_life 84 = .ok (.iaload, 1) := by decide +kernel
theorem dX9_life_85 : decode cX9_life 85 = .ok (.ireturn, 1) := by decide +kernel
theorem dX9_worth_0 : decode cX9_worth 0 = .ok (.aload_n 0, 1) := by decide +kernel
theorem dX9_worth_1 : decode cX9_worth 1 = .ok (.iload_n 1, 1) := by decide +kernel
theorem dX9_worth_2 : decode cX9_worth 2 = .ok (.iload_n 3, 1) := by decide +kernel
theorem dX9_worth_3 : decode cX9_worth 3 = .ok (.invokevirtual 247, 3) := by decide +kernel
theorem dX9_worth_6 : decode cX9_worth 6 = .ok (.ifCond .eq 11, 3) := by decide +kernel
theorem dX9_worth_9 : decode cX9_worth 9 = .ok (.aload_n 0, 1) := by decide +kernel
theorem dX9_worth_10 : decode cX9_worth 10 = .ok (.iload_n 2, 1) := by decide +kernel
theorem dX9_worth_11 : decode cX9_worth 11 = .ok (.invokevirtual 161, 3) := by decide +kernel
theorem dX9_worth_14 : decode cX9_worth 14 = .ok (.ifCond .ne 5, 3) := by decide +kernel
theorem dX9_worth_17 : decode cX9_worth 17 = .ok (.iconst (-1), 1) := by decide +kernel
theorem dX9_worth_18 : decode cX9_worth 18 = .ok (.ireturn, 1) := by decide +kernel
theorem dX9_worth_19 : decode cX9_worth 19 = .ok (.aload_n 0, 1) := by decide +kernel
theorem dX9_worth_20 : decode cX9_worth 20 = .ok (.iload_n 1, 1) := by decide +kernel
theorem dX9_worth_21 : decode cX9_worth 21 = .ok (.iload_n 3, 1) := by decide +kernel
theorem dX9_worth_22 : decode cX9_worth 22 = .ok (.iconst 0, 1) := by decide +kernel
theorem dX9_worth_23 : decode cX9_worth 23 = .ok (.invokevirtual 263, 3) := by decide +kernel
theorem dX9_worth_26 : decode cX9_worth 26 = .ok (.istore 4, 2) := by decide +kernel
theorem dX9_worth_28 : decode cX9_worth 28 = .ok (.aload_n 0, 1) := by decide +kernel
theorem dX9_worth_29 : decode cX9_worth 29 = .ok (.iload_n 1, 1) := by decide +kernel
theorem dX9_worth_30 : decode cX9_worth 30 = .ok (.iload_n 3, 1) := by decide +kernel
theorem dX9_worth_31 : decode cX9_worth 31 = .ok (.iconst 1, 1) := by decide +kernel
theorem dX9_worth_32 : decode cX9_worth 32 = .ok (.iload_n 2, 1) := by decide +kernel
theorem dX9_worth_33 : decode cX9_worth 33 = .ok (.ishl, 1) := by decide +kernel
theorem dX9_worth_34 : decode cX9_worth 34 = .ok (.invokevirtual 263, 3) := by decide +kernel
theorem dX9_worth_37 : decode cX9_worth 37 = .ok (.iload 4, 2) := by decide +kernel
theorem dX9_worth_39 : decode cX9_worth 39 = .ok (.isub, 1) := by decide +kernel
theorem dX9_worth_40 : decode cX9_worth 40 = .ok (.ireturn, 1) := by decide +kernel
theorem dX9_more_0 : decode cX9_more 0 = .ok (.aload_n 0, 1) := by decide +kernel
theorem dX9_more_1 : decode cX9_more 1 = .ok (.iload_n 1, 1) := by decide +kernel
theorem dX9_more_2 : decode cX9_more 2 = .ok (.iload_n 2, 1) := by decide +kernel
theorem dX9_more_3 : decode cX9_more 3 = .ok (.invokevirtual 247, 3) := by decide +kernel
theorem dX9_more_6 : decode cX9_more 6 = .ok (.ifCond .ne 5, 3) := by decide +kernel
theorem dX9_more_9 : decode cX9_more 9 = .ok (.iconst (-1), 1) := by decide +kernel
theorem dX9_more_10 : decode cX9_more 10 = .ok (.ireturn, 1) := by decide +kernel
theorem dX9_more_11 : decode cX9_more 11 = .ok (.aload_n 0, 1) := by decide +kernel
theorem dX9_more_12 : decode cX9_more 12 = .ok (.iload_n 1, 1) := by decide +kernel
theorem dX9_more_13 : decode cX9_more 13 = .ok (.iload_n 2, 1) := by decide +kernel
theorem dX9_more_14 : decode cX9_more 14 = .ok (.iconst 0, 1) := by decide +kernel
theorem dX9_more_15 : decode cX9_more 15 = .ok (.invokevirtual 263, 3) := by decide +kernel
theorem dX9_more_18 : decode cX9_more 18 = .ok (.istore_n 3, 1) := by decide +kernel
theorem dX9_more_19 : decode cX9_more 19 = .ok (.aload_n 0, 1) := by decide +kernel
theorem dX9_more_20 : decode cX9_more 20 = .ok (.iload_n 1, 1) := by decide +kernel
theorem dX9_more_21 : decode cX9_more 21 = .ok (.iload_n 2, 1) := by decide +kernel
theorem dX9_more_22 : decode cX9_more 22 = .ok (.iconst 1, 1) := by decide +kernel
theorem dX9_more_23 : decode cX9_more 23 = .ok (.aload_n 0, 1) := by decide +kernel
theorem dX9_more_24 : decode cX9_more 24 = .ok (.getfield 71, 3) := by decide +kernel
theorem dX9_more_27 : decode cX9_more 27 = .ok (.getfield 140, 3) := by decide +kernel
theorem dX9_more_30 : decode cX9_more 30 = .ok (.getfield 87, 3) := by decide +kernel
theorem dX9_more_33 : decode cX9_more 33 = .ok (.getfield 127, 3) := by decide +kernel
theorem dX9_more_36 : decode cX9_more 36 = .ok (.ishl, 1) := by decide +kernel
theorem dX9_more_37 : decode cX9_more 37 = .ok (.iconst 1, 1) := by decide +kernel
theorem dX9_more_38 : decode cX9_more 38 = .ok (.isub, 1) := by decide +kernel
theorem dX9_more_39 : decode cX9_more 39 = .ok (.invokevirtual 263, 3) := by decide +kernel
theorem dX9_more_42 : decode cX9_more 42 = .ok (.iload_n 3, 1) := by decide +kernel
theorem dX9_more_43 : decode cX9_more 43 = .ok (.isub, 1) := by decide +kernel
theorem dX9_more_44 : decode cX9_more 44 = .ok (.ireturn, 1) := by decide +kernel
theorem dX9_meet_0 : decode cX9_meet 0 = .ok (.aload_n 0, 1) := by decide +kernel
theorem dX9_meet_1 : decode cX9_meet 1 = .ok (.iload_n 1, 1) := by decide +kernel
theorem dX9_meet_2 : decode cX9_meet 2 = .ok (.iload_n 2, 1) := by decide +kernel
theorem dX9_meet_3 : decode cX9_meet 3 = .ok (.invokevirtual 219, 3) := by decide +kernel
theorem dX9_meet_6 : decode cX9_meet 6 = .ok (.ifCond .eq 12, 3) := by decide +kernel
theorem dX9_meet_9 : decode cX9_meet 9 = .ok (.iload_n 3, 1) := by decide +kernel
theorem dX9_meet_10 : decode cX9_meet 10 = .ok (.ifCond .lt 8, 3) := by decide +kernel
theorem dX9_meet_13 : decode cX9_meet 13 = .ok (.iload_n 3, 1) := by decide +kernel
theorem dX9_meet_14 : decode cX9_meet 14 = .ok (.iconst 1, 1) := by decide +kernel
theorem dX9_meet_15 : decode cX9_meet 15 = .ok (.if_icmp .le 5, 3) := by decide +kernel
theorem dX9_meet_18 : decode cX9_meet 18 = .ok (.iconst (-1), 1) := by decide +kernel
theorem dX9_meet_19 : decode cX9_meet 19 = .ok (.ireturn, 1) := by decide +kernel
theorem dX9_meet_20 : decode cX9_meet 20 = .ok (.aload_n 0, 1) := by decide +kernel
theorem dX9_meet_21 : decode cX9_meet 21 = .ok (.getfield 71, 3) := by decide +kernel
theorem dX9_meet_24 : decode cX9_meet 24 = .ok (.iload_n 1, 1) := by decide +kernel
theorem dX9_meet_25 : decode cX9_meet 25 = .ok (.aload_n 0, 1) := by decide +kernel
theorem dX9_meet_26 : decode cX9_meet 26 = .ok (.getfield 71, 3) := by decide +kernel
theorem dX9_meet_29 : decode cX9_meet 29 = .ok (.getfield 137, 3) := by decide +kernel
theorem dX9_meet_32 : decode cX9_meet 32 = .ok (.iload_n 1, 1) := by decide +kernel
theorem dX9_meet_33 : decode cX9_meet 33 = .ok (.iaload, 1) := by decide +kernel
theorem dX9_meet_34 : decode cX9_meet 34 = .ok (.aload_n 0, 1) := by decide +kernel
theorem dX9_meet_35 : decode cX9_meet 35 = .ok (.getfield 52, 3) := by decide +kernel
theorem dX9_meet_38 : decode cX9_meet 38 = .ok (.invokevirtual 239, 3) := by decide +kernel
theorem dX9_meet_41 : decode cX9_meet 41 = .ok (.aload_n 0, 1) := by decide +kernel
theorem dX9_meet_42 : decode cX9_meet 42 = .ok (.getfield 71, 3) := by decide +kernel
theorem dX9_meet_45 : decode cX9_meet 45 = .ok (.iload_n 2, 1) := by decide +kernel
theorem dX9_meet_46 : decode cX9_meet 46 = .ok (.aload_n 0, 1) := by decide +kernel
theorem dX9_meet_47 : decode cX9_meet 47 = .ok (.getfield 71, 3) := by decide +kernel
theorem dX9_meet_50 : decode cX9_meet 50 = .ok (.getfield 137, 3) := by decide +kernel
theorem dX9_meet_53 : decode cX9_meet 53 = .ok (.iload_n 2, 1) := by decide +kernel
theorem dX9_meet_54 : decode cX9_meet 54 = .ok (.iaload, 1) := by decide +kernel
theorem dX9_meet_55 : decode cX9_meet 55 = .ok (.aload_n 0, 1) := by decide +kernel
theorem dX9_meet_56 : decode cX9_meet 56 = .ok (.getfield 56, 3) := by decide +kernel
theorem dX9_meet_59 : decode cX9_meet 59 = .ok (.invokevirtual 239, 3) := by decide +kernel
theorem dX9_meet_62 : decode cX9_meet 62 = .ok (.bipush (-2), 2) := by decide +kernel
theorem dX9_meet_64 : decode cX9_meet 64 = .ok (.istore 4, 2) := by decide +kernel
theorem dX9_meet_66 : decode cX9_meet 66 = .ok (.iconst 0, 1) := by decide +kernel
theorem dX9_meet_67 : decode cX9_meet 67 = .ok (.istore 5, 2) := by decide +kernel
theorem dX9_meet_69 : decode cX9_meet 69 = .ok (.iload 5, 2) := by decide +kernel
theorem dX9_meet_71 : decode cX9_meet 71 = .ok (.aload_n 0, 1) := by decide +kernel
theorem dX9_meet_72 : decode cX9_meet 72 = .ok (.getfield 71, 3) := by decide +kernel
theorem dX9_meet_75 : decode cX9_meet 75 = .ok (.getfield 140, 3) := by decide +kernel
theorem dX9_meet_78 : decode cX9_meet 78 = .ok (.getfield 176, 3) := by decide +kernel
theorem dX9_meet_81 : decode cX9_meet 81 = .ok (.if_icmp .ge 53, 3) := by decide +kernel
theorem dX9_meet_84 : decode cX9_meet 84 = .ok (.aload_n 0, 1) := by decide +kernel
theorem dX9_meet_85 : decode cX9_meet 85 = .ok (.getfield 52, 3) := by decide +kernel
theorem dX9_meet_88 : decode cX9_meet 88 = .ok (.iload 5, 2) := by decide +kernel
theorem dX9_meet_90 : decode cX9_meet 90 = .ok (.iaload, 1) := by decide +kernel
theorem dX9_meet_91 : decode cX9_meet 91 = .ok (.bipush 99, 2) := by decide +kernel
theorem dX9_meet_93 : decode cX9_meet 93 = .ok (.if_icmp .ge 35, 3) := by decide +kernel
theorem dX9_meet_96 : decode cX9_meet 96 = .ok (.aload_n 0, 1) := by decide +kernel
theorem dX9_meet_97 : decode cX9_meet 97 = .ok (.getfield 56, 3) := by decide +kernel
theorem dX9_meet_100 : decode cX9_meet 100 = .ok (.iload 5, 2) := by decide +kernel
theorem dX9_meet_102 : decode cX9_meet 102 = .ok (.iaload, 1) := by decide +kernel
theorem dX9_meet_103 : decode cX9_meet 103 = .ok (.bipush 99, 2) := by decide +kernel
theorem dX9_meet_105 : decode cX9_meet 105 = .ok (.if_icmp .ge 23, 3) := by decide +kernel
theorem dX9_meet_108 : decode cX9_meet 108 = .ok (.iload 4, 2) := by decide +kernel
theorem dX9_meet_110 : decode cX9_meet 110 = .ok (.ifCond .lt 14, 3) := by decide +kernel
theorem dX9_meet_113 : decode cX9_meet 113 = .ok (.aload_n 0, 1) := by decide +kernel
theorem dX9_meet_114 : decode cX9_meet 114 = .ok (.iload 5, 2) := by decide +kernel
theorem dX9_meet_116 : decode cX9_meet 116 = .ok (.iload 4, 2) := by decide +kernel
theorem dX9_meet_118 : decode cX9_meet 118 = .ok (.invokevirtual 267, 3) := by decide +kernel
theorem dX9_meet_121 : decode cX9_meet 121 = .ok (.ifCond .eq 7, 3) := by decide +kernel
theorem dX9_meet_124 : decode cX9_meet 124 = .ok (.iload 5, 2) := by decide +kernel
theorem dX9_meet_126 : decode cX9_meet 126 = .ok (.istore 4, 2) := by decide +kernel
theorem dX9_meet_128 : decode cX9_meet 128 = .ok (.iinc 5 1, 3) := by decide +kernel
theorem dX9_meet_131 : decode cX9_meet 131 = .ok (.goto (-62), 3) := by decide +kernel
theorem dX9_meet_134 : decode cX9_meet 134 = .ok (.iload 4, 2) := by decide +kernel
theorem dX9_meet_136 : decode cX9_meet 136 = .ok (.ifCond .lt 7, 3) := by decide +kernel
theorem dX9_meet_139 : decode cX9_meet 139 = .ok (.iload_n 3, 1) := by decide +kernel
theorem dX9_meet_140 : decode cX9_meet 140 = .ok (.ifCond .ne 8, 3) := by decide +kernel
theorem dX9_meet_143 : decode cX9_meet 143 = .ok (.iload 4, 2) := by decide +kernel
theorem dX9_meet_145 : decode cX9_meet 145 = .ok (.goto 18, 3) := by decide +kernel
theorem dX9_meet_148 : decode cX9_meet 148 = .ok (.aload_n 0, 1) := by decide +kernel
theorem dX9_meet_149 : decode cX9_meet 149 = .ok (.getfield 52, 3) := by decide +kernel
theorem dX9_meet_152 : decode cX9_meet 152 = .ok (.iload 4, 2) := by decide +kernel
theorem dX9_meet_154 : decode cX9_meet 154 = .ok (.iaload, 1) := by decide +kernel
theorem dX9_meet_155 : decode cX9_meet 155 = .ok (.aload_n 0, 1) := by decide +kernel
theorem dX9_meet_156 : decode cX9_meet 156 = .ok (.getfield 56, 3) := by decide +kernel
theorem dX9_meet_159 : decode cX9_meet 159 = .ok (.iload 4, 2) := by decide +kernel
theorem dX9_meet_161 : decode cX9_meet 161 = .ok (.iaload, 1) := by decide +kernel
theorem dX9_meet_162 : decode cX9_meet 162 = .ok (.iadd, 1) := by decide +kernel
theorem dX9_meet_163 : decode cX9_meet 163 = .ok (.ireturn, 1) := by decide +kernel
theorem dX9_best_0 : decode cX9_best 0 = .ok (.aload_n 0, 1) := by decide +kernel
theorem dX9_best_1 : decode cX9_best 1 = .ok (.invokevirtual 225, 3) := by decide +kernel
theorem dX9_best_4 : decode cX9_best 4 = .ok (.ifCond .eq 12, 3) := by decide +kernel
theorem dX9_best_7 : decode cX9_best 7 = .ok (.iload_n 1, 1) := by decide +kernel
theorem dX9_best_8 : decode cX9_best 8 = .ok (.ifCond .lt 8, 3) := by decide +kernel
theorem dX9_best_11 : decode cX9_best 11 = .ok (.iload_n 1, 1) := by decide +kernel
theorem dX9_best_12 : decode cX9_best 12 = .ok (.iconst 2, 1) := by decide +kernel
theorem dX9_best_13 : decode cX9_best 13 = .ok (.if_icmp .le 5, 3) := by decide +kernel
theorem dX9_best_16 : decode cX9_best 16 = .ok (.iconst (-1), 1) := by decide +kernel
theorem dX9_best_17 : decode cX9_best 17 = .ok (.ireturn, 1) := by decide +kernel
theorem dX9_best_18 : decode cX9_best 18 = .ok (.aload_n 0, 1) := by decide +kernel
theorem dX9_best_19 : decode cX9_best 19 = .ok (.invokevirtual 270, 3) := by decide +kernel
theorem dX9_best_22 : decode cX9_best 22 = .ok (.bipush (-2), 2) := by decide +kernel
theorem dX9_best_24 : decode cX9_best 24 = .ok (.istore_n 2, 1) := by decide +kernel
theorem dX9_best_25 : decode cX9_best 25 = .ok (.iconst 0, 1) := by decide +kernel
theorem dX9_best_26 : decode cX9_best 26 = .ok (.istore_n 3, 1) := by decide +kernel
theorem dX9_best_27 : decode cX9_best 27 = .ok (.iconst 0, 1) := by decide +kernel
theorem dX9_best_28 : decode cX9_best 28 = .ok (.istore 4, 2) := by decide +kernel
theorem dX9_best_30 : decode cX9_best 30 = .ok (.iload 4, 2) := by decide +kernel
theorem dX9_best_32 : decode cX9_best 32 = .ok (.aload_n 0, 1) := by decide +kernel
theorem dX9_best_33 : decode cX9_best 33 = .ok (.getfield 71, 3) := by decide +kernel
theorem dX9_best_36 : decode cX9_best 36 = .ok (.getfield 140, 3) := by decide +kernel
theorem dX9_best_39 : decode cX9_best 39 = .ok (.getfield 87, 3) := by decide +kernel
theorem dX9_best_42 : decode cX9_best 42 = .ok (.getfield 127, 3) := by decide +kernel
theorem dX9_best_45 : decode cX9_best 45 = .ok (.if_icmp .ge 29, 3) := by decide +kernel
theorem dX9_best_48 : decode cX9_best 48 = .ok (.aload_n 0, 1) := by decide +kernel
theorem dX9_best_49 : decode cX9_best 49 = .ok (.iload 4, 2) := by decide +kernel
theorem dX9_best_51 : decode cX9_best 51 = .ok (.invokevirtual 273, 3) := by decide +kernel
theorem dX9_best_54 : decode cX9_best 54 = .ok (.istore 5, 2) := by decide +kernel
theorem dX9_best_56 : decode cX9_best 56 = .ok (.iload 5, 2) := by decide +kernel
theorem dX9_best_58 : decode cX9_best 58 = .ok (.iload_n 3, 1) := by decide +kernel
theorem dX9_best_59 : decode cX9_best 59 = .ok (.if_icmp .le 9, 3) := by decide +kernel
theorem dX9_best_62 : decode cX9_best 62 = .ok (.iload 4, 2) := by decide +kernel
theorem dX9_best_64 : decode cX9_best 64 = .ok (.istore_n 2, 1) := by decide +kernel
theorem dX9_best_65 : decode cX9_best 65 = .ok (.iload 5, 2) := by decide +kernel
theorem dX9_best_67 : decode cX9_best 67 = .ok (.istore_n 3, 1) := by decide +kernel
theorem dX9_best_68 : decode cX9_best 68 = .ok (.iinc 4 1, 3) := by decide +kernel
theorem dX9_best_71 : decode cX9_best 71 = .ok (.goto (-41), 3) := by decide +kernel
theorem dX9_best_74 : decode cX9_best 74 = .ok (.iload_n 1, 1) := by decide +kernel
theorem dX9_best_75 : decode cX9_best 75 = .ok (.ifCond .ne 5, 3) := by decide +kernel
theorem dX9_best_78 : decode cX9_best 78 = .ok (.iload_n 2, 1) := by decide +kernel
theorem dX9_best_79 : decode cX9_best 79 = .ok (.ireturn, 1) := by decide +kernel
theorem dX9_best_80 : decode cX9_best 80 = .ok (.iload_n 1, 1) := by decide +kernel
theorem dX9_best_81 : decode cX9_best 81 = .ok (.iconst 1, 1) := by decide +kernel
theorem dX9_best_82 : decode cX9_best 82 = .ok (.if_icmp .ne 7, 3) := by decide +kernel
theorem dX9_best_85 : decode cX9_best 85 = .ok (.iload_n 3, 1) := by decide +kernel
theorem dX9_best_86 : decode cX9_best 86 = .ok (.goto 8, 3) := by decide +kernel
theorem dX9_best_89 : decode cX9_best 89 = .ok (.aload_n 0, 1) := by decide +kernel
theorem dX9_best_90 : decode cX9_best 90 = .ok (.iload_n 2, 1) := by decide +kernel
theorem dX9_best_91 : decode cX9_best 91 = .ok (.invokevirtual 276, 3) := by decide +kernel
theorem dX9_best_94 : decode cX9_best 94 = .ok (.ireturn, 1) := by decide +kernel
theorem dX9_alone_0 : decode cX9_alone 0 = .ok (.aload_n 0, 1) := by decide +kernel
theorem dX9_alone_1 : decode cX9_alone 1 = .ok (.invokevirtual 225, 3) := by decide +kernel
theorem dX9_alone_4 : decode cX9_alone 4 = .ok (.ifCond .ne 5, 3) := by decide +kernel
theorem dX9_alone_7 : decode cX9_alone 7 = .ok (.iconst (-1), 1) := by decide +kernel
theorem dX9_alone_8 : decode cX9_alone 8 = .ok (.ireturn, 1) := by decide +kernel
theorem dX9_alone_9 : decode cX9_alone 9 = .ok (.aload_n 0, 1) := by decide +kernel
theorem dX9_alone_10 : decode cX9_alone 10 = .ok (.invokevirtual 270, 3) := by decide +kernel
theorem dX9_alone_13 : decode cX9_alone 13 = .ok (.iconst 0, 1) := by decide +kernel
theorem dX9_alone_14 : decode cX9_alone 14 = .ok (.istore_n 1, 1) := by decide +kernel
theorem dX9_alone_15 : decode cX9_alone 15 = .ok (.iconst 0, 1) := by decide +kernel
theorem dX9_alone_16 : decode cX9_alone 16 = .ok (.istore_n 2, 1) := by decide +kernel
theorem dX9_alone_17 : decode cX9_alone 17 = .ok (.iload_n 2, 1) := by decide +kernel
theorem dX9_alone_18 : decode cX9_alone 18 = .ok (.aload_n 0, 1) := by decide +kernel
theorem dX9_alone_19 : decode cX9_alone 19 = .ok (.getfield 71, 3) := by decide +kernel
theorem dX9_alone_22 : decode cX9_alone 22 = .ok (.getfield 140, 3) := by decide +kernel
theorem dX9_alone_25 : decode cX9_alone 25 = .ok (.getfield 185, 3) := by decide +kernel
theorem dX9_alone_28 : decode cX9_alone 28 = .ok (.if_icmp .ge 23, 3) := by decide +kernel
theorem dX9_alone_31 : decode cX9_alone 31 = .ok (.aload_n 0, 1) := by decide +kernel
theorem dX9_alone_32 : decode cX9_alone 32 = .ok (.iload_n 2, 1) := by decide +kernel
theorem dX9_alone_33 : decode cX9_alone 33 = .ok (.invokevirtual 279, 3) := by decide +kernel
theorem dX9_alone_36 : decode cX9_alone 36 = .ok (.ifCond .ne 9, 3) := by decide +kernel
theorem dX9_alone_39 : decode cX9_alone 39 = .ok (.iload_n 1, 1) := by decide +kernel
theorem dX9_alone_40 : decode cX9_alone 40 = .ok (.iconst 1, 1) := by decide +kernel
theorem dX9_alone_41 : decode cX9_alone 41 = .ok (.iload_n 2, 1) := by decide +kernel
theorem dX9_alone_42 : decode cX9_alone 42 = .ok (.ishl, 1) := by decide +kernel
theorem dX9_alone_43 : decode cX9_alone 43 = .ok (.ior, 1) := by decide +kernel
theorem dX9_alone_44 : decode cX9_alone 44 = .ok (.istore_n 1, 1) := by decide +kernel
theorem dX9_alone_45 : decode cX9_alone 45 = .ok (.iinc 2 1, 3) := by decide +kernel
theorem dX9_alone_48 : decode cX9_alone 48 = .ok (.goto (-31), 3) := by decide +kernel
theorem dX9_alone_51 : decode cX9_alone 51 = .ok (.iload_n 1, 1) := by decide +kernel
theorem dX9_alone_52 : decode cX9_alone 52 = .ok (.ireturn, 1) := by decide +kernel
theorem dX9_letter_0 : decode cX9_letter 0 = .ok (.aload_n 0, 1) := by decide +kernel
theorem dX9_letter_1 : decode cX9_letter 1 = .ok (.iload_n 1, 1) := by decide +kernel
theorem dX9_letter_2 : decode cX9_letter 2 = .ok (.iload_n 2, 1) := by decide +kernel
theorem dX9_letter_3 : decode cX9_letter 3 = .ok (.invokevirtual 219, 3) := by decide +kernel
theorem dX9_letter_6 : decode cX9_letter 6 = .ok (.ifCond .eq 12, 3) := by decide +kernel
theorem dX9_letter_9 : decode cX9_letter 9 = .ok (.iload_n 3, 1) := by decide +kernel
theorem dX9_letter_10 : decode cX9_letter 10 = .ok (.ifCond .lt 8, 3) := by decide +kernel
theorem dX9_letter_13 : decode cX9_letter 13 = .ok (.iload_n 3, 1) := by decide +kernel
theorem dX9_letter_14 : decode cX9_letter 14 = .ok (.iconst 2, 1) := by decide +kernel
theorem dX9_letter_15 : decode cX9_letter 15 = .ok (.if_icmp .le 5, 3) := by decide +kernel
theorem dX9_letter_18 : decode cX9_letter 18 = .ok (.iconst (-1), 1) := by decide +kernel
theorem dX9_letter_19 : decode cX9_letter 19 = .ok (.ireturn, 1) := by decide +kernel
theorem dX9_letter_20 : decode cX9_letter 20 = .ok (.aload_n 0, 1) := by decide +kernel
theorem dX9_letter_21 : decode cX9_letter 21 = .ok (.invokevirtual 270, 3) := by decide +kernel
theorem dX9_letter_24 : decode cX9_letter 24 = .ok (.aload_n 0, 1) := by decide +kernel
theorem dX9_letter_25 : decode cX9_letter 25 = .ok (.iload_n 2, 1) := by decide +kernel
theorem dX9_letter_26 : decode cX9_letter 26 = .ok (.invokevirtual 282, 3) := by decide +kernel
theorem dX9_letter_29 : decode cX9_letter 29 = .ok (.aload_n 0, 1) := by decide +kernel
theorem dX9_letter_30 : decode cX9_letter 30 = .ok (.getfield 62, 3) := by decide +kernel
theorem dX9_letter_33 : decode cX9_letter 33 = .ok (.iload_n 1, 1) := by decide +kernel
theorem dX9_letter_34 : decode cX9_letter 34 = .ok (.iaload, 1) := by decide +kernel
theorem dX9_letter_35 : decode cX9_letter 35 = .ok (.bipush 99, 2) := by decide +kernel
theorem dX9_letter_37 : decode cX9_letter 37 = .ok (.if_icmp .ne 6, 3) := by decide +kernel
theorem dX9_letter_40 : decode cX9_letter 40 = .ok (.bipush (-2), 2) := by decide +kernel
theorem dX9_letter_42 : decode cX9_letter 42 = .ok (.ireturn, 1) := by decide +kernel
theorem dX9_letter_43 : decode cX9_letter 43 = .ok (.aload_n 0, 1) := by decide +kernel
theorem dX9_letter_44 : decode cX9_letter 44 = .ok (.getfield 62, 3) := by decide +kernel
theorem dX9_letter_47 : decode cX9_letter 47 = .ok (.iload_n 1, 1) := by decide +kernel
theorem dX9_letter_48 : decode cX9_letter 48 = .ok (.iaload, 1) := by decide +kernel
theorem dX9_letter_49 : decode cX9_letter 49 = .ok (.iconst 1, 1) := by decide +kernel
theorem dX9_letter_50 : decode cX9_letter 50 = .ok (.isub, 1) := by decide +kernel
theorem dX9_letter_51 : decode cX9_letter 51 = .ok (.istore 4, 2) := by decide +kernel
theorem dX9_letter_53 : decode cX9_letter 53 = .ok (.iload_n 3, 1) := by decide +kernel
theorem dX9_letter_54 : decode cX9_letter 54 = .ok (.ifCond .ne 6, 3) := by decide +kernel
theorem dX9_letter_57 : decode cX9_letter 57 = .ok (.iload 4, 2) := by decide +kernel
theorem dX9_letter_59 : decode cX9_letter 59 = .ok (.ireturn, 1) := by decide +kernel
theorem dX9_letter_60 : decode cX9_letter 60 = .ok (.iload_n 3, 1) := by decide +kernel
theorem dX9_letter_61 : decode cX9_letter 61 = .ok (.iload 4, 2) := by decide +kernel
theorem dX9_letter_63 : decode cX9_letter 63 = .ok (.if_icmp .le 8, 3) := by decide +kernel
theorem dX9_letter_66 : decode cX9_letter 66 = .ok (.bipush (-2), 2) := by decide +kernel
theorem dX9_letter_68 : decode cX9_letter 68 = .ok (.goto 9, 3) := by decide +kernel
theorem dX9_letter_71 : decode cX9_letter 71 = .ok (.aload_n 0, 1) := by decide +kernel
theorem dX9_letter_72 : decode cX9_letter 72 = .ok (.iload_n 1, 1) := by decide +kernel
theorem dX9_letter_73 : decode cX9_letter 73 = .ok (.iload_n 3, 1) := by decide +kernel
theorem dX9_letter_74 : decode cX9_letter 74 = .ok (.invokevirtual 285, 3) := by decide +kernel
theorem dX9_letter_77 : decode cX9_letter 77 = .ok (.ireturn, 1) := by decide +kernel
theorem dX9_came_0 : decode cX9_came 0 = .ok (.aload_n 0, 1) := by decide +kernel
theorem dX9_came_1 : decode cX9_came 1 = .ok (.iload_n 1, 1) := by decide +kernel
theorem dX9_came_2 : decode cX9_came 2 = .ok (.invokevirtual 133, 3) := by decide +kernel
theorem dX9_came_5 : decode cX9_came 5 = .ok (.ifCond .eq 12, 3) := by decide +kernel
theorem dX9_came_8 : decode cX9_came 8 = .ok (.iload_n 2, 1) := by decide +kernel
theorem dX9_came_9 : decode cX9_came 9 = .ok (.ifCond .lt 8, 3) := by decide +kernel
theorem dX9_came_12 : decode cX9_came 12 = .ok (.iload_n 2, 1) := by decide +kernel
theorem dX9_came_13 : decode cX9_came 13 = .ok (.iconst 2, 1) := by decide +kernel
theorem dX9_came_14 : decode cX9_came 14 = .ok (.if_icmp .le 5, 3) := by decide +kernel
theorem dX9_came_17 : decode cX9_came 17 = .ok (.iconst (-1), 1) := by decide +kernel
theorem dX9_came_18 : decode cX9_came 18 = .ok (.ireturn, 1) := by decide +kernel
theorem dX9_came_19 : decode cX9_came 19 = .ok (.aload_n 0, 1) := by decide +kernel
theorem dX9_came_20 : decode cX9_came 20 = .ok (.getfield 101, 3) := by decide +kernel
theorem dX9_came_23 : decode cX9_came 23 = .ok (.aload_n 0, 1) := by decide +kernel
theorem dX9_came_24 : decode cX9_came 24 = .ok (.getfield 71, 3) := by decide +kernel
theorem dX9_came_27 : decode cX9_came 27 = .ok (.iload_n 1, 1) := by decide +kernel
theorem dX9_came_28 : decode cX9_came 28 = .ok (.invokevirtual 288, 3) := by decide +kernel
theorem dX9_came_31 : decode cX9_came 31 = .ok (.ifCond .ne 6, 3) := by decide +kernel
theorem dX9_came_34 : decode cX9_came 34 = .ok (.bipush (-3), 2) := by decide +kernel
theorem dX9_came_36 : decode cX9_came 36 = .ok (.ireturn, 1) := by decide +kernel
theorem dX9_came_37 : decode cX9_came 37 = .ok (.aload_n 0, 1) := by decide +kernel
theorem dX9_came_38 : decode cX9_came 38 = .ok (.getfield 101, 3) := by decide +kernel
theorem dX9_came_41 : decode cX9_came 41 = .ok (.invokevirtual 291, 3) := by decide +kernel
theorem dX9_came_44 : decode cX9_came 44 = .ok (.iload_n 2, 1) := by decide +kernel
theorem dX9_came_45 : decode cX9_came 45 = .ok (.lookupswitch 43 #[(0, 27), (1, 35)], 27) := by decide +kernel
theorem dX9_came_72 : decode cX9_came 72 = .ok (.aload_n 0, 1) := by decide +kernel
theorem dX9_came_73 : decode cX9_came 73 = .ok (.getfield 101, 3) := by decide +kernel
theorem dX9_came_76 : decode cX9_came 76 = .ok (.invokevirtual 294, 3) := by decide +kernel
theorem dX9_came_79 : decode cX9_came 79 = .ok (.ireturn, 1) := by decide +kernel
theorem dX9_came_80 : decode cX9_came 80 = .ok (.aload_n 0, 1) := by decide +kernel
theorem dX9_came_81 : decode cX9_came 81 = .ok (.getfield 101, 3) := by decide +kernel
theorem dX9_came_84 : decode cX9_came 84 = .ok (.invokevirtual 297, 3) := by decide +kernel
theorem dX9_came_87 : decode cX9_came 87 = .ok (.ireturn, 1) := by decide +kernel
theorem dX9_came_88 : decode cX9_came 88 = .ok (.aload_n 0, 1) := by decide +kernel
theorem dX9_came_89 : decode cX9_came 89 = .ok (.getfield 101, 3) := by decide +kernel
theorem dX9_came_92 : decode cX9_came 92 = .ok (.invokevirtual 300, 3) := by decide +kernel
theorem dX9_came_95 : decode cX9_came 95 = .ok (.ireturn, 1) := by decide +kernel
theorem dX9_trail_0 : decode cX9_trail 0 = .ok (.aload_n 0, 1) := by decide +kernel
theorem dX9_trail_1 : decode cX9_trail 1 = .ok (.iload_n 1, 1) := by decide +kernel
theorem dX9_trail_2 : decode cX9_trail 2 = .ok (.invokevirtual 133, 3) := by decide +kernel
theorem dX9_trail_5 : decode cX9_trail 5 = .ok (.ifCond .eq 12, 3) := by decide +kernel
theorem dX9_trail_8 : decode cX9_trail 8 = .ok (.iload_n 2, 1) := by decide +kernel
theorem dX9_trail_9 : decode cX9_trail 9 = .ok (.ifCond .lt 8, 3) := by decide +kernel
theorem dX9_trail_12 : decode cX9_trail 12 = .ok (.iload_n 2, 1) := by decide +kernel
theorem dX9_trail_13 : decode cX9_trail 13 = .ok (.iconst 1, 1) := by decide +kernel
theorem dX9_trail_14 : decode cX9_trail 14 = .ok (.if_icmp .le 5, 3) := by decide +kernel
theorem dX9_trail_17 : decode cX9_trail 17 = .ok (.iconst (-1), 1) := by decide +kernel
theorem dX9_trail_18 : decode cX9_trail 18 = .ok (.ireturn, 1) := by decide +kernel
theorem dX9_trail_19 : decode cX9_trail 19 = .ok (.aload_n 0, 1) := by decide +kernel
theorem dX9_trail_20 : decode cX9_trail 20 = .ok (.getfield 94, 3) := by decide +kernel
theorem dX9_trail_23 : decode cX9_trail 23 = .ok (.aload_n 0, 1) := by decide +kernel
theorem dX9_trail_24 : decode cX9_trail 24 = .ok (.getfield 71, 3) := by decide +kernel
theorem dX9_trail_27 : decode cX9_trail 27 = .ok (.iload_n 1, 1) := by decide +kernel
theorem dX9_trail_28 : decode cX9_trail 28 = .ok (.invokevirtual 303, 3) := by decide +kernel
theorem dX9_trail_31 : decode cX9_trail 31 = .ok (.iload_n 2, 1) := by decide +kernel
theorem dX9_trail_32 : decode cX9_trail 32 = .ok (.ifCond .ne 13, 3) := by decide +kernel
theorem dX9_trail_35 : decode cX9_trail 35 = .ok (.aload_n 0, 1) := by decide +kernel
theorem dX9_trail_36 : decode cX9_trail 36 = .ok (.getfield 94, 3) := by decide +kernel
theorem dX9_trail_39 : decode cX9_trail 39 = .ok (.getfield 307, 3) := by decide +kernel
theorem dX9_trail_42 : decode cX9_trail 42 = .ok (.goto 10, 3) := by decide +kernel
theorem dX9_trail_45 : decode cX9_trail 45 = .ok (.aload_n 0, 1) := by decide +kernel
theorem dX9_trail_46 : decode cX9_trail 46 = .ok (.getfield 94, 3) := by decide +kernel
theorem dX9_trail_49 : decode cX9_trail 49 = .ok (.getfield 310, 3) := by decide +kernel
theorem dX9_trail_52 : decode cX9_trail 52 = .ok (.ireturn, 1) := by decide +kernel
theorem dX9_seed_0 : decode cX9_seed 0 = .ok (.iload_n 1, 1) := by decide +kernel
theorem dX9_seed_1 : decode cX9_seed 1 = .ok (.ifCond .ge 5, 3) := by decide +kernel
theorem dX9_seed_4 : decode cX9_seed 4 = .ok (.iconst (-1), 1) := by decide +kernel
theorem dX9_seed_5 : decode cX9_seed 5 = .ok (.ireturn, 1) := by decide +kernel
theorem dX9_seed_6 : decode cX9_seed 6 = .ok (.aload_n 0, 1) := by decide +kernel
theorem dX9_seed_7 : decode cX9_seed 7 = .ok (.getfield 44, 3) := by decide +kernel
theorem dX9_seed_10 : decode cX9_seed 10 = .ok (.l2i, 1) := by decide +kernel
theorem dX9_seed_11 : decode cX9_seed 11 = .ok (.istore_n 2, 1) := by decide +kernel
theorem dX9_seed_12 : decode cX9_seed 12 = .ok (.aload_n 0, 1) := by decide +kernel
theorem dX9_seed_13 : decode cX9_seed 13 = .ok (.iload_n 1, 1) := by decide +kernel
theorem dX9_seed_14 : decode cX9_seed 14 = .ok (.i2l, 1) := by decide +kernel
theorem dX9_seed_15 : decode cX9_seed 15 = .ok (.putfield 44, 3) := by decide +kernel
theorem dX9_seed_18 : decode cX9_seed 18 = .ok (.iload_n 2, 1) := by decide +kernel
theorem dX9_seed_19 : decode cX9_seed 19 = .ok (.ireturn, 1) := by decide +kernel
theorem dX9_lives_0 : decode cX9_lives 0 = .ok (.aload_n 0, 1) := by decide +kernel
theorem dX9_lives_1 : decode cX9_lives 1 = .ok (.invokevirtual 225, 3) := by decide +kernel
theorem dX9_lives_4 : decode cX9_lives 4 = .ok (.ifCond .eq 34, 3) := by decide +kernel
theorem dX9_lives_7 : decode cX9_lives 7 = .ok (.iload_n 1, 1) := by decide +kernel
theorem dX9_lives_8 : decode cX9_lives 8 = .ok (.iconst 1, 1) := by decide +kernel
theorem dX9_lives_9 : decode cX9_lives 9 = .ok (.if_icmp .lt 29, 3) := by decide +kernel
theorem dX9_lives_12 : decode cX9_lives 12 = .ok (.iload_n 1, 1) := by decide +kernel
theorem dX9_lives_13 : decode cX9_lives 13 = .ok (.bipush 10, 2) := by decide +kernel
theorem dX9_lives_15 : decode cX9_lives 15 = .ok (.if_icmp .gt 23, 3) := by decide +kernel
theorem dX9_lives_18 : decode cX9_lives 18 = .ok (.iload_n 2, 1) := by decide +kernel
theorem dX9_lives_19 : decode cX9_lives 19 = .ok (.iconst 1, 1) := by decide +kernel
theorem dX9_lives_20 : decode cX9_lives 20 = .ok (.if_icmp .lt 18, 3) := by decide +kernel
theorem dX9_lives_23 : decode cX9_lives 23 = .ok (.iload_n 2, 1) := by decide +kernel
theorem dX9_lives_24 : decode cX9_lives 24 = .ok (.bipush 60, 2) := by decide +kernel
theorem dX9_lives_26 : decode cX9_lives 26 = .ok (.if_icmp .gt 12, 3) := by decide +kernel
theorem dX9_lives_29 : decode cX9_lives 29 = .ok (.iload_n 3, 1) := by decide +kernel
theorem dX9_lives_30 : decode cX9_lives 30 = .ok (.ifCond .lt 8, 3) := by decide +kernel
theorem dX9_lives_33 : decode cX9_lives 33 = .ok (.iload_n 3, 1) := by decide +kernel
theorem dX9_lives_34 : decode cX9_lives 34 = .ok (.iconst 1, 1) := by decide +kernel
theorem dX9_lives_35 : decode cX9_lives 35 = .ok (.if_icmp .le 5, 3) := by decide +kernel
theorem dX9_lives_38 : decode cX9_lives 38 = .ok (.iconst (-1), 1) := by decide +kernel
theorem dX9_lives_39 : decode cX9_lives 39 = .ok (.ireturn, 1) := by decide +kernel
theorem dX9_lives_40 : decode cX9_lives 40 = .ok (.aload_n 0, 1) := by decide +kernel
theorem dX9_lives_41 : decode cX9_lives 41 = .ok (.getfield 44, 3) := by decide +kernel
theorem dX9_lives_44 : decode cX9_lives 44 = .ok (.lstore 4, 2) := by decide +kernel
theorem dX9_lives_46 : decode cX9_lives 46 = .ok (.iconst 0, 1) := by decide +kernel
theorem dX9_lives_47 : decode cX9_lives 47 = .ok (.istore 6, 2) := by decide +kernel
theorem dX9_lives_49 : decode cX9_lives 49 = .ok (.iconst 0, 1) := by decide +kernel
theorem dX9_lives_50 : decode cX9_lives 50 = .ok (.istore 7, 2) := by decide +kernel
theorem dX9_lives_52 : decode cX9_lives 52 = .ok (.iconst 0, 1) := by decide +kernel
theorem dX9_lives_53 : decode cX9_lives 53 = .ok (.istore 8, 2) := by decide +kernel
theorem dX9_lives_55 : decode cX9_lives 55 = .ok (.iload 8, 2) := by decide +kernel
theorem dX9_lives_57 : decode cX9_lives 57 = .ok (.iload_n 1, 1) := by decide +kernel
theorem dX9_lives_58 : decode cX9_lives 58 = .ok (.if_icmp .ge 56, 3) := by decide +kernel
theorem dX9_lives_61 : decode cX9_lives 61 = .ok (.aload_n 0, 1) := by decide +kernel
theorem dX9_lives_62 : decode cX9_lives 62 = .ok (.getfield 75, 3) := by decide +kernel
theorem dX9_lives_65 : decode cX9_lives 65 = .ok (.aload_n 0, 1) := by decide +kernel
theorem dX9_lives_66 : decode cX9_lives 66 = .ok (.getfield 71, 3) := by decide +kernel
theorem dX9_lives_69 : decode cX9_lives 69 = .ok (.invokevirtual 231, 3) := by decide +kernel
theorem dX9_lives_72 : decode cX9_lives 72 = .ok (.iconst 0, 1) := by decide +kernel
theorem dX9_lives_73 : decode cX9_lives 73 = .ok (.istore 9, 2) := by decide +kernel
theorem dX9_lives_75 : decode cX9_lives 75 = .ok (.iload 9, 2) := by decide +kernel
theorem dX9_lives_77 : decode cX9_lives 77 = .ok (.iload_n 2, 1) := by decide +kernel
theorem dX9_lives_78 : decode cX9_lives 78 = .ok (.if_icmp .ge 30, 3) := by decide +kernel
theorem dX9_lives_81 : decode cX9_lives 81 = .ok (.iload 6, 2) := by decide +kernel
theorem dX9_lives_83 : decode cX9_lives 83 = .ok (.aload_n 0, 1) := by decide +kernel
theorem dX9_lives_84 : decode cX9_lives 84 = .ok (.invokevirtual 313, 3) := by decide +kernel
theorem dX9_lives_87 : decode cX9_lives 87 = .ok (.iadd, 1) := by decide +kernel
theorem dX9_lives_88 : decode cX9_lives 88 = .ok (.istore 6, 2) := by decide +kernel
theorem dX9_lives_90 : decode cX9_lives 90 = .ok (.iload 7, 2) := by decide +kernel
theorem dX9_lives_92 : decode cX9_lives 92 = .ok (.aload_n 0, 1) := by decide +kernel
theorem dX9_lives_93 : decode cX9_lives 93 = .ok (.getfield 75, 3) := by decide +kernel
theorem dX9_lives_96 : decode cX9_lives 96 = .ok (.invokevirtual 228, 3) := by decide +kernel
theorem dX9_lives_99 : decode cX9_lives 99 = .ok (.iadd, 1) := by decide +kernel
theorem dX9_lives_100 : decode cX9_lives 100 = .ok (.istore 7, 2) := by decide +kernel
theorem dX9_lives_102 : decode cX9_lives 102 = .ok (.iinc 9 1, 3) := by decide +kernel
theorem dX9_lives_105 : decode cX9_lives 105 = .ok (.goto (-30), 3) := by decide +kernel
theorem dX9_lives_108 : decode cX9_lives 108 = .ok (.iinc 8 1, 3) := by decide +kernel
theorem dX9_lives_111 : decode cX9_lives 111 = .ok (.goto (-56), 3) := by decide +kernel
theorem dX9_lives_114 : decode cX9_lives 114 = .ok (.aload_n 0, 1) := by decide +kernel
theorem dX9_lives_115 : decode cX9_lives 115 = .ok (.lload 4, 2) := by decide +kernel
theorem dX9_lives_117 : decode cX9_lives 117 = .ok (.putfield 44, 3) := by decide +kernel
theorem dX9_lives_120 : decode cX9_lives 120 = .ok (.iload_n 3, 1) := by decide +kernel
theorem dX9_lives_121 : decode cX9_lives 121 = .ok (.ifCond .ne 8, 3) := by decide +kernel
theorem dX9_lives_124 : decode cX9_lives 124 = .ok (.iload 6, 2) := by decide +kernel
theorem dX9_lives_126 : decode cX9_lives 126 = .ok (.goto 5, 3) := by decide +kernel
theorem dX9_lives_129 : decode cX9_lives 129 = .ok (.iload 7, 2) := by decide +kernel
theorem dX9_lives_131 : decode cX9_lives 131 = .ok (.ireturn, 1) := by decide +kernel
theorem dX9_image_0 : decode cX9_image 0 = .ok (.iload_n 1, 1) := by decide +kernel
theorem dX9_image_1 : decode cX9_image 1 = .ok (.ifCond .lt 8, 3) := by decide +kernel
theorem dX9_image_4 : decode cX9_image 4 = .ok (.iload_n 1, 1) := by decide +kernel
theorem dX9_image_5 : decode cX9_image 5 = .ok (.iconst 4, 1) := by decide +kernel
theorem dX9_image_6 : decode cX9_image 6 = .ok (.if_icmp .lt 5, 3) := by decide +kernel
theorem dX9_image_9 : decode cX9_image 9 = .ok (.iconst (-1), 1) := by decide +kernel
theorem dX9_image_10 : decode cX9_image 10 = .ok (.ireturn, 1) := by decide +kernel
theorem dX9_image_11 : decode cX9_image 11 = .ok (.aload_n 0, 1) := by decide +kernel
theorem dX9_image_12 : decode cX9_image 12 = .ok (.getfield 40, 3) := by decide +kernel
theorem dX9_image_15 : decode cX9_image 15 = .ok (.iload_n 1, 1) := by decide +kernel
theorem dX9_image_16 : decode cX9_image 16 = .ok (.aaload, 1) := by decide +kernel
theorem dX9_image_17 : decode cX9_image 17 = .ok (.iconst 1, 1) := by decide +kernel
theorem dX9_image_18 : decode cX9_image 18 = .ok (.putfield 316, 3) := by decide +kernel
theorem dX9_image_21 : decode cX9_image 21 = .ok (.aload_n 0, 1) := by decide +kernel
theorem dX9_image_22 : decode cX9_image 22 = .ok (.getfield 40, 3) := by decide +kernel
theorem dX9_image_25 : decode cX9_image 25 = .ok (.iload_n 1, 1) := by decide +kernel
theorem dX9_image_26 : decode cX9_image 26 = .ok (.aaload, 1) := by decide +kernel
theorem dX9_image_27 : decode cX9_image 27 = .ok (.getfield 320, 3) := by decide +kernel
theorem dX9_image_30 : decode cX9_image 30 = .ok (.aload_n 0, 1) := by decide +kernel
theorem dX9_image_31 : decode cX9_image 31 = .ok (.getfield 71, 3) := by decide +kernel
theorem dX9_image_34 : decode cX9_image 34 = .ok (.invokevirtual 231, 3) := by decide +kernel
theorem dX9_image_37 : decode cX9_image 37 = .ok (.aload_n 0, 1) := by decide +kernel
theorem dX9_image_38 : decode cX9_image 38 = .ok (.getfield 40, 3) := by decide +kernel
theorem dX9_image_41 : decode cX9_image 41 = .ok (.iload_n 1, 1) := by decide +kernel
theorem dX9_image_42 : decode cX9_image 42 = .ok (.aaload, 1) := by decide +kernel
theorem dX9_image_43 : decode cX9_image 43 = .ok (.aload_n 0, 1) := by decide +kernel
theorem dX9_image_44 : decode cX9_image 44 = .ok (.getfield 44, 3) := by decide +kernel
theorem dX9_image_47 : decode cX9_image 47 = .ok (.putfield 323, 3) := by decide +kernel
theorem dX9_image_50 : decode cX9_image 50 = .ok (.aload_n 0, 1) := by decide +kernel
theorem dX9_image_51 : decode cX9_image 51 = .ok (.getfield 71, 3) := by decide +kernel
theorem dX9_image_54 : decode cX9_image 54 = .ok (.getfield 191, 3) := by decide +kernel
theorem dX9_image_57 : decode cX9_image 57 = .ok (.ireturn, 1) := by decide +kernel
theorem dX9_back_0 : decode cX9_back 0 = .ok (.iload_n 1, 1) := by decide +kernel
theorem dX9_back_1 : decode cX9_back 1 = .ok (.ifCond .lt 20, 3) := by decide +kernel
theorem dX9_back_4 : decode cX9_back 4 = .ok (.iload_n 1, 1) := by decide +kernel
theorem dX9_back_5 : decode cX9_back 5 = .ok (.iconst 4, 1) := by decide +kernel
theorem dX9_back_6 : decode cX9_back 6 = .ok (.if_icmp .ge 15, 3) := by decide +kernel
theorem dX9_back_9 : decode cX9_back 9 = .ok (.aload_n 0, 1) := by decide +kernel
theorem dX9_back_10 : decode cX9_back 10 = .ok (.getfield 40, 3) := by decide +kernel
theorem dX9_back_13 : decode cX9_back 13 = .ok (.iload_n 1, 1) := by decide +kernel
theorem dX9_back_14 : decode cX9_back 14 = .ok (.aaload, 1) := by decide +kernel
theorem dX9_back_15 : decode cX9_back 15 = .ok (.getfield 316, 3) := by decide +kernel
theorem dX9_back_18 : decode cX9_back 18 = .ok (.ifCond .ne 5, 3) := by decide +kernel
theorem dX9_back_21 : decode cX9_back 21 = .ok (.iconst (-1), 1) := by decide +kernel
theorem dX9_back_22 : decode cX9_back 22 = .ok (.ireturn, 1) := by decide +kernel
theorem dX9_back_23 : decode cX9_back 23 = .ok (.aload_n 0, 1) := by decide +kernel
theorem dX9_back_24 : decode cX9_back 24 = .ok (.getfield 71, 3) := by decide +kernel
theorem dX9_back_27 : decode cX9_back 27 = .ok (.aload_n 0, 1) := by decide +kernel
theorem dX9_back_28 : decode cX9_back 28 = .ok (.getfield 40, 3) := by decide +kernel
theorem dX9_back_31 : decode cX9_back 31 = .ok (.iload_n 1, 1) := by decide +kernel
theorem dX9_back_32 : decode cX9_back 32 = .ok (.aaload, 1) := by decide +kernel
theorem dX9_back_33 : decode cX9_back 33 = .ok (.getfield 320, 3) := by decide +kernel
theorem dX9_back_36 : decode cX9_back 36 = .ok (.invokevirtual 231, 3) := by decide +kernel
theorem dX9_back_39 : decode cX9_back 39 = .ok (.aload_n 0, 1) := by decide +kernel
theorem dX9_back_40 : decode cX9_back 40 = .ok (.aload_n 0, 1) := by decide +kernel
theorem dX9_back_41 : decode cX9_back 41 = .ok (.getfield 40, 3) := by decide +kernel
theorem dX9_back_44 : decode cX9_back 44 = .ok (.iload_n 1, 1) := by decide +kernel
theorem dX9_back_45 : decode cX9_back 45 = .ok (.aaload, 1) := by decide +kernel
theorem dX9_back_46 : decode cX9_back 46 = .ok (.getfield 323, 3) := by decide +kernel
theorem dX9_back_49 : decode cX9_back 49 = .ok (.putfield 44, 3) := by decide +kernel
theorem dX9_back_52 : decode cX9_back 52 = .ok (.aload_n 0, 1) := by decide +kernel
theorem dX9_back_53 : decode cX9_back 53 = .ok (.invokevirtual 124, 3) := by decide +kernel
theorem dX9_back_56 : decode cX9_back 56 = .ok (.aload_n 0, 1) := by decide +kernel
theorem dX9_back_57 : decode cX9_back 57 = .ok (.getfield 71, 3) := by decide +kernel
theorem dX9_back_60 : decode cX9_back 60 = .ok (.getfield 191, 3) := by decide +kernel
theorem dX9_back_63 : decode cX9_back 63 = .ok (.ireturn, 1) := by decide +kernel
theorem dX9_hasTown_0 : decode cX9_hasTown 0 = .ok (.aload_n 0, 1) := by decide +kernel
theorem dX9_hasTown_1 : decode cX9_hasTown 1 = .ok (.getfield 71, 3) := by decide +kernel
theorem dX9_hasTown_4 : decode cX9_hasTown 4 = .ok (.getfield 140, 3) := by decide +kernel
theorem dX9_hasTown_7 : decode cX9_hasTown 7 = .ok (.getfield 176, 3) := by decide +kernel
theorem dX9_hasTown_10 : decode cX9_hasTown 10 = .ok (.ifCond .le 7, 3) := by decide +kernel
theorem dX9_hasTown_13 : decode cX9_hasTown 13 = .ok (.iconst 1, 1) := by decide +kernel
theorem dX9_hasTown_14 : decode cX9_hasTown 14 = .ok (.goto 4, 3) := by decide +kernel
theorem dX9_hasTown_17 : decode cX9_hasTown 17 = .ok (.iconst 0, 1) := by decide +kernel
theorem dX9_hasTown_18 : decode cX9_hasTown 18 = .ok (.ireturn, 1) := by decide +kernel
theorem dX9_isPerson_0 : decode cX9_isPerson 0 = .ok (.iload_n 1, 1) := by decide +kernel
theorem dX9_isPerson_1 : decode cX9_isPerson 1 = .ok (.ifCond .lt 21, 3) := by decide +kernel
theorem dX9_isPerson_4 : decode cX9_isPerson 4 = .ok (.iload_n 1, 1) := by decide +kernel
theorem dX9_isPerson_5 : decode cX9_isPerson 5 = .ok (.aload_n 0, 1) := by decide +kernel
theorem dX9_isPerson_6 : decode cX9_isPerson 6 = .ok (.getfield 71, 3) := by decide +kernel
theorem dX9_isPerson_9 : decode cX9_isPerson 9 = .ok (.getfield 140, 3) := by decide +kernel
theorem dX9_isPerson_12 : decode cX9_isPerson 12 = .ok (.getfield 185, 3) := by decide +kernel
theorem dX9_isPerson_15 : decode cX9_isPerson 15 = .ok (.if_icmp .ge 7, 3) := by decide +kernel
theorem dX9_isPerson_18 : decode cX9_isPerson 18 = .ok (.iconst 1, 1) := by decide +kernel
theorem dX9_isPerson_19 : decode cX9_isPerson 19 = .ok (.goto 4, 3) := by decide +kernel
theorem dX9_isPerson_22 : decode cX9_isPerson 22 = .ok (.iconst 0, 1) := by decide +kernel
theorem dX9_isPerson_23 : decode cX9_isPerson 23 = .ok (.ireturn, 1) := by decide +kernel
theorem dX9_arePair_0 : decode cX9_arePair 0 = .ok (.aload_n 0, 1) := by decide +kernel
theorem dX9_arePair_1 : decode cX9_arePair 1 = .ok (.iload_n 1, 1) := by decide +kernel
theorem dX9_arePair_2 : decode cX9_arePair 2 = .ok (.invokevirtual 133, 3) := by decide +kernel
theorem dX9_arePair_5 : decode cX9_arePair 5 = .ok (.ifCond .eq 20, 3) := by decide +kernel
theorem dX9_arePair_8 : decode cX9_arePair 8 = .ok (.aload_n 0, 1) := by decide +kernel
theorem dX9_arePair_9 : decode cX9_arePair 9 = .ok (.iload_n 2, 1) := by decide +kernel
theorem dX9_arePair_10 : decode cX9_arePair 10 = .ok (.invokevirtual 133, 3) := by decide +kernel
theorem dX9_arePair_13 : decode cX9_arePair 13 = .ok (.ifCond .eq 12, 3) := by decide +kernel
theorem dX9_arePair_16 : decode cX9_arePair 16 = .ok (.iload_n 1, 1) := by decide +kernel
theorem dX9_arePair_17 : decode cX9_arePair 17 = .ok (.iload_n 2, 1) := by decide +kernel
theorem dX9_arePair_18 : decode cX9_arePair 18 = .ok (.if_icmp .eq 7, 3) := by decide +kernel
theorem dX9_arePair_21 : decode cX9_arePair 21 = .ok (.iconst 1, 1) := by decide +kernel
theorem dX9_arePair_22 : decode cX9_arePair 22 = .ok (.goto 4, 3) := by decide +kernel
theorem dX9_arePair_25 : decode cX9_arePair 25 = .ok (.iconst 0, 1) := by decide +kernel
theorem dX9_arePair_26 : decode cX9_arePair 26 = .ok (.ireturn, 1) := by decide +kernel
theorem dX9_isBridge_0 : decode cX9_isBridge 0 = .ok (.iload_n 1, 1) := by decide +kernel
theorem dX9_isBridge_1 : decode cX9_isBridge 1 = .ok (.ifCond .lt 24, 3) := by decide +kernel
theorem dX9_isBridge_4 : decode cX9_isBridge 4 = .ok (.iload_n 1, 1) := by decide +kernel
theorem dX9_isBridge_5 : decode cX9_isBridge 5 = .ok (.aload_n 0, 1) := by decide +kernel
theorem dX9_isBridge_6 : decode cX9_isBridge 6 = .ok (.getfield 71, 3) := by decide +kernel
theorem dX9_isBridge_9 : decode cX9_isBridge 9 = .ok (.getfield 140, 3) := by decide +kernel
theorem dX9_isBridge_12 : decode cX9_isBridge 12 = .ok (.getfield 87, 3) := by decide +kernel
theorem dX9_isBridge_15 : decode cX9_isBridge 15 = .ok (.getfield 127, 3) := by decide +kernel
theorem dX9_isBridge_18 : decode cX9_isBridge 18 = .ok (.if_icmp .ge 7, 3) := by decide +kernel
theorem dX9_isBridge_21 : decode cX9_isBridge 21 = .ok (.iconst 1, 1) := by decide +kernel
theorem dX9_isBridge_22 : decode cX9_isBridge 22 = .ok (.goto 4, 3) := by decide +kernel
theorem dX9_isBridge_25 : decode cX9_isBridge 25 = .ok (.iconst 0, 1) := by decide +kernel
theorem dX9_isBridge_26 : decode cX9_isBridge 26 = .ok (.ireturn, 1) := by decide +kernel
theorem dX9_canPlan_0 : decode cX9_canPlan 0 = .ok (.aload_n 0, 1) := by decide +kernel
theorem dX9_canPlan_1 : decode cX9_canPlan 1 = .ok (.iload_n 1, 1) := by decide +kernel
theorem dX9_canPlan_2 : decode cX9_canPlan 2 = .ok (.invokevirtual 133, 3) := by decide +kernel
theorem dX9_canPlan_5 : decode cX9_canPlan 5 = .ok (.ifCond .eq 18, 3) := by decide +kernel
theorem dX9_canPlan_8 : decode cX9_canPlan 8 = .ok (.iload_n 2, 1) := by decide +kernel
theorem dX9_canPlan_9 : decode cX9_canPlan 9 = .ok (.iconst 1, 1) := by decide +kernel
theorem dX9_canPlan_10 : decode cX9_canPlan 10 = .ok (.if_icmp .lt 13, 3) := by decide +kernel
theorem dX9_canPlan_13 : decode cX9_canPlan 13 = .ok (.iload_n 2, 1) := by decide +kernel
theorem dX9_canPlan_14 : decode cX9_canPlan 14 = .ok (.bipush 6, 2) := by decide +kernel
theorem dX9_canPlan_16 : decode cX9_canPlan 16 = .ok (.if_icmp .gt 7, 3) := by decide +kernel
theorem dX9_canPlan_19 : decode cX9_canPlan 19 = .ok (.iconst 1, 1) := by decide +kernel
theorem dX9_canPlan_20 : decode cX9_canPlan 20 = .ok (.goto 4, 3) := by decide +kernel
theorem dX9_canPlan_23 : decode cX9_canPlan 23 = .ok (.iconst 0, 1) := by decide +kernel
theorem dX9_canPlan_24 : decode cX9_canPlan 24 = .ok (.ireturn, 1) := by decide +kernel
theorem dX9_forgetActs_0 : decode cX9_forgetActs 0 = .ok (.aload_n 0, 1) := by decide +kernel
theorem dX9_forgetActs_1 : decode cX9_forgetActs 1 = .ok (.iconst 0, 1) := by decide +kernel
theorem dX9_forgetActs_2 : decode cX9_forgetActs 2 = .ok (.putfield 32, 3) := by decide +kernel
theorem dX9_forgetActs_5 : decode cX9_forgetActs 5 = .ok (.aload_n 0, 1) := by decide +kernel
theorem dX9_forgetActs_6 : decode cX9_forgetActs 6 = .ok (.iconst 0, 1) := by decide +kernel
theorem dX9_forgetActs_7 : decode cX9_forgetActs 7 = .ok (.putfield 35, 3) := by decide +kernel
theorem dX9_forgetActs_10 : decode cX9_forgetActs 10 = .ok (.return_, 1) := by decide +kernel
theorem dX9_keepAct_0 : decode cX9_keepAct 0 = .ok (.aload_n 0, 1) := by decide +kernel
theorem dX9_keepAct_1 : decode cX9_keepAct 1 = .ok (.getfield 28, 3) := by decide +kernel
theorem dX9_keepAct_4 : decode cX9_keepAct 4 = .ok (.aload_n 0, 1) := by decide +kernel
theorem dX9_keepAct_5 : decode cX9_keepAct 5 = .ok (.getfield 32, 3) := by decide +kernel
theorem dX9_keepAct_8 : decode cX9_keepAct 8 = .ok (.aload_n 0, 1) := by decide +kernel
theorem dX9_keepAct_9 : decode cX9_keepAct 9 = .ok (.getfield 35, 3) := by decide +kernel
theorem dX9_keepAct_12 : decode cX9_keepAct 12 = .ok (.iadd, 1) := by decide +kernel
theorem dX9_keepAct_13 : decode cX9_keepAct 13 = .ok (.bipush 20, 2) := by decide +kernel
theorem dX9_keepAct_15 : decode cX9_keepAct 15 = .ok (.irem, 1) := by decide +kernel
theorem dX9_keepAct_16 : decode cX9_keepAct 16 = .ok (.aaload, 1) := by decide +kernel
theorem dX9_keepAct_17 : decode cX9_keepAct 17 = .ok (.aload_n 0, 1) := by decide +kernel
theorem dX9_keepAct_18 : decode cX9_keepAct 18 = .ok (.getfield 71, 3) := by decide +kernel
theorem dX9_keepAct_21 : decode cX9_keepAct 21 = .ok (.invokevirtual 231, 3) := by decide +kernel
theorem dX9_keepAct_24 : decode cX9_keepAct 24 = .ok (.aload_n 0, 1) := by decide +kernel
theorem dX9_keepAct_25 : decode cX9_keepAct 25 = .ok (.getfield 35, 3) := by decide +kernel
theorem dX9_keepAct_28 : decode cX9_keepAct 28 = .ok (.bipush 20, 2) := by decide +kernel
theorem dX9_keepAct_30 : decode cX9_keepAct 30 = .ok (.if_icmp .ge 16, 3) := by decide +kernel
theorem dX9_keepAct_33 : decode cX9_keepAct 33 = .ok (.aload_n 0, 1) := by decide +kernel
theorem dX9_keepAct_34 : decode cX9_keepAct 34 = .ok (.dup, 1) := by decide +kernel
theorem dX9_keepAct_35 : decode cX9_keepAct 35 = .ok (.getfield 35, 3) := by decide +kernel
theorem dX9_keepAct_38 : decode cX9_keepAct 38 = .ok (.iconst 1, 1) := by decide +kernel
theorem dX9_keepAct_39 : decode cX9_keepAct 39 = .ok (.iadd, 1) := by decide +kernel
theorem dX9_keepAct_40 : decode cX9_keepAct 40 = .ok (.putfield 35, 3) := by decide +kernel
theorem dX9_keepAct_43 : decode cX9_keepAct 43 = .ok (.goto 16, 3) := by decide +kernel
theorem dX9_keepAct_46 : decode cX9_keepAct 46 = .ok (.aload_n 0, 1) := by decide +kernel
theorem dX9_keepAct_47 : decode cX9_keepAct 47 = .ok (.aload_n 0, 1) := by decide +kernel
theorem dX9_keepAct_48 : decode cX9_keepAct 48 = .ok (.getfield 32, 3) := by decide +kernel
theorem dX9_keepAct_51 : decode cX9_keepAct 51 = .ok (.iconst 1, 1) := by decide +kernel
theorem dX9_keepAct_52 : decode cX9_keepAct 52 = .ok (.iadd, 1) := by decide +kernel
theorem dX9_keepAct_53 : decode cX9_keepAct 53 = .ok (.bipush 20, 2) := by decide +kernel
theorem dX9_keepAct_55 : decode cX9_keepAct 55 = .ok (.irem, 1) := by decide +kernel
theorem dX9_keepAct_56 : decode cX9_keepAct 56 = .ok (.putfield 32, 3) := by decide +kernel
theorem dX9_keepAct_59 : decode cX9_keepAct 59 = .ok (.return_, 1) := by decide +kernel
theorem dX9_obey_0 : decode cX9_obey 0 = .ok (.iconst (-1), 1) := by decide +kernel
theorem dX9_obey_1 : decode cX9_obey 1 = .ok (.istore_n 3, 1) := by decide +kernel
theorem dX9_obey_2 : decode cX9_obey 2 = .ok (.lconst 0, 1) := by decide +kernel
theorem dX9_obey_3 : decode cX9_obey 3 = .ok (.lstore 4, 2) := by decide +kernel
theorem dX9_obey_5 : decode cX9_obey 5 = .ok (.aload_n 0, 1) := by decide +kernel
theorem dX9_obey_6 : decode cX9_obey 6 = .ok (.getfield 71, 3) := by decide +kernel
theorem dX9_obey_9 : decode cX9_obey 9 = .ok (.iload_n 2, 1) := by decide +kernel
theorem dX9_obey_10 : decode cX9_obey 10 = .ok (.invokevirtual 324, 3) := by decide +kernel
theorem dX9_obey_13 : decode cX9_obey 13 = .ok (.istore 6, 2) := by decide +kernel
theorem dX9_obey_15 : decode cX9_obey 15 = .ok (.iconst 0, 1) := by decide +kernel
theorem dX9_obey_16 : decode cX9_obey 16 = .ok (.istore 7, 2) := by decide +kernel
theorem dX9_obey_18 : decode cX9_obey 18 = .ok (.iload 7, 2) := by decide +kernel
theorem dX9_obey_20 : decode cX9_obey 20 = .ok (.aload_n 0, 1) := by decide +kernel
theorem dX9_obey_21 : decode cX9_obey 21 = .ok (.getfield 71, 3) := by decide +kernel
theorem dX9_obey_24 : decode cX9_obey 24 = .ok (.getfield 140, 3) := by decide +kernel
theorem dX9_obey_27 : decode cX9_obey 27 = .ok (.getfield 87, 3) := by decide +kernel
theorem dX9_obey_30 : decode cX9_obey 30 = .ok (.getfield 127, 3) := by decide +kernel
theorem dX9_obey_33 : decode cX9_obey 33 = .ok (.if_icmp .ge 63, 3) := by decide +kernel
theorem dX9_obey_36 : decode cX9_obey 36 = .ok (.aload_n 0, 1) := by decide +kernel
theorem dX9_obey_37 : decode cX9_obey 37 = .ok (.getfield 71, 3) := by decide +kernel
theorem dX9_obey_40 : decode cX9_obey 40 = .ok (.iload_n 2, 1) := by decide +kernel
theorem dX9_obey_41 : decode cX9_obey 41 = .ok (.iload 7, 2) := by decide +kernel
theorem dX9_obey_43 : decode cX9_obey 43 = .ok (.invokevirtual 205, 3) := by decide +kernel
theorem dX9_obey_46 : decode cX9_obey 46 = .ok (.ifCond .eq 44, 3) := by decide +kernel
theorem dX9_obey_49 : decode cX9_obey 49 = .ok (.aload_n 0, 1) := by decide +kernel
theorem dX9_obey_50 : decode cX9_obey 50 = .ok (.getfield 71, 3) := by decide +kernel
theorem dX9_obey_53 : decode cX9_obey 53 = .ok (.iload_n 2, 1) := by decide +kernel
theorem dX9_obey_54 : decode cX9_obey 54 = .ok (.iload 7, 2) := by decide +kernel
theorem dX9_obey_56 : decode cX9_obey 56 = .ok (.iload 6, 2) := by decide +kernel
theorem dX9_obey_58 : decode cX9_obey 58 = .ok (.aload_n 0, 1) := by decide +kernel
theorem dX9_obey_59 : decode cX9_obey 59 = .ok (.getfield 48, 3) := by decide +kernel
theorem dX9_obey_62 : decode cX9_obey 62 = .ok (.invokevirtual 327, 3) := by decide +kernel
theorem dX9_obey_65 : decode cX9_obey 65 = .ok (.aload_n 1, 1) := by decide +kernel
theorem dX9_obey_66 : decode cX9_obey 66 = .ok (.aload_n 0, 1) := by decide +kernel
theorem dX9_obey_67 : decode cX9_obey 67 = .ok (.getfield 48, 3) := by decide +kernel
theorem dX9_obey_70 : decode cX9_obey 70 = .ok (.invokevirtual 331, 3) := by decide +kernel
theorem dX9_obey_73 : decode cX9_obey 73 = .ok (.lstore 8, 2) := by decide +kernel
theorem dX9_obey_75 : decode cX9_obey 75 = .ok (.lload 8, 2) := by decide +kernel
theorem dX9_obey_77 : decode cX9_obey 77 = .ok (.lload 4, 2) := by decide +kernel
theorem dX9_obey_79 : decode cX9_obey 79 = .ok (.lcmp, 1) := by decide +kernel
theorem dX9_obey_80 : decode cX9_obey 80 = .ok (.ifCond .le 10, 3) := by decide +kernel
theorem dX9_obey_83 : decode cX9_obey 83 = .ok (.lload 8, 2) := by decide +kernel
theorem dX9_obey_85 : decode cX9_obey 85 = .ok (.lstore 4, 2) := by decide +kernel
theorem dX9_obey_87 : decode cX9_obey 87 = .ok (.iload 7, 2) := by decide +kernel
theorem dX9_obey_89 : decode cX9_obey 89 = .ok (.istore_n 3, 1) := by decide +kernel
theorem dX9_obey_90 : decode cX9_obey 90 = .ok (.iinc 7 1, 3) := by decide +kernel
theorem dX9_obey_93 : decode cX9_obey 93 = .ok (.goto (-75), 3) := by decide +kernel
theorem dX9_obey_96 : decode cX9_obey 96 = .ok (.iload_n 3, 1) := by decide +kernel
theorem dX9_obey_97 : decode cX9_obey 97 = .ok (.iconst (-1), 1) := by decide +kernel
theorem dX9_obey_98 : decode cX9_obey 98 = .ok (.if_icmp .eq 12, 3) := by decide +kernel
theorem dX9_obey_101 : decode cX9_obey 101 = .ok (.aload_n 0, 1) := by decide +kernel
theorem dX9_obey_102 : decode cX9_obey 102 = .ok (.getfield 71, 3) := by decide +kernel
theorem dX9_obey_105 : decode cX9_obey 105 = .ok (.iload_n 2, 1) := by decide +kernel
theorem dX9_obey_106 : decode cX9_obey 106 = .ok (.iload_n 3, 1) := by decide +kernel
theorem dX9_obey_107 : decode cX9_obey 107 = .ok (.invokevirtual 212, 3) := by decide +kernel
theorem dX9_obey_110 : decode cX9_obey 110 = .ok (.return_, 1) := by decide +kernel
theorem dX9_earnedWithExtra_0 : decode cX9_earnedWithExtra 0 = .ok (.aload_n 0, 1) := by decide +kernel
theorem dX9_earnedWithExtra_1 : decode cX9_earnedWithExtra 1 = .ok (.getfield 81, 3) := by decide +kernel
theorem dX9_earnedWithExtra_4 : decode cX9_earnedWithExtra 4 = .ok (.aload_n 0, 1) := by decide +kernel
theorem dX9_earnedWithExtra_5 : decode cX9_earnedWithExtra 5 = .ok (.getfield 71, 3) := by decide +kernel
theorem dX9_earnedWithExtra_8 : decode cX9_earnedWithExtra 8 = .ok (.iload_n 1, 1) := by decide +kernel
theorem dX9_earnedWithExtra_9 : decode cX9_earnedWithExtra 9 = .ok (.iload_n 2, 1) := by decide +kernel
theorem dX9_earnedWithExtra_10 : decode cX9_earnedWithExtra 10 = .ok (.invokevirtual 250, 3) := by decide +kernel
theorem dX9_earnedWithExtra_13 : decode cX9_earnedWithExtra 13 = .ok (.aload_n 0, 1) := by decide +kernel
theorem dX9_earnedWithExtra_14 : decode cX9_earnedWithExtra 14 = .ok (.getfield 81, 3) := by decide +kernel
theorem dX9_earnedWithExtra_17 : decode cX9_earnedWithExtra 17 = .ok (.iload_n 3, 1) := by decide +kernel
theorem dX9_earnedWithExtra_18 : decode cX9_earnedWithExtra 18 = .ok (.invokevirtual 335, 3) := by decide +kernel
theorem dX9_earnedWithExtra_21 : decode cX9_earnedWithExtra 21 = .ok (.aload_n 0, 1) := by decide +kernel
theorem dX9_earnedWithExtra_22 : decode cX9_earnedWithExtra 22 = .ok (.getfield 81, 3) := by decide +kernel
theorem dX9_earnedWithExtra_25 : decode cX9_earnedWithExtra 25 = .ok (.invokevirtual 254, 3) := by decide +kernel
theorem dX9_earnedWithExtra_28 : decode cX9_earnedWithExtra 28 = .ok (.aload_n 0, 1) := by decide +kernel
theorem dX9_earnedWithExtra_29 : decode cX9_earnedWithExtra 29 = .ok (.getfield 81, 3) := by decide +kernel
theorem dX9_earnedWithExtra_32 : decode cX9_earnedWithExtra 32 = .ok (.getfield 257, 3) := by decide +kernel
theorem dX9_earnedWithExtra_35 : decode cX9_earnedWithExtra 35 = .ok (.iconst 0, 1) := by decide +kernel
theorem dX9_earnedWithExtra_36 : decode cX9_earnedWithExtra 36 = .ok (.invokestatic 338, 3) := by decide +kernel
theorem dX9_earnedWithExtra_39 : decode cX9_earnedWithExtra 39 = .ok (.ireturn, 1) := by decide +kernel
theorem dX9_isBetterPlace_0 : decode cX9_isBetterPlace 0 = .ok (.aload_n 0, 1) := by decide +kernel
theorem dX9_isBetterPlace_1 : decode cX9_isBetterPlace 1 = .ok (.getfield 52, 3) := by decide +kernel
theorem dX9_isBetterPlace_4 : decode cX9_isBetterPlace 4 = .ok (.iload_n 1, 1) := by decide +kernel
theorem dX9_isBetterPlace_5 : decode cX9_isBetterPlace 5 = .ok (.iaload, 1) := by decide +kernel
theorem dX9_isBetterPlace_6 : decode cX9_isBetterPlace 6 = .ok (.aload_n 0, 1) := by decide +kernel
theorem dX9_isBetterPlace_7 : decode cX9_isBetterPlace 7 = .ok (.getfield 56, 3) := by decide +kernel
theorem dX9_isBetterPlace_10 : decode cX9_isBetterPlace 10 = .ok (.iload_n 1, 1) := by decide +kernel
theorem dX9_isBetterPlace_11 : decode cX9_isBetterPlace 11 = .ok (.iaload, 1) := by decide +kernel
theorem dX9_isBetterPlace_12 : decode cX9_isBetterPlace 12 = .ok (.iadd, 1) := by decide +kernel
theorem dX9_isBetterPlace_13 : decode cX9_isBetterPlace 13 = .ok (.istore_n 3, 1) := by decide +kernel
theorem dX9_isBetterPlace_14 : decode cX9_isBetterPlace 14 = .ok (.aload_n 0, 1) := by decide +kernel
theorem dX9_isBetterPlace_15 : decode cX9_isBetterPlace 15 = .ok (.getfield 52, 3) := by decide +kernel
theorem dX9_isBetterPlace_18 : decode cX9_isBetterPlace 18 = .ok (.iload_n 2, 1) := by decide +kernel
theorem dX9_isBetterPlace_19 : decode cX9_isBetterPlace 19 = .ok (.iaload, 1) := by decide +kernel
theorem dX9_isBetterPlace_20 : decode cX9_isBetterPlace 20 = .ok (.aload_n 0, 1) := by decide +kernel
theorem dX9_isBetterPlace_21 : decode cX9_isBetterPlace 21 = .ok (.getfield 56, 3) := by decide +kernel
theorem dX9_isBetterPlace_24 : decode cX9_isBetterPlace 24 = .ok (.iload_n 2, 1) := by decide +kernel
theorem dX9_isBetterPlace_25 : decode cX9_isBetterPlace 25 = .ok (.iaload, 1) := by decide +kernel
theorem dX9_isBetterPlace_26 : decode cX9_isBetterPlace 26 = .ok (.iadd, 1) := by decide +kernel
theorem dX9_isBetterPlace_27 : decode cX9_isBetterPlace 27 = .ok (.istore 4, 2) := by decide +kernel
theorem dX9_isBetterPlace_29 : decode cX9_isBetterPlace 29 = .ok (.iload_n 3, 1) := by decide +kernel
theorem dX9_isBetterPlace_30 : decode cX9_isBetterPlace 30 = .ok (.iload 4, 2) := by decide +kernel
theorem dX9_isBetterPlace_32 : decode cX9_isBetterPlace 32 = .ok (.if_icmp .eq 15, 3) := by decide +kernel
theorem dX9_isBetterPlace_35 : decode cX9_isBetterPlace 35 = .ok (.iload_n 3, 1) := by decide +kernel
theorem dX9_isBetterPlace_36 : decode cX9_isBetterPlace 36 = .ok (.iload 4, 2) := by decide +kernel
theorem dX9_isBetterPlace_38 : decode cX9_isBetterPlace 38 = .ok (.if_icmp .ge 7, 3) := by decide +kernel
theorem dX9_isBetterPlace_41 : decode cX9_isBetterPlace 41 = .ok (.iconst 1, 1) := by decide +kernel
theorem dX9_isBetterPlace_42 : decode cX9_isBetterPlace 42 = .ok (.goto 4, 3) := by decide +kernel
theorem dX9_isBetterPlace_45 : decode cX9_isBetterPlace 45 = .ok (.iconst 0, 1) := by decide +kernel
theorem dX9_isBetterPlace_46 : decode cX9_isBetterPlace 46 = .ok (.ireturn, 1) := by decide +kernel
theorem dX9_isBetterPlace_47 : decode cX9_isBetterPlace 47 = .ok (.aload_n 0, 1) := by decide +kernel
theorem dX9_isBetterPlace_48 : decode cX9_isBetterPlace 48 = .ok (.getfield 52, 3) := by decide +kernel
theorem dX9_isBetterPlace_51 : decode cX9_isBetterPlace 51 = .ok (.iload_n 1, 1) := by decide +kernel
theorem dX9_isBetterPlace_52 : decode cX9_isBetterPlace 52 = .ok (.iaload, 1) := by decide +kernel
theorem dX9_isBetterPlace_53 : decode cX9_isBetterPlace 53 = .ok (.aload_n 0, 1) := by decide +kernel
theorem dX9_isBetterPlace_54 : decode cX9_isBetterPlace 54 = .ok (.getfield 56, 3) := by decide +kernel
theorem dX9_isBetterPlace_57 : decode cX9_isBetterPlace 57 = .ok (.iload_n 1, 1) := by decide +kernel
theorem dX9_isBetterPlace_58 : decode cX9_isBetterPlace 58 = .ok (.iaload, 1) := by decide +kernel
theorem dX9_isBetterPlace_59 : decode cX9_isBetterPlace 59 = .ok (.invokestatic 338, 3) := by decide +kernel
theorem dX9_isBetterPlace_62 : decode cX9_isBetterPlace 62 = .ok (.aload_n 0, 1) := by decide +kernel
theorem dX9_isBetterPlace_63 : decode cX9_isBetterPlace 63 = .ok (.getfield 52, 3) := by decide +kernel
theorem dX9_isBetterPlace_66 : decode cX9_isBetterPlace 66 = .ok (.iload_n 2, 1) := by decide +kernel
theorem dX9_isBetterPlace_67 : decode cX9_isBetterPlace 67 = .ok (.iaload, 1) := by decide +kernel
theorem dX9_isBetterPlace_68 : decode cX9_isBetterPlace 68 = .ok (.aload_n 0, 1) := by decide +kernel
theorem dX9_isBetterPlace_69 : decode cX9_isBetterPlace 69 = .ok (.getfield 56, 3) := by decide +kernel
theorem dX9_isBetterPlace_72 : decode cX9_isBetterPlace 72 = .ok (.iload_n 2, 1) := by decide +kernel
theorem dX9_isBetterPlace_73 : decode cX9_isBetterPlace 73 = .ok (.iaload, 1) := by decide +kernel
theorem dX9_isBetterPlace_74 : decode cX9_isBetterPlace 74 = .ok (.invokestatic 338, 3) := by decide +kernel
theorem dX9_isBetterPlace_77 : decode cX9_isBetterPlace 77 = .ok (.if_icmp .ge 7, 3) := by decide +kernel
theorem dX9_isBetterPlace_80 : decode cX9_isBetterPlace 80 = .ok (.iconst 1, 1) := by decide +kernel
theorem dX9_isBetterPlace_81 : decode cX9_isBetterPlace 81 = .ok (.goto 4, 3) := by decide +kernel
theorem dX9_isBetterPlace_84 : decode cX9_isBetterPlace 84 = .ok (.iconst 0, 1) := by decide +kernel
theorem dX9_isBetterPlace_85 : decode cX9_isBetterPlace 85 = .ok (.ireturn, 1) := by decide +kernel
theorem dX9_growthBy_0 : decode cX9_growthBy 0 = .ok (.iconst 0, 1) := by decide +kernel
theorem dX9_growthBy_1 : decode cX9_growthBy 1 = .ok (.istore_n 2, 1) := by decide +kernel
theorem dX9_growthBy_2 : decode cX9_growthBy 2 = .ok (.iconst 0, 1) := by decide +kernel
theorem dX9_growthBy_3 : decode cX9_growthBy 3 = .ok (.istore_n 3, 1) := by decide +kernel
theorem dX9_growthBy_4 : decode cX9_growthBy 4 = .ok (.iload_n 3, 1) := by decide +kernel
theorem dX9_growthBy_5 : decode cX9_growthBy 5 = .ok (.aload_n 0, 1) := by decide +kernel
theorem dX9_growthBy_6 : decode cX9_growthBy 6 = .ok (.getfield 71, 3) := by decide +kernel
theorem dX9_growthBy_9 : decode cX9_growthBy 9 = .ok (.getfield 140, 3) := by decide +kernel
theorem dX9_growthBy_12 : decode cX9_growthBy 12 = .ok (.getfield 185, 3) := by decide +kernel
theorem dX9_growthBy_15 : decode cX9_growthBy 15 = .ok (.if_icmp .ge 33, 3) := by decide +kernel
theorem dX9_growthBy_18 : decode cX9_growthBy 18 = .ok (.iload_n 2, 1) := by decide +kernel
theorem dX9_growthBy_19 : decode cX9_growthBy 19 = .ok (.aload_n 0, 1) := by decide +kernel
theorem dX9_growthBy_20 : decode cX9_growthBy 20 = .ok (.getfield 71, 3) := by decide +kernel
theorem dX9_growthBy_23 : decode cX9_growthBy 23 = .ok (.iload_n 3, 1) := by decide +kernel
theorem dX9_growthBy_24 : decode cX9_growthBy 24 = .ok (.iload_n 1, 1) := by decide +kernel
theorem dX9_growthBy_25 : decode cX9_growthBy 25 = .ok (.invokevirtual 150, 3) := by decide +kernel
theorem dX9_growthBy_28 : decode cX9_growthBy 28 = .ok (.aload_n 0, 1) := by decide +kernel
theorem dX9_growthBy_29 : decode cX9_growthBy 29 = .ok (.getfield 59, 3) := by decide +kernel
theorem dX9_growthBy_32 : decode cX9_growthBy 32 = .ok (.iload_n 3, 1) := by decide +kernel
theorem dX9_growthBy_33 : decode cX9_growthBy 33 = .ok (.iaload, 1) := by decide +kernel
theorem dX9_growthBy_34 : decode cX9_growthBy 34 = .ok (.iconst (-1), 1) := by decide +kernel
theorem dX9_growthBy_35 : decode cX9_growthBy 35 = .ok (.ixor, 1) := by decide +kernel
theorem dX9_growthBy_36 : decode cX9_growthBy 36 = .ok (.iand, 1) := by decide +kernel
theorem dX9_growthBy_37 : decode cX9_growthBy 37 = .ok (.invokestatic 343, 3) := by decide +kernel
theorem dX9_growthBy_40 : decode cX9_growthBy 40 = .ok (.iadd, 1) := by decide +kernel
theorem dX9_growthBy_41 : decode cX9_growthBy 41 = .ok (.istore_n 2, 1) := by decide +kernel
theorem dX9_growthBy_42 : decode cX9_growthBy 42 = .ok (.iinc 3 1, 3) := by decide +kernel
theorem dX9_growthBy_45 : decode cX9_growthBy 45 = .ok (.goto (-41), 3) := by decide +kernel
theorem dX9_growthBy_48 : decode cX9_growthBy 48 = .ok (.iload_n 2, 1) := by decide +kernel
theorem dX9_growthBy_49 : decode cX9_growthBy 49 = .ok (.ireturn, 1) := by decide +kernel
theorem dX9_whoGainsBy_0 : decode cX9_whoGainsBy 0 = .ok (.iconst 0, 1) := by decide +kernel
theorem dX9_whoGainsBy_1 : decode cX9_whoGainsBy 1 = .ok (.istore_n 2, 1) := by decide +kernel
theorem dX9_whoGainsBy_2 : decode cX9_whoGainsBy 2 = .ok (.iconst 0, 1) := by decide +kernel
theorem dX9_whoGainsBy_3 : decode cX9_whoGainsBy 3 = .ok (.istore_n 3, 1) := by decide +kernel
theorem dX9_whoGainsBy_4 : decode cX9_whoGainsBy 4 = .ok (.iload_n 3, 1) := by decide +kernel
theorem dX9_whoGainsBy_5 : decode cX9_whoGainsBy 5 = .ok (.aload_n 0, 1) := by decide +kernel
theorem dX9_whoGainsBy_6 : decode cX9_whoGainsBy 6 = .ok (.getfield 71, 3) := by decide +kernel
theorem dX9_whoGainsBy_9 : decode cX9_whoGainsBy 9 = .ok (.getfield 140, 3) := by decide +kernel
theorem dX9_whoGainsBy_12 : decode cX9_whoGainsBy 12 = .ok (.getfield 185, 3) := by decide +kernel
theorem dX9_whoGainsBy_15 : decode cX9_whoGainsBy 15 = .ok (.if_icmp .ge 33, 3) := by decide +kernel
theorem dX9_whoGainsBy_18 : decode cX9_whoGainsBy 18 = .ok (.aload_n 0, 1) := by decide +kernel
theorem dX9_whoGainsBy_19 : decode cX9_whoGainsBy 19 = .ok (.getfield 71, 3) := by decide +kernel
theorem dX9_whoGainsBy_22 : decode cX9_whoGainsBy 22 = .ok (.iload_n 3, 1) := by decide +kernel
theorem dX9_whoGainsBy_23 : decode cX9_whoGainsBy 23 = .ok (.iload_n 1, 1) := by decide +kernel
theorem dX9_whoGainsBy_24 : decode cX9_whoGainsBy 24 = .ok (.invokevirtual 150, 3) := by decide +kernel
theorem dX9_whoGainsBy_27 : decode cX9_whoGainsBy 27 = .ok (.aload_n 0, 1) := by decide +kernel
theorem dX9_whoGainsBy_28 : decode cX9_whoGainsBy 28 = .ok (.getfield 59, 3) := by decide +kernel
theorem dX9_whoGainsBy_31 : decode cX9_whoGainsBy 31 = .ok (.iload_n 3, 1) := by decide +kernel
theorem dX9_whoGainsBy_32 : decode cX9_whoGainsBy 32 = .ok (.iaload, 1) := by decide +kernel
theorem dX9_whoGainsBy_33 : decode cX9_whoGainsBy 33 = .ok (.if_icmp .eq 9, 3) := by decide +kernel
theorem dX9_whoGainsBy_36 : decode cX9_whoGainsBy 36 = .ok (.iload_n 2, 1) := by decide +kernel
theorem dX9_whoGainsBy_37 : decode cX9_whoGainsBy 37 = .ok (.iconst 1, 1) := by decide +kernel
theorem dX9_whoGainsBy_38 : decode cX9_whoGainsBy 38 = .ok (.iload_n 3, 1) := by decide +kernel
theorem dX9_whoGainsBy_39 : decode cX9_whoGainsBy 39 = .ok (.ishl, 1) := by decide +kernel
theorem dX9_whoGainsBy_40 : decode cX9_whoGainsBy 40 = .ok (.ior, 1) := by decide +kernel
theorem dX9_whoGainsBy_41 : decode cX9_whoGainsBy 41 = .ok (.istore_n 2, 1) := by decide +kernel
theorem dX9_whoGainsBy_42 : decode cX9_whoGainsBy 42 = .ok (.iinc 3 1, 3) := by decide +kernel
theorem dX9_whoGainsBy_45 : decode cX9_whoGainsBy 45 = .ok (.goto (-41), 3) := by decide +kernel
theorem dX9_whoGainsBy_48 : decode cX9_whoGainsBy 48 = .ok (.iload_n 2, 1) := by decide +kernel
theorem dX9_whoGainsBy_49 : decode cX9_whoGainsBy 49 = .ok (.ireturn, 1) := by decide +kernel
theorem dX9_findReaches_0 : decode cX9_findReaches 0 = .ok (.iconst 0, 1) := by decide +kernel
theorem dX9_findReaches_1 : decode cX9_findReaches 1 = .ok (.istore_n 1, 1) := by decide +kernel
theorem dX9_findReaches_2 : decode cX9_findReaches 2 = .ok (.iload_n 1, 1) := by decide +kernel
theorem dX9_findReaches_3 : decode cX9_findReaches 3 = .ok (.aload_n 0, 1) := by decide +kernel
theorem dX9_findReaches_4 : decode cX9_findReaches 4 = .ok (.getfield 71, 3) := by decide +kernel
theorem dX9_findReaches_7 : decode cX9_findReaches 7 = .ok (.getfield 140, 3) := by decide +kernel
theorem dX9_findReaches_10 : decode cX9_findReaches 10 = .ok (.getfield 185, 3) := by decide +kernel
theorem dX9_findReaches_13 : decode cX9_findReaches 13 = .ok (.if_icmp .ge 24, 3) := by decide +kernel
theorem dX9_findReaches_16 : decode cX9_findReaches 16 = .ok (.aload_n 0, 1) := by decide +kernel
theorem dX9_findReaches_17 : decode cX9_findReaches 17 = .ok (.getfield 59, 3) := by decide +kernel
theorem dX9_findReaches_20 : decode cX9_findReaches 20 = .ok (.iload_n 1, 1) := by decide +kernel
theorem dX9_findReaches_21 : decode cX9_findReaches 21 = .ok (.aload_n 0, 1) := by decide +kernel
theorem dX9_findReaches_22 : decode cX9_findReaches 22 = .ok (.getfield 71, 3) := by decide +kernel
theorem dX9_findReaches_25 : decode cX9_findReaches 25 = .ok (.iload_n 1, 1) := by decide +kernel
theorem dX9_findReaches_26 : decode cX9_findReaches 26 = .ok (.iconst (-1), 1) := by decide +kernel
theorem dX9_findReaches_27 : decode cX9_findReaches 27 = .ok (.invokevirtual 150, 3) := by decide +kernel
theorem dX9_findReaches_30 : decode cX9_findReaches 30 = .ok (.iastore, 1) := by decide +kernel
theorem dX9_findReaches_31 : decode cX9_findReaches 31 = .ok (.iinc 1 1, 3) := by decide +kernel
theorem dX9_findReaches_34 : decode cX9_findReaches 34 = .ok (.goto (-32), 3) := by decide +kernel
theorem dX9_findReaches_37 : decode cX9_findReaches 37 = .ok (.return_, 1) := by decide +kernel
theorem dX9_isInReachOfOthers_0 : decode cX9_isInReachOfOthers 0 = .ok (.iconst 0, 1) := by decide +kernel
theorem dX9_isInReachOfOthers_1 : decode cX9_isInReachOfOthers 1 = .ok (.istore_n 2, 1) := by decide +kernel
theorem dX9_isInReachOfOthers_2 : decode cX9_isInReachOfOthers 2 = .ok (.iload_n 2, 1) := by decide +kernel
theorem dX9_isInReachOfOthers_3 : decode cX9_isInReachOfOthers 3 = .ok (.aload_n 0, 1) := by decide +kernel
theorem dX9_isInReachOfOthers_4 : decode cX9_isInReachOfOthers 4 = .ok (.getfield 71, 3) := by decide +kernel
theorem dX9_isInReachOfOthers_7 : decode cX9_isInReachOfOthers 7 = .ok (.getfield 140, 3) := by decide +kernel
theorem dX9_isInReachOfOthers_10 : decode cX9_isInReachOfOthers 10 = .ok (.getfield 185, 3) := by decide +kernel
theorem dX9_isInReachOfOthers_13 : decode cX9_isInReachOfOthers 13 = .ok (.if_icmp .ge 37, 3) := by decide +kernel
theorem dX9_isInReachOfOthers_16 : decode cX9_isInReachOfOthers 16 = .ok (.iload_n 2, 1) := by decide +kernel
theorem dX9_isInReachOfOthers_17 : decode cX9_isInReachOfOthers 17 = .ok (.iload_n 1, 1) := by decide +kernel
theorem dX9_isInReachOfOthers_18 : decode cX9_isInReachOfOthers 18 = .ok (.if_icmp .eq 26, 3) := by decide +kernel
theorem dX9_isInReachOfOthers_21 : decode cX9_isInReachOfOthers 21 = .ok (.aload_n 0, 1) := by decide +kernel
theorem dX9_isInReachOfOthers_22 : decode cX9_isInReachOfOthers 22 = .ok (.getfield 59, 3) := by decide +kernel
theorem dX9_isInReachOfOthers_25 : decode cX9_isInReachOfOthers 25 = .ok (.iload_n 2, 1) := by decide +kernel
theorem dX9_isInReachOfOthers_26 : decode cX9_isInReachOfOthers 26 = .ok (.iaload, 1) := by decide +kernel
theorem dX9_isInReachOfOthers_27 : decode cX9_isInReachOfOthers 27 = .ok (.aload_n 0, 1) := by decide +kernel
theorem dX9_isInReachOfOthers_28 : decode cX9_isInReachOfOthers 28 = .ok (.getfield 71, 3) := by decide +kernel
theorem dX9_isInReachOfOthers_31 : decode cX9_isInReachOfOthers 31 = .ok (.getfield 137, 3) := by decide +kernel
theorem dX9_isInReachOfOthers_34 : decode cX9_isInReachOfOthers 34 = .ok (.iload_n 1, 1) := by decide +kernel
theorem dX9_isInReachOfOthers_35 : decode cX9_isInReachOfOthers 35 = .ok (.iaload, 1) := by decide +kernel
theorem dX9_isInReachOfOthers_36 : decode cX9_isInReachOfOthers 36 = .ok (.ishr, 1) := by decide +kernel
theorem dX9_isInReachOfOthers_37 : decode cX9_isInReachOfOthers 37 = .ok (.iconst 1, 1) := by decide +kernel
theorem dX9_isInReachOfOthers_38 : decode cX9_isInReachOfOthers 38 = .ok (.iand, 1) := by decide +kernel
theorem dX9_isInReachOfOthers_39 : decode cX9_isInReachOfOthers 39 = .ok (.ifCond .eq 5, 3) := by decide +kernel
theorem dX9_isInReachOfOthers_42 : decode cX9_isInReachOfOthers 42 = .ok (.iconst 1, 1) := by decide +kernel
theorem dX9_isInReachOfOthers_43 : decode cX9_isInReachOfOthers 43 = .ok (.ireturn, 1) := by decide +kernel
theorem dX9_isInReachOfOthers_44 : decode cX9_isInReachOfOthers 44 = .ok (.iinc 2 1, 3) := by decide +kernel
theorem dX9_isInReachOfOthers_47 : decode cX9_isInReachOfOthers 47 = .ok (.goto (-45), 3) := by decide +kernel
theorem dX9_isInReachOfOthers_50 : decode cX9_isInReachOfOthers 50 = .ok (.iconst 0, 1) := by decide +kernel
theorem dX9_isInReachOfOthers_51 : decode cX9_isInReachOfOthers 51 = .ok (.ireturn, 1) := by decide +kernel
theorem dX9_canMeet_0 : decode cX9_canMeet 0 = .ok (.aload_n 0, 1) := by decide +kernel
theorem dX9_canMeet_1 : decode cX9_canMeet 1 = .ok (.getfield 59, 3) := by decide +kernel
theorem dX9_canMeet_4 : decode cX9_canMeet 4 = .ok (.iload_n 1, 1) := by decide +kernel
theorem dX9_canMeet_5 : decode cX9_canMeet 5 = .ok (.iaload, 1) := by decide +kernel
theorem dX9_canMeet_6 : decode cX9_canMeet 6 = .ok (.aload_n 0, 1) := by decide +kernel
theorem dX9_canMeet_7 : decode cX9_canMeet 7 = .ok (.getfield 59, 3) := by decide +kernel
theorem dX9_canMeet_10 : decode cX9_canMeet 10 = .ok (.iload_n 2, 1) := by decide +kernel
theorem dX9_canMeet_11 : decode cX9_canMeet 11 = .ok (.iaload, 1) := by decide +kernel
theorem dX9_canMeet_12 : decode cX9_canMeet 12 = .ok (.iand, 1) := by decide +kernel
theorem dX9_canMeet_13 : decode cX9_canMeet 13 = .ok (.ifCond .eq 7, 3) := by decide +kernel
theorem dX9_canMeet_16 : decode cX9_canMeet 16 = .ok (.iconst 1, 1) := by decide +kernel
theorem dX9_canMeet_17 : decode cX9_canMeet 17 = .ok (.goto 4, 3) := by decide +kernel
theorem dX9_canMeet_20 : decode cX9_canMeet 20 = .ok (.iconst 0, 1) := by decide +kernel
theorem dX9_canMeet_21 : decode cX9_canMeet 21 = .ok (.ireturn, 1) := by decide +kernel
theorem dX9_findHands_0 : decode cX9_findHands 0 = .ok (.aload_n 0, 1) := by decide +kernel
theorem dX9_findHands_1 : decode cX9_findHands 1 = .ok (.getfield 62, 3) := by decide +kernel
theorem dX9_findHands_4 : decode cX9_findHands 4 = .ok (.bipush 99, 2) := by decide +kernel
theorem dX9_findHands_6 : decode cX9_findHands 6 = .ok (.invokestatic 348, 3) := by decide +kernel
theorem dX9_findHands_9 : decode cX9_findHands 9 = .ok (.aload_n 0, 1) := by decide +kernel
theorem dX9_findHands_10 : decode cX9_findHands 10 = .ok (.getfield 62, 3) := by decide +kernel
theorem dX9_findHands_13 : decode cX9_findHands 13 = .ok (.iload_n 1, 1) := by decide +kernel
theorem dX9_findHands_14 : decode cX9_findHands 14 = .ok (.iconst 0, 1) := by decide +kernel
theorem dX9_findHands_15 : decode cX9_findHands 15 = .ok (.iastore, 1) := by decide +kernel
theorem dX9_findHands_16 : decode cX9_findHands 16 = .ok (.iconst 1, 1) := by decide +kernel
theorem dX9_findHands_17 : decode cX9_findHands 17 = .ok (.istore_n 2, 1) := by decide +kernel
theorem dX9_findHands_18 : decode cX9_findHands 18 = .ok (.iload_n 2, 1) := by decide +kernel
theorem dX9_findHands_19 : decode cX9_findHands 19 = .ok (.aload_n 0, 1) := by decide +kernel
theorem dX9_findHands_20 : decode cX9_findHands 20 = .ok (.getfield 71, 3) := by decide +kernel
theorem dX9_findHands_23 : decode cX9_findHands 23 = .ok (.getfield 140, 3) := by decide +kernel
theorem dX9_findHands_26 : decode cX9_findHands 26 = .ok (.getfield 185, 3) := by decide +kernel
theorem dX9_findHands_29 : decode cX9_findHands 29 = .ok (.if_icmp .ge 96, 3) := by decide +kernel
theorem dX9_findHands_32 : decode cX9_findHands 32 = .ok (.iconst 0, 1) := by decide +kernel
theorem dX9_findHands_33 : decode cX9_findHands 33 = .ok (.istore_n 3, 1) := by decide +kernel
theorem dX9_findHands_34 : decode cX9_findHands 34 = .ok (.iload_n 3, 1) := by decide +kernel
theorem dX9_findHands_35 : decode cX9_findHands 35 = .ok (.aload_n 0, 1) := by decide +kernel
theorem dX9_findHands_36 : decode cX9_findHands 36 = .ok (.getfield 71, 3) := by decide +kernel
theorem dX9_findHands_39 : decode cX9_findHands 39 = .ok (.getfield 140, 3) := by decide +kernel
theorem dX9_findHands_42 : decode cX9_findHands 42 = .ok (.getfield 185, 3) := by decide +kernel
theorem dX9_findHands_45 : decode cX9_findHands 45 = .ok (.if_icmp .ge 74, 3) := by decide +kernel
theorem dX9_findHands_48 : decode cX9_findHands 48 = .ok (.iconst 0, 1) := by decide +kernel
theorem dX9_findHands_49 : decode cX9_findHands 49 = .ok (.istore 4, 2) := by decide +kernel
theorem dX9_findHands_51 : decode cX9_findHands 51 = .ok (.iload 4, 2) := by decide +kernel
theorem dX9_findHands_53 : decode cX9_findHands 53 = .ok (.aload_n 0, 1) := by decide +kernel
theorem dX9_findHands_54 : decode cX9_findHands 54 = .ok (.getfield 71, 3) := by decide +kernel
theorem dX9_findHands_57 : decode cX9_findHands 57 = .ok (.getfield 140, 3) := by decide +kernel
theorem dX9_findHands_60 : decode cX9_findHands 60 = .ok (.getfield 185, 3) := by decide +kernel
theorem dX9_findHands_63 : decode cX9_findHands 63 = .ok (.if_icmp .ge 50, 3) := by decide +kernel
theorem dX9_findHands_66 : decode cX9_findHands 66 = .ok (.aload_n 0, 1) := by decide +kernel
theorem dX9_findHands_67 : decode cX9_findHands 67 = .ok (.getfield 62, 3) := by decide +kernel
theorem dX9_findHands_70 : decode cX9_findHands 70 = .ok (.iload 4, 2) := by decide +kernel
theorem dX9_findHands_72 : decode cX9_findHands 72 = .ok (.iaload, 1) := by decide +kernel
theorem dX9_findHands_73 : decode cX9_findHands 73 = .ok (.iload_n 2, 1) := by decide +kernel
theorem dX9_findHands_74 : decode cX9_findHands 74 = .ok (.iconst 1, 1) := by decide +kernel
theorem dX9_findHands_75 : decode cX9_findHands 75 = .ok (.isub, 1) := by decide +kernel
theorem dX9_findHands_76 : decode cX9_findHands 76 = .ok (.if_icmp .ne 31, 3) := by decide +kernel
theorem dX9_findHands_79 : decode cX9_findHands 79 = .ok (.aload_n 0, 1) := by decide +kernel
theorem dX9_findHands_80 : decode cX9_findHands 80 = .ok (.getfield 62, 3) := by decide +kernel
theorem dX9_findHands_83 : decode cX9_findHands 83 = .ok (.iload_n 3, 1) := by decide +kernel
theorem dX9_findHands_84 : decode cX9_findHands 84 = .ok (.iaload, 1) := by decide +kernel
theorem dX9_findHands_85 : decode cX9_findHands 85 = .ok (.bipush 99, 2) := by decide +kernel
theorem dX9_findHands_87 : decode cX9_findHands 87 = .ok (.if_icmp .ne 20, 3) := by decide +kernel
theorem dX9_findHands_90 : decode cX9_findHands 90 = .ok (.aload_n 0, 1) := by decide +kernel
theorem dX9_findHands_91 : decode cX9_findHands 91 = .ok (.iload_n 3, 1) := by decide +kernel
theorem dX9_findHands_92 : decode cX9_findHands 92 = .ok (.iload 4, 2) := by decide +kernel
theorem dX9_findHands_94 : decode cX9_findHands 94 = .ok (.invokevirtual 354, 3) := by decide +kernel
theorem dX9_findHands_97 : decode cX9_findHands 97 = .ok (.ifCond .eq 10, 3) := by decide +kernel
theorem dX9_findHands_100 : decode cX9_findHands 100 = .ok (.aload_n 0, 1) := by decide +kernel
theorem dX9_findHands_101 : decode cX9_findHands 101 = .ok (.getfield 62, 3) := by decide +kernel
theorem dX9_findHands_104 : decode cX9_findHands 104 = .ok (.iload_n 3, 1) := by decide +kernel
theorem dX9_findHands_105 : decode cX9_findHands 105 = .ok (.iload_n 2, 1) := by decide +kernel
theorem dX9_findHands_106 : decode cX9_findHands 106 = .ok (.iastore, 1) := by decide +kernel
theorem dX9_findHands_107 : decode cX9_findHands 107 = .ok (.iinc 4 1, 3) := by decide +kernel
theorem dX9_findHands_110 : decode cX9_findHands 110 = .ok (.goto (-59), 3) := by decide +kernel
theorem dX9_findHands_113 : decode cX9_findHands 113 = .ok (.iinc 3 1, 3) := by decide +kernel
theorem dX9_findHands_116 : decode cX9_findHands 116 = .ok (.goto (-82), 3) := by decide +kernel
theorem dX9_findHands_119 : decode cX9_findHands 119 = .ok (.iinc 2 1, 3) := by decide +kernel
theorem dX9_findHands_122 : decode cX9_findHands 122 = .ok (.goto (-104), 3) := by decide +kernel
theorem dX9_findHands_125 : decode cX9_findHands 125 = .ok (.return_, 1) := by decide +kernel
theorem dX9_holderAfter_0 : decode cX9_holderAfter 0 = .ok (.iload_n 1, 1) := by decide +kernel
theorem dX9_holderAfter_1 : decode cX9_holderAfter 1 = .ok (.istore_n 3, 1) := by decide +kernel
theorem dX9_holderAfter_2 : decode cX9_holderAfter 2 = .ok (.iconst 0, 1) := by decide +kernel
theorem dX9_holderAfter_3 : decode cX9_holderAfter 3 = .ok (.istore 4, 2) := by decide +kernel
theorem dX9_holderAfter_5 : decode cX9_holderAfter 5 = .ok (.iload 4, 2) := by decide +kernel
theorem dX9_holderAfter_7 : decode cX9_holderAfter 7 = .ok (.iload_n 2, 1) := by decide +kernel
theorem dX9_holderAfter_8 : decode cX9_holderAfter 8 = .ok (.if_icmp .ge 15, 3) := by decide +kernel
theorem dX9_holderAfter_11 : decode cX9_holderAfter 11 = .ok (.aload_n 0, 1) := by decide +kernel
theorem dX9_holderAfter_12 : decode cX9_holderAfter 12 = .ok (.iload_n 3, 1) := by decide +kernel
theorem dX9_holderAfter_13 : decode cX9_holderAfter 13 = .ok (.invokevirtual 357, 3) := by decide +kernel
theorem dX9_holderAfter_16 : decode cX9_holderAfter 16 = .ok (.istore_n 3, 1) := by decide +kernel
theorem dX9_holderAfter_17 : decode cX9_holderAfter 17 = .ok (.iinc 4 1, 3) := by decide +kernel
theorem dX9_holderAfter_20 : decode cX9_holderAfter 20 = .ok (.goto (-15), 3) := by decide +kernel
theorem dX9_holderAfter_23 : decode cX9_holderAfter 23 = .ok (.iload_n 3, 1) := by decide +kernel
theorem dX9_holderAfter_24 : decode cX9_holderAfter 24 = .ok (.ireturn, 1) := by decide +kernel
theorem dX9_nextHolder_0 : decode cX9_nextHolder 0 = .ok (.iconst 0, 1) := by decide +kernel
theorem dX9_nextHolder_1 : decode cX9_nextHolder 1 = .ok (.istore_n 2, 1) := by decide +kernel
theorem dX9_nextHolder_2 : decode cX9_nextHolder 2 = .ok (.iload_n 2, 1) := by decide +kernel
theorem dX9_nextHolder_3 : decode cX9_nextHolder 3 = .ok (.aload_n 0, 1) := by decide +kernel
theorem dX9_nextHolder_4 : decode cX9_nextHolder 4 = .ok (.getfield 71, 3) := by decide +kernel
theorem dX9_nextHolder_7 : decode cX9_nextHolder 7 = .ok (.getfield 140, 3) := by decide +kernel
theorem dX9_nextHolder_10 : decode cX9_nextHolder 10 = .ok (.getfield 185, 3) := by decide +kernel
theorem dX9_nextHolder_13 : decode cX9_nextHolder 13 = .ok (.if_icmp .ge 37, 3) := by decide +kernel
theorem dX9_nextHolder_16 : decode cX9_nextHolder 16 = .ok (.aload_n 0, 1) := by decide +kernel
theorem dX9_nextHolder_17 : decode cX9_nextHolder 17 = .ok (.getfield 62, 3) := by decide +kernel
theorem dX9_nextHolder_20 : decode cX9_nextHolder 20 = .ok (.iload_n 2, 1) := by decide +kernel
theorem dX9_nextHolder_21 : decode cX9_nextHolder 21 = .ok (.iaload, 1) := by decide +kernel
theorem dX9_nextHolder_22 : decode cX9_nextHolder 22 = .ok (.aload_n 0, 1) := by decide +kernel
theorem dX9_nextHolder_23 : decode cX9_nextHolder 23 = .ok (.getfield 62, 3) := by decide +kernel
theorem dX9_nextHolder_26 : decode cX9_nextHolder 26 = .ok (.iload_n 1, 1) := by decide +kernel
theorem dX9_nextHolder_27 : decode cX9_nextHolder 27 = .ok (.iaload, 1) := by decide +kernel
theorem dX9_nextHolder_28 : decode cX9_nextHolder 28 = .ok (.iconst 1, 1) := by decide +kernel
theorem dX9_nextHolder_29 : decode cX9_nextHolder 29 = .ok (.isub, 1) := by decide +kernel
theorem dX9_nextHolder_30 : decode cX9_nextHolder 30 = .ok (.if_icmp .ne 14, 3) := by decide +kernel
theorem dX9_nextHolder_33 : decode cX9_nextHolder 33 = .ok (.aload_n 0, 1) := by decide +kernel
theorem dX9_nextHolder_34 : decode cX9_nextHolder 34 = .ok (.iload_n 1, 1) := by decide +kernel
theorem dX9_nextHolder_35 : decode cX9_nextHolder 35 = .ok (.iload_n 2, 1) := by decide +kernel
theorem dX9_nextHolder_36 : decode cX9_nextHolder 36 = .ok (.invokevirtual 354, 3) := by decide +kernel
theorem dX9_nextHolder_39 : decode cX9_nextHolder 39 = .ok (.ifCond .eq 5, 3) := by decide +kernel
theorem dX9_nextHolder_42 : decode cX9_nextHolder 42 = .ok (.iload_n 2, 1) := by decide +kernel
theorem dX9_nextHolder_43 : decode cX9_nextHolder 43 = .ok (.ireturn, 1) := by decide +kernel
theorem dX9_nextHolder_44 : decode cX9_nextHolder 44 = .ok (.iinc 2 1, 3) := by decide +kernel
theorem dX9_nextHolder_47 : decode cX9_nextHolder 47 = .ok (.goto (-45), 3) := by decide +kernel
theorem dX9_nextHolder_50 : decode cX9_nextHolder 50 = .ok (.iload_n 1, 1) := by decide +kernel
theorem dX9_nextHolder_51 : decode cX9_nextHolder 51 = .ok (.ireturn, 1) := by decide +kernel
theorem dX9_drawBelow_0 : decode cX9_drawBelow 0 = .ok (.aload_n 0, 1) := by decide +kernel
theorem dX9_drawBelow_1 : decode cX9_drawBelow 1 = .ok (.aload_n 0, 1) := by decide +kernel
theorem dX9_drawBelow_2 : decode cX9_drawBelow 2 = .ok (.getfield 44, 3) := by decide +kernel
theorem dX9_drawBelow_5 : decode cX9_drawBelow 5 = .ok (.ldc2_w 360, 3) := by decide +kernel
theorem dX9_drawBelow_8 : decode cX9_drawBelow 8 = .ok (.lmul, 1) := by decide +kernel
theorem dX9_drawBelow_9 : decode cX9_drawBelow 9 = .ok (.ldc2_w 362, 3) := by decide +kernel
theorem dX9_drawBelow_12 : decode cX9_drawBelow 12 = .ok (.ladd, 1) := by decide +kernel
theorem dX9_drawBelow_13 : decode cX9_drawBelow 13 = .ok (.ldc2_w 364, 3) := by decide +kernel
theorem dX9_drawBelow_16 : decode cX9_drawBelow 16 = .ok (.land, 1) := by decide +kernel
theorem dX9_drawBelow_17 : decode cX9_drawBelow 17 = .ok (.putfield 44, 3) := by decide +kernel
theorem dX9_drawBelow_20 : decode cX9_drawBelow 20 = .ok (.iload_n 1, 1) := by decide +kernel
theorem dX9_drawBelow_21 : decode cX9_drawBelow 21 = .ok (.ifCond .le 17, 3) := by decide +kernel
theorem dX9_drawBelow_24 : decode cX9_drawBelow 24 = .ok (.aload_n 0, 1) := by decide +kernel
theorem dX9_drawBelow_25 : decode cX9_drawBelow 25 = .ok (.getfield 44, 3) := by decide +kernel
theorem dX9_drawBelow_28 : decode cX9_drawBelow 28 = .ok (.ldc2_w 366, 3) := by decide +kernel
theorem dX9_drawBelow_31 : decode cX9_drawBelow 31 = .ok (.ldiv, 1) := by decide +kernel
theorem dX9_drawBelow_32 : decode cX9_drawBelow 32 = .ok (.l2i, 1) := by decide +kernel
theorem dX9_drawBelow_33 : decode cX9_drawBelow 33 = .ok (.iload_n 1, 1) := by decide +kernel
theorem dX9_drawBelow_34 : decode cX9_drawBelow 34 = .ok (.irem, 1) := by decide +kernel
theorem dX9_drawBelow_35 : decode cX9_drawBelow 35 = .ok (.goto 4, 3) := by decide +kernel
theorem dX9_drawBelow_38 : decode cX9_drawBelow 38 = .ok (.iconst 0, 1) := by decide +kernel
theorem dX9_drawBelow_39 : decode cX9_drawBelow 39 = .ok (.ireturn, 1) := by decide +kernel
theorem dX9_wanderByDraws_0 : decode cX9_wanderByDraws 0 = .ok (.iconst 0, 1) := by decide +kernel
theorem dX9_wanderByDraws_1 : decode cX9_wanderByDraws 1 = .ok (.istore_n 1, 1) := by decide +kernel
theorem dX9_wanderByDraws_2 : decode cX9_wanderByDraws 2 = .ok (.aload_n 0, 1) := by decide +kernel
theorem dX9_wanderByDraws_3 : decode cX9_wanderByDraws 3 = .ok (.getfield 75, 3) := by decide +kernel
theorem dX9_wanderByDraws_6 : decode cX9_wanderByDraws 6 = .ok (.getfield 140, 3) := by decide +kernel
theorem dX9_wanderByDraws_9 : decode cX9_wanderByDraws 9 = .ok (.getfield 87, 3) := by decide +kernel
theorem dX9_wanderByDraws_12 : decode cX9_wanderByDraws 12 = .ok (.getfield 127, 3) := by decide +kernel
theorem dX9_wanderByDraws_15 : decode cX9_wanderByDraws 15 = .ok (.istore_n 2, 1) := by decide +kernel
theorem dX9_wanderByDraws_16 : decode cX9_wanderByDraws 16 = .ok (.iconst 0, 1) := by decide +kernel
theorem dX9_wanderByDraws_17 : decode cX9_wanderByDraws 17 = .ok (.istore_n 3, 1) := by decide +kernel
theorem dX9_wanderByDraws_18 : decode cX9_wanderByDraws 18 = .ok (.iload_n 3, 1) := by decide +kernel
theorem dX9_wanderByDraws_19 : decode cX9_wanderByDraws 19 = .ok (.aload_n 0, 1) := by decide +kernel
theorem dX9_wanderByDraws_20 : decode cX9_wanderByDraws 20 = .ok (.getfield 75, 3) := by decide +kernel
theorem dX9_wanderByDraws_23 : decode cX9_wanderByDraws 23 = .ok (.getfield 140, 3) := by decide +kernel
theorem dX9_wanderByDraws_26 : decode cX9_wanderByDraws 26 = .ok (.getfield 185, 3) := by decide +kernel
theorem dX9_wanderByDraws_29 : decode cX9_wanderByDraws 29 = .ok (.if_icmp .ge 50, 3) := by decide +kernel
theorem dX9_wanderByDraws_32 : decode cX9_wanderByDraws 32 = .ok (.aload_n 0, 1) := by decide +kernel
theorem dX9_wanderByDraws_33 : decode cX9_wanderByDraws 33 = .ok (.iload_n 2, 1) := by decide +kernel
theorem dX9_wanderByDraws_34 : decode cX9_wanderByDraws 34 = .ok (.iconst 1, 1) := by decide +kernel
theorem dX9_wanderByDraws_35 : decode cX9_wanderByDraws 35 = .ok (.iadd, 1) := by decide +kernel
theorem dX9_wanderByDraws_36 : decode cX9_wanderByDraws 36 = .ok (.invokevirtual 368, 3) := by decide +kernel
theorem dX9_wanderByDraws_39 : decode cX9_wanderByDraws 39 = .ok (.istore 4, 2) := by decide +kernel
theorem dX9_wanderByDraws_41 : decode cX9_wanderByDraws 41 = .ok (.iload 4, 2) := by decide +kernel
theorem dX9_wanderByDraws_43 : decode cX9_wanderByDraws 43 = .ok (.iload_n 2, 1) := by decide +kernel
theorem dX9_wanderByDraws_44 : decode cX9_wanderByDraws 44 = .ok (.if_icmp .ge 29, 3) := by decide +kernel
theorem dX9_wanderByDraws_47 : decode cX9_wanderByDraws 47 = .ok (.aload_n 0, 1) := by decide +kernel
theorem dX9_wanderByDraws_48 : decode cX9_wanderByDraws 48 = .ok (.getfield 75, 3) := by decide +kernel
theorem dX9_wanderByDraws_51 : decode cX9_wanderByDraws 51 = .ok (.iload_n 3, 1) := by decide +kernel
theorem dX9_wanderByDraws_52 : decode cX9_wanderByDraws 52 = .ok (.iload 4, 2) := by decide +kernel
theorem dX9_wanderByDraws_54 : decode cX9_wanderByDraws 54 = .ok (.invokevirtual 205, 3) := by decide +kernel
theorem dX9_wanderByDraws_57 : decode cX9_wanderByDraws 57 = .ok (.ifCond .eq 16, 3) := by decide +kernel
theorem dX9_wanderByDraws_60 : decode cX9_wanderByDraws 60 = .ok (.aload_n 0, 1) := by decide +kernel
theorem dX9_wanderByDraws_61 : decode cX9_wanderByDraws 61 = .ok (.getfield 75, 3) := by decide +kernel
theorem dX9_wanderByDraws_64 : decode cX9_wanderByDraws 64 = .ok (.iload_n 3, 1) := by decide +kernel
theorem dX9_wanderByDraws_65 : decode cX9_wanderByDraws 65 = .ok (.iload 4, 2) := by decide +kernel
theorem dX9_wanderByDraws_67 : decode cX9_wanderByDraws 67 = .ok (.invokevirtual 212, 3) := by decide +kernel
theorem dX9_wanderByDraws_70 : decode cX9_wanderByDraws 70 = .ok (.iinc 1 1, 3) := by decide +kernel
theorem dX9_wanderByDraws_73 : decode cX9_wanderByDraws 73 = .ok (.iinc 3 1, 3) := by decide +kernel
theorem dX9_wanderByDraws_76 : decode cX9_wanderByDraws 76 = .ok (.goto (-58), 3) := by decide +kernel
theorem dX9_wanderByDraws_79 : decode cX9_wanderByDraws 79 = .ok (.iload_n 1, 1) := by decide +kernel
theorem dX9_wanderByDraws_80 : decode cX9_wanderByDraws 80 = .ok (.ireturn, 1) := by decide +kernel
theorem dJ6_bitCount_0f7a4_0 : decode cJ6_bitCount_0f7a4 0 = .ok (.iload_n 0, 1) := by decide +kernel
theorem dJ6_bitCount_0f7a4_1 : decode cJ6_bitCount_0f7a4 1 = .ok (.iload_n 0, 1) := by decide +kernel
theorem dJ6_bitCount_0f7a4_2 : decode cJ6_bitCount_0f7a4 2 = .ok (.iconst 1, 1) := by decide +kernel
theorem dJ6_bitCount_0f7a4_3 : decode cJ6_bitCount_0f7a4 3 = .ok (.iushr, 1) := by decide +kernel
theorem dJ6_bitCount_0f7a4_4 : decode cJ6_bitCount_0f7a4 4 = .ok (.ldc_w 265, 3) := by decide +kernel
theorem dJ6_bitCount_0f7a4_7 : decode cJ6_bitCount_0f7a4 7 = .ok (.iand, 1) := by decide +kernel
theorem dJ6_bitCount_0f7a4_8 : decode cJ6_bitCount_0f7a4 8 = .ok (.isub, 1) := by decide +kernel
theorem dJ6_bitCount_0f7a4_9 : decode cJ6_bitCount_0f7a4 9 = .ok (.istore_n 0, 1) := by decide +kernel
theorem dJ6_bitCount_0f7a4_10 : decode cJ6_bitCount_0f7a4 10 = .ok (.iload_n 0, 1) := by decide +kernel
theorem dJ6_bitCount_0f7a4_11 : decode cJ6_bitCount_0f7a4 11 = .ok (.ldc_w 266, 3) := by decide +kernel
theorem dJ6_bitCount_0f7a4_14 : decode cJ6_bitCount_0f7a4 14 = .ok (.iand, 1) := by decide +kernel
theorem dJ6_bitCount_0f7a4_15 : decode cJ6_bitCount_0f7a4 15 = .ok (.iload_n 0, 1) := by decide +kernel
theorem dJ6_bitCount_0f7a4_16 : decode cJ6_bitCount_0f7a4 16 = .ok (.iconst 2, 1) := by decide +kernel
theorem dJ6_bitCount_0f7a4_17 : decode cJ6_bitCount_0f7a4 17 = .ok (.iushr, 1) := by decide +kernel
theorem dJ6_bitCount_0f7a4_18 : decode cJ6_bitCount_0f7a4 18 = .ok (.ldc_w 266, 3) := by decide +kernel
theorem dJ6_bitCount_0f7a4_21 : decode cJ6_bitCount_0f7a4 21 = .ok (.iand, 1) := by decide +kernel
theorem dJ6_bitCount_0f7a4_22 : decode cJ6_bitCount_0f7a4 22 = .ok (.iadd, 1) := by decide +kernel
theorem dJ6_bitCount_0f7a4_23 : decode cJ6_bitCount_0f7a4 23 = .ok (.istore_n 0, 1) := by decide +kernel
theorem dJ6_bitCount_0f7a4_24 : decode cJ6_bitCount_0f7a4 24 = .ok (.iload_n 0, 1) := by decide +kernel
theorem dJ6_bitCount_0f7a4_25 : decode cJ6_bitCount_0f7a4 25 = .ok (.iload_n 0, 1) := by decide +kernel
theorem dJ6_bitCount_0f7a4_26 : decode cJ6_bitCount_0f7a4 26 = .ok (.iconst 4, 1) := by decide +kernel
theorem dJ6_bitCount_0f7a4_27 : decode cJ6_bitCount_0f7a4 27 = .ok (.iushr, 1) := by decide +kernel
theorem dJ6_bitCount_0f7a4_28 : decode cJ6_bitCount_0f7a4 28 = .ok (.iadd, 1) := by decide +kernel
theorem dJ6_bitCount_0f7a4_29 : decode cJ6_bitCount_0f7a4 29 = .ok (.ldc_w 267, 3) := by decide +kernel
theorem dJ6_bitCount_0f7a4_32 : decode cJ6_bitCount_0f7a4 32 = .ok (.iand, 1) := by decide +kernel
theorem dJ6_bitCount_0f7a4_33 : decode cJ6_bitCount_0f7a4 33 = .ok (.istore_n 0, 1) := by decide +kernel
theorem dJ6_bitCount_0f7a4_34 : decode cJ6_bitCount_0f7a4 34 = .ok (.iload_n 0, 1) := by decide +kernel
theorem dJ6_bitCount_0f7a4_35 : decode cJ6_bitCount_0f7a4 35 = .ok (.iload_n 0, 1) := by decide +kernel
theorem dJ6_bitCount_0f7a4_36 : decode cJ6_bitCount_0f7a4 36 = .ok (.bipush 8, 2) := by decide +kernel
theorem dJ6_bitCount_0f7a4_38 : decode cJ6_bitCount_0f7a4 38 = .ok (.iushr, 1) := by decide +kernel
theorem dJ6_bitCount_0f7a4_39 : decode cJ6_bitCount_0f7a4 39 = .ok (.iadd, 1) := by decide +kernel
theorem dJ6_bitCount_0f7a4_40 : decode cJ6_bitCount_0f7a4 40 = .ok (.istore_n 0, 1) := by decide +kernel
theorem dJ6_bitCount_0f7a4_41 : decode cJ6_bitCount_0f7a4 41 = .ok (.iload_n 0, 1) := by decide +kernel
theorem dJ6_bitCount_0f7a4_42 : decode cJ6_bitCount_0f7a4 42 = .ok (.iload_n 0, 1) := by decide +kernel
theorem dJ6_bitCount_0f7a4_43 : decode cJ6_bitCount_0f7a4 43 = .ok (.bipush 16, 2) := by decide +kernel
theorem dJ6_bitCount_0f7a4_45 : decode cJ6_bitCount_0f7a4 45 = .ok (.iushr, 1) := by decide +kernel
theorem dJ6_bitCount_0f7a4_46 : decode cJ6_bitCount_0f7a4 46 = .ok (.iadd, 1) := by decide +kernel
theorem dJ6_bitCount_0f7a4_47 : decode cJ6_bitCount_0f7a4 47 = .ok (.istore_n 0, 1) := by decide +kernel
theorem dJ6_bitCount_0f7a4_48 : decode cJ6_bitCount_0f7a4 48 = .ok (.iload_n 0, 1) := by decide +kernel
theorem dJ6_bitCount_0f7a4_49 : decode cJ6_bitCount_0f7a4 49 = .ok (.bipush 63, 2) := by decide +kernel
theorem dJ6_bitCount_0f7a4_51 : decode cJ6_bitCount_0f7a4 51 = .ok (.iand, 1) := by decide +kernel
theorem dJ6_bitCount_0f7a4_52 : decode cJ6_bitCount_0f7a4 52 = .ok (.ireturn, 1) := by decide +kernel
theorem dJ9_max_7cf53_0 : decode cJ9_max_7cf53 0 = .ok (.iload_n 0, 1) := by decide +kernel
theorem dJ9_max_7cf53_1 : decode cJ9_max_7cf53 1 = .ok (.iload_n 1, 1) := by decide +kernel
theorem dJ9_max_7cf53_2 : decode cJ9_max_7cf53 2 = .ok (.if_icmp .lt 7, 3) := by decide +kernel
theorem dJ9_max_7cf53_5 : decode cJ9_max_7cf53 5 = .ok (.iload_n 0, 1) := by decide +kernel
theorem dJ9_max_7cf53_6 : decode cJ9_max_7cf53 6 = .ok (.goto 4, 3) := by decide +kernel
theorem dJ9_max_7cf53_9 : decode cJ9_max_7cf53 9 = .ok (.iload_n 1, 1) := by decide +kernel
theorem dJ9_max_7cf53_10 : decode cJ9_max_7cf53 10 = .ok (.ireturn, 1) := by decide +kernel
theorem dJ9_min_7cf53_0 : decode cJ9_min_7cf53 0 = .ok (.iload_n 0, 1) := by decide +kernel
theorem dJ9_min_7cf53_1 : decode cJ9_min_7cf53 1 = .ok (.iload_n 1, 1) := by decide +kernel
theorem dJ9_min_7cf53_2 : decode cJ9_min_7cf53 2 = .ok (.if_icmp .gt 7, 3) := by decide +kernel
theorem dJ9_min_7cf53_5 : decode cJ9_min_7cf53 5 = .ok (.iload_n 0, 1) := by decide +kernel
theorem dJ9_min_7cf53_6 : decode cJ9_min_7cf53 6 = .ok (.goto 4, 3) := by decide +kernel
theorem dJ9_min_7cf53_9 : decode cJ9_min_7cf53 9 = .ok (.iload_n 1, 1) := by decide +kernel
theorem dJ9_min_7cf53_10 : decode cJ9_min_7cf53 10 = .ok (.ireturn, 1) := by decide +kernel
theorem dJ0_length_8abf5_0 : decode cJ0_length_8abf5 0 = .ok (.aload_n 0, 1) := by decide +kernel
theorem dJ0_length_8abf5_1 : decode cJ0_length_8abf5 1 = .ok (.getfield 9, 3) := by decide +kernel
theorem dJ0_length_8abf5_4 : decode cJ0_length_8abf5 4 = .ok (.arraylength, 1) := by decide +kernel
theorem dJ0_length_8abf5_5 : decode cJ0_length_8abf5 5 = .ok (.aload_n 0, 1) := by decide +kernel
theorem dJ0_length_8abf5_6 : decode cJ0_length_8abf5 6 = .ok (.invokevirtual 335, 3) := by decide +kernel
theorem dJ0_length_8abf5_9 : decode cJ0_length_8abf5 9 = .ok (.ishr, 1) := by decide +kernel
theorem dJ0_length_8abf5_10 : decode cJ0_length_8abf5 10 = .ok (.ireturn, 1) := by decide +kernel
theorem dJ0_charAt_5068e_0 : decode cJ0_charAt_5068e 0 = .ok (.aload_n 0, 1) := by decide +kernel
theorem dJ0_charAt_5068e_1 : decode cJ0_charAt_5068e 1 = .ok (.invokevirtual 492, 3) := by decide +kernel
theorem dJ0_charAt_5068e_4 : decode cJ0_charAt_5068e 4 = .ok (.ifCond .eq 12, 3) := by decide +kernel
theorem dJ0_charAt_5068e_7 : decode cJ0_charAt_5068e 7 = .ok (.aload_n 0, 1) := by decide +kernel
theorem dJ0_charAt_5068e_8 : decode cJ0_charAt_5068e 8 = .ok (.getfield 9, 3) := by decide +kernel
theorem dJ0_charAt_5068e_11 : decode cJ0_charAt_5068e 11 = .ok (.iload_n 1, 1) := by decide +kernel
theorem dJ0_charAt_5068e_12 : decode cJ0_charAt_5068e 12 = .ok (.invokestatic 495, 3) := by decide +kernel
theorem dJ0_charAt_5068e_15 : decode cJ0_charAt_5068e 15 = .ok (.ireturn, 1) := by decide +kernel
theorem dJ0_charAt_5068e_16 : decode cJ0_charAt_5068e 16 = .ok (.aload_n 0, 1) := by decide +kernel
theorem dJ0_charAt_5068e_17 : decode cJ0_charAt_5068e 17 = .ok (.getfield 9, 3) := by decide +kernel
theorem dJ0_charAt_5068e_20 : decode cJ0_charAt_5068e 20 = .ok (.iload_n 1, 1) := by decide +kernel
theorem dJ0_charAt_5068e_21 : decode cJ0_charAt_5068e 21 = .ok (.invokestatic 498, 3) := by decide +kernel
theorem dJ0_charAt_5068e_24 : decode cJ0_charAt_5068e 24 = .ok (.ireturn, 1) := by decide +kernel
theorem dJ0_coder_7d493_0 : decode cJ0_coder_7d493 0 = .ok (.getstatic 38, 3) := by decide +kernel
theorem dJ0_coder_7d493_3 : decode cJ0_coder_7d493 3 = .ok (.ifCond .eq 10, 3) := by decide +kernel
theorem dJ0_coder_7d493_6 : decode cJ0_coder_7d493 6 = .ok (.aload_n 0, 1) := by decide +kernel
theorem dJ0_coder_7d493_7 : decode cJ0_coder_7d493 7 = .ok (.getfield 15, 3) := by decide +kernel
theorem dJ0_coder_7d493_10 : decode cJ0_coder_7d493 10 = .ok (.goto 4, 3) := by decide +kernel
theorem dJ0_coder_7d493_13 : decode cJ0_coder_7d493 13 = .ok (.iconst 1, 1) := by decide +kernel
theorem dJ0_coder_7d493_14 : decode cJ0_coder_7d493 14 = .ok (.ireturn, 1) := by decide +kernel
theorem dJ0_isLatin1_aae02_0 : decode cJ0_isLatin1_aae02 0 = .ok (.getstatic 38, 3) := by decide +kernel
theorem dJ0_isLatin1_aae02_3 : decode cJ0_isLatin1_aae02 3 = .ok (.ifCond .eq 14, 3) := by decide +kernel
theorem dJ0_isLatin1_aae02_6 : decode cJ0_isLatin1_aae02 6 = .ok (.aload_n 0, 1) := by decide +kernel
theorem dJ0_isLatin1_aae02_7 : decode cJ0_isLatin1_aae02 7 = .ok (.getfield 15, 3) := by decide +kernel
theorem dJ0_isLatin1_aae02_10 : decode cJ0_isLatin1_aae02 10 = .ok (.ifCond .ne 7, 3) := by decide +kernel
theorem dJ0_isLatin1_aae02_13 : decode cJ0_isLatin1_aae02 13 = .ok (.iconst 1, 1) := by decide +kernel
theorem dJ0_isLatin1_aae02_14 : decode cJ0_isLatin1_aae02 14 = .ok (.goto 4, 3) := by decide +kernel
theorem dJ0_isLatin1_aae02_17 : decode cJ0_isLatin1_aae02 17 = .ok (.iconst 0, 1) := by decide +kernel
theorem dJ0_isLatin1_aae02_18 : decode cJ0_isLatin1_aae02 18 = .ok (.ireturn, 1) := by decide +kernel
theorem dJ0_checkIndex_df160_0 : decode cJ0_checkIndex_df160 0 = .ok (.iload_n 0, 1) := by decide +kernel
theorem dJ0_checkIndex_df160_1 : decode cJ0_checkIndex_df160 1 = .ok (.iload_n 1, 1) := by decide +kernel
theorem dJ0_checkIndex_df160_2 : decode cJ0_checkIndex_df160 2 = .ok (.getstatic 1053, 3) := by decide +kernel
theorem dJ0_checkIndex_df160_5 : decode cJ0_checkIndex_df160 5 = .ok (.invokestatic 1059, 3) := by decide +kernel
theorem dJ0_checkIndex_df160_8 : decode cJ0_checkIndex_df160 8 = .ok (.pop, 1) := by decide +kernel
theorem dJ0_checkIndex_df160_9 : decode cJ0_checkIndex_df160 9 = .ok (.return_, 1) := by decide +kernel
theorem dJ1_charAt_3b067_0 : decode cJ1_charAt_3b067 0 = .ok (.iload_n 1, 1) := by decide +kernel
theorem dJ1_charAt_3b067_1 : decode cJ1_charAt_3b067 1 = .ok (.aload_n 0, 1) := by decide +kernel
theorem dJ1_charAt_3b067_2 : decode cJ1_charAt_3b067 2 = .ok (.arraylength, 1) := by decide +kernel
theorem dJ1_charAt_3b067_3 : decode cJ1_charAt_3b067 3 = .ok (.invokestatic 9, 3) := by decide +kernel
theorem dJ1_charAt_3b067_6 : decode cJ1_charAt_3b067 6 = .ok (.aload_n 0, 1) := by decide +kernel
theorem dJ1_charAt_3b067_7 : decode cJ1_charAt_3b067 7 = .ok (.iload_n 1, 1) := by decide +kernel
theorem dJ1_charAt_3b067_8 : decode cJ1_charAt_3b067 8 = .ok (.baload, 1) := by decide +kernel
theorem dJ1_charAt_3b067_9 : decode cJ1_charAt_3b067 9 = .ok (.sipush 255, 3) := by decide +kernel
theorem dJ1_charAt_3b067_12 : decode cJ1_charAt_3b067 12 = .ok (.iand, 1) := by decide +kernel
theorem dJ1_charAt_3b067_13 : decode cJ1_charAt_3b067 13 = .ok (.i2c, 1) := by decide +kernel
theorem dJ1_charAt_3b067_14 : decode cJ1_charAt_3b067 14 = .ok (.ireturn, 1) := by decide +kernel
theorem dJ2_getChar_3b067_0 : decode cJ2_getChar_3b067 0 = .ok (.getstatic 44, 3) := by decide +kernel
theorem dJ2_getChar_3b067_3 : decode cJ2_getChar_3b067 3 = .ok (.ifCond .ne 25, 3) := by decide +kernel
theorem dJ2_getChar_3b067_6 : decode cJ2_getChar_3b067 6 = .ok (.iload_n 1, 1) := by decide +kernel
theorem dJ2_getChar_3b067_7 : decode cJ2_getChar_3b067 7 = .ok (.ifCond .lt 11, 3) := by decide +kernel
theorem dJ2_getChar_3b067_10 : decode cJ2_getChar_3b067 10 = .ok (.iload_n 1, 1) := by decide +kernel
theorem dJ2_getChar_3b067_11 : decode cJ2_getChar_3b067 11 = .ok (.aload_n 0, 1) := by decide +kernel
theorem dJ2_getChar_3b067_12 : decode cJ2_getChar_3b067 12 = .ok (.invokestatic 48, 3) := by decide +kernel
theorem dJ2_getChar_3b067_15 : decode cJ2_getChar_3b067 15 = .ok (.if_icmp .lt 13, 3) := by decide +kernel
theorem dJ2_getChar_3b067_18 : decode cJ2_getChar_3b067 18 = .ok (.new 52, 3) := by decide +kernel
theorem dJ2_getChar_3b067_21 : decode cJ2_getChar_3b067 21 = .ok (.dup, 1) := by decide +kernel
theorem dJ2_getChar_3b067_22 : decode cJ2_getChar_3b067 22 = .ok (.ldc 54, 2) := by decide +kernel
theorem dJ2_getChar_3b067_24 : decode cJ2_getChar_3b067 24 = .ok (.invokespecial 56, 3) := by decide +kernel
theorem dJ2_getChar_3b067_27 : decode cJ2_getChar_3b067 27 = .ok (.athrow, 1) := by decide +kernel
theorem dJ2_getChar_3b067_28 : decode cJ2_getChar_3b067 28 = .ok (.iload_n 1, 1) := by decide +kernel
theorem dJ2_getChar_3b067_29 : decode cJ2_getChar_3b067 29 = .ok (.iconst 1, 1) := by decide +kernel
theorem dJ2_getChar_3b067_30 : decode cJ2_getChar_3b067 30 = .ok (.ishl, 1) := by decide +kernel
theorem dJ2_getChar_3b067_31 : decode cJ2_getChar_3b067 31 = .ok (.istore_n 1, 1) := by decide +kernel
theorem dJ2_getChar_3b067_32 : decode cJ2_getChar_3b067 32 = .ok (.aload_n 0, 1) := by decide +kernel
theorem dJ2_getChar_3b067_33 : decode cJ2_getChar_3b067 33 = .ok (.iload_n 1, 1) := by decide +kernel
theorem dJ2_getChar_3b067_34 : decode cJ2_getChar_3b067 34 = .ok (.iinc 1 1, 3) := by decide +kernel
theorem dJ2_getChar_3b067_37 : decode cJ2_getChar_3b067 37 = .ok (.baload, 1) := by decide +kernel
theorem dJ2_getChar_3b067_38 : decode cJ2_getChar_3b067 38 = .ok (.sipush 255, 3) := by decide +kernel
theorem dJ2_getChar_3b067_41 : decode cJ2_getChar_3b067 41 = .ok (.iand, 1) := by decide +kernel
theorem dJ2_getChar_3b067_42 : decode cJ2_getChar_3b067 42 = .ok (.getstatic 59, 3) := by decide +kernel
theorem dJ2_getChar_3b067_45 : decode cJ2_getChar_3b067 45 = .ok (.ishl, 1) := by decide +kernel
theorem dJ2_getChar_3b067_46 : decode cJ2_getChar_3b067 46 = .ok (.aload_n 0, 1) := by decide +kernel
theorem dJ2_getChar_3b067_47 : decode cJ2_getChar_3b067 47 = .ok (.iload_n 1, 1) := by decide +kernel
theorem dJ2_getChar_3b067_48 : decode cJ2_getChar_3b067 48 = .ok (.baload, 1) := by decide +kernel
theorem dJ2_getChar_3b067_49 : decode cJ2_getChar_3b067 49 = .ok (.sipush 255, 3) := by decide +kernel
theorem dJ2_getChar_3b067_52 : decode cJ2_getChar_3b067 52 = .ok (.iand, 1) := by decide +kernel
theorem dJ2_getChar_3b067_53 : decode cJ2_getChar_3b067 53 = .ok (.getstatic 63, 3) := by decide +kernel
theorem dJ2_getChar_3b067_56 : decode cJ2_getChar_3b067 56 = .ok (.ishl, 1) := by decide +kernel
theorem dJ2_getChar_3b067_57 : decode cJ2_getChar_3b067 57 = .ok (.ior, 1) := by decide +kernel
theorem dJ2_getChar_3b067_58 : decode cJ2_getChar_3b067 58 = .ok (.i2c, 1) := by decide +kernel
theorem dJ2_getChar_3b067_59 : decode cJ2_getChar_3b067 59 = .ok (.ireturn, 1) := by decide +kernel
theorem dJ2_length_9d52b_0 : decode cJ2_length_9d52b 0 = .ok (.aload_n 0, 1) := by decide +kernel
theorem dJ2_length_9d52b_1 : decode cJ2_length_9d52b 1 = .ok (.arraylength, 1) := by decide +kernel
theorem dJ2_length_9d52b_2 : decode cJ2_length_9d52b 2 = .ok (.iconst 1, 1) := by decide +kernel
theorem dJ2_length_9d52b_3 : decode cJ2_length_9d52b 3 = .ok (.ishr, 1) := by decide +kernel
theorem dJ2_length_9d52b_4 : decode cJ2_length_9d52b 4 = .ok (.ireturn, 1) := by decide +kernel
theorem dJ2_charAt_3b067_0 : decode cJ2_charAt_3b067 0 = .ok (.iload_n 1, 1) := by decide +kernel
theorem dJ2_charAt_3b067_1 : decode cJ2_charAt_3b067 1 = .ok (.aload_n 0, 1) := by decide +kernel
theorem dJ2_charAt_3b067_2 : decode cJ2_charAt_3b067 2 = .ok (.invokestatic 67, 3) := by decide +kernel
theorem dJ2_charAt_3b067_5 : decode cJ2_charAt_3b067 5 = .ok (.aload_n 0, 1) := by decide +kernel
theorem dJ2_charAt_3b067_6 : decode cJ2_charAt_3b067 6 = .ok (.iload_n 1, 1) := by decide +kernel
theorem dJ2_charAt_3b067_7 : decode cJ2_charAt_3b067 7 = .ok (.invokestatic 71, 3) := by decide +kernel
theorem dJ2_charAt_3b067_10 : decode cJ2_charAt_3b067 10 = .ok (.ireturn, 1) := by decide +kernel
theorem dJ2_checkIndex_2214a_0 : decode cJ2_checkIndex_2214a 0 = .ok (.iload_n 0, 1) := by decide +kernel
theorem dJ2_checkIndex_2214a_1 : decode cJ2_checkIndex_2214a 1 = .ok (.aload_n 1, 1) := by decide +kernel
theorem dJ2_checkIndex_2214a_2 : decode cJ2_checkIndex_2214a 2 = .ok (.invokestatic 48, 3) := by decide +kernel
theorem dJ2_checkIndex_2214a_5 : decode cJ2_checkIndex_2214a 5 = .ok (.invokestatic 414, 3) := by decide +kernel
theorem dJ2_checkIndex_2214a_8 : decode cJ2_checkIndex_2214a 8 = .ok (.return_, 1) := by decide +kernel
theorem dJ7_fill_53178_0 : decode cJ7_fill_53178 0 = .ok (.iconst 0, 1) := by decide +kernel
theorem dJ7_fill_53178_1 : decode cJ7_fill_53178 1 = .ok (.istore_n 2, 1) := by decide +kernel
theorem dJ7_fill_53178_2 : decode cJ7_fill_53178 2 = .ok (.aload_n 0, 1) := by decide +kernel
theorem dJ7_fill_53178_3 : decode cJ7_fill_53178 3 = .ok (.arraylength, 1) := by decide +kernel
theorem dJ7_fill_53178_4 : decode cJ7_fill_53178 4 = .ok (.istore_n 3, 1) := by decide +kernel
theorem dJ7_fill_53178_5 : decode cJ7_fill_53178 5 = .ok (.iload_n 2, 1) := by decide +kernel
theorem dJ7_fill_53178_6 : decode cJ7_fill_53178 6 = .ok (.iload_n 3, 1) := by decide +kernel
theorem dJ7_fill_53178_7 : decode cJ7_fill_53178 7 = .ok (.if_icmp .ge 13, 3) := by decide +kernel
theorem dJ7_fill_53178_10 : decode cJ7_fill_53178 10 = .ok (.aload_n 0, 1) := by decide +kernel
theorem dJ7_fill_53178_11 : decode cJ7_fill_53178 11 = .ok (.iload_n 2, 1) := by decide +kernel
theorem dJ7_fill_53178_12 : decode cJ7_fill_53178 12 = .ok (.iload_n 1, 1) := by decide +kernel
theorem dJ7_fill_53178_13 : decode cJ7_fill_53178 13 = .ok (.iastore, 1) := by decide +kernel
theorem dJ7_fill_53178_14 : decode cJ7_fill_53178 14 = .ok (.iinc 2 1, 3) := by decide +kernel
theorem dJ7_fill_53178_17 : decode cJ7_fill_53178 17 = .ok (.goto (-12), 3) := by decide +kernel
theorem dJ7_fill_53178_20 : decode cJ7_fill_53178 20 = .ok (.return_, 1) := by decide +kernel
theorem dJ3_checkIndex_8e157_0 : decode cJ3_checkIndex_8e157 0 = .ok (.iload_n 0, 1) := by decide +kernel
theorem dJ3_checkIndex_8e157_1 : decode cJ3_checkIndex_8e157 1 = .ok (.ifCond .lt 8, 3) := by decide +kernel
theorem dJ3_checkIndex_8e157_4 : decode cJ3_checkIndex_8e157 4 = .ok (.iload_n 0, 1) := by decide +kernel
theorem dJ3_checkIndex_8e157_5 : decode cJ3_checkIndex_8e157 5 = .ok (.iload_n 1, 1) := by decide +kernel
theorem dJ3_checkIndex_8e157_6 : decode cJ3_checkIndex_8e157 6 = .ok (.if_icmp .lt 10, 3) := by decide +kernel
theorem dJ3_checkIndex_8e157_9 : decode cJ3_checkIndex_8e157 9 = .ok (.aload_n 2, 1) := by decide +kernel
theorem dJ3_checkIndex_8e157_10 : decode cJ3_checkIndex_8e157 10 = .ok (.iload_n 0, 1) := by decide +kernel
theorem dJ3_checkIndex_8e157_11 : decode cJ3_checkIndex_8e157 11 = .ok (.iload_n 1, 1) := by decide +kernel
theorem dJ3_checkIndex_8e157_12 : decode cJ3_checkIndex_8e157 12 = .ok (.invokestatic 95, 3) := by decide +kernel
theorem dJ3_checkIndex_8e157_15 : decode cJ3_checkIndex_8e157 15 = .ok (.athrow, 1) := by decide +kernel
theorem dJ3_checkIndex_8e157_16 : decode cJ3_checkIndex_8e157 16 = .ok (.iload_n 0, 1) := by decide +kernel
theorem dJ3_checkIndex_8e157_17 : decode cJ3_checkIndex_8e157 17 = .ok (.ireturn, 1) := by decide +kernel
