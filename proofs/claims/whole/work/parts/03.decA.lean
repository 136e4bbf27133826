theorem dX0_init_0 : decode cX0_init 0 = .ok (.aload_n 0, 1) := by decide +kernel
theorem dX0_init_1 : decode cX0_init 1 = .ok (.invokespecial 3, 3) := by decide +kernel
theorem dX0_init_4 : decode cX0_init 4 = .ok (.aload_n 0, 1) := by decide +kernel
theorem dX0_init_5 : decode cX0_init 5 = .ok (.iconst 0, 1) := by decide +kernel
theorem dX0_init_6 : decode cX0_init 6 = .ok (.putfield 9, 3) := by decide +kernel
theorem dX0_init_9 : decode cX0_init 9 = .ok (.aload_n 0, 1) := by decide +kernel
theorem dX0_init_10 : decode cX0_init 10 = .ok (.iconst 4, 1) := by decide +kernel
theorem dX0_init_11 : decode cX0_init 11 = .ok (.newarray .int, 2) := by decide +kernel
theorem dX0_init_13 : decode cX0_init 13 = .ok (.putfield 15, 3) := by decide +kernel
theorem dX0_init_16 : decode cX0_init 16 = .ok (.aload_n 0, 1) := by decide +kernel
theorem dX0_init_17 : decode cX0_init 17 = .ok (.iconst 4, 1) := by decide +kernel
theorem dX0_init_18 : decode cX0_init 18 = .ok (.newarray .int, 2) := by decide +kernel
theorem dX0_init_20 : decode cX0_init 20 = .ok (.putfield 19, 3) := by decide +kernel
theorem dX0_init_23 : decode cX0_init 23 = .ok (.aload_n 0, 1) := by decide +kernel
theorem dX0_init_24 : decode cX0_init 24 = .ok (.bipush 8, 2) := by decide +kernel
theorem dX0_init_26 : decode cX0_init 26 = .ok (.newarray .int, 2) := by decide +kernel
theorem dX0_init_28 : decode cX0_init 28 = .ok (.putfield 22, 3) := by decide +kernel
theorem dX0_init_31 : decode cX0_init 31 = .ok (.aload_n 0, 1) := by decide +kernel
theorem dX0_init_32 : decode cX0_init 32 = .ok (.sipush 256, 3) := by decide +kernel
theorem dX0_init_35 : decode cX0_init 35 = .ok (.newarray .boolean, 2) := by decide +kernel
theorem dX0_init_37 : decode cX0_init 37 = .ok (.putfield 25, 3) := by decide +kernel
theorem dX0_init_40 : decode cX0_init 40 = .ok (.aload_n 0, 1) := by decide +kernel
theorem dX0_init_41 : decode cX0_init 41 = .ok (.sipush 256, 3) := by decide +kernel
theorem dX0_init_44 : decode cX0_init 44 = .ok (.newarray .int, 2) := by decide +kernel
theorem dX0_init_46 : decode cX0_init 46 = .ok (.putfield 29, 3) := by decide +kernel
theorem dX0_init_49 : decode cX0_init 49 = .ok (.aload_n 0, 1) := by decide +kernel
theorem dX0_init_50 : decode cX0_init 50 = .ok (.iconst 0, 1) := by decide +kernel
theorem dX0_init_51 : decode cX0_init 51 = .ok (.putfield 32, 3) := by decide +kernel
theorem dX0_init_54 : decode cX0_init 54 = .ok (.return_, 1) := by decide +kernel
theorem dX0_begin_0 : decode cX0_begin 0 = .ok (.aload_n 0, 1) := by decide +kernel
theorem dX0_begin_1 : decode cX0_begin 1 = .ok (.iload_n 1, 1) := by decide +kernel
theorem dX0_begin_2 : decode cX0_begin 2 = .ok (.putfield 9, 3) := by decide +kernel
theorem dX0_begin_5 : decode cX0_begin 5 = .ok (.aload_n 0, 1) := by decide +kernel
theorem dX0_begin_6 : decode cX0_begin 6 = .ok (.iconst 0, 1) := by decide +kernel
theorem dX0_begin_7 : decode cX0_begin 7 = .ok (.putfield 32, 3) := by decide +kernel
theorem dX0_begin_10 : decode cX0_begin 10 = .ok (.iconst 0, 1) := by decide +kernel
theorem dX0_begin_11 : decode cX0_begin 11 = .ok (.istore_n 2, 1) := by decide +kernel
theorem dX0_begin_12 : decode cX0_begin 12 = .ok (.iload_n 2, 1) := by decide +kernel
theorem dX0_begin_13 : decode cX0_begin 13 = .ok (.iconst 4, 1) := by decide +kernel
theorem dX0_begin_14 : decode cX0_begin 14 = .ok (.if_icmp .ge 26, 3) := by decide +kernel
theorem dX0_begin_17 : decode cX0_begin 17 = .ok (.aload_n 0, 1) := by decide +kernel
theorem dX0_begin_18 : decode cX0_begin 18 = .ok (.getfield 15, 3) := by decide +kernel
theorem dX0_begin_21 : decode cX0_begin 21 = .ok (.iload_n 2, 1) := by decide +kernel
theorem dX0_begin_22 : decode cX0_begin 22 = .ok (.sipush 255, 3) := by decide +kernel
theorem dX0_begin_25 : decode cX0_begin 25 = .ok (.iastore, 1) := by decide +kernel
theorem dX0_begin_26 : decode cX0_begin 26 = .ok (.aload_n 0, 1) := by decide +kernel
theorem dX0_begin_27 : decode cX0_begin 27 = .ok (.getfield 19, 3) := by decide +kernel
theorem dX0_begin_30 : decode cX0_begin 30 = .ok (.iload_n 2, 1) := by decide +kernel
theorem dX0_begin_31 : decode cX0_begin 31 = .ok (.bipush 8, 2) := by decide +kernel
theorem dX0_begin_33 : decode cX0_begin 33 = .ok (.iastore, 1) := by decide +kernel
theorem dX0_begin_34 : decode cX0_begin 34 = .ok (.iinc 2 1, 3) := by decide +kernel
theorem dX0_begin_37 : decode cX0_begin 37 = .ok (.goto (-25), 3) := by decide +kernel
theorem dX0_begin_40 : decode cX0_begin 40 = .ok (.return_, 1) := by decide +kernel
theorem dX0_has_0 : decode cX0_has 0 = .ok (.iload_n 1, 1) := by decide +kernel
theorem dX0_has_1 : decode cX0_has 1 = .ok (.ifCond .lt 15, 3) := by decide +kernel
theorem dX0_has_4 : decode cX0_has 4 = .ok (.iload_n 1, 1) := by decide +kernel
theorem dX0_has_5 : decode cX0_has 5 = .ok (.aload_n 0, 1) := by decide +kernel
theorem dX0_has_6 : decode cX0_has 6 = .ok (.getfield 9, 3) := by decide +kernel
theorem dX0_has_9 : decode cX0_has 9 = .ok (.if_icmp .ge 7, 3) := by decide +kernel
theorem dX0_has_12 : decode cX0_has 12 = .ok (.iconst 1, 1) := by decide +kernel
theorem dX0_has_13 : decode cX0_has 13 = .ok (.goto 4, 3) := by decide +kernel
theorem dX0_has_16 : decode cX0_has 16 = .ok (.iconst 0, 1) := by decide +kernel
theorem dX0_has_17 : decode cX0_has 17 = .ok (.ireturn, 1) := by decide +kernel
theorem dX0_counts_0 : decode cX0_counts 0 = .ok (.aload_n 0, 1) := by decide +kernel
theorem dX0_counts_1 : decode cX0_counts 1 = .ok (.iload_n 1, 1) := by decide +kernel
theorem dX0_counts_2 : decode cX0_counts 2 = .ok (.invokevirtual 36, 3) := by decide +kernel
theorem dX0_counts_5 : decode cX0_counts 5 = .ok (.ifCond .eq 20, 3) := by decide +kernel
theorem dX0_counts_8 : decode cX0_counts 8 = .ok (.iload_n 2, 1) := by decide +kernel
theorem dX0_counts_9 : decode cX0_counts 9 = .ok (.aload_n 0, 1) := by decide +kernel
theorem dX0_counts_10 : decode cX0_counts 10 = .ok (.getfield 15, 3) := by decide +kernel
theorem dX0_counts_13 : decode cX0_counts 13 = .ok (.iload_n 1, 1) := by decide +kernel
theorem dX0_counts_14 : decode cX0_counts 14 = .ok (.iaload, 1) := by decide +kernel
theorem dX0_counts_15 : decode cX0_counts 15 = .ok (.invokestatic 40, 3) := by decide +kernel
theorem dX0_counts_18 : decode cX0_counts 18 = .ok (.ifCond .eq 7, 3) := by decide +kernel
theorem dX0_counts_21 : decode cX0_counts 21 = .ok (.iconst 1, 1) := by decide +kernel
theorem dX0_counts_22 : decode cX0_counts 22 = .ok (.goto 4, 3) := by decide +kernel
theorem dX0_counts_25 : decode cX0_counts 25 = .ok (.iconst 0, 1) := by decide +kernel
theorem dX0_counts_26 : decode cX0_counts 26 = .ok (.ireturn, 1) := by decide +kernel
theorem dX0_greatest_0 : decode cX0_greatest 0 = .ok (.iconst 1, 1) := by decide +kernel
theorem dX0_greatest_1 : decode cX0_greatest 1 = .ok (.aload_n 0, 1) := by decide +kernel
theorem dX0_greatest_2 : decode cX0_greatest 2 = .ok (.getfield 19, 3) := by decide +kernel
theorem dX0_greatest_5 : decode cX0_greatest 5 = .ok (.iload_n 1, 1) := by decide +kernel
theorem dX0_greatest_6 : decode cX0_greatest 6 = .ok (.iaload, 1) := by decide +kernel
theorem dX0_greatest_7 : decode cX0_greatest 7 = .ok (.ishl, 1) := by decide +kernel
theorem dX0_greatest_8 : decode cX0_greatest 8 = .ok (.iconst 1, 1) := by decide +kernel
theorem dX0_greatest_9 : decode cX0_greatest 9 = .ok (.isub, 1) := by decide +kernel
theorem dX0_greatest_10 : decode cX0_greatest 10 = .ok (.ireturn, 1) := by decide +kernel
theorem dX0_canPlace_0 : decode cX0_canPlace 0 = .ok (.iload_n 1, 1) := by decide +kernel
theorem dX0_canPlace_1 : decode cX0_canPlace 1 = .ok (.ifCond .ne 5, 3) := by decide +kernel
theorem dX0_canPlace_4 : decode cX0_canPlace 4 = .ok (.iconst 1, 1) := by decide +kernel
theorem dX0_canPlace_5 : decode cX0_canPlace 5 = .ok (.ireturn, 1) := by decide +kernel
theorem dX0_canPlace_6 : decode cX0_canPlace 6 = .ok (.aload_n 0, 1) := by decide +kernel
theorem dX0_canPlace_7 : decode cX0_canPlace 7 = .ok (.iload_n 1, 1) := by decide +kernel
theorem dX0_canPlace_8 : decode cX0_canPlace 8 = .ok (.iload_n 2, 1) := by decide +kernel
theorem dX0_canPlace_9 : decode cX0_canPlace 9 = .ok (.invokevirtual 44, 3) := by decide +kernel
theorem dX0_canPlace_12 : decode cX0_canPlace 12 = .ok (.ifCond .lt 7, 3) := by decide +kernel
theorem dX0_canPlace_15 : decode cX0_canPlace 15 = .ok (.iconst 1, 1) := by decide +kernel
theorem dX0_canPlace_16 : decode cX0_canPlace 16 = .ok (.goto 4, 3) := by decide +kernel
theorem dX0_canPlace_19 : decode cX0_canPlace 19 = .ok (.iconst 0, 1) := by decide +kernel
theorem dX0_canPlace_20 : decode cX0_canPlace 20 = .ok (.ireturn, 1) := by decide +kernel
theorem dX0_leastCounter_0 : decode cX0_leastCounter 0 = .ok (.iload_n 1, 1) := by decide +kernel
theorem dX0_leastCounter_1 : decode cX0_leastCounter 1 = .ok (.iload_n 1, 1) := by decide +kernel
theorem dX0_leastCounter_2 : decode cX0_leastCounter 2 = .ok (.ineg, 1) := by decide +kernel
theorem dX0_leastCounter_3 : decode cX0_leastCounter 3 = .ok (.iand, 1) := by decide +kernel
theorem dX0_leastCounter_4 : decode cX0_leastCounter 4 = .ok (.istore_n 3, 1) := by decide +kernel
theorem dX0_leastCounter_5 : decode cX0_leastCounter 5 = .ok (.iload_n 1, 1) := by decide +kernel
theorem dX0_leastCounter_6 : decode cX0_leastCounter 6 = .ok (.invokestatic 48, 3) := by decide +kernel
theorem dX0_leastCounter_9 : decode cX0_leastCounter 9 = .ok (.aload_n 0, 1) := by decide +kernel
theorem dX0_leastCounter_10 : decode cX0_leastCounter 10 = .ok (.getfield 9, 3) := by decide +kernel
theorem dX0_leastCounter_13 : decode cX0_leastCounter 13 = .ok (.iload_n 2, 1) := by decide +kernel
theorem dX0_leastCounter_14 : decode cX0_leastCounter 14 = .ok (.invokestatic 48, 3) := by decide +kernel
theorem dX0_leastCounter_17 : decode cX0_leastCounter 17 = .ok (.isub, 1) := by decide +kernel
theorem dX0_leastCounter_18 : decode cX0_leastCounter 18 = .ok (.if_icmp .le 6, 3) := by decide +kernel
theorem dX0_leastCounter_21 : decode cX0_leastCounter 21 = .ok (.bipush (-4), 2) := by decide +kernel
theorem dX0_leastCounter_23 : decode cX0_leastCounter 23 = .ok (.ireturn, 1) := by decide +kernel
theorem dX0_leastCounter_24 : decode cX0_leastCounter 24 = .ok (.iconst 0, 1) := by decide +kernel
theorem dX0_leastCounter_25 : decode cX0_leastCounter 25 = .ok (.istore 4, 2) := by decide +kernel
theorem dX0_leastCounter_27 : decode cX0_leastCounter 27 = .ok (.iload 4, 2) := by decide +kernel
theorem dX0_leastCounter_29 : decode cX0_leastCounter 29 = .ok (.aload_n 0, 1) := by decide +kernel
theorem dX0_leastCounter_30 : decode cX0_leastCounter 30 = .ok (.getfield 9, 3) := by decide +kernel
theorem dX0_leastCounter_33 : decode cX0_leastCounter 33 = .ok (.if_icmp .ge 61, 3) := by decide +kernel
theorem dX0_leastCounter_36 : decode cX0_leastCounter 36 = .ok (.iload_n 2, 1) := by decide +kernel
theorem dX0_leastCounter_37 : decode cX0_leastCounter 37 = .ok (.iload 4, 2) := by decide +kernel
theorem dX0_leastCounter_39 : decode cX0_leastCounter 39 = .ok (.ishr, 1) := by decide +kernel
theorem dX0_leastCounter_40 : decode cX0_leastCounter 40 = .ok (.iconst 1, 1) := by decide +kernel
theorem dX0_leastCounter_41 : decode cX0_leastCounter 41 = .ok (.iand, 1) := by decide +kernel
theorem dX0_leastCounter_42 : decode cX0_leastCounter 42 = .ok (.ifCond .ne 19, 3) := by decide +kernel
theorem dX0_leastCounter_45 : decode cX0_leastCounter 45 = .ok (.aload_n 0, 1) := by decide +kernel
theorem dX0_leastCounter_46 : decode cX0_leastCounter 46 = .ok (.getfield 15, 3) := by decide +kernel
theorem dX0_leastCounter_49 : decode cX0_leastCounter 49 = .ok (.iload 4, 2) := by decide +kernel
theorem dX0_leastCounter_51 : decode cX0_leastCounter 51 = .ok (.iaload, 1) := by decide +kernel
theorem dX0_leastCounter_52 : decode cX0_leastCounter 52 = .ok (.iload_n 3, 1) := by decide +kernel
theorem dX0_leastCounter_53 : decode cX0_leastCounter 53 = .ok (.iand, 1) := by decide +kernel
theorem dX0_leastCounter_54 : decode cX0_leastCounter 54 = .ok (.ifCond .eq 7, 3) := by decide +kernel
theorem dX0_leastCounter_57 : decode cX0_leastCounter 57 = .ok (.iconst 1, 1) := by decide +kernel
theorem dX0_leastCounter_58 : decode cX0_leastCounter 58 = .ok (.goto 4, 3) := by decide +kernel
theorem dX0_leastCounter_61 : decode cX0_leastCounter 61 = .ok (.iconst 0, 1) := by decide +kernel
theorem dX0_leastCounter_62 : decode cX0_leastCounter 62 = .ok (.istore 5, 2) := by decide +kernel
theorem dX0_leastCounter_64 : decode cX0_leastCounter 64 = .ok (.iload 5, 2) := by decide +kernel
theorem dX0_leastCounter_66 : decode cX0_leastCounter 66 = .ok (.ifCond .eq 22, 3) := by decide +kernel
theorem dX0_leastCounter_69 : decode cX0_leastCounter 69 = .ok (.aload_n 0, 1) := by decide +kernel
theorem dX0_leastCounter_70 : decode cX0_leastCounter 70 = .ok (.iload_n 1, 1) := by decide +kernel
theorem dX0_leastCounter_71 : decode cX0_leastCounter 71 = .ok (.iload_n 3, 1) := by decide +kernel
theorem dX0_leastCounter_72 : decode cX0_leastCounter 72 = .ok (.ixor, 1) := by decide +kernel
theorem dX0_leastCounter_73 : decode cX0_leastCounter 73 = .ok (.iload_n 2, 1) := by decide +kernel
theorem dX0_leastCounter_74 : decode cX0_leastCounter 74 = .ok (.iconst 1, 1) := by decide +kernel
theorem dX0_leastCounter_75 : decode cX0_leastCounter 75 = .ok (.iload 4, 2) := by decide +kernel
theorem dX0_leastCounter_77 : decode cX0_leastCounter 77 = .ok (.ishl, 1) := by decide +kernel
theorem dX0_leastCounter_78 : decode cX0_leastCounter 78 = .ok (.ior, 1) := by decide +kernel
theorem dX0_leastCounter_79 : decode cX0_leastCounter 79 = .ok (.invokevirtual 54, 3) := by decide +kernel
theorem dX0_leastCounter_82 : decode cX0_leastCounter 82 = .ok (.ifCond .eq 6, 3) := by decide +kernel
theorem dX0_leastCounter_85 : decode cX0_leastCounter 85 = .ok (.iload 4, 2) := by decide +kernel
theorem dX0_leastCounter_87 : decode cX0_leastCounter 87 = .ok (.ireturn, 1) := by decide +kernel
theorem dX0_leastCounter_88 : decode cX0_leastCounter 88 = .ok (.iinc 4 1, 3) := by decide +kernel
theorem dX0_leastCounter_91 : decode cX0_leastCounter 91 = .ok (.goto (-64), 3) := by decide +kernel
theorem dX0_leastCounter_94 : decode cX0_leastCounter 94 = .ok (.bipush (-4), 2) := by decide +kernel
theorem dX0_leastCounter_96 : decode cX0_leastCounter 96 = .ok (.ireturn, 1) := by decide +kernel
theorem dX0_counterFor_0 : decode cX0_counterFor 0 = .ok (.iload_n 1, 1) := by decide +kernel
theorem dX0_counterFor_1 : decode cX0_counterFor 1 = .ok (.istore_n 3, 1) := by decide +kernel
theorem dX0_counterFor_2 : decode cX0_counterFor 2 = .ok (.iconst 0, 1) := by decide +kernel
theorem dX0_counterFor_3 : decode cX0_counterFor 3 = .ok (.istore 4, 2) := by decide +kernel
theorem dX0_counterFor_5 : decode cX0_counterFor 5 = .ok (.iconst 0, 1) := by decide +kernel
theorem dX0_counterFor_6 : decode cX0_counterFor 6 = .ok (.istore 5, 2) := by decide +kernel
theorem dX0_counterFor_8 : decode cX0_counterFor 8 = .ok (.iload 5, 2) := by decide +kernel
theorem dX0_counterFor_10 : decode cX0_counterFor 10 = .ok (.iload_n 2, 1) := by decide +kernel
theorem dX0_counterFor_11 : decode cX0_counterFor 11 = .ok (.if_icmp .gt 57, 3) := by decide +kernel
theorem dX0_counterFor_14 : decode cX0_counterFor 14 = .ok (.iload_n 3, 1) := by decide +kernel
theorem dX0_counterFor_15 : decode cX0_counterFor 15 = .ok (.iload 5, 2) := by decide +kernel
theorem dX0_counterFor_17 : decode cX0_counterFor 17 = .ok (.ishr, 1) := by decide +kernel
theorem dX0_counterFor_18 : decode cX0_counterFor 18 = .ok (.iconst 1, 1) := by decide +kernel
theorem dX0_counterFor_19 : decode cX0_counterFor 19 = .ok (.iand, 1) := by decide +kernel
theorem dX0_counterFor_20 : decode cX0_counterFor 20 = .ok (.ifCond .eq 42, 3) := by decide +kernel
theorem dX0_counterFor_23 : decode cX0_counterFor 23 = .ok (.aload_n 0, 1) := by decide +kernel
theorem dX0_counterFor_24 : decode cX0_counterFor 24 = .ok (.iload_n 3, 1) := by decide +kernel
theorem dX0_counterFor_25 : decode cX0_counterFor 25 = .ok (.iload 4, 2) := by decide +kernel
theorem dX0_counterFor_27 : decode cX0_counterFor 27 = .ok (.invokevirtual 44, 3) := by decide +kernel
theorem dX0_counterFor_30 : decode cX0_counterFor 30 = .ok (.istore 6, 2) := by decide +kernel
theorem dX0_counterFor_32 : decode cX0_counterFor 32 = .ok (.iload 6, 2) := by decide +kernel
theorem dX0_counterFor_34 : decode cX0_counterFor 34 = .ok (.ifCond .lt 9, 3) := by decide +kernel
theorem dX0_counterFor_37 : decode cX0_counterFor 37 = .ok (.iload 5, 2) := by decide +kernel
theorem dX0_counterFor_39 : decode cX0_counterFor 39 = .ok (.iload_n 2, 1) := by decide +kernel
theorem dX0_counterFor_40 : decode cX0_counterFor 40 = .ok (.if_icmp .ne 6, 3) := by decide +kernel
theorem dX0_counterFor_43 : decode cX0_counterFor 43 = .ok (.iload 6, 2) := by decide +kernel
theorem dX0_counterFor_45 : decode cX0_counterFor 45 = .ok (.ireturn, 1) := by decide +kernel
theorem dX0_counterFor_46 : decode cX0_counterFor 46 = .ok (.iload_n 3, 1) := by decide +kernel
theorem dX0_counterFor_47 : decode cX0_counterFor 47 = .ok (.iconst 1, 1) := by decide +kernel
theorem dX0_counterFor_48 : decode cX0_counterFor 48 = .ok (.iload 5, 2) := by decide +kernel
theorem dX0_counterFor_50 : decode cX0_counterFor 50 = .ok (.ishl, 1) := by decide +kernel
theorem dX0_counterFor_51 : decode cX0_counterFor 51 = .ok (.ixor, 1) := by decide +kernel
theorem dX0_counterFor_52 : decode cX0_counterFor 52 = .ok (.istore_n 3, 1) := by decide +kernel
theorem dX0_counterFor_53 : decode cX0_counterFor 53 = .ok (.iload 4, 2) := by decide +kernel
theorem dX0_counterFor_55 : decode cX0_counterFor 55 = .ok (.iconst 1, 1) := by decide +kernel
theorem dX0_counterFor_56 : decode cX0_counterFor 56 = .ok (.iload 6, 2) := by decide +kernel
theorem dX0_counterFor_58 : decode cX0_counterFor 58 = .ok (.ishl, 1) := by decide +kernel
theorem dX0_counterFor_59 : decode cX0_counterFor 59 = .ok (.ior, 1) := by decide +kernel
theorem dX0_counterFor_60 : decode cX0_counterFor 60 = .ok (.istore 4, 2) := by decide +kernel
theorem dX0_counterFor_62 : decode cX0_counterFor 62 = .ok (.iinc 5 1, 3) := by decide +kernel
theorem dX0_counterFor_65 : decode cX0_counterFor 65 = .ok (.goto (-57), 3) := by decide +kernel
theorem dX0_counterFor_68 : decode cX0_counterFor 68 = .ok (.bipush (-4), 2) := by decide +kernel
theorem dX0_counterFor_70 : decode cX0_counterFor 70 = .ok (.ireturn, 1) := by decide +kernel
theorem dX0_learn_0 : decode cX0_learn 0 = .ok (.aload_n 0, 1) := by decide +kernel
theorem dX0_learn_1 : decode cX0_learn 1 = .ok (.getfield 32, 3) := by decide +kernel
theorem dX0_learn_4 : decode cX0_learn 4 = .ok (.ifCond .eq 4, 3) := by decide +kernel
theorem dX0_learn_7 : decode cX0_learn 7 = .ok (.return_, 1) := by decide +kernel
theorem dX0_learn_8 : decode cX0_learn 8 = .ok (.aload_n 0, 1) := by decide +kernel
theorem dX0_learn_9 : decode cX0_learn 9 = .ok (.iconst 1, 1) := by decide +kernel
theorem dX0_learn_10 : decode cX0_learn 10 = .ok (.putfield 32, 3) := by decide +kernel
theorem dX0_learn_13 : decode cX0_learn 13 = .ok (.iconst 0, 1) := by decide +kernel
theorem dX0_learn_14 : decode cX0_learn 14 = .ok (.istore_n 1, 1) := by decide +kernel
theorem dX0_learn_15 : decode cX0_learn 15 = .ok (.iload_n 1, 1) := by decide +kernel
theorem dX0_learn_16 : decode cX0_learn 16 = .ok (.sipush 256, 3) := by decide +kernel
theorem dX0_learn_19 : decode cX0_learn 19 = .ok (.if_icmp .ge 32, 3) := by decide +kernel
theorem dX0_learn_22 : decode cX0_learn 22 = .ok (.aload_n 0, 1) := by decide +kernel
theorem dX0_learn_23 : decode cX0_learn 23 = .ok (.getfield 25, 3) := by decide +kernel
theorem dX0_learn_26 : decode cX0_learn 26 = .ok (.iload_n 1, 1) := by decide +kernel
theorem dX0_learn_27 : decode cX0_learn 27 = .ok (.aload_n 0, 1) := by decide +kernel
theorem dX0_learn_28 : decode cX0_learn 28 = .ok (.iload_n 1, 1) := by decide +kernel
theorem dX0_learn_29 : decode cX0_learn 29 = .ok (.iconst 0, 1) := by decide +kernel
theorem dX0_learn_30 : decode cX0_learn 30 = .ok (.invokevirtual 54, 3) := by decide +kernel
theorem dX0_learn_33 : decode cX0_learn 33 = .ok (.bastore, 1) := by decide +kernel
theorem dX0_learn_34 : decode cX0_learn 34 = .ok (.aload_n 0, 1) := by decide +kernel
theorem dX0_learn_35 : decode cX0_learn 35 = .ok (.getfield 29, 3) := by decide +kernel
theorem dX0_learn_38 : decode cX0_learn 38 = .ok (.iload_n 1, 1) := by decide +kernel
theorem dX0_learn_39 : decode cX0_learn 39 = .ok (.aload_n 0, 1) := by decide +kernel
theorem dX0_learn_40 : decode cX0_learn 40 = .ok (.iload_n 1, 1) := by decide +kernel
theorem dX0_learn_41 : decode cX0_learn 41 = .ok (.invokevirtual 57, 3) := by decide +kernel
theorem dX0_learn_44 : decode cX0_learn 44 = .ok (.iastore, 1) := by decide +kernel
theorem dX0_learn_45 : decode cX0_learn 45 = .ok (.iinc 1 1, 3) := by decide +kernel
theorem dX0_learn_48 : decode cX0_learn 48 = .ok (.goto (-33), 3) := by decide +kernel
theorem dX0_learn_51 : decode cX0_learn 51 = .ok (.return_, 1) := by decide +kernel
theorem dX0_fewestFor_0 : decode cX0_fewestFor 0 = .ok (.iload_n 1, 1) := by decide +kernel
theorem dX0_fewestFor_1 : decode cX0_fewestFor 1 = .ok (.ifCond .ne 5, 3) := by decide +kernel
theorem dX0_fewestFor_4 : decode cX0_fewestFor 4 = .ok (.iconst 0, 1) := by decide +kernel
theorem dX0_fewestFor_5 : decode cX0_fewestFor 5 = .ok (.ireturn, 1) := by decide +kernel
theorem dX0_fewestFor_6 : decode cX0_fewestFor 6 = .ok (.iload_n 1, 1) := by decide +kernel
theorem dX0_fewestFor_7 : decode cX0_fewestFor 7 = .ok (.iload_n 1, 1) := by decide +kernel
theorem dX0_fewestFor_8 : decode cX0_fewestFor 8 = .ok (.ineg, 1) := by decide +kernel
theorem dX0_fewestFor_9 : decode cX0_fewestFor 9 = .ok (.iand, 1) := by decide +kernel
theorem dX0_fewestFor_10 : decode cX0_fewestFor 10 = .ok (.istore_n 2, 1) := by decide +kernel
theorem dX0_fewestFor_11 : decode cX0_fewestFor 11 = .ok (.iload_n 1, 1) := by decide +kernel
theorem dX0_fewestFor_12 : decode cX0_fewestFor 12 = .ok (.iload_n 2, 1) := by decide +kernel
theorem dX0_fewestFor_13 : decode cX0_fewestFor 13 = .ok (.ixor, 1) := by decide +kernel
theorem dX0_fewestFor_14 : decode cX0_fewestFor 14 = .ok (.istore_n 3, 1) := by decide +kernel
theorem dX0_fewestFor_15 : decode cX0_fewestFor 15 = .ok (.bipush 100, 2) := by decide +kernel
theorem dX0_fewestFor_17 : decode cX0_fewestFor 17 = .ok (.istore 4, 2) := by decide +kernel
theorem dX0_fewestFor_19 : decode cX0_fewestFor 19 = .ok (.iload_n 3, 1) := by decide +kernel
theorem dX0_fewestFor_20 : decode cX0_fewestFor 20 = .ok (.istore 5, 2) := by decide +kernel
theorem dX0_fewestFor_22 : decode cX0_fewestFor 22 = .ok (.iconst 0, 1) := by decide +kernel
theorem dX0_fewestFor_23 : decode cX0_fewestFor 23 = .ok (.istore 6, 2) := by decide +kernel
theorem dX0_fewestFor_25 : decode cX0_fewestFor 25 = .ok (.iload 6, 2) := by decide +kernel
theorem dX0_fewestFor_27 : decode cX0_fewestFor 27 = .ok (.sipush 256, 3) := by decide +kernel
theorem dX0_fewestFor_30 : decode cX0_fewestFor 30 = .ok (.if_icmp .ge 55, 3) := by decide +kernel
theorem dX0_fewestFor_33 : decode cX0_fewestFor 33 = .ok (.aload_n 0, 1) := by decide +kernel
theorem dX0_fewestFor_34 : decode cX0_fewestFor 34 = .ok (.getfield 25, 3) := by decide +kernel
theorem dX0_fewestFor_37 : decode cX0_fewestFor 37 = .ok (.iload 5, 2) := by decide +kernel
theorem dX0_fewestFor_39 : decode cX0_fewestFor 39 = .ok (.iload_n 2, 1) := by decide +kernel
theorem dX0_fewestFor_40 : decode cX0_fewestFor 40 = .ok (.ior, 1) := by decide +kernel
theorem dX0_fewestFor_41 : decode cX0_fewestFor 41 = .ok (.baload, 1) := by decide +kernel
theorem dX0_fewestFor_42 : decode cX0_fewestFor 42 = .ok (.ifCond .eq 21, 3) := by decide +kernel
theorem dX0_fewestFor_45 : decode cX0_fewestFor 45 = .ok (.iload 4, 2) := by decide +kernel
theorem dX0_fewestFor_47 : decode cX0_fewestFor 47 = .ok (.aload_n 0, 1) := by decide +kernel
theorem dX0_fewestFor_48 : decode cX0_fewestFor 48 = .ok (.getfield 29, 3) := by decide +kernel
theorem dX0_fewestFor_51 : decode cX0_fewestFor 51 = .ok (.iload_n 3, 1) := by decide +kernel
theorem dX0_fewestFor_52 : decode cX0_fewestFor 52 = .ok (.iload 5, 2) := by decide +kernel
theorem dX0_fewestFor_54 : decode cX0_fewestFor 54 = .ok (.ixor, 1) := by decide +kernel
theorem dX0_fewestFor_55 : decode cX0_fewestFor 55 = .ok (.iaload, 1) := by decide +kernel
theorem dX0_fewestFor_56 : decode cX0_fewestFor 56 = .ok (.iconst 1, 1) := by decide +kernel
theorem dX0_fewestFor_57 : decode cX0_fewestFor 57 = .ok (.iadd, 1) := by decide +kernel
theorem dX0_fewestFor_58 : decode cX0_fewestFor 58 = .ok (.invokestatic 60, 3) := by decide +kernel
theorem dX0_fewestFor_61 : decode cX0_fewestFor 61 = .ok (.istore 4, 2) := by decide +kernel
theorem dX0_fewestFor_63 : decode cX0_fewestFor 63 = .ok (.iload 5, 2) := by decide +kernel
theorem dX0_fewestFor_65 : decode cX0_fewestFor 65 = .ok (.ifCond .ne 6, 3) := by decide +kernel
theorem dX0_fewestFor_68 : decode cX0_fewestFor 68 = .ok (.goto 17, 3) := by decide +kernel
theorem dX0_fewestFor_71 : decode cX0_fewestFor 71 = .ok (.iload 5, 2) := by decide +kernel
theorem dX0_fewestFor_73 : decode cX0_fewestFor 73 = .ok (.iconst 1, 1) := by decide +kernel
theorem dX0_fewestFor_74 : decode cX0_fewestFor 74 = .ok (.isub, 1) := by decide +kernel
theorem dX0_fewestFor_75 : decode cX0_fewestFor 75 = .ok (.iload_n 3, 1) := by decide +kernel
theorem dX0_fewestFor_76 : decode cX0_fewestFor 76 = .ok (.iand, 1) := by decide +kernel
theorem dX0_fewestFor_77 : decode cX0_fewestFor 77 = .ok (.istore 5, 2) := by decide +kernel
theorem dX0_fewestFor_79 : decode cX0_fewestFor 79 = .ok (.iinc 6 1, 3) := by decide +kernel
theorem dX0_fewestFor_82 : decode cX0_fewestFor 82 = .ok (.goto (-57), 3) := by decide +kernel
theorem dX0_fewestFor_85 : decode cX0_fewestFor 85 = .ok (.iload 4, 2) := by decide +kernel
theorem dX0_fewestFor_87 : decode cX0_fewestFor 87 = .ok (.ireturn, 1) := by decide +kernel
theorem dX0_divide_0 : decode cX0_divide 0 = .ok (.aload_n 0, 1) := by decide +kernel
theorem dX0_divide_1 : decode cX0_divide 1 = .ok (.invokevirtual 65, 3) := by decide +kernel
theorem dX0_divide_4 : decode cX0_divide 4 = .ok (.aload_n 0, 1) := by decide +kernel
theorem dX0_divide_5 : decode cX0_divide 5 = .ok (.getfield 29, 3) := by decide +kernel
theorem dX0_divide_8 : decode cX0_divide 8 = .ok (.iload_n 1, 1) := by decide +kernel
theorem dX0_divide_9 : decode cX0_divide 9 = .ok (.iaload, 1) := by decide +kernel
theorem dX0_divide_10 : decode cX0_divide 10 = .ok (.istore_n 2, 1) := by decide +kernel
theorem dX0_divide_11 : decode cX0_divide 11 = .ok (.iload_n 2, 1) := by decide +kernel
theorem dX0_divide_12 : decode cX0_divide 12 = .ok (.bipush 100, 2) := by decide +kernel
theorem dX0_divide_14 : decode cX0_divide 14 = .ok (.if_icmp .lt 6, 3) := by decide +kernel
theorem dX0_divide_17 : decode cX0_divide 17 = .ok (.bipush (-4), 2) := by decide +kernel
theorem dX0_divide_19 : decode cX0_divide 19 = .ok (.ireturn, 1) := by decide +kernel
theorem dX0_divide_20 : decode cX0_divide 20 = .ok (.iload_n 1, 1) := by decide +kernel
theorem dX0_divide_21 : decode cX0_divide 21 = .ok (.istore_n 3, 1) := by decide +kernel
theorem dX0_divide_22 : decode cX0_divide 22 = .ok (.iconst 0, 1) := by decide +kernel
theorem dX0_divide_23 : decode cX0_divide 23 = .ok (.istore 4, 2) := by decide +kernel
theorem dX0_divide_25 : decode cX0_divide 25 = .ok (.iload 4, 2) := by decide +kernel
theorem dX0_divide_27 : decode cX0_divide 27 = .ok (.iload_n 2, 1) := by decide +kernel
theorem dX0_divide_28 : decode cX0_divide 28 = .ok (.if_icmp .ge 38, 3) := by decide +kernel
theorem dX0_divide_31 : decode cX0_divide 31 = .ok (.iload 4, 2) := by decide +kernel
theorem dX0_divide_33 : decode cX0_divide 33 = .ok (.bipush 8, 2) := by decide +kernel
theorem dX0_divide_35 : decode cX0_divide 35 = .ok (.if_icmp .ge 31, 3) := by decide +kernel
theorem dX0_divide_38 : decode cX0_divide 38 = .ok (.aload_n 0, 1) := by decide +kernel
theorem dX0_divide_39 : decode cX0_divide 39 = .ok (.getfield 22, 3) := by decide +kernel
theorem dX0_divide_42 : decode cX0_divide 42 = .ok (.iload 4, 2) := by decide +kernel
theorem dX0_divide_44 : decode cX0_divide 44 = .ok (.aload_n 0, 1) := by decide +kernel
theorem dX0_divide_45 : decode cX0_divide 45 = .ok (.iload_n 3, 1) := by decide +kernel
theorem dX0_divide_46 : decode cX0_divide 46 = .ok (.invokevirtual 68, 3) := by decide +kernel
theorem dX0_divide_49 : decode cX0_divide 49 = .ok (.iastore, 1) := by decide +kernel
theorem dX0_divide_50 : decode cX0_divide 50 = .ok (.iload_n 3, 1) := by decide +kernel
theorem dX0_divide_51 : decode cX0_divide 51 = .ok (.aload_n 0, 1) := by decide +kernel
theorem dX0_divide_52 : decode cX0_divide 52 = .ok (.getfield 22, 3) := by decide +kernel
theorem dX0_divide_55 : decode cX0_divide 55 = .ok (.iload 4, 2) := by decide +kernel
theorem dX0_divide_57 : decode cX0_divide 57 = .ok (.iaload, 1) := by decide +kernel
theorem dX0_divide_58 : decode cX0_divide 58 = .ok (.ixor, 1) := by decide +kernel
theorem dX0_divide_59 : decode cX0_divide 59 = .ok (.istore_n 3, 1) := by decide +kernel
theorem dX0_divide_60 : decode cX0_divide 60 = .ok (.iinc 4 1, 3) := by decide +kernel
theorem dX0_divide_63 : decode cX0_divide 63 = .ok (.goto (-38), 3) := by decide +kernel
theorem dX0_divide_66 : decode cX0_divide 66 = .ok (.iload_n 2, 1) := by decide +kernel
theorem dX0_divide_67 : decode cX0_divide 67 = .ok (.ireturn, 1) := by decide +kernel
theorem dX0_leastRound_0 : decode cX0_leastRound 0 = .ok (.iload_n 1, 1) := by decide +kernel
theorem dX0_leastRound_1 : decode cX0_leastRound 1 = .ok (.iload_n 1, 1) := by decide +kernel
theorem dX0_leastRound_2 : decode cX0_leastRound 2 = .ok (.ineg, 1) := by decide +kernel
theorem dX0_leastRound_3 : decode cX0_leastRound 3 = .ok (.iand, 1) := by decide +kernel
theorem dX0_leastRound_4 : decode cX0_leastRound 4 = .ok (.istore_n 2, 1) := by decide +kernel
theorem dX0_leastRound_5 : decode cX0_leastRound 5 = .ok (.iload_n 2, 1) := by decide +kernel
theorem dX0_leastRound_6 : decode cX0_leastRound 6 = .ok (.istore_n 3, 1) := by decide +kernel
theorem dX0_leastRound_7 : decode cX0_leastRound 7 = .ok (.iload_n 3, 1) := by decide +kernel
theorem dX0_leastRound_8 : decode cX0_leastRound 8 = .ok (.iload_n 1, 1) := by decide +kernel
theorem dX0_leastRound_9 : decode cX0_leastRound 9 = .ok (.if_icmp .ge 63, 3) := by decide +kernel
theorem dX0_leastRound_12 : decode cX0_leastRound 12 = .ok (.iload_n 3, 1) := by decide +kernel
theorem dX0_leastRound_13 : decode cX0_leastRound 13 = .ok (.iload_n 1, 1) := by decide +kernel
theorem dX0_leastRound_14 : decode cX0_leastRound 14 = .ok (.iconst (-1), 1) := by decide +kernel
theorem dX0_leastRound_15 : decode cX0_leastRound 15 = .ok (.ixor, 1) := by decide +kernel
theorem dX0_leastRound_16 : decode cX0_leastRound 16 = .ok (.iand, 1) := by decide +kernel
theorem dX0_leastRound_17 : decode cX0_leastRound 17 = .ok (.ifCond .ne 13, 3) := by decide +kernel
theorem dX0_leastRound_20 : decode cX0_leastRound 20 = .ok (.iload_n 3, 1) := by decide +kernel
theorem dX0_leastRound_21 : decode cX0_leastRound 21 = .ok (.iload_n 2, 1) := by decide +kernel
theorem dX0_leastRound_22 : decode cX0_leastRound 22 = .ok (.iand, 1) := by decide +kernel
theorem dX0_leastRound_23 : decode cX0_leastRound 23 = .ok (.ifCond .eq 7, 3) := by decide +kernel
theorem dX0_leastRound_26 : decode cX0_leastRound 26 = .ok (.iconst 1, 1) := by decide +kernel
theorem dX0_leastRound_27 : decode cX0_leastRound 27 = .ok (.goto 4, 3) := by decide +kernel
theorem dX0_leastRound_30 : decode cX0_leastRound 30 = .ok (.iconst 0, 1) := by decide +kernel
theorem dX0_leastRound_31 : decode cX0_leastRound 31 = .ok (.istore 4, 2) := by decide +kernel
theorem dX0_leastRound_33 : decode cX0_leastRound 33 = .ok (.iload 4, 2) := by decide +kernel
theorem dX0_leastRound_35 : decode cX0_leastRound 35 = .ok (.ifCond .eq 31, 3) := by decide +kernel
theorem dX0_leastRound_38 : decode cX0_leastRound 38 = .ok (.aload_n 0, 1) := by decide +kernel
theorem dX0_leastRound_39 : decode cX0_leastRound 39 = .ok (.getfield 25, 3) := by decide +kernel
theorem dX0_leastRound_42 : decode cX0_leastRound 42 = .ok (.iload_n 3, 1) := by decide +kernel
theorem dX0_leastRound_43 : decode cX0_leastRound 43 = .ok (.baload, 1) := by decide +kernel
theorem dX0_leastRound_44 : decode cX0_leastRound 44 = .ok (.ifCond .eq 22, 3) := by decide +kernel
theorem dX0_leastRound_47 : decode cX0_leastRound 47 = .ok (.aload_n 0, 1) := by decide +kernel
theorem dX0_leastRound_48 : decode cX0_leastRound 48 = .ok (.getfield 29, 3) := by decide +kernel
theorem dX0_leastRound_51 : decode cX0_leastRound 51 = .ok (.iload_n 1, 1) := by decide +kernel
theorem dX0_leastRound_52 : decode cX0_leastRound 52 = .ok (.iload_n 3, 1) := by decide +kernel
theorem dX0_leastRound_53 : decode cX0_leastRound 53 = .ok (.ixor, 1) := by decide +kernel
theorem dX0_leastRound_54 : decode cX0_leastRound 54 = .ok (.iaload, 1) := by decide +kernel
theorem dX0_leastRound_55 : decode cX0_leastRound 55 = .ok (.aload_n 0, 1) := by decide +kernel
theorem dX0_leastRound_56 : decode cX0_leastRound 56 = .ok (.getfield 29, 3) := by decide +kernel
theorem dX0_leastRound_59 : decode cX0_leastRound 59 = .ok (.iload_n 1, 1) := by decide +kernel
theorem dX0_leastRound_60 : decode cX0_leastRound 60 = .ok (.iaload, 1) := by decide +kernel
theorem dX0_leastRound_61 : decode cX0_leastRound 61 = .ok (.if_icmp .ge 5, 3) := by decide +kernel
theorem dX0_leastRound_64 : decode cX0_leastRound 64 = .ok (.iload_n 3, 1) := by decide +kernel
theorem dX0_leastRound_65 : decode cX0_leastRound 65 = .ok (.ireturn, 1) := by decide +kernel
theorem dX0_leastRound_66 : decode cX0_leastRound 66 = .ok (.iinc 3 1, 3) := by decide +kernel
theorem dX0_leastRound_69 : decode cX0_leastRound 69 = .ok (.goto (-62), 3) := by decide +kernel
theorem dX0_leastRound_72 : decode cX0_leastRound 72 = .ok (.iload_n 1, 1) := by decide +kernel
theorem dX0_leastRound_73 : decode cX0_leastRound 73 = .ok (.ireturn, 1) := by decide +kernel
theorem dX0_roundOf_0 : decode cX0_roundOf 0 = .ok (.iconst 0, 1) := by decide +kernel
theorem dX0_roundOf_1 : decode cX0_roundOf 1 = .ok (.istore_n 3, 1) := by decide +kernel
theorem dX0_roundOf_2 : decode cX0_roundOf 2 = .ok (.iload_n 3, 1) := by decide +kernel
theorem dX0_roundOf_3 : decode cX0_roundOf 3 = .ok (.iload_n 2, 1) := by decide +kernel
theorem dX0_roundOf_4 : decode cX0_roundOf 4 = .ok (.if_icmp .ge 30, 3) := by decide +kernel
theorem dX0_roundOf_7 : decode cX0_roundOf 7 = .ok (.iload_n 3, 1) := by decide +kernel
theorem dX0_roundOf_8 : decode cX0_roundOf 8 = .ok (.bipush 8, 2) := by decide +kernel
theorem dX0_roundOf_10 : decode cX0_roundOf 10 = .ok (.if_icmp .ge 24, 3) := by decide +kernel
theorem dX0_roundOf_13 : decode cX0_roundOf 13 = .ok (.iload_n 1, 1) := by decide +kernel
theorem dX0_roundOf_14 : decode cX0_roundOf 14 = .ok (.aload_n 0, 1) := by decide +kernel
theorem dX0_roundOf_15 : decode cX0_roundOf 15 = .ok (.getfield 22, 3) := by decide +kernel
theorem dX0_roundOf_18 : decode cX0_roundOf 18 = .ok (.iload_n 3, 1) := by decide +kernel
theorem dX0_roundOf_19 : decode cX0_roundOf 19 = .ok (.iaload, 1) := by decide +kernel
theorem dX0_roundOf_20 : decode cX0_roundOf 20 = .ok (.invokestatic 40, 3) := by decide +kernel
theorem dX0_roundOf_23 : decode cX0_roundOf 23 = .ok (.ifCond .eq 5, 3) := by decide +kernel
theorem dX0_roundOf_26 : decode cX0_roundOf 26 = .ok (.iload_n 3, 1) := by decide +kernel
theorem dX0_roundOf_27 : decode cX0_roundOf 27 = .ok (.ireturn, 1) := by decide +kernel
theorem dX0_roundOf_28 : decode cX0_roundOf 28 = .ok (.iinc 3 1, 3) := by decide +kernel
theorem dX0_roundOf_31 : decode cX0_roundOf 31 = .ok (.goto (-29), 3) := by decide +kernel
theorem dX0_roundOf_34 : decode cX0_roundOf 34 = .ok (.iconst 0, 1) := by decide +kernel
theorem dX0_roundOf_35 : decode cX0_roundOf 35 = .ok (.ireturn, 1) := by decide +kernel
theorem dX1_init_0 : decode cX1_init 0 = .ok (.aload_n 0, 1) := by decide +kernel
theorem dX1_init_1 : decode cX1_init 1 = .ok (.invokespecial 3, 3) := by decide +kernel
theorem dX1_init_4 : decode cX1_init 4 = .ok (.aload_n 0, 1) := by decide +kernel
theorem dX1_init_5 : decode cX1_init 5 = .ok (.bipush 16, 2) := by decide +kernel
theorem dX1_init_7 : decode cX1_init 7 = .ok (.bipush 8, 2) := by decide +kernel
theorem dX1_init_9 : decode cX1_init 9 = .ok (.multianewarray 9 2, 4) := by decide +kernel
theorem dX1_init_13 : decode cX1_init 13 = .ok (.putfield 11, 3) := by decide +kernel
theorem dX1_init_16 : decode cX1_init 16 = .ok (.return_, 1) := by decide +kernel
theorem dX1_take_0 : decode cX1_take 0 = .ok (.iconst 0, 1) := by decide +kernel
theorem dX1_take_1 : decode cX1_take 1 = .ok (.istore_n 2, 1) := by decide +kernel
theorem dX1_take_2 : decode cX1_take 2 = .ok (.iload_n 2, 1) := by decide +kernel
theorem dX1_take_3 : decode cX1_take 3 = .ok (.bipush 16, 2) := by decide +kernel
theorem dX1_take_5 : decode cX1_take 5 = .ok (.if_icmp .ge 37, 3) := by decide +kernel
theorem dX1_take_8 : decode cX1_take 8 = .ok (.iconst 0, 1) := by decide +kernel
theorem dX1_take_9 : decode cX1_take 9 = .ok (.istore_n 3, 1) := by decide +kernel
theorem dX1_take_10 : decode cX1_take 10 = .ok (.iload_n 3, 1) := by decide +kernel
theorem dX1_take_11 : decode cX1_take 11 = .ok (.bipush 8, 2) := by decide +kernel
theorem dX1_take_13 : decode cX1_take 13 = .ok (.if_icmp .ge 23, 3) := by decide +kernel
theorem dX1_take_16 : decode cX1_take 16 = .ok (.aload_n 0, 1) := by decide +kernel
theorem dX1_take_17 : decode cX1_take 17 = .ok (.getfield 11, 3) := by decide +kernel
theorem dX1_take_20 : decode cX1_take 20 = .ok (.iload_n 2, 1) := by decide +kernel
theorem dX1_take_21 : decode cX1_take 21 = .ok (.aaload, 1) := by decide +kernel
theorem dX1_take_22 : decode cX1_take 22 = .ok (.iload_n 3, 1) := by decide +kernel
theorem dX1_take_23 : decode cX1_take 23 = .ok (.aload_n 1, 1) := by decide +kernel
theorem dX1_take_24 : decode cX1_take 24 = .ok (.iload_n 2, 1) := by decide +kernel
theorem dX1_take_25 : decode cX1_take 25 = .ok (.iload_n 3, 1) := by decide +kernel
theorem dX1_take_26 : decode cX1_take 26 = .ok (.invokevirtual 16, 3) := by decide +kernel
theorem dX1_take_29 : decode cX1_take 29 = .ok (.iastore, 1) := by decide +kernel
theorem dX1_take_30 : decode cX1_take 30 = .ok (.iinc 3 1, 3) := by decide +kernel
theorem dX1_take_33 : decode cX1_take 33 = .ok (.goto (-23), 3) := by decide +kernel
theorem dX1_take_36 : decode cX1_take 36 = .ok (.iinc 2 1, 3) := by decide +kernel
theorem dX1_take_39 : decode cX1_take 39 = .ok (.goto (-37), 3) := by decide +kernel
theorem dX1_take_42 : decode cX1_take 42 = .ok (.return_, 1) := by decide +kernel
theorem dX1_total_0 : decode cX1_total 0 = .ok (.iconst 0, 1) := by decide +kernel
theorem dX1_total_1 : decode cX1_total 1 = .ok (.istore_n 2, 1) := by decide +kernel
theorem dX1_total_2 : decode cX1_total 2 = .ok (.iconst 0, 1) := by decide +kernel
theorem dX1_total_3 : decode cX1_total 3 = .ok (.istore_n 3, 1) := by decide +kernel
theorem dX1_total_4 : decode cX1_total 4 = .ok (.iload_n 3, 1) := by decide +kernel
theorem dX1_total_5 : decode cX1_total 5 = .ok (.bipush 16, 2) := by decide +kernel
theorem dX1_total_7 : decode cX1_total 7 = .ok (.if_icmp .ge 20, 3) := by decide +kernel
theorem dX1_total_10 : decode cX1_total 10 = .ok (.iload_n 2, 1) := by decide +kernel
theorem dX1_total_11 : decode cX1_total 11 = .ok (.aload_n 0, 1) := by decide +kernel
theorem dX1_total_12 : decode cX1_total 12 = .ok (.getfield 11, 3) := by decide +kernel
theorem dX1_total_15 : decode cX1_total 15 = .ok (.iload_n 3, 1) := by decide +kernel
theorem dX1_total_16 : decode cX1_total 16 = .ok (.aaload, 1) := by decide +kernel
theorem dX1_total_17 : decode cX1_total 17 = .ok (.iload_n 1, 1) := by decide +kernel
theorem dX1_total_18 : decode cX1_total 18 = .ok (.iaload, 1) := by decide +kernel
theorem dX1_total_19 : decode cX1_total 19 = .ok (.iadd, 1) := by decide +kernel
theorem dX1_total_20 : decode cX1_total 20 = .ok (.istore_n 2, 1) := by decide +kernel
theorem dX1_total_21 : decode cX1_total 21 = .ok (.iinc 3 1, 3) := by decide +kernel
theorem dX1_total_24 : decode cX1_total 24 = .ok (.goto (-20), 3) := by decide +kernel
theorem dX1_total_27 : decode cX1_total 27 = .ok (.iload_n 2, 1) := by decide +kernel
theorem dX1_total_28 : decode cX1_total 28 = .ok (.ireturn, 1) := by decide +kernel
theorem dX1_difference_0 : decode cX1_difference 0 = .ok (.aload_n 1, 1) := by decide +kernel
theorem dX1_difference_1 : decode cX1_difference 1 = .ok (.iload_n 2, 1) := by decide +kernel
theorem dX1_difference_2 : decode cX1_difference 2 = .ok (.iload_n 3, 1) := by decide +kernel
theorem dX1_difference_3 : decode cX1_difference 3 = .ok (.invokevirtual 16, 3) := by decide +kernel
theorem dX1_difference_6 : decode cX1_difference 6 = .ok (.aload_n 0, 1) := by decide +kernel
theorem dX1_difference_7 : decode cX1_difference 7 = .ok (.getfield 11, 3) := by decide +kernel
theorem dX1_difference_10 : decode cX1_difference 10 = .ok (.iload_n 2, 1) := by decide +kernel
theorem dX1_difference_11 : decode cX1_difference 11 = .ok (.aaload, 1) := by decide +kernel
theorem dX1_difference_12 : decode cX1_difference 12 = .ok (.iload_n 3, 1) := by decide +kernel
theorem dX1_difference_13 : decode cX1_difference 13 = .ok (.iaload, 1) := by decide +kernel
theorem dX1_difference_14 : decode cX1_difference 14 = .ok (.isub, 1) := by decide +kernel
theorem dX1_difference_15 : decode cX1_difference 15 = .ok (.ireturn, 1) := by decide +kernel
theorem dX1_linesThatDiffer_0 : decode cX1_linesThatDiffer 0 = .ok (.iconst 0, 1) := by decide +kernel
theorem dX1_linesThatDiffer_1 : decode cX1_linesThatDiffer 1 = .ok (.istore 4, 2) := by decide +kernel
theorem dX1_linesThatDiffer_3 : decode cX1_linesThatDiffer 3 = .ok (.iconst 0, 1) := by decide +kernel
theorem dX1_linesThatDiffer_4 : decode cX1_linesThatDiffer 4 = .ok (.istore 5, 2) := by decide +kernel
theorem dX1_linesThatDiffer_6 : decode cX1_linesThatDiffer 6 = .ok (.iload 5, 2) := by decide +kernel
theorem dX1_linesThatDiffer_8 : decode cX1_linesThatDiffer 8 = .ok (.bipush 16, 2) := by decide +kernel
theorem dX1_linesThatDiffer_10 : decode cX1_linesThatDiffer 10 = .ok (.if_icmp .ge 31, 3) := by decide +kernel
theorem dX1_linesThatDiffer_13 : decode cX1_linesThatDiffer 13 = .ok (.aload_n 0, 1) := by decide +kernel
theorem dX1_linesThatDiffer_14 : decode cX1_linesThatDiffer 14 = .ok (.aload_n 1, 1) := by decide +kernel
theorem dX1_linesThatDiffer_15 : decode cX1_linesThatDiffer 15 = .ok (.iload 5, 2) := by decide +kernel
theorem dX1_linesThatDiffer_17 : decode cX1_linesThatDiffer 17 = .ok (.iload_n 2, 1) := by decide +kernel
theorem dX1_linesThatDiffer_18 : decode cX1_linesThatDiffer 18 = .ok (.invokevirtual 21, 3) := by decide +kernel
theorem dX1_linesThatDiffer_21 : decode cX1_linesThatDiffer 21 = .ok (.iload_n 3, 1) := by decide +kernel
theorem dX1_linesThatDiffer_22 : decode cX1_linesThatDiffer 22 = .ok (.imul, 1) := by decide +kernel
theorem dX1_linesThatDiffer_23 : decode cX1_linesThatDiffer 23 = .ok (.ifCond .le 12, 3) := by decide +kernel
theorem dX1_linesThatDiffer_26 : decode cX1_linesThatDiffer 26 = .ok (.iload 4, 2) := by decide +kernel
theorem dX1_linesThatDiffer_28 : decode cX1_linesThatDiffer 28 = .ok (.iconst 1, 1) := by decide +kernel
theorem dX1_linesThatDiffer_29 : decode cX1_linesThatDiffer 29 = .ok (.iload 5, 2) := by decide +kernel
theorem dX1_linesThatDiffer_31 : decode cX1_linesThatDiffer 31 = .ok (.ishl, 1) := by decide +kernel
theorem dX1_linesThatDiffer_32 : decode cX1_linesThatDiffer 32 = .ok (.ior, 1) := by decide +kernel
theorem dX1_linesThatDiffer_33 : decode cX1_linesThatDiffer 33 = .ok (.istore 4, 2) := by decide +kernel
theorem dX1_linesThatDiffer_35 : decode cX1_linesThatDiffer 35 = .ok (.iinc 5 1, 3) := by decide +kernel
theorem dX1_linesThatDiffer_38 : decode cX1_linesThatDiffer 38 = .ok (.goto (-32), 3) := by decide +kernel
theorem dX1_linesThatDiffer_41 : decode cX1_linesThatDiffer 41 = .ok (.iload 4, 2) := by decide +kernel
theorem dX1_linesThatDiffer_43 : decode cX1_linesThatDiffer 43 = .ok (.ireturn, 1) := by decide +kernel
theorem dX1_farthestLine_0 : decode cX1_farthestLine 0 = .ok (.bipush (-4), 2) := by decide +kernel
theorem dX1_farthestLine_2 : decode cX1_farthestLine 2 = .ok (.istore_n 3, 1) := by decide +kernel
theorem dX1_farthestLine_3 : decode cX1_farthestLine 3 = .ok (.iconst 0, 1) := by decide +kernel
theorem dX1_farthestLine_4 : decode cX1_farthestLine 4 = .ok (.istore 4, 2) := by decide +kernel
theorem dX1_farthestLine_6 : decode cX1_farthestLine 6 = .ok (.iconst 0, 1) := by decide +kernel
theorem dX1_farthestLine_7 : decode cX1_farthestLine 7 = .ok (.istore 5, 2) := by decide +kernel
theorem dX1_farthestLine_9 : decode cX1_farthestLine 9 = .ok (.iload 5, 2) := by decide +kernel
theorem dX1_farthestLine_11 : decode cX1_farthestLine 11 = .ok (.bipush 16, 2) := by decide +kernel
theorem dX1_farthestLine_13 : decode cX1_farthestLine 13 = .ok (.if_icmp .ge 36, 3) := by decide +kernel
theorem dX1_farthestLine_16 : decode cX1_farthestLine 16 = .ok (.aload_n 0, 1) := by decide +kernel
theorem dX1_farthestLine_17 : decode cX1_farthestLine 17 = .ok (.aload_n 1, 1) := by decide +kernel
theorem dX1_farthestLine_18 : decode cX1_farthestLine 18 = .ok (.iload 5, 2) := by decide +kernel
theorem dX1_farthestLine_20 : decode cX1_farthestLine 20 = .ok (.iload_n 2, 1) := by decide +kernel
theorem dX1_farthestLine_21 : decode cX1_farthestLine 21 = .ok (.invokevirtual 21, 3) := by decide +kernel
theorem dX1_farthestLine_24 : decode cX1_farthestLine 24 = .ok (.invokestatic 25, 3) := by decide +kernel
theorem dX1_farthestLine_27 : decode cX1_farthestLine 27 = .ok (.istore 6, 2) := by decide +kernel
theorem dX1_farthestLine_29 : decode cX1_farthestLine 29 = .ok (.iload 6, 2) := by decide +kernel
theorem dX1_farthestLine_31 : decode cX1_farthestLine 31 = .ok (.iload 4, 2) := by decide +kernel
theorem dX1_farthestLine_33 : decode cX1_farthestLine 33 = .ok (.if_icmp .le 10, 3) := by decide +kernel
theorem dX1_farthestLine_36 : decode cX1_farthestLine 36 = .ok (.iload 5, 2) := by decide +kernel
theorem dX1_farthestLine_38 : decode cX1_farthestLine 38 = .ok (.istore_n 3, 1) := by decide +kernel
theorem dX1_farthestLine_39 : decode cX1_farthestLine 39 = .ok (.iload 6, 2) := by decide +kernel
theorem dX1_farthestLine_41 : decode cX1_farthestLine 41 = .ok (.istore 4, 2) := by decide +kernel
theorem dX1_farthestLine_43 : decode cX1_farthestLine 43 = .ok (.iinc 5 1, 3) := by decide +kernel
theorem dX1_farthestLine_46 : decode cX1_farthestLine 46 = .ok (.goto (-37), 3) := by decide +kernel
theorem dX1_farthestLine_49 : decode cX1_farthestLine 49 = .ok (.iload_n 3, 1) := by decide +kernel
theorem dX1_farthestLine_50 : decode cX1_farthestLine 50 = .ok (.ireturn, 1) := by decide +kernel
theorem dX2_init_0 : decode cX2_init 0 = .ok (.aload_n 0, 1) := by decide +kernel
theorem dX2_init_1 : decode cX2_init 1 = .ok (.invokespecial 3, 3) := by decide +kernel
theorem dX2_init_4 : decode cX2_init 4 = .ok (.aload_n 0, 1) := by decide +kernel
theorem dX2_init_5 : decode cX2_init 5 = .ok (.iconst 0, 1) := by decide +kernel
theorem dX2_init_6 : decode cX2_init 6 = .ok (.putfield 9, 3) := by decide +kernel
theorem dX2_init_9 : decode cX2_init 9 = .ok (.aload_n 0, 1) := by decide +kernel
theorem dX2_init_10 : decode cX2_init 10 = .ok (.iconst 0, 1) := by decide +kernel
theorem dX2_init_11 : decode cX2_init 11 = .ok (.putfield 15, 3) := by decide +kernel
theorem dX2_init_14 : decode cX2_init 14 = .ok (.aload_n 0, 1) := by decide +kernel
theorem dX2_init_15 : decode cX2_init 15 = .ok (.iconst 0, 1) := by decide +kernel
theorem dX2_init_16 : decode cX2_init 16 = .ok (.putfield 18, 3) := by decide +kernel
theorem dX2_init_19 : decode cX2_init 19 = .ok (.aload_n 0, 1) := by decide +kernel
theorem dX2_init_20 : decode cX2_init 20 = .ok (.iconst 0, 1) := by decide +kernel
theorem dX2_init_21 : decode cX2_init 21 = .ok (.putfield 21, 3) := by decide +kernel
theorem dX2_init_24 : decode cX2_init 24 = .ok (.return_, 1) := by decide +kernel
theorem dX2_take_0 : decode cX2_take 0 = .ok (.aload_n 0, 1) := by decide +kernel
theorem dX2_take_1 : decode cX2_take 1 = .ok (.iconst 0, 1) := by decide +kernel
theorem dX2_take_2 : decode cX2_take 2 = .ok (.putfield 9, 3) := by decide +kernel
theorem dX2_take_5 : decode cX2_take 5 = .ok (.aload_n 0, 1) := by decide +kernel
theorem dX2_take_6 : decode cX2_take 6 = .ok (.iconst 0, 1) := by decide +kernel
theorem dX2_take_7 : decode cX2_take 7 = .ok (.putfield 15, 3) := by decide +kernel
theorem dX2_take_10 : decode cX2_take 10 = .ok (.iconst 0, 1) := by decide +kernel
theorem dX2_take_11 : decode cX2_take 11 = .ok (.istore 5, 2) := by decide +kernel
theorem dX2_take_13 : decode cX2_take 13 = .ok (.iconst 0, 1) := by decide +kernel
theorem dX2_take_14 : decode cX2_take 14 = .ok (.istore 6, 2) := by decide +kernel
theorem dX2_take_16 : decode cX2_take 16 = .ok (.iconst 0, 1) := by decide +kernel
theorem dX2_take_17 : decode cX2_take 17 = .ok (.istore 7, 2) := by decide +kernel
theorem dX2_take_19 : decode cX2_take 19 = .ok (.iload 7, 2) := by decide +kernel
theorem dX2_take_21 : decode cX2_take 21 = .ok (.aload_n 1, 1) := by decide +kernel
theorem dX2_take_22 : decode cX2_take 22 = .ok (.getfield 24, 3) := by decide +kernel
theorem dX2_take_25 : decode cX2_take 25 = .ok (.if_icmp .ge 75, 3) := by decide +kernel
theorem dX2_take_28 : decode cX2_take 28 = .ok (.aload_n 1, 1) := by decide +kernel
theorem dX2_take_29 : decode cX2_take 29 = .ok (.iload 7, 2) := by decide +kernel
theorem dX2_take_31 : decode cX2_take 31 = .ok (.iload_n 3, 1) := by decide +kernel
theorem dX2_take_32 : decode cX2_take 32 = .ok (.invokevirtual 29, 3) := by decide +kernel
theorem dX2_take_35 : decode cX2_take 35 = .ok (.istore 8, 2) := by decide +kernel
theorem dX2_take_37 : decode cX2_take 37 = .ok (.iload 8, 2) := by decide +kernel
theorem dX2_take_39 : decode cX2_take 39 = .ok (.iload 5, 2) := by decide +kernel
theorem dX2_take_41 : decode cX2_take 41 = .ok (.if_icmp .eq 34, 3) := by decide +kernel
theorem dX2_take_44 : decode cX2_take 44 = .ok (.iload 8, 2) := by decide +kernel
theorem dX2_take_46 : decode cX2_take 46 = .ok (.istore 5, 2) := by decide +kernel
theorem dX2_take_48 : decode cX2_take 48 = .ok (.aload_n 0, 1) := by decide +kernel
theorem dX2_take_49 : decode cX2_take 49 = .ok (.dup, 1) := by decide +kernel
theorem dX2_take_50 : decode cX2_take 50 = .ok (.getfield 9, 3) := by decide +kernel
theorem dX2_take_53 : decode cX2_take 53 = .ok (.iload 6, 2) := by decide +kernel
theorem dX2_take_55 : decode cX2_take 55 = .ok (.iload 4, 2) := by decide +kernel
theorem dX2_take_57 : decode cX2_take 57 = .ok (.iand, 1) := by decide +kernel
theorem dX2_take_58 : decode cX2_take 58 = .ok (.iadd, 1) := by decide +kernel
theorem dX2_take_59 : decode cX2_take 59 = .ok (.putfield 9, 3) := by decide +kernel
theorem dX2_take_62 : decode cX2_take 62 = .ok (.aload_n 0, 1) := by decide +kernel
theorem dX2_take_63 : decode cX2_take 63 = .ok (.dup, 1) := by decide +kernel
theorem dX2_take_64 : decode cX2_take 64 = .ok (.getfield 15, 3) := by decide +kernel
theorem dX2_take_67 : decode cX2_take 67 = .ok (.iconst 1, 1) := by decide +kernel
theorem dX2_take_68 : decode cX2_take 68 = .ok (.iadd, 1) := by decide +kernel
theorem dX2_take_69 : decode cX2_take 69 = .ok (.putfield 15, 3) := by decide +kernel
theorem dX2_take_72 : decode cX2_take 72 = .ok (.iconst 0, 1) := by decide +kernel
theorem dX2_take_73 : decode cX2_take 73 = .ok (.istore 6, 2) := by decide +kernel
theorem dX2_take_75 : decode cX2_take 75 = .ok (.iload 6, 2) := by decide +kernel
theorem dX2_take_77 : decode cX2_take 77 = .ok (.aload_n 1, 1) := by decide +kernel
theorem dX2_take_78 : decode cX2_take 78 = .ok (.getfield 33, 3) := by decide +kernel
theorem dX2_take_81 : decode cX2_take 81 = .ok (.aload_n 1, 1) := by decide +kernel
theorem dX2_take_82 : decode cX2_take 82 = .ok (.getfield 37, 3) := by decide +kernel
theorem dX2_take_85 : decode cX2_take 85 = .ok (.iload 7, 2) := by decide +kernel
theorem dX2_take_87 : decode cX2_take 87 = .ok (.baload, 1) := by decide +kernel
theorem dX2_take_88 : decode cX2_take 88 = .ok (.aaload, 1) := by decide +kernel
theorem dX2_take_89 : decode cX2_take 89 = .ok (.iload_n 2, 1) := by decide +kernel
theorem dX2_take_90 : decode cX2_take 90 = .ok (.iaload, 1) := by decide +kernel
theorem dX2_take_91 : decode cX2_take 91 = .ok (.iadd, 1) := by decide +kernel
theorem dX2_take_92 : decode cX2_take 92 = .ok (.istore 6, 2) := by decide +kernel
theorem dX2_take_94 : decode cX2_take 94 = .ok (.iinc 7 1, 3) := by decide +kernel
theorem dX2_take_97 : decode cX2_take 97 = .ok (.goto (-78), 3) := by decide +kernel
theorem dX2_take_100 : decode cX2_take 100 = .ok (.aload_n 0, 1) := by decide +kernel
theorem dX2_take_101 : decode cX2_take 101 = .ok (.dup, 1) := by decide +kernel
theorem dX2_take_102 : decode cX2_take 102 = .ok (.getfield 9, 3) := by decide +kernel
theorem dX2_take_105 : decode cX2_take 105 = .ok (.iload 6, 2) := by decide +kernel
theorem dX2_take_107 : decode cX2_take 107 = .ok (.iload 4, 2) := by decide +kernel
theorem dX2_take_109 : decode cX2_take 109 = .ok (.iand, 1) := by decide +kernel
theorem dX2_take_110 : decode cX2_take 110 = .ok (.iadd, 1) := by decide +kernel
theorem dX2_take_111 : decode cX2_take 111 = .ok (.putfield 9, 3) := by decide +kernel
theorem dX2_take_114 : decode cX2_take 114 = .ok (.aload_n 0, 1) := by decide +kernel
theorem dX2_take_115 : decode cX2_take 115 = .ok (.dup, 1) := by decide +kernel
theorem dX2_take_116 : decode cX2_take 116 = .ok (.getfield 15, 3) := by decide +kernel
theorem dX2_take_119 : decode cX2_take 119 = .ok (.iconst 1, 1) := by decide +kernel
theorem dX2_take_120 : decode cX2_take 120 = .ok (.iadd, 1) := by decide +kernel
theorem dX2_take_121 : decode cX2_take 121 = .ok (.putfield 15, 3) := by decide +kernel
theorem dX2_take_124 : decode cX2_take 124 = .ok (.return_, 1) := by decide +kernel
theorem dX2_longestWithoutLoss_0 : decode cX2_longestWithoutLoss 0 = .ok (.iconst 0, 1) := by decide +kernel
theorem dX2_longestWithoutLoss_1 : decode cX2_longestWithoutLoss 1 = .ok (.istore 4, 2) := by decide +kernel
theorem dX2_longestWithoutLoss_3 : decode cX2_longestWithoutLoss 3 = .ok (.sipush 999, 3) := by decide +kernel
theorem dX2_longestWithoutLoss_6 : decode cX2_longestWithoutLoss 6 = .ok (.istore 5, 2) := by decide +kernel
theorem dX2_longestWithoutLoss_8 : decode cX2_longestWithoutLoss 8 = .ok (.iload 5, 2) := by decide +kernel
theorem dX2_longestWithoutLoss_10 : decode cX2_longestWithoutLoss 10 = .ok (.iconst 1, 1) := by decide +kernel
theorem dX2_longestWithoutLoss_11 : decode cX2_longestWithoutLoss 11 = .ok (.if_icmp .lt 67, 3) := by decide +kernel
theorem dX2_longestWithoutLoss_14 : decode cX2_longestWithoutLoss 14 = .ok (.iload 4, 2) := by decide +kernel
theorem dX2_longestWithoutLoss_16 : decode cX2_longestWithoutLoss 16 = .ok (.ifCond .eq 30, 3) := by decide +kernel
theorem dX2_longestWithoutLoss_19 : decode cX2_longestWithoutLoss 19 = .ok (.aload_n 1, 1) := by decide +kernel
theorem dX2_longestWithoutLoss_20 : decode cX2_longestWithoutLoss 20 = .ok (.aload_n 0, 1) := by decide +kernel
theorem dX2_longestWithoutLoss_21 : decode cX2_longestWithoutLoss 21 = .ok (.getfield 18, 3) := by decide +kernel
theorem dX2_longestWithoutLoss_24 : decode cX2_longestWithoutLoss 24 = .ok (.iload 5, 2) := by decide +kernel
theorem dX2_longestWithoutLoss_26 : decode cX2_longestWithoutLoss 26 = .ok (.invokevirtual 29, 3) := by decide +kernel
theorem dX2_longestWithoutLoss_29 : decode cX2_longestWithoutLoss 29 = .ok (.aload_n 1, 1) := by decide +kernel
theorem dX2_longestWithoutLoss_30 : decode cX2_longestWithoutLoss 30 = .ok (.aload_n 0, 1) := by decide +kernel
theorem dX2_longestWithoutLoss_31 : decode cX2_longestWithoutLoss 31 = .ok (.getfield 21, 3) := by decide +kernel
theorem dX2_longestWithoutLoss_34 : decode cX2_longestWithoutLoss 34 = .ok (.iload 5, 2) := by decide +kernel
theorem dX2_longestWithoutLoss_36 : decode cX2_longestWithoutLoss 36 = .ok (.invokevirtual 29, 3) := by decide +kernel
theorem dX2_longestWithoutLoss_39 : decode cX2_longestWithoutLoss 39 = .ok (.if_icmp .ne 7, 3) := by decide +kernel
theorem dX2_longestWithoutLoss_42 : decode cX2_longestWithoutLoss 42 = .ok (.iconst 1, 1) := by decide +kernel
theorem dX2_longestWithoutLoss_43 : decode cX2_longestWithoutLoss 43 = .ok (.goto 4, 3) := by decide +kernel
theorem dX2_longestWithoutLoss_46 : decode cX2_longestWithoutLoss 46 = .ok (.iconst 0, 1) := by decide +kernel
theorem dX2_longestWithoutLoss_47 : decode cX2_longestWithoutLoss 47 = .ok (.istore 6, 2) := by decide +kernel
theorem dX2_longestWithoutLoss_49 : decode cX2_longestWithoutLoss 49 = .ok (.iload 6, 2) := by decide +kernel
theorem dX2_longestWithoutLoss_51 : decode cX2_longestWithoutLoss 51 = .ok (.ifCond .ne 18, 3) := by decide +kernel
theorem dX2_longestWithoutLoss_54 : decode cX2_longestWithoutLoss 54 = .ok (.aload_n 0, 1) := by decide +kernel
theorem dX2_longestWithoutLoss_55 : decode cX2_longestWithoutLoss 55 = .ok (.aload_n 1, 1) := by decide +kernel
theorem dX2_longestWithoutLoss_56 : decode cX2_longestWithoutLoss 56 = .ok (.iload_n 2, 1) := by decide +kernel
theorem dX2_longestWithoutLoss_57 : decode cX2_longestWithoutLoss 57 = .ok (.iload 5, 2) := by decide +kernel
theorem dX2_longestWithoutLoss_59 : decode cX2_longestWithoutLoss 59 = .ok (.iload_n 3, 1) := by decide +kernel
theorem dX2_longestWithoutLoss_60 : decode cX2_longestWithoutLoss 60 = .ok (.invokevirtual 41, 3) := by decide +kernel
theorem dX2_longestWithoutLoss_63 : decode cX2_longestWithoutLoss 63 = .ok (.ifCond .ne 6, 3) := by decide +kernel
theorem dX2_longestWithoutLoss_66 : decode cX2_longestWithoutLoss 66 = .ok (.iload 5, 2) := by decide +kernel
theorem dX2_longestWithoutLoss_68 : decode cX2_longestWithoutLoss 68 = .ok (.ireturn, 1) := by decide +kernel
theorem dX2_longestWithoutLoss_69 : decode cX2_longestWithoutLoss 69 = .ok (.iconst 1, 1) := by decide +kernel
theorem dX2_longestWithoutLoss_70 : decode cX2_longestWithoutLoss 70 = .ok (.istore 4, 2) := by decide +kernel
theorem dX2_longestWithoutLoss_72 : decode cX2_longestWithoutLoss 72 = .ok (.iinc 5 (-1), 3) := by decide +kernel
theorem dX2_longestWithoutLoss_75 : decode cX2_longestWithoutLoss 75 = .ok (.goto (-67), 3) := by decide +kernel
theorem dX2_longestWithoutLoss_78 : decode cX2_longestWithoutLoss 78 = .ok (.bipush (-4), 2) := by decide +kernel
theorem dX2_longestWithoutLoss_80 : decode cX2_longestWithoutLoss 80 = .ok (.ireturn, 1) := by decide +kernel
theorem dX2_loses_0 : decode cX2_loses 0 = .ok (.iconst 0, 1) := by decide +kernel
theorem dX2_loses_1 : decode cX2_loses 1 = .ok (.istore 5, 2) := by decide +kernel
theorem dX2_loses_3 : decode cX2_loses 3 = .ok (.iconst 0, 1) := by decide +kernel
theorem dX2_loses_4 : decode cX2_loses 4 = .ok (.istore 6, 2) := by decide +kernel
theorem dX2_loses_6 : decode cX2_loses 6 = .ok (.iconst 0, 1) := by decide +kernel
theorem dX2_loses_7 : decode cX2_loses 7 = .ok (.istore 7, 2) := by decide +kernel
theorem dX2_loses_9 : decode cX2_loses 9 = .ok (.iconst 0, 1) := by decide +kernel
theorem dX2_loses_10 : decode cX2_loses 10 = .ok (.istore 8, 2) := by decide +kernel
theorem dX2_loses_12 : decode cX2_loses 12 = .ok (.iload 8, 2) := by decide +kernel
theorem dX2_loses_14 : decode cX2_loses 14 = .ok (.aload_n 1, 1) := by decide +kernel
theorem dX2_loses_15 : decode cX2_loses 15 = .ok (.getfield 24, 3) := by decide +kernel
theorem dX2_loses_18 : decode cX2_loses 18 = .ok (.if_icmp .ge 81, 3) := by decide +kernel
theorem dX2_loses_21 : decode cX2_loses 21 = .ok (.aload_n 1, 1) := by decide +kernel
theorem dX2_loses_22 : decode cX2_loses 22 = .ok (.iload 8, 2) := by decide +kernel
theorem dX2_loses_24 : decode cX2_loses 24 = .ok (.iload_n 3, 1) := by decide +kernel
theorem dX2_loses_25 : decode cX2_loses 25 = .ok (.invokevirtual 29, 3) := by decide +kernel
theorem dX2_loses_28 : decode cX2_loses 28 = .ok (.istore 9, 2) := by decide +kernel
theorem dX2_loses_30 : decode cX2_loses 30 = .ok (.iload 9, 2) := by decide +kernel
theorem dX2_loses_32 : decode cX2_loses 32 = .ok (.iload 5, 2) := by decide +kernel
theorem dX2_loses_34 : decode cX2_loses 34 = .ok (.if_icmp .eq 10, 3) := by decide +kernel
theorem dX2_loses_37 : decode cX2_loses 37 = .ok (.iload 9, 2) := by decide +kernel
theorem dX2_loses_39 : decode cX2_loses 39 = .ok (.istore 5, 2) := by decide +kernel
theorem dX2_loses_41 : decode cX2_loses 41 = .ok (.iconst 0, 1) := by decide +kernel
theorem dX2_loses_42 : decode cX2_loses 42 = .ok (.istore 6, 2) := by decide +kernel
theorem dX2_loses_44 : decode cX2_loses 44 = .ok (.iload 6, 2) := by decide +kernel
theorem dX2_loses_46 : decode cX2_loses 46 = .ok (.ifCond .ne 7, 3) := by decide +kernel
theorem dX2_loses_49 : decode cX2_loses 49 = .ok (.iload 8, 2) := by decide +kernel
theorem dX2_loses_51 : decode cX2_loses 51 = .ok (.istore 7, 2) := by decide +kernel
theorem dX2_loses_53 : decode cX2_loses 53 = .ok (.iload 6, 2) := by decide +kernel
theorem dX2_loses_55 : decode cX2_loses 55 = .ok (.aload_n 1, 1) := by decide +kernel
theorem dX2_loses_56 : decode cX2_loses 56 = .ok (.getfield 33, 3) := by decide +kernel
theorem dX2_loses_59 : decode cX2_loses 59 = .ok (.aload_n 1, 1) := by decide +kernel
theorem dX2_loses_60 : decode cX2_loses 60 = .ok (.getfield 37, 3) := by decide +kernel
theorem dX2_loses_63 : decode cX2_loses 63 = .ok (.iload 8, 2) := by decide +kernel
theorem dX2_loses_65 : decode cX2_loses 65 = .ok (.baload, 1) := by decide +kernel
theorem dX2_loses_66 : decode cX2_loses 66 = .ok (.aaload, 1) := by decide +kernel
theorem dX2_loses_67 : decode cX2_loses 67 = .ok (.iload_n 2, 1) := by decide +kernel
theorem dX2_loses_68 : decode cX2_loses 68 = .ok (.iaload, 1) := by decide +kernel
theorem dX2_loses_69 : decode cX2_loses 69 = .ok (.iadd, 1) := by decide +kernel
theorem dX2_loses_70 : decode cX2_loses 70 = .ok (.istore 6, 2) := by decide +kernel
theorem dX2_loses_72 : decode cX2_loses 72 = .ok (.iload 6, 2) := by decide +kernel
theorem dX2_loses_74 : decode cX2_loses 74 = .ok (.iload 4, 2) := by decide +kernel
theorem dX2_loses_76 : decode cX2_loses 76 = .ok (.if_icmp .le 17, 3) := by decide +kernel
theorem dX2_loses_79 : decode cX2_loses 79 = .ok (.aload_n 0, 1) := by decide +kernel
theorem dX2_loses_80 : decode cX2_loses 80 = .ok (.iload 7, 2) := by decide +kernel
theorem dX2_loses_82 : decode cX2_loses 82 = .ok (.putfield 18, 3) := by decide +kernel
theorem dX2_loses_85 : decode cX2_loses 85 = .ok (.aload_n 0, 1) := by decide +kernel
theorem dX2_loses_86 : decode cX2_loses 86 = .ok (.iload 8, 2) := by decide +kernel
theorem dX2_loses_88 : decode cX2_loses 88 = .ok (.putfield 21, 3) := by decide +kernel
theorem dX2_loses_91 : decode cX2_loses 91 = .ok (.iconst 1, 1) := by decide +kernel
theorem dX2_loses_92 : decode cX2_loses 92 = .ok (.ireturn, 1) := by decide +kernel
theorem dX2_loses_93 : decode cX2_loses 93 = .ok (.iinc 8 1, 3) := by decide +kernel
theorem dX2_loses_96 : decode cX2_loses 96 = .ok (.goto (-84), 3) := by decide +kernel
theorem dX2_loses_99 : decode cX2_loses 99 = .ok (.iconst 0, 1) := by decide +kernel
theorem dX2_loses_100 : decode cX2_loses 100 = .ok (.ireturn, 1) := by decide +kernel
theorem dX3_init_0 : decode cX3_init 0 = .ok (.aload_n 0, 1) := by decide +kernel
theorem dX3_init_1 : decode cX3_init 1 = .ok (.invokespecial 3, 3) := by decide +kernel
theorem dX3_init_4 : decode cX3_init 4 = .ok (.aload_n 0, 1) := by decide +kernel
theorem dX3_init_5 : decode cX3_init 5 = .ok (.iconst 0, 1) := by decide +kernel
theorem dX3_init_6 : decode cX3_init 6 = .ok (.putfield 9, 3) := by decide +kernel
theorem dX3_init_9 : decode cX3_init 9 = .ok (.aload_n 0, 1) := by decide +kernel
theorem dX3_init_10 : decode cX3_init 10 = .ok (.bipush 16, 2) := by decide +kernel
theorem dX3_init_12 : decode cX3_init 12 = .ok (.newarray .int, 2) := by decide +kernel
theorem dX3_init_14 : decode cX3_init 14 = .ok (.putfield 15, 3) := by decide +kernel
theorem dX3_init_17 : decode cX3_init 17 = .ok (.aload_n 0, 1) := by decide +kernel
theorem dX3_init_18 : decode cX3_init 18 = .ok (.bipush 16, 2) := by decide +kernel
theorem dX3_init_20 : decode cX3_init 20 = .ok (.newarray .int, 2) := by decide +kernel
theorem dX3_init_22 : decode cX3_init 22 = .ok (.putfield 19, 3) := by decide +kernel
theorem dX3_init_25 : decode cX3_init 25 = .ok (.aload_n 0, 1) := by decide +kernel
theorem dX3_init_26 : decode cX3_init 26 = .ok (.bipush 16, 2) := by decide +kernel
theorem dX3_init_28 : decode cX3_init 28 = .ok (.newarray .int, 2) := by decide +kernel
theorem dX3_init_30 : decode cX3_init 30 = .ok (.putfield 22, 3) := by decide +kernel
theorem dX3_init_33 : decode cX3_init 33 = .ok (.aload_n 0, 1) := by decide +kernel
theorem dX3_init_34 : decode cX3_init 34 = .ok (.bipush 16, 2) := by decide +kernel
theorem dX3_init_36 : decode cX3_init 36 = .ok (.bipush 8, 2) := by decide +kernel
theorem dX3_init_38 : decode cX3_init 38 = .ok (.multianewarray 25 2, 4) := by decide +kernel
theorem dX3_init_42 : decode cX3_init 42 = .ok (.putfield 27, 3) := by decide +kernel
theorem dX3_init_45 : decode cX3_init 45 = .ok (.aload_n 0, 1) := by decide +kernel
theorem dX3_init_46 : decode cX3_init 46 = .ok (.iconst 0, 1) := by decide +kernel
theorem dX3_init_47 : decode cX3_init 47 = .ok (.putfield 30, 3) := by decide +kernel
theorem dX3_init_50 : decode cX3_init 50 = .ok (.aload_n 0, 1) := by decide +kernel
theorem dX3_init_51 : decode cX3_init 51 = .ok (.bipush 40, 2) := by decide +kernel
theorem dX3_init_53 : decode cX3_init 53 = .ok (.newarray .int, 2) := by decide +kernel
theorem dX3_init_55 : decode cX3_init 55 = .ok (.putfield 33, 3) := by decide +kernel
theorem dX3_init_58 : decode cX3_init 58 = .ok (.aload_n 0, 1) := by decide +kernel
theorem dX3_init_59 : decode cX3_init 59 = .ok (.bipush 40, 2) := by decide +kernel
theorem dX3_init_61 : decode cX3_init 61 = .ok (.newarray .int, 2) := by decide +kernel
theorem dX3_init_63 : decode cX3_init 63 = .ok (.putfield 36, 3) := by decide +kernel
theorem dX3_init_66 : decode cX3_init 66 = .ok (.aload_n 0, 1) := by decide +kernel
theorem dX3_init_67 : decode cX3_init 67 = .ok (.bipush 40, 2) := by decide +kernel
theorem dX3_init_69 : decode cX3_init 69 = .ok (.newarray .int, 2) := by decide +kernel
theorem dX3_init_71 : decode cX3_init 71 = .ok (.putfield 39, 3) := by decide +kernel
theorem dX3_init_74 : decode cX3_init 74 = .ok (.aload_n 0, 1) := by decide +kernel
theorem dX3_init_75 : decode cX3_init 75 = .ok (.bipush 40, 2) := by decide +kernel
theorem dX3_init_77 : decode cX3_init 77 = .ok (.newarray .int, 2) := by decide +kernel
theorem dX3_init_79 : decode cX3_init 79 = .ok (.putfield 42, 3) := by decide +kernel
theorem dX3_init_82 : decode cX3_init 82 = .ok (.aload_n 0, 1) := by decide +kernel
theorem dX3_init_83 : decode cX3_init 83 = .ok (.bipush 40, 2) := by decide +kernel
theorem dX3_init_85 : decode cX3_init 85 = .ok (.newarray .int, 2) := by decide +kernel
theorem dX3_init_87 : decode cX3_init 87 = .ok (.putfield 45, 3) := by decide +kernel
theorem dX3_init_90 : decode cX3_init 90 = .ok (.aload_n 0, 1) := by decide +kernel
theorem dX3_init_91 : decode cX3_init 91 = .ok (.bipush 40, 2) := by decide +kernel
theorem dX3_init_93 : decode cX3_init 93 = .ok (.newarray .int, 2) := by decide +kernel
theorem dX3_init_95 : decode cX3_init 95 = .ok (.putfield 48, 3) := by decide +kernel
theorem dX3_init_98 : decode cX3_init 98 = .ok (.aload_n 0, 1) := by decide +kernel
theorem dX3_init_99 : decode cX3_init 99 = .ok (.iconst 4, 1) := by decide +kernel
theorem dX3_init_100 : decode cX3_init 100 = .ok (.newarray .int, 2) := by decide +kernel
theorem dX3_init_102 : decode cX3_init 102 = .ok (.putfield 51, 3) := by decide +kernel
theorem dX3_init_105 : decode cX3_init 105 = .ok (.aload_n 0, 1) := by decide +kernel
theorem dX3_init_106 : decode cX3_init 106 = .ok (.iconst 0, 1) := by decide +kernel
theorem dX3_init_107 : decode cX3_init 107 = .ok (.putfield 54, 3) := by decide +kernel
theorem dX3_init_110 : decode cX3_init 110 = .ok (.aload_n 0, 1) := by decide +kernel
theorem dX3_init_111 : decode cX3_init 111 = .ok (.iconst 1, 1) := by decide +kernel
theorem dX3_init_112 : decode cX3_init 112 = .ok (.putfield 57, 3) := by decide +kernel
theorem dX3_init_115 : decode cX3_init 115 = .ok (.aload_n 0, 1) := by decide +kernel
theorem dX3_init_116 : decode cX3_init 116 = .ok (.iconst 0, 1) := by decide +kernel
theorem dX3_init_117 : decode cX3_init 117 = .ok (.putfield 60, 3) := by decide +kernel
theorem dX3_init_120 : decode cX3_init 120 = .ok (.aload_n 0, 1) := by decide +kernel
theorem dX3_init_121 : decode cX3_init 121 = .ok (.iconst 0, 1) := by decide +kernel
theorem dX3_init_122 : decode cX3_init 122 = .ok (.putfield 63, 3) := by decide +kernel
theorem dX3_init_125 : decode cX3_init 125 = .ok (.aload_n 0, 1) := by decide +kernel
theorem dX3_init_126 : decode cX3_init 126 = .ok (.sipush 6000, 3) := by decide +kernel
theorem dX3_init_129 : decode cX3_init 129 = .ok (.newarray .byte, 2) := by decide +kernel
theorem dX3_init_131 : decode cX3_init 131 = .ok (.putfield 67, 3) := by decide +kernel
theorem dX3_init_134 : decode cX3_init 134 = .ok (.aload_n 0, 1) := by decide +kernel
theorem dX3_init_135 : decode cX3_init 135 = .ok (.sipush 6001, 3) := by decide +kernel
theorem dX3_init_138 : decode cX3_init 138 = .ok (.newarray .int, 2) := by decide +kernel
theorem dX3_init_140 : decode cX3_init 140 = .ok (.putfield 71, 3) := by decide +kernel
theorem dX3_init_143 : decode cX3_init 143 = .ok (.return_, 1) := by decide +kernel
theorem dX3_begin_0 : decode cX3_begin 0 = .ok (.aload_n 0, 1) := by decide +kernel
theorem dX3_begin_1 : decode cX3_begin 1 = .ok (.iconst 0, 1) := by decide +kernel
theorem dX3_begin_2 : decode cX3_begin 2 = .ok (.putfield 9, 3) := by decide +kernel
theorem dX3_begin_5 : decode cX3_begin 5 = .ok (.aload_n 0, 1) := by decide +kernel
theorem dX3_begin_6 : decode cX3_begin 6 = .ok (.iconst 0, 1) := by decide +kernel
theorem dX3_begin_7 : decode cX3_begin 7 = .ok (.putfield 30, 3) := by decide +kernel
theorem dX3_begin_10 : decode cX3_begin 10 = .ok (.aload_n 0, 1) := by decide +kernel
theorem dX3_begin_11 : decode cX3_begin 11 = .ok (.iconst 0, 1) := by decide +kernel
theorem dX3_begin_12 : decode cX3_begin 12 = .ok (.putfield 54, 3) := by decide +kernel
theorem dX3_begin_15 : decode cX3_begin 15 = .ok (.aload_n 0, 1) := by decide +kernel
theorem dX3_begin_16 : decode cX3_begin 16 = .ok (.iconst 1, 1) := by decide +kernel
theorem dX3_begin_17 : decode cX3_begin 17 = .ok (.putfield 57, 3) := by decide +kernel
theorem dX3_begin_20 : decode cX3_begin 20 = .ok (.aload_n 0, 1) := by decide +kernel
theorem dX3_begin_21 : decode cX3_begin 21 = .ok (.iconst 0, 1) := by decide +kernel
theorem dX3_begin_22 : decode cX3_begin 22 = .ok (.putfield 60, 3) := by decide +kernel
theorem dX3_begin_25 : decode cX3_begin 25 = .ok (.aload_n 0, 1) := by decide +kernel
theorem dX3_begin_26 : decode cX3_begin 26 = .ok (.iconst 0, 1) := by decide +kernel
theorem dX3_begin_27 : decode cX3_begin 27 = .ok (.putfield 63, 3) := by decide +kernel
theorem dX3_begin_30 : decode cX3_begin 30 = .ok (.return_, 1) := by decide +kernel
theorem dX3_addLine_0 : decode cX3_addLine 0 = .ok (.aload_n 0, 1) := by decide +kernel
theorem dX3_addLine_1 : decode cX3_addLine 1 = .ok (.getfield 9, 3) := by decide +kernel
theorem dX3_addLine_4 : decode cX3_addLine 4 = .ok (.bipush 16, 2) := by decide +kernel
theorem dX3_addLine_6 : decode cX3_addLine 6 = .ok (.if_icmp .lt 4, 3) := by decide +kernel
theorem dX3_addLine_9 : decode cX3_addLine 9 = .ok (.return_, 1) := by decide +kernel
theorem dX3_addLine_10 : decode cX3_addLine 10 = .ok (.aload_n 0, 1) := by decide +kernel
theorem dX3_addLine_11 : decode cX3_addLine 11 = .ok (.getfield 15, 3) := by decide +kernel
theorem dX3_addLine_14 : decode cX3_addLine 14 = .ok (.aload_n 0, 1) := by decide +kernel
theorem dX3_addLine_15 : decode cX3_addLine 15 = .ok (.getfield 9, 3) := by decide +kernel
theorem dX3_addLine_18 : decode cX3_addLine 18 = .ok (.iload_n 1, 1) := by decide +kernel
theorem dX3_addLine_19 : decode cX3_addLine 19 = .ok (.iastore, 1) := by decide +kernel
theorem dX3_addLine_20 : decode cX3_addLine 20 = .ok (.aload_n 0, 1) := by decide +kernel
theorem dX3_addLine_21 : decode cX3_addLine 21 = .ok (.getfield 19, 3) := by decide +kernel
theorem dX3_addLine_24 : decode cX3_addLine 24 = .ok (.aload_n 0, 1) := by decide +kernel
theorem dX3_addLine_25 : decode cX3_addLine 25 = .ok (.getfield 9, 3) := by decide +kernel
theorem dX3_addLine_28 : decode cX3_addLine 28 = .ok (.aload_n 0, 1) := by decide +kernel
theorem dX3_addLine_29 : decode cX3_addLine 29 = .ok (.getfield 57, 3) := by decide +kernel
theorem dX3_addLine_32 : decode cX3_addLine 32 = .ok (.iastore, 1) := by decide +kernel
theorem dX3_addLine_33 : decode cX3_addLine 33 = .ok (.aload_n 0, 1) := by decide +kernel
theorem dX3_addLine_34 : decode cX3_addLine 34 = .ok (.getfield 22, 3) := by decide +kernel
theorem dX3_addLine_37 : decode cX3_addLine 37 = .ok (.aload_n 0, 1) := by decide +kernel
theorem dX3_addLine_38 : decode cX3_addLine 38 = .ok (.getfield 9, 3) := by decide +kernel
theorem dX3_addLine_41 : decode cX3_addLine 41 = .ok (.aload_n 0, 1) := by decide +kernel
theorem dX3_addLine_42 : decode cX3_addLine 42 = .ok (.getfield 54, 3) := by decide +kernel
theorem dX3_addLine_45 : decode cX3_addLine 45 = .ok (.iastore, 1) := by decide +kernel
theorem dX3_addLine_46 : decode cX3_addLine 46 = .ok (.iconst 0, 1) := by decide +kernel
theorem dX3_addLine_47 : decode cX3_addLine 47 = .ok (.istore_n 2, 1) := by decide +kernel
theorem dX3_addLine_48 : decode cX3_addLine 48 = .ok (.iload_n 2, 1) := by decide +kernel
theorem dX3_addLine_49 : decode cX3_addLine 49 = .ok (.bipush 8, 2) := by decide +kernel
theorem dX3_addLine_51 : decode cX3_addLine 51 = .ok (.if_icmp .ge 21, 3) := by decide +kernel
theorem dX3_addLine_54 : decode cX3_addLine 54 = .ok (.aload_n 0, 1) := by decide +kernel
theorem dX3_addLine_55 : decode cX3_addLine 55 = .ok (.getfield 27, 3) := by decide +kernel
theorem dX3_addLine_58 : decode cX3_addLine 58 = .ok (.aload_n 0, 1) := by decide +kernel
theorem dX3_addLine_59 : decode cX3_addLine 59 = .ok (.getfield 9, 3) := by decide +kernel
theorem dX3_addLine_62 : decode cX3_addLine 62 = .ok (.aaload, 1) := by decide +kernel
theorem dX3_addLine_63 : decode cX3_addLine 63 = .ok (.iload_n 2, 1) := by decide +kernel
theorem dX3_addLine_64 : decode cX3_addLine 64 = .ok (.iconst 0, 1) := by decide +kernel
theorem dX3_addLine_65 : decode cX3_addLine 65 = .ok (.iastore, 1) := by decide +kernel
theorem dX3_addLine_66 : decode cX3_addLine 66 = .ok (.iinc 2 1, 3) := by decide +kernel
theorem dX3_addLine_69 : decode cX3_addLine 69 = .ok (.goto (-21), 3) := by decide +kernel
theorem dX3_addLine_72 : decode cX3_addLine 72 = .ok (.aload_n 0, 1) := by decide +kernel
theorem dX3_addLine_73 : decode cX3_addLine 73 = .ok (.getfield 60, 3) := by decide +kernel
theorem dX3_addLine_76 : decode cX3_addLine 76 = .ok (.sipush 6000, 3) := by decide +kernel
theorem dX3_addLine_79 : decode cX3_addLine 79 = .ok (.if_icmp .ge 30, 3) := by decide +kernel
theorem dX3_addLine_82 : decode cX3_addLine 82 = .ok (.aload_n 0, 1) := by decide +kernel
theorem dX3_addLine_83 : decode cX3_addLine 83 = .ok (.getfield 67, 3) := by decide +kernel
theorem dX3_addLine_86 : decode cX3_addLine 86 = .ok (.aload_n 0, 1) := by decide +kernel
theorem dX3_addLine_87 : decode cX3_addLine 87 = .ok (.getfield 60, 3) := by decide +kernel
theorem dX3_addLine_90 : decode cX3_addLine 90 = .ok (.aload_n 0, 1) := by decide +kernel
theorem dX3_addLine_91 : decode cX3_addLine 91 = .ok (.getfield 9, 3) := by decide +kernel
theorem dX3_addLine_94 : decode cX3_addLine 94 = .ok (.i2b, 1) := by decide +kernel
theorem dX3_addLine_95 : decode cX3_addLine 95 = .ok (.bastore, 1) := by decide +kernel
theorem dX3_addLine_96 : decode cX3_addLine 96 = .ok (.aload_n 0, 1) := by decide +kernel
theorem dX3_addLine_97 : decode cX3_addLine 97 = .ok (.dup, 1) := by decide +kernel
theorem dX3_addLine_98 : decode cX3_addLine 98 = .ok (.getfield 60, 3) := by decide +kernel
theorem dX3_addLine_101 : decode cX3_addLine 101 = .ok (.iconst 1, 1) := by decide +kernel
theorem dX3_addLine_102 : decode cX3_addLine 102 = .ok (.iadd, 1) := by decide +kernel
theorem dX3_addLine_103 : decode cX3_addLine 103 = .ok (.putfield 60, 3) := by decide +kernel
theorem dX3_addLine_106 : decode cX3_addLine 106 = .ok (.goto 8, 3) := by decide +kernel
theorem dX3_addLine_109 : decode cX3_addLine 109 = .ok (.aload_n 0, 1) := by decide +kernel
theorem dX3_addLine_110 : decode cX3_addLine 110 = .ok (.iconst 1, 1) := by decide +kernel
theorem dX3_addLine_111 : decode cX3_addLine 111 = .ok (.putfield 63, 3) := by decide +kernel
theorem dX3_addLine_114 : decode cX3_addLine 114 = .ok (.aload_n 0, 1) := by decide +kernel
theorem dX3_addLine_115 : decode cX3_addLine 115 = .ok (.dup, 1) := by decide +kernel
theorem dX3_addLine_116 : decode cX3_addLine 116 = .ok (.getfield 9, 3) := by decide +kernel
theorem dX3_addLine_119 : decode cX3_addLine 119 = .ok (.iconst 1, 1) := by decide +kernel
theorem dX3_addLine_120 : decode cX3_addLine 120 = .ok (.iadd, 1) := by decide +kernel
theorem dX3_addLine_121 : decode cX3_addLine 121 = .ok (.putfield 9, 3) := by decide +kernel
theorem dX3_addLine_124 : decode cX3_addLine 124 = .ok (.return_, 1) := by decide +kernel
theorem dX3_setEvent_0 : decode cX3_setEvent 0 = .ok (.aload_n 0, 1) := by decide +kernel
theorem dX3_setEvent_1 : decode cX3_setEvent 1 = .ok (.getfield 9, 3) := by decide +kernel
theorem dX3_setEvent_4 : decode cX3_setEvent 4 = .ok (.ifCond .le 17, 3) := by decide +kernel
theorem dX3_setEvent_7 : decode cX3_setEvent 7 = .ok (.aload_n 0, 1) := by decide +kernel
theorem dX3_setEvent_8 : decode cX3_setEvent 8 = .ok (.getfield 27, 3) := by decide +kernel
theorem dX3_setEvent_11 : decode cX3_setEvent 11 = .ok (.aload_n 0, 1) := by decide +kernel
theorem dX3_setEvent_12 : decode cX3_setEvent 12 = .ok (.getfield 9, 3) := by decide +kernel
theorem dX3_setEvent_15 : decode cX3_setEvent 15 = .ok (.iconst 1, 1) := by decide +kernel
theorem dX3_setEvent_16 : decode cX3_setEvent 16 = .ok (.isub, 1) := by decide +kernel
theorem dX3_setEvent_17 : decode cX3_setEvent 17 = .ok (.aaload, 1) := by decide +kernel
theorem dX3_setEvent_18 : decode cX3_setEvent 18 = .ok (.iload_n 1, 1) := by decide +kernel
theorem dX3_setEvent_19 : decode cX3_setEvent 19 = .ok (.iload_n 2, 1) := by decide +kernel
theorem dX3_setEvent_20 : decode cX3_setEvent 20 = .ok (.iastore, 1) := by decide +kernel
theorem dX3_setEvent_21 : decode cX3_setEvent 21 = .ok (.return_, 1) := by decide +kernel
theorem dX3_openLoop_0 : decode cX3_openLoop 0 = .ok (.aload_n 0, 1) := by decide +kernel
theorem dX3_openLoop_1 : decode cX3_openLoop 1 = .ok (.getfield 30, 3) := by decide +kernel
theorem dX3_openLoop_4 : decode cX3_openLoop 4 = .ok (.bipush 40, 2) := by decide +kernel
theorem dX3_openLoop_6 : decode cX3_openLoop 6 = .ok (.if_icmp .ge 11, 3) := by decide +kernel
theorem dX3_openLoop_9 : decode cX3_openLoop 9 = .ok (.aload_n 0, 1) := by decide +kernel
theorem dX3_openLoop_10 : decode cX3_openLoop 10 = .ok (.getfield 54, 3) := by decide +kernel
theorem dX3_openLoop_13 : decode cX3_openLoop 13 = .ok (.iconst 4, 1) := by decide +kernel
theorem dX3_openLoop_14 : decode cX3_openLoop 14 = .ok (.if_icmp .lt 4, 3) := by decide +kernel
theorem dX3_openLoop_17 : decode cX3_openLoop 17 = .ok (.return_, 1) := by decide +kernel
theorem dX3_openLoop_18 : decode cX3_openLoop 18 = .ok (.aload_n 0, 1) := by decide +kernel
theorem dX3_openLoop_19 : decode cX3_openLoop 19 = .ok (.getfield 33, 3) := by decide +kernel
theorem dX3_openLoop_22 : decode cX3_openLoop 22 = .ok (.aload_n 0, 1) := by decide +kernel
theorem dX3_openLoop_23 : decode cX3_openLoop 23 = .ok (.getfield 30, 3) := by decide +kernel
theorem dX3_openLoop_26 : decode cX3_openLoop 26 = .ok (.iload_n 1, 1) := by decide +kernel
theorem dX3_openLoop_27 : decode cX3_openLoop 27 = .ok (.iastore, 1) := by decide +kernel
theorem dX3_openLoop_28 : decode cX3_openLoop 28 = .ok (.aload_n 0, 1) := by decide +kernel
theorem dX3_openLoop_29 : decode cX3_openLoop 29 = .ok (.getfield 36, 3) := by decide +kernel
theorem dX3_openLoop_32 : decode cX3_openLoop 32 = .ok (.aload_n 0, 1) := by decide +kernel
theorem dX3_openLoop_33 : decode cX3_openLoop 33 = .ok (.getfield 30, 3) := by decide +kernel
theorem dX3_openLoop_36 : decode cX3_openLoop 36 = .ok (.aload_n 0, 1) := by decide +kernel
theorem dX3_openLoop_37 : decode cX3_openLoop 37 = .ok (.getfield 54, 3) := by decide +kernel
theorem dX3_openLoop_40 : decode cX3_openLoop 40 = .ok (.iastore, 1) := by decide +kernel
theorem dX3_openLoop_41 : decode cX3_openLoop 41 = .ok (.aload_n 0, 1) := by decide +kernel
theorem dX3_openLoop_42 : decode cX3_openLoop 42 = .ok (.getfield 39, 3) := by decide +kernel
theorem dX3_openLoop_45 : decode cX3_openLoop 45 = .ok (.aload_n 0, 1) := by decide +kernel
theorem dX3_openLoop_46 : decode cX3_openLoop 46 = .ok (.getfield 30, 3) := by decide +kernel
theorem dX3_openLoop_49 : decode cX3_openLoop 49 = .ok (.aload_n 0, 1) := by decide +kernel
theorem dX3_openLoop_50 : decode cX3_openLoop 50 = .ok (.getfield 57, 3) := by decide +kernel
theorem dX3_openLoop_53 : decode cX3_openLoop 53 = .ok (.iastore, 1) := by decide +kernel
theorem dX3_openLoop_54 : decode cX3_openLoop 54 = .ok (.aload_n 0, 1) := by decide +kernel
theorem dX3_openLoop_55 : decode cX3_openLoop 55 = .ok (.getfield 42, 3) := by decide +kernel
theorem dX3_openLoop_58 : decode cX3_openLoop 58 = .ok (.aload_n 0, 1) := by decide +kernel
theorem dX3_openLoop_59 : decode cX3_openLoop 59 = .ok (.getfield 30, 3) := by decide +kernel
theorem dX3_openLoop_62 : decode cX3_openLoop 62 = .ok (.aload_n 0, 1) := by decide +kernel
theorem dX3_openLoop_63 : decode cX3_openLoop 63 = .ok (.getfield 9, 3) := by decide +kernel
theorem dX3_openLoop_66 : decode cX3_openLoop 66 = .ok (.iastore, 1) := by decide +kernel
theorem dX3_openLoop_67 : decode cX3_openLoop 67 = .ok (.aload_n 0, 1) := by decide +kernel
theorem dX3_openLoop_68 : decode cX3_openLoop 68 = .ok (.getfield 45, 3) := by decide +kernel
theorem dX3_openLoop_71 : decode cX3_openLoop 71 = .ok (.aload_n 0, 1) := by decide +kernel
theorem dX3_openLoop_72 : decode cX3_openLoop 72 = .ok (.getfield 30, 3) := by decide +kernel
theorem dX3_openLoop_75 : decode cX3_openLoop 75 = .ok (.aload_n 0, 1) := by decide +kernel
theorem dX3_openLoop_76 : decode cX3_openLoop 76 = .ok (.getfield 9, 3) := by decide +kernel
theorem dX3_openLoop_79 : decode cX3_openLoop 79 = .ok (.iastore, 1) := by decide +kernel
theorem dX3_openLoop_80 : decode cX3_openLoop 80 = .ok (.aload_n 0, 1) := by decide +kernel
theorem dX3_openLoop_81 : decode cX3_openLoop 81 = .ok (.getfield 48, 3) := by decide +kernel
theorem dX3_openLoop_84 : decode cX3_openLoop 84 = .ok (.aload_n 0, 1) := by decide +kernel
theorem dX3_openLoop_85 : decode cX3_openLoop 85 = .ok (.getfield 30, 3) := by decide +kernel
theorem dX3_openLoop_88 : decode cX3_openLoop 88 = .ok (.aload_n 0, 1) := by decide +kernel
theorem dX3_openLoop_89 : decode cX3_openLoop 89 = .ok (.getfield 60, 3) := by decide +kernel
theorem dX3_openLoop_92 : decode cX3_openLoop 92 = .ok (.iastore, 1) := by decide +kernel
theorem dX3_openLoop_93 : decode cX3_openLoop 93 = .ok (.aload_n 0, 1) := by decide +kernel
theorem dX3_openLoop_94 : decode cX3_openLoop 94 = .ok (.getfield 51, 3) := by decide +kernel
theorem dX3_openLoop_97 : decode cX3_openLoop 97 = .ok (.aload_n 0, 1) := by decide +kernel
theorem dX3_openLoop_98 : decode cX3_openLoop 98 = .ok (.getfield 54, 3) := by decide +kernel
theorem dX3_openLoop_101 : decode cX3_openLoop 101 = .ok (.aload_n 0, 1) := by decide +kernel
theorem dX3_openLoop_102 : decode cX3_openLoop 102 = .ok (.getfield 30, 3) := by decide +kernel
theorem dX3_openLoop_105 : decode cX3_openLoop 105 = .ok (.iastore, 1) := by decide +kernel
theorem dX3_openLoop_106 : decode cX3_openLoop 106 = .ok (.aload_n 0, 1) := by decide +kernel
theorem dX3_openLoop_107 : decode cX3_openLoop 107 = .ok (.dup, 1) := by decide +kernel
theorem dX3_openLoop_108 : decode cX3_openLoop 108 = .ok (.getfield 54, 3) := by decide +kernel
theorem dX3_openLoop_111 : decode cX3_openLoop 111 = .ok (.iconst 1, 1) := by decide +kernel
theorem dX3_openLoop_112 : decode cX3_openLoop 112 = .ok (.iadd, 1) := by decide +kernel
theorem dX3_openLoop_113 : decode cX3_openLoop 113 = .ok (.putfield 54, 3) := by decide +kernel
theorem dX3_openLoop_116 : decode cX3_openLoop 116 = .ok (.aload_n 0, 1) := by decide +kernel
theorem dX3_openLoop_117 : decode cX3_openLoop 117 = .ok (.dup, 1) := by decide +kernel
theorem dX3_openLoop_118 : decode cX3_openLoop 118 = .ok (.getfield 57, 3) := by decide +kernel
theorem dX3_openLoop_121 : decode cX3_openLoop 121 = .ok (.iload_n 1, 1) := by decide +kernel
theorem dX3_openLoop_122 : decode cX3_openLoop 122 = .ok (.imul, 1) := by decide +kernel
theorem dX3_openLoop_123 : decode cX3_openLoop 123 = .ok (.putfield 57, 3) := by decide +kernel
theorem dX3_openLoop_126 : decode cX3_openLoop 126 = .ok (.aload_n 0, 1) := by decide +kernel
theorem dX3_openLoop_127 : decode cX3_openLoop 127 = .ok (.dup, 1) := by decide +kernel
theorem dX3_openLoop_128 : decode cX3_openLoop 128 = .ok (.getfield 30, 3) := by decide +kernel
theorem dX3_openLoop_131 : decode cX3_openLoop 131 = .ok (.iconst 1, 1) := by decide +kernel
theorem dX3_openLoop_132 : decode cX3_openLoop 132 = .ok (.iadd, 1) := by decide +kernel
theorem dX3_openLoop_133 : decode cX3_openLoop 133 = .ok (.putfield 30, 3) := by decide +kernel
theorem dX3_openLoop_136 : decode cX3_openLoop 136 = .ok (.return_, 1) := by decide +kernel
theorem dX3_closeLoop_0 : decode cX3_closeLoop 0 = .ok (.aload_n 0, 1) := by decide +kernel
theorem dX3_closeLoop_1 : decode cX3_closeLoop 1 = .ok (.getfield 54, 3) := by decide +kernel
theorem dX3_closeLoop_4 : decode cX3_closeLoop 4 = .ok (.iconst 1, 1) := by decide +kernel
theorem dX3_closeLoop_5 : decode cX3_closeLoop 5 = .ok (.if_icmp .ge 4, 3) := by decide +kernel
theorem dX3_closeLoop_8 : decode cX3_closeLoop 8 = .ok (.return_, 1) := by decide +kernel
theorem dX3_closeLoop_9 : decode cX3_closeLoop 9 = .ok (.aload_n 0, 1) := by decide +kernel
theorem dX3_closeLoop_10 : decode cX3_closeLoop 10 = .ok (.dup, 1) := by decide +kernel
theorem dX3_closeLoop_11 : decode cX3_closeLoop 11 = .ok (.getfield 54, 3) := by decide +kernel
theorem dX3_closeLoop_14 : decode cX3_closeLoop 14 = .ok (.iconst 1, 1) := by decide +kernel
theorem dX3_closeLoop_15 : decode cX3_closeLoop 15 = .ok (.isub, 1) := by decide +kernel
theorem dX3_closeLoop_16 : decode cX3_closeLoop 16 = .ok (.putfield 54, 3) := by decide +kernel
theorem dX3_closeLoop_19 : decode cX3_closeLoop 19 = .ok (.aload_n 0, 1) := by decide +kernel
theorem dX3_closeLoop_20 : decode cX3_closeLoop 20 = .ok (.getfield 51, 3) := by decide +kernel
theorem dX3_closeLoop_23 : decode cX3_closeLoop 23 = .ok (.aload_n 0, 1) := by decide +kernel
theorem dX3_closeLoop_24 : decode cX3_closeLoop 24 = .ok (.getfield 54, 3) := by decide +kernel
theorem dX3_closeLoop_27 : decode cX3_closeLoop 27 = .ok (.iaload, 1) := by decide +kernel
theorem dX3_closeLoop_28 : decode cX3_closeLoop 28 = .ok (.istore_n 1, 1) := by decide +kernel
theorem dX3_closeLoop_29 : decode cX3_closeLoop 29 = .ok (.aload_n 0, 1) := by decide +kernel
theorem dX3_closeLoop_30 : decode cX3_closeLoop 30 = .ok (.aload_n 0, 1) := by decide +kernel
theorem dX3_closeLoop_31 : decode cX3_closeLoop 31 = .ok (.getfield 39, 3) := by decide +kernel
theorem dX3_closeLoop_34 : decode cX3_closeLoop 34 = .ok (.iload_n 1, 1) := by decide +kernel
theorem dX3_closeLoop_35 : decode cX3_closeLoop 35 = .ok (.iaload, 1) := by decide +kernel
theorem dX3_closeLoop_36 : decode cX3_closeLoop 36 = .ok (.putfield 57, 3) := by decide +kernel
theorem dX3_closeLoop_39 : decode cX3_closeLoop 39 = .ok (.aload_n 0, 1) := by decide +kernel
theorem dX3_closeLoop_40 : decode cX3_closeLoop 40 = .ok (.getfield 45, 3) := by decide +kernel
theorem dX3_closeLoop_43 : decode cX3_closeLoop 43 = .ok (.iload_n 1, 1) := by decide +kernel
theorem dX3_closeLoop_44 : decode cX3_closeLoop 44 = .ok (.aload_n 0, 1) := by decide +kernel
theorem dX3_closeLoop_45 : decode cX3_closeLoop 45 = .ok (.getfield 9, 3) := by decide +kernel
theorem dX3_closeLoop_48 : decode cX3_closeLoop 48 = .ok (.iastore, 1) := by decide +kernel
theorem dX3_closeLoop_49 : decode cX3_closeLoop 49 = .ok (.aload_n 0, 1) := by decide +kernel
theorem dX3_closeLoop_50 : decode cX3_closeLoop 50 = .ok (.aload_n 0, 1) := by decide +kernel
theorem dX3_closeLoop_51 : decode cX3_closeLoop 51 = .ok (.getfield 48, 3) := by decide +kernel
theorem dX3_closeLoop_54 : decode cX3_closeLoop 54 = .ok (.iload_n 1, 1) := by decide +kernel
theorem dX3_closeLoop_55 : decode cX3_closeLoop 55 = .ok (.iaload, 1) := by decide +kernel
theorem dX3_closeLoop_56 : decode cX3_closeLoop 56 = .ok (.aload_n 0, 1) := by decide +kernel
theorem dX3_closeLoop_57 : decode cX3_closeLoop 57 = .ok (.getfield 33, 3) := by decide +kernel
theorem dX3_closeLoop_60 : decode cX3_closeLoop 60 = .ok (.iload_n 1, 1) := by decide +kernel
theorem dX3_closeLoop_61 : decode cX3_closeLoop 61 = .ok (.iaload, 1) := by decide +kernel
theorem dX3_closeLoop_62 : decode cX3_closeLoop 62 = .ok (.invokevirtual 74, 3) := by decide +kernel
theorem dX3_closeLoop_65 : decode cX3_closeLoop 65 = .ok (.return_, 1) := by decide +kernel
theorem dX3_repeatSteps_0 : decode cX3_repeatSteps 0 = .ok (.aload_n 0, 1) := by decide +kernel
theorem dX3_repeatSteps_1 : decode cX3_repeatSteps 1 = .ok (.getfield 60, 3) := by decide +kernel
theorem dX3_repeatSteps_4 : decode cX3_repeatSteps 4 = .ok (.iload_n 1, 1) := by decide +kernel
theorem dX3_repeatSteps_5 : decode cX3_repeatSteps 5 = .ok (.isub, 1) := by decide +kernel
theorem dX3_repeatSteps_6 : decode cX3_repeatSteps 6 = .ok (.istore_n 3, 1) := by decide +kernel
theorem dX3_repeatSteps_7 : decode cX3_repeatSteps 7 = .ok (.iload_n 1, 1) := by decide +kernel
theorem dX3_repeatSteps_8 : decode cX3_repeatSteps 8 = .ok (.iload_n 3, 1) := by decide +kernel
theorem dX3_repeatSteps_9 : decode cX3_repeatSteps 9 = .ok (.iload_n 2, 1) := by decide +kernel
theorem dX3_repeatSteps_10 : decode cX3_repeatSteps 10 = .ok (.imul, 1) := by decide +kernel
theorem dX3_repeatSteps_11 : decode cX3_repeatSteps 11 = .ok (.iadd, 1) := by decide +kernel
theorem dX3_repeatSteps_12 : decode cX3_repeatSteps 12 = .ok (.istore 4, 2) := by decide +kernel
theorem dX3_repeatSteps_14 : decode cX3_repeatSteps 14 = .ok (.iload 4, 2) := by decide +kernel
theorem dX3_repeatSteps_16 : decode cX3_repeatSteps 16 = .ok (.sipush 6000, 3) := by decide +kernel
theorem dX3_repeatSteps_19 : decode cX3_repeatSteps 19 = .ok (.if_icmp .le 9, 3) := by decide +kernel
theorem dX3_repeatSteps_22 : decode cX3_repeatSteps 22 = .ok (.aload_n 0, 1) := by decide +kernel
theorem dX3_repeatSteps_23 : decode cX3_repeatSteps 23 = .ok (.iconst 1, 1) := by decide +kernel
theorem dX3_repeatSteps_24 : decode cX3_repeatSteps 24 = .ok (.putfield 63, 3) := by decide +kernel
theorem dX3_repeatSteps_27 : decode cX3_repeatSteps 27 = .ok (.return_, 1) := by decide +kernel
theorem dX3_repeatSteps_28 : decode cX3_repeatSteps 28 = .ok (.aload_n 0, 1) := by decide +kernel
theorem dX3_repeatSteps_29 : decode cX3_repeatSteps 29 = .ok (.getfield 60, 3) := by decide +kernel
theorem dX3_repeatSteps_32 : decode cX3_repeatSteps 32 = .ok (.istore 5, 2) := by decide +kernel
theorem dX3_repeatSteps_34 : decode cX3_repeatSteps 34 = .ok (.iload 5, 2) := by decide +kernel
theorem dX3_repeatSteps_36 : decode cX3_repeatSteps 36 = .ok (.iload 4, 2) := by decide +kernel
theorem dX3_repeatSteps_38 : decode cX3_repeatSteps 38 = .ok (.if_icmp .ge 25, 3) := by decide +kernel
theorem dX3_repeatSteps_41 : decode cX3_repeatSteps 41 = .ok (.aload_n 0, 1) := by decide +kernel
theorem dX3_repeatSteps_42 : decode cX3_repeatSteps 42 = .ok (.getfield 67, 3) := by decide +kernel
theorem dX3_repeatSteps_45 : decode cX3_repeatSteps 45 = .ok (.iload 5, 2) := by decide +kernel
theorem dX3_repeatSteps_47 : decode cX3_repeatSteps 47 = .ok (.aload_n 0, 1) := by decide +kernel
theorem dX3_repeatSteps_48 : decode cX3_repeatSteps 48 = .ok (.getfield 67, 3) := by decide +kernel
theorem dX3_repeatSteps_51 : decode cX3_repeatSteps 51 = .ok (.iload 5, 2) := by decide +kernel
theorem dX3_repeatSteps_53 : decode cX3_repeatSteps 53 = .ok (.iload_n 3, 1) := by decide +kernel
theorem dX3_repeatSteps_54 : decode cX3_repeatSteps 54 = .ok (.isub, 1) := by decide +kernel
theorem dX3_repeatSteps_55 : decode cX3_repeatSteps 55 = .ok (.baload, 1) := by decide +kernel
theorem dX3_repeatSteps_56 : decode cX3_repeatSteps 56 = .ok (.bastore, 1) := by decide +kernel
theorem dX3_repeatSteps_57 : decode cX3_repeatSteps 57 = .ok (.iinc 5 1, 3) := by decide +kernel
theorem dX3_repeatSteps_60 : decode cX3_repeatSteps 60 = .ok (.goto (-26), 3) := by decide +kernel
theorem dX3_repeatSteps_63 : decode cX3_repeatSteps 63 = .ok (.aload_n 0, 1) := by decide +kernel
theorem dX3_repeatSteps_64 : decode cX3_repeatSteps 64 = .ok (.iload 4, 2) := by decide +kernel
theorem dX3_repeatSteps_66 : decode cX3_repeatSteps 66 = .ok (.putfield 60, 3) := by decide +kernel
theorem dX3_repeatSteps_69 : decode cX3_repeatSteps 69 = .ok (.return_, 1) := by decide +kernel
theorem dX3_timeSteps_0 : decode cX3_timeSteps 0 = .ok (.aload_n 0, 1) := by decide +kernel
theorem dX3_timeSteps_1 : decode cX3_timeSteps 1 = .ok (.getfield 71, 3) := by decide +kernel
theorem dX3_timeSteps_4 : decode cX3_timeSteps 4 = .ok (.iconst 0, 1) := by decide +kernel
theorem dX3_timeSteps_5 : decode cX3_timeSteps 5 = .ok (.iconst 0, 1) := by decide +kernel
theorem dX3_timeSteps_6 : decode cX3_timeSteps 6 = .ok (.iastore, 1) := by decide +kernel
theorem dX3_timeSteps_7 : decode cX3_timeSteps 7 = .ok (.iconst 0, 1) := by decide +kernel
theorem dX3_timeSteps_8 : decode cX3_timeSteps 8 = .ok (.istore_n 1, 1) := by decide +kernel
theorem dX3_timeSteps_9 : decode cX3_timeSteps 9 = .ok (.iload_n 1, 1) := by decide +kernel
theorem dX3_timeSteps_10 : decode cX3_timeSteps 10 = .ok (.aload_n 0, 1) := by decide +kernel
theorem dX3_timeSteps_11 : decode cX3_timeSteps 11 = .ok (.getfield 60, 3) := by decide +kernel
theorem dX3_timeSteps_14 : decode cX3_timeSteps 14 = .ok (.if_icmp .ge 35, 3) := by decide +kernel
theorem dX3_timeSteps_17 : decode cX3_timeSteps 17 = .ok (.aload_n 0, 1) := by decide +kernel
theorem dX3_timeSteps_18 : decode cX3_timeSteps 18 = .ok (.getfield 71, 3) := by decide +kernel
theorem dX3_timeSteps_21 : decode cX3_timeSteps 21 = .ok (.iload_n 1, 1) := by decide +kernel
theorem dX3_timeSteps_22 : decode cX3_timeSteps 22 = .ok (.iconst 1, 1) := by decide +kernel
theorem dX3_timeSteps_23 : decode cX3_timeSteps 23 = .ok (.iadd, 1) := by decide +kernel
theorem dX3_timeSteps_24 : decode cX3_timeSteps 24 = .ok (.aload_n 0, 1) := by decide +kernel
theorem dX3_timeSteps_25 : decode cX3_timeSteps 25 = .ok (.getfield 71, 3) := by decide +kernel
theorem dX3_timeSteps_28 : decode cX3_timeSteps 28 = .ok (.iload_n 1, 1) := by decide +kernel
theorem dX3_timeSteps_29 : decode cX3_timeSteps 29 = .ok (.iaload, 1) := by decide +kernel
theorem dX3_timeSteps_30 : decode cX3_timeSteps 30 = .ok (.aload_n 0, 1) := by decide +kernel
theorem dX3_timeSteps_31 : decode cX3_timeSteps 31 = .ok (.getfield 15, 3) := by decide +kernel
theorem dX3_timeSteps_34 : decode cX3_timeSteps 34 = .ok (.aload_n 0, 1) := by decide +kernel
theorem dX3_timeSteps_35 : decode cX3_timeSteps 35 = .ok (.getfield 67, 3) := by decide +kernel
theorem dX3_timeSteps_38 : decode cX3_timeSteps 38 = .ok (.iload_n 1, 1) := by decide +kernel
theorem dX3_timeSteps_39 : decode cX3_timeSteps 39 = .ok (.baload, 1) := by decide +kernel
theorem dX3_timeSteps_40 : decode cX3_timeSteps 40 = .ok (.iaload, 1) := by decide +kernel
theorem dX3_timeSteps_41 : decode cX3_timeSteps 41 = .ok (.iadd, 1) := by decide +kernel
theorem dX3_timeSteps_42 : decode cX3_timeSteps 42 = .ok (.iastore, 1) := by decide +kernel
theorem dX3_timeSteps_43 : decode cX3_timeSteps 43 = .ok (.iinc 1 1, 3) := by decide +kernel
theorem dX3_timeSteps_46 : decode cX3_timeSteps 46 = .ok (.goto (-37), 3) := by decide +kernel
theorem dX3_timeSteps_49 : decode cX3_timeSteps 49 = .ok (.return_, 1) := by decide +kernel
theorem dX3_hasLine_0 : decode cX3_hasLine 0 = .ok (.iload_n 1, 1) := by decide +kernel
theorem dX3_hasLine_1 : decode cX3_hasLine 1 = .ok (.ifCond .lt 15, 3) := by decide +kernel
theorem dX3_hasLine_4 : decode cX3_hasLine 4 = .ok (.iload_n 1, 1) := by decide +kernel
theorem dX3_hasLine_5 : decode cX3_hasLine 5 = .ok (.aload_n 0, 1) := by decide +kernel
theorem dX3_hasLine_6 : decode cX3_hasLine 6 = .ok (.getfield 9, 3) := by decide +kernel
theorem dX3_hasLine_9 : decode cX3_hasLine 9 = .ok (.if_icmp .ge 7, 3) := by decide +kernel
theorem dX3_hasLine_12 : decode cX3_hasLine 12 = .ok (.iconst 1, 1) := by decide +kernel
theorem dX3_hasLine_13 : decode cX3_hasLine 13 = .ok (.goto 4, 3) := by decide +kernel
theorem dX3_hasLine_16 : decode cX3_hasLine 16 = .ok (.iconst 0, 1) := by decide +kernel
theorem dX3_hasLine_17 : decode cX3_hasLine 17 = .ok (.ireturn, 1) := by decide +kernel
theorem dX3_hasLoop_0 : decode cX3_hasLoop 0 = .ok (.iload_n 1, 1) := by decide +kernel
theorem dX3_hasLoop_1 : decode cX3_hasLoop 1 = .ok (.ifCond .lt 15, 3) := by decide +kernel
theorem dX3_hasLoop_4 : decode cX3_hasLoop 4 = .ok (.iload_n 1, 1) := by decide +kernel
theorem dX3_hasLoop_5 : decode cX3_hasLoop 5 = .ok (.aload_n 0, 1) := by decide +kernel
theorem dX3_hasLoop_6 : decode cX3_hasLoop 6 = .ok (.getfield 30, 3) := by decide +kernel
theorem dX3_hasLoop_9 : decode cX3_hasLoop 9 = .ok (.if_icmp .ge 7, 3) := by decide +kernel
theorem dX3_hasLoop_12 : decode cX3_hasLoop 12 = .ok (.iconst 1, 1) := by decide +kernel
theorem dX3_hasLoop_13 : decode cX3_hasLoop 13 = .ok (.goto 4, 3) := by decide +kernel
theorem dX3_hasLoop_16 : decode cX3_hasLoop 16 = .ok (.iconst 0, 1) := by decide +kernel
theorem dX3_hasLoop_17 : decode cX3_hasLoop 17 = .ok (.ireturn, 1) := by decide +kernel
theorem dX3_allTicks_0 : decode cX3_allTicks 0 = .ok (.aload_n 0, 1) := by decide +kernel
theorem dX3_allTicks_1 : decode cX3_allTicks 1 = .ok (.getfield 71, 3) := by decide +kernel
theorem dX3_allTicks_4 : decode cX3_allTicks 4 = .ok (.aload_n 0, 1) := by decide +kernel
theorem dX3_allTicks_5 : decode cX3_allTicks 5 = .ok (.getfield 60, 3) := by decide +kernel
theorem dX3_allTicks_8 : decode cX3_allTicks 8 = .ok (.iaload, 1) := by decide +kernel
theorem dX3_allTicks_9 : decode cX3_allTicks 9 = .ok (.ireturn, 1) := by decide +kernel
theorem dX3_sliceOf_0 : decode cX3_sliceOf 0 = .ok (.iload_n 2, 1) := by decide +kernel
theorem dX3_sliceOf_1 : decode cX3_sliceOf 1 = .ok (.iconst 1, 1) := by decide +kernel
theorem dX3_sliceOf_2 : decode cX3_sliceOf 2 = .ok (.if_icmp .ge 7, 3) := by decide +kernel
theorem dX3_sliceOf_5 : decode cX3_sliceOf 5 = .ok (.iconst 0, 1) := by decide +kernel
theorem dX3_sliceOf_6 : decode cX3_sliceOf 6 = .ok (.goto 11, 3) := by decide +kernel
theorem dX3_sliceOf_9 : decode cX3_sliceOf 9 = .ok (.aload_n 0, 1) := by decide +kernel
theorem dX3_sliceOf_10 : decode cX3_sliceOf 10 = .ok (.getfield 71, 3) := by decide +kernel
theorem dX3_sliceOf_13 : decode cX3_sliceOf 13 = .ok (.iload_n 1, 1) := by decide +kernel
theorem dX3_sliceOf_14 : decode cX3_sliceOf 14 = .ok (.iaload, 1) := by decide +kernel
theorem dX3_sliceOf_15 : decode cX3_sliceOf 15 = .ok (.iload_n 2, 1) := by decide +kernel
theorem dX3_sliceOf_16 : decode cX3_sliceOf 16 = .ok (.idiv, 1) := by decide +kernel
theorem dX3_sliceOf_17 : decode cX3_sliceOf 17 = .ok (.ireturn, 1) := by decide +kernel
theorem dX3_made_0 : decode cX3_made 0 = .ok (.iload_n 1, 1) := by decide +kernel
theorem dX3_made_1 : decode cX3_made 1 = .ok (.aload_n 0, 1) := by decide +kernel
theorem dX3_made_2 : decode cX3_made 2 = .ok (.getfield 9, 3) := by decide +kernel
theorem dX3_made_5 : decode cX3_made 5 = .ok (.if_icmp .ge 21, 3) := by decide +kernel
theorem dX3_made_8 : decode cX3_made 8 = .ok (.aload_n 0, 1) := by decide +kernel
theorem dX3_made_9 : decode cX3_made 9 = .ok (.getfield 19, 3) := by decide +kernel
theorem dX3_made_12 : decode cX3_made 12 = .ok (.iload_n 1, 1) := by decide +kernel
theorem dX3_made_13 : decode cX3_made 13 = .ok (.iaload, 1) := by decide +kernel
theorem dX3_made_14 : decode cX3_made 14 = .ok (.aload_n 0, 1) := by decide +kernel
theorem dX3_made_15 : decode cX3_made 15 = .ok (.getfield 27, 3) := by decide +kernel
theorem dX3_made_18 : decode cX3_made 18 = .ok (.iload_n 1, 1) := by decide +kernel
theorem dX3_made_19 : decode cX3_made 19 = .ok (.aaload, 1) := by decide +kernel
theorem dX3_made_20 : decode cX3_made 20 = .ok (.iload_n 2, 1) := by decide +kernel
theorem dX3_made_21 : decode cX3_made 21 = .ok (.iaload, 1) := by decide +kernel
theorem dX3_made_22 : decode cX3_made 22 = .ok (.imul, 1) := by decide +kernel
theorem dX3_made_23 : decode cX3_made 23 = .ok (.goto 4, 3) := by decide +kernel
theorem dX3_made_26 : decode cX3_made 26 = .ok (.iconst 0, 1) := by decide +kernel
theorem dX3_made_27 : decode cX3_made 27 = .ok (.ireturn, 1) := by decide +kernel
theorem dX3_total_0 : decode cX3_total 0 = .ok (.aload_n 0, 1) := by decide +kernel
theorem dX3_total_1 : decode cX3_total 1 = .ok (.iconst 0, 1) := by decide +kernel
theorem dX3_total_2 : decode cX3_total 2 = .ok (.aload_n 0, 1) := by decide +kernel
theorem dX3_total_3 : decode cX3_total 3 = .ok (.getfield 9, 3) := by decide +kernel
theorem dX3_total_6 : decode cX3_total 6 = .ok (.iload_n 1, 1) := by decide +kernel
theorem dX3_total_7 : decode cX3_total 7 = .ok (.invokevirtual 78, 3) := by decide +kernel
theorem dX3_total_10 : decode cX3_total 10 = .ok (.ireturn, 1) := by decide +kernel
theorem dX3_totalIn_0 : decode cX3_totalIn 0 = .ok (.aload_n 0, 1) := by decide +kernel
theorem dX3_totalIn_1 : decode cX3_totalIn 1 = .ok (.aload_n 0, 1) := by decide +kernel
theorem dX3_totalIn_2 : decode cX3_totalIn 2 = .ok (.getfield 42, 3) := by decide +kernel
theorem dX3_totalIn_5 : decode cX3_totalIn 5 = .ok (.iload_n 1, 1) := by decide +kernel
theorem dX3_totalIn_6 : decode cX3_totalIn 6 = .ok (.iaload, 1) := by decide +kernel
theorem dX3_totalIn_7 : decode cX3_totalIn 7 = .ok (.aload_n 0, 1) := by decide +kernel
theorem dX3_totalIn_8 : decode cX3_totalIn 8 = .ok (.getfield 45, 3) := by decide +kernel
theorem dX3_totalIn_11 : decode cX3_totalIn 11 = .ok (.iload_n 1, 1) := by decide +kernel
theorem dX3_totalIn_12 : decode cX3_totalIn 12 = .ok (.iaload, 1) := by decide +kernel
theorem dX3_totalIn_13 : decode cX3_totalIn 13 = .ok (.iload_n 2, 1) := by decide +kernel
theorem dX3_totalIn_14 : decode cX3_totalIn 14 = .ok (.invokevirtual 78, 3) := by decide +kernel
theorem dX3_totalIn_17 : decode cX3_totalIn 17 = .ok (.ireturn, 1) := by decide +kernel
theorem dX3_totalBetween_0 : decode cX3_totalBetween 0 = .ok (.iconst 0, 1) := by decide +kernel
theorem dX3_totalBetween_1 : decode cX3_totalBetween 1 = .ok (.istore 4, 2) := by decide +kernel
theorem dX3_totalBetween_3 : decode cX3_totalBetween 3 = .ok (.iload_n 1, 1) := by decide +kernel
theorem dX3_totalBetween_4 : decode cX3_totalBetween 4 = .ok (.istore 5, 2) := by decide +kernel
theorem dX3_totalBetween_6 : decode cX3_totalBetween 6 = .ok (.iload 5, 2) := by decide +kernel
theorem dX3_totalBetween_8 : decode cX3_totalBetween 8 = .ok (.iload_n 2, 1) := by decide +kernel
theorem dX3_totalBetween_9 : decode cX3_totalBetween 9 = .ok (.if_icmp .ge 31, 3) := by decide +kernel
theorem dX3_totalBetween_12 : decode cX3_totalBetween 12 = .ok (.iload 4, 2) := by decide +kernel
theorem dX3_totalBetween_14 : decode cX3_totalBetween 14 = .ok (.aload_n 0, 1) := by decide +kernel
theorem dX3_totalBetween_15 : decode cX3_totalBetween 15 = .ok (.getfield 19, 3) := by decide +kernel
theorem dX3_totalBetween_18 : decode cX3_totalBetween 18 = .ok (.iload 5, 2) := by decide +kernel
theorem dX3_totalBetween_20 : decode cX3_totalBetween 20 = .ok (.iaload, 1) := by decide +kernel
theorem dX3_totalBetween_21 : decode cX3_totalBetween 21 = .ok (.aload_n 0, 1) := by decide +kernel
theorem dX3_totalBetween_22 : decode cX3_totalBetween 22 = .ok (.getfield 27, 3) := by decide +kernel
theorem dX3_totalBetween_25 : decode cX3_totalBetween 25 = .ok (.iload 5, 2) := by decide +kernel
theorem dX3_totalBetween_27 : decode cX3_totalBetween 27 = .ok (.aaload, 1) := by decide +kernel
theorem dX3_totalBetween_28 : decode cX3_totalBetween 28 = .ok (.iload_n 3, 1) := by decide +kernel
theorem dX3_totalBetween_29 : decode cX3_totalBetween 29 = .ok (.iaload, 1) := by decide +kernel
theorem dX3_totalBetween_30 : decode cX3_totalBetween 30 = .ok (.imul, 1) := by decide +kernel
theorem dX3_totalBetween_31 : decode cX3_totalBetween 31 = .ok (.iadd, 1) := by decide +kernel
theorem dX3_totalBetween_32 : decode cX3_totalBetween 32 = .ok (.istore 4, 2) := by decide +kernel
theorem dX3_totalBetween_34 : decode cX3_totalBetween 34 = .ok (.iinc 5 1, 3) := by decide +kernel
theorem dX3_totalBetween_37 : decode cX3_totalBetween 37 = .ok (.goto (-31), 3) := by decide +kernel
theorem dX3_totalBetween_40 : decode cX3_totalBetween 40 = .ok (.iload 4, 2) := by decide +kernel
theorem dX3_totalBetween_42 : decode cX3_totalBetween 42 = .ok (.ireturn, 1) := by decide +kernel
theorem dX3_linesIn_0 : decode cX3_linesIn 0 = .ok (.iconst 1, 1) := by decide +kernel
theorem dX3_linesIn_1 : decode cX3_linesIn 1 = .ok (.aload_n 0, 1) := by decide +kernel
theorem dX3_linesIn_2 : decode cX3_linesIn 2 = .ok (.getfield 45, 3) := by decide +kernel
theorem dX3_linesIn_5 : decode cX3_linesIn 5 = .ok (.iload_n 1, 1) := by decide +kernel
theorem dX3_linesIn_6 : decode cX3_linesIn 6 = .ok (.iaload, 1) := by decide +kernel
theorem dX3_linesIn_7 : decode cX3_linesIn 7 = .ok (.ishl, 1) := by decide +kernel
theorem dX3_linesIn_8 : decode cX3_linesIn 8 = .ok (.iconst 1, 1) := by decide +kernel
theorem dX3_linesIn_9 : decode cX3_linesIn 9 = .ok (.aload_n 0, 1) := by decide +kernel
theorem dX3_linesIn_10 : decode cX3_linesIn 10 = .ok (.getfield 42, 3) := by decide +kernel
theorem dX3_linesIn_13 : decode cX3_linesIn 13 = .ok (.iload_n 1, 1) := by decide +kernel
theorem dX3_linesIn_14 : decode cX3_linesIn 14 = .ok (.iaload, 1) := by decide +kernel
theorem dX3_linesIn_15 : decode cX3_linesIn 15 = .ok (.ishl, 1) := by decide +kernel
theorem dX3_linesIn_16 : decode cX3_linesIn 16 = .ok (.isub, 1) := by decide +kernel
theorem dX3_linesIn_17 : decode cX3_linesIn 17 = .ok (.ireturn, 1) := by decide +kernel
theorem dX3_stepsIn_0 : decode cX3_stepsIn 0 = .ok (.iconst 0, 1) := by decide +kernel
theorem dX3_stepsIn_1 : decode cX3_stepsIn 1 = .ok (.istore_n 2, 1) := by decide +kernel
theorem dX3_stepsIn_2 : decode cX3_stepsIn 2 = .ok (.aload_n 0, 1) := by decide +kernel
theorem dX3_stepsIn_3 : decode cX3_stepsIn 3 = .ok (.getfield 42, 3) := by decide +kernel
theorem dX3_stepsIn_6 : decode cX3_stepsIn 6 = .ok (.iload_n 1, 1) := by decide +kernel
theorem dX3_stepsIn_7 : decode cX3_stepsIn 7 = .ok (.iaload, 1) := by decide +kernel
theorem dX3_stepsIn_8 : decode cX3_stepsIn 8 = .ok (.istore_n 3, 1) := by decide +kernel
theorem dX3_stepsIn_9 : decode cX3_stepsIn 9 = .ok (.iload_n 3, 1) := by decide +kernel
theorem dX3_stepsIn_10 : decode cX3_stepsIn 10 = .ok (.aload_n 0, 1) := by decide +kernel
theorem dX3_stepsIn_11 : decode cX3_stepsIn 11 = .ok (.getfield 45, 3) := by decide +kernel
theorem dX3_stepsIn_14 : decode cX3_stepsIn 14 = .ok (.iload_n 1, 1) := by decide +kernel
theorem dX3_stepsIn_15 : decode cX3_stepsIn 15 = .ok (.iaload, 1) := by decide +kernel
theorem dX3_stepsIn_16 : decode cX3_stepsIn 16 = .ok (.if_icmp .ge 18, 3) := by decide +kernel
theorem dX3_stepsIn_19 : decode cX3_stepsIn 19 = .ok (.iload_n 2, 1) := by decide +kernel
theorem dX3_stepsIn_20 : decode cX3_stepsIn 20 = .ok (.aload_n 0, 1) := by decide +kernel
theorem dX3_stepsIn_21 : decode cX3_stepsIn 21 = .ok (.getfield 19, 3) := by decide +kernel
theorem dX3_stepsIn_24 : decode cX3_stepsIn 24 = .ok (.iload_n 3, 1) := by decide +kernel
theorem dX3_stepsIn_25 : decode cX3_stepsIn 25 = .ok (.iaload, 1) := by decide +kernel
theorem dX3_stepsIn_26 : decode cX3_stepsIn 26 = .ok (.iadd, 1) := by decide +kernel
theorem dX3_stepsIn_27 : decode cX3_stepsIn 27 = .ok (.istore_n 2, 1) := by decide +kernel
theorem dX3_stepsIn_28 : decode cX3_stepsIn 28 = .ok (.iinc 3 1, 3) := by decide +kernel
theorem dX3_stepsIn_31 : decode cX3_stepsIn 31 = .ok (.goto (-22), 3) := by decide +kernel
theorem dX3_stepsIn_34 : decode cX3_stepsIn 34 = .ok (.iload_n 2, 1) := by decide +kernel
theorem dX3_stepsIn_35 : decode cX3_stepsIn 35 = .ok (.ireturn, 1) := by decide +kernel
theorem dX3_linesThatMake_0 : decode cX3_linesThatMake 0 = .ok (.iconst 0, 1) := by decide +kernel
theorem dX3_linesThatMake_1 : decode cX3_linesThatMake 1 = .ok (.istore_n 2, 1) := by decide +kernel
theorem dX3_linesThatMake_2 : decode cX3_linesThatMake 2 = .ok (.iconst 0, 1) := by decide +kernel
theorem dX3_linesThatMake_3 : decode cX3_linesThatMake 3 = .ok (.istore_n 3, 1) := by decide +kernel
theorem dX3_linesThatMake_4 : decode cX3_linesThatMake 4 = .ok (.iload_n 3, 1) := by decide +kernel
theorem dX3_linesThatMake_5 : decode cX3_linesThatMake 5 = .ok (.aload_n 0, 1) := by decide +kernel
theorem dX3_linesThatMake_6 : decode cX3_linesThatMake 6 = .ok (.getfield 9, 3) := by decide +kernel
theorem dX3_linesThatMake_9 : decode cX3_linesThatMake 9 = .ok (.if_icmp .ge 26, 3) := by decide +kernel
theorem dX3_linesThatMake_12 : decode cX3_linesThatMake 12 = .ok (.aload_n 0, 1) := by decide +kernel
theorem dX3_linesThatMake_13 : decode cX3_linesThatMake 13 = .ok (.getfield 27, 3) := by decide +kernel
theorem dX3_linesThatMake_16 : decode cX3_linesThatMake 16 = .ok (.iload_n 3, 1) := by decide +kernel
theorem dX3_linesThatMake_17 : decode cX3_linesThatMake 17 = .ok (.aaload, 1) := by decide +kernel
theorem dX3_linesThatMake_18 : decode cX3_linesThatMake 18 = .ok (.iload_n 1, 1) := by decide +kernel
theorem dX3_linesThatMake_19 : decode cX3_linesThatMake 19 = .ok (.iaload, 1) := by decide +kernel
theorem dX3_linesThatMake_20 : decode cX3_linesThatMake 20 = .ok (.ifCond .le 9, 3) := by decide +kernel
theorem dX3_linesThatMake_23 : decode cX3_linesThatMake 23 = .ok (.iload_n 2, 1) := by decide +kernel
theorem dX3_linesThatMake_24 : decode cX3_linesThatMake 24 = .ok (.iconst 1, 1) := by decide +kernel
theorem dX3_linesThatMake_25 : decode cX3_linesThatMake 25 = .ok (.iload_n 3, 1) := by decide +kernel
theorem dX3_linesThatMake_26 : decode cX3_linesThatMake 26 = .ok (.ishl, 1) := by decide +kernel
theorem dX3_linesThatMake_27 : decode cX3_linesThatMake 27 = .ok (.ior, 1) := by decide +kernel
theorem dX3_linesThatMake_28 : decode cX3_linesThatMake 28 = .ok (.istore_n 2, 1) := by decide +kernel
theorem dX3_linesThatMake_29 : decode cX3_linesThatMake 29 = .ok (.iinc 3 1, 3) := by decide +kernel
theorem dX3_linesThatMake_32 : decode cX3_linesThatMake 32 = .ok (.goto (-28), 3) := by decide +kernel
theorem dX3_linesThatMake_35 : decode cX3_linesThatMake 35 = .ok (.iload_n 2, 1) := by decide +kernel
theorem dX3_linesThatMake_36 : decode cX3_linesThatMake 36 = .ok (.ireturn, 1) := by decide +kernel
theorem dX3_mostOf_0 : decode cX3_mostOf 0 = .ok (.iconst 0, 1) := by decide +kernel
theorem dX3_mostOf_1 : decode cX3_mostOf 1 = .ok (.istore 4, 2) := by decide +kernel
theorem dX3_mostOf_3 : decode cX3_mostOf 3 = .ok (.iconst 0, 1) := by decide +kernel
theorem dX3_mostOf_4 : decode cX3_mostOf 4 = .ok (.istore 5, 2) := by decide +kernel
theorem dX3_mostOf_6 : decode cX3_mostOf 6 = .ok (.iconst 0, 1) := by decide +kernel
theorem dX3_mostOf_7 : decode cX3_mostOf 7 = .ok (.istore 6, 2) := by decide +kernel
theorem dX3_mostOf_9 : decode cX3_mostOf 9 = .ok (.iload 6, 2) := by decide +kernel
theorem dX3_mostOf_11 : decode cX3_mostOf 11 = .ok (.iload_n 3, 1) := by decide +kernel
theorem dX3_mostOf_12 : decode cX3_mostOf 12 = .ok (.if_icmp .ge 45, 3) := by decide +kernel
theorem dX3_mostOf_15 : decode cX3_mostOf 15 = .ok (.aload_n 0, 1) := by decide +kernel
theorem dX3_mostOf_16 : decode cX3_mostOf 16 = .ok (.iload_n 1, 1) := by decide +kernel
theorem dX3_mostOf_17 : decode cX3_mostOf 17 = .ok (.iload_n 2, 1) := by decide +kernel
theorem dX3_mostOf_18 : decode cX3_mostOf 18 = .ok (.iload 5, 2) := by decide +kernel
theorem dX3_mostOf_20 : decode cX3_mostOf 20 = .ok (.invokevirtual 82, 3) := by decide +kernel
theorem dX3_mostOf_23 : decode cX3_mostOf 23 = .ok (.istore 7, 2) := by decide +kernel
theorem dX3_mostOf_25 : decode cX3_mostOf 25 = .ok (.iload 7, 2) := by decide +kernel
theorem dX3_mostOf_27 : decode cX3_mostOf 27 = .ok (.ifCond .lt 24, 3) := by decide +kernel
theorem dX3_mostOf_30 : decode cX3_mostOf 30 = .ok (.iload 5, 2) := by decide +kernel
theorem dX3_mostOf_32 : decode cX3_mostOf 32 = .ok (.iconst 1, 1) := by decide +kernel
theorem dX3_mostOf_33 : decode cX3_mostOf 33 = .ok (.iload 7, 2) := by decide +kernel
theorem dX3_mostOf_35 : decode cX3_mostOf 35 = .ok (.ishl, 1) := by decide +kernel
theorem dX3_mostOf_36 : decode cX3_mostOf 36 = .ok (.ior, 1) := by decide +kernel
theorem dX3_mostOf_37 : decode cX3_mostOf 37 = .ok (.istore 5, 2) := by decide +kernel
theorem dX3_mostOf_39 : decode cX3_mostOf 39 = .ok (.iload 4, 2) := by decide +kernel
theorem dX3_mostOf_41 : decode cX3_mostOf 41 = .ok (.aload_n 0, 1) := by decide +kernel
theorem dX3_mostOf_42 : decode cX3_mostOf 42 = .ok (.iload 7, 2) := by decide +kernel
theorem dX3_mostOf_44 : decode cX3_mostOf 44 = .ok (.iload_n 1, 1) := by decide +kernel
theorem dX3_mostOf_45 : decode cX3_mostOf 45 = .ok (.invokevirtual 85, 3) := by decide +kernel
theorem dX3_mostOf_48 : decode cX3_mostOf 48 = .ok (.iadd, 1) := by decide +kernel
theorem dX3_mostOf_49 : decode cX3_mostOf 49 = .ok (.istore 4, 2) := by decide +kernel
theorem dX3_mostOf_51 : decode cX3_mostOf 51 = .ok (.iinc 6 1, 3) := by decide +kernel
theorem dX3_mostOf_54 : decode cX3_mostOf 54 = .ok (.goto (-45), 3) := by decide +kernel
theorem dX3_mostOf_57 : decode cX3_mostOf 57 = .ok (.iload 4, 2) := by decide +kernel
theorem dX3_mostOf_59 : decode cX3_mostOf 59 = .ok (.ireturn, 1) := by decide +kernel
theorem dX3_bestLine_0 : decode cX3_bestLine 0 = .ok (.iconst (-1), 1) := by decide +kernel
theorem dX3_bestLine_1 : decode cX3_bestLine 1 = .ok (.istore 4, 2) := by decide +kernel
theorem dX3_bestLine_3 : decode cX3_bestLine 3 = .ok (.iconst 0, 1) := by decide +kernel
theorem dX3_bestLine_4 : decode cX3_bestLine 4 = .ok (.istore 5, 2) := by decide +kernel
theorem dX3_bestLine_6 : decode cX3_bestLine 6 = .ok (.iload 5, 2) := by decide +kernel
theorem dX3_bestLine_8 : decode cX3_bestLine 8 = .ok (.iload_n 2, 1) := by decide +kernel
theorem dX3_bestLine_9 : decode cX3_bestLine 9 = .ok (.if_icmp .ge 44, 3) := by decide +kernel
theorem dX3_bestLine_12 : decode cX3_bestLine 12 = .ok (.iload_n 3, 1) := by decide +kernel
theorem dX3_bestLine_13 : decode cX3_bestLine 13 = .ok (.iload 5, 2) := by decide +kernel
theorem dX3_bestLine_15 : decode cX3_bestLine 15 = .ok (.ishr, 1) := by decide +kernel
theorem dX3_bestLine_16 : decode cX3_bestLine 16 = .ok (.iconst 1, 1) := by decide +kernel
theorem dX3_bestLine_17 : decode cX3_bestLine 17 = .ok (.iand, 1) := by decide +kernel
theorem dX3_bestLine_18 : decode cX3_bestLine 18 = .ok (.ifCond .ne 29, 3) := by decide +kernel
theorem dX3_bestLine_21 : decode cX3_bestLine 21 = .ok (.iload 4, 2) := by decide +kernel
theorem dX3_bestLine_23 : decode cX3_bestLine 23 = .ok (.ifCond .lt 20, 3) := by decide +kernel
theorem dX3_bestLine_26 : decode cX3_bestLine 26 = .ok (.aload_n 0, 1) := by decide +kernel
theorem dX3_bestLine_27 : decode cX3_bestLine 27 = .ok (.iload 5, 2) := by decide +kernel
theorem dX3_bestLine_29 : decode cX3_bestLine 29 = .ok (.iload_n 1, 1) := by decide +kernel
theorem dX3_bestLine_30 : decode cX3_bestLine 30 = .ok (.invokevirtual 85, 3) := by decide +kernel
theorem dX3_bestLine_33 : decode cX3_bestLine 33 = .ok (.aload_n 0, 1) := by decide +kernel
theorem dX3_bestLine_34 : decode cX3_bestLine 34 = .ok (.iload 4, 2) := by decide +kernel
theorem dX3_bestLine_36 : decode cX3_bestLine 36 = .ok (.iload_n 1, 1) := by decide +kernel
theorem dX3_bestLine_37 : decode cX3_bestLine 37 = .ok (.invokevirtual 85, 3) := by decide +kernel
theorem dX3_bestLine_40 : decode cX3_bestLine 40 = .ok (.if_icmp .le 7, 3) := by decide +kernel
theorem dX3_bestLine_43 : decode cX3_bestLine 43 = .ok (.iload 5, 2) := by decide +kernel
theorem dX3_bestLine_45 : decode cX3_bestLine 45 = .ok (.istore 4, 2) := by decide +kernel
theorem dX3_bestLine_47 : decode cX3_bestLine 47 = .ok (.iinc 5 1, 3) := by decide +kernel
theorem dX3_bestLine_50 : decode cX3_bestLine 50 = .ok (.goto (-44), 3) := by decide +kernel
theorem dX3_bestLine_53 : decode cX3_bestLine 53 = .ok (.iload 4, 2) := by decide +kernel
theorem dX3_bestLine_55 : decode cX3_bestLine 55 = .ok (.ireturn, 1) := by decide +kernel
theorem dX4_init_0 : decode cX4_init 0 = .ok (.aload_n 0, 1) := by decide +kernel
theorem dX4_init_1 : decode cX4_init 1 = .ok (.invokespecial 3, 3) := by decide +kernel
theorem dX4_init_4 : decode cX4_init 4 = .ok (.aload_n 0, 1) := by decide +kernel
theorem dX4_init_5 : decode cX4_init 5 = .ok (.iconst 0, 1) := by decide +kernel
theorem dX4_init_6 : decode cX4_init 6 = .ok (.putfield 9, 3) := by decide +kernel
theorem dX4_init_9 : decode cX4_init 9 = .ok (.aload_n 0, 1) := by decide +kernel
theorem dX4_init_10 : decode cX4_init 10 = .ok (.iconst 3, 1) := by decide +kernel
theorem dX4_init_11 : decode cX4_init 11 = .ok (.putfield 15, 3) := by decide +kernel
theorem dX4_init_14 : decode cX4_init 14 = .ok (.aload_n 0, 1) := by decide +kernel
theorem dX4_init_15 : decode cX4_init 15 = .ok (.iconst 0, 1) := by decide +kernel
theorem dX4_init_16 : decode cX4_init 16 = .ok (.putfield 18, 3) := by decide +kernel
theorem dX4_init_19 : decode cX4_init 19 = .ok (.aload_n 0, 1) := by decide +kernel
theorem dX4_init_20 : decode cX4_init 20 = .ok (.iconst 0, 1) := by decide +kernel
theorem dX4_init_21 : decode cX4_init 21 = .ok (.putfield 21, 3) := by decide +kernel
theorem dX4_init_24 : decode cX4_init 24 = .ok (.aload_n 0, 1) := by decide +kernel
theorem dX4_init_25 : decode cX4_init 25 = .ok (.iconst 0, 1) := by decide +kernel
theorem dX4_init_26 : decode cX4_init 26 = .ok (.putfield 24, 3) := by decide +kernel
theorem dX4_init_29 : decode cX4_init 29 = .ok (.aload_n 0, 1) := by decide +kernel
theorem dX4_init_30 : decode cX4_init 30 = .ok (.iconst 0, 1) := by decide +kernel
theorem dX4_init_31 : decode cX4_init 31 = .ok (.putfield 27, 3) := by decide +kernel
theorem dX4_init_34 : decode cX4_init 34 = .ok (.aload_n 0, 1) := by decide +kernel
theorem dX4_init_35 : decode cX4_init 35 = .ok (.aload_n 1, 1) := by decide +kernel
theorem dX4_init_36 : decode cX4_init 36 = .ok (.putfield 30, 3) := by decide +kernel
theorem dX4_init_39 : decode cX4_init 39 = .ok (.aload_n 0, 1) := by decide +kernel
theorem dX4_init_40 : decode cX4_init 40 = .ok (.aload_n 2, 1) := by decide +kernel
theorem dX4_init_41 : decode cX4_init 41 = .ok (.putfield 34, 3) := by decide +kernel
theorem dX4_init_44 : decode cX4_init 44 = .ok (.return_, 1) := by decide +kernel
theorem dX4_readInto_0 : decode cX4_readInto 0 = .ok (.aload_n 0, 1) := by decide +kernel
theorem dX4_readInto_1 : decode cX4_readInto 1 = .ok (.aload_n 1, 1) := by decide +kernel
theorem dX4_readInto_2 : decode cX4_readInto 2 = .ok (.putfield 34, 3) := by decide +kernel
theorem dX4_readInto_5 : decode cX4_readInto 5 = .ok (.aload_n 0, 1) := by decide +kernel
theorem dX4_readInto_6 : decode cX4_readInto 6 = .ok (.getfield 34, 3) := by decide +kernel
theorem dX4_readInto_9 : decode cX4_readInto 9 = .ok (.invokevirtual 38, 3) := by decide +kernel
theorem dX4_readInto_12 : decode cX4_readInto 12 = .ok (.aload_n 0, 1) := by decide +kernel
theorem dX4_readInto_13 : decode cX4_readInto 13 = .ok (.iconst 0, 1) := by decide +kernel
theorem dX4_readInto_14 : decode cX4_readInto 14 = .ok (.putfield 9, 3) := by decide +kernel
theorem dX4_readInto_17 : decode cX4_readInto 17 = .ok (.aload_n 0, 1) := by decide +kernel
theorem dX4_readInto_18 : decode cX4_readInto 18 = .ok (.iconst 0, 1) := by decide +kernel
theorem dX4_readInto_19 : decode cX4_readInto 19 = .ok (.putfield 24, 3) := by decide +kernel
theorem dX4_readInto_22 : decode cX4_readInto 22 = .ok (.aload_n 0, 1) := by decide +kernel
theorem dX4_readInto_23 : decode cX4_readInto 23 = .ok (.iconst 0, 1) := by decide +kernel
theorem dX4_readInto_24 : decode cX4_readInto 24 = .ok (.putfield 27, 3) := by decide +kernel
theorem dX4_readInto_27 : decode cX4_readInto 27 = .ok (.aload_n 0, 1) := by decide +kernel
theorem dX4_readInto_28 : decode cX4_readInto 28 = .ok (.invokevirtual 43, 3) := by decide +kernel
theorem dX4_readInto_31 : decode cX4_readInto 31 = .ok (.iconst 0, 1) := by decide +kernel
theorem dX4_readInto_32 : decode cX4_readInto 32 = .ok (.istore_n 2, 1) := by decide +kernel
theorem dX4_readInto_33 : decode cX4_readInto 33 = .ok (.iload_n 2, 1) := by decide +kernel
theorem dX4_readInto_34 : decode cX4_readInto 34 = .ok (.sipush 320, 3) := by decide +kernel
theorem dX4_readInto_37 : decode cX4_readInto 37 = .ok (.if_icmp .gt 106, 3) := by decide +kernel
theorem dX4_readInto_40 : decode cX4_readInto 40 = .ok (.aload_n 0, 1) := by decide +kernel
theorem dX4_readInto_41 : decode cX4_readInto 41 = .ok (.getfield 24, 3) := by decide +kernel
theorem dX4_readInto_44 : decode cX4_readInto 44 = .ok (.ifCond .ne 99, 3) := by decide +kernel
theorem dX4_readInto_47 : decode cX4_readInto 47 = .ok (.aload_n 0, 1) := by decide +kernel
theorem dX4_readInto_48 : decode cX4_readInto 48 = .ok (.getfield 15, 3) := by decide +kernel
theorem dX4_readInto_51 : decode cX4_readInto 51 = .ok (.iconst 3, 1) := by decide +kernel
theorem dX4_readInto_52 : decode cX4_readInto 52 = .ok (.if_icmp .eq 91, 3) := by decide +kernel
theorem dX4_readInto_55 : decode cX4_readInto 55 = .ok (.aload_n 0, 1) := by decide +kernel
theorem dX4_readInto_56 : decode cX4_readInto 56 = .ok (.ldc 48, 2) := by decide +kernel
theorem dX4_readInto_58 : decode cX4_readInto 58 = .ok (.invokevirtual 50, 3) := by decide +kernel
theorem dX4_readInto_61 : decode cX4_readInto 61 = .ok (.ifCond .eq 10, 3) := by decide +kernel
theorem dX4_readInto_64 : decode cX4_readInto 64 = .ok (.aload_n 0, 1) := by decide +kernel
theorem dX4_readInto_65 : decode cX4_readInto 65 = .ok (.invokevirtual 54, 3) := by decide +kernel
theorem dX4_readInto_68 : decode cX4_readInto 68 = .ok (.goto 58, 3) := by decide +kernel
theorem dX4_readInto_71 : decode cX4_readInto 71 = .ok (.aload_n 0, 1) := by decide +kernel
theorem dX4_readInto_72 : decode cX4_readInto 72 = .ok (.ldc 57, 2) := by decide +kernel
theorem dX4_readInto_74 : decode cX4_readInto 74 = .ok (.invokevirtual 50, 3) := by decide +kernel
theorem dX4_readInto_77 : decode cX4_readInto 77 = .ok (.ifCond .eq 10, 3) := by decide +kernel
theorem dX4_readInto_80 : decode cX4_readInto 80 = .ok (.aload_n 0, 1) := by decide +kernel
theorem dX4_readInto_81 : decode cX4_readInto 81 = .ok (.invokevirtual 59, 3) := by decide +kernel
theorem dX4_readInto_84 : decode cX4_readInto 84 = .ok (.goto 42, 3) := by decide +kernel
theorem dX4_readInto_87 : decode cX4_readInto 87 = .ok (.aload_n 0, 1) := by decide +kernel
theorem dX4_readInto_88 : decode cX4_readInto 88 = .ok (.ldc 62, 2) := by decide +kernel
theorem dX4_readInto_90 : decode cX4_readInto 90 = .ok (.invokevirtual 50, 3) := by decide +kernel
theorem dX4_readInto_93 : decode cX4_readInto 93 = .ok (.ifCond .eq 28, 3) := by decide +kernel
theorem dX4_readInto_96 : decode cX4_readInto 96 = .ok (.aload_n 0, 1) := by decide +kernel
theorem dX4_readInto_97 : decode cX4_readInto 97 = .ok (.getfield 34, 3) := by decide +kernel
theorem dX4_readInto_100 : decode cX4_readInto 100 = .ok (.getfield 64, 3) := by decide +kernel
theorem dX4_readInto_103 : decode cX4_readInto 103 = .ok (.ifCond .le 18, 3) := by decide +kernel
theorem dX4_readInto_106 : decode cX4_readInto 106 = .ok (.aload_n 0, 1) := by decide +kernel
theorem dX4_readInto_107 : decode cX4_readInto 107 = .ok (.iconst 2, 1) := by decide +kernel
theorem dX4_readInto_108 : decode cX4_readInto 108 = .ok (.invokevirtual 67, 3) := by decide +kernel
theorem dX4_readInto_111 : decode cX4_readInto 111 = .ok (.aload_n 0, 1) := by decide +kernel
theorem dX4_readInto_112 : decode cX4_readInto 112 = .ok (.getfield 34, 3) := by decide +kernel
theorem dX4_readInto_115 : decode cX4_readInto 115 = .ok (.invokevirtual 71, 3) := by decide +kernel
theorem dX4_readInto_118 : decode cX4_readInto 118 = .ok (.goto 8, 3) := by decide +kernel
theorem dX4_readInto_121 : decode cX4_readInto 121 = .ok (.aload_n 0, 1) := by decide +kernel
theorem dX4_readInto_122 : decode cX4_readInto 122 = .ok (.iconst 2, 1) := by decide +kernel
theorem dX4_readInto_123 : decode cX4_readInto 123 = .ok (.invokevirtual 74, 3) := by decide +kernel
theorem dX4_readInto_126 : decode cX4_readInto 126 = .ok (.aload_n 0, 1) := by decide +kernel
theorem dX4_readInto_127 : decode cX4_readInto 127 = .ok (.getfield 24, 3) := by decide +kernel
theorem dX4_readInto_130 : decode cX4_readInto 130 = .ok (.ifCond .ne 7, 3) := by decide +kernel
theorem dX4_readInto_133 : decode cX4_readInto 133 = .ok (.aload_n 0, 1) := by decide +kernel
theorem dX4_readInto_134 : decode cX4_readInto 134 = .ok (.invokevirtual 43, 3) := by decide +kernel
theorem dX4_readInto_137 : decode cX4_readInto 137 = .ok (.iinc 2 1, 3) := by decide +kernel
theorem dX4_readInto_140 : decode cX4_readInto 140 = .ok (.goto (-107), 3) := by decide +kernel
theorem dX4_readInto_143 : decode cX4_readInto 143 = .ok (.aload_n 0, 1) := by decide +kernel
theorem dX4_readInto_144 : decode cX4_readInto 144 = .ok (.invokevirtual 77, 3) := by decide +kernel
theorem dX4_readInto_147 : decode cX4_readInto 147 = .ok (.return_, 1) := by decide +kernel
theorem dX4_finish_0 : decode cX4_finish 0 = .ok (.aload_n 0, 1) := by decide +kernel
theorem dX4_finish_1 : decode cX4_finish 1 = .ok (.getfield 24, 3) := by decide +kernel
theorem dX4_finish_4 : decode cX4_finish 4 = .ok (.ifCond .ne 18, 3) := by decide +kernel
theorem dX4_finish_7 : decode cX4_finish 7 = .ok (.aload_n 0, 1) := by decide +kernel
theorem dX4_finish_8 : decode cX4_finish 8 = .ok (.getfield 34, 3) := by decide +kernel
theorem dX4_finish_11 : decode cX4_finish 11 = .ok (.getfield 64, 3) := by decide +kernel
theorem dX4_finish_14 : decode cX4_finish 14 = .ok (.ifCond .le 8, 3) := by decide +kernel
theorem dX4_finish_17 : decode cX4_finish 17 = .ok (.aload_n 0, 1) := by decide +kernel
theorem dX4_finish_18 : decode cX4_finish 18 = .ok (.iconst 2, 1) := by decide +kernel
theorem dX4_finish_19 : decode cX4_finish 19 = .ok (.invokevirtual 74, 3) := by decide +kernel
theorem dX4_finish_22 : decode cX4_finish 22 = .ok (.aload_n 0, 1) := by decide +kernel
theorem dX4_finish_23 : decode cX4_finish 23 = .ok (.getfield 24, 3) := by decide +kernel
theorem dX4_finish_26 : decode cX4_finish 26 = .ok (.ifCond .ne 19, 3) := by decide +kernel
theorem dX4_finish_29 : decode cX4_finish 29 = .ok (.aload_n 0, 1) := by decide +kernel
theorem dX4_finish_30 : decode cX4_finish 30 = .ok (.getfield 34, 3) := by decide +kernel
theorem dX4_finish_33 : decode cX4_finish 33 = .ok (.getfield 80, 3) := by decide +kernel
theorem dX4_finish_36 : decode cX4_finish 36 = .ok (.ifCond .eq 9, 3) := by decide +kernel
theorem dX4_finish_39 : decode cX4_finish 39 = .ok (.aload_n 0, 1) := by decide +kernel
theorem dX4_finish_40 : decode cX4_finish 40 = .ok (.bipush 6, 2) := by decide +kernel
theorem dX4_finish_42 : decode cX4_finish 42 = .ok (.invokevirtual 74, 3) := by decide +kernel
theorem dX4_finish_45 : decode cX4_finish 45 = .ok (.return_, 1) := by decide +kernel
theorem dX4_readLine_0 : decode cX4_readLine 0 = .ok (.aload_n 0, 1) := by decide +kernel
theorem dX4_readLine_1 : decode cX4_readLine 1 = .ok (.getfield 34, 3) := by decide +kernel
theorem dX4_readLine_4 : decode cX4_readLine 4 = .ok (.getfield 84, 3) := by decide +kernel
theorem dX4_readLine_7 : decode cX4_readLine 7 = .ok (.bipush 16, 2) := by decide +kernel
theorem dX4_readLine_9 : decode cX4_readLine 9 = .ok (.if_icmp .lt 9, 3) := by decide +kernel
theorem dX4_readLine_12 : decode cX4_readLine 12 = .ok (.aload_n 0, 1) := by decide +kernel
theorem dX4_readLine_13 : decode cX4_readLine 13 = .ok (.iconst 5, 1) := by decide +kernel
theorem dX4_readLine_14 : decode cX4_readLine 14 = .ok (.invokevirtual 74, 3) := by decide +kernel
theorem dX4_readLine_17 : decode cX4_readLine 17 = .ok (.return_, 1) := by decide +kernel
theorem dX4_readLine_18 : decode cX4_readLine 18 = .ok (.aload_n 0, 1) := by decide +kernel
theorem dX4_readLine_19 : decode cX4_readLine 19 = .ok (.iconst 1, 1) := by decide +kernel
theorem dX4_readLine_20 : decode cX4_readLine 20 = .ok (.bipush 20, 2) := by decide +kernel
theorem dX4_readLine_22 : decode cX4_readLine 22 = .ok (.invokevirtual 87, 3) := by decide +kernel
theorem dX4_readLine_25 : decode cX4_readLine 25 = .ok (.aload_n 0, 1) := by decide +kernel
theorem dX4_readLine_26 : decode cX4_readLine 26 = .ok (.getfield 24, 3) := by decide +kernel
theorem dX4_readLine_29 : decode cX4_readLine 29 = .ok (.ifCond .eq 4, 3) := by decide +kernel
theorem dX4_readLine_32 : decode cX4_readLine 32 = .ok (.return_, 1) := by decide +kernel
theorem dX4_readLine_33 : decode cX4_readLine 33 = .ok (.aload_n 0, 1) := by decide +kernel
theorem dX4_readLine_34 : decode cX4_readLine 34 = .ok (.getfield 34, 3) := by decide +kernel
theorem dX4_readLine_37 : decode cX4_readLine 37 = .ok (.aload_n 0, 1) := by decide +kernel
theorem dX4_readLine_38 : decode cX4_readLine 38 = .ok (.getfield 21, 3) := by decide +kernel
theorem dX4_readLine_41 : decode cX4_readLine 41 = .ok (.invokevirtual 91, 3) := by decide +kernel
theorem dX4_readLine_44 : decode cX4_readLine 44 = .ok (.aload_n 0, 1) := by decide +kernel
theorem dX4_readLine_45 : decode cX4_readLine 45 = .ok (.invokevirtual 43, 3) := by decide +kernel
theorem dX4_readLine_48 : decode cX4_readLine 48 = .ok (.iconst 0, 1) := by decide +kernel
theorem dX4_readLine_49 : decode cX4_readLine 49 = .ok (.istore_n 1, 1) := by decide +kernel
theorem dX4_readLine_50 : decode cX4_readLine 50 = .ok (.iconst 0, 1) := by decide +kernel
theorem dX4_readLine_51 : decode cX4_readLine 51 = .ok (.istore_n 2, 1) := by decide +kernel
theorem dX4_readLine_52 : decode cX4_readLine 52 = .ok (.iload_n 2, 1) := by decide +kernel
theorem dX4_readLine_53 : decode cX4_readLine 53 = .ok (.bipush 8, 2) := by decide +kernel
theorem dX4_readLine_55 : decode cX4_readLine 55 = .ok (.if_icmp .gt 73, 3) := by decide +kernel
theorem dX4_readLine_58 : decode cX4_readLine 58 = .ok (.aload_n 0, 1) := by decide +kernel
theorem dX4_readLine_59 : decode cX4_readLine 59 = .ok (.getfield 24, 3) := by decide +kernel
theorem dX4_readLine_62 : decode cX4_readLine 62 = .ok (.ifCond .ne 66, 3) := by decide +kernel
theorem dX4_readLine_65 : decode cX4_readLine 65 = .ok (.aload_n 0, 1) := by decide +kernel
theorem dX4_readLine_66 : decode cX4_readLine 66 = .ok (.getfield 15, 3) := by decide +kernel
theorem dX4_readLine_69 : decode cX4_readLine 69 = .ok (.iconst 2, 1) := by decide +kernel
theorem dX4_readLine_70 : decode cX4_readLine 70 = .ok (.if_icmp .eq 58, 3) := by decide +kernel
theorem dX4_readLine_73 : decode cX4_readLine 73 = .ok (.aload_n 0, 1) := by decide +kernel
theorem dX4_readLine_74 : decode cX4_readLine 74 = .ok (.iload_n 1, 1) := by decide +kernel
theorem dX4_readLine_75 : decode cX4_readLine 75 = .ok (.invokevirtual 94, 3) := by decide +kernel
theorem dX4_readLine_78 : decode cX4_readLine 78 = .ok (.istore_n 3, 1) := by decide +kernel
theorem dX4_readLine_79 : decode cX4_readLine 79 = .ok (.aload_n 0, 1) := by decide +kernel
theorem dX4_readLine_80 : decode cX4_readLine 80 = .ok (.getfield 24, 3) := by decide +kernel
theorem dX4_readLine_83 : decode cX4_readLine 83 = .ok (.ifCond .ne 28, 3) := by decide +kernel
theorem dX4_readLine_86 : decode cX4_readLine 86 = .ok (.iload_n 1, 1) := by decide +kernel
theorem dX4_readLine_87 : decode cX4_readLine 87 = .ok (.iconst 1, 1) := by decide +kernel
theorem dX4_readLine_88 : decode cX4_readLine 88 = .ok (.iload_n 3, 1) := by decide +kernel
theorem dX4_readLine_89 : decode cX4_readLine 89 = .ok (.ishl, 1) := by decide +kernel
theorem dX4_readLine_90 : decode cX4_readLine 90 = .ok (.ior, 1) := by decide +kernel
theorem dX4_readLine_91 : decode cX4_readLine 91 = .ok (.istore_n 1, 1) := by decide +kernel
theorem dX4_readLine_92 : decode cX4_readLine 92 = .ok (.aload_n 0, 1) := by decide +kernel
theorem dX4_readLine_93 : decode cX4_readLine 93 = .ok (.iconst 0, 1) := by decide +kernel
theorem dX4_readLine_94 : decode cX4_readLine 94 = .ok (.bipush 99, 2) := by decide +kernel
theorem dX4_readLine_96 : decode cX4_readLine 96 = .ok (.invokevirtual 87, 3) := by decide +kernel
theorem dX4_readLine_99 : decode cX4_readLine 99 = .ok (.aload_n 0, 1) := by decide +kernel
theorem dX4_readLine_100 : decode cX4_readLine 100 = .ok (.getfield 34, 3) := by decide +kernel
theorem dX4_readLine_103 : decode cX4_readLine 103 = .ok (.iload_n 3, 1) := by decide +kernel
theorem dX4_readLine_104 : decode cX4_readLine 104 = .ok (.aload_n 0, 1) := by decide +kernel
theorem dX4_readLine_105 : decode cX4_readLine 105 = .ok (.getfield 21, 3) := by decide +kernel
theorem dX4_readLine_108 : decode cX4_readLine 108 = .ok (.invokevirtual 98, 3) := by decide +kernel
theorem dX4_readLine_111 : decode cX4_readLine 111 = .ok (.aload_n 0, 1) := by decide +kernel
theorem dX4_readLine_112 : decode cX4_readLine 112 = .ok (.getfield 24, 3) := by decide +kernel
theorem dX4_readLine_115 : decode cX4_readLine 115 = .ok (.ifCond .ne 7, 3) := by decide +kernel
theorem dX4_readLine_118 : decode cX4_readLine 118 = .ok (.aload_n 0, 1) := by decide +kernel
theorem dX4_readLine_119 : decode cX4_readLine 119 = .ok (.invokevirtual 43, 3) := by decide +kernel
theorem dX4_readLine_122 : decode cX4_readLine 122 = .ok (.iinc 2 1, 3) := by decide +kernel
theorem dX4_readLine_125 : decode cX4_readLine 125 = .ok (.goto (-73), 3) := by decide +kernel
theorem dX4_readLine_128 : decode cX4_readLine 128 = .ok (.return_, 1) := by decide +kernel
theorem dX4_eventNamed_0 : decode cX4_eventNamed 0 = .ok (.aload_n 0, 1) := by decide +kernel
theorem dX4_eventNamed_1 : decode cX4_eventNamed 1 = .ok (.getfield 18, 3) := by decide +kernel
theorem dX4_eventNamed_4 : decode cX4_eventNamed 4 = .ok (.aload_n 0, 1) := by decide +kernel
theorem dX4_eventNamed_5 : decode cX4_eventNamed 5 = .ok (.getfield 30, 3) := by decide +kernel
theorem dX4_eventNamed_8 : decode cX4_eventNamed 8 = .ok (.getfield 101, 3) := by decide +kernel
theorem dX4_eventNamed_11 : decode cX4_eventNamed 11 = .ok (.if_icmp .ge 21, 3) := by decide +kernel
theorem dX4_eventNamed_14 : decode cX4_eventNamed 14 = .ok (.aload_n 0, 1) := by decide +kernel
theorem dX4_eventNamed_15 : decode cX4_eventNamed 15 = .ok (.getfield 30, 3) := by decide +kernel
theorem dX4_eventNamed_18 : decode cX4_eventNamed 18 = .ok (.getfield 104, 3) := by decide +kernel
theorem dX4_eventNamed_21 : decode cX4_eventNamed 21 = .ok (.aload_n 0, 1) := by decide +kernel
theorem dX4_eventNamed_22 : decode cX4_eventNamed 22 = .ok (.getfield 18, 3) := by decide +kernel
theorem dX4_eventNamed_25 : decode cX4_eventNamed 25 = .ok (.baload, 1) := by decide +kernel
theorem dX4_eventNamed_26 : decode cX4_eventNamed 26 = .ok (.bipush 97, 2) := by decide +kernel
theorem dX4_eventNamed_28 : decode cX4_eventNamed 28 = .ok (.isub, 1) := by decide +kernel
theorem dX4_eventNamed_29 : decode cX4_eventNamed 29 = .ok (.goto 5, 3) := by decide +kernel
theorem dX4_eventNamed_32 : decode cX4_eventNamed 32 = .ok (.bipush (-4), 2) := by decide +kernel
theorem dX4_eventNamed_34 : decode cX4_eventNamed 34 = .ok (.istore_n 2, 1) := by decide +kernel
theorem dX4_eventNamed_35 : decode cX4_eventNamed 35 = .ok (.aload_n 0, 1) := by decide +kernel
theorem dX4_eventNamed_36 : decode cX4_eventNamed 36 = .ok (.getfield 15, 3) := by decide +kernel
theorem dX4_eventNamed_39 : decode cX4_eventNamed 39 = .ok (.ifCond .eq 11, 3) := by decide +kernel
theorem dX4_eventNamed_42 : decode cX4_eventNamed 42 = .ok (.aload_n 0, 1) := by decide +kernel
theorem dX4_eventNamed_43 : decode cX4_eventNamed 43 = .ok (.iconst 2, 1) := by decide +kernel
theorem dX4_eventNamed_44 : decode cX4_eventNamed 44 = .ok (.invokevirtual 74, 3) := by decide +kernel
theorem dX4_eventNamed_47 : decode cX4_eventNamed 47 = .ok (.goto 44, 3) := by decide +kernel
theorem dX4_eventNamed_50 : decode cX4_eventNamed 50 = .ok (.aload_n 0, 1) := by decide +kernel
theorem dX4_eventNamed_51 : decode cX4_eventNamed 51 = .ok (.getfield 9, 3) := by decide +kernel
theorem dX4_eventNamed_54 : decode cX4_eventNamed 54 = .ok (.aload_n 0, 1) := by decide +kernel
theorem dX4_eventNamed_55 : decode cX4_eventNamed 55 = .ok (.getfield 18, 3) := by decide +kernel
theorem dX4_eventNamed_58 : decode cX4_eventNamed 58 = .ok (.isub, 1) := by decide +kernel
theorem dX4_eventNamed_59 : decode cX4_eventNamed 59 = .ok (.iconst 1, 1) := by decide +kernel
theorem dX4_eventNamed_60 : decode cX4_eventNamed 60 = .ok (.if_icmp .ne 10, 3) := by decide +kernel
theorem dX4_eventNamed_63 : decode cX4_eventNamed 63 = .ok (.iload_n 2, 1) := by decide +kernel
theorem dX4_eventNamed_64 : decode cX4_eventNamed 64 = .ok (.invokestatic 108, 3) := by decide +kernel
theorem dX4_eventNamed_67 : decode cX4_eventNamed 67 = .ok (.ifCond .ne 11, 3) := by decide +kernel
theorem dX4_eventNamed_70 : decode cX4_eventNamed 70 = .ok (.aload_n 0, 1) := by decide +kernel
theorem dX4_eventNamed_71 : decode cX4_eventNamed 71 = .ok (.iconst 3, 1) := by decide +kernel
theorem dX4_eventNamed_72 : decode cX4_eventNamed 72 = .ok (.invokevirtual 74, 3) := by decide +kernel
theorem dX4_eventNamed_75 : decode cX4_eventNamed 75 = .ok (.goto 16, 3) := by decide +kernel
theorem dX4_eventNamed_78 : decode cX4_eventNamed 78 = .ok (.iload_n 2, 1) := by decide +kernel
theorem dX4_eventNamed_79 : decode cX4_eventNamed 79 = .ok (.iload_n 1, 1) := by decide +kernel
theorem dX4_eventNamed_80 : decode cX4_eventNamed 80 = .ok (.invokestatic 112, 3) := by decide +kernel
theorem dX4_eventNamed_83 : decode cX4_eventNamed 83 = .ok (.ifCond .eq 8, 3) := by decide +kernel
theorem dX4_eventNamed_86 : decode cX4_eventNamed 86 = .ok (.aload_n 0, 1) := by decide +kernel
theorem dX4_eventNamed_87 : decode cX4_eventNamed 87 = .ok (.iconst 4, 1) := by decide +kernel
theorem dX4_eventNamed_88 : decode cX4_eventNamed 88 = .ok (.invokevirtual 74, 3) := by decide +kernel
theorem dX4_eventNamed_91 : decode cX4_eventNamed 91 = .ok (.iload_n 2, 1) := by decide +kernel
theorem dX4_eventNamed_92 : decode cX4_eventNamed 92 = .ok (.ireturn, 1) := by decide +kernel
theorem dX4_readLoop_0 : decode cX4_readLoop 0 = .ok (.aload_n 0, 1) := by decide +kernel
theorem dX4_readLoop_1 : decode cX4_readLoop 1 = .ok (.getfield 34, 3) := by decide +kernel
theorem dX4_readLoop_4 : decode cX4_readLoop 4 = .ok (.getfield 64, 3) := by decide +kernel
theorem dX4_readLoop_7 : decode cX4_readLoop 7 = .ok (.iconst 4, 1) := by decide +kernel
theorem dX4_readLoop_8 : decode cX4_readLoop 8 = .ok (.if_icmp .lt 9, 3) := by decide +kernel
theorem dX4_readLoop_11 : decode cX4_readLoop 11 = .ok (.aload_n 0, 1) := by decide +kernel
theorem dX4_readLoop_12 : decode cX4_readLoop 12 = .ok (.iconst 5, 1) := by decide +kernel
theorem dX4_readLoop_13 : decode cX4_readLoop 13 = .ok (.invokevirtual 74, 3) := by decide +kernel
theorem dX4_readLoop_16 : decode cX4_readLoop 16 = .ok (.return_, 1) := by decide +kernel
theorem dX4_readLoop_17 : decode cX4_readLoop 17 = .ok (.aload_n 0, 1) := by decide +kernel
theorem dX4_readLoop_18 : decode cX4_readLoop 18 = .ok (.iconst 1, 1) := by decide +kernel
theorem dX4_readLoop_19 : decode cX4_readLoop 19 = .ok (.bipush 99, 2) := by decide +kernel
theorem dX4_readLoop_21 : decode cX4_readLoop 21 = .ok (.invokevirtual 87, 3) := by decide +kernel
theorem dX4_readLoop_24 : decode cX4_readLoop 24 = .ok (.aload_n 0, 1) := by decide +kernel
theorem dX4_readLoop_25 : decode cX4_readLoop 25 = .ok (.getfield 24, 3) := by decide +kernel
theorem dX4_readLoop_28 : decode cX4_readLoop 28 = .ok (.ifCond .ne 19, 3) := by decide +kernel
theorem dX4_readLoop_31 : decode cX4_readLoop 31 = .ok (.aload_n 0, 1) := by decide +kernel
theorem dX4_readLoop_32 : decode cX4_readLoop 32 = .ok (.getfield 34, 3) := by decide +kernel
theorem dX4_readLoop_35 : decode cX4_readLoop 35 = .ok (.aload_n 0, 1) := by decide +kernel
theorem dX4_readLoop_36 : decode cX4_readLoop 36 = .ok (.getfield 21, 3) := by decide +kernel
theorem dX4_readLoop_39 : decode cX4_readLoop 39 = .ok (.invokevirtual 116, 3) := by decide +kernel
theorem dX4_readLoop_42 : decode cX4_readLoop 42 = .ok (.aload_n 0, 1) := by decide +kernel
theorem dX4_readLoop_43 : decode cX4_readLoop 43 = .ok (.iconst 2, 1) := by decide +kernel
theorem dX4_readLoop_44 : decode cX4_readLoop 44 = .ok (.invokevirtual 67, 3) := by decide +kernel
theorem dX4_readLoop_47 : decode cX4_readLoop 47 = .ok (.return_, 1) := by decide +kernel
theorem dX4_takeNumber_0 : decode cX4_takeNumber 0 = .ok (.aload_n 0, 1) := by decide +kernel
theorem dX4_takeNumber_1 : decode cX4_takeNumber 1 = .ok (.invokevirtual 43, 3) := by decide +kernel
theorem dX4_takeNumber_4 : decode cX4_takeNumber 4 = .ok (.aload_n 0, 1) := by decide +kernel
theorem dX4_takeNumber_5 : decode cX4_takeNumber 5 = .ok (.getfield 24, 3) := by decide +kernel
theorem dX4_takeNumber_8 : decode cX4_takeNumber 8 = .ok (.ifCond .ne 19, 3) := by decide +kernel
theorem dX4_takeNumber_11 : decode cX4_takeNumber 11 = .ok (.aload_n 0, 1) := by decide +kernel
theorem dX4_takeNumber_12 : decode cX4_takeNumber 12 = .ok (.getfield 15, 3) := by decide +kernel
theorem dX4_takeNumber_15 : decode cX4_takeNumber 15 = .ok (.iconst 1, 1) := by decide +kernel
theorem dX4_takeNumber_16 : decode cX4_takeNumber 16 = .ok (.if_icmp .eq 11, 3) := by decide +kernel
theorem dX4_takeNumber_19 : decode cX4_takeNumber 19 = .ok (.aload_n 0, 1) := by decide +kernel
theorem dX4_takeNumber_20 : decode cX4_takeNumber 20 = .ok (.iconst 2, 1) := by decide +kernel
theorem dX4_takeNumber_21 : decode cX4_takeNumber 21 = .ok (.invokevirtual 74, 3) := by decide +kernel
theorem dX4_takeNumber_24 : decode cX4_takeNumber 24 = .ok (.goto 31, 3) := by decide +kernel
theorem dX4_takeNumber_27 : decode cX4_takeNumber 27 = .ok (.aload_n 0, 1) := by decide +kernel
theorem dX4_takeNumber_28 : decode cX4_takeNumber 28 = .ok (.getfield 24, 3) := by decide +kernel
theorem dX4_takeNumber_31 : decode cX4_takeNumber 31 = .ok (.ifCond .ne 24, 3) := by decide +kernel
theorem dX4_takeNumber_34 : decode cX4_takeNumber 34 = .ok (.aload_n 0, 1) := by decide +kernel
theorem dX4_takeNumber_35 : decode cX4_takeNumber 35 = .ok (.getfield 21, 3) := by decide +kernel
theorem dX4_takeNumber_38 : decode cX4_takeNumber 38 = .ok (.iload_n 1, 1) := by decide +kernel
theorem dX4_takeNumber_39 : decode cX4_takeNumber 39 = .ok (.if_icmp .lt 11, 3) := by decide +kernel
theorem dX4_takeNumber_42 : decode cX4_takeNumber 42 = .ok (.aload_n 0, 1) := by decide +kernel
theorem dX4_takeNumber_43 : decode cX4_takeNumber 43 = .ok (.getfield 21, 3) := by decide +kernel
theorem dX4_takeNumber_46 : decode cX4_takeNumber 46 = .ok (.iload_n 2, 1) := by decide +kernel
theorem dX4_takeNumber_47 : decode cX4_takeNumber 47 = .ok (.if_icmp .le 8, 3) := by decide +kernel
theorem dX4_takeNumber_50 : decode cX4_takeNumber 50 = .ok (.aload_n 0, 1) := by decide +kernel
theorem dX4_takeNumber_51 : decode cX4_takeNumber 51 = .ok (.iconst 3, 1) := by decide +kernel
theorem dX4_takeNumber_52 : decode cX4_takeNumber 52 = .ok (.invokevirtual 74, 3) := by decide +kernel
theorem dX4_takeNumber_55 : decode cX4_takeNumber 55 = .ok (.return_, 1) := by decide +kernel
theorem dX4_takeKind_0 : decode cX4_takeKind 0 = .ok (.aload_n 0, 1) := by decide +kernel
theorem dX4_takeKind_1 : decode cX4_takeKind 1 = .ok (.invokevirtual 43, 3) := by decide +kernel
theorem dX4_takeKind_4 : decode cX4_takeKind 4 = .ok (.aload_n 0, 1) := by decide +kernel
theorem dX4_takeKind_5 : decode cX4_takeKind 5 = .ok (.getfield 24, 3) := by decide +kernel
theorem dX4_takeKind_8 : decode cX4_takeKind 8 = .ok (.ifCond .ne 16, 3) := by decide +kernel
theorem dX4_takeKind_11 : decode cX4_takeKind 11 = .ok (.aload_n 0, 1) := by decide +kernel
theorem dX4_takeKind_12 : decode cX4_takeKind 12 = .ok (.getfield 15, 3) := by decide +kernel
theorem dX4_takeKind_15 : decode cX4_takeKind 15 = .ok (.iload_n 1, 1) := by decide +kernel
theorem dX4_takeKind_16 : decode cX4_takeKind 16 = .ok (.if_icmp .eq 8, 3) := by decide +kernel
theorem dX4_takeKind_19 : decode cX4_takeKind 19 = .ok (.aload_n 0, 1) := by decide +kernel
theorem dX4_takeKind_20 : decode cX4_takeKind 20 = .ok (.iconst 2, 1) := by decide +kernel
theorem dX4_takeKind_21 : decode cX4_takeKind 21 = .ok (.invokevirtual 74, 3) := by decide +kernel
theorem dX4_takeKind_24 : decode cX4_takeKind 24 = .ok (.return_, 1) := by decide +kernel
theorem dX4_takeToken_0 : decode cX4_takeToken 0 = .ok (.aload_n 0, 1) := by decide +kernel
theorem dX4_takeToken_1 : decode cX4_takeToken 1 = .ok (.getfield 9, 3) := by decide +kernel
theorem dX4_takeToken_4 : decode cX4_takeToken 4 = .ok (.aload_n 0, 1) := by decide +kernel
theorem dX4_takeToken_5 : decode cX4_takeToken 5 = .ok (.getfield 30, 3) := by decide +kernel
theorem dX4_takeToken_8 : decode cX4_takeToken 8 = .ok (.getfield 101, 3) := by decide +kernel
theorem dX4_takeToken_11 : decode cX4_takeToken 11 = .ok (.if_icmp .ge 33, 3) := by decide +kernel
theorem dX4_takeToken_14 : decode cX4_takeToken 14 = .ok (.aload_n 0, 1) := by decide +kernel
theorem dX4_takeToken_15 : decode cX4_takeToken 15 = .ok (.getfield 30, 3) := by decide +kernel
theorem dX4_takeToken_18 : decode cX4_takeToken 18 = .ok (.getfield 104, 3) := by decide +kernel
theorem dX4_takeToken_21 : decode cX4_takeToken 21 = .ok (.aload_n 0, 1) := by decide +kernel
theorem dX4_takeToken_22 : decode cX4_takeToken 22 = .ok (.getfield 9, 3) := by decide +kernel
theorem dX4_takeToken_25 : decode cX4_takeToken 25 = .ok (.baload, 1) := by decide +kernel
theorem dX4_takeToken_26 : decode cX4_takeToken 26 = .ok (.bipush 32, 2) := by decide +kernel
theorem dX4_takeToken_28 : decode cX4_takeToken 28 = .ok (.if_icmp .ne 16, 3) := by decide +kernel
theorem dX4_takeToken_31 : decode cX4_takeToken 31 = .ok (.aload_n 0, 1) := by decide +kernel
theorem dX4_takeToken_32 : decode cX4_takeToken 32 = .ok (.dup, 1) := by decide +kernel
theorem dX4_takeToken_33 : decode cX4_takeToken 33 = .ok (.getfield 9, 3) := by decide +kernel
theorem dX4_takeToken_36 : decode cX4_takeToken 36 = .ok (.iconst 1, 1) := by decide +kernel
theorem dX4_takeToken_37 : decode cX4_takeToken 37 = .ok (.iadd, 1) := by decide +kernel
theorem dX4_takeToken_38 : decode cX4_takeToken 38 = .ok (.putfield 9, 3) := by decide +kernel
theorem dX4_takeToken_41 : decode cX4_takeToken 41 = .ok (.goto (-41), 3) := by decide +kernel
theorem dX4_takeToken_44 : decode cX4_takeToken 44 = .ok (.aload_n 0, 1) := by decide +kernel
theorem dX4_takeToken_45 : decode cX4_takeToken 45 = .ok (.aload_n 0, 1) := by decide +kernel
theorem dX4_takeToken_46 : decode cX4_takeToken 46 = .ok (.getfield 9, 3) := by decide +kernel
theorem dX4_takeToken_49 : decode cX4_takeToken 49 = .ok (.putfield 18, 3) := by decide +kernel
theorem dX4_takeToken_52 : decode cX4_takeToken 52 = .ok (.aload_n 0, 1) := by decide +kernel
theorem dX4_takeToken_53 : decode cX4_takeToken 53 = .ok (.getfield 9, 3) := by decide +kernel
theorem dX4_takeToken_56 : decode cX4_takeToken 56 = .ok (.aload_n 0, 1) := by decide +kernel
theorem dX4_takeToken_57 : decode cX4_takeToken 57 = .ok (.getfield 30, 3) := by decide +kernel
theorem dX4_takeToken_60 : decode cX4_takeToken 60 = .ok (.getfield 101, 3) := by decide +kernel
theorem dX4_takeToken_63 : decode cX4_takeToken 63 = .ok (.if_icmp .lt 11, 3) := by decide +kernel
theorem dX4_takeToken_66 : decode cX4_takeToken 66 = .ok (.aload_n 0, 1) := by decide +kernel
theorem dX4_takeToken_67 : decode cX4_takeToken 67 = .ok (.iconst 3, 1) := by decide +kernel
theorem dX4_takeToken_68 : decode cX4_takeToken 68 = .ok (.putfield 15, 3) := by decide +kernel
theorem dX4_takeToken_71 : decode cX4_takeToken 71 = .ok (.goto 93, 3) := by decide +kernel
theorem dX4_takeToken_74 : decode cX4_takeToken 74 = .ok (.aload_n 0, 1) := by decide +kernel
theorem dX4_takeToken_75 : decode cX4_takeToken 75 = .ok (.getfield 30, 3) := by decide +kernel
theorem dX4_takeToken_78 : decode cX4_takeToken 78 = .ok (.getfield 104, 3) := by decide +kernel
theorem dX4_takeToken_81 : decode cX4_takeToken 81 = .ok (.aload_n 0, 1) := by decide +kernel
theorem dX4_takeToken_82 : decode cX4_takeToken 82 = .ok (.getfield 9, 3) := by decide +kernel
theorem dX4_takeToken_85 : decode cX4_takeToken 85 = .ok (.baload, 1) := by decide +kernel
theorem dX4_takeToken_86 : decode cX4_takeToken 86 = .ok (.invokestatic 119, 3) := by decide +kernel
theorem dX4_takeToken_89 : decode cX4_takeToken 89 = .ok (.ifCond .eq 10, 3) := by decide +kernel
theorem dX4_takeToken_92 : decode cX4_takeToken 92 = .ok (.aload_n 0, 1) := by decide +kernel
theorem dX4_takeToken_93 : decode cX4_takeToken 93 = .ok (.invokevirtual 122, 3) := by decide +kernel
theorem dX4_takeToken_96 : decode cX4_takeToken 96 = .ok (.goto 68, 3) := by decide +kernel
theorem dX4_takeToken_99 : decode cX4_takeToken 99 = .ok (.aload_n 0, 1) := by decide +kernel
theorem dX4_takeToken_100 : decode cX4_takeToken 100 = .ok (.getfield 30, 3) := by decide +kernel
theorem dX4_takeToken_103 : decode cX4_takeToken 103 = .ok (.getfield 104, 3) := by decide +kernel
theorem dX4_takeToken_106 : decode cX4_takeToken 106 = .ok (.aload_n 0, 1) := by decide +kernel
theorem dX4_takeToken_107 : decode cX4_takeToken 107 = .ok (.getfield 9, 3) := by decide +kernel
theorem dX4_takeToken_110 : decode cX4_takeToken 110 = .ok (.baload, 1) := by decide +kernel
theorem dX4_takeToken_111 : decode cX4_takeToken 111 = .ok (.invokestatic 125, 3) := by decide +kernel
theorem dX4_takeToken_114 : decode cX4_takeToken 114 = .ok (.ifCond .eq 10, 3) := by decide +kernel
theorem dX4_takeToken_117 : decode cX4_takeToken 117 = .ok (.aload_n 0, 1) := by decide +kernel
theorem dX4_takeToken_118 : decode cX4_takeToken 118 = .ok (.invokevirtual 128, 3) := by decide +kernel
theorem dX4_takeToken_121 : decode cX4_takeToken 121 = .ok (.goto 43, 3) := by decide +kernel
theorem dX4_takeToken_124 : decode cX4_takeToken 124 = .ok (.aload_n 0, 1) := by decide +kernel
theorem dX4_takeToken_125 : decode cX4_takeToken 125 = .ok (.getfield 30, 3) := by decide +kernel
theorem dX4_takeToken_128 : decode cX4_takeToken 128 = .ok (.getfield 104, 3) := by decide +kernel
theorem dX4_takeToken_131 : decode cX4_takeToken 131 = .ok (.aload_n 0, 1) := by decide +kernel
theorem dX4_takeToken_132 : decode cX4_takeToken 132 = .ok (.getfield 9, 3) := by decide +kernel
theorem dX4_takeToken_135 : decode cX4_takeToken 135 = .ok (.baload, 1) := by decide +kernel
theorem dX4_takeToken_136 : decode cX4_takeToken 136 = .ok (.bipush 59, 2) := by decide +kernel
theorem dX4_takeToken_138 : decode cX4_takeToken 138 = .ok (.if_icmp .ne 21, 3) := by decide +kernel
theorem dX4_takeToken_141 : decode cX4_takeToken 141 = .ok (.aload_n 0, 1) := by decide +kernel
theorem dX4_takeToken_142 : decode cX4_takeToken 142 = .ok (.iconst 2, 1) := by decide +kernel
theorem dX4_takeToken_143 : decode cX4_takeToken 143 = .ok (.putfield 15, 3) := by decide +kernel
theorem dX4_takeToken_146 : decode cX4_takeToken 146 = .ok (.aload_n 0, 1) := by decide +kernel
theorem dX4_takeToken_147 : decode cX4_takeToken 147 = .ok (.dup, 1) := by decide +kernel
theorem dX4_takeToken_148 : decode cX4_takeToken 148 = .ok (.getfield 9, 3) := by decide +kernel
theorem dX4_takeToken_151 : decode cX4_takeToken 151 = .ok (.iconst 1, 1) := by decide +kernel
theorem dX4_takeToken_152 : decode cX4_takeToken 152 = .ok (.iadd, 1) := by decide +kernel
theorem dX4_takeToken_153 : decode cX4_takeToken 153 = .ok (.putfield 9, 3) := by decide +kernel
theorem dX4_takeToken_156 : decode cX4_takeToken 156 = .ok (.goto 8, 3) := by decide +kernel
theorem dX4_takeToken_159 : decode cX4_takeToken 159 = .ok (.aload_n 0, 1) := by decide +kernel
theorem dX4_takeToken_160 : decode cX4_takeToken 160 = .ok (.iconst 1, 1) := by decide +kernel
theorem dX4_takeToken_161 : decode cX4_takeToken 161 = .ok (.invokevirtual 74, 3) := by decide +kernel
theorem dX4_takeToken_164 : decode cX4_takeToken 164 = .ok (.return_, 1) := by decide +kernel
theorem dX4_takeLetters_0 : decode cX4_takeLetters 0 = .ok (.aload_n 0, 1) := by decide +kernel
theorem dX4_takeLetters_1 : decode cX4_takeLetters 1 = .ok (.iconst 0, 1) := by decide +kernel
theorem dX4_takeLetters_2 : decode cX4_takeLetters 2 = .ok (.putfield 15, 3) := by decide +kernel
theorem dX4_takeLetters_5 : decode cX4_takeLetters 5 = .ok (.aload_n 0, 1) := by decide +kernel
theorem dX4_takeLetters_6 : decode cX4_takeLetters 6 = .ok (.getfield 9, 3) := by decide +kernel
theorem dX4_takeLetters_9 : decode cX4_takeLetters 9 = .ok (.aload_n 0, 1) := by decide +kernel
theorem dX4_takeLetters_10 : decode cX4_takeLetters 10 = .ok (.getfield 30, 3) := by decide +kernel
theorem dX4_takeLetters_13 : decode cX4_takeLetters 13 = .ok (.getfield 101, 3) := by decide +kernel
theorem dX4_takeLetters_16 : decode cX4_takeLetters 16 = .ok (.if_icmp .ge 34, 3) := by decide +kernel
theorem dX4_takeLetters_19 : decode cX4_takeLetters 19 = .ok (.aload_n 0, 1) := by decide +kernel
theorem dX4_takeLetters_20 : decode cX4_takeLetters 20 = .ok (.getfield 30, 3) := by decide +kernel
theorem dX4_takeLetters_23 : decode cX4_takeLetters 23 = .ok (.getfield 104, 3) := by decide +kernel
theorem dX4_takeLetters_26 : decode cX4_takeLetters 26 = .ok (.aload_n 0, 1) := by decide +kernel
theorem dX4_takeLetters_27 : decode cX4_takeLetters 27 = .ok (.getfield 9, 3) := by decide +kernel
theorem dX4_takeLetters_30 : decode cX4_takeLetters 30 = .ok (.baload, 1) := by decide +kernel
theorem dX4_takeLetters_31 : decode cX4_takeLetters 31 = .ok (.invokestatic 119, 3) := by decide +kernel
theorem dX4_takeLetters_34 : decode cX4_takeLetters 34 = .ok (.ifCond .eq 16, 3) := by decide +kernel
theorem dX4_takeLetters_37 : decode cX4_takeLetters 37 = .ok (.aload_n 0, 1) := by decide +kernel
theorem dX4_takeLetters_38 : decode cX4_takeLetters 38 = .ok (.dup, 1) := by decide +kernel
theorem dX4_takeLetters_39 : decode cX4_takeLetters 39 = .ok (.getfield 9, 3) := by decide +kernel
theorem dX4_takeLetters_42 : decode cX4_takeLetters 42 = .ok (.iconst 1, 1) := by decide +kernel
theorem dX4_takeLetters_43 : decode cX4_takeLetters 43 = .ok (.iadd, 1) := by decide +kernel
theorem dX4_takeLetters_44 : decode cX4_takeLetters 44 = .ok (.putfield 9, 3) := by decide +kernel
theorem dX4_takeLetters_47 : decode cX4_takeLetters 47 = .ok (.goto (-42), 3) := by decide +kernel
theorem dX4_takeLetters_50 : decode cX4_takeLetters 50 = .ok (.return_, 1) := by decide +kernel
theorem dX4_takeFigures_0 : decode cX4_takeFigures 0 = .ok (.aload_n 0, 1) := by decide +kernel
theorem dX4_takeFigures_1 : decode cX4_takeFigures 1 = .ok (.iconst 1, 1) := by decide +kernel
theorem dX4_takeFigures_2 : decode cX4_takeFigures 2 = .ok (.putfield 15, 3) := by decide +kernel
theorem dX4_takeFigures_5 : decode cX4_takeFigures 5 = .ok (.aload_n 0, 1) := by decide +kernel
theorem dX4_takeFigures_6 : decode cX4_takeFigures 6 = .ok (.iconst 0, 1) := by decide +kernel
theorem dX4_takeFigures_7 : decode cX4_takeFigures 7 = .ok (.putfield 21, 3) := by decide +kernel
theorem dX4_takeFigures_10 : decode cX4_takeFigures 10 = .ok (.aload_n 0, 1) := by decide +kernel
theorem dX4_takeFigures_11 : decode cX4_takeFigures 11 = .ok (.getfield 9, 3) := by decide +kernel
theorem dX4_takeFigures_14 : decode cX4_takeFigures 14 = .ok (.aload_n 0, 1) := by decide +kernel
theorem dX4_takeFigures_15 : decode cX4_takeFigures 15 = .ok (.getfield 30, 3) := by decide +kernel
theorem dX4_takeFigures_18 : decode cX4_takeFigures 18 = .ok (.getfield 101, 3) := by decide +kernel
theorem dX4_takeFigures_21 : decode cX4_takeFigures 21 = .ok (.if_icmp .ge 74, 3) := by decide +kernel
theorem dX4_takeFigures_24 : decode cX4_takeFigures 24 = .ok (.aload_n 0, 1) := by decide +kernel
theorem dX4_takeFigures_25 : decode cX4_takeFigures 25 = .ok (.getfield 30, 3) := by decide +kernel
theorem dX4_takeFigures_28 : decode cX4_takeFigures 28 = .ok (.getfield 104, 3) := by decide +kernel
theorem dX4_takeFigures_31 : decode cX4_takeFigures 31 = .ok (.aload_n 0, 1) := by decide +kernel
theorem dX4_takeFigures_32 : decode cX4_takeFigures 32 = .ok (.getfield 9, 3) := by decide +kernel
theorem dX4_takeFigures_35 : decode cX4_takeFigures 35 = .ok (.baload, 1) := by decide +kernel
theorem dX4_takeFigures_36 : decode cX4_takeFigures 36 = .ok (.invokestatic 125, 3) := by decide +kernel
theorem dX4_takeFigures_39 : decode cX4_takeFigures 39 = .ok (.ifCond .eq 56, 3) := by decide +kernel
theorem dX4_takeFigures_42 : decode cX4_takeFigures 42 = .ok (.aload_n 0, 1) := by decide +kernel
theorem dX4_takeFigures_43 : decode cX4_takeFigures 43 = .ok (.getfield 9, 3) := by decide +kernel
theorem dX4_takeFigures_46 : decode cX4_takeFigures 46 = .ok (.aload_n 0, 1) := by decide +kernel
theorem dX4_takeFigures_47 : decode cX4_takeFigures 47 = .ok (.getfield 18, 3) := by decide +kernel
theorem dX4_takeFigures_50 : decode cX4_takeFigures 50 = .ok (.isub, 1) := by decide +kernel
theorem dX4_takeFigures_51 : decode cX4_takeFigures 51 = .ok (.iconst 2, 1) := by decide +kernel
theorem dX4_takeFigures_52 : decode cX4_takeFigures 52 = .ok (.if_icmp .ge 30, 3) := by decide +kernel
theorem dX4_takeFigures_55 : decode cX4_takeFigures 55 = .ok (.aload_n 0, 1) := by decide +kernel
theorem dX4_takeFigures_56 : decode cX4_takeFigures 56 = .ok (.aload_n 0, 1) := by decide +kernel
theorem dX4_takeFigures_57 : decode cX4_takeFigures 57 = .ok (.getfield 21, 3) := by decide +kernel
theorem dX4_takeFigures_60 : decode cX4_takeFigures 60 = .ok (.bipush 10, 2) := by decide +kernel
theorem dX4_takeFigures_62 : decode cX4_takeFigures 62 = .ok (.imul, 1) := by decide +kernel
theorem dX4_takeFigures_63 : decode cX4_takeFigures 63 = .ok (.aload_n 0, 1) := by decide +kernel
theorem dX4_takeFigures_64 : decode cX4_takeFigures 64 = .ok (.getfield 30, 3) := by decide +kernel
theorem dX4_takeFigures_67 : decode cX4_takeFigures 67 = .ok (.getfield 104, 3) := by decide +kernel
theorem dX4_takeFigures_70 : decode cX4_takeFigures 70 = .ok (.aload_n 0, 1) := by decide +kernel
theorem dX4_takeFigures_71 : decode cX4_takeFigures 71 = .ok (.getfield 9, 3) := by decide +kernel
theorem dX4_takeFigures_74 : decode cX4_takeFigures 74 = .ok (.baload, 1) := by decide +kernel
theorem dX4_takeFigures_75 : decode cX4_takeFigures 75 = .ok (.iadd, 1) := by decide +kernel
theorem dX4_takeFigures_76 : decode cX4_takeFigures 76 = .ok (.bipush 48, 2) := by decide +kernel
theorem dX4_takeFigures_78 : decode cX4_takeFigures 78 = .ok (.isub, 1) := by decide +kernel
theorem dX4_takeFigures_79 : decode cX4_takeFigures 79 = .ok (.putfield 21, 3) := by decide +kernel
theorem dX4_takeFigures_82 : decode cX4_takeFigures 82 = .ok (.aload_n 0, 1) := by decide +kernel
theorem dX4_takeFigures_83 : decode cX4_takeFigures 83 = .ok (.dup, 1) := by decide +kernel
theorem dX4_takeFigures_84 : decode cX4_takeFigures 84 = .ok (.getfield 9, 3) := by decide +kernel
theorem dX4_takeFigures_87 : decode cX4_takeFigures 87 = .ok (.iconst 1, 1) := by decide +kernel
theorem dX4_takeFigures_88 : decode cX4_takeFigures 88 = .ok (.iadd, 1) := by decide +kernel
theorem dX4_takeFigures_89 : decode cX4_takeFigures 89 = .ok (.putfield 9, 3) := by decide +kernel
theorem dX4_takeFigures_92 : decode cX4_takeFigures 92 = .ok (.goto (-82), 3) := by decide +kernel
theorem dX4_takeFigures_95 : decode cX4_takeFigures 95 = .ok (.aload_n 0, 1) := by decide +kernel
theorem dX4_takeFigures_96 : decode cX4_takeFigures 96 = .ok (.getfield 9, 3) := by decide +kernel
theorem dX4_takeFigures_99 : decode cX4_takeFigures 99 = .ok (.aload_n 0, 1) := by decide +kernel
theorem dX4_takeFigures_100 : decode cX4_takeFigures 100 = .ok (.getfield 18, 3) := by decide +kernel
theorem dX4_takeFigures_103 : decode cX4_takeFigures 103 = .ok (.isub, 1) := by decide +kernel
theorem dX4_takeFigures_104 : decode cX4_takeFigures 104 = .ok (.iconst 2, 1) := by decide +kernel
theorem dX4_takeFigures_105 : decode cX4_takeFigures 105 = .ok (.if_icmp .le 8, 3) := by decide +kernel
theorem dX4_takeFigures_108 : decode cX4_takeFigures 108 = .ok (.aload_n 0, 1) := by decide +kernel
theorem dX4_takeFigures_109 : decode cX4_takeFigures 109 = .ok (.iconst 1, 1) := by decide +kernel
theorem dX4_takeFigures_110 : decode cX4_takeFigures 110 = .ok (.invokevirtual 74, 3) := by decide +kernel
theorem dX4_takeFigures_113 : decode cX4_takeFigures 113 = .ok (.return_, 1) := by decide +kernel
theorem dX4_isWord_0 : decode cX4_isWord 0 = .ok (.aload_n 0, 1) := by decide +kernel
theorem dX4_isWord_1 : decode cX4_isWord 1 = .ok (.getfield 15, 3) := by decide +kernel
theorem dX4_isWord_4 : decode cX4_isWord 4 = .ok (.ifCond .ne 19, 3) := by decide +kernel
theorem dX4_isWord_7 : decode cX4_isWord 7 = .ok (.aload_n 0, 1) := by decide +kernel
theorem dX4_isWord_8 : decode cX4_isWord 8 = .ok (.getfield 9, 3) := by decide +kernel
theorem dX4_isWord_11 : decode cX4_isWord 11 = .ok (.aload_n 0, 1) := by decide +kernel
theorem dX4_isWord_12 : decode cX4_isWord 12 = .ok (.getfield 18, 3) := by decide +kernel
theorem dX4_isWord_15 : decode cX4_isWord 15 = .ok (.isub, 1) := by decide +kernel
theorem dX4_isWord_16 : decode cX4_isWord 16 = .ok (.aload_n 1, 1) := by decide +kernel
theorem dX4_isWord_17 : decode cX4_isWord 17 = .ok (.invokevirtual 131, 3) := by decide +kernel
theorem dX4_isWord_20 : decode cX4_isWord 20 = .ok (.if_icmp .eq 5, 3) := by decide +kernel
theorem dX4_isWord_23 : decode cX4_isWord 23 = .ok (.iconst 0, 1) := by decide +kernel
theorem dX4_isWord_24 : decode cX4_isWord 24 = .ok (.ireturn, 1) := by decide +kernel
theorem dX4_isWord_25 : decode cX4_isWord 25 = .ok (.iconst 0, 1) := by decide +kernel
theorem dX4_isWord_26 : decode cX4_isWord 26 = .ok (.istore_n 2, 1) := by decide +kernel
theorem dX4_isWord_27 : decode cX4_isWord 27 = .ok (.iload_n 2, 1) := by decide +kernel
theorem dX4_isWord_28 : decode cX4_isWord 28 = .ok (.aload_n 1, 1) := by decide +kernel
theorem dX4_isWord_29 : decode cX4_isWord 29 = .ok (.invokevirtual 131, 3) := by decide +kernel
theorem dX4_isWord_32 : decode cX4_isWord 32 = .ok (.if_icmp .ge 33, 3) := by decide +kernel
theorem dX4_isWord_35 : decode cX4_isWord 35 = .ok (.aload_n 0, 1) := by decide +kernel
theorem dX4_isWord_36 : decode cX4_isWord 36 = .ok (.getfield 30, 3) := by decide +kernel
theorem dX4_isWord_39 : decode cX4_isWord 39 = .ok (.getfield 104, 3) := by decide +kernel
theorem dX4_isWord_42 : decode cX4_isWord 42 = .ok (.aload_n 0, 1) := by decide +kernel
theorem dX4_isWord_43 : decode cX4_isWord 43 = .ok (.getfield 18, 3) := by decide +kernel
theorem dX4_isWord_46 : decode cX4_isWord 46 = .ok (.iload_n 2, 1) := by decide +kernel
theorem dX4_isWord_47 : decode cX4_isWord 47 = .ok (.iadd, 1) := by decide +kernel
theorem dX4_isWord_48 : decode cX4_isWord 48 = .ok (.baload, 1) := by decide +kernel
theorem dX4_isWord_49 : decode cX4_isWord 49 = .ok (.aload_n 1, 1) := by decide +kernel
theorem dX4_isWord_50 : decode cX4_isWord 50 = .ok (.iload_n 2, 1) := by decide +kernel
theorem dX4_isWord_51 : decode cX4_isWord 51 = .ok (.invokevirtual 137, 3) := by decide +kernel
theorem dX4_isWord_54 : decode cX4_isWord 54 = .ok (.if_icmp .eq 5, 3) := by decide +kernel
theorem dX4_isWord_57 : decode cX4_isWord 57 = .ok (.iconst 0, 1) := by decide +kernel
theorem dX4_isWord_58 : decode cX4_isWord 58 = .ok (.ireturn, 1) := by decide +kernel
theorem dX4_isWord_59 : decode cX4_isWord 59 = .ok (.iinc 2 1, 3) := by decide +kernel
theorem dX4_isWord_62 : decode cX4_isWord 62 = .ok (.goto (-35), 3) := by decide +kernel
theorem dX4_isWord_65 : decode cX4_isWord 65 = .ok (.iconst 1, 1) := by decide +kernel
theorem dX4_isWord_66 : decode cX4_isWord 66 = .ok (.ireturn, 1) := by decide +kernel
theorem dX4_fail_0 : decode cX4_fail 0 = .ok (.aload_n 0, 1) := by decide +kernel
theorem dX4_fail_1 : decode cX4_fail 1 = .ok (.iload_n 1, 1) := by decide +kernel
theorem dX4_fail_2 : decode cX4_fail 2 = .ok (.putfield 24, 3) := by decide +kernel
theorem dX4_fail_5 : decode cX4_fail 5 = .ok (.aload_n 0, 1) := by decide +kernel
theorem dX4_fail_6 : decode cX4_fail 6 = .ok (.aload_n 0, 1) := by decide +kernel
theorem dX4_fail_7 : decode cX4_fail 7 = .ok (.getfield 18, 3) := by decide +kernel
theorem dX4_fail_10 : decode cX4_fail 10 = .ok (.putfield 27, 3) := by decide +kernel
theorem dX4_fail_13 : decode cX4_fail 13 = .ok (.return_, 1) := by decide +kernel
theorem dX4_isLetter_0 : decode cX4_isLetter 0 = .ok (.iload_n 0, 1) := by decide +kernel
theorem dX4_isLetter_1 : decode cX4_isLetter 1 = .ok (.bipush 97, 2) := by decide +kernel
theorem dX4_isLetter_3 : decode cX4_isLetter 3 = .ok (.if_icmp .lt 13, 3) := by decide +kernel
theorem dX4_isLetter_6 : decode cX4_isLetter 6 = .ok (.iload_n 0, 1) := by decide +kernel
theorem dX4_isLetter_7 : decode cX4_isLetter 7 = .ok (.bipush 122, 2) := by decide +kernel
theorem dX4_isLetter_9 : decode cX4_isLetter 9 = .ok (.if_icmp .gt 7, 3) := by decide +kernel
theorem dX4_isLetter_12 : decode cX4_isLetter 12 = .ok (.iconst 1, 1) := by decide +kernel
theorem dX4_isLetter_13 : decode cX4_isLetter 13 = .ok (.goto 4, 3) := by decide +kernel
theorem dX4_isLetter_16 : decode cX4_isLetter 16 = .ok (.iconst 0, 1) := by decide +kernel
theorem dX4_isLetter_17 : decode cX4_isLetter 17 = .ok (.ireturn, 1) := by decide +kernel
theorem dX4_isFigure_0 : decode cX4_isFigure 0 = .ok (.iload_n 0, 1) := by decide +kernel
theorem dX4_isFigure_1 : decode cX4_isFigure 1 = .ok (.bipush 48, 2) := by decide +kernel
theorem dX4_isFigure_3 : decode cX4_isFigure 3 = .ok (.if_icmp .lt 13, 3) := by decide +kernel
theorem dX4_isFigure_6 : decode cX4_isFigure 6 = .ok (.iload_n 0, 1) := by decide +kernel
theorem dX4_isFigure_7 : decode cX4_isFigure 7 = .ok (.bipush 57, 2) := by decide +kernel
theorem dX4_isFigure_9 : decode cX4_isFigure 9 = .ok (.if_icmp .gt 7, 3) := by decide +kernel
theorem dX4_isFigure_12 : decode cX4_isFigure 12 = .ok (.iconst 1, 1) := by decide +kernel
theorem dX4_isFigure_13 : decode cX4_isFigure 13 = .ok (.goto 4, 3) := by decide +kernel
theorem dX4_isFigure_16 : decode cX4_isFigure 16 = .ok (.iconst 0, 1) := by decide +kernel
theorem dX4_isFigure_17 : decode cX4_isFigure 17 = .ok (.ireturn, 1) := by decide +kernel
theorem dX5_init_0 : decode cX5_init 0 = .ok (.aload_n 0, 1) := by decide +kernel
theorem dX5_init_1 : decode cX5_init 1 = .ok (.invokespecial 3, 3) := by decide +kernel
theorem dX5_init_4 : decode cX5_init 4 = .ok (.aload_n 0, 1) := by decide +kernel
theorem dX5_init_5 : decode cX5_init 5 = .ok (.iconst 0, 1) := by decide +kernel
theorem dX5_init_6 : decode cX5_init 6 = .ok (.putfield 9, 3) := by decide +kernel
theorem dX5_init_9 : decode cX5_init 9 = .ok (.aload_n 0, 1) := by decide +kernel
theorem dX5_init_10 : decode cX5_init 10 = .ok (.bipush 12, 2) := by decide +kernel
theorem dX5_init_12 : decode cX5_init 12 = .ok (.newarray .int, 2) := by decide +kernel
theorem dX5_init_14 : decode cX5_init 14 = .ok (.putfield 15, 3) := by decide +kernel
theorem dX5_init_17 : decode cX5_init 17 = .ok (.aload_n 0, 1) := by decide +kernel
theorem dX5_init_18 : decode cX5_init 18 = .ok (.bipush 12, 2) := by decide +kernel
theorem dX5_init_20 : decode cX5_init 20 = .ok (.newarray .int, 2) := by decide +kernel
theorem dX5_init_22 : decode cX5_init 22 = .ok (.putfield 19, 3) := by decide +kernel
theorem dX5_init_25 : decode cX5_init 25 = .ok (.aload_n 0, 1) := by decide +kernel
theorem dX5_init_26 : decode cX5_init 26 = .ok (.bipush 12, 2) := by decide +kernel
theorem dX5_init_28 : decode cX5_init 28 = .ok (.newarray .int, 2) := by decide +kernel
theorem dX5_init_30 : decode cX5_init 30 = .ok (.putfield 22, 3) := by decide +kernel
theorem dX5_init_33 : decode cX5_init 33 = .ok (.aload_n 0, 1) := by decide +kernel
theorem dX5_init_34 : decode cX5_init 34 = .ok (.iconst 0, 1) := by decide +kernel
theorem dX5_init_35 : decode cX5_init 35 = .ok (.putfield 25, 3) := by decide +kernel
theorem dX5_init_38 : decode cX5_init 38 = .ok (.aload_n 0, 1) := by decide +kernel
theorem dX5_init_39 : decode cX5_init 39 = .ok (.bipush 36, 2) := by decide +kernel
theorem dX5_init_41 : decode cX5_init 41 = .ok (.newarray .int, 2) := by decide +kernel
theorem dX5_init_43 : decode cX5_init 43 = .ok (.putfield 28, 3) := by decide +kernel
theorem dX5_init_46 : decode cX5_init 46 = .ok (.return_, 1) := by decide +kernel
theorem dX5_add_0 : decode cX5_add 0 = .ok (.aload_n 0, 1) := by decide +kernel
theorem dX5_add_1 : decode cX5_add 1 = .ok (.getfield 9, 3) := by decide +kernel
theorem dX5_add_4 : decode cX5_add 4 = .ok (.bipush 12, 2) := by decide +kernel
theorem dX5_add_6 : decode cX5_add 6 = .ok (.if_icmp .lt 5, 3) := by decide +kernel
theorem dX5_add_9 : decode cX5_add 9 = .ok (.iconst 0, 1) := by decide +kernel
theorem dX5_add_10 : decode cX5_add 10 = .ok (.ireturn, 1) := by decide +kernel
theorem dX5_add_11 : decode cX5_add 11 = .ok (.aload_n 0, 1) := by decide +kernel
theorem dX5_add_12 : decode cX5_add 12 = .ok (.getfield 15, 3) := by decide +kernel
theorem dX5_add_15 : decode cX5_add 15 = .ok (.aload_n 0, 1) := by decide +kernel
theorem dX5_add_16 : decode cX5_add 16 = .ok (.getfield 9, 3) := by decide +kernel
theorem dX5_add_19 : decode cX5_add 19 = .ok (.iload_n 1, 1) := by decide +kernel
theorem dX5_add_20 : decode cX5_add 20 = .ok (.iastore, 1) := by decide +kernel
theorem dX5_add_21 : decode cX5_add 21 = .ok (.aload_n 0, 1) := by decide +kernel
theorem dX5_add_22 : decode cX5_add 22 = .ok (.getfield 19, 3) := by decide +kernel
theorem dX5_add_25 : decode cX5_add 25 = .ok (.aload_n 0, 1) := by decide +kernel
theorem dX5_add_26 : decode cX5_add 26 = .ok (.getfield 9, 3) := by decide +kernel
theorem dX5_add_29 : decode cX5_add 29 = .ok (.iload_n 2, 1) := by decide +kernel
theorem dX5_add_30 : decode cX5_add 30 = .ok (.iastore, 1) := by decide +kernel
theorem dX5_add_31 : decode cX5_add 31 = .ok (.aload_n 0, 1) := by decide +kernel
theorem dX5_add_32 : decode cX5_add 32 = .ok (.getfield 22, 3) := by decide +kernel
theorem dX5_add_35 : decode cX5_add 35 = .ok (.aload_n 0, 1) := by decide +kernel
theorem dX5_add_36 : decode cX5_add 36 = .ok (.getfield 9, 3) := by decide +kernel
theorem dX5_add_39 : decode cX5_add 39 = .ok (.iload_n 3, 1) := by decide +kernel
theorem dX5_add_40 : decode cX5_add 40 = .ok (.iastore, 1) := by decide +kernel
theorem dX5_add_41 : decode cX5_add 41 = .ok (.aload_n 0, 1) := by decide +kernel
theorem dX5_add_42 : decode cX5_add 42 = .ok (.dup, 1) := by decide +kernel
theorem dX5_add_43 : decode cX5_add 43 = .ok (.getfield 9, 3) := by decide +kernel
theorem dX5_add_46 : decode cX5_add 46 = .ok (.iconst 1, 1) := by decide +kernel
theorem dX5_add_47 : decode cX5_add 47 = .ok (.iadd, 1) := by decide +kernel
theorem dX5_add_48 : decode cX5_add 48 = .ok (.putfield 9, 3) := by decide +kernel
theorem dX5_add_51 : decode cX5_add 51 = .ok (.iconst 1, 1) := by decide +kernel
theorem dX5_add_52 : decode cX5_add 52 = .ok (.ireturn, 1) := by decide +kernel
theorem dX5_isOf_0 : decode cX5_isOf 0 = .ok (.aload_n 0, 1) := by decide +kernel
theorem dX5_isOf_1 : decode cX5_isOf 1 = .ok (.getfield 15, 3) := by decide +kernel
theorem dX5_isOf_4 : decode cX5_isOf 4 = .ok (.iload_n 1, 1) := by decide +kernel
theorem dX5_isOf_5 : decode cX5_isOf 5 = .ok (.iaload, 1) := by decide +kernel
theorem dX5_isOf_6 : decode cX5_isOf 6 = .ok (.iload_n 2, 1) := by decide +kernel
theorem dX5_isOf_7 : decode cX5_isOf 7 = .ok (.if_icmp .ne 17, 3) := by decide +kernel
theorem dX5_isOf_10 : decode cX5_isOf 10 = .ok (.aload_n 0, 1) := by decide +kernel
theorem dX5_isOf_11 : decode cX5_isOf 11 = .ok (.getfield 19, 3) := by decide +kernel
theorem dX5_isOf_14 : decode cX5_isOf 14 = .ok (.iload_n 1, 1) := by decide +kernel
theorem dX5_isOf_15 : decode cX5_isOf 15 = .ok (.iaload, 1) := by decide +kernel
theorem dX5_isOf_16 : decode cX5_isOf 16 = .ok (.iload_n 3, 1) := by decide +kernel
theorem dX5_isOf_17 : decode cX5_isOf 17 = .ok (.if_icmp .ne 7, 3) := by decide +kernel
theorem dX5_isOf_20 : decode cX5_isOf 20 = .ok (.iconst 1, 1) := by decide +kernel
theorem dX5_isOf_21 : decode cX5_isOf 21 = .ok (.goto 4, 3) := by decide +kernel
theorem dX5_isOf_24 : decode cX5_isOf 24 = .ok (.iconst 0, 1) := by decide +kernel
theorem dX5_isOf_25 : decode cX5_isOf 25 = .ok (.ireturn, 1) := by decide +kernel
theorem dX5_hasOneOf_0 : decode cX5_hasOneOf 0 = .ok (.iconst 0, 1) := by decide +kernel
theorem dX5_hasOneOf_1 : decode cX5_hasOneOf 1 = .ok (.istore_n 3, 1) := by decide +kernel
theorem dX5_hasOneOf_2 : decode cX5_hasOneOf 2 = .ok (.iload_n 3, 1) := by decide +kernel
theorem dX5_hasOneOf_3 : decode cX5_hasOneOf 3 = .ok (.aload_n 0, 1) := by decide +kernel
theorem dX5_hasOneOf_4 : decode cX5_hasOneOf 4 = .ok (.getfield 9, 3) := by decide +kernel
theorem dX5_hasOneOf_7 : decode cX5_hasOneOf 7 = .ok (.if_icmp .ge 21, 3) := by decide +kernel
theorem dX5_hasOneOf_10 : decode cX5_hasOneOf 10 = .ok (.aload_n 0, 1) := by decide +kernel
theorem dX5_hasOneOf_11 : decode cX5_hasOneOf 11 = .ok (.iload_n 3, 1) := by decide +kernel
theorem dX5_hasOneOf_12 : decode cX5_hasOneOf 12 = .ok (.iload_n 1, 1) := by decide +kernel
theorem dX5_hasOneOf_13 : decode cX5_hasOneOf 13 = .ok (.iload_n 2, 1) := by decide +kernel
theorem dX5_hasOneOf_14 : decode cX5_hasOneOf 14 = .ok (.invokevirtual 31, 3) := by decide +kernel
theorem dX5_hasOneOf_17 : decode cX5_hasOneOf 17 = .ok (.ifCond .eq 5, 3) := by decide +kernel
theorem dX5_hasOneOf_20 : decode cX5_hasOneOf 20 = .ok (.iconst 1, 1) := by decide +kernel
theorem dX5_hasOneOf_21 : decode cX5_hasOneOf 21 = .ok (.ireturn, 1) := by decide +kernel
theorem dX5_hasOneOf_22 : decode cX5_hasOneOf 22 = .ok (.iinc 3 1, 3) := by decide +kernel
theorem dX5_hasOneOf_25 : decode cX5_hasOneOf 25 = .ok (.goto (-23), 3) := by decide +kernel
theorem dX5_hasOneOf_28 : decode cX5_hasOneOf 28 = .ok (.iconst 0, 1) := by decide +kernel
theorem dX5_hasOneOf_29 : decode cX5_hasOneOf 29 = .ok (.ireturn, 1) := by decide +kernel
theorem dX5_guess_0 : decode cX5_guess 0 = .ok (.aload_n 0, 1) := by decide +kernel
theorem dX5_guess_1 : decode cX5_guess 1 = .ok (.iconst 0, 1) := by decide +kernel
theorem dX5_guess_2 : decode cX5_guess 2 = .ok (.putfield 25, 3) := by decide +kernel
theorem dX5_guess_5 : decode cX5_guess 5 = .ok (.iconst 1, 1) := by decide +kernel
theorem dX5_guess_6 : decode cX5_guess 6 = .ok (.istore 4, 2) := by decide +kernel
theorem dX5_guess_8 : decode cX5_guess 8 = .ok (.iload 4, 2) := by decide +kernel
theorem dX5_guess_10 : decode cX5_guess 10 = .ok (.iconst 2, 1) := by decide +kernel
theorem dX5_guess_11 : decode cX5_guess 11 = .ok (.if_icmp .gt 57, 3) := by decide +kernel
theorem dX5_guess_14 : decode cX5_guess 14 = .ok (.iconst 1, 1) := by decide +kernel
theorem dX5_guess_15 : decode cX5_guess 15 = .ok (.istore 5, 2) := by decide +kernel
theorem dX5_guess_17 : decode cX5_guess 17 = .ok (.iload 5, 2) := by decide +kernel
theorem dX5_guess_19 : decode cX5_guess 19 = .ok (.sipush 256, 3) := by decide +kernel
theorem dX5_guess_22 : decode cX5_guess 22 = .ok (.if_icmp .ge 40, 3) := by decide +kernel
theorem dX5_guess_25 : decode cX5_guess 25 = .ok (.iload 5, 2) := by decide +kernel
theorem dX5_guess_27 : decode cX5_guess 27 = .ok (.invokestatic 35, 3) := by decide +kernel
theorem dX5_guess_30 : decode cX5_guess 30 = .ok (.iload 4, 2) := by decide +kernel
theorem dX5_guess_32 : decode cX5_guess 32 = .ok (.if_icmp .ne 24, 3) := by decide +kernel
theorem dX5_guess_35 : decode cX5_guess 35 = .ok (.aload_n 0, 1) := by decide +kernel
theorem dX5_guess_36 : decode cX5_guess 36 = .ok (.iload_n 2, 1) := by decide +kernel
theorem dX5_guess_37 : decode cX5_guess 37 = .ok (.iload_n 3, 1) := by decide +kernel
theorem dX5_guess_38 : decode cX5_guess 38 = .ok (.aload_n 1, 1) := by decide +kernel
theorem dX5_guess_39 : decode cX5_guess 39 = .ok (.iload 5, 2) := by decide +kernel
theorem dX5_guess_41 : decode cX5_guess 41 = .ok (.invokestatic 41, 3) := by decide +kernel
theorem dX5_guess_44 : decode cX5_guess 44 = .ok (.invokevirtual 45, 3) := by decide +kernel
theorem dX5_guess_47 : decode cX5_guess 47 = .ok (.ifCond .eq 9, 3) := by decide +kernel
theorem dX5_guess_50 : decode cX5_guess 50 = .ok (.aload_n 0, 1) := by decide +kernel
theorem dX5_guess_51 : decode cX5_guess 51 = .ok (.iload 5, 2) := by decide +kernel
theorem dX5_guess_53 : decode cX5_guess 53 = .ok (.invokevirtual 48, 3) := by decide +kernel
theorem dX5_guess_56 : decode cX5_guess 56 = .ok (.iinc 5 1, 3) := by decide +kernel
theorem dX5_guess_59 : decode cX5_guess 59 = .ok (.goto (-42), 3) := by decide +kernel
theorem dX5_guess_62 : decode cX5_guess 62 = .ok (.iinc 4 1, 3) := by decide +kernel
theorem dX5_guess_65 : decode cX5_guess 65 = .ok (.goto (-57), 3) := by decide +kernel
theorem dX5_guess_68 : decode cX5_guess 68 = .ok (.return_, 1) := by decide +kernel
theorem dX5_addGuess_0 : decode cX5_addGuess 0 = .ok (.aload_n 0, 1) := by decide +kernel
theorem dX5_addGuess_1 : decode cX5_addGuess 1 = .ok (.getfield 25, 3) := by decide +kernel
theorem dX5_addGuess_4 : decode cX5_addGuess 4 = .ok (.aload_n 0, 1) := by decide +kernel
theorem dX5_addGuess_5 : decode cX5_addGuess 5 = .ok (.getfield 28, 3) := by decide +kernel
theorem dX5_addGuess_8 : decode cX5_addGuess 8 = .ok (.arraylength, 1) := by decide +kernel
theorem dX5_addGuess_9 : decode cX5_addGuess 9 = .ok (.if_icmp .ge 23, 3) := by decide +kernel
theorem dX5_addGuess_12 : decode cX5_addGuess 12 = .ok (.aload_n 0, 1) := by decide +kernel
theorem dX5_addGuess_13 : decode cX5_addGuess 13 = .ok (.getfield 28, 3) := by decide +kernel
theorem dX5_addGuess_16 : decode cX5_addGuess 16 = .ok (.aload_n 0, 1) := by decide +kernel
theorem dX5_addGuess_17 : decode cX5_addGuess 17 = .ok (.getfield 25, 3) := by decide +kernel
theorem dX5_addGuess_20 : decode cX5_addGuess 20 = .ok (.iload_n 1, 1) := by decide +kernel
theorem dX5_addGuess_21 : decode cX5_addGuess 21 = .ok (.iastore, 1) := by decide +kernel
theorem dX5_addGuess_22 : decode cX5_addGuess 22 = .ok (.aload_n 0, 1) := by decide +kernel
theorem dX5_addGuess_23 : decode cX5_addGuess 23 = .ok (.dup, 1) := by decide +kernel
theorem dX5_addGuess_24 : decode cX5_addGuess 24 = .ok (.getfield 25, 3) := by decide +kernel
theorem dX5_addGuess_27 : decode cX5_addGuess 27 = .ok (.iconst 1, 1) := by decide +kernel
theorem dX5_addGuess_28 : decode cX5_addGuess 28 = .ok (.iadd, 1) := by decide +kernel
theorem dX5_addGuess_29 : decode cX5_addGuess 29 = .ok (.putfield 25, 3) := by decide +kernel
theorem dX5_addGuess_32 : decode cX5_addGuess 32 = .ok (.return_, 1) := by decide +kernel
theorem dX5_totalOf_0 : decode cX5_totalOf 0 = .ok (.iconst 0, 1) := by decide +kernel
theorem dX5_totalOf_1 : decode cX5_totalOf 1 = .ok (.istore_n 2, 1) := by decide +kernel
theorem dX5_totalOf_2 : decode cX5_totalOf 2 = .ok (.iconst 0, 1) := by decide +kernel
theorem dX5_totalOf_3 : decode cX5_totalOf 3 = .ok (.istore_n 3, 1) := by decide +kernel
theorem dX5_totalOf_4 : decode cX5_totalOf 4 = .ok (.iload_n 3, 1) := by decide +kernel
theorem dX5_totalOf_5 : decode cX5_totalOf 5 = .ok (.bipush 8, 2) := by decide +kernel
theorem dX5_totalOf_7 : decode cX5_totalOf 7 = .ok (.if_icmp .ge 25, 3) := by decide +kernel
theorem dX5_totalOf_10 : decode cX5_totalOf 10 = .ok (.iload_n 3, 1) := by decide +kernel
theorem dX5_totalOf_11 : decode cX5_totalOf 11 = .ok (.iload_n 1, 1) := by decide +kernel
theorem dX5_totalOf_12 : decode cX5_totalOf 12 = .ok (.invokestatic 52, 3) := by decide +kernel
theorem dX5_totalOf_15 : decode cX5_totalOf 15 = .ok (.ifCond .eq 11, 3) := by decide +kernel
theorem dX5_totalOf_18 : decode cX5_totalOf 18 = .ok (.iload_n 2, 1) := by decide +kernel
theorem dX5_totalOf_19 : decode cX5_totalOf 19 = .ok (.aload_n 0, 1) := by decide +kernel
theorem dX5_totalOf_20 : decode cX5_totalOf 20 = .ok (.iload_n 3, 1) := by decide +kernel
theorem dX5_totalOf_21 : decode cX5_totalOf 21 = .ok (.invokevirtual 56, 3) := by decide +kernel
theorem dX5_totalOf_24 : decode cX5_totalOf 24 = .ok (.iadd, 1) := by decide +kernel
theorem dX5_totalOf_25 : decode cX5_totalOf 25 = .ok (.istore_n 2, 1) := by decide +kernel
theorem dX5_totalOf_26 : decode cX5_totalOf 26 = .ok (.iinc 3 1, 3) := by decide +kernel
theorem dX5_totalOf_29 : decode cX5_totalOf 29 = .ok (.goto (-25), 3) := by decide +kernel
theorem dX5_totalOf_32 : decode cX5_totalOf 32 = .ok (.iload_n 2, 1) := by decide +kernel
theorem dX5_totalOf_33 : decode cX5_totalOf 33 = .ok (.ireturn, 1) := by decide +kernel
theorem dX5_allShowed_0 : decode cX5_allShowed 0 = .ok (.iconst 0, 1) := by decide +kernel
theorem dX5_allShowed_1 : decode cX5_allShowed 1 = .ok (.istore 4, 2) := by decide +kernel
theorem dX5_allShowed_3 : decode cX5_allShowed 3 = .ok (.iload 4, 2) := by decide +kernel
theorem dX5_allShowed_5 : decode cX5_allShowed 5 = .ok (.aload_n 0, 1) := by decide +kernel
theorem dX5_allShowed_6 : decode cX5_allShowed 6 = .ok (.getfield 9, 3) := by decide +kernel
theorem dX5_allShowed_9 : decode cX5_allShowed 9 = .ok (.if_icmp .ge 33, 3) := by decide +kernel
theorem dX5_allShowed_12 : decode cX5_allShowed 12 = .ok (.aload_n 0, 1) := by decide +kernel
theorem dX5_allShowed_13 : decode cX5_allShowed 13 = .ok (.iload 4, 2) := by decide +kernel
theorem dX5_allShowed_15 : decode cX5_allShowed 15 = .ok (.iload_n 1, 1) := by decide +kernel
theorem dX5_allShowed_16 : decode cX5_allShowed 16 = .ok (.iload_n 2, 1) := by decide +kernel
theorem dX5_allShowed_17 : decode cX5_allShowed 17 = .ok (.invokevirtual 31, 3) := by decide +kernel
theorem dX5_allShowed_20 : decode cX5_allShowed 20 = .ok (.ifCond .eq 16, 3) := by decide +kernel
theorem dX5_allShowed_23 : decode cX5_allShowed 23 = .ok (.aload_n 0, 1) := by decide +kernel
theorem dX5_allShowed_24 : decode cX5_allShowed 24 = .ok (.getfield 22, 3) := by decide +kernel
theorem dX5_allShowed_27 : decode cX5_allShowed 27 = .ok (.iload 4, 2) := by decide +kernel
theorem dX5_allShowed_29 : decode cX5_allShowed 29 = .ok (.iaload, 1) := by decide +kernel
theorem dX5_allShowed_30 : decode cX5_allShowed 30 = .ok (.iload_n 3, 1) := by decide +kernel
theorem dX5_allShowed_31 : decode cX5_allShowed 31 = .ok (.if_icmp .eq 5, 3) := by decide +kernel
theorem dX5_allShowed_34 : decode cX5_allShowed 34 = .ok (.iconst 0, 1) := by decide +kernel
theorem dX5_allShowed_35 : decode cX5_allShowed 35 = .ok (.ireturn, 1) := by decide +kernel
theorem dX5_allShowed_36 : decode cX5_allShowed 36 = .ok (.iinc 4 1, 3) := by decide +kernel
theorem dX5_allShowed_39 : decode cX5_allShowed 39 = .ok (.goto (-36), 3) := by decide +kernel
theorem dX5_allShowed_42 : decode cX5_allShowed 42 = .ok (.iconst 1, 1) := by decide +kernel
theorem dX5_allShowed_43 : decode cX5_allShowed 43 = .ok (.ireturn, 1) := by decide +kernel
theorem dX6_init_0 : decode cX6_init 0 = .ok (.aload_n 0, 1) := by decide +kernel
theorem dX6_init_1 : decode cX6_init 1 = .ok (.invokespecial 3, 3) := by decide +kernel
theorem dX6_init_4 : decode cX6_init 4 = .ok (.aload_n 0, 1) := by decide +kernel
theorem dX6_init_5 : decode cX6_init 5 = .ok (.bipush 16, 2) := by decide +kernel
theorem dX6_init_7 : decode cX6_init 7 = .ok (.newarray .int, 2) := by decide +kernel
theorem dX6_init_9 : decode cX6_init 9 = .ok (.putfield 9, 3) := by decide +kernel
theorem dX6_init_12 : decode cX6_init 12 = .ok (.aload_n 0, 1) := by decide +kernel
theorem dX6_init_13 : decode cX6_init 13 = .ok (.iconst 0, 1) := by decide +kernel
theorem dX6_init_14 : decode cX6_init 14 = .ok (.putfield 15, 3) := by decide +kernel
theorem dX6_init_17 : decode cX6_init 17 = .ok (.aload_n 0, 1) := by decide +kernel
theorem dX6_init_18 : decode cX6_init 18 = .ok (.iconst 0, 1) := by decide +kernel
theorem dX6_init_19 : decode cX6_init 19 = .ok (.putfield 19, 3) := by decide +kernel
theorem dX6_init_22 : decode cX6_init 22 = .ok (.return_, 1) := by decide +kernel
theorem dX6_take_0 : decode cX6_take 0 = .ok (.iconst 0, 1) := by decide +kernel
theorem dX6_take_1 : decode cX6_take 1 = .ok (.istore 6, 2) := by decide +kernel
theorem dX6_take_3 : decode cX6_take 3 = .ok (.iload 6, 2) := by decide +kernel
theorem dX6_take_5 : decode cX6_take 5 = .ok (.bipush 16, 2) := by decide +kernel
theorem dX6_take_7 : decode cX6_take 7 = .ok (.if_icmp .ge 17, 3) := by decide +kernel
theorem dX6_take_10 : decode cX6_take 10 = .ok (.aload_n 0, 1) := by decide +kernel
theorem dX6_take_11 : decode cX6_take 11 = .ok (.getfield 9, 3) := by decide +kernel
theorem dX6_take_14 : decode cX6_take 14 = .ok (.iload 6, 2) := by decide +kernel
theorem dX6_take_16 : decode cX6_take 16 = .ok (.iconst 0, 1) := by decide +kernel
theorem dX6_take_17 : decode cX6_take 17 = .ok (.iastore, 1) := by decide +kernel
theorem dX6_take_18 : decode cX6_take 18 = .ok (.iinc 6 1, 3) := by decide +kernel
theorem dX6_take_21 : decode cX6_take 21 = .ok (.goto (-18), 3) := by decide +kernel
theorem dX6_take_24 : decode cX6_take 24 = .ok (.aload_n 0, 1) := by decide +kernel
theorem dX6_take_25 : decode cX6_take 25 = .ok (.iconst 0, 1) := by decide +kernel
theorem dX6_take_26 : decode cX6_take 26 = .ok (.putfield 15, 3) := by decide +kernel
theorem dX6_take_29 : decode cX6_take 29 = .ok (.aload_n 0, 1) := by decide +kernel
theorem dX6_take_30 : decode cX6_take 30 = .ok (.iconst 0, 1) := by decide +kernel
theorem dX6_take_31 : decode cX6_take 31 = .ok (.putfield 19, 3) := by decide +kernel
theorem dX6_take_34 : decode cX6_take 34 = .ok (.iload_n 3, 1) := by decide +kernel
theorem dX6_take_35 : decode cX6_take 35 = .ok (.iconst 1, 1) := by decide +kernel
theorem dX6_take_36 : decode cX6_take 36 = .ok (.if_icmp .ge 4, 3) := by decide +kernel
theorem dX6_take_39 : decode cX6_take 39 = .ok (.return_, 1) := by decide +kernel
theorem dX6_take_40 : decode cX6_take 40 = .ok (.iload 4, 2) := by decide +kernel
theorem dX6_take_42 : decode cX6_take 42 = .ok (.istore 6, 2) := by decide +kernel
theorem dX6_take_44 : decode cX6_take 44 = .ok (.iconst 0, 1) := by decide +kernel
theorem dX6_take_45 : decode cX6_take 45 = .ok (.istore 7, 2) := by decide +kernel
theorem dX6_take_47 : decode cX6_take 47 = .ok (.iload 7, 2) := by decide +kernel
theorem dX6_take_49 : decode cX6_take 49 = .ok (.aload_n 1, 1) := by decide +kernel
theorem dX6_take_50 : decode cX6_take 50 = .ok (.getfield 22, 3) := by decide +kernel
theorem dX6_take_53 : decode cX6_take 53 = .ok (.if_icmp .ge 54, 3) := by decide +kernel
theorem dX6_take_56 : decode cX6_take 56 = .ok (.iload 6, 2) := by decide +kernel
theorem dX6_take_58 : decode cX6_take 58 = .ok (.aload_n 1, 1) := by decide +kernel
theorem dX6_take_59 : decode cX6_take 59 = .ok (.getfield 27, 3) := by decide +kernel
theorem dX6_take_62 : decode cX6_take 62 = .ok (.aload_n 1, 1) := by decide +kernel
theorem dX6_take_63 : decode cX6_take 63 = .ok (.getfield 31, 3) := by decide +kernel
theorem dX6_take_66 : decode cX6_take 66 = .ok (.iload 7, 2) := by decide +kernel
theorem dX6_take_68 : decode cX6_take 68 = .ok (.baload, 1) := by decide +kernel
theorem dX6_take_69 : decode cX6_take 69 = .ok (.aaload, 1) := by decide +kernel
theorem dX6_take_70 : decode cX6_take 70 = .ok (.iload_n 2, 1) := by decide +kernel
theorem dX6_take_71 : decode cX6_take 71 = .ok (.iaload, 1) := by decide +kernel
theorem dX6_take_72 : decode cX6_take 72 = .ok (.iadd, 1) := by decide +kernel
theorem dX6_take_73 : decode cX6_take 73 = .ok (.istore 6, 2) := by decide +kernel
theorem dX6_take_75 : decode cX6_take 75 = .ok (.iload 6, 2) := by decide +kernel
theorem dX6_take_77 : decode cX6_take 77 = .ok (.iload_n 3, 1) := by decide +kernel
theorem dX6_take_78 : decode cX6_take 78 = .ok (.if_icmp .lt 23, 3) := by decide +kernel
theorem dX6_take_81 : decode cX6_take 81 = .ok (.aload_n 0, 1) := by decide +kernel
theorem dX6_take_82 : decode cX6_take 82 = .ok (.aload_n 1, 1) := by decide +kernel
theorem dX6_take_83 : decode cX6_take 83 = .ok (.iload 7, 2) := by decide +kernel
theorem dX6_take_85 : decode cX6_take 85 = .ok (.iload 5, 2) := by decide +kernel
theorem dX6_take_87 : decode cX6_take 87 = .ok (.iadd, 1) := by decide +kernel
theorem dX6_take_88 : decode cX6_take 88 = .ok (.iload 6, 2) := by decide +kernel
theorem dX6_take_90 : decode cX6_take 90 = .ok (.iload_n 3, 1) := by decide +kernel
theorem dX6_take_91 : decode cX6_take 91 = .ok (.idiv, 1) := by decide +kernel
theorem dX6_take_92 : decode cX6_take 92 = .ok (.invokevirtual 35, 3) := by decide +kernel
theorem dX6_take_95 : decode cX6_take 95 = .ok (.iload 6, 2) := by decide +kernel
theorem dX6_take_97 : decode cX6_take 97 = .ok (.iload_n 3, 1) := by decide +kernel
theorem dX6_take_98 : decode cX6_take 98 = .ok (.irem, 1) := by decide +kernel
theorem dX6_take_99 : decode cX6_take 99 = .ok (.istore 6, 2) := by decide +kernel
theorem dX6_take_101 : decode cX6_take 101 = .ok (.iinc 7 1, 3) := by decide +kernel
theorem dX6_take_104 : decode cX6_take 104 = .ok (.goto (-57), 3) := by decide +kernel
theorem dX6_take_107 : decode cX6_take 107 = .ok (.return_, 1) := by decide +kernel
theorem dX6_show_0 : decode cX6_show 0 = .ok (.iload_n 2, 1) := by decide +kernel
theorem dX6_show_1 : decode cX6_show 1 = .ok (.aload_n 1, 1) := by decide +kernel
theorem dX6_show_2 : decode cX6_show 2 = .ok (.getfield 22, 3) := by decide +kernel
theorem dX6_show_5 : decode cX6_show 5 = .ok (.if_icmp .ge 31, 3) := by decide +kernel
theorem dX6_show_8 : decode cX6_show 8 = .ok (.aload_n 0, 1) := by decide +kernel
theorem dX6_show_9 : decode cX6_show 9 = .ok (.getfield 9, 3) := by decide +kernel
theorem dX6_show_12 : decode cX6_show 12 = .ok (.aload_n 1, 1) := by decide +kernel
theorem dX6_show_13 : decode cX6_show 13 = .ok (.getfield 31, 3) := by decide +kernel
theorem dX6_show_16 : decode cX6_show 16 = .ok (.iload_n 2, 1) := by decide +kernel
theorem dX6_show_17 : decode cX6_show 17 = .ok (.baload, 1) := by decide +kernel
theorem dX6_show_18 : decode cX6_show 18 = .ok (.dup2, 1) := by decide +kernel
theorem dX6_show_19 : decode cX6_show 19 = .ok (.iaload, 1) := by decide +kernel
theorem dX6_show_20 : decode cX6_show 20 = .ok (.iload_n 3, 1) := by decide +kernel
theorem dX6_show_21 : decode cX6_show 21 = .ok (.iadd, 1) := by decide +kernel
theorem dX6_show_22 : decode cX6_show 22 = .ok (.iastore, 1) := by decide +kernel
theorem dX6_show_23 : decode cX6_show 23 = .ok (.aload_n 0, 1) := by decide +kernel
theorem dX6_show_24 : decode cX6_show 24 = .ok (.dup, 1) := by decide +kernel
theorem dX6_show_25 : decode cX6_show 25 = .ok (.getfield 15, 3) := by decide +kernel
theorem dX6_show_28 : decode cX6_show 28 = .ok (.iload_n 3, 1) := by decide +kernel
theorem dX6_show_29 : decode cX6_show 29 = .ok (.iadd, 1) := by decide +kernel
theorem dX6_show_30 : decode cX6_show 30 = .ok (.putfield 15, 3) := by decide +kernel
theorem dX6_show_33 : decode cX6_show 33 = .ok (.goto 13, 3) := by decide +kernel
theorem dX6_show_36 : decode cX6_show 36 = .ok (.aload_n 0, 1) := by decide +kernel
theorem dX6_show_37 : decode cX6_show 37 = .ok (.dup, 1) := by decide +kernel
theorem dX6_show_38 : decode cX6_show 38 = .ok (.getfield 19, 3) := by decide +kernel
theorem dX6_show_41 : decode cX6_show 41 = .ok (.iload_n 3, 1) := by decide +kernel
theorem dX6_show_42 : decode cX6_show 42 = .ok (.iadd, 1) := by decide +kernel
theorem dX6_show_43 : decode cX6_show 43 = .ok (.putfield 19, 3) := by decide +kernel
theorem dX6_show_46 : decode cX6_show 46 = .ok (.return_, 1) := by decide +kernel
theorem dX6_linesShown_0 : decode cX6_linesShown 0 = .ok (.iconst 0, 1) := by decide +kernel
theorem dX6_linesShown_1 : decode cX6_linesShown 1 = .ok (.istore_n 1, 1) := by decide +kernel
theorem dX6_linesShown_2 : decode cX6_linesShown 2 = .ok (.iconst 0, 1) := by decide +kernel
theorem dX6_linesShown_3 : decode cX6_linesShown 3 = .ok (.istore_n 2, 1) := by decide +kernel
theorem dX6_linesShown_4 : decode cX6_linesShown 4 = .ok (.iload_n 2, 1) := by decide +kernel
theorem dX6_linesShown_5 : decode cX6_linesShown 5 = .ok (.bipush 16, 2) := by decide +kernel
theorem dX6_linesShown_7 : decode cX6_linesShown 7 = .ok (.if_icmp .ge 24, 3) := by decide +kernel
theorem dX6_linesShown_10 : decode cX6_linesShown 10 = .ok (.aload_n 0, 1) := by decide +kernel
theorem dX6_linesShown_11 : decode cX6_linesShown 11 = .ok (.getfield 9, 3) := by decide +kernel
theorem dX6_linesShown_14 : decode cX6_linesShown 14 = .ok (.iload_n 2, 1) := by decide +kernel
theorem dX6_linesShown_15 : decode cX6_linesShown 15 = .ok (.iaload, 1) := by decide +kernel
theorem dX6_linesShown_16 : decode cX6_linesShown 16 = .ok (.ifCond .le 9, 3) := by decide +kernel
theorem dX6_linesShown_19 : decode cX6_linesShown 19 = .ok (.iload_n 1, 1) := by decide +kernel
theorem dX6_linesShown_20 : decode cX6_linesShown 20 = .ok (.iconst 1, 1) := by decide +kernel
theorem dX6_linesShown_21 : decode cX6_linesShown 21 = .ok (.iload_n 2, 1) := by decide +kernel
theorem dX6_linesShown_22 : decode cX6_linesShown 22 = .ok (.ishl, 1) := by decide +kernel
theorem dX6_linesShown_23 : decode cX6_linesShown 23 = .ok (.ior, 1) := by decide +kernel
theorem dX6_linesShown_24 : decode cX6_linesShown 24 = .ok (.istore_n 1, 1) := by decide +kernel
theorem dX6_linesShown_25 : decode cX6_linesShown 25 = .ok (.iinc 2 1, 3) := by decide +kernel
theorem dX6_linesShown_28 : decode cX6_linesShown 28 = .ok (.goto (-24), 3) := by decide +kernel
theorem dX6_linesShown_31 : decode cX6_linesShown 31 = .ok (.iload_n 1, 1) := by decide +kernel
theorem dX6_linesShown_32 : decode cX6_linesShown 32 = .ok (.ireturn, 1) := by decide +kernel
theorem dX6_lineShownMost_0 : decode cX6_lineShownMost 0 = .ok (.bipush (-4), 2) := by decide +kernel
theorem dX6_lineShownMost_2 : decode cX6_lineShownMost 2 = .ok (.istore_n 1, 1) := by decide +kernel
theorem dX6_lineShownMost_3 : decode cX6_lineShownMost 3 = .ok (.iconst 0, 1) := by decide +kernel
theorem dX6_lineShownMost_4 : decode cX6_lineShownMost 4 = .ok (.istore_n 2, 1) := by decide +kernel
theorem dX6_lineShownMost_5 : decode cX6_lineShownMost 5 = .ok (.iconst 0, 1) := by decide +kernel
theorem dX6_lineShownMost_6 : decode cX6_lineShownMost 6 = .ok (.istore_n 3, 1) := by decide +kernel
theorem dX6_lineShownMost_7 : decode cX6_lineShownMost 7 = .ok (.iload_n 3, 1) := by decide +kernel
theorem dX6_lineShownMost_8 : decode cX6_lineShownMost 8 = .ok (.bipush 16, 2) := by decide +kernel
theorem dX6_lineShownMost_10 : decode cX6_lineShownMost 10 = .ok (.if_icmp .ge 28, 3) := by decide +kernel
theorem dX6_lineShownMost_13 : decode cX6_lineShownMost 13 = .ok (.aload_n 0, 1) := by decide +kernel
theorem dX6_lineShownMost_14 : decode cX6_lineShownMost 14 = .ok (.getfield 9, 3) := by decide +kernel
theorem dX6_lineShownMost_17 : decode cX6_lineShownMost 17 = .ok (.iload_n 3, 1) := by decide +kernel
theorem dX6_lineShownMost_18 : decode cX6_lineShownMost 18 = .ok (.iaload, 1) := by decide +kernel
theorem dX6_lineShownMost_19 : decode cX6_lineShownMost 19 = .ok (.iload_n 2, 1) := by decide +kernel
theorem dX6_lineShownMost_20 : decode cX6_lineShownMost 20 = .ok (.if_icmp .le 12, 3) := by decide +kernel
theorem dX6_lineShownMost_23 : decode cX6_lineShownMost 23 = .ok (.iload_n 3, 1) := by decide +kernel
theorem dX6_lineShownMost_24 : decode cX6_lineShownMost 24 = .ok (.istore_n 1, 1) := by decide +kernel
theorem dX6_lineShownMost_25 : decode cX6_lineShownMost 25 = .ok (.aload_n 0, 1) := by decide +kernel
theorem dX6_lineShownMost_26 : decode cX6_lineShownMost 26 = .ok (.getfield 9, 3) := by decide +kernel
theorem dX6_lineShownMost_29 : decode cX6_lineShownMost 29 = .ok (.iload_n 3, 1) := by decide +kernel
theorem dX6_lineShownMost_30 : decode cX6_lineShownMost 30 = .ok (.iaload, 1) := by decide +kernel
theorem dX6_lineShownMost_31 : decode cX6_lineShownMost 31 = .ok (.istore_n 2, 1) := by decide +kernel
theorem dX6_lineShownMost_32 : decode cX6_lineShownMost 32 = .ok (.iinc 3 1, 3) := by decide +kernel
theorem dX6_lineShownMost_35 : decode cX6_lineShownMost 35 = .ok (.goto (-28), 3) := by decide +kernel
theorem dX6_lineShownMost_38 : decode cX6_lineShownMost 38 = .ok (.iload_n 1, 1) := by decide +kernel
theorem dX6_lineShownMost_39 : decode cX6_lineShownMost 39 = .ok (.ireturn, 1) := by decide +kernel
theorem dX6_farFrom_0 : decode cX6_farFrom 0 = .ok (.aload_n 1, 1) := by decide +kernel
theorem dX6_farFrom_1 : decode cX6_farFrom 1 = .ok (.iload_n 2, 1) := by decide +kernel
theorem dX6_farFrom_2 : decode cX6_farFrom 2 = .ok (.invokevirtual 39, 3) := by decide +kernel
theorem dX6_farFrom_5 : decode cX6_farFrom 5 = .ok (.i2l, 1) := by decide +kernel
theorem dX6_farFrom_6 : decode cX6_farFrom 6 = .ok (.lstore_n 3, 1) := by decide +kernel
theorem dX6_farFrom_7 : decode cX6_farFrom 7 = .ok (.lconst 0, 1) := by decide +kernel
theorem dX6_farFrom_8 : decode cX6_farFrom 8 = .ok (.lstore 5, 2) := by decide +kernel
theorem dX6_farFrom_10 : decode cX6_farFrom 10 = .ok (.iconst 0, 1) := by decide +kernel
theorem dX6_farFrom_11 : decode cX6_farFrom 11 = .ok (.istore 7, 2) := by decide +kernel
theorem dX6_farFrom_13 : decode cX6_farFrom 13 = .ok (.iload 7, 2) := by decide +kernel
theorem dX6_farFrom_15 : decode cX6_farFrom 15 = .ok (.bipush 16, 2) := by decide +kernel
theorem dX6_farFrom_17 : decode cX6_farFrom 17 = .ok (.if_icmp .ge 42, 3) := by decide +kernel
theorem dX6_farFrom_20 : decode cX6_farFrom 20 = .ok (.lload 5, 2) := by decide +kernel
theorem dX6_farFrom_22 : decode cX6_farFrom 22 = .ok (.aload_n 0, 1) := by decide +kernel
theorem dX6_farFrom_23 : decode cX6_farFrom 23 = .ok (.getfield 9, 3) := by decide +kernel
theorem dX6_farFrom_26 : decode cX6_farFrom 26 = .ok (.iload 7, 2) := by decide +kernel
theorem dX6_farFrom_28 : decode cX6_farFrom 28 = .ok (.iaload, 1) := by decide +kernel
theorem dX6_farFrom_29 : decode cX6_farFrom 29 = .ok (.i2l, 1) := by decide +kernel
theorem dX6_farFrom_30 : decode cX6_farFrom 30 = .ok (.lload_n 3, 1) := by decide +kernel
theorem dX6_farFrom_31 : decode cX6_farFrom 31 = .ok (.lmul, 1) := by decide +kernel
theorem dX6_farFrom_32 : decode cX6_farFrom 32 = .ok (.aload_n 1, 1) := by decide +kernel
theorem dX6_farFrom_33 : decode cX6_farFrom 33 = .ok (.iload 7, 2) := by decide +kernel
theorem dX6_farFrom_35 : decode cX6_farFrom 35 = .ok (.iload_n 2, 1) := by decide +kernel
theorem dX6_farFrom_36 : decode cX6_farFrom 36 = .ok (.invokevirtual 43, 3) := by decide +kernel
theorem dX6_farFrom_39 : decode cX6_farFrom 39 = .ok (.i2l, 1) := by decide +kernel
theorem dX6_farFrom_40 : decode cX6_farFrom 40 = .ok (.aload_n 0, 1) := by decide +kernel
theorem dX6_farFrom_41 : decode cX6_farFrom 41 = .ok (.getfield 15, 3) := by decide +kernel
theorem dX6_farFrom_44 : decode cX6_farFrom 44 = .ok (.i2l, 1) := by decide +kernel
theorem dX6_farFrom_45 : decode cX6_farFrom 45 = .ok (.lmul, 1) := by decide +kernel
theorem dX6_farFrom_46 : decode cX6_farFrom 46 = .ok (.lsub, 1) := by decide +kernel
theorem dX6_farFrom_47 : decode cX6_farFrom 47 = .ok (.invokestatic 47, 3) := by decide +kernel
theorem dX6_farFrom_50 : decode cX6_farFrom 50 = .ok (.ladd, 1) := by decide +kernel
theorem dX6_farFrom_51 : decode cX6_farFrom 51 = .ok (.lstore 5, 2) := by decide +kernel
theorem dX6_farFrom_53 : decode cX6_farFrom 53 = .ok (.iinc 7 1, 3) := by decide +kernel
theorem dX6_farFrom_56 : decode cX6_farFrom 56 = .ok (.goto (-43), 3) := by decide +kernel
theorem dX6_farFrom_59 : decode cX6_farFrom 59 = .ok (.lload 5, 2) := by decide +kernel
theorem dX6_farFrom_61 : decode cX6_farFrom 61 = .ok (.lreturn, 1) := by decide +kernel
theorem dX7_init_0 : decode cX7_init 0 = .ok (.aload_n 0, 1) := by decide +kernel
theorem dX7_init_1 : decode cX7_init 1 = .ok (.invokespecial 3, 3) := by decide +kernel
theorem dX7_init_4 : decode cX7_init 4 = .ok (.aload_n 0, 1) := by decide +kernel
theorem dX7_init_5 : decode cX7_init 5 = .ok (.iconst 4, 1) := by decide +kernel
theorem dX7_init_6 : decode cX7_init 6 = .ok (.newarray .int, 2) := by decide +kernel
theorem dX7_init_8 : decode cX7_init 8 = .ok (.putfield 11, 3) := by decide +kernel
theorem dX7_init_11 : decode cX7_init 11 = .ok (.aload_n 0, 1) := by decide +kernel
theorem dX7_init_12 : decode cX7_init 12 = .ok (.iconst 4, 1) := by decide +kernel
theorem dX7_init_13 : decode cX7_init 13 = .ok (.newarray .int, 2) := by decide +kernel
theorem dX7_init_15 : decode cX7_init 15 = .ok (.dup, 1) := by decide +kernel
theorem dX7_init_16 : decode cX7_init 16 = .ok (.iconst 0, 1) := by decide +kernel
theorem dX7_init_17 : decode cX7_init 17 = .ok (.iconst (-1), 1) := by decide +kernel
theorem dX7_init_18 : decode cX7_init 18 = .ok (.iastore, 1) := by decide +kernel
theorem dX7_init_19 : decode cX7_init 19 = .ok (.dup, 1) := by decide +kernel
theorem dX7_init_20 : decode cX7_init 20 = .ok (.iconst 1, 1) := by decide +kernel
theorem dX7_init_21 : decode cX7_init 21 = .ok (.iconst (-1), 1) := by decide +kernel
theorem dX7_init_22 : decode cX7_init 22 = .ok (.iastore, 1) := by decide +kernel
theorem dX7_init_23 : decode cX7_init 23 = .ok (.dup, 1) := by decide +kernel
theorem dX7_init_24 : decode cX7_init 24 = .ok (.iconst 2, 1) := by decide +kernel
theorem dX7_init_25 : decode cX7_init 25 = .ok (.iconst (-1), 1) := by decide +kernel
theorem dX7_init_26 : decode cX7_init 26 = .ok (.iastore, 1) := by decide +kernel
theorem dX7_init_27 : decode cX7_init 27 = .ok (.dup, 1) := by decide +kernel
theorem dX7_init_28 : decode cX7_init 28 = .ok (.iconst 3, 1) := by decide +kernel
theorem dX7_init_29 : decode cX7_init 29 = .ok (.iconst (-1), 1) := by decide +kernel
theorem dX7_init_30 : decode cX7_init 30 = .ok (.iastore, 1) := by decide +kernel
theorem dX7_init_31 : decode cX7_init 31 = .ok (.putfield 15, 3) := by decide +kernel
theorem dX7_init_34 : decode cX7_init 34 = .ok (.aload_n 0, 1) := by decide +kernel
theorem dX7_init_35 : decode cX7_init 35 = .ok (.iconst 4, 1) := by decide +kernel
theorem dX7_init_36 : decode cX7_init 36 = .ok (.bipush 40, 2) := by decide +kernel
theorem dX7_init_38 : decode cX7_init 38 = .ok (.multianewarray 18 2, 4) := by decide +kernel
theorem dX7_init_42 : decode cX7_init 42 = .ok (.putfield 20, 3) := by decide +kernel
theorem dX7_init_45 : decode cX7_init 45 = .ok (.return_, 1) := by decide +kernel
theorem dX7_has_0 : decode cX7_has 0 = .ok (.iload_n 1, 1) := by decide +kernel
theorem dX7_has_1 : decode cX7_has 1 = .ok (.ifCond .lt 12, 3) := by decide +kernel
theorem dX7_has_4 : decode cX7_has 4 = .ok (.iload_n 1, 1) := by decide +kernel
theorem dX7_has_5 : decode cX7_has 5 = .ok (.iconst 4, 1) := by decide +kernel
theorem dX7_has_6 : decode cX7_has 6 = .ok (.if_icmp .ge 7, 3) := by decide +kernel
theorem dX7_has_9 : decode cX7_has 9 = .ok (.iconst 1, 1) := by decide +kernel
theorem dX7_has_10 : decode cX7_has 10 = .ok (.goto 4, 3) := by decide +kernel
theorem dX7_has_13 : decode cX7_has 13 = .ok (.iconst 0, 1) := by decide +kernel
theorem dX7_has_14 : decode cX7_has 14 = .ok (.ireturn, 1) := by decide +kernel
theorem dX7_hasLane_0 : decode cX7_hasLane 0 = .ok (.iload_n 1, 1) := by decide +kernel
theorem dX7_hasLane_1 : decode cX7_hasLane 1 = .ok (.ifCond .lt 12, 3) := by decide +kernel
theorem dX7_hasLane_4 : decode cX7_hasLane 4 = .ok (.iload_n 1, 1) := by decide +kernel
theorem dX7_hasLane_5 : decode cX7_hasLane 5 = .ok (.iconst 2, 1) := by decide +kernel
theorem dX7_hasLane_6 : decode cX7_hasLane 6 = .ok (.if_icmp .gt 7, 3) := by decide +kernel
theorem dX7_hasLane_9 : decode cX7_hasLane 9 = .ok (.iconst 1, 1) := by decide +kernel
theorem dX7_hasLane_10 : decode cX7_hasLane 10 = .ok (.goto 4, 3) := by decide +kernel
theorem dX7_hasLane_13 : decode cX7_hasLane 13 = .ok (.iconst 0, 1) := by decide +kernel
theorem dX7_hasLane_14 : decode cX7_hasLane 14 = .ok (.ireturn, 1) := by decide +kernel
theorem dX7_renew_0 : decode cX7_renew 0 = .ok (.aload_n 0, 1) := by decide +kernel
theorem dX7_renew_1 : decode cX7_renew 1 = .ok (.getfield 11, 3) := by decide +kernel
theorem dX7_renew_4 : decode cX7_renew 4 = .ok (.iload_n 1, 1) := by decide +kernel
theorem dX7_renew_5 : decode cX7_renew 5 = .ok (.iload_n 2, 1) := by decide +kernel
theorem dX7_renew_6 : decode cX7_renew 6 = .ok (.iastore, 1) := by decide +kernel
theorem dX7_renew_7 : decode cX7_renew 7 = .ok (.aload_n 0, 1) := by decide +kernel
theorem dX7_renew_8 : decode cX7_renew 8 = .ok (.getfield 15, 3) := by decide +kernel
theorem dX7_renew_11 : decode cX7_renew 11 = .ok (.iload_n 1, 1) := by decide +kernel
theorem dX7_renew_12 : decode cX7_renew 12 = .ok (.iload_n 3, 1) := by decide +kernel
theorem dX7_renew_13 : decode cX7_renew 13 = .ok (.iastore, 1) := by decide +kernel
theorem dX7_renew_14 : decode cX7_renew 14 = .ok (.iconst 0, 1) := by decide +kernel
theorem dX7_renew_15 : decode cX7_renew 15 = .ok (.istore 4, 2) := by decide +kernel
theorem dX7_renew_17 : decode cX7_renew 17 = .ok (.iload 4, 2) := by decide +kernel
theorem dX7_renew_19 : decode cX7_renew 19 = .ok (.bipush 40, 2) := by decide +kernel
theorem dX7_renew_21 : decode cX7_renew 21 = .ok (.if_icmp .ge 19, 3) := by decide +kernel
theorem dX7_renew_24 : decode cX7_renew 24 = .ok (.aload_n 0, 1) := by decide +kernel
theorem dX7_renew_25 : decode cX7_renew 25 = .ok (.getfield 20, 3) := by decide +kernel
theorem dX7_renew_28 : decode cX7_renew 28 = .ok (.iload_n 1, 1) := by decide +kernel
theorem dX7_renew_29 : decode cX7_renew 29 = .ok (.aaload, 1) := by decide +kernel
theorem dX7_renew_30 : decode cX7_renew 30 = .ok (.iload 4, 2) := by decide +kernel
theorem dX7_renew_32 : decode cX7_renew 32 = .ok (.iconst 0, 1) := by decide +kernel
theorem dX7_renew_33 : decode cX7_renew 33 = .ok (.iastore, 1) := by decide +kernel
theorem dX7_renew_34 : decode cX7_renew 34 = .ok (.iinc 4 1, 3) := by decide +kernel
theorem dX7_renew_37 : decode cX7_renew 37 = .ok (.goto (-20), 3) := by decide +kernel
theorem dX7_renew_40 : decode cX7_renew 40 = .ok (.return_, 1) := by decide +kernel
theorem dX7_put_0 : decode cX7_put 0 = .ok (.aload_n 0, 1) := by decide +kernel
theorem dX7_put_1 : decode cX7_put 1 = .ok (.getfield 15, 3) := by decide +kernel
theorem dX7_put_4 : decode cX7_put 4 = .ok (.iload_n 1, 1) := by decide +kernel
theorem dX7_put_5 : decode cX7_put 5 = .ok (.iaload, 1) := by decide +kernel
theorem dX7_put_6 : decode cX7_put 6 = .ok (.ifCond .ge 6, 3) := by decide +kernel
theorem dX7_put_9 : decode cX7_put 9 = .ok (.bipush (-11), 2) := by decide +kernel
theorem dX7_put_11 : decode cX7_put 11 = .ok (.ireturn, 1) := by decide +kernel
theorem dX7_put_12 : decode cX7_put 12 = .ok (.iload_n 2, 1) := by decide +kernel
theorem dX7_put_13 : decode cX7_put 13 = .ok (.ifCond .lt 13, 3) := by decide +kernel
theorem dX7_put_16 : decode cX7_put 16 = .ok (.iload_n 2, 1) := by decide +kernel
theorem dX7_put_17 : decode cX7_put 17 = .ok (.aload_n 0, 1) := by decide +kernel
theorem dX7_put_18 : decode cX7_put 18 = .ok (.getfield 15, 3) := by decide +kernel
theorem dX7_put_21 : decode cX7_put 21 = .ok (.iload_n 1, 1) := by decide +kernel
theorem dX7_put_22 : decode cX7_put 22 = .ok (.iaload, 1) := by decide +kernel
theorem dX7_put_23 : decode cX7_put 23 = .ok (.if_icmp .lt 6, 3) := by decide +kernel
theorem dX7_put_26 : decode cX7_put 26 = .ok (.bipush (-12), 2) := by decide +kernel
theorem dX7_put_28 : decode cX7_put 28 = .ok (.ireturn, 1) := by decide +kernel
theorem dX7_put_29 : decode cX7_put 29 = .ok (.aload_n 0, 1) := by decide +kernel
theorem dX7_put_30 : decode cX7_put 30 = .ok (.getfield 20, 3) := by decide +kernel
theorem dX7_put_33 : decode cX7_put 33 = .ok (.iload_n 1, 1) := by decide +kernel
theorem dX7_put_34 : decode cX7_put 34 = .ok (.aaload, 1) := by decide +kernel
theorem dX7_put_35 : decode cX7_put 35 = .ok (.iload_n 2, 1) := by decide +kernel
theorem dX7_put_36 : decode cX7_put 36 = .ok (.aload_n 0, 1) := by decide +kernel
theorem dX7_put_37 : decode cX7_put 37 = .ok (.getfield 11, 3) := by decide +kernel
theorem dX7_put_40 : decode cX7_put 40 = .ok (.iload_n 1, 1) := by decide +kernel
theorem dX7_put_41 : decode cX7_put 41 = .ok (.iaload, 1) := by decide +kernel
theorem dX7_put_42 : decode cX7_put 42 = .ok (.iload_n 3, 1) := by decide +kernel
theorem dX7_put_43 : decode cX7_put 43 = .ok (.invokestatic 23, 3) := by decide +kernel
theorem dX7_put_46 : decode cX7_put 46 = .ok (.iastore, 1) := by decide +kernel
theorem dX7_put_47 : decode cX7_put 47 = .ok (.iconst 1, 1) := by decide +kernel
theorem dX7_put_48 : decode cX7_put 48 = .ok (.ireturn, 1) := by decide +kernel
theorem dX7_lowestBits_0 : decode cX7_lowestBits 0 = .ok (.iload_n 0, 1) := by decide +kernel
theorem dX7_lowestBits_1 : decode cX7_lowestBits 1 = .ok (.ifCond .ne 6, 3) := by decide +kernel
theorem dX7_lowestBits_4 : decode cX7_lowestBits 4 = .ok (.iload_n 1, 1) := by decide +kernel
theorem dX7_lowestBits_5 : decode cX7_lowestBits 5 = .ok (.i2b, 1) := by decide +kernel
theorem dX7_lowestBits_6 : decode cX7_lowestBits 6 = .ok (.ireturn, 1) := by decide +kernel
theorem dX7_lowestBits_7 : decode cX7_lowestBits 7 = .ok (.iload_n 0, 1) := by decide +kernel
theorem dX7_lowestBits_8 : decode cX7_lowestBits 8 = .ok (.iconst 1, 1) := by decide +kernel
theorem dX7_lowestBits_9 : decode cX7_lowestBits 9 = .ok (.if_icmp .ne 8, 3) := by decide +kernel
theorem dX7_lowestBits_12 : decode cX7_lowestBits 12 = .ok (.iload_n 1, 1) := by decide +kernel
theorem dX7_lowestBits_13 : decode cX7_lowestBits 13 = .ok (.i2s, 1) := by decide +kernel
theorem dX7_lowestBits_14 : decode cX7_lowestBits 14 = .ok (.goto 4, 3) := by decide +kernel
theorem dX7_lowestBits_17 : decode cX7_lowestBits 17 = .ok (.iload_n 1, 1) := by decide +kernel
theorem dX7_lowestBits_18 : decode cX7_lowestBits 18 = .ok (.ireturn, 1) := by decide +kernel
theorem dX7_faultOf_0 : decode cX7_faultOf 0 = .ok (.aload_n 0, 1) := by decide +kernel
theorem dX7_faultOf_1 : decode cX7_faultOf 1 = .ok (.getfield 15, 3) := by decide +kernel
theorem dX7_faultOf_4 : decode cX7_faultOf 4 = .ok (.iload_n 1, 1) := by decide +kernel
theorem dX7_faultOf_5 : decode cX7_faultOf 5 = .ok (.iaload, 1) := by decide +kernel
theorem dX7_faultOf_6 : decode cX7_faultOf 6 = .ok (.ifCond .ge 6, 3) := by decide +kernel
theorem dX7_faultOf_9 : decode cX7_faultOf 9 = .ok (.bipush (-11), 2) := by decide +kernel
theorem dX7_faultOf_11 : decode cX7_faultOf 11 = .ok (.ireturn, 1) := by decide +kernel
theorem dX7_faultOf_12 : decode cX7_faultOf 12 = .ok (.aload_n 0, 1) := by decide +kernel
theorem dX7_faultOf_13 : decode cX7_faultOf 13 = .ok (.getfield 11, 3) := by decide +kernel
theorem dX7_faultOf_16 : decode cX7_faultOf 16 = .ok (.iload_n 1, 1) := by decide +kernel
theorem dX7_faultOf_17 : decode cX7_faultOf 17 = .ok (.iaload, 1) := by decide +kernel
theorem dX7_faultOf_18 : decode cX7_faultOf 18 = .ok (.iload_n 2, 1) := by decide +kernel
theorem dX7_faultOf_19 : decode cX7_faultOf 19 = .ok (.if_icmp .eq 6, 3) := by decide +kernel
theorem dX7_faultOf_22 : decode cX7_faultOf 22 = .ok (.bipush (-13), 2) := by decide +kernel
theorem dX7_faultOf_24 : decode cX7_faultOf 24 = .ok (.ireturn, 1) := by decide +kernel
theorem dX7_faultOf_25 : decode cX7_faultOf 25 = .ok (.iconst 0, 1) := by decide +kernel
theorem dX7_faultOf_26 : decode cX7_faultOf 26 = .ok (.istore 5, 2) := by decide +kernel
theorem dX7_faultOf_28 : decode cX7_faultOf 28 = .ok (.iload 5, 2) := by decide +kernel
theorem dX7_faultOf_30 : decode cX7_faultOf 30 = .ok (.iload 4, 2) := by decide +kernel
theorem dX7_faultOf_32 : decode cX7_faultOf 32 = .ok (.if_icmp .ge 74, 3) := by decide +kernel
theorem dX7_faultOf_35 : decode cX7_faultOf 35 = .ok (.iload_n 3, 1) := by decide +kernel
theorem dX7_faultOf_36 : decode cX7_faultOf 36 = .ok (.i2l, 1) := by decide +kernel
theorem dX7_faultOf_37 : decode cX7_faultOf 37 = .ok (.iload 5, 2) := by decide +kernel
theorem dX7_faultOf_39 : decode cX7_faultOf 39 = .ok (.i2l, 1) := by decide +kernel
theorem dX7_faultOf_40 : decode cX7_faultOf 40 = .ok (.ladd, 1) := by decide +kernel
theorem dX7_faultOf_41 : decode cX7_faultOf 41 = .ok (.lstore 6, 2) := by decide +kernel
theorem dX7_faultOf_43 : decode cX7_faultOf 43 = .ok (.lload 6, 2) := by decide +kernel
theorem dX7_faultOf_45 : decode cX7_faultOf 45 = .ok (.lconst 0, 1) := by decide +kernel
theorem dX7_faultOf_46 : decode cX7_faultOf 46 = .ok (.lcmp, 1) := by decide +kernel
theorem dX7_faultOf_47 : decode cX7_faultOf 47 = .ok (.ifCond .lt 16, 3) := by decide +kernel
theorem dX7_faultOf_50 : decode cX7_faultOf 50 = .ok (.lload 6, 2) := by decide +kernel
theorem dX7_faultOf_52 : decode cX7_faultOf 52 = .ok (.aload_n 0, 1) := by decide +kernel
theorem dX7_faultOf_53 : decode cX7_faultOf 53 = .ok (.getfield 15, 3) := by decide +kernel
theorem dX7_faultOf_56 : decode cX7_faultOf 56 = .ok (.iload_n 1, 1) := by decide +kernel
theorem dX7_faultOf_57 : decode cX7_faultOf 57 = .ok (.iaload, 1) := by decide +kernel
theorem dX7_faultOf_58 : decode cX7_faultOf 58 = .ok (.i2l, 1) := by decide +kernel
theorem dX7_faultOf_59 : decode cX7_faultOf 59 = .ok (.lcmp, 1) := by decide +kernel
theorem dX7_faultOf_60 : decode cX7_faultOf 60 = .ok (.ifCond .lt 6, 3) := by decide +kernel
theorem dX7_faultOf_63 : decode cX7_faultOf 63 = .ok (.bipush (-12), 2) := by decide +kernel
theorem dX7_faultOf_65 : decode cX7_faultOf 65 = .ok (.ireturn, 1) := by decide +kernel
theorem dX7_faultOf_66 : decode cX7_faultOf 66 = .ok (.aload_n 0, 1) := by decide +kernel
theorem dX7_faultOf_67 : decode cX7_faultOf 67 = .ok (.getfield 20, 3) := by decide +kernel
theorem dX7_faultOf_70 : decode cX7_faultOf 70 = .ok (.iload_n 1, 1) := by decide +kernel
theorem dX7_faultOf_71 : decode cX7_faultOf 71 = .ok (.aaload, 1) := by decide +kernel
theorem dX7_faultOf_72 : decode cX7_faultOf 72 = .ok (.lload 6, 2) := by decide +kernel
theorem dX7_faultOf_74 : decode cX7_faultOf 74 = .ok (.l2i, 1) := by decide +kernel
theorem dX7_faultOf_75 : decode cX7_faultOf 75 = .ok (.iaload, 1) := by decide +kernel
theorem dX7_faultOf_76 : decode cX7_faultOf 76 = .ok (.ifCond .lt 18, 3) := by decide +kernel
theorem dX7_faultOf_79 : decode cX7_faultOf 79 = .ok (.aload_n 0, 1) := by decide +kernel
theorem dX7_faultOf_80 : decode cX7_faultOf 80 = .ok (.getfield 20, 3) := by decide +kernel
theorem dX7_faultOf_83 : decode cX7_faultOf 83 = .ok (.iload_n 1, 1) := by decide +kernel
theorem dX7_faultOf_84 : decode cX7_faultOf 84 = .ok (.aaload, 1) := by decide +kernel
theorem dX7_faultOf_85 : decode cX7_faultOf 85 = .ok (.lload 6, 2) := by decide +kernel
theorem dX7_faultOf_87 : decode cX7_faultOf 87 = .ok (.l2i, 1) := by decide +kernel
theorem dX7_faultOf_88 : decode cX7_faultOf 88 = .ok (.iaload, 1) := by decide +kernel
theorem dX7_faultOf_89 : decode cX7_faultOf 89 = .ok (.ldc 27, 2) := by decide +kernel
theorem dX7_faultOf_91 : decode cX7_faultOf 91 = .ok (.if_icmp .le 9, 3) := by decide +kernel
theorem dX7_faultOf_94 : decode cX7_faultOf 94 = .ok (.bipush (-20), 2) := by decide +kernel
theorem dX7_faultOf_96 : decode cX7_faultOf 96 = .ok (.iload 5, 2) := by decide +kernel
theorem dX7_faultOf_98 : decode cX7_faultOf 98 = .ok (.isub, 1) := by decide +kernel
theorem dX7_faultOf_99 : decode cX7_faultOf 99 = .ok (.ireturn, 1) := by decide +kernel
theorem dX7_faultOf_100 : decode cX7_faultOf 100 = .ok (.iinc 5 1, 3) := by decide +kernel
theorem dX7_faultOf_103 : decode cX7_faultOf 103 = .ok (.goto (-75), 3) := by decide +kernel
theorem dX7_faultOf_106 : decode cX7_faultOf 106 = .ok (.iconst 0, 1) := by decide +kernel
theorem dX7_faultOf_107 : decode cX7_faultOf 107 = .ok (.ireturn, 1) := by decide +kernel
theorem dX7_compare_0 : decode cX7_compare 0 = .ok (.iconst 0, 1) := by decide +kernel
theorem dX7_compare_1 : decode cX7_compare 1 = .ok (.istore 6, 2) := by decide +kernel
theorem dX7_compare_3 : decode cX7_compare 3 = .ok (.bipush (-4), 2) := by decide +kernel
theorem dX7_compare_5 : decode cX7_compare 5 = .ok (.istore 7, 2) := by decide +kernel
theorem dX7_compare_7 : decode cX7_compare 7 = .ok (.iconst 0, 1) := by decide +kernel
theorem dX7_compare_8 : decode cX7_compare 8 = .ok (.istore 8, 2) := by decide +kernel
theorem dX7_compare_10 : decode cX7_compare 10 = .ok (.iconst 0, 1) := by decide +kernel
theorem dX7_compare_11 : decode cX7_compare 11 = .ok (.istore 9, 2) := by decide +kernel
theorem dX7_compare_13 : decode cX7_compare 13 = .ok (.iconst 0, 1) := by decide +kernel
theorem dX7_compare_14 : decode cX7_compare 14 = .ok (.istore 10, 2) := by decide +kernel
theorem dX7_compare_16 : decode cX7_compare 16 = .ok (.iload 10, 2) := by decide +kernel
theorem dX7_compare_18 : decode cX7_compare 18 = .ok (.aload_n 3, 1) := by decide +kernel
theorem dX7_compare_19 : decode cX7_compare 19 = .ok (.getfield 28, 3) := by decide +kernel
theorem dX7_compare_22 : decode cX7_compare 22 = .ok (.if_icmp .ge 76, 3) := by decide +kernel
theorem dX7_compare_25 : decode cX7_compare 25 = .ok (.aload_n 0, 1) := by decide +kernel
theorem dX7_compare_26 : decode cX7_compare 26 = .ok (.getfield 20, 3) := by decide +kernel
theorem dX7_compare_29 : decode cX7_compare 29 = .ok (.iload_n 1, 1) := by decide +kernel
theorem dX7_compare_30 : decode cX7_compare 30 = .ok (.aaload, 1) := by decide +kernel
theorem dX7_compare_31 : decode cX7_compare 31 = .ok (.iload_n 2, 1) := by decide +kernel
theorem dX7_compare_32 : decode cX7_compare 32 = .ok (.iload 10, 2) := by decide +kernel
theorem dX7_compare_34 : decode cX7_compare 34 = .ok (.iadd, 1) := by decide +kernel
theorem dX7_compare_35 : decode cX7_compare 35 = .ok (.iaload, 1) := by decide +kernel
theorem dX7_compare_36 : decode cX7_compare 36 = .ok (.aload_n 3, 1) := by decide +kernel
theorem dX7_compare_37 : decode cX7_compare 37 = .ok (.iload 10, 2) := by decide +kernel
theorem dX7_compare_39 : decode cX7_compare 39 = .ok (.iload 4, 2) := by decide +kernel
theorem dX7_compare_41 : decode cX7_compare 41 = .ok (.invokevirtual 34, 3) := by decide +kernel
theorem dX7_compare_44 : decode cX7_compare 44 = .ok (.isub, 1) := by decide +kernel
theorem dX7_compare_45 : decode cX7_compare 45 = .ok (.istore 11, 2) := by decide +kernel
theorem dX7_compare_47 : decode cX7_compare 47 = .ok (.iload 11, 2) := by decide +kernel
theorem dX7_compare_49 : decode cX7_compare 49 = .ok (.ifCond .ne 9, 3) := by decide +kernel
theorem dX7_compare_52 : decode cX7_compare 52 = .ok (.iinc 6 1, 3) := by decide +kernel
theorem dX7_compare_55 : decode cX7_compare 55 = .ok (.goto 14, 3) := by decide +kernel
theorem dX7_compare_58 : decode cX7_compare 58 = .ok (.iload 7, 2) := by decide +kernel
theorem dX7_compare_60 : decode cX7_compare 60 = .ok (.bipush (-4), 2) := by decide +kernel
theorem dX7_compare_62 : decode cX7_compare 62 = .ok (.if_icmp .ne 7, 3) := by decide +kernel
theorem dX7_compare_65 : decode cX7_compare 65 = .ok (.iload 10, 2) := by decide +kernel
theorem dX7_compare_67 : decode cX7_compare 67 = .ok (.istore 7, 2) := by decide +kernel
theorem dX7_compare_69 : decode cX7_compare 69 = .ok (.iload 8, 2) := by decide +kernel
theorem dX7_compare_71 : decode cX7_compare 71 = .ok (.iload 11, 2) := by decide +kernel
theorem dX7_compare_73 : decode cX7_compare 73 = .ok (.iconst 0, 1) := by decide +kernel
theorem dX7_compare_74 : decode cX7_compare 74 = .ok (.invokestatic 37, 3) := by decide +kernel
theorem dX7_compare_77 : decode cX7_compare 77 = .ok (.iadd, 1) := by decide +kernel
theorem dX7_compare_78 : decode cX7_compare 78 = .ok (.istore 8, 2) := by decide +kernel
theorem dX7_compare_80 : decode cX7_compare 80 = .ok (.iload 9, 2) := by decide +kernel
theorem dX7_compare_82 : decode cX7_compare 82 = .ok (.iload 11, 2) := by decide +kernel
theorem dX7_compare_84 : decode cX7_compare 84 = .ok (.ineg, 1) := by decide +kernel
theorem dX7_compare_85 : decode cX7_compare 85 = .ok (.iconst 0, 1) := by decide +kernel
theorem dX7_compare_86 : decode cX7_compare 86 = .ok (.invokestatic 37, 3) := by decide +kernel
theorem dX7_compare_89 : decode cX7_compare 89 = .ok (.iadd, 1) := by decide +kernel
theorem dX7_compare_90 : decode cX7_compare 90 = .ok (.istore 9, 2) := by decide +kernel
theorem dX7_compare_92 : decode cX7_compare 92 = .ok (.iinc 10 1, 3) := by decide +kernel
theorem dX7_compare_95 : decode cX7_compare 95 = .ok (.goto (-79), 3) := by decide +kernel
theorem dX7_compare_98 : decode cX7_compare 98 = .ok (.iload 5, 2) := by decide +kernel
theorem dX7_compare_100 : decode cX7_compare 100 = .ok (.tableswitch 37 0 2 #[28, 31, 34], 28) := by decide +kernel
theorem dX7_compare_128 : decode cX7_compare 128 = .ok (.iload 6, 2) := by decide +kernel
theorem dX7_compare_130 : decode cX7_compare 130 = .ok (.ireturn, 1) := by decide +kernel
theorem dX7_compare_131 : decode cX7_compare 131 = .ok (.iload 7, 2) := by decide +kernel
theorem dX7_compare_133 : decode cX7_compare 133 = .ok (.ireturn, 1) := by decide +kernel
theorem dX7_compare_134 : decode cX7_compare 134 = .ok (.iload 8, 2) := by decide +kernel
theorem dX7_compare_136 : decode cX7_compare 136 = .ok (.ireturn, 1) := by decide +kernel
theorem dX7_compare_137 : decode cX7_compare 137 = .ok (.iload 9, 2) := by decide +kernel
theorem dX7_compare_139 : decode cX7_compare 139 = .ok (.ireturn, 1) := by decide +kernel
theorem dX8_init_0 : decode cX8_init 0 = .ok (.aload_n 0, 1) := by decide +kernel
theorem dX8_init_1 : decode cX8_init 1 = .ok (.invokespecial 1, 3) := by decide +kernel
theorem dX8_init_4 : decode cX8_init 4 = .ok (.aload_n 0, 1) := by decide +kernel
theorem dX8_init_5 : decode cX8_init 5 = .ok (.sipush 320, 3) := by decide +kernel
theorem dX8_init_8 : decode cX8_init 8 = .ok (.newarray .byte, 2) := by decide +kernel
theorem dX8_init_10 : decode cX8_init 10 = .ok (.putfield 9, 3) := by decide +kernel
theorem dX8_init_13 : decode cX8_init 13 = .ok (.aload_n 0, 1) := by decide +kernel
theorem dX8_init_14 : decode cX8_init 14 = .ok (.iconst 0, 1) := by decide +kernel
theorem dX8_init_15 : decode cX8_init 15 = .ok (.putfield 13, 3) := by decide +kernel
theorem dX8_init_18 : decode cX8_init 18 = .ok (.return_, 1) := by decide +kernel
theorem dX8_addEight_0 : decode cX8_addEight 0 = .ok (.aload_n 0, 1) := by decide +kernel
theorem dX8_addEight_1 : decode cX8_addEight 1 = .ok (.getfield 13, 3) := by decide +kernel
theorem dX8_addEight_4 : decode cX8_addEight 4 = .ok (.bipush 8, 2) := by decide +kernel
theorem dX8_addEight_6 : decode cX8_addEight 6 = .ok (.iadd, 1) := by decide +kernel
theorem dX8_addEight_7 : decode cX8_addEight 7 = .ok (.sipush 320, 3) := by decide +kernel
theorem dX8_addEight_10 : decode cX8_addEight 10 = .ok (.if_icmp .le 5, 3) := by decide +kernel
theorem dX8_addEight_13 : decode cX8_addEight 13 = .ok (.iconst 0, 1) := by decide +kernel
theorem dX8_addEight_14 : decode cX8_addEight 14 = .ok (.ireturn, 1) := by decide +kernel
theorem dX8_addEight_15 : decode cX8_addEight 15 = .ok (.bipush 56, 2) := by decide +kernel
theorem dX8_addEight_17 : decode cX8_addEight 17 = .ok (.istore_n 3, 1) := by decide +kernel
theorem dX8_addEight_18 : decode cX8_addEight 18 = .ok (.iload_n 3, 1) := by decide +kernel
theorem dX8_addEight_19 : decode cX8_addEight 19 = .ok (.ifCond .lt 33, 3) := by decide +kernel
theorem dX8_addEight_22 : decode cX8_addEight 22 = .ok (.aload_n 0, 1) := by decide +kernel
theorem dX8_addEight_23 : decode cX8_addEight 23 = .ok (.getfield 9, 3) := by decide +kernel
theorem dX8_addEight_26 : decode cX8_addEight 26 = .ok (.aload_n 0, 1) := by decide +kernel
theorem dX8_addEight_27 : decode cX8_addEight 27 = .ok (.getfield 13, 3) := by decide +kernel
theorem dX8_addEight_30 : decode cX8_addEight 30 = .ok (.lload_n 1, 1) := by decide +kernel
theorem dX8_addEight_31 : decode cX8_addEight 31 = .ok (.iload_n 3, 1) := by decide +kernel
theorem dX8_addEight_32 : decode cX8_addEight 32 = .ok (.lshr, 1) := by decide +kernel
theorem dX8_addEight_33 : decode cX8_addEight 33 = .ok (.l2i, 1) := by decide +kernel
theorem dX8_addEight_34 : decode cX8_addEight 34 = .ok (.i2b, 1) := by decide +kernel
theorem dX8_addEight_35 : decode cX8_addEight 35 = .ok (.bastore, 1) := by decide +kernel
theorem dX8_addEight_36 : decode cX8_addEight 36 = .ok (.aload_n 0, 1) := by decide +kernel
theorem dX8_addEight_37 : decode cX8_addEight 37 = .ok (.dup, 1) := by decide +kernel
theorem dX8_addEight_38 : decode cX8_addEight 38 = .ok (.getfield 13, 3) := by decide +kernel
theorem dX8_addEight_41 : decode cX8_addEight 41 = .ok (.iconst 1, 1) := by decide +kernel
theorem dX8_addEight_42 : decode cX8_addEight 42 = .ok (.iadd, 1) := by decide +kernel
theorem dX8_addEight_43 : decode cX8_addEight 43 = .ok (.putfield 13, 3) := by decide +kernel
theorem dX8_addEight_46 : decode cX8_addEight 46 = .ok (.iinc 3 (-8), 3) := by decide +kernel
theorem dX8_addEight_49 : decode cX8_addEight 49 = .ok (.goto (-31), 3) := by decide +kernel
theorem dX8_addEight_52 : decode cX8_addEight 52 = .ok (.iconst 1, 1) := by decide +kernel
theorem dX8_addEight_53 : decode cX8_addEight 53 = .ok (.ireturn, 1) := by decide +kernel
theorem dX9_init_0 : decode cX9_init 0 = .ok (.aload_n 0, 1) := by decide +kernel
theorem dX9_init_1 : decode cX9_init 1 = .ok (.invokespecial 1, 3) := by decide +kernel
theorem dX9_init_4 : decode cX9_init 4 = .ok (.aload_n 0, 1) := by decide +kernel
theorem dX9_init_5 : decode cX9_init 5 = .ok (.iconst 0, 1) := by decide +kernel
theorem dX9_init_6 : decode cX9_init 6 = .ok (.putfield 7, 3) := by decide +kernel
theorem dX9_init_9 : decode cX9_init 9 = .ok (.aload_n 0, 1) := by decide +kernel
theorem dX9_init_10 : decode cX9_init 10 = .ok (.iconst 0, 1) := by decide +kernel
theorem dX9_init_11 : decode cX9_init 11 = .ok (.putfield 13, 3) := by decide +kernel
theorem dX9_init_14 : decode cX9_init 14 = .ok (.return_, 1) := by decide +kernel
theorem dX9_take_0 : decode cX9_take 0 = .ok (.aload_n 0, 1) := by decide +kernel
theorem dX9_take_1 : decode cX9_take 1 = .ok (.iconst 0, 1) := by decide +kernel
theorem dX9_take_2 : decode cX9_take 2 = .ok (.putfield 7, 3) := by decide +kernel
theorem dX9_take_5 : decode cX9_take 5 = .ok (.aload_n 0, 1) := by decide +kernel
theorem dX9_take_6 : decode cX9_take 6 = .ok (.iconst 0, 1) := by decide +kernel
theorem dX9_take_7 : decode cX9_take 7 = .ok (.putfield 13, 3) := by decide +kernel
theorem dX9_take_10 : decode cX9_take 10 = .ok (.iload_n 3, 1) := by decide +kernel
theorem dX9_take_11 : decode cX9_take 11 = .ok (.iconst 1, 1) := by decide +kernel
theorem dX9_take_12 : decode cX9_take 12 = .ok (.if_icmp .ge 4, 3) := by decide +kernel
theorem dX9_take_15 : decode cX9_take 15 = .ok (.return_, 1) := by decide +kernel
theorem dX9_take_16 : decode cX9_take 16 = .ok (.iconst 0, 1) := by decide +kernel
theorem dX9_take_17 : decode cX9_take 17 = .ok (.istore 6, 2) := by decide +kernel
theorem dX9_take_19 : decode cX9_take 19 = .ok (.iload 6, 2) := by decide +kernel
theorem dX9_take_21 : decode cX9_take 21 = .ok (.aload_n 1, 1) := by decide +kernel
theorem dX9_take_22 : decode cX9_take 22 = .ok (.getfield 16, 3) := by decide +kernel
theorem dX9_take_25 : decode cX9_take 25 = .ok (.if_icmp .ge 67, 3) := by decide +kernel
theorem dX9_take_28 : decode cX9_take 28 = .ok (.aload_n 1, 1) := by decide +kernel
theorem dX9_take_29 : decode cX9_take 29 = .ok (.iload 6, 2) := by decide +kernel
theorem dX9_take_31 : decode cX9_take 31 = .ok (.iload_n 2, 1) := by decide +kernel
theorem dX9_take_32 : decode cX9_take 32 = .ok (.invokevirtual 21, 3) := by decide +kernel
theorem dX9_take_35 : decode cX9_take 35 = .ok (.iload_n 3, 1) := by decide +kernel
theorem dX9_take_36 : decode cX9_take 36 = .ok (.irem, 1) := by decide +kernel
theorem dX9_take_37 : decode cX9_take 37 = .ok (.iload 4, 2) := by decide +kernel
theorem dX9_take_39 : decode cX9_take 39 = .ok (.if_icmp .ne 47, 3) := by decide +kernel
theorem dX9_take_42 : decode cX9_take 42 = .ok (.aload_n 1, 1) := by decide +kernel
theorem dX9_take_43 : decode cX9_take 43 = .ok (.getfield 25, 3) := by decide +kernel
theorem dX9_take_46 : decode cX9_take 46 = .ok (.iload 6, 2) := by decide +kernel
theorem dX9_take_48 : decode cX9_take 48 = .ok (.baload, 1) := by decide +kernel
theorem dX9_take_49 : decode cX9_take 49 = .ok (.istore 7, 2) := by decide +kernel
theorem dX9_take_51 : decode cX9_take 51 = .ok (.aload_n 0, 1) := by decide +kernel
theorem dX9_take_52 : decode cX9_take 52 = .ok (.dup, 1) := by decide +kernel
theorem dX9_take_53 : decode cX9_take 53 = .ok (.getfield 7, 3) := by decide +kernel
theorem dX9_take_56 : decode cX9_take 56 = .ok (.aload_n 1, 1) := by decide +kernel
theorem dX9_take_57 : decode cX9_take 57 = .ok (.getfield 29, 3) := by decide +kernel
theorem dX9_take_60 : decode cX9_take 60 = .ok (.iload 7, 2) := by decide +kernel
theorem dX9_take_62 : decode cX9_take 62 = .ok (.aaload, 1) := by decide +kernel
theorem dX9_take_63 : decode cX9_take 63 = .ok (.iload 5, 2) := by decide +kernel
theorem dX9_take_65 : decode cX9_take 65 = .ok (.iaload, 1) := by decide +kernel
theorem dX9_take_66 : decode cX9_take 66 = .ok (.iadd, 1) := by decide +kernel
theorem dX9_take_67 : decode cX9_take 67 = .ok (.putfield 7, 3) := by decide +kernel
theorem dX9_take_70 : decode cX9_take 70 = .ok (.aload_n 0, 1) := by decide +kernel
theorem dX9_take_71 : decode cX9_take 71 = .ok (.dup, 1) := by decide +kernel
theorem dX9_take_72 : decode cX9_take 72 = .ok (.getfield 13, 3) := by decide +kernel
theorem dX9_take_75 : decode cX9_take 75 = .ok (.aload_n 1, 1) := by decide +kernel
theorem dX9_take_76 : decode cX9_take 76 = .ok (.getfield 33, 3) := by decide +kernel
theorem dX9_take_79 : decode cX9_take 79 = .ok (.iload 7, 2) := by decide +kernel
theorem dX9_take_81 : decode cX9_take 81 = .ok (.iaload, 1) := by decide +kernel
theorem dX9_take_82 : decode cX9_take 82 = .ok (.iadd, 1) := by decide +kernel
theorem dX9_take_83 : decode cX9_take 83 = .ok (.putfield 13, 3) := by decide +kernel
theorem dX9_take_86 : decode cX9_take 86 = .ok (.iinc 6 1, 3) := by decide +kernel
theorem dX9_take_89 : decode cX9_take 89 = .ok (.goto (-70), 3) := by decide +kernel
theorem dX9_take_92 : decode cX9_take 92 = .ok (.return_, 1) := by decide +kernel
theorem dX9_scaledUp_0 : decode cX9_scaledUp 0 = .ok (.aload_n 0, 1) := by decide +kernel
theorem dX9_scaledUp_1 : decode cX9_scaledUp 1 = .ok (.getfield 7, 3) := by decide +kernel
theorem dX9_scaledUp_4 : decode cX9_scaledUp 4 = .ok (.i2l, 1) := by decide +kernel
theorem dX9_scaledUp_5 : decode cX9_scaledUp 5 = .ok (.aload_n 1, 1) := by decide +kernel
theorem dX9_scaledUp_6 : decode cX9_scaledUp 6 = .ok (.invokevirtual 36, 3) := by decide +kernel
theorem dX9_scaledUp_9 : decode cX9_scaledUp 9 = .ok (.i2l, 1) := by decide +kernel
theorem dX9_scaledUp_10 : decode cX9_scaledUp 10 = .ok (.lmul, 1) := by decide +kernel
theorem dX9_scaledUp_11 : decode cX9_scaledUp 11 = .ok (.lreturn, 1) := by decide +kernel
theorem dX9_off_0 : decode cX9_off 0 = .ok (.aload_n 0, 1) := by decide +kernel
theorem dX9_off_1 : decode cX9_off 1 = .ok (.aload_n 1, 1) := by decide +kernel
theorem dX9_off_2 : decode cX9_off 2 = .ok (.invokevirtual 40, 3) := by decide +kernel
theorem dX9_off_5 : decode cX9_off 5 = .ok (.aload_n 1, 1) := by decide +kernel
theorem dX9_off_6 : decode cX9_off 6 = .ok (.iload_n 2, 1) := by decide +kernel
theorem dX9_off_7 : decode cX9_off 7 = .ok (.invokevirtual 44, 3) := by decide +kernel
theorem dX9_off_10 : decode cX9_off 10 = .ok (.i2l, 1) := by decide +kernel
theorem dX9_off_11 : decode cX9_off 11 = .ok (.aload_n 0, 1) := by decide +kernel
theorem dX9_off_12 : decode cX9_off 12 = .ok (.getfield 13, 3) := by decide +kernel
theorem dX9_off_15 : decode cX9_off 15 = .ok (.i2l, 1) := by decide +kernel
theorem dX9_off_16 : decode cX9_off 16 = .ok (.lmul, 1) := by decide +kernel
theorem dX9_off_17 : decode cX9_off 17 = .ok (.lsub, 1) := by decide +kernel
theorem dX9_off_18 : decode cX9_off 18 = .ok (.lreturn, 1) := by decide +kernel
theorem dX10_init_0 : decode cX10_init 0 = .ok (.aload_n 0, 1) := by decide +kernel
theorem dX10_init_1 : decode cX10_init 1 = .ok (.invokespecial 1, 3) := by decide +kernel
theorem dX10_init_4 : decode cX10_init 4 = .ok (.aload_n 0, 1) := by decide +kernel
theorem dX10_init_5 : decode cX10_init 5 = .ok (.new 7, 3) := by decide +kernel
theorem dX10_init_8 : decode cX10_init 8 = .ok (.dup, 1) := by decide +kernel
theorem dX10_init_9 : decode cX10_init 9 = .ok (.invokespecial 9, 3) := by decide +kernel
theorem dX10_init_12 : decode cX10_init 12 = .ok (.putfield 10, 3) := by decide +kernel
theorem dX10_init_15 : decode cX10_init 15 = .ok (.aload_n 0, 1) := by decide +kernel
theorem dX10_init_16 : decode cX10_init 16 = .ok (.new 16, 3) := by decide +kernel
theorem dX10_init_19 : decode cX10_init 19 = .ok (.dup, 1) := by decide +kernel
theorem dX10_init_20 : decode cX10_init 20 = .ok (.invokespecial 18, 3) := by decide +kernel
theorem dX10_init_23 : decode cX10_init 23 = .ok (.putfield 19, 3) := by decide +kernel
theorem dX10_init_26 : decode cX10_init 26 = .ok (.aload_n 0, 1) := by decide +kernel
theorem dX10_init_27 : decode cX10_init 27 = .ok (.new 16, 3) := by decide +kernel
theorem dX10_init_30 : decode cX10_init 30 = .ok (.dup, 1) := by decide +kernel
theorem dX10_init_31 : decode cX10_init 31 = .ok (.invokespecial 18, 3) := by decide +kernel
theorem dX10_init_34 : decode cX10_init 34 = .ok (.putfield 23, 3) := by decide +kernel
theorem dX10_init_37 : decode cX10_init 37 = .ok (.aload_n 0, 1) := by decide +kernel
theorem dX10_init_38 : decode cX10_init 38 = .ok (.new 26, 3) := by decide +kernel
theorem dX10_init_41 : decode cX10_init 41 = .ok (.dup, 1) := by decide +kernel
theorem dX10_init_42 : decode cX10_init 42 = .ok (.aload_n 0, 1) := by decide +kernel
theorem dX10_init_43 : decode cX10_init 43 = .ok (.getfield 10, 3) := by decide +kernel
theorem dX10_init_46 : decode cX10_init 46 = .ok (.aload_n 0, 1) := by decide +kernel
theorem dX10_init_47 : decode cX10_init 47 = .ok (.getfield 23, 3) := by decide +kernel
theorem dX10_init_50 : decode cX10_init 50 = .ok (.invokespecial 28, 3) := by decide +kernel
theorem dX10_init_53 : decode cX10_init 53 = .ok (.putfield 31, 3) := by decide +kernel
theorem dX10_init_56 : decode cX10_init 56 = .ok (.aload_n 0, 1) := by decide +kernel
theorem dX10_init_57 : decode cX10_init 57 = .ok (.new 35, 3) := by decide +kernel
theorem dX10_init_60 : decode cX10_init 60 = .ok (.dup, 1) := by decide +kernel
theorem dX10_init_61 : decode cX10_init 61 = .ok (.invokespecial 37, 3) := by decide +kernel
theorem dX10_init_64 : decode cX10_init 64 = .ok (.putfield 38, 3) := by decide +kernel
theorem dX10_init_67 : decode cX10_init 67 = .ok (.aload_n 0, 1) := by decide +kernel
theorem dX10_init_68 : decode cX10_init 68 = .ok (.new 42, 3) := by decide +kernel
theorem dX10_init_71 : decode cX10_init 71 = .ok (.dup, 1) := by decide +kernel
theorem dX10_init_72 : decode cX10_init 72 = .ok (.invokespecial 44, 3) := by decide +kernel
theorem dX10_init_75 : decode cX10_init 75 = .ok (.putfield 45, 3) := by decide +kernel
theorem dX10_init_78 : decode cX10_init 78 = .ok (.aload_n 0, 1) := by decide +kernel
theorem dX10_init_79 : decode cX10_init 79 = .ok (.new 49, 3) := by decide +kernel
theorem dX10_init_82 : decode cX10_init 82 = .ok (.dup, 1) := by decide +kernel
theorem dX10_init_83 : decode cX10_init 83 = .ok (.invokespecial 51, 3) := by decide +kernel
theorem dX10_init_86 : decode cX10_init 86 = .ok (.putfield 52, 3) := by decide +kernel
theorem dX10_init_89 : decode cX10_init 89 = .ok (.aload_n 0, 1) := by decide +kernel
