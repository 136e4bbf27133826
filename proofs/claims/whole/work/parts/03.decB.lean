theorem dX10_init_90 : decode cX10_init 90 = .ok (.new 56, 3) := by decide +kernel
theorem dX10_init_93 : decode cX10_init 93 = .ok (.dup, 1) := by decide +kernel
theorem dX10_init_94 : decode cX10_init 94 = .ok (.invokespecial 58, 3) := by decide +kernel
theorem dX10_init_97 : decode cX10_init 97 = .ok (.putfield 59, 3) := by decide +kernel
theorem dX10_init_100 : decode cX10_init 100 = .ok (.aload_n 0, 1) := by decide +kernel
theorem dX10_init_101 : decode cX10_init 101 = .ok (.new 63, 3) := by decide +kernel
theorem dX10_init_104 : decode cX10_init 104 = .ok (.dup, 1) := by decide +kernel
theorem dX10_init_105 : decode cX10_init 105 = .ok (.invokespecial 65, 3) := by decide +kernel
theorem dX10_init_108 : decode cX10_init 108 = .ok (.putfield 66, 3) := by decide +kernel
theorem dX10_init_111 : decode cX10_init 111 = .ok (.aload_n 0, 1) := by decide +kernel
theorem dX10_init_112 : decode cX10_init 112 = .ok (.new 70, 3) := by decide +kernel
theorem dX10_init_115 : decode cX10_init 115 = .ok (.dup, 1) := by decide +kernel
theorem dX10_init_116 : decode cX10_init 116 = .ok (.invokespecial 72, 3) := by decide +kernel
theorem dX10_init_119 : decode cX10_init 119 = .ok (.putfield 73, 3) := by decide +kernel
theorem dX10_init_122 : decode cX10_init 122 = .ok (.aload_n 0, 1) := by decide +kernel
theorem dX10_init_123 : decode cX10_init 123 = .ok (.new 77, 3) := by decide +kernel
theorem dX10_init_126 : decode cX10_init 126 = .ok (.dup, 1) := by decide +kernel
theorem dX10_init_127 : decode cX10_init 127 = .ok (.invokespecial 79, 3) := by decide +kernel
theorem dX10_init_130 : decode cX10_init 130 = .ok (.putfield 80, 3) := by decide +kernel
theorem dX10_init_133 : decode cX10_init 133 = .ok (.aload_n 0, 1) := by decide +kernel
theorem dX10_init_134 : decode cX10_init 134 = .ok (.iconst 0, 1) := by decide +kernel
theorem dX10_init_135 : decode cX10_init 135 = .ok (.putfield 84, 3) := by decide +kernel
theorem dX10_init_138 : decode cX10_init 138 = .ok (.aload_n 0, 1) := by decide +kernel
theorem dX10_init_139 : decode cX10_init 139 = .ok (.getfield 45, 3) := by decide +kernel
theorem dX10_init_142 : decode cX10_init 142 = .ok (.iconst 2, 1) := by decide +kernel
theorem dX10_init_143 : decode cX10_init 143 = .ok (.invokevirtual 88, 3) := by decide +kernel
theorem dX10_init_146 : decode cX10_init 146 = .ok (.return_, 1) := by decide +kernel
theorem dX10_feed_0 : decode cX10_feed 0 = .ok (.aload_n 0, 1) := by decide +kernel
theorem dX10_feed_1 : decode cX10_feed 1 = .ok (.getfield 10, 3) := by decide +kernel
theorem dX10_feed_4 : decode cX10_feed 4 = .ok (.lload_n 1, 1) := by decide +kernel
theorem dX10_feed_5 : decode cX10_feed 5 = .ok (.invokevirtual 92, 3) := by decide +kernel
theorem dX10_feed_8 : decode cX10_feed 8 = .ok (.ifCond .eq 13, 3) := by decide +kernel
theorem dX10_feed_11 : decode cX10_feed 11 = .ok (.aload_n 0, 1) := by decide +kernel
theorem dX10_feed_12 : decode cX10_feed 12 = .ok (.getfield 10, 3) := by decide +kernel
theorem dX10_feed_15 : decode cX10_feed 15 = .ok (.getfield 96, 3) := by decide +kernel
theorem dX10_feed_18 : decode cX10_feed 18 = .ok (.goto 5, 3) := by decide +kernel
theorem dX10_feed_21 : decode cX10_feed 21 = .ok (.bipush (-3), 2) := by decide +kernel
theorem dX10_feed_23 : decode cX10_feed 23 = .ok (.ireturn, 1) := by decide +kernel
theorem dX10_end_0 : decode cX10_end 0 = .ok (.iload_n 1, 1) := by decide +kernel
theorem dX10_end_1 : decode cX10_end 1 = .ok (.ifCond .lt 14, 3) := by decide +kernel
theorem dX10_end_4 : decode cX10_end 4 = .ok (.iload_n 1, 1) := by decide +kernel
theorem dX10_end_5 : decode cX10_end 5 = .ok (.aload_n 0, 1) := by decide +kernel
theorem dX10_end_6 : decode cX10_end 6 = .ok (.getfield 10, 3) := by decide +kernel
theorem dX10_end_9 : decode cX10_end 9 = .ok (.getfield 96, 3) := by decide +kernel
theorem dX10_end_12 : decode cX10_end 12 = .ok (.if_icmp .le 5, 3) := by decide +kernel
theorem dX10_end_15 : decode cX10_end 15 = .ok (.iconst (-1), 1) := by decide +kernel
theorem dX10_end_16 : decode cX10_end 16 = .ok (.ireturn, 1) := by decide +kernel
theorem dX10_end_17 : decode cX10_end 17 = .ok (.aload_n 0, 1) := by decide +kernel
theorem dX10_end_18 : decode cX10_end 18 = .ok (.getfield 10, 3) := by decide +kernel
theorem dX10_end_21 : decode cX10_end 21 = .ok (.getfield 96, 3) := by decide +kernel
theorem dX10_end_24 : decode cX10_end 24 = .ok (.istore_n 2, 1) := by decide +kernel
theorem dX10_end_25 : decode cX10_end 25 = .ok (.aload_n 0, 1) := by decide +kernel
theorem dX10_end_26 : decode cX10_end 26 = .ok (.getfield 10, 3) := by decide +kernel
theorem dX10_end_29 : decode cX10_end 29 = .ok (.iload_n 1, 1) := by decide +kernel
theorem dX10_end_30 : decode cX10_end 30 = .ok (.putfield 96, 3) := by decide +kernel
theorem dX10_end_33 : decode cX10_end 33 = .ok (.iload_n 2, 1) := by decide +kernel
theorem dX10_end_34 : decode cX10_end 34 = .ok (.ireturn, 1) := by decide +kernel
theorem dX10_program_0 : decode cX10_program 0 = .ok (.aload_n 0, 1) := by decide +kernel
theorem dX10_program_1 : decode cX10_program 1 = .ok (.getfield 31, 3) := by decide +kernel
theorem dX10_program_4 : decode cX10_program 4 = .ok (.aload_n 0, 1) := by decide +kernel
theorem dX10_program_5 : decode cX10_program 5 = .ok (.getfield 23, 3) := by decide +kernel
theorem dX10_program_8 : decode cX10_program 8 = .ok (.invokevirtual 99, 3) := by decide +kernel
theorem dX10_program_11 : decode cX10_program 11 = .ok (.aload_n 0, 1) := by decide +kernel
theorem dX10_program_12 : decode cX10_program 12 = .ok (.aload_n 0, 1) := by decide +kernel
theorem dX10_program_13 : decode cX10_program 13 = .ok (.getfield 31, 3) := by decide +kernel
theorem dX10_program_16 : decode cX10_program 16 = .ok (.getfield 103, 3) := by decide +kernel
theorem dX10_program_19 : decode cX10_program 19 = .ok (.putfield 84, 3) := by decide +kernel
theorem dX10_program_22 : decode cX10_program 22 = .ok (.aload_n 0, 1) := by decide +kernel
theorem dX10_program_23 : decode cX10_program 23 = .ok (.getfield 10, 3) := by decide +kernel
theorem dX10_program_26 : decode cX10_program 26 = .ok (.iconst 0, 1) := by decide +kernel
theorem dX10_program_27 : decode cX10_program 27 = .ok (.putfield 96, 3) := by decide +kernel
theorem dX10_program_30 : decode cX10_program 30 = .ok (.aload_n 0, 1) := by decide +kernel
theorem dX10_program_31 : decode cX10_program 31 = .ok (.getfield 84, 3) := by decide +kernel
theorem dX10_program_34 : decode cX10_program 34 = .ok (.ifCond .eq 14, 3) := by decide +kernel
theorem dX10_program_37 : decode cX10_program 37 = .ok (.bipush (-10), 2) := by decide +kernel
theorem dX10_program_39 : decode cX10_program 39 = .ok (.aload_n 0, 1) := by decide +kernel
theorem dX10_program_40 : decode cX10_program 40 = .ok (.getfield 31, 3) := by decide +kernel
theorem dX10_program_43 : decode cX10_program 43 = .ok (.getfield 106, 3) := by decide +kernel
theorem dX10_program_46 : decode cX10_program 46 = .ok (.isub, 1) := by decide +kernel
theorem dX10_program_47 : decode cX10_program 47 = .ok (.ireturn, 1) := by decide +kernel
theorem dX10_program_48 : decode cX10_program 48 = .ok (.aload_n 0, 1) := by decide +kernel
theorem dX10_program_49 : decode cX10_program 49 = .ok (.getfield 23, 3) := by decide +kernel
theorem dX10_program_52 : decode cX10_program 52 = .ok (.astore_n 1, 1) := by decide +kernel
theorem dX10_program_53 : decode cX10_program 53 = .ok (.aload_n 0, 1) := by decide +kernel
theorem dX10_program_54 : decode cX10_program 54 = .ok (.aload_n 0, 1) := by decide +kernel
theorem dX10_program_55 : decode cX10_program 55 = .ok (.getfield 19, 3) := by decide +kernel
theorem dX10_program_58 : decode cX10_program 58 = .ok (.putfield 23, 3) := by decide +kernel
theorem dX10_program_61 : decode cX10_program 61 = .ok (.aload_n 0, 1) := by decide +kernel
theorem dX10_program_62 : decode cX10_program 62 = .ok (.aload_n 1, 1) := by decide +kernel
theorem dX10_program_63 : decode cX10_program 63 = .ok (.putfield 19, 3) := by decide +kernel
theorem dX10_program_66 : decode cX10_program 66 = .ok (.aload_n 0, 1) := by decide +kernel
theorem dX10_program_67 : decode cX10_program 67 = .ok (.getfield 19, 3) := by decide +kernel
theorem dX10_program_70 : decode cX10_program 70 = .ok (.invokevirtual 109, 3) := by decide +kernel
theorem dX10_program_73 : decode cX10_program 73 = .ok (.aload_n 0, 1) := by decide +kernel
theorem dX10_program_74 : decode cX10_program 74 = .ok (.getfield 73, 3) := by decide +kernel
theorem dX10_program_77 : decode cX10_program 77 = .ok (.iconst 0, 1) := by decide +kernel
theorem dX10_program_78 : decode cX10_program 78 = .ok (.putfield 112, 3) := by decide +kernel
theorem dX10_program_81 : decode cX10_program 81 = .ok (.aload_n 0, 1) := by decide +kernel
theorem dX10_program_82 : decode cX10_program 82 = .ok (.getfield 19, 3) := by decide +kernel
theorem dX10_program_85 : decode cX10_program 85 = .ok (.getfield 113, 3) := by decide +kernel
theorem dX10_program_88 : decode cX10_program 88 = .ok (.ireturn, 1) := by decide +kernel
theorem dX10_fault_0 : decode cX10_fault 0 = .ok (.aload_n 0, 1) := by decide +kernel
theorem dX10_fault_1 : decode cX10_fault 1 = .ok (.getfield 84, 3) := by decide +kernel
theorem dX10_fault_4 : decode cX10_fault 4 = .ok (.ireturn, 1) := by decide +kernel
theorem dX10_line_0 : decode cX10_line 0 = .ok (.aload_n 0, 1) := by decide +kernel
theorem dX10_line_1 : decode cX10_line 1 = .ok (.getfield 19, 3) := by decide +kernel
theorem dX10_line_4 : decode cX10_line 4 = .ok (.iload_n 1, 1) := by decide +kernel
theorem dX10_line_5 : decode cX10_line 5 = .ok (.invokevirtual 116, 3) := by decide +kernel
theorem dX10_line_8 : decode cX10_line 8 = .ok (.ifCond .ne 5, 3) := by decide +kernel
theorem dX10_line_11 : decode cX10_line 11 = .ok (.iconst (-1), 1) := by decide +kernel
theorem dX10_line_12 : decode cX10_line 12 = .ok (.ireturn, 1) := by decide +kernel
theorem dX10_line_13 : decode cX10_line 13 = .ok (.iload_n 2, 1) := by decide +kernel
theorem dX10_line_14 : decode cX10_line 14 = .ok (.bipush 10, 2) := by decide +kernel
theorem dX10_line_16 : decode cX10_line 16 = .ok (.isub, 1) := by decide +kernel
theorem dX10_line_17 : decode cX10_line 17 = .ok (.invokestatic 120, 3) := by decide +kernel
theorem dX10_line_20 : decode cX10_line 20 = .ok (.ifCond .eq 18, 3) := by decide +kernel
theorem dX10_line_23 : decode cX10_line 23 = .ok (.aload_n 0, 1) := by decide +kernel
theorem dX10_line_24 : decode cX10_line 24 = .ok (.getfield 19, 3) := by decide +kernel
theorem dX10_line_27 : decode cX10_line 27 = .ok (.getfield 123, 3) := by decide +kernel
theorem dX10_line_30 : decode cX10_line 30 = .ok (.iload_n 1, 1) := by decide +kernel
theorem dX10_line_31 : decode cX10_line 31 = .ok (.aaload, 1) := by decide +kernel
theorem dX10_line_32 : decode cX10_line 32 = .ok (.iload_n 2, 1) := by decide +kernel
theorem dX10_line_33 : decode cX10_line 33 = .ok (.bipush 10, 2) := by decide +kernel
theorem dX10_line_35 : decode cX10_line 35 = .ok (.isub, 1) := by decide +kernel
theorem dX10_line_36 : decode cX10_line 36 = .ok (.iaload, 1) := by decide +kernel
theorem dX10_line_37 : decode cX10_line 37 = .ok (.ireturn, 1) := by decide +kernel
theorem dX10_line_38 : decode cX10_line 38 = .ok (.iload_n 2, 1) := by decide +kernel
theorem dX10_line_39 : decode cX10_line 39 = .ok (.tableswitch 55 0 2 #[25, 35, 45], 25) := by decide +kernel
theorem dX10_line_64 : decode cX10_line 64 = .ok (.aload_n 0, 1) := by decide +kernel
theorem dX10_line_65 : decode cX10_line 65 = .ok (.getfield 19, 3) := by decide +kernel
theorem dX10_line_68 : decode cX10_line 68 = .ok (.getfield 127, 3) := by decide +kernel
theorem dX10_line_71 : decode cX10_line 71 = .ok (.iload_n 1, 1) := by decide +kernel
theorem dX10_line_72 : decode cX10_line 72 = .ok (.iaload, 1) := by decide +kernel
theorem dX10_line_73 : decode cX10_line 73 = .ok (.ireturn, 1) := by decide +kernel
theorem dX10_line_74 : decode cX10_line 74 = .ok (.aload_n 0, 1) := by decide +kernel
theorem dX10_line_75 : decode cX10_line 75 = .ok (.getfield 19, 3) := by decide +kernel
theorem dX10_line_78 : decode cX10_line 78 = .ok (.getfield 131, 3) := by decide +kernel
theorem dX10_line_81 : decode cX10_line 81 = .ok (.iload_n 1, 1) := by decide +kernel
theorem dX10_line_82 : decode cX10_line 82 = .ok (.iaload, 1) := by decide +kernel
theorem dX10_line_83 : decode cX10_line 83 = .ok (.ireturn, 1) := by decide +kernel
theorem dX10_line_84 : decode cX10_line 84 = .ok (.aload_n 0, 1) := by decide +kernel
theorem dX10_line_85 : decode cX10_line 85 = .ok (.getfield 19, 3) := by decide +kernel
theorem dX10_line_88 : decode cX10_line 88 = .ok (.getfield 134, 3) := by decide +kernel
theorem dX10_line_91 : decode cX10_line 91 = .ok (.iload_n 1, 1) := by decide +kernel
theorem dX10_line_92 : decode cX10_line 92 = .ok (.iaload, 1) := by decide +kernel
theorem dX10_line_93 : decode cX10_line 93 = .ok (.ireturn, 1) := by decide +kernel
theorem dX10_line_94 : decode cX10_line 94 = .ok (.iconst (-1), 1) := by decide +kernel
theorem dX10_line_95 : decode cX10_line 95 = .ok (.ireturn, 1) := by decide +kernel
theorem dX10_step_0 : decode cX10_step 0 = .ok (.iload_n 1, 1) := by decide +kernel
theorem dX10_step_1 : decode cX10_step 1 = .ok (.ifCond .lt 26, 3) := by decide +kernel
theorem dX10_step_4 : decode cX10_step 4 = .ok (.iload_n 1, 1) := by decide +kernel
theorem dX10_step_5 : decode cX10_step 5 = .ok (.aload_n 0, 1) := by decide +kernel
theorem dX10_step_6 : decode cX10_step 6 = .ok (.getfield 19, 3) := by decide +kernel
theorem dX10_step_9 : decode cX10_step 9 = .ok (.getfield 137, 3) := by decide +kernel
theorem dX10_step_12 : decode cX10_step 12 = .ok (.if_icmp .ge 15, 3) := by decide +kernel
theorem dX10_step_15 : decode cX10_step 15 = .ok (.aload_n 0, 1) := by decide +kernel
theorem dX10_step_16 : decode cX10_step 16 = .ok (.getfield 19, 3) := by decide +kernel
theorem dX10_step_19 : decode cX10_step 19 = .ok (.getfield 140, 3) := by decide +kernel
theorem dX10_step_22 : decode cX10_step 22 = .ok (.iload_n 1, 1) := by decide +kernel
theorem dX10_step_23 : decode cX10_step 23 = .ok (.baload, 1) := by decide +kernel
theorem dX10_step_24 : decode cX10_step 24 = .ok (.goto 4, 3) := by decide +kernel
theorem dX10_step_27 : decode cX10_step 27 = .ok (.iconst (-1), 1) := by decide +kernel
theorem dX10_step_28 : decode cX10_step 28 = .ok (.ireturn, 1) := by decide +kernel
theorem dX10_whole_0 : decode cX10_whole 0 = .ok (.iload_n 1, 1) := by decide +kernel
theorem dX10_whole_1 : decode cX10_whole 1 = .ok (.ifCond .ne 11, 3) := by decide +kernel
theorem dX10_whole_4 : decode cX10_whole 4 = .ok (.aload_n 0, 1) := by decide +kernel
theorem dX10_whole_5 : decode cX10_whole 5 = .ok (.getfield 19, 3) := by decide +kernel
theorem dX10_whole_8 : decode cX10_whole 8 = .ok (.getfield 137, 3) := by decide +kernel
theorem dX10_whole_11 : decode cX10_whole 11 = .ok (.ireturn, 1) := by decide +kernel
theorem dX10_whole_12 : decode cX10_whole 12 = .ok (.iload_n 1, 1) := by decide +kernel
theorem dX10_whole_13 : decode cX10_whole 13 = .ok (.iconst 1, 1) := by decide +kernel
theorem dX10_whole_14 : decode cX10_whole 14 = .ok (.if_icmp .ne 11, 3) := by decide +kernel
theorem dX10_whole_17 : decode cX10_whole 17 = .ok (.aload_n 0, 1) := by decide +kernel
theorem dX10_whole_18 : decode cX10_whole 18 = .ok (.getfield 19, 3) := by decide +kernel
theorem dX10_whole_21 : decode cX10_whole 21 = .ok (.invokevirtual 144, 3) := by decide +kernel
theorem dX10_whole_24 : decode cX10_whole 24 = .ok (.ireturn, 1) := by decide +kernel
theorem dX10_whole_25 : decode cX10_whole 25 = .ok (.iload_n 1, 1) := by decide +kernel
theorem dX10_whole_26 : decode cX10_whole 26 = .ok (.bipush 10, 2) := by decide +kernel
theorem dX10_whole_28 : decode cX10_whole 28 = .ok (.isub, 1) := by decide +kernel
theorem dX10_whole_29 : decode cX10_whole 29 = .ok (.invokestatic 120, 3) := by decide +kernel
theorem dX10_whole_32 : decode cX10_whole 32 = .ok (.ifCond .eq 17, 3) := by decide +kernel
theorem dX10_whole_35 : decode cX10_whole 35 = .ok (.aload_n 0, 1) := by decide +kernel
theorem dX10_whole_36 : decode cX10_whole 36 = .ok (.getfield 19, 3) := by decide +kernel
theorem dX10_whole_39 : decode cX10_whole 39 = .ok (.iload_n 1, 1) := by decide +kernel
theorem dX10_whole_40 : decode cX10_whole 40 = .ok (.bipush 10, 2) := by decide +kernel
theorem dX10_whole_42 : decode cX10_whole 42 = .ok (.isub, 1) := by decide +kernel
theorem dX10_whole_43 : decode cX10_whole 43 = .ok (.invokevirtual 148, 3) := by decide +kernel
theorem dX10_whole_46 : decode cX10_whole 46 = .ok (.goto 4, 3) := by decide +kernel
theorem dX10_whole_49 : decode cX10_whole 49 = .ok (.iconst (-1), 1) := by decide +kernel
theorem dX10_whole_50 : decode cX10_whole 50 = .ok (.ireturn, 1) := by decide +kernel
theorem dX10_ratio_0 : decode cX10_ratio 0 = .ok (.iload_n 1, 1) := by decide +kernel
theorem dX10_ratio_1 : decode cX10_ratio 1 = .ok (.bipush (-4), 2) := by decide +kernel
theorem dX10_ratio_3 : decode cX10_ratio 3 = .ok (.if_icmp .eq 14, 3) := by decide +kernel
theorem dX10_ratio_6 : decode cX10_ratio 6 = .ok (.aload_n 0, 1) := by decide +kernel
theorem dX10_ratio_7 : decode cX10_ratio 7 = .ok (.getfield 19, 3) := by decide +kernel
theorem dX10_ratio_10 : decode cX10_ratio 10 = .ok (.iload_n 1, 1) := by decide +kernel
theorem dX10_ratio_11 : decode cX10_ratio 11 = .ok (.invokevirtual 116, 3) := by decide +kernel
theorem dX10_ratio_14 : decode cX10_ratio 14 = .ok (.ifCond .eq 25, 3) := by decide +kernel
theorem dX10_ratio_17 : decode cX10_ratio 17 = .ok (.iload_n 2, 1) := by decide +kernel
theorem dX10_ratio_18 : decode cX10_ratio 18 = .ok (.invokestatic 120, 3) := by decide +kernel
theorem dX10_ratio_21 : decode cX10_ratio 21 = .ok (.ifCond .eq 18, 3) := by decide +kernel
theorem dX10_ratio_24 : decode cX10_ratio 24 = .ok (.iload_n 3, 1) := by decide +kernel
theorem dX10_ratio_25 : decode cX10_ratio 25 = .ok (.invokestatic 120, 3) := by decide +kernel
theorem dX10_ratio_28 : decode cX10_ratio 28 = .ok (.ifCond .eq 11, 3) := by decide +kernel
theorem dX10_ratio_31 : decode cX10_ratio 31 = .ok (.iload 4, 2) := by decide +kernel
theorem dX10_ratio_33 : decode cX10_ratio 33 = .ok (.invokestatic 152, 3) := by decide +kernel
theorem dX10_ratio_36 : decode cX10_ratio 36 = .ok (.ifCond .ne 5, 3) := by decide +kernel
theorem dX10_ratio_39 : decode cX10_ratio 39 = .ok (.iconst (-1), 1) := by decide +kernel
theorem dX10_ratio_40 : decode cX10_ratio 40 = .ok (.ireturn, 1) := by decide +kernel
theorem dX10_ratio_41 : decode cX10_ratio 41 = .ok (.iload_n 1, 1) := by decide +kernel
theorem dX10_ratio_42 : decode cX10_ratio 42 = .ok (.bipush (-4), 2) := by decide +kernel
theorem dX10_ratio_44 : decode cX10_ratio 44 = .ok (.if_icmp .ne 14, 3) := by decide +kernel
theorem dX10_ratio_47 : decode cX10_ratio 47 = .ok (.aload_n 0, 1) := by decide +kernel
theorem dX10_ratio_48 : decode cX10_ratio 48 = .ok (.getfield 19, 3) := by decide +kernel
theorem dX10_ratio_51 : decode cX10_ratio 51 = .ok (.iload_n 2, 1) := by decide +kernel
theorem dX10_ratio_52 : decode cX10_ratio 52 = .ok (.invokevirtual 148, 3) := by decide +kernel
theorem dX10_ratio_55 : decode cX10_ratio 55 = .ok (.goto 14, 3) := by decide +kernel
theorem dX10_ratio_58 : decode cX10_ratio 58 = .ok (.aload_n 0, 1) := by decide +kernel
theorem dX10_ratio_59 : decode cX10_ratio 59 = .ok (.getfield 19, 3) := by decide +kernel
theorem dX10_ratio_62 : decode cX10_ratio 62 = .ok (.getfield 123, 3) := by decide +kernel
theorem dX10_ratio_65 : decode cX10_ratio 65 = .ok (.iload_n 1, 1) := by decide +kernel
theorem dX10_ratio_66 : decode cX10_ratio 66 = .ok (.aaload, 1) := by decide +kernel
theorem dX10_ratio_67 : decode cX10_ratio 67 = .ok (.iload_n 2, 1) := by decide +kernel
theorem dX10_ratio_68 : decode cX10_ratio 68 = .ok (.iaload, 1) := by decide +kernel
theorem dX10_ratio_69 : decode cX10_ratio 69 = .ok (.istore 5, 2) := by decide +kernel
theorem dX10_ratio_71 : decode cX10_ratio 71 = .ok (.iload_n 1, 1) := by decide +kernel
theorem dX10_ratio_72 : decode cX10_ratio 72 = .ok (.bipush (-4), 2) := by decide +kernel
theorem dX10_ratio_74 : decode cX10_ratio 74 = .ok (.if_icmp .ne 14, 3) := by decide +kernel
theorem dX10_ratio_77 : decode cX10_ratio 77 = .ok (.aload_n 0, 1) := by decide +kernel
theorem dX10_ratio_78 : decode cX10_ratio 78 = .ok (.getfield 19, 3) := by decide +kernel
theorem dX10_ratio_81 : decode cX10_ratio 81 = .ok (.iload_n 3, 1) := by decide +kernel
theorem dX10_ratio_82 : decode cX10_ratio 82 = .ok (.invokevirtual 148, 3) := by decide +kernel
theorem dX10_ratio_85 : decode cX10_ratio 85 = .ok (.goto 14, 3) := by decide +kernel
theorem dX10_ratio_88 : decode cX10_ratio 88 = .ok (.aload_n 0, 1) := by decide +kernel
theorem dX10_ratio_89 : decode cX10_ratio 89 = .ok (.getfield 19, 3) := by decide +kernel
theorem dX10_ratio_92 : decode cX10_ratio 92 = .ok (.getfield 123, 3) := by decide +kernel
theorem dX10_ratio_95 : decode cX10_ratio 95 = .ok (.iload_n 1, 1) := by decide +kernel
theorem dX10_ratio_96 : decode cX10_ratio 96 = .ok (.aaload, 1) := by decide +kernel
theorem dX10_ratio_97 : decode cX10_ratio 97 = .ok (.iload_n 3, 1) := by decide +kernel
theorem dX10_ratio_98 : decode cX10_ratio 98 = .ok (.iaload, 1) := by decide +kernel
theorem dX10_ratio_99 : decode cX10_ratio 99 = .ok (.istore 6, 2) := by decide +kernel
theorem dX10_ratio_101 : decode cX10_ratio 101 = .ok (.iload 6, 2) := by decide +kernel
theorem dX10_ratio_103 : decode cX10_ratio 103 = .ok (.iconst 1, 1) := by decide +kernel
theorem dX10_ratio_104 : decode cX10_ratio 104 = .ok (.if_icmp .ge 6, 3) := by decide +kernel
theorem dX10_ratio_107 : decode cX10_ratio 107 = .ok (.bipush (-4), 2) := by decide +kernel
theorem dX10_ratio_109 : decode cX10_ratio 109 = .ok (.ireturn, 1) := by decide +kernel
theorem dX10_ratio_110 : decode cX10_ratio 110 = .ok (.iload 5, 2) := by decide +kernel
theorem dX10_ratio_112 : decode cX10_ratio 112 = .ok (.i2l, 1) := by decide +kernel
theorem dX10_ratio_113 : decode cX10_ratio 113 = .ok (.iload 6, 2) := by decide +kernel
theorem dX10_ratio_115 : decode cX10_ratio 115 = .ok (.i2l, 1) := by decide +kernel
theorem dX10_ratio_116 : decode cX10_ratio 116 = .ok (.iload 4, 2) := by decide +kernel
theorem dX10_ratio_118 : decode cX10_ratio 118 = .ok (.ifCond .ne 7, 3) := by decide +kernel
theorem dX10_ratio_121 : decode cX10_ratio 121 = .ok (.iconst 1, 1) := by decide +kernel
theorem dX10_ratio_122 : decode cX10_ratio 122 = .ok (.goto 4, 3) := by decide +kernel
theorem dX10_ratio_125 : decode cX10_ratio 125 = .ok (.iconst 0, 1) := by decide +kernel
theorem dX10_ratio_126 : decode cX10_ratio 126 = .ok (.invokestatic 155, 3) := by decide +kernel
theorem dX10_ratio_129 : decode cX10_ratio 129 = .ok (.l2i, 1) := by decide +kernel
theorem dX10_ratio_130 : decode cX10_ratio 130 = .ok (.ireturn, 1) := by decide +kernel
theorem dX10_loop_0 : decode cX10_loop 0 = .ok (.aload_n 0, 1) := by decide +kernel
theorem dX10_loop_1 : decode cX10_loop 1 = .ok (.getfield 19, 3) := by decide +kernel
theorem dX10_loop_4 : decode cX10_loop 4 = .ok (.iload_n 1, 1) := by decide +kernel
theorem dX10_loop_5 : decode cX10_loop 5 = .ok (.invokevirtual 159, 3) := by decide +kernel
theorem dX10_loop_8 : decode cX10_loop 8 = .ok (.ifCond .ne 5, 3) := by decide +kernel
theorem dX10_loop_11 : decode cX10_loop 11 = .ok (.iconst (-1), 1) := by decide +kernel
theorem dX10_loop_12 : decode cX10_loop 12 = .ok (.ireturn, 1) := by decide +kernel
theorem dX10_loop_13 : decode cX10_loop 13 = .ok (.iload_n 2, 1) := by decide +kernel
theorem dX10_loop_14 : decode cX10_loop 14 = .ok (.tableswitch 82 0 4 #[34, 44, 54, 63, 73], 34) := by decide +kernel
theorem dX10_loop_48 : decode cX10_loop 48 = .ok (.aload_n 0, 1) := by decide +kernel
theorem dX10_loop_49 : decode cX10_loop 49 = .ok (.getfield 19, 3) := by decide +kernel
theorem dX10_loop_52 : decode cX10_loop 52 = .ok (.getfield 162, 3) := by decide +kernel
theorem dX10_loop_55 : decode cX10_loop 55 = .ok (.iload_n 1, 1) := by decide +kernel
theorem dX10_loop_56 : decode cX10_loop 56 = .ok (.iaload, 1) := by decide +kernel
theorem dX10_loop_57 : decode cX10_loop 57 = .ok (.ireturn, 1) := by decide +kernel
theorem dX10_loop_58 : decode cX10_loop 58 = .ok (.aload_n 0, 1) := by decide +kernel
theorem dX10_loop_59 : decode cX10_loop 59 = .ok (.getfield 19, 3) := by decide +kernel
theorem dX10_loop_62 : decode cX10_loop 62 = .ok (.getfield 165, 3) := by decide +kernel
theorem dX10_loop_65 : decode cX10_loop 65 = .ok (.iload_n 1, 1) := by decide +kernel
theorem dX10_loop_66 : decode cX10_loop 66 = .ok (.iaload, 1) := by decide +kernel
theorem dX10_loop_67 : decode cX10_loop 67 = .ok (.ireturn, 1) := by decide +kernel
theorem dX10_loop_68 : decode cX10_loop 68 = .ok (.aload_n 0, 1) := by decide +kernel
theorem dX10_loop_69 : decode cX10_loop 69 = .ok (.getfield 19, 3) := by decide +kernel
theorem dX10_loop_72 : decode cX10_loop 72 = .ok (.iload_n 1, 1) := by decide +kernel
theorem dX10_loop_73 : decode cX10_loop 73 = .ok (.invokevirtual 168, 3) := by decide +kernel
theorem dX10_loop_76 : decode cX10_loop 76 = .ok (.ireturn, 1) := by decide +kernel
theorem dX10_loop_77 : decode cX10_loop 77 = .ok (.aload_n 0, 1) := by decide +kernel
theorem dX10_loop_78 : decode cX10_loop 78 = .ok (.getfield 19, 3) := by decide +kernel
theorem dX10_loop_81 : decode cX10_loop 81 = .ok (.getfield 171, 3) := by decide +kernel
theorem dX10_loop_84 : decode cX10_loop 84 = .ok (.iload_n 1, 1) := by decide +kernel
theorem dX10_loop_85 : decode cX10_loop 85 = .ok (.iaload, 1) := by decide +kernel
theorem dX10_loop_86 : decode cX10_loop 86 = .ok (.ireturn, 1) := by decide +kernel
theorem dX10_loop_87 : decode cX10_loop 87 = .ok (.aload_n 0, 1) := by decide +kernel
theorem dX10_loop_88 : decode cX10_loop 88 = .ok (.getfield 19, 3) := by decide +kernel
theorem dX10_loop_91 : decode cX10_loop 91 = .ok (.iload_n 1, 1) := by decide +kernel
theorem dX10_loop_92 : decode cX10_loop 92 = .ok (.invokevirtual 174, 3) := by decide +kernel
theorem dX10_loop_95 : decode cX10_loop 95 = .ok (.ireturn, 1) := by decide +kernel
theorem dX10_loop_96 : decode cX10_loop 96 = .ok (.iconst (-1), 1) := by decide +kernel
theorem dX10_loop_97 : decode cX10_loop 97 = .ok (.ireturn, 1) := by decide +kernel
theorem dX10_went_0 : decode cX10_went 0 = .ok (.aload_n 0, 1) := by decide +kernel
theorem dX10_went_1 : decode cX10_went 1 = .ok (.getfield 19, 3) := by decide +kernel
theorem dX10_went_4 : decode cX10_went 4 = .ok (.iload_n 1, 1) := by decide +kernel
theorem dX10_went_5 : decode cX10_went 5 = .ok (.invokevirtual 159, 3) := by decide +kernel
theorem dX10_went_8 : decode cX10_went 8 = .ok (.ifCond .eq 20, 3) := by decide +kernel
theorem dX10_went_11 : decode cX10_went 11 = .ok (.iload_n 2, 1) := by decide +kernel
theorem dX10_went_12 : decode cX10_went 12 = .ok (.invokestatic 120, 3) := by decide +kernel
theorem dX10_went_15 : decode cX10_went 15 = .ok (.ifCond .eq 13, 3) := by decide +kernel
theorem dX10_went_18 : decode cX10_went 18 = .ok (.iload_n 3, 1) := by decide +kernel
theorem dX10_went_19 : decode cX10_went 19 = .ok (.ifCond .lt 9, 3) := by decide +kernel
theorem dX10_went_22 : decode cX10_went 22 = .ok (.iload_n 3, 1) := by decide +kernel
theorem dX10_went_23 : decode cX10_went 23 = .ok (.ldc 177, 2) := by decide +kernel
theorem dX10_went_25 : decode cX10_went 25 = .ok (.if_icmp .le 5, 3) := by decide +kernel
theorem dX10_went_28 : decode cX10_went 28 = .ok (.iconst (-1), 1) := by decide +kernel
theorem dX10_went_29 : decode cX10_went 29 = .ok (.ireturn, 1) := by decide +kernel
theorem dX10_went_30 : decode cX10_went 30 = .ok (.aload_n 0, 1) := by decide +kernel
theorem dX10_went_31 : decode cX10_went 31 = .ok (.getfield 19, 3) := by decide +kernel
theorem dX10_went_34 : decode cX10_went 34 = .ok (.iload_n 1, 1) := by decide +kernel
theorem dX10_went_35 : decode cX10_went 35 = .ok (.iload_n 2, 1) := by decide +kernel
theorem dX10_went_36 : decode cX10_went 36 = .ok (.invokevirtual 178, 3) := by decide +kernel
theorem dX10_went_39 : decode cX10_went 39 = .ok (.istore 4, 2) := by decide +kernel
theorem dX10_went_41 : decode cX10_went 41 = .ok (.iload_n 3, 1) := by decide +kernel
theorem dX10_went_42 : decode cX10_went 42 = .ok (.aload_n 0, 1) := by decide +kernel
theorem dX10_went_43 : decode cX10_went 43 = .ok (.getfield 19, 3) := by decide +kernel
theorem dX10_went_46 : decode cX10_went 46 = .ok (.iload_n 2, 1) := by decide +kernel
theorem dX10_went_47 : decode cX10_went 47 = .ok (.invokevirtual 148, 3) := by decide +kernel
theorem dX10_went_50 : decode cX10_went 50 = .ok (.iload 4, 2) := by decide +kernel
theorem dX10_went_52 : decode cX10_went 52 = .ok (.isub, 1) := by decide +kernel
theorem dX10_went_53 : decode cX10_went 53 = .ok (.isub, 1) := by decide +kernel
theorem dX10_went_54 : decode cX10_went 54 = .ok (.istore 5, 2) := by decide +kernel
theorem dX10_went_56 : decode cX10_went 56 = .ok (.aload_n 0, 1) := by decide +kernel
theorem dX10_went_57 : decode cX10_went 57 = .ok (.getfield 19, 3) := by decide +kernel
theorem dX10_went_60 : decode cX10_went 60 = .ok (.getfield 162, 3) := by decide +kernel
theorem dX10_went_63 : decode cX10_went 63 = .ok (.iload_n 1, 1) := by decide +kernel
theorem dX10_went_64 : decode cX10_went 64 = .ok (.iaload, 1) := by decide +kernel
theorem dX10_went_65 : decode cX10_went 65 = .ok (.istore 6, 2) := by decide +kernel
theorem dX10_went_67 : decode cX10_went 67 = .ok (.iload 6, 2) := by decide +kernel
theorem dX10_went_69 : decode cX10_went 69 = .ok (.iconst 1, 1) := by decide +kernel
theorem dX10_went_70 : decode cX10_went 70 = .ok (.if_icmp .ge 7, 3) := by decide +kernel
theorem dX10_went_73 : decode cX10_went 73 = .ok (.iconst 0, 1) := by decide +kernel
theorem dX10_went_74 : decode cX10_went 74 = .ok (.goto 8, 3) := by decide +kernel
theorem dX10_went_77 : decode cX10_went 77 = .ok (.iload 4, 2) := by decide +kernel
theorem dX10_went_79 : decode cX10_went 79 = .ok (.iload 6, 2) := by decide +kernel
theorem dX10_went_81 : decode cX10_went 81 = .ok (.idiv, 1) := by decide +kernel
theorem dX10_went_82 : decode cX10_went 82 = .ok (.istore 7, 2) := by decide +kernel
theorem dX10_went_84 : decode cX10_went 84 = .ok (.iload 7, 2) := by decide +kernel
theorem dX10_went_86 : decode cX10_went 86 = .ok (.iconst 1, 1) := by decide +kernel
theorem dX10_went_87 : decode cX10_went 87 = .ok (.if_icmp .ge 15, 3) := by decide +kernel
theorem dX10_went_90 : decode cX10_went 90 = .ok (.iload 5, 2) := by decide +kernel
theorem dX10_went_92 : decode cX10_went 92 = .ok (.ifCond .ne 7, 3) := by decide +kernel
theorem dX10_went_95 : decode cX10_went 95 = .ok (.iconst 0, 1) := by decide +kernel
theorem dX10_went_96 : decode cX10_went 96 = .ok (.goto 5, 3) := by decide +kernel
theorem dX10_went_99 : decode cX10_went 99 = .ok (.bipush (-4), 2) := by decide +kernel
theorem dX10_went_101 : decode cX10_went 101 = .ok (.ireturn, 1) := by decide +kernel
theorem dX10_went_102 : decode cX10_went 102 = .ok (.iload 5, 2) := by decide +kernel
theorem dX10_went_104 : decode cX10_went 104 = .ok (.ifCond .lt 26, 3) := by decide +kernel
theorem dX10_went_107 : decode cX10_went 107 = .ok (.iload 5, 2) := by decide +kernel
theorem dX10_went_109 : decode cX10_went 109 = .ok (.iload 7, 2) := by decide +kernel
theorem dX10_went_111 : decode cX10_went 111 = .ok (.irem, 1) := by decide +kernel
theorem dX10_went_112 : decode cX10_went 112 = .ok (.ifCond .ne 18, 3) := by decide +kernel
theorem dX10_went_115 : decode cX10_went 115 = .ok (.iload 5, 2) := by decide +kernel
theorem dX10_went_117 : decode cX10_went 117 = .ok (.iload 7, 2) := by decide +kernel
theorem dX10_went_119 : decode cX10_went 119 = .ok (.idiv, 1) := by decide +kernel
theorem dX10_went_120 : decode cX10_went 120 = .ok (.sipush 9999, 3) := by decide +kernel
theorem dX10_went_123 : decode cX10_went 123 = .ok (.if_icmp .gt 7, 3) := by decide +kernel
theorem dX10_went_126 : decode cX10_went 126 = .ok (.iconst 1, 1) := by decide +kernel
theorem dX10_went_127 : decode cX10_went 127 = .ok (.goto 4, 3) := by decide +kernel
theorem dX10_went_130 : decode cX10_went 130 = .ok (.iconst 0, 1) := by decide +kernel
theorem dX10_went_131 : decode cX10_went 131 = .ok (.istore 8, 2) := by decide +kernel
theorem dX10_went_133 : decode cX10_went 133 = .ok (.iload 8, 2) := by decide +kernel
theorem dX10_went_135 : decode cX10_went 135 = .ok (.ifCond .eq 11, 3) := by decide +kernel
theorem dX10_went_138 : decode cX10_went 138 = .ok (.iload 5, 2) := by decide +kernel
theorem dX10_went_140 : decode cX10_went 140 = .ok (.iload 7, 2) := by decide +kernel
theorem dX10_went_142 : decode cX10_went 142 = .ok (.idiv, 1) := by decide +kernel
theorem dX10_went_143 : decode cX10_went 143 = .ok (.goto 5, 3) := by decide +kernel
theorem dX10_went_146 : decode cX10_went 146 = .ok (.bipush (-4), 2) := by decide +kernel
theorem dX10_went_148 : decode cX10_went 148 = .ok (.ireturn, 1) := by decide +kernel
theorem dX10_hot_0 : decode cX10_hot 0 = .ok (.iload_n 1, 1) := by decide +kernel
theorem dX10_hot_1 : decode cX10_hot 1 = .ok (.invokestatic 120, 3) := by decide +kernel
theorem dX10_hot_4 : decode cX10_hot 4 = .ok (.ifCond .eq 21, 3) := by decide +kernel
theorem dX10_hot_7 : decode cX10_hot 7 = .ok (.iload_n 2, 1) := by decide +kernel
theorem dX10_hot_8 : decode cX10_hot 8 = .ok (.iconst 1, 1) := by decide +kernel
theorem dX10_hot_9 : decode cX10_hot 9 = .ok (.if_icmp .lt 16, 3) := by decide +kernel
theorem dX10_hot_12 : decode cX10_hot 12 = .ok (.iload_n 2, 1) := by decide +kernel
theorem dX10_hot_13 : decode cX10_hot 13 = .ok (.bipush 100, 2) := by decide +kernel
theorem dX10_hot_15 : decode cX10_hot 15 = .ok (.if_icmp .gt 10, 3) := by decide +kernel
theorem dX10_hot_18 : decode cX10_hot 18 = .ok (.iload_n 3, 1) := by decide +kernel
theorem dX10_hot_19 : decode cX10_hot 19 = .ok (.invokestatic 152, 3) := by decide +kernel
theorem dX10_hot_22 : decode cX10_hot 22 = .ok (.ifCond .ne 5, 3) := by decide +kernel
theorem dX10_hot_25 : decode cX10_hot 25 = .ok (.iconst (-1), 1) := by decide +kernel
theorem dX10_hot_26 : decode cX10_hot 26 = .ok (.ireturn, 1) := by decide +kernel
theorem dX10_hot_27 : decode cX10_hot 27 = .ok (.aload_n 0, 1) := by decide +kernel
theorem dX10_hot_28 : decode cX10_hot 28 = .ok (.getfield 19, 3) := by decide +kernel
theorem dX10_hot_31 : decode cX10_hot 31 = .ok (.iload_n 1, 1) := by decide +kernel
theorem dX10_hot_32 : decode cX10_hot 32 = .ok (.invokevirtual 148, 3) := by decide +kernel
theorem dX10_hot_35 : decode cX10_hot 35 = .ok (.istore 4, 2) := by decide +kernel
theorem dX10_hot_37 : decode cX10_hot 37 = .ok (.iload 4, 2) := by decide +kernel
theorem dX10_hot_39 : decode cX10_hot 39 = .ok (.iconst 1, 1) := by decide +kernel
theorem dX10_hot_40 : decode cX10_hot 40 = .ok (.if_icmp .ge 6, 3) := by decide +kernel
theorem dX10_hot_43 : decode cX10_hot 43 = .ok (.bipush (-4), 2) := by decide +kernel
theorem dX10_hot_45 : decode cX10_hot 45 = .ok (.ireturn, 1) := by decide +kernel
theorem dX10_hot_46 : decode cX10_hot 46 = .ok (.iload_n 2, 1) := by decide +kernel
theorem dX10_hot_47 : decode cX10_hot 47 = .ok (.iload 4, 2) := by decide +kernel
theorem dX10_hot_49 : decode cX10_hot 49 = .ok (.imul, 1) := by decide +kernel
theorem dX10_hot_50 : decode cX10_hot 50 = .ok (.bipush 99, 2) := by decide +kernel
theorem dX10_hot_52 : decode cX10_hot 52 = .ok (.iadd, 1) := by decide +kernel
theorem dX10_hot_53 : decode cX10_hot 53 = .ok (.bipush 100, 2) := by decide +kernel
theorem dX10_hot_55 : decode cX10_hot 55 = .ok (.idiv, 1) := by decide +kernel
theorem dX10_hot_56 : decode cX10_hot 56 = .ok (.istore 5, 2) := by decide +kernel
theorem dX10_hot_58 : decode cX10_hot 58 = .ok (.aload_n 0, 1) := by decide +kernel
theorem dX10_hot_59 : decode cX10_hot 59 = .ok (.iload_n 1, 1) := by decide +kernel
theorem dX10_hot_60 : decode cX10_hot 60 = .ok (.iload 5, 2) := by decide +kernel
theorem dX10_hot_62 : decode cX10_hot 62 = .ok (.invokevirtual 182, 3) := by decide +kernel
theorem dX10_hot_65 : decode cX10_hot 65 = .ok (.istore 6, 2) := by decide +kernel
theorem dX10_hot_67 : decode cX10_hot 67 = .ok (.iload_n 3, 1) := by decide +kernel
theorem dX10_hot_68 : decode cX10_hot 68 = .ok (.ifCond .ne 8, 3) := by decide +kernel
theorem dX10_hot_71 : decode cX10_hot 71 = .ok (.iload 6, 2) := by decide +kernel
theorem dX10_hot_73 : decode cX10_hot 73 = .ok (.goto 12, 3) := by decide +kernel
theorem dX10_hot_76 : decode cX10_hot 76 = .ok (.aload_n 0, 1) := by decide +kernel
theorem dX10_hot_77 : decode cX10_hot 77 = .ok (.iload_n 1, 1) := by decide +kernel
theorem dX10_hot_78 : decode cX10_hot 78 = .ok (.iload 5, 2) := by decide +kernel
theorem dX10_hot_80 : decode cX10_hot 80 = .ok (.iload 6, 2) := by decide +kernel
theorem dX10_hot_82 : decode cX10_hot 82 = .ok (.invokevirtual 185, 3) := by decide +kernel
theorem dX10_hot_85 : decode cX10_hot 85 = .ok (.ireturn, 1) := by decide +kernel
theorem dX10_fewestLines_0 : decode cX10_fewestLines 0 = .ok (.iconst 1, 1) := by decide +kernel
theorem dX10_fewestLines_1 : decode cX10_fewestLines 1 = .ok (.istore_n 3, 1) := by decide +kernel
theorem dX10_fewestLines_2 : decode cX10_fewestLines 2 = .ok (.iload_n 3, 1) := by decide +kernel
theorem dX10_fewestLines_3 : decode cX10_fewestLines 3 = .ok (.aload_n 0, 1) := by decide +kernel
theorem dX10_fewestLines_4 : decode cX10_fewestLines 4 = .ok (.getfield 19, 3) := by decide +kernel
theorem dX10_fewestLines_7 : decode cX10_fewestLines 7 = .ok (.getfield 113, 3) := by decide +kernel
theorem dX10_fewestLines_10 : decode cX10_fewestLines 10 = .ok (.if_icmp .ge 31, 3) := by decide +kernel
theorem dX10_fewestLines_13 : decode cX10_fewestLines 13 = .ok (.aload_n 0, 1) := by decide +kernel
theorem dX10_fewestLines_14 : decode cX10_fewestLines 14 = .ok (.getfield 19, 3) := by decide +kernel
theorem dX10_fewestLines_17 : decode cX10_fewestLines 17 = .ok (.iload_n 1, 1) := by decide +kernel
theorem dX10_fewestLines_18 : decode cX10_fewestLines 18 = .ok (.aload_n 0, 1) := by decide +kernel
theorem dX10_fewestLines_19 : decode cX10_fewestLines 19 = .ok (.getfield 19, 3) := by decide +kernel
theorem dX10_fewestLines_22 : decode cX10_fewestLines 22 = .ok (.getfield 113, 3) := by decide +kernel
theorem dX10_fewestLines_25 : decode cX10_fewestLines 25 = .ok (.iload_n 3, 1) := by decide +kernel
theorem dX10_fewestLines_26 : decode cX10_fewestLines 26 = .ok (.invokevirtual 189, 3) := by decide +kernel
theorem dX10_fewestLines_29 : decode cX10_fewestLines 29 = .ok (.iload_n 2, 1) := by decide +kernel
theorem dX10_fewestLines_30 : decode cX10_fewestLines 30 = .ok (.if_icmp .lt 5, 3) := by decide +kernel
theorem dX10_fewestLines_33 : decode cX10_fewestLines 33 = .ok (.iload_n 3, 1) := by decide +kernel
theorem dX10_fewestLines_34 : decode cX10_fewestLines 34 = .ok (.ireturn, 1) := by decide +kernel
theorem dX10_fewestLines_35 : decode cX10_fewestLines 35 = .ok (.iinc 3 1, 3) := by decide +kernel
theorem dX10_fewestLines_38 : decode cX10_fewestLines 38 = .ok (.goto (-36), 3) := by decide +kernel
theorem dX10_fewestLines_41 : decode cX10_fewestLines 41 = .ok (.aload_n 0, 1) := by decide +kernel
theorem dX10_fewestLines_42 : decode cX10_fewestLines 42 = .ok (.getfield 19, 3) := by decide +kernel
theorem dX10_fewestLines_45 : decode cX10_fewestLines 45 = .ok (.getfield 113, 3) := by decide +kernel
theorem dX10_fewestLines_48 : decode cX10_fewestLines 48 = .ok (.ireturn, 1) := by decide +kernel
theorem dX10_leastLines_0 : decode cX10_leastLines 0 = .ok (.iconst 0, 1) := by decide +kernel
theorem dX10_leastLines_1 : decode cX10_leastLines 1 = .ok (.istore 4, 2) := by decide +kernel
theorem dX10_leastLines_3 : decode cX10_leastLines 3 = .ok (.iconst 0, 1) := by decide +kernel
theorem dX10_leastLines_4 : decode cX10_leastLines 4 = .ok (.istore 5, 2) := by decide +kernel
theorem dX10_leastLines_6 : decode cX10_leastLines 6 = .ok (.iload_n 3, 1) := by decide +kernel
theorem dX10_leastLines_7 : decode cX10_leastLines 7 = .ok (.istore 6, 2) := by decide +kernel
theorem dX10_leastLines_9 : decode cX10_leastLines 9 = .ok (.aload_n 0, 1) := by decide +kernel
theorem dX10_leastLines_10 : decode cX10_leastLines 10 = .ok (.getfield 19, 3) := by decide +kernel
theorem dX10_leastLines_13 : decode cX10_leastLines 13 = .ok (.getfield 113, 3) := by decide +kernel
theorem dX10_leastLines_16 : decode cX10_leastLines 16 = .ok (.iconst 1, 1) := by decide +kernel
theorem dX10_leastLines_17 : decode cX10_leastLines 17 = .ok (.isub, 1) := by decide +kernel
theorem dX10_leastLines_18 : decode cX10_leastLines 18 = .ok (.istore 7, 2) := by decide +kernel
theorem dX10_leastLines_20 : decode cX10_leastLines 20 = .ok (.iload 7, 2) := by decide +kernel
theorem dX10_leastLines_22 : decode cX10_leastLines 22 = .ok (.ifCond .lt 60, 3) := by decide +kernel
theorem dX10_leastLines_25 : decode cX10_leastLines 25 = .ok (.iload 6, 2) := by decide +kernel
theorem dX10_leastLines_27 : decode cX10_leastLines 27 = .ok (.ifCond .le 55, 3) := by decide +kernel
theorem dX10_leastLines_30 : decode cX10_leastLines 30 = .ok (.iload 5, 2) := by decide +kernel
theorem dX10_leastLines_32 : decode cX10_leastLines 32 = .ok (.aload_n 0, 1) := by decide +kernel
theorem dX10_leastLines_33 : decode cX10_leastLines 33 = .ok (.getfield 19, 3) := by decide +kernel
theorem dX10_leastLines_36 : decode cX10_leastLines 36 = .ok (.iload_n 1, 1) := by decide +kernel
theorem dX10_leastLines_37 : decode cX10_leastLines 37 = .ok (.iload 7, 2) := by decide +kernel
theorem dX10_leastLines_39 : decode cX10_leastLines 39 = .ok (.iload 6, 2) := by decide +kernel
theorem dX10_leastLines_41 : decode cX10_leastLines 41 = .ok (.invokevirtual 189, 3) := by decide +kernel
theorem dX10_leastLines_44 : decode cX10_leastLines 44 = .ok (.iadd, 1) := by decide +kernel
theorem dX10_leastLines_45 : decode cX10_leastLines 45 = .ok (.iload_n 2, 1) := by decide +kernel
theorem dX10_leastLines_46 : decode cX10_leastLines 46 = .ok (.if_icmp .ge 30, 3) := by decide +kernel
theorem dX10_leastLines_49 : decode cX10_leastLines 49 = .ok (.iload 4, 2) := by decide +kernel
theorem dX10_leastLines_51 : decode cX10_leastLines 51 = .ok (.iconst 1, 1) := by decide +kernel
theorem dX10_leastLines_52 : decode cX10_leastLines 52 = .ok (.iload 7, 2) := by decide +kernel
theorem dX10_leastLines_54 : decode cX10_leastLines 54 = .ok (.ishl, 1) := by decide +kernel
theorem dX10_leastLines_55 : decode cX10_leastLines 55 = .ok (.ior, 1) := by decide +kernel
theorem dX10_leastLines_56 : decode cX10_leastLines 56 = .ok (.istore 4, 2) := by decide +kernel
theorem dX10_leastLines_58 : decode cX10_leastLines 58 = .ok (.iload 5, 2) := by decide +kernel
theorem dX10_leastLines_60 : decode cX10_leastLines 60 = .ok (.aload_n 0, 1) := by decide +kernel
theorem dX10_leastLines_61 : decode cX10_leastLines 61 = .ok (.getfield 19, 3) := by decide +kernel
theorem dX10_leastLines_64 : decode cX10_leastLines 64 = .ok (.iload 7, 2) := by decide +kernel
theorem dX10_leastLines_66 : decode cX10_leastLines 66 = .ok (.iload_n 1, 1) := by decide +kernel
theorem dX10_leastLines_67 : decode cX10_leastLines 67 = .ok (.invokevirtual 192, 3) := by decide +kernel
theorem dX10_leastLines_70 : decode cX10_leastLines 70 = .ok (.iadd, 1) := by decide +kernel
theorem dX10_leastLines_71 : decode cX10_leastLines 71 = .ok (.istore 5, 2) := by decide +kernel
theorem dX10_leastLines_73 : decode cX10_leastLines 73 = .ok (.iinc 6 (-1), 3) := by decide +kernel
theorem dX10_leastLines_76 : decode cX10_leastLines 76 = .ok (.iinc 7 (-1), 3) := by decide +kernel
theorem dX10_leastLines_79 : decode cX10_leastLines 79 = .ok (.goto (-59), 3) := by decide +kernel
theorem dX10_leastLines_82 : decode cX10_leastLines 82 = .ok (.iload 4, 2) := by decide +kernel
theorem dX10_leastLines_84 : decode cX10_leastLines 84 = .ok (.ireturn, 1) := by decide +kernel
theorem dX10_keep_0 : decode cX10_keep 0 = .ok (.aload_n 0, 1) := by decide +kernel
theorem dX10_keep_1 : decode cX10_keep 1 = .ok (.getfield 38, 3) := by decide +kernel
theorem dX10_keep_4 : decode cX10_keep 4 = .ok (.aload_n 0, 1) := by decide +kernel
theorem dX10_keep_5 : decode cX10_keep 5 = .ok (.getfield 19, 3) := by decide +kernel
theorem dX10_keep_8 : decode cX10_keep 8 = .ok (.invokevirtual 195, 3) := by decide +kernel
theorem dX10_keep_11 : decode cX10_keep 11 = .ok (.aload_n 0, 1) := by decide +kernel
theorem dX10_keep_12 : decode cX10_keep 12 = .ok (.getfield 19, 3) := by decide +kernel
theorem dX10_keep_15 : decode cX10_keep 15 = .ok (.getfield 113, 3) := by decide +kernel
theorem dX10_keep_18 : decode cX10_keep 18 = .ok (.ireturn, 1) := by decide +kernel
theorem dX10_beside_0 : decode cX10_beside 0 = .ok (.iload_n 1, 1) := by decide +kernel
theorem dX10_beside_1 : decode cX10_beside 1 = .ok (.invokestatic 120, 3) := by decide +kernel
theorem dX10_beside_4 : decode cX10_beside 4 = .ok (.ifCond .ne 5, 3) := by decide +kernel
theorem dX10_beside_7 : decode cX10_beside 7 = .ok (.iconst (-1), 1) := by decide +kernel
theorem dX10_beside_8 : decode cX10_beside 8 = .ok (.ireturn, 1) := by decide +kernel
theorem dX10_beside_9 : decode cX10_beside 9 = .ok (.iload_n 2, 1) := by decide +kernel
theorem dX10_beside_10 : decode cX10_beside 10 = .ok (.tableswitch 93 0 4 #[34, 43, 52, 66, 80], 34) := by decide +kernel
theorem dX10_beside_44 : decode cX10_beside 44 = .ok (.aload_n 0, 1) := by decide +kernel
theorem dX10_beside_45 : decode cX10_beside 45 = .ok (.getfield 19, 3) := by decide +kernel
theorem dX10_beside_48 : decode cX10_beside 48 = .ok (.iload_n 1, 1) := by decide +kernel
theorem dX10_beside_49 : decode cX10_beside 49 = .ok (.invokevirtual 148, 3) := by decide +kernel
theorem dX10_beside_52 : decode cX10_beside 52 = .ok (.ireturn, 1) := by decide +kernel
theorem dX10_beside_53 : decode cX10_beside 53 = .ok (.aload_n 0, 1) := by decide +kernel
theorem dX10_beside_54 : decode cX10_beside 54 = .ok (.getfield 38, 3) := by decide +kernel
theorem dX10_beside_57 : decode cX10_beside 57 = .ok (.iload_n 1, 1) := by decide +kernel
theorem dX10_beside_58 : decode cX10_beside 58 = .ok (.invokevirtual 198, 3) := by decide +kernel
theorem dX10_beside_61 : decode cX10_beside 61 = .ok (.ireturn, 1) := by decide +kernel
theorem dX10_beside_62 : decode cX10_beside 62 = .ok (.aload_n 0, 1) := by decide +kernel
theorem dX10_beside_63 : decode cX10_beside 63 = .ok (.getfield 38, 3) := by decide +kernel
theorem dX10_beside_66 : decode cX10_beside 66 = .ok (.aload_n 0, 1) := by decide +kernel
theorem dX10_beside_67 : decode cX10_beside 67 = .ok (.getfield 19, 3) := by decide +kernel
theorem dX10_beside_70 : decode cX10_beside 70 = .ok (.iload_n 1, 1) := by decide +kernel
theorem dX10_beside_71 : decode cX10_beside 71 = .ok (.iconst 1, 1) := by decide +kernel
theorem dX10_beside_72 : decode cX10_beside 72 = .ok (.invokevirtual 199, 3) := by decide +kernel
theorem dX10_beside_75 : decode cX10_beside 75 = .ok (.ireturn, 1) := by decide +kernel
theorem dX10_beside_76 : decode cX10_beside 76 = .ok (.aload_n 0, 1) := by decide +kernel
theorem dX10_beside_77 : decode cX10_beside 77 = .ok (.getfield 38, 3) := by decide +kernel
theorem dX10_beside_80 : decode cX10_beside 80 = .ok (.aload_n 0, 1) := by decide +kernel
theorem dX10_beside_81 : decode cX10_beside 81 = .ok (.getfield 19, 3) := by decide +kernel
theorem dX10_beside_84 : decode cX10_beside 84 = .ok (.iload_n 1, 1) := by decide +kernel
theorem dX10_beside_85 : decode cX10_beside 85 = .ok (.iconst (-1), 1) := by decide +kernel
theorem dX10_beside_86 : decode cX10_beside 86 = .ok (.invokevirtual 199, 3) := by decide +kernel
theorem dX10_beside_89 : decode cX10_beside 89 = .ok (.ireturn, 1) := by decide +kernel
theorem dX10_beside_90 : decode cX10_beside 90 = .ok (.aload_n 0, 1) := by decide +kernel
theorem dX10_beside_91 : decode cX10_beside 91 = .ok (.getfield 38, 3) := by decide +kernel
theorem dX10_beside_94 : decode cX10_beside 94 = .ok (.aload_n 0, 1) := by decide +kernel
theorem dX10_beside_95 : decode cX10_beside 95 = .ok (.getfield 19, 3) := by decide +kernel
theorem dX10_beside_98 : decode cX10_beside 98 = .ok (.iload_n 1, 1) := by decide +kernel
theorem dX10_beside_99 : decode cX10_beside 99 = .ok (.invokevirtual 203, 3) := by decide +kernel
theorem dX10_beside_102 : decode cX10_beside 102 = .ok (.ireturn, 1) := by decide +kernel
theorem dX10_beside_103 : decode cX10_beside 103 = .ok (.iconst (-1), 1) := by decide +kernel
theorem dX10_beside_104 : decode cX10_beside 104 = .ok (.ireturn, 1) := by decide +kernel
theorem dX10_counters_0 : decode cX10_counters 0 = .ok (.iload_n 1, 1) := by decide +kernel
theorem dX10_counters_1 : decode cX10_counters 1 = .ok (.iconst 1, 1) := by decide +kernel
theorem dX10_counters_2 : decode cX10_counters 2 = .ok (.if_icmp .lt 8, 3) := by decide +kernel
theorem dX10_counters_5 : decode cX10_counters 5 = .ok (.iload_n 1, 1) := by decide +kernel
theorem dX10_counters_6 : decode cX10_counters 6 = .ok (.iconst 4, 1) := by decide +kernel
theorem dX10_counters_7 : decode cX10_counters 7 = .ok (.if_icmp .le 5, 3) := by decide +kernel
theorem dX10_counters_10 : decode cX10_counters 10 = .ok (.iconst (-1), 1) := by decide +kernel
theorem dX10_counters_11 : decode cX10_counters 11 = .ok (.ireturn, 1) := by decide +kernel
theorem dX10_counters_12 : decode cX10_counters 12 = .ok (.aload_n 0, 1) := by decide +kernel
theorem dX10_counters_13 : decode cX10_counters 13 = .ok (.getfield 45, 3) := by decide +kernel
theorem dX10_counters_16 : decode cX10_counters 16 = .ok (.getfield 207, 3) := by decide +kernel
theorem dX10_counters_19 : decode cX10_counters 19 = .ok (.istore_n 2, 1) := by decide +kernel
theorem dX10_counters_20 : decode cX10_counters 20 = .ok (.aload_n 0, 1) := by decide +kernel
theorem dX10_counters_21 : decode cX10_counters 21 = .ok (.getfield 45, 3) := by decide +kernel
theorem dX10_counters_24 : decode cX10_counters 24 = .ok (.iload_n 1, 1) := by decide +kernel
theorem dX10_counters_25 : decode cX10_counters 25 = .ok (.invokevirtual 88, 3) := by decide +kernel
theorem dX10_counters_28 : decode cX10_counters 28 = .ok (.aload_n 0, 1) := by decide +kernel
theorem dX10_counters_29 : decode cX10_counters 29 = .ok (.getfield 73, 3) := by decide +kernel
theorem dX10_counters_32 : decode cX10_counters 32 = .ok (.iconst 0, 1) := by decide +kernel
theorem dX10_counters_33 : decode cX10_counters 33 = .ok (.putfield 112, 3) := by decide +kernel
theorem dX10_counters_36 : decode cX10_counters 36 = .ok (.iload_n 2, 1) := by decide +kernel
theorem dX10_counters_37 : decode cX10_counters 37 = .ok (.ireturn, 1) := by decide +kernel
theorem dX10_mask_0 : decode cX10_mask 0 = .ok (.aload_n 0, 1) := by decide +kernel
theorem dX10_mask_1 : decode cX10_mask 1 = .ok (.getfield 45, 3) := by decide +kernel
theorem dX10_mask_4 : decode cX10_mask 4 = .ok (.iload_n 1, 1) := by decide +kernel
theorem dX10_mask_5 : decode cX10_mask 5 = .ok (.invokevirtual 208, 3) := by decide +kernel
theorem dX10_mask_8 : decode cX10_mask 8 = .ok (.ifCond .eq 10, 3) := by decide +kernel
theorem dX10_mask_11 : decode cX10_mask 11 = .ok (.iload_n 2, 1) := by decide +kernel
theorem dX10_mask_12 : decode cX10_mask 12 = .ok (.invokestatic 211, 3) := by decide +kernel
theorem dX10_mask_15 : decode cX10_mask 15 = .ok (.ifCond .ne 5, 3) := by decide +kernel
theorem dX10_mask_18 : decode cX10_mask 18 = .ok (.iconst (-1), 1) := by decide +kernel
theorem dX10_mask_19 : decode cX10_mask 19 = .ok (.ireturn, 1) := by decide +kernel
theorem dX10_mask_20 : decode cX10_mask 20 = .ok (.aload_n 0, 1) := by decide +kernel
theorem dX10_mask_21 : decode cX10_mask 21 = .ok (.getfield 45, 3) := by decide +kernel
theorem dX10_mask_24 : decode cX10_mask 24 = .ok (.getfield 214, 3) := by decide +kernel
theorem dX10_mask_27 : decode cX10_mask 27 = .ok (.iload_n 1, 1) := by decide +kernel
theorem dX10_mask_28 : decode cX10_mask 28 = .ok (.iaload, 1) := by decide +kernel
theorem dX10_mask_29 : decode cX10_mask 29 = .ok (.istore_n 3, 1) := by decide +kernel
theorem dX10_mask_30 : decode cX10_mask 30 = .ok (.aload_n 0, 1) := by decide +kernel
theorem dX10_mask_31 : decode cX10_mask 31 = .ok (.getfield 45, 3) := by decide +kernel
theorem dX10_mask_34 : decode cX10_mask 34 = .ok (.getfield 214, 3) := by decide +kernel
theorem dX10_mask_37 : decode cX10_mask 37 = .ok (.iload_n 1, 1) := by decide +kernel
theorem dX10_mask_38 : decode cX10_mask 38 = .ok (.iload_n 2, 1) := by decide +kernel
theorem dX10_mask_39 : decode cX10_mask 39 = .ok (.iastore, 1) := by decide +kernel
theorem dX10_mask_40 : decode cX10_mask 40 = .ok (.aload_n 0, 1) := by decide +kernel
theorem dX10_mask_41 : decode cX10_mask 41 = .ok (.getfield 45, 3) := by decide +kernel
theorem dX10_mask_44 : decode cX10_mask 44 = .ok (.iconst 0, 1) := by decide +kernel
theorem dX10_mask_45 : decode cX10_mask 45 = .ok (.putfield 217, 3) := by decide +kernel
theorem dX10_mask_48 : decode cX10_mask 48 = .ok (.iload_n 3, 1) := by decide +kernel
theorem dX10_mask_49 : decode cX10_mask 49 = .ok (.ireturn, 1) := by decide +kernel
theorem dX10_width_0 : decode cX10_width 0 = .ok (.aload_n 0, 1) := by decide +kernel
theorem dX10_width_1 : decode cX10_width 1 = .ok (.getfield 45, 3) := by decide +kernel
theorem dX10_width_4 : decode cX10_width 4 = .ok (.iload_n 1, 1) := by decide +kernel
theorem dX10_width_5 : decode cX10_width 5 = .ok (.invokevirtual 208, 3) := by decide +kernel
theorem dX10_width_8 : decode cX10_width 8 = .ok (.ifCond .eq 14, 3) := by decide +kernel
theorem dX10_width_11 : decode cX10_width 11 = .ok (.iload_n 2, 1) := by decide +kernel
theorem dX10_width_12 : decode cX10_width 12 = .ok (.iconst 2, 1) := by decide +kernel
theorem dX10_width_13 : decode cX10_width 13 = .ok (.if_icmp .lt 9, 3) := by decide +kernel
theorem dX10_width_16 : decode cX10_width 16 = .ok (.iload_n 2, 1) := by decide +kernel
theorem dX10_width_17 : decode cX10_width 17 = .ok (.bipush 16, 2) := by decide +kernel
theorem dX10_width_19 : decode cX10_width 19 = .ok (.if_icmp .le 5, 3) := by decide +kernel
theorem dX10_width_22 : decode cX10_width 22 = .ok (.iconst (-1), 1) := by decide +kernel
theorem dX10_width_23 : decode cX10_width 23 = .ok (.ireturn, 1) := by decide +kernel
theorem dX10_width_24 : decode cX10_width 24 = .ok (.aload_n 0, 1) := by decide +kernel
theorem dX10_width_25 : decode cX10_width 25 = .ok (.getfield 45, 3) := by decide +kernel
theorem dX10_width_28 : decode cX10_width 28 = .ok (.getfield 221, 3) := by decide +kernel
theorem dX10_width_31 : decode cX10_width 31 = .ok (.iload_n 1, 1) := by decide +kernel
theorem dX10_width_32 : decode cX10_width 32 = .ok (.iaload, 1) := by decide +kernel
theorem dX10_width_33 : decode cX10_width 33 = .ok (.istore_n 3, 1) := by decide +kernel
theorem dX10_width_34 : decode cX10_width 34 = .ok (.aload_n 0, 1) := by decide +kernel
theorem dX10_width_35 : decode cX10_width 35 = .ok (.getfield 45, 3) := by decide +kernel
theorem dX10_width_38 : decode cX10_width 38 = .ok (.getfield 221, 3) := by decide +kernel
theorem dX10_width_41 : decode cX10_width 41 = .ok (.iload_n 1, 1) := by decide +kernel
theorem dX10_width_42 : decode cX10_width 42 = .ok (.iload_n 2, 1) := by decide +kernel
theorem dX10_width_43 : decode cX10_width 43 = .ok (.iastore, 1) := by decide +kernel
theorem dX10_width_44 : decode cX10_width 44 = .ok (.iload_n 3, 1) := by decide +kernel
theorem dX10_width_45 : decode cX10_width 45 = .ok (.ireturn, 1) := by decide +kernel
theorem dX10_together_0 : decode cX10_together 0 = .ok (.iload_n 1, 1) := by decide +kernel
theorem dX10_together_1 : decode cX10_together 1 = .ok (.invokestatic 211, 3) := by decide +kernel
theorem dX10_together_4 : decode cX10_together 4 = .ok (.ifCond .ne 5, 3) := by decide +kernel
theorem dX10_together_7 : decode cX10_together 7 = .ok (.iconst (-1), 1) := by decide +kernel
theorem dX10_together_8 : decode cX10_together 8 = .ok (.ireturn, 1) := by decide +kernel
theorem dX10_together_9 : decode cX10_together 9 = .ok (.aload_n 0, 1) := by decide +kernel
theorem dX10_together_10 : decode cX10_together 10 = .ok (.getfield 45, 3) := by decide +kernel
theorem dX10_together_13 : decode cX10_together 13 = .ok (.iload_n 1, 1) := by decide +kernel
theorem dX10_together_14 : decode cX10_together 14 = .ok (.iconst 0, 1) := by decide +kernel
theorem dX10_together_15 : decode cX10_together 15 = .ok (.invokevirtual 224, 3) := by decide +kernel
theorem dX10_together_18 : decode cX10_together 18 = .ok (.ifCond .eq 7, 3) := by decide +kernel
theorem dX10_together_21 : decode cX10_together 21 = .ok (.iconst 1, 1) := by decide +kernel
theorem dX10_together_22 : decode cX10_together 22 = .ok (.goto 4, 3) := by decide +kernel
theorem dX10_together_25 : decode cX10_together 25 = .ok (.iconst 0, 1) := by decide +kernel
theorem dX10_together_26 : decode cX10_together 26 = .ok (.ireturn, 1) := by decide +kernel
theorem dX10_goes_0 : decode cX10_goes 0 = .ok (.iload_n 2, 1) := by decide +kernel
theorem dX10_goes_1 : decode cX10_goes 1 = .ok (.iload_n 1, 1) := by decide +kernel
theorem dX10_goes_2 : decode cX10_goes 2 = .ok (.invokestatic 228, 3) := by decide +kernel
theorem dX10_goes_5 : decode cX10_goes 5 = .ok (.ifCond .eq 15, 3) := by decide +kernel
theorem dX10_goes_8 : decode cX10_goes 8 = .ok (.aload_n 0, 1) := by decide +kernel
theorem dX10_goes_9 : decode cX10_goes 9 = .ok (.getfield 45, 3) := by decide +kernel
theorem dX10_goes_12 : decode cX10_goes 12 = .ok (.iload_n 1, 1) := by decide +kernel
theorem dX10_goes_13 : decode cX10_goes 13 = .ok (.iload_n 2, 1) := by decide +kernel
theorem dX10_goes_14 : decode cX10_goes 14 = .ok (.invokevirtual 231, 3) := by decide +kernel
theorem dX10_goes_17 : decode cX10_goes 17 = .ok (.goto 4, 3) := by decide +kernel
theorem dX10_goes_20 : decode cX10_goes 20 = .ok (.iconst (-1), 1) := by decide +kernel
theorem dX10_goes_21 : decode cX10_goes 21 = .ok (.ireturn, 1) := by decide +kernel
theorem dX10_rounds_0 : decode cX10_rounds 0 = .ok (.iload_n 1, 1) := by decide +kernel
theorem dX10_rounds_1 : decode cX10_rounds 1 = .ok (.invokestatic 211, 3) := by decide +kernel
theorem dX10_rounds_4 : decode cX10_rounds 4 = .ok (.ifCond .eq 17, 3) := by decide +kernel
theorem dX10_rounds_7 : decode cX10_rounds 7 = .ok (.iload_n 2, 1) := by decide +kernel
theorem dX10_rounds_8 : decode cX10_rounds 8 = .ok (.ifCond .eq 15, 3) := by decide +kernel
theorem dX10_rounds_11 : decode cX10_rounds 11 = .ok (.iload_n 2, 1) := by decide +kernel
theorem dX10_rounds_12 : decode cX10_rounds 12 = .ok (.bipush 10, 2) := by decide +kernel
theorem dX10_rounds_14 : decode cX10_rounds 14 = .ok (.isub, 1) := by decide +kernel
theorem dX10_rounds_15 : decode cX10_rounds 15 = .ok (.invokestatic 120, 3) := by decide +kernel
theorem dX10_rounds_18 : decode cX10_rounds 18 = .ok (.ifCond .ne 5, 3) := by decide +kernel
theorem dX10_rounds_21 : decode cX10_rounds 21 = .ok (.iconst (-1), 1) := by decide +kernel
theorem dX10_rounds_22 : decode cX10_rounds 22 = .ok (.ireturn, 1) := by decide +kernel
theorem dX10_rounds_23 : decode cX10_rounds 23 = .ok (.aload_n 0, 1) := by decide +kernel
theorem dX10_rounds_24 : decode cX10_rounds 24 = .ok (.getfield 45, 3) := by decide +kernel
theorem dX10_rounds_27 : decode cX10_rounds 27 = .ok (.iload_n 1, 1) := by decide +kernel
theorem dX10_rounds_28 : decode cX10_rounds 28 = .ok (.invokevirtual 234, 3) := by decide +kernel
theorem dX10_rounds_31 : decode cX10_rounds 31 = .ok (.istore_n 3, 1) := by decide +kernel
theorem dX10_rounds_32 : decode cX10_rounds 32 = .ok (.iload_n 3, 1) := by decide +kernel
theorem dX10_rounds_33 : decode cX10_rounds 33 = .ok (.ifCond .ge 6, 3) := by decide +kernel
theorem dX10_rounds_36 : decode cX10_rounds 36 = .ok (.bipush (-4), 2) := by decide +kernel
theorem dX10_rounds_38 : decode cX10_rounds 38 = .ok (.ireturn, 1) := by decide +kernel
theorem dX10_rounds_39 : decode cX10_rounds 39 = .ok (.iload_n 2, 1) := by decide +kernel
theorem dX10_rounds_40 : decode cX10_rounds 40 = .ok (.ifCond .ne 5, 3) := by decide +kernel
theorem dX10_rounds_43 : decode cX10_rounds 43 = .ok (.iload_n 3, 1) := by decide +kernel
theorem dX10_rounds_44 : decode cX10_rounds 44 = .ok (.ireturn, 1) := by decide +kernel
theorem dX10_rounds_45 : decode cX10_rounds 45 = .ok (.iload_n 2, 1) := by decide +kernel
theorem dX10_rounds_46 : decode cX10_rounds 46 = .ok (.bipush 10, 2) := by decide +kernel
theorem dX10_rounds_48 : decode cX10_rounds 48 = .ok (.isub, 1) := by decide +kernel
theorem dX10_rounds_49 : decode cX10_rounds 49 = .ok (.iload_n 3, 1) := by decide +kernel
theorem dX10_rounds_50 : decode cX10_rounds 50 = .ok (.if_icmp .ge 18, 3) := by decide +kernel
theorem dX10_rounds_53 : decode cX10_rounds 53 = .ok (.aload_n 0, 1) := by decide +kernel
theorem dX10_rounds_54 : decode cX10_rounds 54 = .ok (.getfield 45, 3) := by decide +kernel
theorem dX10_rounds_57 : decode cX10_rounds 57 = .ok (.getfield 237, 3) := by decide +kernel
theorem dX10_rounds_60 : decode cX10_rounds 60 = .ok (.iload_n 2, 1) := by decide +kernel
theorem dX10_rounds_61 : decode cX10_rounds 61 = .ok (.bipush 10, 2) := by decide +kernel
theorem dX10_rounds_63 : decode cX10_rounds 63 = .ok (.isub, 1) := by decide +kernel
theorem dX10_rounds_64 : decode cX10_rounds 64 = .ok (.iaload, 1) := by decide +kernel
theorem dX10_rounds_65 : decode cX10_rounds 65 = .ok (.goto 4, 3) := by decide +kernel
theorem dX10_rounds_68 : decode cX10_rounds 68 = .ok (.iconst (-1), 1) := by decide +kernel
theorem dX10_rounds_69 : decode cX10_rounds 69 = .ok (.ireturn, 1) := by decide +kernel
theorem dX10_sliced_0 : decode cX10_sliced 0 = .ok (.iload_n 3, 1) := by decide +kernel
theorem dX10_sliced_1 : decode cX10_sliced 1 = .ok (.iload_n 1, 1) := by decide +kernel
theorem dX10_sliced_2 : decode cX10_sliced 2 = .ok (.invokestatic 228, 3) := by decide +kernel
theorem dX10_sliced_5 : decode cX10_sliced 5 = .ok (.ifCond .eq 18, 3) := by decide +kernel
theorem dX10_sliced_8 : decode cX10_sliced 8 = .ok (.iload_n 2, 1) := by decide +kernel
theorem dX10_sliced_9 : decode cX10_sliced 9 = .ok (.invokestatic 240, 3) := by decide +kernel
theorem dX10_sliced_12 : decode cX10_sliced 12 = .ok (.ifCond .eq 11, 3) := by decide +kernel
theorem dX10_sliced_15 : decode cX10_sliced 15 = .ok (.iload 4, 2) := by decide +kernel
theorem dX10_sliced_17 : decode cX10_sliced 17 = .ok (.invokestatic 152, 3) := by decide +kernel
theorem dX10_sliced_20 : decode cX10_sliced 20 = .ok (.ifCond .ne 5, 3) := by decide +kernel
theorem dX10_sliced_23 : decode cX10_sliced 23 = .ok (.iconst (-1), 1) := by decide +kernel
theorem dX10_sliced_24 : decode cX10_sliced 24 = .ok (.ireturn, 1) := by decide +kernel
theorem dX10_sliced_25 : decode cX10_sliced 25 = .ok (.aload_n 0, 1) := by decide +kernel
theorem dX10_sliced_26 : decode cX10_sliced 26 = .ok (.getfield 45, 3) := by decide +kernel
theorem dX10_sliced_29 : decode cX10_sliced 29 = .ok (.iload_n 1, 1) := by decide +kernel
theorem dX10_sliced_30 : decode cX10_sliced 30 = .ok (.invokevirtual 234, 3) := by decide +kernel
theorem dX10_sliced_33 : decode cX10_sliced 33 = .ok (.istore 5, 2) := by decide +kernel
theorem dX10_sliced_35 : decode cX10_sliced 35 = .ok (.iload 5, 2) := by decide +kernel
theorem dX10_sliced_37 : decode cX10_sliced 37 = .ok (.iconst 1, 1) := by decide +kernel
theorem dX10_sliced_38 : decode cX10_sliced 38 = .ok (.if_icmp .ge 6, 3) := by decide +kernel
theorem dX10_sliced_41 : decode cX10_sliced 41 = .ok (.bipush (-4), 2) := by decide +kernel
theorem dX10_sliced_43 : decode cX10_sliced 43 = .ok (.ireturn, 1) := by decide +kernel
theorem dX10_sliced_44 : decode cX10_sliced 44 = .ok (.aload_n 0, 1) := by decide +kernel
theorem dX10_sliced_45 : decode cX10_sliced 45 = .ok (.getfield 52, 3) := by decide +kernel
theorem dX10_sliced_48 : decode cX10_sliced 48 = .ok (.aload_n 0, 1) := by decide +kernel
theorem dX10_sliced_49 : decode cX10_sliced 49 = .ok (.getfield 19, 3) := by decide +kernel
theorem dX10_sliced_52 : decode cX10_sliced 52 = .ok (.iload_n 2, 1) := by decide +kernel
theorem dX10_sliced_53 : decode cX10_sliced 53 = .ok (.iload 5, 2) := by decide +kernel
theorem dX10_sliced_55 : decode cX10_sliced 55 = .ok (.aload_n 0, 1) := by decide +kernel
theorem dX10_sliced_56 : decode cX10_sliced 56 = .ok (.getfield 45, 3) := by decide +kernel
theorem dX10_sliced_59 : decode cX10_sliced 59 = .ok (.iload_n 3, 1) := by decide +kernel
theorem dX10_sliced_60 : decode cX10_sliced 60 = .ok (.iload 5, 2) := by decide +kernel
theorem dX10_sliced_62 : decode cX10_sliced 62 = .ok (.invokevirtual 243, 3) := by decide +kernel
theorem dX10_sliced_65 : decode cX10_sliced 65 = .ok (.iload_n 3, 1) := by decide +kernel
theorem dX10_sliced_66 : decode cX10_sliced 66 = .ok (.invokevirtual 246, 3) := by decide +kernel
theorem dX10_sliced_69 : decode cX10_sliced 69 = .ok (.iload 4, 2) := by decide +kernel
theorem dX10_sliced_71 : decode cX10_sliced 71 = .ok (.ifCond .ne 13, 3) := by decide +kernel
theorem dX10_sliced_74 : decode cX10_sliced 74 = .ok (.aload_n 0, 1) := by decide +kernel
theorem dX10_sliced_75 : decode cX10_sliced 75 = .ok (.getfield 52, 3) := by decide +kernel
theorem dX10_sliced_78 : decode cX10_sliced 78 = .ok (.getfield 249, 3) := by decide +kernel
theorem dX10_sliced_81 : decode cX10_sliced 81 = .ok (.goto 10, 3) := by decide +kernel
theorem dX10_sliced_84 : decode cX10_sliced 84 = .ok (.aload_n 0, 1) := by decide +kernel
theorem dX10_sliced_85 : decode cX10_sliced 85 = .ok (.getfield 52, 3) := by decide +kernel
theorem dX10_sliced_88 : decode cX10_sliced 88 = .ok (.getfield 252, 3) := by decide +kernel
theorem dX10_sliced_91 : decode cX10_sliced 91 = .ok (.ireturn, 1) := by decide +kernel
theorem dX10_scaled_0 : decode cX10_scaled 0 = .ok (.iload_n 3, 1) := by decide +kernel
theorem dX10_scaled_1 : decode cX10_scaled 1 = .ok (.iload_n 1, 1) := by decide +kernel
theorem dX10_scaled_2 : decode cX10_scaled 2 = .ok (.invokestatic 228, 3) := by decide +kernel
theorem dX10_scaled_5 : decode cX10_scaled 5 = .ok (.ifCond .eq 21, 3) := by decide +kernel
theorem dX10_scaled_8 : decode cX10_scaled 8 = .ok (.iload_n 2, 1) := by decide +kernel
theorem dX10_scaled_9 : decode cX10_scaled 9 = .ok (.invokestatic 240, 3) := by decide +kernel
theorem dX10_scaled_12 : decode cX10_scaled 12 = .ok (.ifCond .eq 14, 3) := by decide +kernel
theorem dX10_scaled_15 : decode cX10_scaled 15 = .ok (.iload 4, 2) := by decide +kernel
theorem dX10_scaled_17 : decode cX10_scaled 17 = .ok (.ifCond .lt 9, 3) := by decide +kernel
theorem dX10_scaled_20 : decode cX10_scaled 20 = .ok (.iload 4, 2) := by decide +kernel
theorem dX10_scaled_22 : decode cX10_scaled 22 = .ok (.iconst 3, 1) := by decide +kernel
theorem dX10_scaled_23 : decode cX10_scaled 23 = .ok (.if_icmp .le 7, 3) := by decide +kernel
theorem dX10_scaled_26 : decode cX10_scaled 26 = .ok (.ldc2_w 254, 3) := by decide +kernel
theorem dX10_scaled_29 : decode cX10_scaled 29 = .ok (.lreturn, 1) := by decide +kernel
theorem dX10_scaled_30 : decode cX10_scaled 30 = .ok (.aload_n 0, 1) := by decide +kernel
theorem dX10_scaled_31 : decode cX10_scaled 31 = .ok (.getfield 45, 3) := by decide +kernel
theorem dX10_scaled_34 : decode cX10_scaled 34 = .ok (.iload_n 1, 1) := by decide +kernel
theorem dX10_scaled_35 : decode cX10_scaled 35 = .ok (.invokevirtual 234, 3) := by decide +kernel
theorem dX10_scaled_38 : decode cX10_scaled 38 = .ok (.istore 5, 2) := by decide +kernel
theorem dX10_scaled_40 : decode cX10_scaled 40 = .ok (.iload 5, 2) := by decide +kernel
theorem dX10_scaled_42 : decode cX10_scaled 42 = .ok (.iconst 1, 1) := by decide +kernel
theorem dX10_scaled_43 : decode cX10_scaled 43 = .ok (.if_icmp .ge 7, 3) := by decide +kernel
theorem dX10_scaled_46 : decode cX10_scaled 46 = .ok (.ldc2_w 256, 3) := by decide +kernel
theorem dX10_scaled_49 : decode cX10_scaled 49 = .ok (.lreturn, 1) := by decide +kernel
theorem dX10_scaled_50 : decode cX10_scaled 50 = .ok (.aload_n 0, 1) := by decide +kernel
theorem dX10_scaled_51 : decode cX10_scaled 51 = .ok (.getfield 52, 3) := by decide +kernel
theorem dX10_scaled_54 : decode cX10_scaled 54 = .ok (.aload_n 0, 1) := by decide +kernel
theorem dX10_scaled_55 : decode cX10_scaled 55 = .ok (.getfield 19, 3) := by decide +kernel
theorem dX10_scaled_58 : decode cX10_scaled 58 = .ok (.iload_n 2, 1) := by decide +kernel
theorem dX10_scaled_59 : decode cX10_scaled 59 = .ok (.iload 5, 2) := by decide +kernel
theorem dX10_scaled_61 : decode cX10_scaled 61 = .ok (.aload_n 0, 1) := by decide +kernel
theorem dX10_scaled_62 : decode cX10_scaled 62 = .ok (.getfield 45, 3) := by decide +kernel
theorem dX10_scaled_65 : decode cX10_scaled 65 = .ok (.iload_n 3, 1) := by decide +kernel
theorem dX10_scaled_66 : decode cX10_scaled 66 = .ok (.iload 5, 2) := by decide +kernel
theorem dX10_scaled_68 : decode cX10_scaled 68 = .ok (.invokevirtual 243, 3) := by decide +kernel
theorem dX10_scaled_71 : decode cX10_scaled 71 = .ok (.iload_n 3, 1) := by decide +kernel
theorem dX10_scaled_72 : decode cX10_scaled 72 = .ok (.invokevirtual 246, 3) := by decide +kernel
theorem dX10_scaled_75 : decode cX10_scaled 75 = .ok (.aload_n 0, 1) := by decide +kernel
theorem dX10_scaled_76 : decode cX10_scaled 76 = .ok (.getfield 52, 3) := by decide +kernel
theorem dX10_scaled_79 : decode cX10_scaled 79 = .ok (.getfield 252, 3) := by decide +kernel
theorem dX10_scaled_82 : decode cX10_scaled 82 = .ok (.iconst 1, 1) := by decide +kernel
theorem dX10_scaled_83 : decode cX10_scaled 83 = .ok (.if_icmp .ge 7, 3) := by decide +kernel
theorem dX10_scaled_86 : decode cX10_scaled 86 = .ok (.ldc2_w 256, 3) := by decide +kernel
theorem dX10_scaled_89 : decode cX10_scaled 89 = .ok (.lreturn, 1) := by decide +kernel
theorem dX10_scaled_90 : decode cX10_scaled 90 = .ok (.iload 4, 2) := by decide +kernel
theorem dX10_scaled_92 : decode cX10_scaled 92 = .ok (.iconst 2, 1) := by decide +kernel
theorem dX10_scaled_93 : decode cX10_scaled 93 = .ok (.if_icmp .ge 17, 3) := by decide +kernel
theorem dX10_scaled_96 : decode cX10_scaled 96 = .ok (.aload_n 0, 1) := by decide +kernel
theorem dX10_scaled_97 : decode cX10_scaled 97 = .ok (.getfield 52, 3) := by decide +kernel
theorem dX10_scaled_100 : decode cX10_scaled 100 = .ok (.aload_n 0, 1) := by decide +kernel
theorem dX10_scaled_101 : decode cX10_scaled 101 = .ok (.getfield 19, 3) := by decide +kernel
theorem dX10_scaled_104 : decode cX10_scaled 104 = .ok (.invokevirtual 258, 3) := by decide +kernel
theorem dX10_scaled_107 : decode cX10_scaled 107 = .ok (.goto 15, 3) := by decide +kernel
theorem dX10_scaled_110 : decode cX10_scaled 110 = .ok (.aload_n 0, 1) := by decide +kernel
theorem dX10_scaled_111 : decode cX10_scaled 111 = .ok (.getfield 52, 3) := by decide +kernel
theorem dX10_scaled_114 : decode cX10_scaled 114 = .ok (.aload_n 0, 1) := by decide +kernel
theorem dX10_scaled_115 : decode cX10_scaled 115 = .ok (.getfield 19, 3) := by decide +kernel
theorem dX10_scaled_118 : decode cX10_scaled 118 = .ok (.iload_n 3, 1) := by decide +kernel
theorem dX10_scaled_119 : decode cX10_scaled 119 = .ok (.invokevirtual 262, 3) := by decide +kernel
theorem dX10_scaled_122 : decode cX10_scaled 122 = .ok (.lstore 6, 2) := by decide +kernel
theorem dX10_scaled_124 : decode cX10_scaled 124 = .ok (.lload 6, 2) := by decide +kernel
theorem dX10_scaled_126 : decode cX10_scaled 126 = .ok (.aload_n 0, 1) := by decide +kernel
theorem dX10_scaled_127 : decode cX10_scaled 127 = .ok (.getfield 52, 3) := by decide +kernel
theorem dX10_scaled_130 : decode cX10_scaled 130 = .ok (.getfield 252, 3) := by decide +kernel
theorem dX10_scaled_133 : decode cX10_scaled 133 = .ok (.i2l, 1) := by decide +kernel
theorem dX10_scaled_134 : decode cX10_scaled 134 = .ok (.iload 4, 2) := by decide +kernel
theorem dX10_scaled_136 : decode cX10_scaled 136 = .ok (.iconst 2, 1) := by decide +kernel
theorem dX10_scaled_137 : decode cX10_scaled 137 = .ok (.irem, 1) := by decide +kernel
theorem dX10_scaled_138 : decode cX10_scaled 138 = .ok (.ifCond .ne 7, 3) := by decide +kernel
theorem dX10_scaled_141 : decode cX10_scaled 141 = .ok (.iconst 1, 1) := by decide +kernel
theorem dX10_scaled_142 : decode cX10_scaled 142 = .ok (.goto 4, 3) := by decide +kernel
theorem dX10_scaled_145 : decode cX10_scaled 145 = .ok (.iconst 0, 1) := by decide +kernel
theorem dX10_scaled_146 : decode cX10_scaled 146 = .ok (.invokestatic 155, 3) := by decide +kernel
theorem dX10_scaled_149 : decode cX10_scaled 149 = .ok (.lreturn, 1) := by decide +kernel
theorem dX10_finest_0 : decode cX10_finest 0 = .ok (.iload 4, 2) := by decide +kernel
theorem dX10_finest_2 : decode cX10_finest 2 = .ok (.iload_n 1, 1) := by decide +kernel
theorem dX10_finest_3 : decode cX10_finest 3 = .ok (.invokestatic 228, 3) := by decide +kernel
theorem dX10_finest_6 : decode cX10_finest 6 = .ok (.ifCond .eq 25, 3) := by decide +kernel
theorem dX10_finest_9 : decode cX10_finest 9 = .ok (.iload_n 2, 1) := by decide +kernel
theorem dX10_finest_10 : decode cX10_finest 10 = .ok (.invokestatic 240, 3) := by decide +kernel
theorem dX10_finest_13 : decode cX10_finest 13 = .ok (.ifCond .eq 18, 3) := by decide +kernel
theorem dX10_finest_16 : decode cX10_finest 16 = .ok (.iload_n 3, 1) := by decide +kernel
theorem dX10_finest_17 : decode cX10_finest 17 = .ok (.invokestatic 240, 3) := by decide +kernel
theorem dX10_finest_20 : decode cX10_finest 20 = .ok (.ifCond .eq 11, 3) := by decide +kernel
theorem dX10_finest_23 : decode cX10_finest 23 = .ok (.iload_n 2, 1) := by decide +kernel
theorem dX10_finest_24 : decode cX10_finest 24 = .ok (.iload_n 3, 1) := by decide +kernel
theorem dX10_finest_25 : decode cX10_finest 25 = .ok (.invokestatic 266, 3) := by decide +kernel
theorem dX10_finest_28 : decode cX10_finest 28 = .ok (.ifCond .ne 5, 3) := by decide +kernel
theorem dX10_finest_31 : decode cX10_finest 31 = .ok (.iconst (-1), 1) := by decide +kernel
theorem dX10_finest_32 : decode cX10_finest 32 = .ok (.ireturn, 1) := by decide +kernel
theorem dX10_finest_33 : decode cX10_finest 33 = .ok (.aload_n 0, 1) := by decide +kernel
theorem dX10_finest_34 : decode cX10_finest 34 = .ok (.getfield 45, 3) := by decide +kernel
theorem dX10_finest_37 : decode cX10_finest 37 = .ok (.iload_n 1, 1) := by decide +kernel
theorem dX10_finest_38 : decode cX10_finest 38 = .ok (.invokevirtual 234, 3) := by decide +kernel
theorem dX10_finest_41 : decode cX10_finest 41 = .ok (.istore 5, 2) := by decide +kernel
theorem dX10_finest_43 : decode cX10_finest 43 = .ok (.iload 5, 2) := by decide +kernel
theorem dX10_finest_45 : decode cX10_finest 45 = .ok (.iconst 1, 1) := by decide +kernel
theorem dX10_finest_46 : decode cX10_finest 46 = .ok (.if_icmp .ge 8, 3) := by decide +kernel
theorem dX10_finest_49 : decode cX10_finest 49 = .ok (.bipush (-4), 2) := by decide +kernel
theorem dX10_finest_51 : decode cX10_finest 51 = .ok (.goto 13, 3) := by decide +kernel
theorem dX10_finest_54 : decode cX10_finest 54 = .ok (.aload_n 0, 1) := by decide +kernel
theorem dX10_finest_55 : decode cX10_finest 55 = .ok (.iload_n 2, 1) := by decide +kernel
theorem dX10_finest_56 : decode cX10_finest 56 = .ok (.iload_n 3, 1) := by decide +kernel
theorem dX10_finest_57 : decode cX10_finest 57 = .ok (.iload 5, 2) := by decide +kernel
theorem dX10_finest_59 : decode cX10_finest 59 = .ok (.iload 4, 2) := by decide +kernel
theorem dX10_finest_61 : decode cX10_finest 61 = .ok (.invokevirtual 269, 3) := by decide +kernel
theorem dX10_finest_64 : decode cX10_finest 64 = .ok (.ireturn, 1) := by decide +kernel
theorem dX10_nearestSlice_0 : decode cX10_nearestSlice 0 = .ok (.aload_n 0, 1) := by decide +kernel
theorem dX10_nearestSlice_1 : decode cX10_nearestSlice 1 = .ok (.getfield 45, 3) := by decide +kernel
theorem dX10_nearestSlice_4 : decode cX10_nearestSlice 4 = .ok (.iload 4, 2) := by decide +kernel
theorem dX10_nearestSlice_6 : decode cX10_nearestSlice 6 = .ok (.iload_n 3, 1) := by decide +kernel
theorem dX10_nearestSlice_7 : decode cX10_nearestSlice 7 = .ok (.invokevirtual 243, 3) := by decide +kernel
theorem dX10_nearestSlice_10 : decode cX10_nearestSlice 10 = .ok (.istore 5, 2) := by decide +kernel
theorem dX10_nearestSlice_12 : decode cX10_nearestSlice 12 = .ok (.bipush (-4), 2) := by decide +kernel
theorem dX10_nearestSlice_14 : decode cX10_nearestSlice 14 = .ok (.istore 6, 2) := by decide +kernel
theorem dX10_nearestSlice_16 : decode cX10_nearestSlice 16 = .ok (.lconst 0, 1) := by decide +kernel
theorem dX10_nearestSlice_17 : decode cX10_nearestSlice 17 = .ok (.lstore 7, 2) := by decide +kernel
theorem dX10_nearestSlice_19 : decode cX10_nearestSlice 19 = .ok (.lconst 1, 1) := by decide +kernel
theorem dX10_nearestSlice_20 : decode cX10_nearestSlice 20 = .ok (.lstore 9, 2) := by decide +kernel
theorem dX10_nearestSlice_22 : decode cX10_nearestSlice 22 = .ok (.iload_n 1, 1) := by decide +kernel
theorem dX10_nearestSlice_23 : decode cX10_nearestSlice 23 = .ok (.istore 11, 2) := by decide +kernel
theorem dX10_nearestSlice_25 : decode cX10_nearestSlice 25 = .ok (.iload 11, 2) := by decide +kernel
theorem dX10_nearestSlice_27 : decode cX10_nearestSlice 27 = .ok (.iload_n 2, 1) := by decide +kernel
theorem dX10_nearestSlice_28 : decode cX10_nearestSlice 28 = .ok (.if_icmp .gt 100, 3) := by decide +kernel
theorem dX10_nearestSlice_31 : decode cX10_nearestSlice 31 = .ok (.aload_n 0, 1) := by decide +kernel
theorem dX10_nearestSlice_32 : decode cX10_nearestSlice 32 = .ok (.getfield 52, 3) := by decide +kernel
theorem dX10_nearestSlice_35 : decode cX10_nearestSlice 35 = .ok (.aload_n 0, 1) := by decide +kernel
theorem dX10_nearestSlice_36 : decode cX10_nearestSlice 36 = .ok (.getfield 19, 3) := by decide +kernel
theorem dX10_nearestSlice_39 : decode cX10_nearestSlice 39 = .ok (.iload 11, 2) := by decide +kernel
theorem dX10_nearestSlice_41 : decode cX10_nearestSlice 41 = .ok (.iload_n 3, 1) := by decide +kernel
theorem dX10_nearestSlice_42 : decode cX10_nearestSlice 42 = .ok (.iload 5, 2) := by decide +kernel
theorem dX10_nearestSlice_44 : decode cX10_nearestSlice 44 = .ok (.iload 4, 2) := by decide +kernel
theorem dX10_nearestSlice_46 : decode cX10_nearestSlice 46 = .ok (.invokevirtual 246, 3) := by decide +kernel
theorem dX10_nearestSlice_49 : decode cX10_nearestSlice 49 = .ok (.aload_n 0, 1) := by decide +kernel
theorem dX10_nearestSlice_50 : decode cX10_nearestSlice 50 = .ok (.getfield 52, 3) := by decide +kernel
theorem dX10_nearestSlice_53 : decode cX10_nearestSlice 53 = .ok (.aload_n 0, 1) := by decide +kernel
theorem dX10_nearestSlice_54 : decode cX10_nearestSlice 54 = .ok (.getfield 19, 3) := by decide +kernel
theorem dX10_nearestSlice_57 : decode cX10_nearestSlice 57 = .ok (.iload 4, 2) := by decide +kernel
theorem dX10_nearestSlice_59 : decode cX10_nearestSlice 59 = .ok (.invokevirtual 262, 3) := by decide +kernel
theorem dX10_nearestSlice_62 : decode cX10_nearestSlice 62 = .ok (.invokestatic 273, 3) := by decide +kernel
theorem dX10_nearestSlice_65 : decode cX10_nearestSlice 65 = .ok (.lstore 12, 2) := by decide +kernel
theorem dX10_nearestSlice_67 : decode cX10_nearestSlice 67 = .ok (.aload_n 0, 1) := by decide +kernel
theorem dX10_nearestSlice_68 : decode cX10_nearestSlice 68 = .ok (.getfield 52, 3) := by decide +kernel
theorem dX10_nearestSlice_71 : decode cX10_nearestSlice 71 = .ok (.getfield 252, 3) := by decide +kernel
theorem dX10_nearestSlice_74 : decode cX10_nearestSlice 74 = .ok (.ifCond .le 48, 3) := by decide +kernel
theorem dX10_nearestSlice_77 : decode cX10_nearestSlice 77 = .ok (.iload 6, 2) := by decide +kernel
theorem dX10_nearestSlice_79 : decode cX10_nearestSlice 79 = .ok (.bipush (-4), 2) := by decide +kernel
theorem dX10_nearestSlice_81 : decode cX10_nearestSlice 81 = .ok (.if_icmp .eq 23, 3) := by decide +kernel
theorem dX10_nearestSlice_84 : decode cX10_nearestSlice 84 = .ok (.lload 12, 2) := by decide +kernel
theorem dX10_nearestSlice_86 : decode cX10_nearestSlice 86 = .ok (.lload 9, 2) := by decide +kernel
theorem dX10_nearestSlice_88 : decode cX10_nearestSlice 88 = .ok (.lmul, 1) := by decide +kernel
theorem dX10_nearestSlice_89 : decode cX10_nearestSlice 89 = .ok (.lload 7, 2) := by decide +kernel
theorem dX10_nearestSlice_91 : decode cX10_nearestSlice 91 = .ok (.aload_n 0, 1) := by decide +kernel
theorem dX10_nearestSlice_92 : decode cX10_nearestSlice 92 = .ok (.getfield 52, 3) := by decide +kernel
theorem dX10_nearestSlice_95 : decode cX10_nearestSlice 95 = .ok (.getfield 252, 3) := by decide +kernel
theorem dX10_nearestSlice_98 : decode cX10_nearestSlice 98 = .ok (.i2l, 1) := by decide +kernel
theorem dX10_nearestSlice_99 : decode cX10_nearestSlice 99 = .ok (.lmul, 1) := by decide +kernel
theorem dX10_nearestSlice_100 : decode cX10_nearestSlice 100 = .ok (.lcmp, 1) := by decide +kernel
theorem dX10_nearestSlice_101 : decode cX10_nearestSlice 101 = .ok (.ifCond .ge 21, 3) := by decide +kernel
theorem dX10_nearestSlice_104 : decode cX10_nearestSlice 104 = .ok (.iload 11, 2) := by decide +kernel
theorem dX10_nearestSlice_106 : decode cX10_nearestSlice 106 = .ok (.istore 6, 2) := by decide +kernel
theorem dX10_nearestSlice_108 : decode cX10_nearestSlice 108 = .ok (.lload 12, 2) := by decide +kernel
theorem dX10_nearestSlice_110 : decode cX10_nearestSlice 110 = .ok (.lstore 7, 2) := by decide +kernel
theorem dX10_nearestSlice_112 : decode cX10_nearestSlice 112 = .ok (.aload_n 0, 1) := by decide +kernel
theorem dX10_nearestSlice_113 : decode cX10_nearestSlice 113 = .ok (.getfield 52, 3) := by decide +kernel
theorem dX10_nearestSlice_116 : decode cX10_nearestSlice 116 = .ok (.getfield 252, 3) := by decide +kernel
theorem dX10_nearestSlice_119 : decode cX10_nearestSlice 119 = .ok (.i2l, 1) := by decide +kernel
theorem dX10_nearestSlice_120 : decode cX10_nearestSlice 120 = .ok (.lstore 9, 2) := by decide +kernel
theorem dX10_nearestSlice_122 : decode cX10_nearestSlice 122 = .ok (.iinc 11 1, 3) := by decide +kernel
theorem dX10_nearestSlice_125 : decode cX10_nearestSlice 125 = .ok (.goto (-100), 3) := by decide +kernel
theorem dX10_nearestSlice_128 : decode cX10_nearestSlice 128 = .ok (.iload 6, 2) := by decide +kernel
theorem dX10_nearestSlice_130 : decode cX10_nearestSlice 130 = .ok (.ireturn, 1) := by decide +kernel
theorem dX10_shows_0 : decode cX10_shows 0 = .ok (.iload_n 1, 1) := by decide +kernel
theorem dX10_shows_1 : decode cX10_shows 1 = .ok (.iload_n 2, 1) := by decide +kernel
theorem dX10_shows_2 : decode cX10_shows 2 = .ok (.iload_n 3, 1) := by decide +kernel
theorem dX10_shows_3 : decode cX10_shows 3 = .ok (.iload 4, 2) := by decide +kernel
theorem dX10_shows_5 : decode cX10_shows 5 = .ok (.invokestatic 279, 3) := by decide +kernel
theorem dX10_shows_8 : decode cX10_shows 8 = .ok (.ifCond .eq 15, 3) := by decide +kernel
theorem dX10_shows_11 : decode cX10_shows 11 = .ok (.aload_n 0, 1) := by decide +kernel
theorem dX10_shows_12 : decode cX10_shows 12 = .ok (.getfield 19, 3) := by decide +kernel
theorem dX10_shows_15 : decode cX10_shows 15 = .ok (.iload 5, 2) := by decide +kernel
theorem dX10_shows_17 : decode cX10_shows 17 = .ok (.invokevirtual 116, 3) := by decide +kernel
theorem dX10_shows_20 : decode cX10_shows 20 = .ok (.ifCond .ne 5, 3) := by decide +kernel
theorem dX10_shows_23 : decode cX10_shows 23 = .ok (.iconst (-1), 1) := by decide +kernel
theorem dX10_shows_24 : decode cX10_shows 24 = .ok (.ireturn, 1) := by decide +kernel
theorem dX10_shows_25 : decode cX10_shows 25 = .ok (.aload_n 0, 1) := by decide +kernel
theorem dX10_shows_26 : decode cX10_shows 26 = .ok (.getfield 59, 3) := by decide +kernel
theorem dX10_shows_29 : decode cX10_shows 29 = .ok (.aload_n 0, 1) := by decide +kernel
theorem dX10_shows_30 : decode cX10_shows 30 = .ok (.getfield 19, 3) := by decide +kernel
theorem dX10_shows_33 : decode cX10_shows 33 = .ok (.iload_n 1, 1) := by decide +kernel
theorem dX10_shows_34 : decode cX10_shows 34 = .ok (.iload_n 2, 1) := by decide +kernel
theorem dX10_shows_35 : decode cX10_shows 35 = .ok (.iload_n 3, 1) := by decide +kernel
theorem dX10_shows_36 : decode cX10_shows 36 = .ok (.iload 4, 2) := by decide +kernel
theorem dX10_shows_38 : decode cX10_shows 38 = .ok (.invokevirtual 283, 3) := by decide +kernel
theorem dX10_shows_41 : decode cX10_shows 41 = .ok (.aload_n 0, 1) := by decide +kernel
theorem dX10_shows_42 : decode cX10_shows 42 = .ok (.getfield 59, 3) := by decide +kernel
theorem dX10_shows_45 : decode cX10_shows 45 = .ok (.getfield 284, 3) := by decide +kernel
theorem dX10_shows_48 : decode cX10_shows 48 = .ok (.iload 5, 2) := by decide +kernel
theorem dX10_shows_50 : decode cX10_shows 50 = .ok (.iaload, 1) := by decide +kernel
theorem dX10_shows_51 : decode cX10_shows 51 = .ok (.ireturn, 1) := by decide +kernel
theorem dX10_samples_0 : decode cX10_samples 0 = .ok (.iload_n 1, 1) := by decide +kernel
theorem dX10_samples_1 : decode cX10_samples 1 = .ok (.iload_n 2, 1) := by decide +kernel
theorem dX10_samples_2 : decode cX10_samples 2 = .ok (.iload_n 3, 1) := by decide +kernel
theorem dX10_samples_3 : decode cX10_samples 3 = .ok (.iload 4, 2) := by decide +kernel
theorem dX10_samples_5 : decode cX10_samples 5 = .ok (.invokestatic 279, 3) := by decide +kernel
theorem dX10_samples_8 : decode cX10_samples 8 = .ok (.ifCond .eq 14, 3) := by decide +kernel
theorem dX10_samples_11 : decode cX10_samples 11 = .ok (.iload 5, 2) := by decide +kernel
theorem dX10_samples_13 : decode cX10_samples 13 = .ok (.ifCond .lt 9, 3) := by decide +kernel
theorem dX10_samples_16 : decode cX10_samples 16 = .ok (.iload 5, 2) := by decide +kernel
theorem dX10_samples_18 : decode cX10_samples 18 = .ok (.iconst 5, 1) := by decide +kernel
theorem dX10_samples_19 : decode cX10_samples 19 = .ok (.if_icmp .le 5, 3) := by decide +kernel
theorem dX10_samples_22 : decode cX10_samples 22 = .ok (.iconst (-1), 1) := by decide +kernel
theorem dX10_samples_23 : decode cX10_samples 23 = .ok (.ireturn, 1) := by decide +kernel
theorem dX10_samples_24 : decode cX10_samples 24 = .ok (.aload_n 0, 1) := by decide +kernel
theorem dX10_samples_25 : decode cX10_samples 25 = .ok (.getfield 59, 3) := by decide +kernel
theorem dX10_samples_28 : decode cX10_samples 28 = .ok (.aload_n 0, 1) := by decide +kernel
theorem dX10_samples_29 : decode cX10_samples 29 = .ok (.getfield 19, 3) := by decide +kernel
theorem dX10_samples_32 : decode cX10_samples 32 = .ok (.iload_n 1, 1) := by decide +kernel
theorem dX10_samples_33 : decode cX10_samples 33 = .ok (.iload_n 2, 1) := by decide +kernel
theorem dX10_samples_34 : decode cX10_samples 34 = .ok (.iload_n 3, 1) := by decide +kernel
theorem dX10_samples_35 : decode cX10_samples 35 = .ok (.iload 4, 2) := by decide +kernel
theorem dX10_samples_37 : decode cX10_samples 37 = .ok (.invokevirtual 283, 3) := by decide +kernel
theorem dX10_samples_40 : decode cX10_samples 40 = .ok (.iload 5, 2) := by decide +kernel
theorem dX10_samples_42 : decode cX10_samples 42 = .ok (.tableswitch 104 0 4 #[34, 50, 58, 66, 85], 34) := by decide +kernel
theorem dX10_samples_76 : decode cX10_samples 76 = .ok (.aload_n 0, 1) := by decide +kernel
theorem dX10_samples_77 : decode cX10_samples 77 = .ok (.getfield 59, 3) := by decide +kernel
theorem dX10_samples_80 : decode cX10_samples 80 = .ok (.getfield 287, 3) := by decide +kernel
theorem dX10_samples_83 : decode cX10_samples 83 = .ok (.aload_n 0, 1) := by decide +kernel
theorem dX10_samples_84 : decode cX10_samples 84 = .ok (.getfield 59, 3) := by decide +kernel
theorem dX10_samples_87 : decode cX10_samples 87 = .ok (.getfield 290, 3) := by decide +kernel
theorem dX10_samples_90 : decode cX10_samples 90 = .ok (.iadd, 1) := by decide +kernel
theorem dX10_samples_91 : decode cX10_samples 91 = .ok (.ireturn, 1) := by decide +kernel
theorem dX10_samples_92 : decode cX10_samples 92 = .ok (.aload_n 0, 1) := by decide +kernel
theorem dX10_samples_93 : decode cX10_samples 93 = .ok (.getfield 59, 3) := by decide +kernel
theorem dX10_samples_96 : decode cX10_samples 96 = .ok (.getfield 287, 3) := by decide +kernel
theorem dX10_samples_99 : decode cX10_samples 99 = .ok (.ireturn, 1) := by decide +kernel
theorem dX10_samples_100 : decode cX10_samples 100 = .ok (.aload_n 0, 1) := by decide +kernel
theorem dX10_samples_101 : decode cX10_samples 101 = .ok (.getfield 59, 3) := by decide +kernel
theorem dX10_samples_104 : decode cX10_samples 104 = .ok (.invokevirtual 293, 3) := by decide +kernel
theorem dX10_samples_107 : decode cX10_samples 107 = .ok (.ireturn, 1) := by decide +kernel
theorem dX10_samples_108 : decode cX10_samples 108 = .ok (.aload_n 0, 1) := by decide +kernel
theorem dX10_samples_109 : decode cX10_samples 109 = .ok (.getfield 19, 3) := by decide +kernel
theorem dX10_samples_112 : decode cX10_samples 112 = .ok (.iload_n 1, 1) := by decide +kernel
theorem dX10_samples_113 : decode cX10_samples 113 = .ok (.invokevirtual 296, 3) := by decide +kernel
theorem dX10_samples_116 : decode cX10_samples 116 = .ok (.aload_n 0, 1) := by decide +kernel
theorem dX10_samples_117 : decode cX10_samples 117 = .ok (.getfield 59, 3) := by decide +kernel
theorem dX10_samples_120 : decode cX10_samples 120 = .ok (.invokevirtual 293, 3) := by decide +kernel
theorem dX10_samples_123 : decode cX10_samples 123 = .ok (.iconst (-1), 1) := by decide +kernel
theorem dX10_samples_124 : decode cX10_samples 124 = .ok (.ixor, 1) := by decide +kernel
theorem dX10_samples_125 : decode cX10_samples 125 = .ok (.iand, 1) := by decide +kernel
theorem dX10_samples_126 : decode cX10_samples 126 = .ok (.ireturn, 1) := by decide +kernel
theorem dX10_samples_127 : decode cX10_samples 127 = .ok (.aload_n 0, 1) := by decide +kernel
theorem dX10_samples_128 : decode cX10_samples 128 = .ok (.getfield 59, 3) := by decide +kernel
theorem dX10_samples_131 : decode cX10_samples 131 = .ok (.invokevirtual 293, 3) := by decide +kernel
theorem dX10_samples_134 : decode cX10_samples 134 = .ok (.aload_n 0, 1) := by decide +kernel
theorem dX10_samples_135 : decode cX10_samples 135 = .ok (.getfield 19, 3) := by decide +kernel
theorem dX10_samples_138 : decode cX10_samples 138 = .ok (.iload_n 1, 1) := by decide +kernel
theorem dX10_samples_139 : decode cX10_samples 139 = .ok (.invokevirtual 296, 3) := by decide +kernel
theorem dX10_samples_142 : decode cX10_samples 142 = .ok (.iconst (-1), 1) := by decide +kernel
theorem dX10_samples_143 : decode cX10_samples 143 = .ok (.ixor, 1) := by decide +kernel
theorem dX10_samples_144 : decode cX10_samples 144 = .ok (.iand, 1) := by decide +kernel
theorem dX10_samples_145 : decode cX10_samples 145 = .ok (.ireturn, 1) := by decide +kernel
theorem dX10_samples_146 : decode cX10_samples 146 = .ok (.aload_n 0, 1) := by decide +kernel
theorem dX10_samples_147 : decode cX10_samples 147 = .ok (.getfield 59, 3) := by decide +kernel
theorem dX10_samples_150 : decode cX10_samples 150 = .ok (.invokevirtual 299, 3) := by decide +kernel
theorem dX10_samples_153 : decode cX10_samples 153 = .ok (.ireturn, 1) := by decide +kernel
theorem dX10_far_0 : decode cX10_far 0 = .ok (.iload_n 1, 1) := by decide +kernel
theorem dX10_far_1 : decode cX10_far 1 = .ok (.iload_n 2, 1) := by decide +kernel
theorem dX10_far_2 : decode cX10_far 2 = .ok (.iload_n 3, 1) := by decide +kernel
theorem dX10_far_3 : decode cX10_far 3 = .ok (.iload 4, 2) := by decide +kernel
theorem dX10_far_5 : decode cX10_far 5 = .ok (.invokestatic 279, 3) := by decide +kernel
theorem dX10_far_8 : decode cX10_far 8 = .ok (.ifCond .eq 11, 3) := by decide +kernel
theorem dX10_far_11 : decode cX10_far 11 = .ok (.iload 5, 2) := by decide +kernel
theorem dX10_far_13 : decode cX10_far 13 = .ok (.invokestatic 152, 3) := by decide +kernel
theorem dX10_far_16 : decode cX10_far 16 = .ok (.ifCond .ne 7, 3) := by decide +kernel
theorem dX10_far_19 : decode cX10_far 19 = .ok (.ldc2_w 302, 3) := by decide +kernel
theorem dX10_far_22 : decode cX10_far 22 = .ok (.lreturn, 1) := by decide +kernel
theorem dX10_far_23 : decode cX10_far 23 = .ok (.aload_n 0, 1) := by decide +kernel
theorem dX10_far_24 : decode cX10_far 24 = .ok (.getfield 59, 3) := by decide +kernel
theorem dX10_far_27 : decode cX10_far 27 = .ok (.aload_n 0, 1) := by decide +kernel
theorem dX10_far_28 : decode cX10_far 28 = .ok (.getfield 19, 3) := by decide +kernel
theorem dX10_far_31 : decode cX10_far 31 = .ok (.iload_n 1, 1) := by decide +kernel
theorem dX10_far_32 : decode cX10_far 32 = .ok (.iload_n 2, 1) := by decide +kernel
theorem dX10_far_33 : decode cX10_far 33 = .ok (.iload_n 3, 1) := by decide +kernel
theorem dX10_far_34 : decode cX10_far 34 = .ok (.iload 4, 2) := by decide +kernel
theorem dX10_far_36 : decode cX10_far 36 = .ok (.invokevirtual 283, 3) := by decide +kernel
theorem dX10_far_39 : decode cX10_far 39 = .ok (.aload_n 0, 1) := by decide +kernel
theorem dX10_far_40 : decode cX10_far 40 = .ok (.getfield 59, 3) := by decide +kernel
theorem dX10_far_43 : decode cX10_far 43 = .ok (.getfield 290, 3) := by decide +kernel
theorem dX10_far_46 : decode cX10_far 46 = .ok (.i2l, 1) := by decide +kernel
theorem dX10_far_47 : decode cX10_far 47 = .ok (.aload_n 0, 1) := by decide +kernel
theorem dX10_far_48 : decode cX10_far 48 = .ok (.getfield 19, 3) := by decide +kernel
theorem dX10_far_51 : decode cX10_far 51 = .ok (.iload_n 1, 1) := by decide +kernel
theorem dX10_far_52 : decode cX10_far 52 = .ok (.invokevirtual 148, 3) := by decide +kernel
theorem dX10_far_55 : decode cX10_far 55 = .ok (.i2l, 1) := by decide +kernel
theorem dX10_far_56 : decode cX10_far 56 = .ok (.lmul, 1) := by decide +kernel
theorem dX10_far_57 : decode cX10_far 57 = .ok (.lstore 6, 2) := by decide +kernel
theorem dX10_far_59 : decode cX10_far 59 = .ok (.lload 6, 2) := by decide +kernel
theorem dX10_far_61 : decode cX10_far 61 = .ok (.lconst 1, 1) := by decide +kernel
theorem dX10_far_62 : decode cX10_far 62 = .ok (.lcmp, 1) := by decide +kernel
theorem dX10_far_63 : decode cX10_far 63 = .ok (.ifCond .ge 7, 3) := by decide +kernel
theorem dX10_far_66 : decode cX10_far 66 = .ok (.ldc2_w 304, 3) := by decide +kernel
theorem dX10_far_69 : decode cX10_far 69 = .ok (.lreturn, 1) := by decide +kernel
theorem dX10_far_70 : decode cX10_far 70 = .ok (.aload_n 0, 1) := by decide +kernel
theorem dX10_far_71 : decode cX10_far 71 = .ok (.getfield 59, 3) := by decide +kernel
theorem dX10_far_74 : decode cX10_far 74 = .ok (.aload_n 0, 1) := by decide +kernel
theorem dX10_far_75 : decode cX10_far 75 = .ok (.getfield 19, 3) := by decide +kernel
theorem dX10_far_78 : decode cX10_far 78 = .ok (.iload_n 1, 1) := by decide +kernel
theorem dX10_far_79 : decode cX10_far 79 = .ok (.invokevirtual 306, 3) := by decide +kernel
theorem dX10_far_82 : decode cX10_far 82 = .ok (.lload 6, 2) := by decide +kernel
theorem dX10_far_84 : decode cX10_far 84 = .ok (.iload 5, 2) := by decide +kernel
theorem dX10_far_86 : decode cX10_far 86 = .ok (.ifCond .ne 7, 3) := by decide +kernel
theorem dX10_far_89 : decode cX10_far 89 = .ok (.iconst 1, 1) := by decide +kernel
theorem dX10_far_90 : decode cX10_far 90 = .ok (.goto 4, 3) := by decide +kernel
theorem dX10_far_93 : decode cX10_far 93 = .ok (.iconst 0, 1) := by decide +kernel
theorem dX10_far_94 : decode cX10_far 94 = .ok (.invokestatic 155, 3) := by decide +kernel
theorem dX10_far_97 : decode cX10_far 97 = .ok (.lreturn, 1) := by decide +kernel
theorem dX10_truest_0 : decode cX10_truest 0 = .ok (.iload_n 1, 1) := by decide +kernel
theorem dX10_truest_1 : decode cX10_truest 1 = .ok (.iload_n 2, 1) := by decide +kernel
theorem dX10_truest_2 : decode cX10_truest 2 = .ok (.iconst 0, 1) := by decide +kernel
theorem dX10_truest_3 : decode cX10_truest 3 = .ok (.iload 4, 2) := by decide +kernel
theorem dX10_truest_5 : decode cX10_truest 5 = .ok (.invokestatic 279, 3) := by decide +kernel
theorem dX10_truest_8 : decode cX10_truest 8 = .ok (.ifCond .eq 18, 3) := by decide +kernel
theorem dX10_truest_11 : decode cX10_truest 11 = .ok (.iload_n 3, 1) := by decide +kernel
theorem dX10_truest_12 : decode cX10_truest 12 = .ok (.sipush 9999, 3) := by decide +kernel
theorem dX10_truest_15 : decode cX10_truest 15 = .ok (.if_icmp .gt 11, 3) := by decide +kernel
theorem dX10_truest_18 : decode cX10_truest 18 = .ok (.iload_n 2, 1) := by decide +kernel
theorem dX10_truest_19 : decode cX10_truest 19 = .ok (.iload_n 3, 1) := by decide +kernel
theorem dX10_truest_20 : decode cX10_truest 20 = .ok (.invokestatic 266, 3) := by decide +kernel
theorem dX10_truest_23 : decode cX10_truest 23 = .ok (.ifCond .ne 5, 3) := by decide +kernel
theorem dX10_truest_26 : decode cX10_truest 26 = .ok (.iconst (-1), 1) := by decide +kernel
theorem dX10_truest_27 : decode cX10_truest 27 = .ok (.ireturn, 1) := by decide +kernel
theorem dX10_truest_28 : decode cX10_truest 28 = .ok (.bipush (-4), 2) := by decide +kernel
theorem dX10_truest_30 : decode cX10_truest 30 = .ok (.istore 5, 2) := by decide +kernel
theorem dX10_truest_32 : decode cX10_truest 32 = .ok (.lconst 0, 1) := by decide +kernel
theorem dX10_truest_33 : decode cX10_truest 33 = .ok (.lstore 6, 2) := by decide +kernel
theorem dX10_truest_35 : decode cX10_truest 35 = .ok (.lconst 1, 1) := by decide +kernel
theorem dX10_truest_36 : decode cX10_truest 36 = .ok (.lstore 8, 2) := by decide +kernel
theorem dX10_truest_38 : decode cX10_truest 38 = .ok (.iload_n 2, 1) := by decide +kernel
theorem dX10_truest_39 : decode cX10_truest 39 = .ok (.istore 10, 2) := by decide +kernel
theorem dX10_truest_41 : decode cX10_truest 41 = .ok (.iload 10, 2) := by decide +kernel
theorem dX10_truest_43 : decode cX10_truest 43 = .ok (.iload_n 3, 1) := by decide +kernel
theorem dX10_truest_44 : decode cX10_truest 44 = .ok (.if_icmp .gt 95, 3) := by decide +kernel
theorem dX10_truest_47 : decode cX10_truest 47 = .ok (.aload_n 0, 1) := by decide +kernel
theorem dX10_truest_48 : decode cX10_truest 48 = .ok (.getfield 59, 3) := by decide +kernel
theorem dX10_truest_51 : decode cX10_truest 51 = .ok (.aload_n 0, 1) := by decide +kernel
theorem dX10_truest_52 : decode cX10_truest 52 = .ok (.getfield 19, 3) := by decide +kernel
theorem dX10_truest_55 : decode cX10_truest 55 = .ok (.iload_n 1, 1) := by decide +kernel
theorem dX10_truest_56 : decode cX10_truest 56 = .ok (.iload 10, 2) := by decide +kernel
theorem dX10_truest_58 : decode cX10_truest 58 = .ok (.iconst 0, 1) := by decide +kernel
theorem dX10_truest_59 : decode cX10_truest 59 = .ok (.iload 4, 2) := by decide +kernel
theorem dX10_truest_61 : decode cX10_truest 61 = .ok (.invokevirtual 283, 3) := by decide +kernel
theorem dX10_truest_64 : decode cX10_truest 64 = .ok (.aload_n 0, 1) := by decide +kernel
theorem dX10_truest_65 : decode cX10_truest 65 = .ok (.getfield 59, 3) := by decide +kernel
theorem dX10_truest_68 : decode cX10_truest 68 = .ok (.aload_n 0, 1) := by decide +kernel
theorem dX10_truest_69 : decode cX10_truest 69 = .ok (.getfield 19, 3) := by decide +kernel
theorem dX10_truest_72 : decode cX10_truest 72 = .ok (.iload_n 1, 1) := by decide +kernel
theorem dX10_truest_73 : decode cX10_truest 73 = .ok (.invokevirtual 306, 3) := by decide +kernel
theorem dX10_truest_76 : decode cX10_truest 76 = .ok (.lstore 11, 2) := by decide +kernel
theorem dX10_truest_78 : decode cX10_truest 78 = .ok (.aload_n 0, 1) := by decide +kernel
theorem dX10_truest_79 : decode cX10_truest 79 = .ok (.getfield 59, 3) := by decide +kernel
theorem dX10_truest_82 : decode cX10_truest 82 = .ok (.getfield 290, 3) := by decide +kernel
theorem dX10_truest_85 : decode cX10_truest 85 = .ok (.ifCond .le 48, 3) := by decide +kernel
theorem dX10_truest_88 : decode cX10_truest 88 = .ok (.iload 5, 2) := by decide +kernel
theorem dX10_truest_90 : decode cX10_truest 90 = .ok (.bipush (-4), 2) := by decide +kernel
theorem dX10_truest_92 : decode cX10_truest 92 = .ok (.if_icmp .eq 23, 3) := by decide +kernel
theorem dX10_truest_95 : decode cX10_truest 95 = .ok (.lload 11, 2) := by decide +kernel
theorem dX10_truest_97 : decode cX10_truest 97 = .ok (.lload 8, 2) := by decide +kernel
theorem dX10_truest_99 : decode cX10_truest 99 = .ok (.lmul, 1) := by decide +kernel
theorem dX10_truest_100 : decode cX10_truest 100 = .ok (.lload 6, 2) := by decide +kernel
theorem dX10_truest_102 : decode cX10_truest 102 = .ok (.aload_n 0, 1) := by decide +kernel
theorem dX10_truest_103 : decode cX10_truest 103 = .ok (.getfield 59, 3) := by decide +kernel
theorem dX10_truest_106 : decode cX10_truest 106 = .ok (.getfield 290, 3) := by decide +kernel
theorem dX10_truest_109 : decode cX10_truest 109 = .ok (.i2l, 1) := by decide +kernel
theorem dX10_truest_110 : decode cX10_truest 110 = .ok (.lmul, 1) := by decide +kernel
theorem dX10_truest_111 : decode cX10_truest 111 = .ok (.lcmp, 1) := by decide +kernel
theorem dX10_truest_112 : decode cX10_truest 112 = .ok (.ifCond .ge 21, 3) := by decide +kernel
theorem dX10_truest_115 : decode cX10_truest 115 = .ok (.iload 10, 2) := by decide +kernel
theorem dX10_truest_117 : decode cX10_truest 117 = .ok (.istore 5, 2) := by decide +kernel
theorem dX10_truest_119 : decode cX10_truest 119 = .ok (.lload 11, 2) := by decide +kernel
theorem dX10_truest_121 : decode cX10_truest 121 = .ok (.lstore 6, 2) := by decide +kernel
theorem dX10_truest_123 : decode cX10_truest 123 = .ok (.aload_n 0, 1) := by decide +kernel
theorem dX10_truest_124 : decode cX10_truest 124 = .ok (.getfield 59, 3) := by decide +kernel
theorem dX10_truest_127 : decode cX10_truest 127 = .ok (.getfield 290, 3) := by decide +kernel
theorem dX10_truest_130 : decode cX10_truest 130 = .ok (.i2l, 1) := by decide +kernel
theorem dX10_truest_131 : decode cX10_truest 131 = .ok (.lstore 8, 2) := by decide +kernel
theorem dX10_truest_133 : decode cX10_truest 133 = .ok (.iinc 10 1, 3) := by decide +kernel
theorem dX10_truest_136 : decode cX10_truest 136 = .ok (.goto (-95), 3) := by decide +kernel
theorem dX10_truest_139 : decode cX10_truest 139 = .ok (.iload 5, 2) := by decide +kernel
theorem dX10_truest_141 : decode cX10_truest 141 = .ok (.ireturn, 1) := by decide +kernel
theorem dX10_beats_0 : decode cX10_beats 0 = .ok (.iload_n 1, 1) := by decide +kernel
theorem dX10_beats_1 : decode cX10_beats 1 = .ok (.iload_n 2, 1) := by decide +kernel
theorem dX10_beats_2 : decode cX10_beats 2 = .ok (.iload_n 3, 1) := by decide +kernel
theorem dX10_beats_3 : decode cX10_beats 3 = .ok (.iconst 0, 1) := by decide +kernel
theorem dX10_beats_4 : decode cX10_beats 4 = .ok (.invokestatic 279, 3) := by decide +kernel
theorem dX10_beats_7 : decode cX10_beats 7 = .ok (.ifCond .eq 14, 3) := by decide +kernel
theorem dX10_beats_10 : decode cX10_beats 10 = .ok (.iload 4, 2) := by decide +kernel
theorem dX10_beats_12 : decode cX10_beats 12 = .ok (.ifCond .lt 9, 3) := by decide +kernel
theorem dX10_beats_15 : decode cX10_beats 15 = .ok (.iload 4, 2) := by decide +kernel
theorem dX10_beats_17 : decode cX10_beats 17 = .ok (.iconst 2, 1) := by decide +kernel
theorem dX10_beats_18 : decode cX10_beats 18 = .ok (.if_icmp .le 5, 3) := by decide +kernel
theorem dX10_beats_21 : decode cX10_beats 21 = .ok (.iconst (-1), 1) := by decide +kernel
theorem dX10_beats_22 : decode cX10_beats 22 = .ok (.ireturn, 1) := by decide +kernel
theorem dX10_beats_23 : decode cX10_beats 23 = .ok (.aload_n 0, 1) := by decide +kernel
theorem dX10_beats_24 : decode cX10_beats 24 = .ok (.getfield 19, 3) := by decide +kernel
theorem dX10_beats_27 : decode cX10_beats 27 = .ok (.iload_n 1, 1) := by decide +kernel
theorem dX10_beats_28 : decode cX10_beats 28 = .ok (.invokevirtual 148, 3) := by decide +kernel
theorem dX10_beats_31 : decode cX10_beats 31 = .ok (.istore 5, 2) := by decide +kernel
theorem dX10_beats_33 : decode cX10_beats 33 = .ok (.iload 5, 2) := by decide +kernel
theorem dX10_beats_35 : decode cX10_beats 35 = .ok (.i2l, 1) := by decide +kernel
theorem dX10_beats_36 : decode cX10_beats 36 = .ok (.iload_n 2, 1) := by decide +kernel
theorem dX10_beats_37 : decode cX10_beats 37 = .ok (.i2l, 1) := by decide +kernel
theorem dX10_beats_38 : decode cX10_beats 38 = .ok (.invokestatic 309, 3) := by decide +kernel
theorem dX10_beats_41 : decode cX10_beats 41 = .ok (.l2i, 1) := by decide +kernel
theorem dX10_beats_42 : decode cX10_beats 42 = .ok (.istore 6, 2) := by decide +kernel
theorem dX10_beats_44 : decode cX10_beats 44 = .ok (.iload 5, 2) := by decide +kernel
theorem dX10_beats_46 : decode cX10_beats 46 = .ok (.iconst 1, 1) := by decide +kernel
theorem dX10_beats_47 : decode cX10_beats 47 = .ok (.if_icmp .lt 9, 3) := by decide +kernel
theorem dX10_beats_50 : decode cX10_beats 50 = .ok (.iload 6, 2) := by decide +kernel
theorem dX10_beats_52 : decode cX10_beats 52 = .ok (.iconst 1, 1) := by decide +kernel
theorem dX10_beats_53 : decode cX10_beats 53 = .ok (.if_icmp .ge 5, 3) := by decide +kernel
theorem dX10_beats_56 : decode cX10_beats 56 = .ok (.iconst 0, 1) := by decide +kernel
theorem dX10_beats_57 : decode cX10_beats 57 = .ok (.ireturn, 1) := by decide +kernel
theorem dX10_beats_58 : decode cX10_beats 58 = .ok (.iload 4, 2) := by decide +kernel
theorem dX10_beats_60 : decode cX10_beats 60 = .ok (.iconst 2, 1) := by decide +kernel
theorem dX10_beats_61 : decode cX10_beats 61 = .ok (.if_icmp .ne 8, 3) := by decide +kernel
theorem dX10_beats_64 : decode cX10_beats 64 = .ok (.iload_n 2, 1) := by decide +kernel
theorem dX10_beats_65 : decode cX10_beats 65 = .ok (.iload 6, 2) := by decide +kernel
theorem dX10_beats_67 : decode cX10_beats 67 = .ok (.idiv, 1) := by decide +kernel
theorem dX10_beats_68 : decode cX10_beats 68 = .ok (.ireturn, 1) := by decide +kernel
theorem dX10_beats_69 : decode cX10_beats 69 = .ok (.aload_n 0, 1) := by decide +kernel
theorem dX10_beats_70 : decode cX10_beats 70 = .ok (.getfield 59, 3) := by decide +kernel
theorem dX10_beats_73 : decode cX10_beats 73 = .ok (.aload_n 0, 1) := by decide +kernel
theorem dX10_beats_74 : decode cX10_beats 74 = .ok (.getfield 19, 3) := by decide +kernel
theorem dX10_beats_77 : decode cX10_beats 77 = .ok (.iload_n 1, 1) := by decide +kernel
theorem dX10_beats_78 : decode cX10_beats 78 = .ok (.iload 6, 2) := by decide +kernel
theorem dX10_beats_80 : decode cX10_beats 80 = .ok (.iload_n 3, 1) := by decide +kernel
theorem dX10_beats_81 : decode cX10_beats 81 = .ok (.iload 6, 2) := by decide +kernel
theorem dX10_beats_83 : decode cX10_beats 83 = .ok (.irem, 1) := by decide +kernel
theorem dX10_beats_84 : decode cX10_beats 84 = .ok (.iconst 0, 1) := by decide +kernel
theorem dX10_beats_85 : decode cX10_beats 85 = .ok (.invokevirtual 283, 3) := by decide +kernel
theorem dX10_beats_88 : decode cX10_beats 88 = .ok (.aload_n 0, 1) := by decide +kernel
theorem dX10_beats_89 : decode cX10_beats 89 = .ok (.getfield 59, 3) := by decide +kernel
theorem dX10_beats_92 : decode cX10_beats 92 = .ok (.invokevirtual 293, 3) := by decide +kernel
theorem dX10_beats_95 : decode cX10_beats 95 = .ok (.istore 7, 2) := by decide +kernel
theorem dX10_beats_97 : decode cX10_beats 97 = .ok (.iload 4, 2) := by decide +kernel
theorem dX10_beats_99 : decode cX10_beats 99 = .ok (.ifCond .ne 8, 3) := by decide +kernel
theorem dX10_beats_102 : decode cX10_beats 102 = .ok (.iload 7, 2) := by decide +kernel
theorem dX10_beats_104 : decode cX10_beats 104 = .ok (.goto 16, 3) := by decide +kernel
theorem dX10_beats_107 : decode cX10_beats 107 = .ok (.aload_n 0, 1) := by decide +kernel
theorem dX10_beats_108 : decode cX10_beats 108 = .ok (.getfield 19, 3) := by decide +kernel
theorem dX10_beats_111 : decode cX10_beats 111 = .ok (.iload_n 1, 1) := by decide +kernel
theorem dX10_beats_112 : decode cX10_beats 112 = .ok (.invokevirtual 296, 3) := by decide +kernel
theorem dX10_beats_115 : decode cX10_beats 115 = .ok (.iload 7, 2) := by decide +kernel
theorem dX10_beats_117 : decode cX10_beats 117 = .ok (.iconst (-1), 1) := by decide +kernel
theorem dX10_beats_118 : decode cX10_beats 118 = .ok (.ixor, 1) := by decide +kernel
theorem dX10_beats_119 : decode cX10_beats 119 = .ok (.iand, 1) := by decide +kernel
theorem dX10_beats_120 : decode cX10_beats 120 = .ok (.ireturn, 1) := by decide +kernel
theorem dX10_over_0 : decode cX10_over 0 = .ok (.aload_n 0, 1) := by decide +kernel
theorem dX10_over_1 : decode cX10_over 1 = .ok (.getfield 45, 3) := by decide +kernel
theorem dX10_over_4 : decode cX10_over 4 = .ok (.iload_n 1, 1) := by decide +kernel
theorem dX10_over_5 : decode cX10_over 5 = .ok (.iload_n 2, 1) := by decide +kernel
theorem dX10_over_6 : decode cX10_over 6 = .ok (.invokevirtual 313, 3) := by decide +kernel
theorem dX10_over_9 : decode cX10_over 9 = .ok (.ifCond .eq 27, 3) := by decide +kernel
theorem dX10_over_12 : decode cX10_over 12 = .ok (.iload_n 3, 1) := by decide +kernel
theorem dX10_over_13 : decode cX10_over 13 = .ok (.ifCond .lt 23, 3) := by decide +kernel
theorem dX10_over_16 : decode cX10_over 16 = .ok (.iload_n 3, 1) := by decide +kernel
theorem dX10_over_17 : decode cX10_over 17 = .ok (.aload_n 0, 1) := by decide +kernel
theorem dX10_over_18 : decode cX10_over 18 = .ok (.getfield 45, 3) := by decide +kernel
theorem dX10_over_21 : decode cX10_over 21 = .ok (.iload_n 1, 1) := by decide +kernel
theorem dX10_over_22 : decode cX10_over 22 = .ok (.invokevirtual 316, 3) := by decide +kernel
theorem dX10_over_25 : decode cX10_over 25 = .ok (.if_icmp .gt 11, 3) := by decide +kernel
theorem dX10_over_28 : decode cX10_over 28 = .ok (.iload 4, 2) := by decide +kernel
theorem dX10_over_30 : decode cX10_over 30 = .ok (.invokestatic 152, 3) := by decide +kernel
theorem dX10_over_33 : decode cX10_over 33 = .ok (.ifCond .ne 5, 3) := by decide +kernel
theorem dX10_over_36 : decode cX10_over 36 = .ok (.iconst (-1), 1) := by decide +kernel
theorem dX10_over_37 : decode cX10_over 37 = .ok (.ireturn, 1) := by decide +kernel
theorem dX10_over_38 : decode cX10_over 38 = .ok (.iload_n 3, 1) := by decide +kernel
theorem dX10_over_39 : decode cX10_over 39 = .ok (.aload_n 0, 1) := by decide +kernel
theorem dX10_over_40 : decode cX10_over 40 = .ok (.getfield 19, 3) := by decide +kernel
theorem dX10_over_43 : decode cX10_over 43 = .ok (.iload_n 2, 1) := by decide +kernel
theorem dX10_over_44 : decode cX10_over 44 = .ok (.invokevirtual 148, 3) := by decide +kernel
theorem dX10_over_47 : decode cX10_over 47 = .ok (.iadd, 1) := by decide +kernel
theorem dX10_over_48 : decode cX10_over 48 = .ok (.istore 5, 2) := by decide +kernel
theorem dX10_over_50 : decode cX10_over 50 = .ok (.iload 4, 2) := by decide +kernel
theorem dX10_over_52 : decode cX10_over 52 = .ok (.ifCond .ne 17, 3) := by decide +kernel
theorem dX10_over_55 : decode cX10_over 55 = .ok (.iload 5, 2) := by decide +kernel
theorem dX10_over_57 : decode cX10_over 57 = .ok (.aload_n 0, 1) := by decide +kernel
theorem dX10_over_58 : decode cX10_over 58 = .ok (.getfield 45, 3) := by decide +kernel
theorem dX10_over_61 : decode cX10_over 61 = .ok (.iload_n 1, 1) := by decide +kernel
theorem dX10_over_62 : decode cX10_over 62 = .ok (.invokevirtual 316, 3) := by decide +kernel
theorem dX10_over_65 : decode cX10_over 65 = .ok (.iand, 1) := by decide +kernel
theorem dX10_over_66 : decode cX10_over 66 = .ok (.goto 15, 3) := by decide +kernel
theorem dX10_over_69 : decode cX10_over 69 = .ok (.iload 5, 2) := by decide +kernel
theorem dX10_over_71 : decode cX10_over 71 = .ok (.aload_n 0, 1) := by decide +kernel
theorem dX10_over_72 : decode cX10_over 72 = .ok (.getfield 45, 3) := by decide +kernel
theorem dX10_over_75 : decode cX10_over 75 = .ok (.getfield 221, 3) := by decide +kernel
theorem dX10_over_78 : decode cX10_over 78 = .ok (.iload_n 1, 1) := by decide +kernel
theorem dX10_over_79 : decode cX10_over 79 = .ok (.iaload, 1) := by decide +kernel
theorem dX10_over_80 : decode cX10_over 80 = .ok (.ishr, 1) := by decide +kernel
theorem dX10_over_81 : decode cX10_over 81 = .ok (.ireturn, 1) := by decide +kernel
theorem dX10_looked_0 : decode cX10_looked 0 = .ok (.aload_n 0, 1) := by decide +kernel
theorem dX10_looked_1 : decode cX10_looked 1 = .ok (.getfield 45, 3) := by decide +kernel
theorem dX10_looked_4 : decode cX10_looked 4 = .ok (.iload_n 1, 1) := by decide +kernel
theorem dX10_looked_5 : decode cX10_looked 5 = .ok (.iload_n 2, 1) := by decide +kernel
theorem dX10_looked_6 : decode cX10_looked 6 = .ok (.invokevirtual 313, 3) := by decide +kernel
theorem dX10_looked_9 : decode cX10_looked 9 = .ok (.ifCond .eq 21, 3) := by decide +kernel
theorem dX10_looked_12 : decode cX10_looked 12 = .ok (.iload_n 3, 1) := by decide +kernel
theorem dX10_looked_13 : decode cX10_looked 13 = .ok (.invokestatic 240, 3) := by decide +kernel
theorem dX10_looked_16 : decode cX10_looked 16 = .ok (.ifCond .eq 14, 3) := by decide +kernel
theorem dX10_looked_19 : decode cX10_looked 19 = .ok (.iload 4, 2) := by decide +kernel
theorem dX10_looked_21 : decode cX10_looked 21 = .ok (.ifCond .lt 9, 3) := by decide +kernel
theorem dX10_looked_24 : decode cX10_looked 24 = .ok (.iload 4, 2) := by decide +kernel
theorem dX10_looked_26 : decode cX10_looked 26 = .ok (.iconst 2, 1) := by decide +kernel
theorem dX10_looked_27 : decode cX10_looked 27 = .ok (.if_icmp .le 5, 3) := by decide +kernel
theorem dX10_looked_30 : decode cX10_looked 30 = .ok (.iconst (-1), 1) := by decide +kernel
theorem dX10_looked_31 : decode cX10_looked 31 = .ok (.ireturn, 1) := by decide +kernel
theorem dX10_looked_32 : decode cX10_looked 32 = .ok (.aload_n 0, 1) := by decide +kernel
theorem dX10_looked_33 : decode cX10_looked 33 = .ok (.getfield 66, 3) := by decide +kernel
theorem dX10_looked_36 : decode cX10_looked 36 = .ok (.aload_n 0, 1) := by decide +kernel
theorem dX10_looked_37 : decode cX10_looked 37 = .ok (.getfield 19, 3) := by decide +kernel
theorem dX10_looked_40 : decode cX10_looked 40 = .ok (.iload_n 2, 1) := by decide +kernel
theorem dX10_looked_41 : decode cX10_looked 41 = .ok (.iload_n 3, 1) := by decide +kernel
theorem dX10_looked_42 : decode cX10_looked 42 = .ok (.aload_n 0, 1) := by decide +kernel
theorem dX10_looked_43 : decode cX10_looked 43 = .ok (.getfield 45, 3) := by decide +kernel
theorem dX10_looked_46 : decode cX10_looked 46 = .ok (.iload_n 1, 1) := by decide +kernel
theorem dX10_looked_47 : decode cX10_looked 47 = .ok (.invokevirtual 316, 3) := by decide +kernel
theorem dX10_looked_50 : decode cX10_looked 50 = .ok (.invokevirtual 319, 3) := by decide +kernel
theorem dX10_looked_53 : decode cX10_looked 53 = .ok (.iload 4, 2) := by decide +kernel
theorem dX10_looked_55 : decode cX10_looked 55 = .ok (.lookupswitch 50 #[(0, 25), (1, 33)], 25) := by decide +kernel
theorem dX10_looked_80 : decode cX10_looked 80 = .ok (.aload_n 0, 1) := by decide +kernel
theorem dX10_looked_81 : decode cX10_looked 81 = .ok (.getfield 66, 3) := by decide +kernel
theorem dX10_looked_84 : decode cX10_looked 84 = .ok (.getfield 322, 3) := by decide +kernel
theorem dX10_looked_87 : decode cX10_looked 87 = .ok (.ireturn, 1) := by decide +kernel
theorem dX10_looked_88 : decode cX10_looked 88 = .ok (.aload_n 0, 1) := by decide +kernel
theorem dX10_looked_89 : decode cX10_looked 89 = .ok (.getfield 19, 3) := by decide +kernel
theorem dX10_looked_92 : decode cX10_looked 92 = .ok (.iload_n 2, 1) := by decide +kernel
theorem dX10_looked_93 : decode cX10_looked 93 = .ok (.invokevirtual 148, 3) := by decide +kernel
theorem dX10_looked_96 : decode cX10_looked 96 = .ok (.aload_n 0, 1) := by decide +kernel
theorem dX10_looked_97 : decode cX10_looked 97 = .ok (.getfield 66, 3) := by decide +kernel
theorem dX10_looked_100 : decode cX10_looked 100 = .ok (.getfield 322, 3) := by decide +kernel
theorem dX10_looked_103 : decode cX10_looked 103 = .ok (.isub, 1) := by decide +kernel
theorem dX10_looked_104 : decode cX10_looked 104 = .ok (.ireturn, 1) := by decide +kernel
theorem dX10_looked_105 : decode cX10_looked 105 = .ok (.aload_n 0, 1) := by decide +kernel
theorem dX10_looked_106 : decode cX10_looked 106 = .ok (.getfield 66, 3) := by decide +kernel
theorem dX10_looked_109 : decode cX10_looked 109 = .ok (.getfield 325, 3) := by decide +kernel
theorem dX10_looked_112 : decode cX10_looked 112 = .ok (.ireturn, 1) := by decide +kernel
theorem dX10_seldom_0 : decode cX10_seldom 0 = .ok (.aload_n 0, 1) := by decide +kernel
theorem dX10_seldom_1 : decode cX10_seldom 1 = .ok (.getfield 45, 3) := by decide +kernel
theorem dX10_seldom_4 : decode cX10_seldom 4 = .ok (.iload_n 1, 1) := by decide +kernel
theorem dX10_seldom_5 : decode cX10_seldom 5 = .ok (.iload_n 2, 1) := by decide +kernel
theorem dX10_seldom_6 : decode cX10_seldom 6 = .ok (.invokevirtual 313, 3) := by decide +kernel
theorem dX10_seldom_9 : decode cX10_seldom 9 = .ok (.ifCond .ne 5, 3) := by decide +kernel
theorem dX10_seldom_12 : decode cX10_seldom 12 = .ok (.iconst (-1), 1) := by decide +kernel
theorem dX10_seldom_13 : decode cX10_seldom 13 = .ok (.ireturn, 1) := by decide +kernel
theorem dX10_seldom_14 : decode cX10_seldom 14 = .ok (.aload_n 0, 1) := by decide +kernel
theorem dX10_seldom_15 : decode cX10_seldom 15 = .ok (.getfield 66, 3) := by decide +kernel
theorem dX10_seldom_18 : decode cX10_seldom 18 = .ok (.aload_n 0, 1) := by decide +kernel
theorem dX10_seldom_19 : decode cX10_seldom 19 = .ok (.getfield 19, 3) := by decide +kernel
theorem dX10_seldom_22 : decode cX10_seldom 22 = .ok (.iload_n 2, 1) := by decide +kernel
theorem dX10_seldom_23 : decode cX10_seldom 23 = .ok (.aload_n 0, 1) := by decide +kernel
theorem dX10_seldom_24 : decode cX10_seldom 24 = .ok (.getfield 45, 3) := by decide +kernel
theorem dX10_seldom_27 : decode cX10_seldom 27 = .ok (.iload_n 1, 1) := by decide +kernel
theorem dX10_seldom_28 : decode cX10_seldom 28 = .ok (.invokevirtual 316, 3) := by decide +kernel
theorem dX10_seldom_31 : decode cX10_seldom 31 = .ok (.invokevirtual 328, 3) := by decide +kernel
theorem dX10_seldom_34 : decode cX10_seldom 34 = .ok (.ireturn, 1) := by decide +kernel
theorem dX10_run_0 : decode cX10_run 0 = .ok (.aload_n 0, 1) := by decide +kernel
theorem dX10_run_1 : decode cX10_run 1 = .ok (.getfield 45, 3) := by decide +kernel
theorem dX10_run_4 : decode cX10_run 4 = .ok (.iload_n 1, 1) := by decide +kernel
theorem dX10_run_5 : decode cX10_run 5 = .ok (.invokevirtual 208, 3) := by decide +kernel
theorem dX10_run_8 : decode cX10_run 8 = .ok (.ifCond .eq 20, 3) := by decide +kernel
theorem dX10_run_11 : decode cX10_run 11 = .ok (.iload_n 2, 1) := by decide +kernel
theorem dX10_run_12 : decode cX10_run 12 = .ok (.invokestatic 120, 3) := by decide +kernel
theorem dX10_run_15 : decode cX10_run 15 = .ok (.ifCond .eq 13, 3) := by decide +kernel
theorem dX10_run_18 : decode cX10_run 18 = .ok (.iload_n 3, 1) := by decide +kernel
theorem dX10_run_19 : decode cX10_run 19 = .ok (.ifCond .lt 9, 3) := by decide +kernel
theorem dX10_run_22 : decode cX10_run 22 = .ok (.iload_n 3, 1) := by decide +kernel
theorem dX10_run_23 : decode cX10_run 23 = .ok (.ldc 177, 2) := by decide +kernel
theorem dX10_run_25 : decode cX10_run 25 = .ok (.if_icmp .le 5, 3) := by decide +kernel
theorem dX10_run_28 : decode cX10_run 28 = .ok (.iconst (-1), 1) := by decide +kernel
theorem dX10_run_29 : decode cX10_run 29 = .ok (.ireturn, 1) := by decide +kernel
theorem dX10_run_30 : decode cX10_run 30 = .ok (.aload_n 0, 1) := by decide +kernel
theorem dX10_run_31 : decode cX10_run 31 = .ok (.getfield 73, 3) := by decide +kernel
theorem dX10_run_34 : decode cX10_run 34 = .ok (.iload_n 1, 1) := by decide +kernel
theorem dX10_run_35 : decode cX10_run 35 = .ok (.iload_n 2, 1) := by decide +kernel
theorem dX10_run_36 : decode cX10_run 36 = .ok (.iload_n 3, 1) := by decide +kernel
theorem dX10_run_37 : decode cX10_run 37 = .ok (.invokevirtual 331, 3) := by decide +kernel
theorem dX10_run_40 : decode cX10_run 40 = .ok (.ifCond .eq 13, 3) := by decide +kernel
theorem dX10_run_43 : decode cX10_run 43 = .ok (.aload_n 0, 1) := by decide +kernel
theorem dX10_run_44 : decode cX10_run 44 = .ok (.getfield 73, 3) := by decide +kernel
theorem dX10_run_47 : decode cX10_run 47 = .ok (.getfield 112, 3) := by decide +kernel
theorem dX10_run_50 : decode cX10_run 50 = .ok (.goto 5, 3) := by decide +kernel
theorem dX10_run_53 : decode cX10_run 53 = .ok (.bipush (-3), 2) := by decide +kernel
theorem dX10_run_55 : decode cX10_run 55 = .ok (.ireturn, 1) := by decide +kernel
theorem dX10_forget_0 : decode cX10_forget 0 = .ok (.aload_n 0, 1) := by decide +kernel
theorem dX10_forget_1 : decode cX10_forget 1 = .ok (.getfield 73, 3) := by decide +kernel
theorem dX10_forget_4 : decode cX10_forget 4 = .ok (.getfield 112, 3) := by decide +kernel
theorem dX10_forget_7 : decode cX10_forget 7 = .ok (.istore_n 1, 1) := by decide +kernel
theorem dX10_forget_8 : decode cX10_forget 8 = .ok (.aload_n 0, 1) := by decide +kernel
theorem dX10_forget_9 : decode cX10_forget 9 = .ok (.getfield 73, 3) := by decide +kernel
theorem dX10_forget_12 : decode cX10_forget 12 = .ok (.iconst 0, 1) := by decide +kernel
theorem dX10_forget_13 : decode cX10_forget 13 = .ok (.putfield 112, 3) := by decide +kernel
theorem dX10_forget_16 : decode cX10_forget 16 = .ok (.iload_n 1, 1) := by decide +kernel
theorem dX10_forget_17 : decode cX10_forget 17 = .ok (.ireturn, 1) := by decide +kernel
theorem dX10_wired_0 : decode cX10_wired 0 = .ok (.aload_n 0, 1) := by decide +kernel
theorem dX10_wired_1 : decode cX10_wired 1 = .ok (.getfield 45, 3) := by decide +kernel
theorem dX10_wired_4 : decode cX10_wired 4 = .ok (.iload_n 1, 1) := by decide +kernel
theorem dX10_wired_5 : decode cX10_wired 5 = .ok (.invokevirtual 208, 3) := by decide +kernel
theorem dX10_wired_8 : decode cX10_wired 8 = .ok (.ifCond .eq 20, 3) := by decide +kernel
theorem dX10_wired_11 : decode cX10_wired 11 = .ok (.iload_n 2, 1) := by decide +kernel
theorem dX10_wired_12 : decode cX10_wired 12 = .ok (.invokestatic 120, 3) := by decide +kernel
theorem dX10_wired_15 : decode cX10_wired 15 = .ok (.ifCond .eq 13, 3) := by decide +kernel
theorem dX10_wired_18 : decode cX10_wired 18 = .ok (.iload_n 3, 1) := by decide +kernel
theorem dX10_wired_19 : decode cX10_wired 19 = .ok (.ifCond .eq 11, 3) := by decide +kernel
theorem dX10_wired_22 : decode cX10_wired 22 = .ok (.iload_n 3, 1) := by decide +kernel
theorem dX10_wired_23 : decode cX10_wired 23 = .ok (.bipush 10, 2) := by decide +kernel
theorem dX10_wired_25 : decode cX10_wired 25 = .ok (.if_icmp .ge 5, 3) := by decide +kernel
theorem dX10_wired_28 : decode cX10_wired 28 = .ok (.iconst (-1), 1) := by decide +kernel
theorem dX10_wired_29 : decode cX10_wired 29 = .ok (.ireturn, 1) := by decide +kernel
theorem dX10_wired_30 : decode cX10_wired 30 = .ok (.aload_n 0, 1) := by decide +kernel
theorem dX10_wired_31 : decode cX10_wired 31 = .ok (.getfield 73, 3) := by decide +kernel
theorem dX10_wired_34 : decode cX10_wired 34 = .ok (.iload_n 1, 1) := by decide +kernel
theorem dX10_wired_35 : decode cX10_wired 35 = .ok (.iload_n 2, 1) := by decide +kernel
theorem dX10_wired_36 : decode cX10_wired 36 = .ok (.invokevirtual 335, 3) := by decide +kernel
theorem dX10_wired_39 : decode cX10_wired 39 = .ok (.ifCond .ne 14, 3) := by decide +kernel
theorem dX10_wired_42 : decode cX10_wired 42 = .ok (.iload_n 3, 1) := by decide +kernel
theorem dX10_wired_43 : decode cX10_wired 43 = .ok (.ifCond .ne 8, 3) := by decide +kernel
theorem dX10_wired_46 : decode cX10_wired 46 = .ok (.bipush (-4), 2) := by decide +kernel
theorem dX10_wired_48 : decode cX10_wired 48 = .ok (.goto 4, 3) := by decide +kernel
theorem dX10_wired_51 : decode cX10_wired 51 = .ok (.iconst (-1), 1) := by decide +kernel
theorem dX10_wired_52 : decode cX10_wired 52 = .ok (.ireturn, 1) := by decide +kernel
theorem dX10_wired_53 : decode cX10_wired 53 = .ok (.aload_n 0, 1) := by decide +kernel
theorem dX10_wired_54 : decode cX10_wired 54 = .ok (.getfield 73, 3) := by decide +kernel
theorem dX10_wired_57 : decode cX10_wired 57 = .ok (.aload_n 0, 1) := by decide +kernel
theorem dX10_wired_58 : decode cX10_wired 58 = .ok (.getfield 19, 3) := by decide +kernel
theorem dX10_wired_61 : decode cX10_wired 61 = .ok (.iload_n 1, 1) := by decide +kernel
theorem dX10_wired_62 : decode cX10_wired 62 = .ok (.iload_n 2, 1) := by decide +kernel
theorem dX10_wired_63 : decode cX10_wired 63 = .ok (.invokevirtual 338, 3) := by decide +kernel
theorem dX10_wired_66 : decode cX10_wired 66 = .ok (.iload_n 3, 1) := by decide +kernel
theorem dX10_wired_67 : decode cX10_wired 67 = .ok (.ifCond .ne 11, 3) := by decide +kernel
theorem dX10_wired_70 : decode cX10_wired 70 = .ok (.aload_n 0, 1) := by decide +kernel
theorem dX10_wired_71 : decode cX10_wired 71 = .ok (.getfield 73, 3) := by decide +kernel
theorem dX10_wired_74 : decode cX10_wired 74 = .ok (.getfield 342, 3) := by decide +kernel
theorem dX10_wired_77 : decode cX10_wired 77 = .ok (.ireturn, 1) := by decide +kernel
theorem dX10_wired_78 : decode cX10_wired 78 = .ok (.iload_n 3, 1) := by decide +kernel
theorem dX10_wired_79 : decode cX10_wired 79 = .ok (.bipush 10, 2) := by decide +kernel
theorem dX10_wired_81 : decode cX10_wired 81 = .ok (.isub, 1) := by decide +kernel
theorem dX10_wired_82 : decode cX10_wired 82 = .ok (.aload_n 0, 1) := by decide +kernel
theorem dX10_wired_83 : decode cX10_wired 83 = .ok (.getfield 73, 3) := by decide +kernel
theorem dX10_wired_86 : decode cX10_wired 86 = .ok (.getfield 342, 3) := by decide +kernel
theorem dX10_wired_89 : decode cX10_wired 89 = .ok (.if_icmp .ge 18, 3) := by decide +kernel
theorem dX10_wired_92 : decode cX10_wired 92 = .ok (.aload_n 0, 1) := by decide +kernel
theorem dX10_wired_93 : decode cX10_wired 93 = .ok (.getfield 73, 3) := by decide +kernel
theorem dX10_wired_96 : decode cX10_wired 96 = .ok (.getfield 345, 3) := by decide +kernel
theorem dX10_wired_99 : decode cX10_wired 99 = .ok (.iload_n 3, 1) := by decide +kernel
theorem dX10_wired_100 : decode cX10_wired 100 = .ok (.bipush 10, 2) := by decide +kernel
theorem dX10_wired_102 : decode cX10_wired 102 = .ok (.isub, 1) := by decide +kernel
theorem dX10_wired_103 : decode cX10_wired 103 = .ok (.iaload, 1) := by decide +kernel
theorem dX10_wired_104 : decode cX10_wired 104 = .ok (.goto 4, 3) := by decide +kernel
theorem dX10_wired_107 : decode cX10_wired 107 = .ok (.iconst (-1), 1) := by decide +kernel
theorem dX10_wired_108 : decode cX10_wired 108 = .ok (.ireturn, 1) := by decide +kernel
theorem dX10_sheet_0 : decode cX10_sheet 0 = .ok (.aload_n 0, 1) := by decide +kernel
theorem dX10_sheet_1 : decode cX10_sheet 1 = .ok (.getfield 80, 3) := by decide +kernel
theorem dX10_sheet_4 : decode cX10_sheet 4 = .ok (.iload_n 1, 1) := by decide +kernel
theorem dX10_sheet_5 : decode cX10_sheet 5 = .ok (.invokevirtual 348, 3) := by decide +kernel
theorem dX10_sheet_8 : decode cX10_sheet 8 = .ok (.ifCond .eq 20, 3) := by decide +kernel
theorem dX10_sheet_11 : decode cX10_sheet 11 = .ok (.aload_n 0, 1) := by decide +kernel
theorem dX10_sheet_12 : decode cX10_sheet 12 = .ok (.getfield 80, 3) := by decide +kernel
theorem dX10_sheet_15 : decode cX10_sheet 15 = .ok (.iload_n 2, 1) := by decide +kernel
theorem dX10_sheet_16 : decode cX10_sheet 16 = .ok (.invokevirtual 349, 3) := by decide +kernel
theorem dX10_sheet_19 : decode cX10_sheet 19 = .ok (.ifCond .eq 9, 3) := by decide +kernel
theorem dX10_sheet_22 : decode cX10_sheet 22 = .ok (.iload_n 3, 1) := by decide +kernel
theorem dX10_sheet_23 : decode cX10_sheet 23 = .ok (.bipush 40, 2) := by decide +kernel
theorem dX10_sheet_25 : decode cX10_sheet 25 = .ok (.if_icmp .le 5, 3) := by decide +kernel
theorem dX10_sheet_28 : decode cX10_sheet 28 = .ok (.iconst (-1), 1) := by decide +kernel
theorem dX10_sheet_29 : decode cX10_sheet 29 = .ok (.ireturn, 1) := by decide +kernel
theorem dX10_sheet_30 : decode cX10_sheet 30 = .ok (.iload_n 3, 1) := by decide +kernel
theorem dX10_sheet_31 : decode cX10_sheet 31 = .ok (.ifCond .ge 6, 3) := by decide +kernel
theorem dX10_sheet_34 : decode cX10_sheet 34 = .ok (.bipush (-14), 2) := by decide +kernel
theorem dX10_sheet_36 : decode cX10_sheet 36 = .ok (.ireturn, 1) := by decide +kernel
theorem dX10_sheet_37 : decode cX10_sheet 37 = .ok (.aload_n 0, 1) := by decide +kernel
theorem dX10_sheet_38 : decode cX10_sheet 38 = .ok (.getfield 80, 3) := by decide +kernel
theorem dX10_sheet_41 : decode cX10_sheet 41 = .ok (.iload_n 1, 1) := by decide +kernel
theorem dX10_sheet_42 : decode cX10_sheet 42 = .ok (.iload_n 2, 1) := by decide +kernel
theorem dX10_sheet_43 : decode cX10_sheet 43 = .ok (.iload_n 3, 1) := by decide +kernel
theorem dX10_sheet_44 : decode cX10_sheet 44 = .ok (.invokevirtual 352, 3) := by decide +kernel
theorem dX10_sheet_47 : decode cX10_sheet 47 = .ok (.iconst 1, 1) := by decide +kernel
theorem dX10_sheet_48 : decode cX10_sheet 48 = .ok (.ireturn, 1) := by decide +kernel
theorem dX10_lay_0 : decode cX10_lay 0 = .ok (.aload_n 0, 1) := by decide +kernel
theorem dX10_lay_1 : decode cX10_lay 1 = .ok (.getfield 80, 3) := by decide +kernel
theorem dX10_lay_4 : decode cX10_lay 4 = .ok (.iload_n 1, 1) := by decide +kernel
theorem dX10_lay_5 : decode cX10_lay 5 = .ok (.invokevirtual 348, 3) := by decide +kernel
theorem dX10_lay_8 : decode cX10_lay 8 = .ok (.ifCond .ne 5, 3) := by decide +kernel
theorem dX10_lay_11 : decode cX10_lay 11 = .ok (.iconst (-1), 1) := by decide +kernel
theorem dX10_lay_12 : decode cX10_lay 12 = .ok (.ireturn, 1) := by decide +kernel
theorem dX10_lay_13 : decode cX10_lay 13 = .ok (.aload_n 0, 1) := by decide +kernel
theorem dX10_lay_14 : decode cX10_lay 14 = .ok (.getfield 80, 3) := by decide +kernel
theorem dX10_lay_17 : decode cX10_lay 17 = .ok (.iload_n 1, 1) := by decide +kernel
theorem dX10_lay_18 : decode cX10_lay 18 = .ok (.iload_n 2, 1) := by decide +kernel
theorem dX10_lay_19 : decode cX10_lay 19 = .ok (.iload_n 3, 1) := by decide +kernel
theorem dX10_lay_20 : decode cX10_lay 20 = .ok (.invokevirtual 356, 3) := by decide +kernel
theorem dX10_lay_23 : decode cX10_lay 23 = .ok (.ireturn, 1) := by decide +kernel
theorem dX10_said_0 : decode cX10_said 0 = .ok (.aload_n 0, 1) := by decide +kernel
theorem dX10_said_1 : decode cX10_said 1 = .ok (.getfield 80, 3) := by decide +kernel
theorem dX10_said_4 : decode cX10_said 4 = .ok (.iload_n 1, 1) := by decide +kernel
theorem dX10_said_5 : decode cX10_said 5 = .ok (.invokevirtual 348, 3) := by decide +kernel
theorem dX10_said_8 : decode cX10_said 8 = .ok (.ifCond .eq 33, 3) := by decide +kernel
theorem dX10_said_11 : decode cX10_said 11 = .ok (.aload_n 0, 1) := by decide +kernel
theorem dX10_said_12 : decode cX10_said 12 = .ok (.getfield 80, 3) := by decide +kernel
theorem dX10_said_15 : decode cX10_said 15 = .ok (.iload_n 2, 1) := by decide +kernel
theorem dX10_said_16 : decode cX10_said 16 = .ok (.invokevirtual 349, 3) := by decide +kernel
theorem dX10_said_19 : decode cX10_said 19 = .ok (.ifCond .eq 22, 3) := by decide +kernel
theorem dX10_said_22 : decode cX10_said 22 = .ok (.iload 4, 2) := by decide +kernel
theorem dX10_said_24 : decode cX10_said 24 = .ok (.invokestatic 120, 3) := by decide +kernel
theorem dX10_said_27 : decode cX10_said 27 = .ok (.ifCond .eq 14, 3) := by decide +kernel
theorem dX10_said_30 : decode cX10_said 30 = .ok (.iload 5, 2) := by decide +kernel
theorem dX10_said_32 : decode cX10_said 32 = .ok (.ifCond .lt 9, 3) := by decide +kernel
theorem dX10_said_35 : decode cX10_said 35 = .ok (.iload 5, 2) := by decide +kernel
theorem dX10_said_37 : decode cX10_said 37 = .ok (.iconst 3, 1) := by decide +kernel
theorem dX10_said_38 : decode cX10_said 38 = .ok (.if_icmp .le 5, 3) := by decide +kernel
theorem dX10_said_41 : decode cX10_said 41 = .ok (.iconst (-1), 1) := by decide +kernel
theorem dX10_said_42 : decode cX10_said 42 = .ok (.ireturn, 1) := by decide +kernel
theorem dX10_said_43 : decode cX10_said 43 = .ok (.aload_n 0, 1) := by decide +kernel
theorem dX10_said_44 : decode cX10_said 44 = .ok (.getfield 80, 3) := by decide +kernel
theorem dX10_said_47 : decode cX10_said 47 = .ok (.iload_n 1, 1) := by decide +kernel
theorem dX10_said_48 : decode cX10_said 48 = .ok (.iload_n 2, 1) := by decide +kernel
theorem dX10_said_49 : decode cX10_said 49 = .ok (.iload_n 3, 1) := by decide +kernel
theorem dX10_said_50 : decode cX10_said 50 = .ok (.aload_n 0, 1) := by decide +kernel
theorem dX10_said_51 : decode cX10_said 51 = .ok (.getfield 19, 3) := by decide +kernel
theorem dX10_said_54 : decode cX10_said 54 = .ok (.getfield 113, 3) := by decide +kernel
theorem dX10_said_57 : decode cX10_said 57 = .ok (.invokevirtual 359, 3) := by decide +kernel
theorem dX10_said_60 : decode cX10_said 60 = .ok (.istore 6, 2) := by decide +kernel
theorem dX10_said_62 : decode cX10_said 62 = .ok (.iload 6, 2) := by decide +kernel
theorem dX10_said_64 : decode cX10_said 64 = .ok (.ifCond .eq 8, 3) := by decide +kernel
theorem dX10_said_67 : decode cX10_said 67 = .ok (.iload 6, 2) := by decide +kernel
theorem dX10_said_69 : decode cX10_said 69 = .ok (.goto 20, 3) := by decide +kernel
theorem dX10_said_72 : decode cX10_said 72 = .ok (.aload_n 0, 1) := by decide +kernel
theorem dX10_said_73 : decode cX10_said 73 = .ok (.getfield 80, 3) := by decide +kernel
theorem dX10_said_76 : decode cX10_said 76 = .ok (.iload_n 1, 1) := by decide +kernel
theorem dX10_said_77 : decode cX10_said 77 = .ok (.iload_n 3, 1) := by decide +kernel
theorem dX10_said_78 : decode cX10_said 78 = .ok (.aload_n 0, 1) := by decide +kernel
theorem dX10_said_79 : decode cX10_said 79 = .ok (.getfield 19, 3) := by decide +kernel
theorem dX10_said_82 : decode cX10_said 82 = .ok (.iload 4, 2) := by decide +kernel
theorem dX10_said_84 : decode cX10_said 84 = .ok (.iload 5, 2) := by decide +kernel
theorem dX10_said_86 : decode cX10_said 86 = .ok (.invokevirtual 362, 3) := by decide +kernel
theorem dX10_said_89 : decode cX10_said 89 = .ok (.ireturn, 1) := by decide +kernel
theorem dX10_count_0 : decode cX10_count 0 = .ok (.aload_n 0, 1) := by decide +kernel
theorem dX10_count_1 : decode cX10_count 1 = .ok (.getfield 45, 3) := by decide +kernel
theorem dX10_count_4 : decode cX10_count 4 = .ok (.iload_n 1, 1) := by decide +kernel
theorem dX10_count_5 : decode cX10_count 5 = .ok (.bipush 10, 2) := by decide +kernel
theorem dX10_count_7 : decode cX10_count 7 = .ok (.isub, 1) := by decide +kernel
theorem dX10_count_8 : decode cX10_count 8 = .ok (.invokevirtual 208, 3) := by decide +kernel
theorem dX10_count_11 : decode cX10_count 11 = .ok (.ifCond .eq 16, 3) := by decide +kernel
theorem dX10_count_14 : decode cX10_count 14 = .ok (.aload_n 0, 1) := by decide +kernel
theorem dX10_count_15 : decode cX10_count 15 = .ok (.getfield 45, 3) := by decide +kernel
theorem dX10_count_18 : decode cX10_count 18 = .ok (.getfield 214, 3) := by decide +kernel
theorem dX10_count_21 : decode cX10_count 21 = .ok (.iload_n 1, 1) := by decide +kernel
theorem dX10_count_22 : decode cX10_count 22 = .ok (.bipush 10, 2) := by decide +kernel
theorem dX10_count_24 : decode cX10_count 24 = .ok (.isub, 1) := by decide +kernel
theorem dX10_count_25 : decode cX10_count 25 = .ok (.iaload, 1) := by decide +kernel
theorem dX10_count_26 : decode cX10_count 26 = .ok (.ireturn, 1) := by decide +kernel
theorem dX10_count_27 : decode cX10_count 27 = .ok (.aload_n 0, 1) := by decide +kernel
theorem dX10_count_28 : decode cX10_count 28 = .ok (.getfield 45, 3) := by decide +kernel
theorem dX10_count_31 : decode cX10_count 31 = .ok (.iload_n 1, 1) := by decide +kernel
theorem dX10_count_32 : decode cX10_count 32 = .ok (.bipush 20, 2) := by decide +kernel
theorem dX10_count_34 : decode cX10_count 34 = .ok (.isub, 1) := by decide +kernel
theorem dX10_count_35 : decode cX10_count 35 = .ok (.invokevirtual 208, 3) := by decide +kernel
theorem dX10_count_38 : decode cX10_count 38 = .ok (.ifCond .eq 16, 3) := by decide +kernel
theorem dX10_count_41 : decode cX10_count 41 = .ok (.aload_n 0, 1) := by decide +kernel
theorem dX10_count_42 : decode cX10_count 42 = .ok (.getfield 45, 3) := by decide +kernel
theorem dX10_count_45 : decode cX10_count 45 = .ok (.getfield 221, 3) := by decide +kernel
theorem dX10_count_48 : decode cX10_count 48 = .ok (.iload_n 1, 1) := by decide +kernel
theorem dX10_count_49 : decode cX10_count 49 = .ok (.bipush 20, 2) := by decide +kernel
theorem dX10_count_51 : decode cX10_count 51 = .ok (.isub, 1) := by decide +kernel
theorem dX10_count_52 : decode cX10_count 52 = .ok (.iaload, 1) := by decide +kernel
theorem dX10_count_53 : decode cX10_count 53 = .ok (.ireturn, 1) := by decide +kernel
theorem dX10_count_54 : decode cX10_count 54 = .ok (.iload_n 1, 1) := by decide +kernel
theorem dX10_count_55 : decode cX10_count 55 = .ok (.tableswitch 104 0 5 #[37, 45, 53, 61, 69, 96], 37) := by decide +kernel
theorem dX10_count_92 : decode cX10_count 92 = .ok (.aload_n 0, 1) := by decide +kernel
theorem dX10_count_93 : decode cX10_count 93 = .ok (.getfield 19, 3) := by decide +kernel
theorem dX10_count_96 : decode cX10_count 96 = .ok (.getfield 113, 3) := by decide +kernel
theorem dX10_count_99 : decode cX10_count 99 = .ok (.ireturn, 1) := by decide +kernel
theorem dX10_count_100 : decode cX10_count 100 = .ok (.aload_n 0, 1) := by decide +kernel
theorem dX10_count_101 : decode cX10_count 101 = .ok (.getfield 45, 3) := by decide +kernel
theorem dX10_count_104 : decode cX10_count 104 = .ok (.getfield 207, 3) := by decide +kernel
theorem dX10_count_107 : decode cX10_count 107 = .ok (.ireturn, 1) := by decide +kernel
theorem dX10_count_108 : decode cX10_count 108 = .ok (.aload_n 0, 1) := by decide +kernel
theorem dX10_count_109 : decode cX10_count 109 = .ok (.getfield 73, 3) := by decide +kernel
theorem dX10_count_112 : decode cX10_count 112 = .ok (.getfield 112, 3) := by decide +kernel
theorem dX10_count_115 : decode cX10_count 115 = .ok (.ireturn, 1) := by decide +kernel
theorem dX10_count_116 : decode cX10_count 116 = .ok (.aload_n 0, 1) := by decide +kernel
theorem dX10_count_117 : decode cX10_count 117 = .ok (.getfield 10, 3) := by decide +kernel
theorem dX10_count_120 : decode cX10_count 120 = .ok (.getfield 96, 3) := by decide +kernel
theorem dX10_count_123 : decode cX10_count 123 = .ok (.ireturn, 1) := by decide +kernel
theorem dX10_count_124 : decode cX10_count 124 = .ok (.aload_n 0, 1) := by decide +kernel
theorem dX10_count_125 : decode cX10_count 125 = .ok (.getfield 80, 3) := by decide +kernel
theorem dX10_count_128 : decode cX10_count 128 = .ok (.getfield 366, 3) := by decide +kernel
theorem dX10_count_131 : decode cX10_count 131 = .ok (.iconst 0, 1) := by decide +kernel
theorem dX10_count_132 : decode cX10_count 132 = .ok (.iaload, 1) := by decide +kernel
theorem dX10_count_133 : decode cX10_count 133 = .ok (.ifCond .ge 8, 3) := by decide +kernel
theorem dX10_count_136 : decode cX10_count 136 = .ok (.bipush (-4), 2) := by decide +kernel
theorem dX10_count_138 : decode cX10_count 138 = .ok (.goto 12, 3) := by decide +kernel
theorem dX10_count_141 : decode cX10_count 141 = .ok (.aload_n 0, 1) := by decide +kernel
theorem dX10_count_142 : decode cX10_count 142 = .ok (.getfield 80, 3) := by decide +kernel
theorem dX10_count_145 : decode cX10_count 145 = .ok (.getfield 366, 3) := by decide +kernel
theorem dX10_count_148 : decode cX10_count 148 = .ok (.iconst 0, 1) := by decide +kernel
theorem dX10_count_149 : decode cX10_count 149 = .ok (.iaload, 1) := by decide +kernel
theorem dX10_count_150 : decode cX10_count 150 = .ok (.ireturn, 1) := by decide +kernel
theorem dX10_count_151 : decode cX10_count 151 = .ok (.aload_n 0, 1) := by decide +kernel
theorem dX10_count_152 : decode cX10_count 152 = .ok (.getfield 19, 3) := by decide +kernel
theorem dX10_count_155 : decode cX10_count 155 = .ok (.getfield 369, 3) := by decide +kernel
theorem dX10_count_158 : decode cX10_count 158 = .ok (.ireturn, 1) := by decide +kernel
theorem dX10_count_159 : decode cX10_count 159 = .ok (.iconst (-1), 1) := by decide +kernel
theorem dX10_count_160 : decode cX10_count 160 = .ok (.ireturn, 1) := by decide +kernel
theorem dX10_isEvent_0 : decode cX10_isEvent 0 = .ok (.iload_n 0, 1) := by decide +kernel
theorem dX10_isEvent_1 : decode cX10_isEvent 1 = .ok (.ifCond .lt 13, 3) := by decide +kernel
theorem dX10_isEvent_4 : decode cX10_isEvent 4 = .ok (.iload_n 0, 1) := by decide +kernel
theorem dX10_isEvent_5 : decode cX10_isEvent 5 = .ok (.bipush 8, 2) := by decide +kernel
theorem dX10_isEvent_7 : decode cX10_isEvent 7 = .ok (.if_icmp .ge 7, 3) := by decide +kernel
theorem dX10_isEvent_10 : decode cX10_isEvent 10 = .ok (.iconst 1, 1) := by decide +kernel
theorem dX10_isEvent_11 : decode cX10_isEvent 11 = .ok (.goto 4, 3) := by decide +kernel
theorem dX10_isEvent_14 : decode cX10_isEvent 14 = .ok (.iconst 0, 1) := by decide +kernel
theorem dX10_isEvent_15 : decode cX10_isEvent 15 = .ok (.ireturn, 1) := by decide +kernel
theorem dX10_isSet_0 : decode cX10_isSet 0 = .ok (.iload_n 0, 1) := by decide +kernel
theorem dX10_isSet_1 : decode cX10_isSet 1 = .ok (.ifCond .lt 14, 3) := by decide +kernel
theorem dX10_isSet_4 : decode cX10_isSet 4 = .ok (.iload_n 0, 1) := by decide +kernel
theorem dX10_isSet_5 : decode cX10_isSet 5 = .ok (.sipush 256, 3) := by decide +kernel
theorem dX10_isSet_8 : decode cX10_isSet 8 = .ok (.if_icmp .ge 7, 3) := by decide +kernel
theorem dX10_isSet_11 : decode cX10_isSet 11 = .ok (.iconst 1, 1) := by decide +kernel
theorem dX10_isSet_12 : decode cX10_isSet 12 = .ok (.goto 4, 3) := by decide +kernel
theorem dX10_isSet_15 : decode cX10_isSet 15 = .ok (.iconst 0, 1) := by decide +kernel
theorem dX10_isSet_16 : decode cX10_isSet 16 = .ok (.ireturn, 1) := by decide +kernel
theorem dX10_isOneOf_0 : decode cX10_isOneOf 0 = .ok (.iload_n 1, 1) := by decide +kernel
theorem dX10_isOneOf_1 : decode cX10_isOneOf 1 = .ok (.invokestatic 211, 3) := by decide +kernel
theorem dX10_isOneOf_4 : decode cX10_isOneOf 4 = .ok (.ifCond .eq 22, 3) := by decide +kernel
theorem dX10_isOneOf_7 : decode cX10_isOneOf 7 = .ok (.iload_n 0, 1) := by decide +kernel
theorem dX10_isOneOf_8 : decode cX10_isOneOf 8 = .ok (.invokestatic 120, 3) := by decide +kernel
theorem dX10_isOneOf_11 : decode cX10_isOneOf 11 = .ok (.ifCond .eq 15, 3) := by decide +kernel
theorem dX10_isOneOf_14 : decode cX10_isOneOf 14 = .ok (.iload_n 1, 1) := by decide +kernel
theorem dX10_isOneOf_15 : decode cX10_isOneOf 15 = .ok (.iload_n 0, 1) := by decide +kernel
theorem dX10_isOneOf_16 : decode cX10_isOneOf 16 = .ok (.ishr, 1) := by decide +kernel
theorem dX10_isOneOf_17 : decode cX10_isOneOf 17 = .ok (.iconst 1, 1) := by decide +kernel
theorem dX10_isOneOf_18 : decode cX10_isOneOf 18 = .ok (.iand, 1) := by decide +kernel
theorem dX10_isOneOf_19 : decode cX10_isOneOf 19 = .ok (.ifCond .eq 7, 3) := by decide +kernel
theorem dX10_isOneOf_22 : decode cX10_isOneOf 22 = .ok (.iconst 1, 1) := by decide +kernel
theorem dX10_isOneOf_23 : decode cX10_isOneOf 23 = .ok (.goto 4, 3) := by decide +kernel
theorem dX10_isOneOf_26 : decode cX10_isOneOf 26 = .ok (.iconst 0, 1) := by decide +kernel
theorem dX10_isOneOf_27 : decode cX10_isOneOf 27 = .ok (.ireturn, 1) := by decide +kernel
theorem dX10_isEither_0 : decode cX10_isEither 0 = .ok (.iload_n 0, 1) := by decide +kernel
theorem dX10_isEither_1 : decode cX10_isEither 1 = .ok (.ifCond .eq 8, 3) := by decide +kernel
theorem dX10_isEither_4 : decode cX10_isEither 4 = .ok (.iload_n 0, 1) := by decide +kernel
theorem dX10_isEither_5 : decode cX10_isEither 5 = .ok (.iconst 1, 1) := by decide +kernel
theorem dX10_isEither_6 : decode cX10_isEither 6 = .ok (.if_icmp .ne 7, 3) := by decide +kernel
theorem dX10_isEither_9 : decode cX10_isEither 9 = .ok (.iconst 1, 1) := by decide +kernel
theorem dX10_isEither_10 : decode cX10_isEither 10 = .ok (.goto 4, 3) := by decide +kernel
theorem dX10_isEither_13 : decode cX10_isEither 13 = .ok (.iconst 0, 1) := by decide +kernel
theorem dX10_isEither_14 : decode cX10_isEither 14 = .ok (.ireturn, 1) := by decide +kernel
theorem dX10_isSlice_0 : decode cX10_isSlice 0 = .ok (.iload_n 0, 1) := by decide +kernel
theorem dX10_isSlice_1 : decode cX10_isSlice 1 = .ok (.iconst 1, 1) := by decide +kernel
theorem dX10_isSlice_2 : decode cX10_isSlice 2 = .ok (.if_icmp .lt 14, 3) := by decide +kernel
theorem dX10_isSlice_5 : decode cX10_isSlice 5 = .ok (.iload_n 0, 1) := by decide +kernel
theorem dX10_isSlice_6 : decode cX10_isSlice 6 = .ok (.sipush 999, 3) := by decide +kernel
theorem dX10_isSlice_9 : decode cX10_isSlice 9 = .ok (.if_icmp .gt 7, 3) := by decide +kernel
theorem dX10_isSlice_12 : decode cX10_isSlice 12 = .ok (.iconst 1, 1) := by decide +kernel
theorem dX10_isSlice_13 : decode cX10_isSlice 13 = .ok (.goto 4, 3) := by decide +kernel
theorem dX10_isSlice_16 : decode cX10_isSlice 16 = .ok (.iconst 0, 1) := by decide +kernel
theorem dX10_isSlice_17 : decode cX10_isSlice 17 = .ok (.ireturn, 1) := by decide +kernel
theorem dX10_isRange_0 : decode cX10_isRange 0 = .ok (.iload_n 0, 1) := by decide +kernel
theorem dX10_isRange_1 : decode cX10_isRange 1 = .ok (.iload_n 1, 1) := by decide +kernel
theorem dX10_isRange_2 : decode cX10_isRange 2 = .ok (.if_icmp .gt 16, 3) := by decide +kernel
theorem dX10_isRange_5 : decode cX10_isRange 5 = .ok (.iload_n 1, 1) := by decide +kernel
theorem dX10_isRange_6 : decode cX10_isRange 6 = .ok (.iload_n 0, 1) := by decide +kernel
theorem dX10_isRange_7 : decode cX10_isRange 7 = .ok (.isub, 1) := by decide +kernel
theorem dX10_isRange_8 : decode cX10_isRange 8 = .ok (.sipush 200, 3) := by decide +kernel
theorem dX10_isRange_11 : decode cX10_isRange 11 = .ok (.if_icmp .ge 7, 3) := by decide +kernel
theorem dX10_isRange_14 : decode cX10_isRange 14 = .ok (.iconst 1, 1) := by decide +kernel
theorem dX10_isRange_15 : decode cX10_isRange 15 = .ok (.goto 4, 3) := by decide +kernel
theorem dX10_isRange_18 : decode cX10_isRange 18 = .ok (.iconst 0, 1) := by decide +kernel
theorem dX10_isRange_19 : decode cX10_isRange 19 = .ok (.ireturn, 1) := by decide +kernel
theorem dX10_areSamples_0 : decode cX10_areSamples 0 = .ok (.iload_n 0, 1) := by decide +kernel
theorem dX10_areSamples_1 : decode cX10_areSamples 1 = .ok (.invokestatic 120, 3) := by decide +kernel
theorem dX10_areSamples_4 : decode cX10_areSamples 4 = .ok (.ifCond .eq 38, 3) := by decide +kernel
theorem dX10_areSamples_7 : decode cX10_areSamples 7 = .ok (.iload_n 1, 1) := by decide +kernel
theorem dX10_areSamples_8 : decode cX10_areSamples 8 = .ok (.iconst 1, 1) := by decide +kernel
theorem dX10_areSamples_9 : decode cX10_areSamples 9 = .ok (.if_icmp .lt 33, 3) := by decide +kernel
theorem dX10_areSamples_12 : decode cX10_areSamples 12 = .ok (.iload_n 1, 1) := by decide +kernel
theorem dX10_areSamples_13 : decode cX10_areSamples 13 = .ok (.sipush 9999, 3) := by decide +kernel
theorem dX10_areSamples_16 : decode cX10_areSamples 16 = .ok (.if_icmp .gt 26, 3) := by decide +kernel
theorem dX10_areSamples_19 : decode cX10_areSamples 19 = .ok (.iload_n 2, 1) := by decide +kernel
theorem dX10_areSamples_20 : decode cX10_areSamples 20 = .ok (.ifCond .lt 22, 3) := by decide +kernel
theorem dX10_areSamples_23 : decode cX10_areSamples 23 = .ok (.iload_n 2, 1) := by decide +kernel
theorem dX10_areSamples_24 : decode cX10_areSamples 24 = .ok (.iload_n 1, 1) := by decide +kernel
theorem dX10_areSamples_25 : decode cX10_areSamples 25 = .ok (.if_icmp .ge 17, 3) := by decide +kernel
theorem dX10_areSamples_28 : decode cX10_areSamples 28 = .ok (.iload_n 3, 1) := by decide +kernel
theorem dX10_areSamples_29 : decode cX10_areSamples 29 = .ok (.ifCond .lt 13, 3) := by decide +kernel
theorem dX10_areSamples_32 : decode cX10_areSamples 32 = .ok (.iload_n 3, 1) := by decide +kernel
theorem dX10_areSamples_33 : decode cX10_areSamples 33 = .ok (.bipush 9, 2) := by decide +kernel
theorem dX10_areSamples_35 : decode cX10_areSamples 35 = .ok (.if_icmp .gt 7, 3) := by decide +kernel
theorem dX10_areSamples_38 : decode cX10_areSamples 38 = .ok (.iconst 1, 1) := by decide +kernel
theorem dX10_areSamples_39 : decode cX10_areSamples 39 = .ok (.goto 4, 3) := by decide +kernel
theorem dX10_areSamples_42 : decode cX10_areSamples 42 = .ok (.iconst 0, 1) := by decide +kernel
theorem dX10_areSamples_43 : decode cX10_areSamples 43 = .ok (.ireturn, 1) := by decide +kernel
theorem dX10_commonDivisor_0 : decode cX10_commonDivisor 0 = .ok (.lload_n 0, 1) := by decide +kernel
theorem dX10_commonDivisor_1 : decode cX10_commonDivisor 1 = .ok (.lstore 4, 2) := by decide +kernel
theorem dX10_commonDivisor_3 : decode cX10_commonDivisor 3 = .ok (.lload_n 2, 1) := by decide +kernel
theorem dX10_commonDivisor_4 : decode cX10_commonDivisor 4 = .ok (.lstore 6, 2) := by decide +kernel
theorem dX10_commonDivisor_6 : decode cX10_commonDivisor 6 = .ok (.iconst 0, 1) := by decide +kernel
theorem dX10_commonDivisor_7 : decode cX10_commonDivisor 7 = .ok (.istore 8, 2) := by decide +kernel
theorem dX10_commonDivisor_9 : decode cX10_commonDivisor 9 = .ok (.iload 8, 2) := by decide +kernel
theorem dX10_commonDivisor_11 : decode cX10_commonDivisor 11 = .ok (.sipush 200, 3) := by decide +kernel
theorem dX10_commonDivisor_14 : decode cX10_commonDivisor 14 = .ok (.if_icmp .ge 31, 3) := by decide +kernel
theorem dX10_commonDivisor_17 : decode cX10_commonDivisor 17 = .ok (.lload 6, 2) := by decide +kernel
theorem dX10_commonDivisor_19 : decode cX10_commonDivisor 19 = .ok (.lconst 0, 1) := by decide +kernel
theorem dX10_commonDivisor_20 : decode cX10_commonDivisor 20 = .ok (.lcmp, 1) := by decide +kernel
theorem dX10_commonDivisor_21 : decode cX10_commonDivisor 21 = .ok (.ifCond .eq 24, 3) := by decide +kernel
theorem dX10_commonDivisor_24 : decode cX10_commonDivisor 24 = .ok (.lload 4, 2) := by decide +kernel
theorem dX10_commonDivisor_26 : decode cX10_commonDivisor 26 = .ok (.lload 6, 2) := by decide +kernel
theorem dX10_commonDivisor_28 : decode cX10_commonDivisor 28 = .ok (.lrem, 1) := by decide +kernel
theorem dX10_commonDivisor_29 : decode cX10_commonDivisor 29 = .ok (.lstore 9, 2) := by decide +kernel
theorem dX10_commonDivisor_31 : decode cX10_commonDivisor 31 = .ok (.lload 6, 2) := by decide +kernel
theorem dX10_commonDivisor_33 : decode cX10_commonDivisor 33 = .ok (.lstore 4, 2) := by decide +kernel
theorem dX10_commonDivisor_35 : decode cX10_commonDivisor 35 = .ok (.lload 9, 2) := by decide +kernel
theorem dX10_commonDivisor_37 : decode cX10_commonDivisor 37 = .ok (.lstore 6, 2) := by decide +kernel
theorem dX10_commonDivisor_39 : decode cX10_commonDivisor 39 = .ok (.iinc 8 1, 3) := by decide +kernel
theorem dX10_commonDivisor_42 : decode cX10_commonDivisor 42 = .ok (.goto (-33), 3) := by decide +kernel
theorem dX10_commonDivisor_45 : decode cX10_commonDivisor 45 = .ok (.lload 4, 2) := by decide +kernel
theorem dX10_commonDivisor_47 : decode cX10_commonDivisor 47 = .ok (.lreturn, 1) := by decide +kernel
theorem dX10_inLowestTerms_0 : decode cX10_inLowestTerms 0 = .ok (.lload_n 0, 1) := by decide +kernel
theorem dX10_inLowestTerms_1 : decode cX10_inLowestTerms 1 = .ok (.invokestatic 273, 3) := by decide +kernel
theorem dX10_inLowestTerms_4 : decode cX10_inLowestTerms 4 = .ok (.lload_n 2, 1) := by decide +kernel
theorem dX10_inLowestTerms_5 : decode cX10_inLowestTerms 5 = .ok (.invokestatic 309, 3) := by decide +kernel
theorem dX10_inLowestTerms_8 : decode cX10_inLowestTerms 8 = .ok (.lstore 5, 2) := by decide +kernel
theorem dX10_inLowestTerms_10 : decode cX10_inLowestTerms 10 = .ok (.lload 5, 2) := by decide +kernel
theorem dX10_inLowestTerms_12 : decode cX10_inLowestTerms 12 = .ok (.lconst 1, 1) := by decide +kernel
theorem dX10_inLowestTerms_13 : decode cX10_inLowestTerms 13 = .ok (.lcmp, 1) := by decide +kernel
theorem dX10_inLowestTerms_14 : decode cX10_inLowestTerms 14 = .ok (.ifCond .ge 5, 3) := by decide +kernel
theorem dX10_inLowestTerms_17 : decode cX10_inLowestTerms 17 = .ok (.lconst 0, 1) := by decide +kernel
theorem dX10_inLowestTerms_18 : decode cX10_inLowestTerms 18 = .ok (.lreturn, 1) := by decide +kernel
theorem dX10_inLowestTerms_19 : decode cX10_inLowestTerms 19 = .ok (.iload 4, 2) := by decide +kernel
theorem dX10_inLowestTerms_21 : decode cX10_inLowestTerms 21 = .ok (.ifCond .eq 7, 3) := by decide +kernel
theorem dX10_inLowestTerms_24 : decode cX10_inLowestTerms 24 = .ok (.lload_n 0, 1) := by decide +kernel
theorem dX10_inLowestTerms_25 : decode cX10_inLowestTerms 25 = .ok (.goto 4, 3) := by decide +kernel
theorem dX10_inLowestTerms_28 : decode cX10_inLowestTerms 28 = .ok (.lload_n 2, 1) := by decide +kernel
theorem dX10_inLowestTerms_29 : decode cX10_inLowestTerms 29 = .ok (.lload 5, 2) := by decide +kernel
theorem dX10_inLowestTerms_31 : decode cX10_inLowestTerms 31 = .ok (.ldiv, 1) := by decide +kernel
theorem dX10_inLowestTerms_32 : decode cX10_inLowestTerms 32 = .ok (.lreturn, 1) := by decide +kernel
theorem dX11_init_0 : decode cX11_init 0 = .ok (.aload_n 0, 1) := by decide +kernel
theorem dX11_init_1 : decode cX11_init 1 = .ok (.invokespecial 1, 3) := by decide +kernel
theorem dX11_init_4 : decode cX11_init 4 = .ok (.aload_n 0, 1) := by decide +kernel
theorem dX11_init_5 : decode cX11_init 5 = .ok (.bipush 16, 2) := by decide +kernel
theorem dX11_init_7 : decode cX11_init 7 = .ok (.newarray .int, 2) := by decide +kernel
theorem dX11_init_9 : decode cX11_init 9 = .ok (.putfield 7, 3) := by decide +kernel
theorem dX11_init_12 : decode cX11_init 12 = .ok (.aload_n 0, 1) := by decide +kernel
theorem dX11_init_13 : decode cX11_init 13 = .ok (.sipush 128, 3) := by decide +kernel
theorem dX11_init_16 : decode cX11_init 16 = .ok (.newarray .int, 2) := by decide +kernel
theorem dX11_init_18 : decode cX11_init 18 = .ok (.putfield 13, 3) := by decide +kernel
theorem dX11_init_21 : decode cX11_init 21 = .ok (.aload_n 0, 1) := by decide +kernel
theorem dX11_init_22 : decode cX11_init 22 = .ok (.bipush 16, 2) := by decide +kernel
theorem dX11_init_24 : decode cX11_init 24 = .ok (.newarray .int, 2) := by decide +kernel
theorem dX11_init_26 : decode cX11_init 26 = .ok (.putfield 16, 3) := by decide +kernel
theorem dX11_init_29 : decode cX11_init 29 = .ok (.aload_n 0, 1) := by decide +kernel
theorem dX11_init_30 : decode cX11_init 30 = .ok (.bipush 40, 2) := by decide +kernel
theorem dX11_init_32 : decode cX11_init 32 = .ok (.newarray .int, 2) := by decide +kernel
theorem dX11_init_34 : decode cX11_init 34 = .ok (.putfield 19, 3) := by decide +kernel
theorem dX11_init_37 : decode cX11_init 37 = .ok (.aload_n 0, 1) := by decide +kernel
theorem dX11_init_38 : decode cX11_init 38 = .ok (.bipush 40, 2) := by decide +kernel
theorem dX11_init_40 : decode cX11_init 40 = .ok (.newarray .int, 2) := by decide +kernel
theorem dX11_init_42 : decode cX11_init 42 = .ok (.putfield 22, 3) := by decide +kernel
theorem dX11_init_45 : decode cX11_init 45 = .ok (.aload_n 0, 1) := by decide +kernel
theorem dX11_init_46 : decode cX11_init 46 = .ok (.sipush 6000, 3) := by decide +kernel
theorem dX11_init_49 : decode cX11_init 49 = .ok (.newarray .int, 2) := by decide +kernel
theorem dX11_init_51 : decode cX11_init 51 = .ok (.putfield 25, 3) := by decide +kernel
theorem dX11_init_54 : decode cX11_init 54 = .ok (.aload_n 0, 1) := by decide +kernel
theorem dX11_init_55 : decode cX11_init 55 = .ok (.bipush 16, 2) := by decide +kernel
theorem dX11_init_57 : decode cX11_init 57 = .ok (.newarray .int, 2) := by decide +kernel
theorem dX11_init_59 : decode cX11_init 59 = .ok (.putfield 28, 3) := by decide +kernel
theorem dX11_init_62 : decode cX11_init 62 = .ok (.aload_n 0, 1) := by decide +kernel
theorem dX11_init_63 : decode cX11_init 63 = .ok (.bipush 16, 2) := by decide +kernel
theorem dX11_init_65 : decode cX11_init 65 = .ok (.newarray .int, 2) := by decide +kernel
theorem dX11_init_67 : decode cX11_init 67 = .ok (.putfield 31, 3) := by decide +kernel
theorem dX11_init_70 : decode cX11_init 70 = .ok (.aload_n 0, 1) := by decide +kernel
theorem dX11_init_71 : decode cX11_init 71 = .ok (.sipush 128, 3) := by decide +kernel
theorem dX11_init_74 : decode cX11_init 74 = .ok (.newarray .int, 2) := by decide +kernel
theorem dX11_init_76 : decode cX11_init 76 = .ok (.putfield 34, 3) := by decide +kernel
theorem dX11_init_79 : decode cX11_init 79 = .ok (.aload_n 0, 1) := by decide +kernel
theorem dX11_init_80 : decode cX11_init 80 = .ok (.bipush 16, 2) := by decide +kernel
theorem dX11_init_82 : decode cX11_init 82 = .ok (.newarray .int, 2) := by decide +kernel
theorem dX11_init_84 : decode cX11_init 84 = .ok (.putfield 37, 3) := by decide +kernel
theorem dX11_init_87 : decode cX11_init 87 = .ok (.aload_n 0, 1) := by decide +kernel
theorem dX11_init_88 : decode cX11_init 88 = .ok (.bipush 40, 2) := by decide +kernel
theorem dX11_init_90 : decode cX11_init 90 = .ok (.newarray .int, 2) := by decide +kernel
theorem dX11_init_92 : decode cX11_init 92 = .ok (.putfield 40, 3) := by decide +kernel
theorem dX11_init_95 : decode cX11_init 95 = .ok (.aload_n 0, 1) := by decide +kernel
theorem dX11_init_96 : decode cX11_init 96 = .ok (.bipush 40, 2) := by decide +kernel
theorem dX11_init_98 : decode cX11_init 98 = .ok (.newarray .int, 2) := by decide +kernel
theorem dX11_init_100 : decode cX11_init 100 = .ok (.putfield 43, 3) := by decide +kernel
theorem dX11_init_103 : decode cX11_init 103 = .ok (.aload_n 0, 1) := by decide +kernel
theorem dX11_init_104 : decode cX11_init 104 = .ok (.iconst 5, 1) := by decide +kernel
theorem dX11_init_105 : decode cX11_init 105 = .ok (.newarray .int, 2) := by decide +kernel
theorem dX11_init_107 : decode cX11_init 107 = .ok (.putfield 46, 3) := by decide +kernel
theorem dX11_init_110 : decode cX11_init 110 = .ok (.aload_n 0, 1) := by decide +kernel
theorem dX11_init_111 : decode cX11_init 111 = .ok (.bipush 100, 2) := by decide +kernel
theorem dX11_init_113 : decode cX11_init 113 = .ok (.newarray .int, 2) := by decide +kernel
theorem dX11_init_115 : decode cX11_init 115 = .ok (.putfield 49, 3) := by decide +kernel
theorem dX11_init_118 : decode cX11_init 118 = .ok (.aload_n 0, 1) := by decide +kernel
theorem dX11_init_119 : decode cX11_init 119 = .ok (.bipush 100, 2) := by decide +kernel
theorem dX11_init_121 : decode cX11_init 121 = .ok (.newarray .int, 2) := by decide +kernel
theorem dX11_init_123 : decode cX11_init 123 = .ok (.putfield 52, 3) := by decide +kernel
theorem dX11_init_126 : decode cX11_init 126 = .ok (.aload_n 0, 1) := by decide +kernel
theorem dX11_init_127 : decode cX11_init 127 = .ok (.sipush 320, 3) := by decide +kernel
theorem dX11_init_130 : decode cX11_init 130 = .ok (.newarray .int, 2) := by decide +kernel
theorem dX11_init_132 : decode cX11_init 132 = .ok (.putfield 55, 3) := by decide +kernel
theorem dX11_init_135 : decode cX11_init 135 = .ok (.aload_n 0, 1) := by decide +kernel
theorem dX11_init_136 : decode cX11_init 136 = .ok (.bipush 40, 2) := by decide +kernel
theorem dX11_init_138 : decode cX11_init 138 = .ok (.newarray .int, 2) := by decide +kernel
theorem dX11_init_140 : decode cX11_init 140 = .ok (.putfield 58, 3) := by decide +kernel
theorem dX11_init_143 : decode cX11_init 143 = .ok (.aload_n 0, 1) := by decide +kernel
theorem dX11_init_144 : decode cX11_init 144 = .ok (.bipush 40, 2) := by decide +kernel
theorem dX11_init_146 : decode cX11_init 146 = .ok (.newarray .int, 2) := by decide +kernel
theorem dX11_init_148 : decode cX11_init 148 = .ok (.putfield 61, 3) := by decide +kernel
theorem dX11_init_151 : decode cX11_init 151 = .ok (.aload_n 0, 1) := by decide +kernel
theorem dX11_init_152 : decode cX11_init 152 = .ok (.sipush 128, 3) := by decide +kernel
theorem dX11_init_155 : decode cX11_init 155 = .ok (.newarray .int, 2) := by decide +kernel
theorem dX11_init_157 : decode cX11_init 157 = .ok (.putfield 64, 3) := by decide +kernel
theorem dX11_init_160 : decode cX11_init 160 = .ok (.aload_n 0, 1) := by decide +kernel
theorem dX11_init_161 : decode cX11_init 161 = .ok (.iconst 2, 1) := by decide +kernel
theorem dX11_init_162 : decode cX11_init 162 = .ok (.putfield 67, 3) := by decide +kernel
theorem dX11_init_165 : decode cX11_init 165 = .ok (.aload_n 0, 1) := by decide +kernel
theorem dX11_init_166 : decode cX11_init 166 = .ok (.iconst 4, 1) := by decide +kernel
theorem dX11_init_167 : decode cX11_init 167 = .ok (.newarray .int, 2) := by decide +kernel
theorem dX11_init_169 : decode cX11_init 169 = .ok (.putfield 71, 3) := by decide +kernel
theorem dX11_init_172 : decode cX11_init 172 = .ok (.aload_n 0, 1) := by decide +kernel
theorem dX11_init_173 : decode cX11_init 173 = .ok (.iconst 4, 1) := by decide +kernel
theorem dX11_init_174 : decode cX11_init 174 = .ok (.newarray .int, 2) := by decide +kernel
theorem dX11_init_176 : decode cX11_init 176 = .ok (.putfield 74, 3) := by decide +kernel
theorem dX11_init_179 : decode cX11_init 179 = .ok (.aload_n 0, 1) := by decide +kernel
theorem dX11_init_180 : decode cX11_init 180 = .ok (.sipush 256, 3) := by decide +kernel
theorem dX11_init_183 : decode cX11_init 183 = .ok (.newarray .int, 2) := by decide +kernel
theorem dX11_init_185 : decode cX11_init 185 = .ok (.putfield 77, 3) := by decide +kernel
theorem dX11_init_188 : decode cX11_init 188 = .ok (.aload_n 0, 1) := by decide +kernel
theorem dX11_init_189 : decode cX11_init 189 = .ok (.sipush 256, 3) := by decide +kernel
theorem dX11_init_192 : decode cX11_init 192 = .ok (.newarray .boolean, 2) := by decide +kernel
theorem dX11_init_194 : decode cX11_init 194 = .ok (.putfield 80, 3) := by decide +kernel
theorem dX11_init_197 : decode cX11_init 197 = .ok (.aload_n 0, 1) := by decide +kernel
theorem dX11_init_198 : decode cX11_init 198 = .ok (.bipush 8, 2) := by decide +kernel
theorem dX11_init_200 : decode cX11_init 200 = .ok (.newarray .int, 2) := by decide +kernel
theorem dX11_init_202 : decode cX11_init 202 = .ok (.putfield 84, 3) := by decide +kernel
theorem dX11_init_205 : decode cX11_init 205 = .ok (.aload_n 0, 1) := by decide +kernel
theorem dX11_init_206 : decode cX11_init 206 = .ok (.bipush 16, 2) := by decide +kernel
theorem dX11_init_208 : decode cX11_init 208 = .ok (.newarray .int, 2) := by decide +kernel
theorem dX11_init_210 : decode cX11_init 210 = .ok (.putfield 87, 3) := by decide +kernel
theorem dX11_init_213 : decode cX11_init 213 = .ok (.aload_n 0, 1) := by decide +kernel
theorem dX11_init_214 : decode cX11_init 214 = .ok (.bipush 12, 2) := by decide +kernel
theorem dX11_init_216 : decode cX11_init 216 = .ok (.newarray .int, 2) := by decide +kernel
theorem dX11_init_218 : decode cX11_init 218 = .ok (.putfield 90, 3) := by decide +kernel
theorem dX11_init_221 : decode cX11_init 221 = .ok (.aload_n 0, 1) := by decide +kernel
theorem dX11_init_222 : decode cX11_init 222 = .ok (.bipush 12, 2) := by decide +kernel
theorem dX11_init_224 : decode cX11_init 224 = .ok (.newarray .int, 2) := by decide +kernel
theorem dX11_init_226 : decode cX11_init 226 = .ok (.putfield 93, 3) := by decide +kernel
theorem dX11_init_229 : decode cX11_init 229 = .ok (.aload_n 0, 1) := by decide +kernel
theorem dX11_init_230 : decode cX11_init 230 = .ok (.bipush 12, 2) := by decide +kernel
theorem dX11_init_232 : decode cX11_init 232 = .ok (.newarray .int, 2) := by decide +kernel
theorem dX11_init_234 : decode cX11_init 234 = .ok (.putfield 96, 3) := by decide +kernel
theorem dX11_init_237 : decode cX11_init 237 = .ok (.aload_n 0, 1) := by decide +kernel
theorem dX11_init_238 : decode cX11_init 238 = .ok (.iconst 4, 1) := by decide +kernel
theorem dX11_init_239 : decode cX11_init 239 = .ok (.newarray .int, 2) := by decide +kernel
theorem dX11_init_241 : decode cX11_init 241 = .ok (.putfield 99, 3) := by decide +kernel
theorem dX11_init_244 : decode cX11_init 244 = .ok (.aload_n 0, 1) := by decide +kernel
theorem dX11_init_245 : decode cX11_init 245 = .ok (.iconst 4, 1) := by decide +kernel
theorem dX11_init_246 : decode cX11_init 246 = .ok (.newarray .int, 2) := by decide +kernel
theorem dX11_init_248 : decode cX11_init 248 = .ok (.putfield 102, 3) := by decide +kernel
theorem dX11_init_251 : decode cX11_init 251 = .ok (.aload_n 0, 1) := by decide +kernel
theorem dX11_init_252 : decode cX11_init 252 = .ok (.sipush 160, 3) := by decide +kernel
theorem dX11_init_255 : decode cX11_init 255 = .ok (.newarray .int, 2) := by decide +kernel
theorem dX11_init_257 : decode cX11_init 257 = .ok (.putfield 105, 3) := by decide +kernel
theorem dX11_init_260 : decode cX11_init 260 = .ok (.iconst 0, 1) := by decide +kernel
theorem dX11_init_261 : decode cX11_init 261 = .ok (.istore_n 1, 1) := by decide +kernel
theorem dX11_init_262 : decode cX11_init 262 = .ok (.iload_n 1, 1) := by decide +kernel
theorem dX11_init_263 : decode cX11_init 263 = .ok (.iconst 4, 1) := by decide +kernel
theorem dX11_init_264 : decode cX11_init 264 = .ok (.if_icmp .ge 17, 3) := by decide +kernel
theorem dX11_init_267 : decode cX11_init 267 = .ok (.aload_n 0, 1) := by decide +kernel
theorem dX11_init_268 : decode cX11_init 268 = .ok (.getfield 99, 3) := by decide +kernel
theorem dX11_init_271 : decode cX11_init 271 = .ok (.iload_n 1, 1) := by decide +kernel
theorem dX11_init_272 : decode cX11_init 272 = .ok (.bipush (-4), 2) := by decide +kernel
theorem dX11_init_274 : decode cX11_init 274 = .ok (.iastore, 1) := by decide +kernel
theorem dX11_init_275 : decode cX11_init 275 = .ok (.iinc 1 1, 3) := by decide +kernel
theorem dX11_init_278 : decode cX11_init 278 = .ok (.goto (-16), 3) := by decide +kernel
theorem dX11_init_281 : decode cX11_init 281 = .ok (.aload_n 0, 1) := by decide +kernel
theorem dX11_init_282 : decode cX11_init 282 = .ok (.invokevirtual 108, 3) := by decide +kernel
theorem dX11_init_285 : decode cX11_init 285 = .ok (.return_, 1) := by decide +kernel
theorem dX11_in_0 : decode cX11_in 0 = .ok (.lload_n 0, 1) := by decide +kernel
theorem dX11_in_1 : decode cX11_in 1 = .ok (.lload_n 2, 1) := by decide +kernel
theorem dX11_in_2 : decode cX11_in 2 = .ok (.lcmp, 1) := by decide +kernel
theorem dX11_in_3 : decode cX11_in 3 = .ok (.ifCond .lt 14, 3) := by decide +kernel
theorem dX11_in_6 : decode cX11_in 6 = .ok (.lload_n 0, 1) := by decide +kernel
theorem dX11_in_7 : decode cX11_in 7 = .ok (.lload 4, 2) := by decide +kernel
theorem dX11_in_9 : decode cX11_in 9 = .ok (.lcmp, 1) := by decide +kernel
theorem dX11_in_10 : decode cX11_in 10 = .ok (.ifCond .gt 7, 3) := by decide +kernel
theorem dX11_in_13 : decode cX11_in 13 = .ok (.iconst 1, 1) := by decide +kernel
theorem dX11_in_14 : decode cX11_in 14 = .ok (.goto 4, 3) := by decide +kernel
theorem dX11_in_17 : decode cX11_in 17 = .ok (.iconst 0, 1) := by decide +kernel
theorem dX11_in_18 : decode cX11_in 18 = .ok (.ireturn, 1) := by decide +kernel
theorem dX11_countOf_0 : decode cX11_countOf 0 = .ok (.iconst 0, 1) := by decide +kernel
theorem dX11_countOf_1 : decode cX11_countOf 1 = .ok (.istore_n 1, 1) := by decide +kernel
theorem dX11_countOf_2 : decode cX11_countOf 2 = .ok (.iconst 0, 1) := by decide +kernel
theorem dX11_countOf_3 : decode cX11_countOf 3 = .ok (.istore_n 2, 1) := by decide +kernel
theorem dX11_countOf_4 : decode cX11_countOf 4 = .ok (.iload_n 2, 1) := by decide +kernel
theorem dX11_countOf_5 : decode cX11_countOf 5 = .ok (.bipush 16, 2) := by decide +kernel
theorem dX11_countOf_7 : decode cX11_countOf 7 = .ok (.if_icmp .ge 17, 3) := by decide +kernel
theorem dX11_countOf_10 : decode cX11_countOf 10 = .ok (.iload_n 1, 1) := by decide +kernel
theorem dX11_countOf_11 : decode cX11_countOf 11 = .ok (.iload_n 0, 1) := by decide +kernel
theorem dX11_countOf_12 : decode cX11_countOf 12 = .ok (.iload_n 2, 1) := by decide +kernel
theorem dX11_countOf_13 : decode cX11_countOf 13 = .ok (.ishr, 1) := by decide +kernel
theorem dX11_countOf_14 : decode cX11_countOf 14 = .ok (.iconst 1, 1) := by decide +kernel
theorem dX11_countOf_15 : decode cX11_countOf 15 = .ok (.iand, 1) := by decide +kernel
theorem dX11_countOf_16 : decode cX11_countOf 16 = .ok (.iadd, 1) := by decide +kernel
theorem dX11_countOf_17 : decode cX11_countOf 17 = .ok (.istore_n 1, 1) := by decide +kernel
theorem dX11_countOf_18 : decode cX11_countOf 18 = .ok (.iinc 2 1, 3) := by decide +kernel
theorem dX11_countOf_21 : decode cX11_countOf 21 = .ok (.goto (-17), 3) := by decide +kernel
theorem dX11_countOf_24 : decode cX11_countOf 24 = .ok (.iload_n 1, 1) := by decide +kernel
theorem dX11_countOf_25 : decode cX11_countOf 25 = .ok (.ireturn, 1) := by decide +kernel
theorem dX11_size_0 : decode cX11_size 0 = .ok (.lload_n 0, 1) := by decide +kernel
theorem dX11_size_1 : decode cX11_size 1 = .ok (.lconst 0, 1) := by decide +kernel
theorem dX11_size_2 : decode cX11_size 2 = .ok (.lcmp, 1) := by decide +kernel
theorem dX11_size_3 : decode cX11_size 3 = .ok (.ifCond .ge 8, 3) := by decide +kernel
theorem dX11_size_6 : decode cX11_size 6 = .ok (.lload_n 0, 1) := by decide +kernel
theorem dX11_size_7 : decode cX11_size 7 = .ok (.lneg, 1) := by decide +kernel
theorem dX11_size_8 : decode cX11_size 8 = .ok (.goto 4, 3) := by decide +kernel
theorem dX11_size_11 : decode cX11_size 11 = .ok (.lload_n 0, 1) := by decide +kernel
theorem dX11_size_12 : decode cX11_size 12 = .ok (.lreturn, 1) := by decide +kernel
theorem dX11_common_0 : decode cX11_common 0 = .ok (.lload_n 0, 1) := by decide +kernel
theorem dX11_common_1 : decode cX11_common 1 = .ok (.lstore 4, 2) := by decide +kernel
theorem dX11_common_3 : decode cX11_common 3 = .ok (.lload_n 2, 1) := by decide +kernel
theorem dX11_common_4 : decode cX11_common 4 = .ok (.lstore 6, 2) := by decide +kernel
theorem dX11_common_6 : decode cX11_common 6 = .ok (.lload 6, 2) := by decide +kernel
theorem dX11_common_8 : decode cX11_common 8 = .ok (.lconst 0, 1) := by decide +kernel
theorem dX11_common_9 : decode cX11_common 9 = .ok (.lcmp, 1) := by decide +kernel
theorem dX11_common_10 : decode cX11_common 10 = .ok (.ifCond .eq 21, 3) := by decide +kernel
theorem dX11_common_13 : decode cX11_common 13 = .ok (.lload 4, 2) := by decide +kernel
theorem dX11_common_15 : decode cX11_common 15 = .ok (.lload 6, 2) := by decide +kernel
theorem dX11_common_17 : decode cX11_common 17 = .ok (.lrem, 1) := by decide +kernel
theorem dX11_common_18 : decode cX11_common 18 = .ok (.lstore 8, 2) := by decide +kernel
theorem dX11_common_20 : decode cX11_common 20 = .ok (.lload 6, 2) := by decide +kernel
theorem dX11_common_22 : decode cX11_common 22 = .ok (.lstore 4, 2) := by decide +kernel
theorem dX11_common_24 : decode cX11_common 24 = .ok (.lload 8, 2) := by decide +kernel
theorem dX11_common_26 : decode cX11_common 26 = .ok (.lstore 6, 2) := by decide +kernel
theorem dX11_common_28 : decode cX11_common 28 = .ok (.goto (-22), 3) := by decide +kernel
theorem dX11_common_31 : decode cX11_common 31 = .ok (.lload 4, 2) := by decide +kernel
theorem dX11_common_33 : decode cX11_common 33 = .ok (.invokestatic 111, 3) := by decide +kernel
theorem dX11_common_36 : decode cX11_common 36 = .ok (.lreturn, 1) := by decide +kernel
theorem dX11_told_0 : decode cX11_told 0 = .ok (.lload_n 2, 1) := by decide +kernel
theorem dX11_told_1 : decode cX11_told 1 = .ok (.lload_n 0, 1) := by decide +kernel
theorem dX11_told_2 : decode cX11_told 2 = .ok (.invokestatic 111, 3) := by decide +kernel
theorem dX11_told_5 : decode cX11_told 5 = .ok (.invokestatic 115, 3) := by decide +kernel
theorem dX11_told_8 : decode cX11_told 8 = .ok (.lstore 5, 2) := by decide +kernel
theorem dX11_told_10 : decode cX11_told 10 = .ok (.iload 4, 2) := by decide +kernel
theorem dX11_told_12 : decode cX11_told 12 = .ok (.ifCond .ne 10, 3) := by decide +kernel
theorem dX11_told_15 : decode cX11_told 15 = .ok (.lload_n 0, 1) := by decide +kernel
theorem dX11_told_16 : decode cX11_told 16 = .ok (.lload 5, 2) := by decide +kernel
theorem dX11_told_18 : decode cX11_told 18 = .ok (.ldiv, 1) := by decide +kernel
theorem dX11_told_19 : decode cX11_told 19 = .ok (.goto 7, 3) := by decide +kernel
theorem dX11_told_22 : decode cX11_told 22 = .ok (.lload_n 2, 1) := by decide +kernel
theorem dX11_told_23 : decode cX11_told 23 = .ok (.lload 5, 2) := by decide +kernel
theorem dX11_told_25 : decode cX11_told 25 = .ok (.ldiv, 1) := by decide +kernel
theorem dX11_told_26 : decode cX11_told 26 = .ok (.lreturn, 1) := by decide +kernel
theorem dX11_feed_0 : decode cX11_feed 0 = .ok (.aload_n 0, 1) := by decide +kernel
theorem dX11_feed_1 : decode cX11_feed 1 = .ok (.getfield 119, 3) := by decide +kernel
theorem dX11_feed_4 : decode cX11_feed 4 = .ok (.bipush 8, 2) := by decide +kernel
theorem dX11_feed_6 : decode cX11_feed 6 = .ok (.iadd, 1) := by decide +kernel
theorem dX11_feed_7 : decode cX11_feed 7 = .ok (.sipush 320, 3) := by decide +kernel
theorem dX11_feed_10 : decode cX11_feed 10 = .ok (.if_icmp .le 6, 3) := by decide +kernel
theorem dX11_feed_13 : decode cX11_feed 13 = .ok (.bipush (-3), 2) := by decide +kernel
theorem dX11_feed_15 : decode cX11_feed 15 = .ok (.ireturn, 1) := by decide +kernel
theorem dX11_feed_16 : decode cX11_feed 16 = .ok (.bipush 56, 2) := by decide +kernel
theorem dX11_feed_18 : decode cX11_feed 18 = .ok (.istore_n 3, 1) := by decide +kernel
theorem dX11_feed_19 : decode cX11_feed 19 = .ok (.iload_n 3, 1) := by decide +kernel
theorem dX11_feed_20 : decode cX11_feed 20 = .ok (.ifCond .lt 36, 3) := by decide +kernel
theorem dX11_feed_23 : decode cX11_feed 23 = .ok (.aload_n 0, 1) := by decide +kernel
theorem dX11_feed_24 : decode cX11_feed 24 = .ok (.getfield 55, 3) := by decide +kernel
theorem dX11_feed_27 : decode cX11_feed 27 = .ok (.aload_n 0, 1) := by decide +kernel
theorem dX11_feed_28 : decode cX11_feed 28 = .ok (.getfield 119, 3) := by decide +kernel
theorem dX11_feed_31 : decode cX11_feed 31 = .ok (.lload_n 1, 1) := by decide +kernel
theorem dX11_feed_32 : decode cX11_feed 32 = .ok (.iload_n 3, 1) := by decide +kernel
theorem dX11_feed_33 : decode cX11_feed 33 = .ok (.lshr, 1) := by decide +kernel
theorem dX11_feed_34 : decode cX11_feed 34 = .ok (.ldc2_w 122, 3) := by decide +kernel
theorem dX11_feed_37 : decode cX11_feed 37 = .ok (.land, 1) := by decide +kernel
theorem dX11_feed_38 : decode cX11_feed 38 = .ok (.l2i, 1) := by decide +kernel
theorem dX11_feed_39 : decode cX11_feed 39 = .ok (.iastore, 1) := by decide +kernel
theorem dX11_feed_40 : decode cX11_feed 40 = .ok (.aload_n 0, 1) := by decide +kernel
theorem dX11_feed_41 : decode cX11_feed 41 = .ok (.dup, 1) := by decide +kernel
theorem dX11_feed_42 : decode cX11_feed 42 = .ok (.getfield 119, 3) := by decide +kernel
theorem dX11_feed_45 : decode cX11_feed 45 = .ok (.iconst 1, 1) := by decide +kernel
theorem dX11_feed_46 : decode cX11_feed 46 = .ok (.iadd, 1) := by decide +kernel
theorem dX11_feed_47 : decode cX11_feed 47 = .ok (.putfield 119, 3) := by decide +kernel
theorem dX11_feed_50 : decode cX11_feed 50 = .ok (.iinc 3 (-8), 3) := by decide +kernel
theorem dX11_feed_53 : decode cX11_feed 53 = .ok (.goto (-34), 3) := by decide +kernel
theorem dX11_feed_56 : decode cX11_feed 56 = .ok (.aload_n 0, 1) := by decide +kernel
theorem dX11_feed_57 : decode cX11_feed 57 = .ok (.getfield 119, 3) := by decide +kernel
theorem dX11_feed_60 : decode cX11_feed 60 = .ok (.ireturn, 1) := by decide +kernel
theorem dX11_end_0 : decode cX11_end 0 = .ok (.iload_n 1, 1) := by decide +kernel
theorem dX11_end_1 : decode cX11_end 1 = .ok (.i2l, 1) := by decide +kernel
theorem dX11_end_2 : decode cX11_end 2 = .ok (.lconst 0, 1) := by decide +kernel
theorem dX11_end_3 : decode cX11_end 3 = .ok (.aload_n 0, 1) := by decide +kernel
theorem dX11_end_4 : decode cX11_end 4 = .ok (.getfield 119, 3) := by decide +kernel
theorem dX11_end_7 : decode cX11_end 7 = .ok (.i2l, 1) := by decide +kernel
theorem dX11_end_8 : decode cX11_end 8 = .ok (.invokestatic 124, 3) := by decide +kernel
theorem dX11_end_11 : decode cX11_end 11 = .ok (.ifCond .ne 5, 3) := by decide +kernel
theorem dX11_end_14 : decode cX11_end 14 = .ok (.iconst (-1), 1) := by decide +kernel
theorem dX11_end_15 : decode cX11_end 15 = .ok (.ireturn, 1) := by decide +kernel
theorem dX11_end_16 : decode cX11_end 16 = .ok (.aload_n 0, 1) := by decide +kernel
theorem dX11_end_17 : decode cX11_end 17 = .ok (.getfield 119, 3) := by decide +kernel
theorem dX11_end_20 : decode cX11_end 20 = .ok (.istore_n 2, 1) := by decide +kernel
theorem dX11_end_21 : decode cX11_end 21 = .ok (.aload_n 0, 1) := by decide +kernel
theorem dX11_end_22 : decode cX11_end 22 = .ok (.iload_n 1, 1) := by decide +kernel
theorem dX11_end_23 : decode cX11_end 23 = .ok (.putfield 119, 3) := by decide +kernel
theorem dX11_end_26 : decode cX11_end 26 = .ok (.iload_n 2, 1) := by decide +kernel
theorem dX11_end_27 : decode cX11_end 27 = .ok (.ireturn, 1) := by decide +kernel
theorem dX11_wants_0 : decode cX11_wants 0 = .ok (.iload_n 1, 1) := by decide +kernel
theorem dX11_wants_1 : decode cX11_wants 1 = .ok (.ifCond .ne 23, 3) := by decide +kernel
theorem dX11_wants_4 : decode cX11_wants 4 = .ok (.aload_n 0, 1) := by decide +kernel
theorem dX11_wants_5 : decode cX11_wants 5 = .ok (.getfield 128, 3) := by decide +kernel
theorem dX11_wants_8 : decode cX11_wants 8 = .ok (.ifCond .ne 16, 3) := by decide +kernel
theorem dX11_wants_11 : decode cX11_wants 11 = .ok (.aload_n 0, 1) := by decide +kernel
theorem dX11_wants_12 : decode cX11_wants 12 = .ok (.iload_n 2, 1) := by decide +kernel
theorem dX11_wants_13 : decode cX11_wants 13 = .ok (.putfield 128, 3) := by decide +kernel
theorem dX11_wants_16 : decode cX11_wants 16 = .ok (.aload_n 0, 1) := by decide +kernel
theorem dX11_wants_17 : decode cX11_wants 17 = .ok (.aload_n 0, 1) := by decide +kernel
theorem dX11_wants_18 : decode cX11_wants 18 = .ok (.getfield 131, 3) := by decide +kernel
theorem dX11_wants_21 : decode cX11_wants 21 = .ok (.putfield 134, 3) := by decide +kernel
theorem dX11_wants_24 : decode cX11_wants 24 = .ok (.return_, 1) := by decide +kernel
theorem dX11_look_0 : decode cX11_look 0 = .ok (.iload_n 1, 1) := by decide +kernel
theorem dX11_look_1 : decode cX11_look 1 = .ok (.aload_n 0, 1) := by decide +kernel
theorem dX11_look_2 : decode cX11_look 2 = .ok (.getfield 119, 3) := by decide +kernel
theorem dX11_look_5 : decode cX11_look 5 = .ok (.if_icmp .ge 12, 3) := by decide +kernel
theorem dX11_look_8 : decode cX11_look 8 = .ok (.aload_n 0, 1) := by decide +kernel
theorem dX11_look_9 : decode cX11_look 9 = .ok (.getfield 55, 3) := by decide +kernel
theorem dX11_look_12 : decode cX11_look 12 = .ok (.iload_n 1, 1) := by decide +kernel
theorem dX11_look_13 : decode cX11_look 13 = .ok (.iaload, 1) := by decide +kernel
theorem dX11_look_14 : decode cX11_look 14 = .ok (.goto 4, 3) := by decide +kernel
theorem dX11_look_17 : decode cX11_look 17 = .ok (.iconst (-1), 1) := by decide +kernel
theorem dX11_look_18 : decode cX11_look 18 = .ok (.ireturn, 1) := by decide +kernel
theorem dX11_is_0 : decode cX11_is 0 = .ok (.aload_n 0, 1) := by decide +kernel
theorem dX11_is_1 : decode cX11_is 1 = .ok (.getfield 137, 3) := by decide +kernel
theorem dX11_is_4 : decode cX11_is 4 = .ok (.aload_n 0, 1) := by decide +kernel
theorem dX11_is_5 : decode cX11_is 5 = .ok (.getfield 131, 3) := by decide +kernel
theorem dX11_is_8 : decode cX11_is 8 = .ok (.isub, 1) := by decide +kernel
theorem dX11_is_9 : decode cX11_is 9 = .ok (.iload_n 1, 1) := by decide +kernel
theorem dX11_is_10 : decode cX11_is 10 = .ok (.if_icmp .ne 68, 3) := by decide +kernel
theorem dX11_is_13 : decode cX11_is 13 = .ok (.aload_n 0, 1) := by decide +kernel
theorem dX11_is_14 : decode cX11_is 14 = .ok (.aload_n 0, 1) := by decide +kernel
theorem dX11_is_15 : decode cX11_is 15 = .ok (.getfield 131, 3) := by decide +kernel
theorem dX11_is_18 : decode cX11_is 18 = .ok (.invokevirtual 140, 3) := by decide +kernel
theorem dX11_is_21 : decode cX11_is 21 = .ok (.iload_n 2, 1) := by decide +kernel
theorem dX11_is_22 : decode cX11_is 22 = .ok (.if_icmp .ne 56, 3) := by decide +kernel
theorem dX11_is_25 : decode cX11_is 25 = .ok (.aload_n 0, 1) := by decide +kernel
theorem dX11_is_26 : decode cX11_is 26 = .ok (.aload_n 0, 1) := by decide +kernel
theorem dX11_is_27 : decode cX11_is 27 = .ok (.getfield 131, 3) := by decide +kernel
theorem dX11_is_30 : decode cX11_is 30 = .ok (.iconst 1, 1) := by decide +kernel
theorem dX11_is_31 : decode cX11_is 31 = .ok (.iadd, 1) := by decide +kernel
theorem dX11_is_32 : decode cX11_is 32 = .ok (.invokevirtual 140, 3) := by decide +kernel
theorem dX11_is_35 : decode cX11_is 35 = .ok (.iload_n 3, 1) := by decide +kernel
theorem dX11_is_36 : decode cX11_is 36 = .ok (.if_icmp .ne 42, 3) := by decide +kernel
theorem dX11_is_39 : decode cX11_is 39 = .ok (.aload_n 0, 1) := by decide +kernel
theorem dX11_is_40 : decode cX11_is 40 = .ok (.aload_n 0, 1) := by decide +kernel
theorem dX11_is_41 : decode cX11_is 41 = .ok (.getfield 131, 3) := by decide +kernel
theorem dX11_is_44 : decode cX11_is 44 = .ok (.iconst 2, 1) := by decide +kernel
theorem dX11_is_45 : decode cX11_is 45 = .ok (.iadd, 1) := by decide +kernel
theorem dX11_is_46 : decode cX11_is 46 = .ok (.invokevirtual 140, 3) := by decide +kernel
theorem dX11_is_49 : decode cX11_is 49 = .ok (.iload 4, 2) := by decide +kernel
theorem dX11_is_51 : decode cX11_is 51 = .ok (.if_icmp .ne 27, 3) := by decide +kernel
theorem dX11_is_54 : decode cX11_is 54 = .ok (.iload_n 1, 1) := by decide +kernel
theorem dX11_is_55 : decode cX11_is 55 = .ok (.iconst 4, 1) := by decide +kernel
theorem dX11_is_56 : decode cX11_is 56 = .ok (.if_icmp .lt 18, 3) := by decide +kernel
theorem dX11_is_59 : decode cX11_is 59 = .ok (.aload_n 0, 1) := by decide +kernel
theorem dX11_is_60 : decode cX11_is 60 = .ok (.aload_n 0, 1) := by decide +kernel
theorem dX11_is_61 : decode cX11_is 61 = .ok (.getfield 131, 3) := by decide +kernel
theorem dX11_is_64 : decode cX11_is 64 = .ok (.iconst 3, 1) := by decide +kernel
theorem dX11_is_65 : decode cX11_is 65 = .ok (.iadd, 1) := by decide +kernel
theorem dX11_is_66 : decode cX11_is 66 = .ok (.invokevirtual 140, 3) := by decide +kernel
theorem dX11_is_69 : decode cX11_is 69 = .ok (.iload 5, 2) := by decide +kernel
theorem dX11_is_71 : decode cX11_is 71 = .ok (.if_icmp .ne 7, 3) := by decide +kernel
theorem dX11_is_74 : decode cX11_is 74 = .ok (.iconst 1, 1) := by decide +kernel
theorem dX11_is_75 : decode cX11_is 75 = .ok (.goto 4, 3) := by decide +kernel
theorem dX11_is_78 : decode cX11_is 78 = .ok (.iconst 0, 1) := by decide +kernel
theorem dX11_is_79 : decode cX11_is 79 = .ok (.ireturn, 1) := by decide +kernel
theorem dX11_nameNow_0 : decode cX11_nameNow 0 = .ok (.aload_n 0, 1) := by decide +kernel
theorem dX11_nameNow_1 : decode cX11_nameNow 1 = .ok (.iconst 4, 1) := by decide +kernel
theorem dX11_nameNow_2 : decode cX11_nameNow 2 = .ok (.bipush 108, 2) := by decide +kernel
theorem dX11_nameNow_4 : decode cX11_nameNow 4 = .ok (.bipush 105, 2) := by decide +kernel
theorem dX11_nameNow_6 : decode cX11_nameNow 6 = .ok (.bipush 110, 2) := by decide +kernel
theorem dX11_nameNow_8 : decode cX11_nameNow 8 = .ok (.bipush 101, 2) := by decide +kernel
theorem dX11_nameNow_10 : decode cX11_nameNow 10 = .ok (.invokevirtual 144, 3) := by decide +kernel
theorem dX11_nameNow_13 : decode cX11_nameNow 13 = .ok (.ifCond .eq 7, 3) := by decide +kernel
theorem dX11_nameNow_16 : decode cX11_nameNow 16 = .ok (.iconst 0, 1) := by decide +kernel
theorem dX11_nameNow_17 : decode cX11_nameNow 17 = .ok (.goto 44, 3) := by decide +kernel
theorem dX11_nameNow_20 : decode cX11_nameNow 20 = .ok (.aload_n 0, 1) := by decide +kernel
theorem dX11_nameNow_21 : decode cX11_nameNow 21 = .ok (.iconst 4, 1) := by decide +kernel
theorem dX11_nameNow_22 : decode cX11_nameNow 22 = .ok (.bipush 108, 2) := by decide +kernel
theorem dX11_nameNow_24 : decode cX11_nameNow 24 = .ok (.bipush 111, 2) := by decide +kernel
theorem dX11_nameNow_26 : decode cX11_nameNow 26 = .ok (.bipush 111, 2) := by decide +kernel
theorem dX11_nameNow_28 : decode cX11_nameNow 28 = .ok (.bipush 112, 2) := by decide +kernel
theorem dX11_nameNow_30 : decode cX11_nameNow 30 = .ok (.invokevirtual 144, 3) := by decide +kernel
theorem dX11_nameNow_33 : decode cX11_nameNow 33 = .ok (.ifCond .eq 7, 3) := by decide +kernel
theorem dX11_nameNow_36 : decode cX11_nameNow 36 = .ok (.iconst 1, 1) := by decide +kernel
theorem dX11_nameNow_37 : decode cX11_nameNow 37 = .ok (.goto 24, 3) := by decide +kernel
theorem dX11_nameNow_40 : decode cX11_nameNow 40 = .ok (.aload_n 0, 1) := by decide +kernel
theorem dX11_nameNow_41 : decode cX11_nameNow 41 = .ok (.iconst 3, 1) := by decide +kernel
theorem dX11_nameNow_42 : decode cX11_nameNow 42 = .ok (.bipush 101, 2) := by decide +kernel
theorem dX11_nameNow_44 : decode cX11_nameNow 44 = .ok (.bipush 110, 2) := by decide +kernel
theorem dX11_nameNow_46 : decode cX11_nameNow 46 = .ok (.bipush 100, 2) := by decide +kernel
theorem dX11_nameNow_48 : decode cX11_nameNow 48 = .ok (.iconst 0, 1) := by decide +kernel
theorem dX11_nameNow_49 : decode cX11_nameNow 49 = .ok (.invokevirtual 144, 3) := by decide +kernel
theorem dX11_nameNow_52 : decode cX11_nameNow 52 = .ok (.ifCond .eq 7, 3) := by decide +kernel
theorem dX11_nameNow_55 : decode cX11_nameNow 55 = .ok (.iconst 2, 1) := by decide +kernel
theorem dX11_nameNow_56 : decode cX11_nameNow 56 = .ok (.goto 5, 3) := by decide +kernel
theorem dX11_nameNow_59 : decode cX11_nameNow 59 = .ok (.bipush (-4), 2) := by decide +kernel
theorem dX11_nameNow_61 : decode cX11_nameNow 61 = .ok (.ireturn, 1) := by decide +kernel
theorem dX11_next_0 : decode cX11_next 0 = .ok (.aload_n 0, 1) := by decide +kernel
theorem dX11_next_1 : decode cX11_next 1 = .ok (.getfield 128, 3) := by decide +kernel
theorem dX11_next_4 : decode cX11_next 4 = .ok (.ifCond .le 4, 3) := by decide +kernel
theorem dX11_next_7 : decode cX11_next 7 = .ok (.return_, 1) := by decide +kernel
theorem dX11_next_8 : decode cX11_next 8 = .ok (.aload_n 0, 1) := by decide +kernel
theorem dX11_next_9 : decode cX11_next 9 = .ok (.aload_n 0, 1) := by decide +kernel
theorem dX11_next_10 : decode cX11_next 10 = .ok (.getfield 137, 3) := by decide +kernel
theorem dX11_next_13 : decode cX11_next 13 = .ok (.invokevirtual 140, 3) := by decide +kernel
theorem dX11_next_16 : decode cX11_next 16 = .ok (.bipush 32, 2) := by decide +kernel
theorem dX11_next_18 : decode cX11_next 18 = .ok (.if_icmp .ne 16, 3) := by decide +kernel
theorem dX11_next_21 : decode cX11_next 21 = .ok (.aload_n 0, 1) := by decide +kernel
theorem dX11_next_22 : decode cX11_next 22 = .ok (.dup, 1) := by decide +kernel
theorem dX11_next_23 : decode cX11_next 23 = .ok (.getfield 137, 3) := by decide +kernel
theorem dX11_next_26 : decode cX11_next 26 = .ok (.iconst 1, 1) := by decide +kernel
theorem dX11_next_27 : decode cX11_next 27 = .ok (.iadd, 1) := by decide +kernel
theorem dX11_next_28 : decode cX11_next 28 = .ok (.putfield 137, 3) := by decide +kernel
theorem dX11_next_31 : decode cX11_next 31 = .ok (.goto (-23), 3) := by decide +kernel
theorem dX11_next_34 : decode cX11_next 34 = .ok (.aload_n 0, 1) := by decide +kernel
theorem dX11_next_35 : decode cX11_next 35 = .ok (.aload_n 0, 1) := by decide +kernel
theorem dX11_next_36 : decode cX11_next 36 = .ok (.getfield 137, 3) := by decide +kernel
theorem dX11_next_39 : decode cX11_next 39 = .ok (.putfield 131, 3) := by decide +kernel
theorem dX11_next_42 : decode cX11_next 42 = .ok (.aload_n 0, 1) := by decide +kernel
theorem dX11_next_43 : decode cX11_next 43 = .ok (.aload_n 0, 1) := by decide +kernel
theorem dX11_next_44 : decode cX11_next 44 = .ok (.getfield 137, 3) := by decide +kernel
theorem dX11_next_47 : decode cX11_next 47 = .ok (.invokevirtual 140, 3) := by decide +kernel
theorem dX11_next_50 : decode cX11_next 50 = .ok (.istore_n 1, 1) := by decide +kernel
theorem dX11_next_51 : decode cX11_next 51 = .ok (.iload_n 1, 1) := by decide +kernel
theorem dX11_next_52 : decode cX11_next 52 = .ok (.ifCond .ge 11, 3) := by decide +kernel
theorem dX11_next_55 : decode cX11_next 55 = .ok (.aload_n 0, 1) := by decide +kernel
theorem dX11_next_56 : decode cX11_next 56 = .ok (.iconst 0, 1) := by decide +kernel
theorem dX11_next_57 : decode cX11_next 57 = .ok (.putfield 148, 3) := by decide +kernel
theorem dX11_next_60 : decode cX11_next 60 = .ok (.goto 214, 3) := by decide +kernel
theorem dX11_next_63 : decode cX11_next 63 = .ok (.iload_n 1, 1) := by decide +kernel
theorem dX11_next_64 : decode cX11_next 64 = .ok (.i2l, 1) := by decide +kernel
theorem dX11_next_65 : decode cX11_next 65 = .ok (.ldc2_w 151, 3) := by decide +kernel
theorem dX11_next_68 : decode cX11_next 68 = .ok (.ldc2_w 153, 3) := by decide +kernel
theorem dX11_next_71 : decode cX11_next 71 = .ok (.invokestatic 124, 3) := by decide +kernel
theorem dX11_next_74 : decode cX11_next 74 = .ok (.ifCond .eq 42, 3) := by decide +kernel
theorem dX11_next_77 : decode cX11_next 77 = .ok (.aload_n 0, 1) := by decide +kernel
theorem dX11_next_78 : decode cX11_next 78 = .ok (.iconst 1, 1) := by decide +kernel
theorem dX11_next_79 : decode cX11_next 79 = .ok (.putfield 148, 3) := by decide +kernel
theorem dX11_next_82 : decode cX11_next 82 = .ok (.aload_n 0, 1) := by decide +kernel
theorem dX11_next_83 : decode cX11_next 83 = .ok (.aload_n 0, 1) := by decide +kernel
theorem dX11_next_84 : decode cX11_next 84 = .ok (.getfield 137, 3) := by decide +kernel
theorem dX11_next_87 : decode cX11_next 87 = .ok (.invokevirtual 140, 3) := by decide +kernel
theorem dX11_next_90 : decode cX11_next 90 = .ok (.i2l, 1) := by decide +kernel
theorem dX11_next_91 : decode cX11_next 91 = .ok (.ldc2_w 151, 3) := by decide +kernel
theorem dX11_next_94 : decode cX11_next 94 = .ok (.ldc2_w 153, 3) := by decide +kernel
theorem dX11_next_97 : decode cX11_next 97 = .ok (.invokestatic 124, 3) := by decide +kernel
theorem dX11_next_100 : decode cX11_next 100 = .ok (.ifCond .eq 174, 3) := by decide +kernel
theorem dX11_next_103 : decode cX11_next 103 = .ok (.aload_n 0, 1) := by decide +kernel
theorem dX11_next_104 : decode cX11_next 104 = .ok (.dup, 1) := by decide +kernel
theorem dX11_next_105 : decode cX11_next 105 = .ok (.getfield 137, 3) := by decide +kernel
theorem dX11_next_108 : decode cX11_next 108 = .ok (.iconst 1, 1) := by decide +kernel
theorem dX11_next_109 : decode cX11_next 109 = .ok (.iadd, 1) := by decide +kernel
theorem dX11_next_110 : decode cX11_next 110 = .ok (.putfield 137, 3) := by decide +kernel
theorem dX11_next_113 : decode cX11_next 113 = .ok (.goto (-31), 3) := by decide +kernel
theorem dX11_next_116 : decode cX11_next 116 = .ok (.iload_n 1, 1) := by decide +kernel
theorem dX11_next_117 : decode cX11_next 117 = .ok (.i2l, 1) := by decide +kernel
theorem dX11_next_118 : decode cX11_next 118 = .ok (.ldc2_w 155, 3) := by decide +kernel
theorem dX11_next_121 : decode cX11_next 121 = .ok (.ldc2_w 157, 3) := by decide +kernel
theorem dX11_next_124 : decode cX11_next 124 = .ok (.invokestatic 124, 3) := by decide +kernel
theorem dX11_next_127 : decode cX11_next 127 = .ok (.ifCond .eq 116, 3) := by decide +kernel
theorem dX11_next_130 : decode cX11_next 130 = .ok (.aload_n 0, 1) := by decide +kernel
theorem dX11_next_131 : decode cX11_next 131 = .ok (.iconst 2, 1) := by decide +kernel
theorem dX11_next_132 : decode cX11_next 132 = .ok (.putfield 148, 3) := by decide +kernel
theorem dX11_next_135 : decode cX11_next 135 = .ok (.aload_n 0, 1) := by decide +kernel
theorem dX11_next_136 : decode cX11_next 136 = .ok (.iconst 0, 1) := by decide +kernel
theorem dX11_next_137 : decode cX11_next 137 = .ok (.putfield 159, 3) := by decide +kernel
theorem dX11_next_140 : decode cX11_next 140 = .ok (.aload_n 0, 1) := by decide +kernel
theorem dX11_next_141 : decode cX11_next 141 = .ok (.aload_n 0, 1) := by decide +kernel
theorem dX11_next_142 : decode cX11_next 142 = .ok (.getfield 137, 3) := by decide +kernel
theorem dX11_next_145 : decode cX11_next 145 = .ok (.invokevirtual 140, 3) := by decide +kernel
theorem dX11_next_148 : decode cX11_next 148 = .ok (.i2l, 1) := by decide +kernel
theorem dX11_next_149 : decode cX11_next 149 = .ok (.ldc2_w 155, 3) := by decide +kernel
theorem dX11_next_152 : decode cX11_next 152 = .ok (.ldc2_w 157, 3) := by decide +kernel
theorem dX11_next_155 : decode cX11_next 155 = .ok (.invokestatic 124, 3) := by decide +kernel
theorem dX11_next_158 : decode cX11_next 158 = .ok (.ifCond .eq 59, 3) := by decide +kernel
theorem dX11_next_161 : decode cX11_next 161 = .ok (.aload_n 0, 1) := by decide +kernel
theorem dX11_next_162 : decode cX11_next 162 = .ok (.aload_n 0, 1) := by decide +kernel
theorem dX11_next_163 : decode cX11_next 163 = .ok (.getfield 137, 3) := by decide +kernel
theorem dX11_next_166 : decode cX11_next 166 = .ok (.aload_n 0, 1) := by decide +kernel
theorem dX11_next_167 : decode cX11_next 167 = .ok (.getfield 131, 3) := by decide +kernel
theorem dX11_next_170 : decode cX11_next 170 = .ok (.isub, 1) := by decide +kernel
theorem dX11_next_171 : decode cX11_next 171 = .ok (.iconst 2, 1) := by decide +kernel
theorem dX11_next_172 : decode cX11_next 172 = .ok (.if_icmp .ge 25, 3) := by decide +kernel
theorem dX11_next_175 : decode cX11_next 175 = .ok (.bipush 10, 2) := by decide +kernel
theorem dX11_next_177 : decode cX11_next 177 = .ok (.aload_n 0, 1) := by decide +kernel
theorem dX11_next_178 : decode cX11_next 178 = .ok (.getfield 159, 3) := by decide +kernel
theorem dX11_next_181 : decode cX11_next 181 = .ok (.imul, 1) := by decide +kernel
theorem dX11_next_182 : decode cX11_next 182 = .ok (.aload_n 0, 1) := by decide +kernel
theorem dX11_next_183 : decode cX11_next 183 = .ok (.aload_n 0, 1) := by decide +kernel
theorem dX11_next_184 : decode cX11_next 184 = .ok (.getfield 137, 3) := by decide +kernel
theorem dX11_next_187 : decode cX11_next 187 = .ok (.invokevirtual 140, 3) := by decide +kernel
theorem dX11_next_190 : decode cX11_next 190 = .ok (.iadd, 1) := by decide +kernel
theorem dX11_next_191 : decode cX11_next 191 = .ok (.bipush 48, 2) := by decide +kernel
theorem dX11_next_193 : decode cX11_next 193 = .ok (.isub, 1) := by decide +kernel
theorem dX11_next_194 : decode cX11_next 194 = .ok (.goto 7, 3) := by decide +kernel
theorem dX11_next_197 : decode cX11_next 197 = .ok (.aload_n 0, 1) := by decide +kernel
theorem dX11_next_198 : decode cX11_next 198 = .ok (.getfield 159, 3) := by decide +kernel
theorem dX11_next_201 : decode cX11_next 201 = .ok (.putfield 159, 3) := by decide +kernel
theorem dX11_next_204 : decode cX11_next 204 = .ok (.aload_n 0, 1) := by decide +kernel
theorem dX11_next_205 : decode cX11_next 205 = .ok (.dup, 1) := by decide +kernel
theorem dX11_next_206 : decode cX11_next 206 = .ok (.getfield 137, 3) := by decide +kernel
theorem dX11_next_209 : decode cX11_next 209 = .ok (.iconst 1, 1) := by decide +kernel
theorem dX11_next_210 : decode cX11_next 210 = .ok (.iadd, 1) := by decide +kernel
theorem dX11_next_211 : decode cX11_next 211 = .ok (.putfield 137, 3) := by decide +kernel
theorem dX11_next_214 : decode cX11_next 214 = .ok (.goto (-74), 3) := by decide +kernel
theorem dX11_next_217 : decode cX11_next 217 = .ok (.aload_n 0, 1) := by decide +kernel
theorem dX11_next_218 : decode cX11_next 218 = .ok (.aload_n 0, 1) := by decide +kernel
theorem dX11_next_219 : decode cX11_next 219 = .ok (.getfield 137, 3) := by decide +kernel
theorem dX11_next_222 : decode cX11_next 222 = .ok (.aload_n 0, 1) := by decide +kernel
theorem dX11_next_223 : decode cX11_next 223 = .ok (.getfield 131, 3) := by decide +kernel
theorem dX11_next_226 : decode cX11_next 226 = .ok (.isub, 1) := by decide +kernel
theorem dX11_next_227 : decode cX11_next 227 = .ok (.iconst 2, 1) := by decide +kernel
theorem dX11_next_228 : decode cX11_next 228 = .ok (.if_icmp .gt 7, 3) := by decide +kernel
theorem dX11_next_231 : decode cX11_next 231 = .ok (.iconst 1, 1) := by decide +kernel
theorem dX11_next_232 : decode cX11_next 232 = .ok (.goto 4, 3) := by decide +kernel
theorem dX11_next_235 : decode cX11_next 235 = .ok (.iconst 0, 1) := by decide +kernel
theorem dX11_next_236 : decode cX11_next 236 = .ok (.iconst 1, 1) := by decide +kernel
theorem dX11_next_237 : decode cX11_next 237 = .ok (.invokevirtual 162, 3) := by decide +kernel
theorem dX11_next_240 : decode cX11_next 240 = .ok (.goto 34, 3) := by decide +kernel
theorem dX11_next_243 : decode cX11_next 243 = .ok (.aload_n 0, 1) := by decide +kernel
theorem dX11_next_244 : decode cX11_next 244 = .ok (.iconst 3, 1) := by decide +kernel
theorem dX11_next_245 : decode cX11_next 245 = .ok (.putfield 148, 3) := by decide +kernel
theorem dX11_next_248 : decode cX11_next 248 = .ok (.aload_n 0, 1) := by decide +kernel
theorem dX11_next_249 : decode cX11_next 249 = .ok (.iload_n 1, 1) := by decide +kernel
theorem dX11_next_250 : decode cX11_next 250 = .ok (.bipush 59, 2) := by decide +kernel
theorem dX11_next_252 : decode cX11_next 252 = .ok (.if_icmp .ne 7, 3) := by decide +kernel
theorem dX11_next_255 : decode cX11_next 255 = .ok (.iconst 1, 1) := by decide +kernel
theorem dX11_next_256 : decode cX11_next 256 = .ok (.goto 4, 3) := by decide +kernel
theorem dX11_next_259 : decode cX11_next 259 = .ok (.iconst 0, 1) := by decide +kernel
theorem dX11_next_260 : decode cX11_next 260 = .ok (.iconst 1, 1) := by decide +kernel
theorem dX11_next_261 : decode cX11_next 261 = .ok (.invokevirtual 162, 3) := by decide +kernel
theorem dX11_next_264 : decode cX11_next 264 = .ok (.aload_n 0, 1) := by decide +kernel
theorem dX11_next_265 : decode cX11_next 265 = .ok (.dup, 1) := by decide +kernel
theorem dX11_next_266 : decode cX11_next 266 = .ok (.getfield 137, 3) := by decide +kernel
theorem dX11_next_269 : decode cX11_next 269 = .ok (.iconst 1, 1) := by decide +kernel
theorem dX11_next_270 : decode cX11_next 270 = .ok (.iadd, 1) := by decide +kernel
theorem dX11_next_271 : decode cX11_next 271 = .ok (.putfield 137, 3) := by decide +kernel
theorem dX11_next_274 : decode cX11_next 274 = .ok (.return_, 1) := by decide +kernel
theorem dX11_readNumber_0 : decode cX11_readNumber 0 = .ok (.aload_n 0, 1) := by decide +kernel
theorem dX11_readNumber_1 : decode cX11_readNumber 1 = .ok (.getfield 128, 3) := by decide +kernel
theorem dX11_readNumber_4 : decode cX11_readNumber 4 = .ok (.ifCond .ne 21, 3) := by decide +kernel
theorem dX11_readNumber_7 : decode cX11_readNumber 7 = .ok (.aload_n 0, 1) := by decide +kernel
theorem dX11_readNumber_8 : decode cX11_readNumber 8 = .ok (.aload_n 0, 1) := by decide +kernel
theorem dX11_readNumber_9 : decode cX11_readNumber 9 = .ok (.getfield 148, 3) := by decide +kernel
theorem dX11_readNumber_12 : decode cX11_readNumber 12 = .ok (.iconst 2, 1) := by decide +kernel
theorem dX11_readNumber_13 : decode cX11_readNumber 13 = .ok (.if_icmp .ne 7, 3) := by decide +kernel
theorem dX11_readNumber_16 : decode cX11_readNumber 16 = .ok (.iconst 1, 1) := by decide +kernel
theorem dX11_readNumber_17 : decode cX11_readNumber 17 = .ok (.goto 4, 3) := by decide +kernel
theorem dX11_readNumber_20 : decode cX11_readNumber 20 = .ok (.iconst 0, 1) := by decide +kernel
theorem dX11_readNumber_21 : decode cX11_readNumber 21 = .ok (.iconst 2, 1) := by decide +kernel
theorem dX11_readNumber_22 : decode cX11_readNumber 22 = .ok (.invokevirtual 162, 3) := by decide +kernel
theorem dX11_readNumber_25 : decode cX11_readNumber 25 = .ok (.aload_n 0, 1) := by decide +kernel
theorem dX11_readNumber_26 : decode cX11_readNumber 26 = .ok (.getfield 128, 3) := by decide +kernel
theorem dX11_readNumber_29 : decode cX11_readNumber 29 = .ok (.ifCond .ne 20, 3) := by decide +kernel
theorem dX11_readNumber_32 : decode cX11_readNumber 32 = .ok (.aload_n 0, 1) := by decide +kernel
theorem dX11_readNumber_33 : decode cX11_readNumber 33 = .ok (.aload_n 0, 1) := by decide +kernel
theorem dX11_readNumber_34 : decode cX11_readNumber 34 = .ok (.getfield 159, 3) := by decide +kernel
theorem dX11_readNumber_37 : decode cX11_readNumber 37 = .ok (.i2l, 1) := by decide +kernel
theorem dX11_readNumber_38 : decode cX11_readNumber 38 = .ok (.iload_n 1, 1) := by decide +kernel
theorem dX11_readNumber_39 : decode cX11_readNumber 39 = .ok (.i2l, 1) := by decide +kernel
theorem dX11_readNumber_40 : decode cX11_readNumber 40 = .ok (.iload_n 2, 1) := by decide +kernel
theorem dX11_readNumber_41 : decode cX11_readNumber 41 = .ok (.i2l, 1) := by decide +kernel
theorem dX11_readNumber_42 : decode cX11_readNumber 42 = .ok (.invokestatic 124, 3) := by decide +kernel
theorem dX11_readNumber_45 : decode cX11_readNumber 45 = .ok (.iconst 3, 1) := by decide +kernel
theorem dX11_readNumber_46 : decode cX11_readNumber 46 = .ok (.invokevirtual 162, 3) := by decide +kernel
theorem dX11_readNumber_49 : decode cX11_readNumber 49 = .ok (.aload_n 0, 1) := by decide +kernel
theorem dX11_readNumber_50 : decode cX11_readNumber 50 = .ok (.getfield 159, 3) := by decide +kernel
theorem dX11_readNumber_53 : decode cX11_readNumber 53 = .ok (.istore_n 3, 1) := by decide +kernel
theorem dX11_readNumber_54 : decode cX11_readNumber 54 = .ok (.aload_n 0, 1) := by decide +kernel
theorem dX11_readNumber_55 : decode cX11_readNumber 55 = .ok (.invokevirtual 166, 3) := by decide +kernel
theorem dX11_readNumber_58 : decode cX11_readNumber 58 = .ok (.iload_n 3, 1) := by decide +kernel
theorem dX11_readNumber_59 : decode cX11_readNumber 59 = .ok (.ireturn, 1) := by decide +kernel
theorem dX11_readEvents_0 : decode cX11_readEvents 0 = .ok (.iconst 0, 1) := by decide +kernel
theorem dX11_readEvents_1 : decode cX11_readEvents 1 = .ok (.istore_n 1, 1) := by decide +kernel
theorem dX11_readEvents_2 : decode cX11_readEvents 2 = .ok (.aload_n 0, 1) := by decide +kernel
theorem dX11_readEvents_3 : decode cX11_readEvents 3 = .ok (.getfield 128, 3) := by decide +kernel
theorem dX11_readEvents_6 : decode cX11_readEvents 6 = .ok (.ifCond .ne 126, 3) := by decide +kernel
theorem dX11_readEvents_9 : decode cX11_readEvents 9 = .ok (.aload_n 0, 1) := by decide +kernel
theorem dX11_readEvents_10 : decode cX11_readEvents 10 = .ok (.getfield 148, 3) := by decide +kernel
theorem dX11_readEvents_13 : decode cX11_readEvents 13 = .ok (.iconst 1, 1) := by decide +kernel
theorem dX11_readEvents_14 : decode cX11_readEvents 14 = .ok (.if_icmp .ne 118, 3) := by decide +kernel
theorem dX11_readEvents_17 : decode cX11_readEvents 17 = .ok (.aload_n 0, 1) := by decide +kernel
theorem dX11_readEvents_18 : decode cX11_readEvents 18 = .ok (.aload_n 0, 1) := by decide +kernel
theorem dX11_readEvents_19 : decode cX11_readEvents 19 = .ok (.getfield 131, 3) := by decide +kernel
theorem dX11_readEvents_22 : decode cX11_readEvents 22 = .ok (.invokevirtual 140, 3) := by decide +kernel
theorem dX11_readEvents_25 : decode cX11_readEvents 25 = .ok (.bipush 97, 2) := by decide +kernel
theorem dX11_readEvents_27 : decode cX11_readEvents 27 = .ok (.isub, 1) := by decide +kernel
theorem dX11_readEvents_28 : decode cX11_readEvents 28 = .ok (.istore_n 2, 1) := by decide +kernel
theorem dX11_readEvents_29 : decode cX11_readEvents 29 = .ok (.aload_n 0, 1) := by decide +kernel
theorem dX11_readEvents_30 : decode cX11_readEvents 30 = .ok (.aload_n 0, 1) := by decide +kernel
theorem dX11_readEvents_31 : decode cX11_readEvents 31 = .ok (.getfield 137, 3) := by decide +kernel
theorem dX11_readEvents_34 : decode cX11_readEvents 34 = .ok (.aload_n 0, 1) := by decide +kernel
theorem dX11_readEvents_35 : decode cX11_readEvents 35 = .ok (.getfield 131, 3) := by decide +kernel
theorem dX11_readEvents_38 : decode cX11_readEvents 38 = .ok (.isub, 1) := by decide +kernel
theorem dX11_readEvents_39 : decode cX11_readEvents 39 = .ok (.iconst 1, 1) := by decide +kernel
theorem dX11_readEvents_40 : decode cX11_readEvents 40 = .ok (.if_icmp .ne 19, 3) := by decide +kernel
theorem dX11_readEvents_43 : decode cX11_readEvents 43 = .ok (.iload_n 2, 1) := by decide +kernel
theorem dX11_readEvents_44 : decode cX11_readEvents 44 = .ok (.i2l, 1) := by decide +kernel
theorem dX11_readEvents_45 : decode cX11_readEvents 45 = .ok (.lconst 0, 1) := by decide +kernel
theorem dX11_readEvents_46 : decode cX11_readEvents 46 = .ok (.ldc2_w 169, 3) := by decide +kernel
theorem dX11_readEvents_49 : decode cX11_readEvents 49 = .ok (.invokestatic 124, 3) := by decide +kernel
theorem dX11_readEvents_52 : decode cX11_readEvents 52 = .ok (.ifCond .eq 7, 3) := by decide +kernel
theorem dX11_readEvents_55 : decode cX11_readEvents 55 = .ok (.iconst 1, 1) := by decide +kernel
theorem dX11_readEvents_56 : decode cX11_readEvents 56 = .ok (.goto 4, 3) := by decide +kernel
theorem dX11_readEvents_59 : decode cX11_readEvents 59 = .ok (.iconst 0, 1) := by decide +kernel
theorem dX11_readEvents_60 : decode cX11_readEvents 60 = .ok (.iconst 3, 1) := by decide +kernel
theorem dX11_readEvents_61 : decode cX11_readEvents 61 = .ok (.invokevirtual 162, 3) := by decide +kernel
theorem dX11_readEvents_64 : decode cX11_readEvents 64 = .ok (.aload_n 0, 1) := by decide +kernel
theorem dX11_readEvents_65 : decode cX11_readEvents 65 = .ok (.getfield 128, 3) := by decide +kernel
theorem dX11_readEvents_68 : decode cX11_readEvents 68 = .ok (.ifCond .ne 21, 3) := by decide +kernel
theorem dX11_readEvents_71 : decode cX11_readEvents 71 = .ok (.aload_n 0, 1) := by decide +kernel
theorem dX11_readEvents_72 : decode cX11_readEvents 72 = .ok (.iload_n 1, 1) := by decide +kernel
theorem dX11_readEvents_73 : decode cX11_readEvents 73 = .ok (.iload_n 2, 1) := by decide +kernel
theorem dX11_readEvents_74 : decode cX11_readEvents 74 = .ok (.ishr, 1) := by decide +kernel
theorem dX11_readEvents_75 : decode cX11_readEvents 75 = .ok (.iconst 1, 1) := by decide +kernel
theorem dX11_readEvents_76 : decode cX11_readEvents 76 = .ok (.iand, 1) := by decide +kernel
theorem dX11_readEvents_77 : decode cX11_readEvents 77 = .ok (.ifCond .ne 7, 3) := by decide +kernel
theorem dX11_readEvents_80 : decode cX11_readEvents 80 = .ok (.iconst 1, 1) := by decide +kernel
theorem dX11_readEvents_81 : decode cX11_readEvents 81 = .ok (.goto 4, 3) := by decide +kernel
theorem dX11_readEvents_84 : decode cX11_readEvents 84 = .ok (.iconst 0, 1) := by decide +kernel
theorem dX11_readEvents_85 : decode cX11_readEvents 85 = .ok (.iconst 4, 1) := by decide +kernel
theorem dX11_readEvents_86 : decode cX11_readEvents 86 = .ok (.invokevirtual 162, 3) := by decide +kernel
theorem dX11_readEvents_89 : decode cX11_readEvents 89 = .ok (.aload_n 0, 1) := by decide +kernel
theorem dX11_readEvents_90 : decode cX11_readEvents 90 = .ok (.invokevirtual 166, 3) := by decide +kernel
theorem dX11_readEvents_93 : decode cX11_readEvents 93 = .ok (.aload_n 0, 1) := by decide +kernel
theorem dX11_readEvents_94 : decode cX11_readEvents 94 = .ok (.iconst 0, 1) := by decide +kernel
theorem dX11_readEvents_95 : decode cX11_readEvents 95 = .ok (.bipush 99, 2) := by decide +kernel
theorem dX11_readEvents_97 : decode cX11_readEvents 97 = .ok (.invokevirtual 171, 3) := by decide +kernel
theorem dX11_readEvents_100 : decode cX11_readEvents 100 = .ok (.istore_n 3, 1) := by decide +kernel
theorem dX11_readEvents_101 : decode cX11_readEvents 101 = .ok (.aload_n 0, 1) := by decide +kernel
theorem dX11_readEvents_102 : decode cX11_readEvents 102 = .ok (.getfield 128, 3) := by decide +kernel
theorem dX11_readEvents_105 : decode cX11_readEvents 105 = .ok (.ifCond .ne 24, 3) := by decide +kernel
theorem dX11_readEvents_108 : decode cX11_readEvents 108 = .ok (.iload_n 1, 1) := by decide +kernel
theorem dX11_readEvents_109 : decode cX11_readEvents 109 = .ok (.iconst 1, 1) := by decide +kernel
theorem dX11_readEvents_110 : decode cX11_readEvents 110 = .ok (.iload_n 2, 1) := by decide +kernel
theorem dX11_readEvents_111 : decode cX11_readEvents 111 = .ok (.ishl, 1) := by decide +kernel
theorem dX11_readEvents_112 : decode cX11_readEvents 112 = .ok (.ior, 1) := by decide +kernel
theorem dX11_readEvents_113 : decode cX11_readEvents 113 = .ok (.istore_n 1, 1) := by decide +kernel
theorem dX11_readEvents_114 : decode cX11_readEvents 114 = .ok (.aload_n 0, 1) := by decide +kernel
theorem dX11_readEvents_115 : decode cX11_readEvents 115 = .ok (.getfield 34, 3) := by decide +kernel
theorem dX11_readEvents_118 : decode cX11_readEvents 118 = .ok (.bipush 8, 2) := by decide +kernel
theorem dX11_readEvents_120 : decode cX11_readEvents 120 = .ok (.aload_n 0, 1) := by decide +kernel
theorem dX11_readEvents_121 : decode cX11_readEvents 121 = .ok (.getfield 175, 3) := by decide +kernel
theorem dX11_readEvents_124 : decode cX11_readEvents 124 = .ok (.imul, 1) := by decide +kernel
theorem dX11_readEvents_125 : decode cX11_readEvents 125 = .ok (.iload_n 2, 1) := by decide +kernel
theorem dX11_readEvents_126 : decode cX11_readEvents 126 = .ok (.iadd, 1) := by decide +kernel
theorem dX11_readEvents_127 : decode cX11_readEvents 127 = .ok (.iload_n 3, 1) := by decide +kernel
theorem dX11_readEvents_128 : decode cX11_readEvents 128 = .ok (.iastore, 1) := by decide +kernel
theorem dX11_readEvents_129 : decode cX11_readEvents 129 = .ok (.goto (-127), 3) := by decide +kernel
theorem dX11_readEvents_132 : decode cX11_readEvents 132 = .ok (.return_, 1) := by decide +kernel
theorem dX11_readLine_0 : decode cX11_readLine 0 = .ok (.aload_n 0, 1) := by decide +kernel
theorem dX11_readLine_1 : decode cX11_readLine 1 = .ok (.aload_n 0, 1) := by decide +kernel
theorem dX11_readLine_2 : decode cX11_readLine 2 = .ok (.getfield 175, 3) := by decide +kernel
theorem dX11_readLine_5 : decode cX11_readLine 5 = .ok (.bipush 16, 2) := by decide +kernel
theorem dX11_readLine_7 : decode cX11_readLine 7 = .ok (.if_icmp .ge 7, 3) := by decide +kernel
theorem dX11_readLine_10 : decode cX11_readLine 10 = .ok (.iconst 1, 1) := by decide +kernel
theorem dX11_readLine_11 : decode cX11_readLine 11 = .ok (.goto 4, 3) := by decide +kernel
theorem dX11_readLine_14 : decode cX11_readLine 14 = .ok (.iconst 0, 1) := by decide +kernel
theorem dX11_readLine_15 : decode cX11_readLine 15 = .ok (.iconst 5, 1) := by decide +kernel
theorem dX11_readLine_16 : decode cX11_readLine 16 = .ok (.invokevirtual 162, 3) := by decide +kernel
theorem dX11_readLine_19 : decode cX11_readLine 19 = .ok (.aload_n 0, 1) := by decide +kernel
theorem dX11_readLine_20 : decode cX11_readLine 20 = .ok (.invokevirtual 166, 3) := by decide +kernel
theorem dX11_readLine_23 : decode cX11_readLine 23 = .ok (.aload_n 0, 1) := by decide +kernel
theorem dX11_readLine_24 : decode cX11_readLine 24 = .ok (.iconst 1, 1) := by decide +kernel
theorem dX11_readLine_25 : decode cX11_readLine 25 = .ok (.bipush 20, 2) := by decide +kernel
theorem dX11_readLine_27 : decode cX11_readLine 27 = .ok (.invokevirtual 171, 3) := by decide +kernel
theorem dX11_readLine_30 : decode cX11_readLine 30 = .ok (.istore_n 1, 1) := by decide +kernel
theorem dX11_readLine_31 : decode cX11_readLine 31 = .ok (.iconst 0, 1) := by decide +kernel
theorem dX11_readLine_32 : decode cX11_readLine 32 = .ok (.istore_n 2, 1) := by decide +kernel
theorem dX11_readLine_33 : decode cX11_readLine 33 = .ok (.iload_n 2, 1) := by decide +kernel
theorem dX11_readLine_34 : decode cX11_readLine 34 = .ok (.bipush 8, 2) := by decide +kernel
theorem dX11_readLine_36 : decode cX11_readLine 36 = .ok (.if_icmp .ge 31, 3) := by decide +kernel
theorem dX11_readLine_39 : decode cX11_readLine 39 = .ok (.aload_n 0, 1) := by decide +kernel
theorem dX11_readLine_40 : decode cX11_readLine 40 = .ok (.getfield 128, 3) := by decide +kernel
theorem dX11_readLine_43 : decode cX11_readLine 43 = .ok (.ifCond .ne 24, 3) := by decide +kernel
theorem dX11_readLine_46 : decode cX11_readLine 46 = .ok (.aload_n 0, 1) := by decide +kernel
theorem dX11_readLine_47 : decode cX11_readLine 47 = .ok (.getfield 34, 3) := by decide +kernel
theorem dX11_readLine_50 : decode cX11_readLine 50 = .ok (.bipush 8, 2) := by decide +kernel
theorem dX11_readLine_52 : decode cX11_readLine 52 = .ok (.aload_n 0, 1) := by decide +kernel
theorem dX11_readLine_53 : decode cX11_readLine 53 = .ok (.getfield 175, 3) := by decide +kernel
theorem dX11_readLine_56 : decode cX11_readLine 56 = .ok (.imul, 1) := by decide +kernel
theorem dX11_readLine_57 : decode cX11_readLine 57 = .ok (.iload_n 2, 1) := by decide +kernel
theorem dX11_readLine_58 : decode cX11_readLine 58 = .ok (.iadd, 1) := by decide +kernel
theorem dX11_readLine_59 : decode cX11_readLine 59 = .ok (.iconst 0, 1) := by decide +kernel
theorem dX11_readLine_60 : decode cX11_readLine 60 = .ok (.iastore, 1) := by decide +kernel
theorem dX11_readLine_61 : decode cX11_readLine 61 = .ok (.iinc 2 1, 3) := by decide +kernel
theorem dX11_readLine_64 : decode cX11_readLine 64 = .ok (.goto (-31), 3) := by decide +kernel
theorem dX11_readLine_67 : decode cX11_readLine 67 = .ok (.aload_n 0, 1) := by decide +kernel
theorem dX11_readLine_68 : decode cX11_readLine 68 = .ok (.invokevirtual 178, 3) := by decide +kernel
theorem dX11_readLine_71 : decode cX11_readLine 71 = .ok (.aload_n 0, 1) := by decide +kernel
theorem dX11_readLine_72 : decode cX11_readLine 72 = .ok (.getfield 128, 3) := by decide +kernel
theorem dX11_readLine_75 : decode cX11_readLine 75 = .ok (.ifCond .ne 78, 3) := by decide +kernel
theorem dX11_readLine_78 : decode cX11_readLine 78 = .ok (.aload_n 0, 1) := by decide +kernel
theorem dX11_readLine_79 : decode cX11_readLine 79 = .ok (.getfield 31, 3) := by decide +kernel
theorem dX11_readLine_82 : decode cX11_readLine 82 = .ok (.aload_n 0, 1) := by decide +kernel
theorem dX11_readLine_83 : decode cX11_readLine 83 = .ok (.getfield 175, 3) := by decide +kernel
theorem dX11_readLine_86 : decode cX11_readLine 86 = .ok (.iload_n 1, 1) := by decide +kernel
theorem dX11_readLine_87 : decode cX11_readLine 87 = .ok (.iastore, 1) := by decide +kernel
theorem dX11_readLine_88 : decode cX11_readLine 88 = .ok (.aload_n 0, 1) := by decide +kernel
theorem dX11_readLine_89 : decode cX11_readLine 89 = .ok (.getfield 37, 3) := by decide +kernel
theorem dX11_readLine_92 : decode cX11_readLine 92 = .ok (.aload_n 0, 1) := by decide +kernel
theorem dX11_readLine_93 : decode cX11_readLine 93 = .ok (.getfield 175, 3) := by decide +kernel
theorem dX11_readLine_96 : decode cX11_readLine 96 = .ok (.aload_n 0, 1) := by decide +kernel
theorem dX11_readLine_97 : decode cX11_readLine 97 = .ok (.getfield 181, 3) := by decide +kernel
theorem dX11_readLine_100 : decode cX11_readLine 100 = .ok (.ifCond .ne 8, 3) := by decide +kernel
theorem dX11_readLine_103 : decode cX11_readLine 103 = .ok (.bipush (-4), 2) := by decide +kernel
theorem dX11_readLine_105 : decode cX11_readLine 105 = .ok (.goto 14, 3) := by decide +kernel
theorem dX11_readLine_108 : decode cX11_readLine 108 = .ok (.aload_n 0, 1) := by decide +kernel
theorem dX11_readLine_109 : decode cX11_readLine 109 = .ok (.getfield 46, 3) := by decide +kernel
theorem dX11_readLine_112 : decode cX11_readLine 112 = .ok (.aload_n 0, 1) := by decide +kernel
theorem dX11_readLine_113 : decode cX11_readLine 113 = .ok (.getfield 181, 3) := by decide +kernel
theorem dX11_readLine_116 : decode cX11_readLine 116 = .ok (.iconst 1, 1) := by decide +kernel
theorem dX11_readLine_117 : decode cX11_readLine 117 = .ok (.isub, 1) := by decide +kernel
theorem dX11_readLine_118 : decode cX11_readLine 118 = .ok (.iaload, 1) := by decide +kernel
theorem dX11_readLine_119 : decode cX11_readLine 119 = .ok (.iastore, 1) := by decide +kernel
theorem dX11_readLine_120 : decode cX11_readLine 120 = .ok (.aload_n 0, 1) := by decide +kernel
theorem dX11_readLine_121 : decode cX11_readLine 121 = .ok (.getfield 52, 3) := by decide +kernel
theorem dX11_readLine_124 : decode cX11_readLine 124 = .ok (.aload_n 0, 1) := by decide +kernel
theorem dX11_readLine_125 : decode cX11_readLine 125 = .ok (.getfield 184, 3) := by decide +kernel
theorem dX11_readLine_128 : decode cX11_readLine 128 = .ok (.aload_n 0, 1) := by decide +kernel
theorem dX11_readLine_129 : decode cX11_readLine 129 = .ok (.getfield 175, 3) := by decide +kernel
theorem dX11_readLine_132 : decode cX11_readLine 132 = .ok (.iastore, 1) := by decide +kernel
theorem dX11_readLine_133 : decode cX11_readLine 133 = .ok (.aload_n 0, 1) := by decide +kernel
theorem dX11_readLine_134 : decode cX11_readLine 134 = .ok (.dup, 1) := by decide +kernel
theorem dX11_readLine_135 : decode cX11_readLine 135 = .ok (.getfield 184, 3) := by decide +kernel
theorem dX11_readLine_138 : decode cX11_readLine 138 = .ok (.iconst 1, 1) := by decide +kernel
theorem dX11_readLine_139 : decode cX11_readLine 139 = .ok (.iadd, 1) := by decide +kernel
theorem dX11_readLine_140 : decode cX11_readLine 140 = .ok (.putfield 184, 3) := by decide +kernel
theorem dX11_readLine_143 : decode cX11_readLine 143 = .ok (.aload_n 0, 1) := by decide +kernel
theorem dX11_readLine_144 : decode cX11_readLine 144 = .ok (.dup, 1) := by decide +kernel
theorem dX11_readLine_145 : decode cX11_readLine 145 = .ok (.getfield 175, 3) := by decide +kernel
theorem dX11_readLine_148 : decode cX11_readLine 148 = .ok (.iconst 1, 1) := by decide +kernel
theorem dX11_readLine_149 : decode cX11_readLine 149 = .ok (.iadd, 1) := by decide +kernel
theorem dX11_readLine_150 : decode cX11_readLine 150 = .ok (.putfield 175, 3) := by decide +kernel
theorem dX11_readLine_153 : decode cX11_readLine 153 = .ok (.return_, 1) := by decide +kernel
theorem dX11_readLoop_0 : decode cX11_readLoop 0 = .ok (.aload_n 0, 1) := by decide +kernel
theorem dX11_readLoop_1 : decode cX11_readLoop 1 = .ok (.aload_n 0, 1) := by decide +kernel
theorem dX11_readLoop_2 : decode cX11_readLoop 2 = .ok (.getfield 181, 3) := by decide +kernel
theorem dX11_readLoop_5 : decode cX11_readLoop 5 = .ok (.iconst 4, 1) := by decide +kernel
theorem dX11_readLoop_6 : decode cX11_readLoop 6 = .ok (.if_icmp .ge 7, 3) := by decide +kernel
theorem dX11_readLoop_9 : decode cX11_readLoop 9 = .ok (.iconst 1, 1) := by decide +kernel
theorem dX11_readLoop_10 : decode cX11_readLoop 10 = .ok (.goto 4, 3) := by decide +kernel
theorem dX11_readLoop_13 : decode cX11_readLoop 13 = .ok (.iconst 0, 1) := by decide +kernel
theorem dX11_readLoop_14 : decode cX11_readLoop 14 = .ok (.iconst 5, 1) := by decide +kernel
theorem dX11_readLoop_15 : decode cX11_readLoop 15 = .ok (.invokevirtual 162, 3) := by decide +kernel
theorem dX11_readLoop_18 : decode cX11_readLoop 18 = .ok (.aload_n 0, 1) := by decide +kernel
theorem dX11_readLoop_19 : decode cX11_readLoop 19 = .ok (.invokevirtual 166, 3) := by decide +kernel
theorem dX11_readLoop_22 : decode cX11_readLoop 22 = .ok (.aload_n 0, 1) := by decide +kernel
theorem dX11_readLoop_23 : decode cX11_readLoop 23 = .ok (.iconst 1, 1) := by decide +kernel
theorem dX11_readLoop_24 : decode cX11_readLoop 24 = .ok (.bipush 99, 2) := by decide +kernel
theorem dX11_readLoop_26 : decode cX11_readLoop 26 = .ok (.invokevirtual 171, 3) := by decide +kernel
theorem dX11_readLoop_29 : decode cX11_readLoop 29 = .ok (.istore_n 1, 1) := by decide +kernel
theorem dX11_readLoop_30 : decode cX11_readLoop 30 = .ok (.aload_n 0, 1) := by decide +kernel
theorem dX11_readLoop_31 : decode cX11_readLoop 31 = .ok (.getfield 128, 3) := by decide +kernel
theorem dX11_readLoop_34 : decode cX11_readLoop 34 = .ok (.ifCond .ne 104, 3) := by decide +kernel
theorem dX11_readLoop_37 : decode cX11_readLoop 37 = .ok (.aload_n 0, 1) := by decide +kernel
theorem dX11_readLoop_38 : decode cX11_readLoop 38 = .ok (.getfield 40, 3) := by decide +kernel
theorem dX11_readLoop_41 : decode cX11_readLoop 41 = .ok (.aload_n 0, 1) := by decide +kernel
theorem dX11_readLoop_42 : decode cX11_readLoop 42 = .ok (.getfield 187, 3) := by decide +kernel
theorem dX11_readLoop_45 : decode cX11_readLoop 45 = .ok (.iload_n 1, 1) := by decide +kernel
theorem dX11_readLoop_46 : decode cX11_readLoop 46 = .ok (.iastore, 1) := by decide +kernel
theorem dX11_readLoop_47 : decode cX11_readLoop 47 = .ok (.aload_n 0, 1) := by decide +kernel
theorem dX11_readLoop_48 : decode cX11_readLoop 48 = .ok (.getfield 43, 3) := by decide +kernel
theorem dX11_readLoop_51 : decode cX11_readLoop 51 = .ok (.aload_n 0, 1) := by decide +kernel
theorem dX11_readLoop_52 : decode cX11_readLoop 52 = .ok (.getfield 187, 3) := by decide +kernel
theorem dX11_readLoop_55 : decode cX11_readLoop 55 = .ok (.aload_n 0, 1) := by decide +kernel
theorem dX11_readLoop_56 : decode cX11_readLoop 56 = .ok (.getfield 181, 3) := by decide +kernel
theorem dX11_readLoop_59 : decode cX11_readLoop 59 = .ok (.ifCond .ne 8, 3) := by decide +kernel
theorem dX11_readLoop_62 : decode cX11_readLoop 62 = .ok (.bipush (-4), 2) := by decide +kernel
theorem dX11_readLoop_64 : decode cX11_readLoop 64 = .ok (.goto 14, 3) := by decide +kernel
theorem dX11_readLoop_67 : decode cX11_readLoop 67 = .ok (.aload_n 0, 1) := by decide +kernel
theorem dX11_readLoop_68 : decode cX11_readLoop 68 = .ok (.getfield 46, 3) := by decide +kernel
theorem dX11_readLoop_71 : decode cX11_readLoop 71 = .ok (.aload_n 0, 1) := by decide +kernel
theorem dX11_readLoop_72 : decode cX11_readLoop 72 = .ok (.getfield 181, 3) := by decide +kernel
theorem dX11_readLoop_75 : decode cX11_readLoop 75 = .ok (.iconst 1, 1) := by decide +kernel
theorem dX11_readLoop_76 : decode cX11_readLoop 76 = .ok (.isub, 1) := by decide +kernel
theorem dX11_readLoop_77 : decode cX11_readLoop 77 = .ok (.iaload, 1) := by decide +kernel
theorem dX11_readLoop_78 : decode cX11_readLoop 78 = .ok (.iastore, 1) := by decide +kernel
theorem dX11_readLoop_79 : decode cX11_readLoop 79 = .ok (.aload_n 0, 1) := by decide +kernel
theorem dX11_readLoop_80 : decode cX11_readLoop 80 = .ok (.getfield 46, 3) := by decide +kernel
theorem dX11_readLoop_83 : decode cX11_readLoop 83 = .ok (.aload_n 0, 1) := by decide +kernel
theorem dX11_readLoop_84 : decode cX11_readLoop 84 = .ok (.getfield 181, 3) := by decide +kernel
theorem dX11_readLoop_87 : decode cX11_readLoop 87 = .ok (.aload_n 0, 1) := by decide +kernel
theorem dX11_readLoop_88 : decode cX11_readLoop 88 = .ok (.getfield 187, 3) := by decide +kernel
theorem dX11_readLoop_91 : decode cX11_readLoop 91 = .ok (.iastore, 1) := by decide +kernel
theorem dX11_readLoop_92 : decode cX11_readLoop 92 = .ok (.aload_n 0, 1) := by decide +kernel
theorem dX11_readLoop_93 : decode cX11_readLoop 93 = .ok (.getfield 52, 3) := by decide +kernel
theorem dX11_readLoop_96 : decode cX11_readLoop 96 = .ok (.aload_n 0, 1) := by decide +kernel
theorem dX11_readLoop_97 : decode cX11_readLoop 97 = .ok (.getfield 184, 3) := by decide +kernel
theorem dX11_readLoop_100 : decode cX11_readLoop 100 = .ok (.bipush 100, 2) := by decide +kernel
theorem dX11_readLoop_102 : decode cX11_readLoop 102 = .ok (.aload_n 0, 1) := by decide +kernel
theorem dX11_readLoop_103 : decode cX11_readLoop 103 = .ok (.getfield 187, 3) := by decide +kernel
theorem dX11_readLoop_106 : decode cX11_readLoop 106 = .ok (.iadd, 1) := by decide +kernel
theorem dX11_readLoop_107 : decode cX11_readLoop 107 = .ok (.iastore, 1) := by decide +kernel
theorem dX11_readLoop_108 : decode cX11_readLoop 108 = .ok (.aload_n 0, 1) := by decide +kernel
theorem dX11_readLoop_109 : decode cX11_readLoop 109 = .ok (.dup, 1) := by decide +kernel
theorem dX11_readLoop_110 : decode cX11_readLoop 110 = .ok (.getfield 184, 3) := by decide +kernel
theorem dX11_readLoop_113 : decode cX11_readLoop 113 = .ok (.iconst 1, 1) := by decide +kernel
theorem dX11_readLoop_114 : decode cX11_readLoop 114 = .ok (.iadd, 1) := by decide +kernel
theorem dX11_readLoop_115 : decode cX11_readLoop 115 = .ok (.putfield 184, 3) := by decide +kernel
theorem dX11_readLoop_118 : decode cX11_readLoop 118 = .ok (.aload_n 0, 1) := by decide +kernel
theorem dX11_readLoop_119 : decode cX11_readLoop 119 = .ok (.dup, 1) := by decide +kernel
theorem dX11_readLoop_120 : decode cX11_readLoop 120 = .ok (.getfield 187, 3) := by decide +kernel
theorem dX11_readLoop_123 : decode cX11_readLoop 123 = .ok (.iconst 1, 1) := by decide +kernel
theorem dX11_readLoop_124 : decode cX11_readLoop 124 = .ok (.iadd, 1) := by decide +kernel
theorem dX11_readLoop_125 : decode cX11_readLoop 125 = .ok (.putfield 187, 3) := by decide +kernel
theorem dX11_readLoop_128 : decode cX11_readLoop 128 = .ok (.aload_n 0, 1) := by decide +kernel
theorem dX11_readLoop_129 : decode cX11_readLoop 129 = .ok (.dup, 1) := by decide +kernel
theorem dX11_readLoop_130 : decode cX11_readLoop 130 = .ok (.getfield 181, 3) := by decide +kernel
theorem dX11_readLoop_133 : decode cX11_readLoop 133 = .ok (.iconst 1, 1) := by decide +kernel
theorem dX11_readLoop_134 : decode cX11_readLoop 134 = .ok (.iadd, 1) := by decide +kernel
theorem dX11_readLoop_135 : decode cX11_readLoop 135 = .ok (.putfield 181, 3) := by decide +kernel
theorem dX11_readLoop_138 : decode cX11_readLoop 138 = .ok (.return_, 1) := by decide +kernel
theorem dX11_readEnd_0 : decode cX11_readEnd 0 = .ok (.aload_n 0, 1) := by decide +kernel
theorem dX11_readEnd_1 : decode cX11_readEnd 1 = .ok (.aload_n 0, 1) := by decide +kernel
theorem dX11_readEnd_2 : decode cX11_readEnd 2 = .ok (.getfield 181, 3) := by decide +kernel
theorem dX11_readEnd_5 : decode cX11_readEnd 5 = .ok (.ifCond .le 7, 3) := by decide +kernel
theorem dX11_readEnd_8 : decode cX11_readEnd 8 = .ok (.iconst 1, 1) := by decide +kernel
theorem dX11_readEnd_9 : decode cX11_readEnd 9 = .ok (.goto 4, 3) := by decide +kernel
theorem dX11_readEnd_12 : decode cX11_readEnd 12 = .ok (.iconst 0, 1) := by decide +kernel
theorem dX11_readEnd_13 : decode cX11_readEnd 13 = .ok (.iconst 2, 1) := by decide +kernel
theorem dX11_readEnd_14 : decode cX11_readEnd 14 = .ok (.invokevirtual 162, 3) := by decide +kernel
theorem dX11_readEnd_17 : decode cX11_readEnd 17 = .ok (.aload_n 0, 1) := by decide +kernel
theorem dX11_readEnd_18 : decode cX11_readEnd 18 = .ok (.getfield 128, 3) := by decide +kernel
theorem dX11_readEnd_21 : decode cX11_readEnd 21 = .ok (.ifCond .ne 45, 3) := by decide +kernel
theorem dX11_readEnd_24 : decode cX11_readEnd 24 = .ok (.aload_n 0, 1) := by decide +kernel
theorem dX11_readEnd_25 : decode cX11_readEnd 25 = .ok (.dup, 1) := by decide +kernel
theorem dX11_readEnd_26 : decode cX11_readEnd 26 = .ok (.getfield 181, 3) := by decide +kernel
theorem dX11_readEnd_29 : decode cX11_readEnd 29 = .ok (.iconst 1, 1) := by decide +kernel
theorem dX11_readEnd_30 : decode cX11_readEnd 30 = .ok (.isub, 1) := by decide +kernel
theorem dX11_readEnd_31 : decode cX11_readEnd 31 = .ok (.putfield 181, 3) := by decide +kernel
theorem dX11_readEnd_34 : decode cX11_readEnd 34 = .ok (.aload_n 0, 1) := by decide +kernel
theorem dX11_readEnd_35 : decode cX11_readEnd 35 = .ok (.getfield 52, 3) := by decide +kernel
theorem dX11_readEnd_38 : decode cX11_readEnd 38 = .ok (.aload_n 0, 1) := by decide +kernel
theorem dX11_readEnd_39 : decode cX11_readEnd 39 = .ok (.getfield 184, 3) := by decide +kernel
theorem dX11_readEnd_42 : decode cX11_readEnd 42 = .ok (.sipush 200, 3) := by decide +kernel
theorem dX11_readEnd_45 : decode cX11_readEnd 45 = .ok (.aload_n 0, 1) := by decide +kernel
theorem dX11_readEnd_46 : decode cX11_readEnd 46 = .ok (.getfield 46, 3) := by decide +kernel
theorem dX11_readEnd_49 : decode cX11_readEnd 49 = .ok (.aload_n 0, 1) := by decide +kernel
theorem dX11_readEnd_50 : decode cX11_readEnd 50 = .ok (.getfield 181, 3) := by decide +kernel
theorem dX11_readEnd_53 : decode cX11_readEnd 53 = .ok (.iaload, 1) := by decide +kernel
theorem dX11_readEnd_54 : decode cX11_readEnd 54 = .ok (.iadd, 1) := by decide +kernel
theorem dX11_readEnd_55 : decode cX11_readEnd 55 = .ok (.iastore, 1) := by decide +kernel
theorem dX11_readEnd_56 : decode cX11_readEnd 56 = .ok (.aload_n 0, 1) := by decide +kernel
theorem dX11_readEnd_57 : decode cX11_readEnd 57 = .ok (.dup, 1) := by decide +kernel
theorem dX11_readEnd_58 : decode cX11_readEnd 58 = .ok (.getfield 184, 3) := by decide +kernel
theorem dX11_readEnd_61 : decode cX11_readEnd 61 = .ok (.iconst 1, 1) := by decide +kernel
theorem dX11_readEnd_62 : decode cX11_readEnd 62 = .ok (.iadd, 1) := by decide +kernel
theorem dX11_readEnd_63 : decode cX11_readEnd 63 = .ok (.putfield 184, 3) := by decide +kernel
theorem dX11_readEnd_66 : decode cX11_readEnd 66 = .ok (.aload_n 0, 1) := by decide +kernel
theorem dX11_readEnd_67 : decode cX11_readEnd 67 = .ok (.invokevirtual 166, 3) := by decide +kernel
theorem dX11_readEnd_70 : decode cX11_readEnd 70 = .ok (.return_, 1) := by decide +kernel
theorem dX11_readItem_0 : decode cX11_readItem 0 = .ok (.aload_n 0, 1) := by decide +kernel
theorem dX11_readItem_1 : decode cX11_readItem 1 = .ok (.getfield 148, 3) := by decide +kernel
theorem dX11_readItem_4 : decode cX11_readItem 4 = .ok (.iconst 1, 1) := by decide +kernel
theorem dX11_readItem_5 : decode cX11_readItem 5 = .ok (.if_icmp .ne 10, 3) := by decide +kernel
theorem dX11_readItem_8 : decode cX11_readItem 8 = .ok (.aload_n 0, 1) := by decide +kernel
theorem dX11_readItem_9 : decode cX11_readItem 9 = .ok (.invokevirtual 190, 3) := by decide +kernel
theorem dX11_readItem_12 : decode cX11_readItem 12 = .ok (.goto 5, 3) := by decide +kernel
theorem dX11_readItem_15 : decode cX11_readItem 15 = .ok (.bipush (-4), 2) := by decide +kernel
theorem dX11_readItem_17 : decode cX11_readItem 17 = .ok (.istore_n 1, 1) := by decide +kernel
theorem dX11_readItem_18 : decode cX11_readItem 18 = .ok (.aload_n 0, 1) := by decide +kernel
theorem dX11_readItem_19 : decode cX11_readItem 19 = .ok (.iload_n 1, 1) := by decide +kernel
theorem dX11_readItem_20 : decode cX11_readItem 20 = .ok (.bipush (-4), 2) := by decide +kernel
theorem dX11_readItem_22 : decode cX11_readItem 22 = .ok (.if_icmp .eq 7, 3) := by decide +kernel
theorem dX11_readItem_25 : decode cX11_readItem 25 = .ok (.iconst 1, 1) := by decide +kernel
theorem dX11_readItem_26 : decode cX11_readItem 26 = .ok (.goto 4, 3) := by decide +kernel
theorem dX11_readItem_29 : decode cX11_readItem 29 = .ok (.iconst 0, 1) := by decide +kernel
theorem dX11_readItem_30 : decode cX11_readItem 30 = .ok (.iconst 2, 1) := by decide +kernel
theorem dX11_readItem_31 : decode cX11_readItem 31 = .ok (.invokevirtual 162, 3) := by decide +kernel
theorem dX11_readItem_34 : decode cX11_readItem 34 = .ok (.iload_n 1, 1) := by decide +kernel
theorem dX11_readItem_35 : decode cX11_readItem 35 = .ok (.ifCond .ne 10, 3) := by decide +kernel
theorem dX11_readItem_38 : decode cX11_readItem 38 = .ok (.aload_n 0, 1) := by decide +kernel
theorem dX11_readItem_39 : decode cX11_readItem 39 = .ok (.invokevirtual 194, 3) := by decide +kernel
theorem dX11_readItem_42 : decode cX11_readItem 42 = .ok (.goto 24, 3) := by decide +kernel
theorem dX11_readItem_45 : decode cX11_readItem 45 = .ok (.iload_n 1, 1) := by decide +kernel
theorem dX11_readItem_46 : decode cX11_readItem 46 = .ok (.iconst 1, 1) := by decide +kernel
theorem dX11_readItem_47 : decode cX11_readItem 47 = .ok (.if_icmp .ne 10, 3) := by decide +kernel
theorem dX11_readItem_50 : decode cX11_readItem 50 = .ok (.aload_n 0, 1) := by decide +kernel
theorem dX11_readItem_51 : decode cX11_readItem 51 = .ok (.invokevirtual 197, 3) := by decide +kernel
theorem dX11_readItem_54 : decode cX11_readItem 54 = .ok (.goto 12, 3) := by decide +kernel
theorem dX11_readItem_57 : decode cX11_readItem 57 = .ok (.iload_n 1, 1) := by decide +kernel
theorem dX11_readItem_58 : decode cX11_readItem 58 = .ok (.iconst 2, 1) := by decide +kernel
theorem dX11_readItem_59 : decode cX11_readItem 59 = .ok (.if_icmp .ne 7, 3) := by decide +kernel
theorem dX11_readItem_62 : decode cX11_readItem 62 = .ok (.aload_n 0, 1) := by decide +kernel
theorem dX11_readItem_63 : decode cX11_readItem 63 = .ok (.invokevirtual 200, 3) := by decide +kernel
theorem dX11_readItem_66 : decode cX11_readItem 66 = .ok (.aload_n 0, 1) := by decide +kernel
theorem dX11_readItem_67 : decode cX11_readItem 67 = .ok (.getfield 128, 3) := by decide +kernel
theorem dX11_readItem_70 : decode cX11_readItem 70 = .ok (.ifCond .ne 21, 3) := by decide +kernel
theorem dX11_readItem_73 : decode cX11_readItem 73 = .ok (.aload_n 0, 1) := by decide +kernel
theorem dX11_readItem_74 : decode cX11_readItem 74 = .ok (.aload_n 0, 1) := by decide +kernel
theorem dX11_readItem_75 : decode cX11_readItem 75 = .ok (.getfield 148, 3) := by decide +kernel
theorem dX11_readItem_78 : decode cX11_readItem 78 = .ok (.iconst 3, 1) := by decide +kernel
theorem dX11_readItem_79 : decode cX11_readItem 79 = .ok (.if_icmp .ne 7, 3) := by decide +kernel
theorem dX11_readItem_82 : decode cX11_readItem 82 = .ok (.iconst 1, 1) := by decide +kernel
theorem dX11_readItem_83 : decode cX11_readItem 83 = .ok (.goto 4, 3) := by decide +kernel
theorem dX11_readItem_86 : decode cX11_readItem 86 = .ok (.iconst 0, 1) := by decide +kernel
theorem dX11_readItem_87 : decode cX11_readItem 87 = .ok (.iconst 2, 1) := by decide +kernel
theorem dX11_readItem_88 : decode cX11_readItem 88 = .ok (.invokevirtual 162, 3) := by decide +kernel
theorem dX11_readItem_91 : decode cX11_readItem 91 = .ok (.aload_n 0, 1) := by decide +kernel
theorem dX11_readItem_92 : decode cX11_readItem 92 = .ok (.invokevirtual 166, 3) := by decide +kernel
theorem dX11_readItem_95 : decode cX11_readItem 95 = .ok (.return_, 1) := by decide +kernel
theorem dX11_dTimes_0 : decode cX11_dTimes 0 = .ok (.lconst 1, 1) := by decide +kernel
theorem dX11_dTimes_1 : decode cX11_dTimes 1 = .ok (.lstore_n 2, 1) := by decide +kernel
theorem dX11_dTimes_2 : decode cX11_dTimes 2 = .ok (.aload_n 0, 1) := by decide +kernel
theorem dX11_dTimes_3 : decode cX11_dTimes 3 = .ok (.getfield 37, 3) := by decide +kernel
theorem dX11_dTimes_6 : decode cX11_dTimes 6 = .ok (.iload_n 1, 1) := by decide +kernel
theorem dX11_dTimes_7 : decode cX11_dTimes 7 = .ok (.iaload, 1) := by decide +kernel
theorem dX11_dTimes_8 : decode cX11_dTimes 8 = .ok (.istore 4, 2) := by decide +kernel
theorem dX11_dTimes_10 : decode cX11_dTimes 10 = .ok (.iload 4, 2) := by decide +kernel
theorem dX11_dTimes_12 : decode cX11_dTimes 12 = .ok (.bipush (-4), 2) := by decide +kernel
theorem dX11_dTimes_14 : decode cX11_dTimes 14 = .ok (.if_icmp .eq 26, 3) := by decide +kernel
theorem dX11_dTimes_17 : decode cX11_dTimes 17 = .ok (.lload_n 2, 1) := by decide +kernel
theorem dX11_dTimes_18 : decode cX11_dTimes 18 = .ok (.aload_n 0, 1) := by decide +kernel
theorem dX11_dTimes_19 : decode cX11_dTimes 19 = .ok (.getfield 40, 3) := by decide +kernel
theorem dX11_dTimes_22 : decode cX11_dTimes 22 = .ok (.iload 4, 2) := by decide +kernel
theorem dX11_dTimes_24 : decode cX11_dTimes 24 = .ok (.iaload, 1) := by decide +kernel
theorem dX11_dTimes_25 : decode cX11_dTimes 25 = .ok (.i2l, 1) := by decide +kernel
theorem dX11_dTimes_26 : decode cX11_dTimes 26 = .ok (.lmul, 1) := by decide +kernel
theorem dX11_dTimes_27 : decode cX11_dTimes 27 = .ok (.lstore_n 2, 1) := by decide +kernel
theorem dX11_dTimes_28 : decode cX11_dTimes 28 = .ok (.aload_n 0, 1) := by decide +kernel
theorem dX11_dTimes_29 : decode cX11_dTimes 29 = .ok (.getfield 43, 3) := by decide +kernel
theorem dX11_dTimes_32 : decode cX11_dTimes 32 = .ok (.iload 4, 2) := by decide +kernel
theorem dX11_dTimes_34 : decode cX11_dTimes 34 = .ok (.iaload, 1) := by decide +kernel
theorem dX11_dTimes_35 : decode cX11_dTimes 35 = .ok (.istore 4, 2) := by decide +kernel
theorem dX11_dTimes_37 : decode cX11_dTimes 37 = .ok (.goto (-27), 3) := by decide +kernel
theorem dX11_dTimes_40 : decode cX11_dTimes 40 = .ok (.lload_n 2, 1) := by decide +kernel
theorem dX11_dTimes_41 : decode cX11_dTimes 41 = .ok (.lreturn, 1) := by decide +kernel
theorem dX11_keepProgram_0 : decode cX11_keepProgram 0 = .ok (.aload_n 0, 1) := by decide +kernel
theorem dX11_keepProgram_1 : decode cX11_keepProgram 1 = .ok (.aload_n 0, 1) := by decide +kernel
theorem dX11_keepProgram_2 : decode cX11_keepProgram 2 = .ok (.getfield 175, 3) := by decide +kernel
theorem dX11_keepProgram_5 : decode cX11_keepProgram 5 = .ok (.putfield 203, 3) := by decide +kernel
theorem dX11_keepProgram_8 : decode cX11_keepProgram 8 = .ok (.aload_n 0, 1) := by decide +kernel
theorem dX11_keepProgram_9 : decode cX11_keepProgram 9 = .ok (.aload_n 0, 1) := by decide +kernel
theorem dX11_keepProgram_10 : decode cX11_keepProgram 10 = .ok (.getfield 187, 3) := by decide +kernel
theorem dX11_keepProgram_13 : decode cX11_keepProgram 13 = .ok (.putfield 206, 3) := by decide +kernel
theorem dX11_keepProgram_16 : decode cX11_keepProgram 16 = .ok (.aload_n 0, 1) := by decide +kernel
theorem dX11_keepProgram_17 : decode cX11_keepProgram 17 = .ok (.aload_n 0, 1) := by decide +kernel
theorem dX11_keepProgram_18 : decode cX11_keepProgram 18 = .ok (.getfield 184, 3) := by decide +kernel
theorem dX11_keepProgram_21 : decode cX11_keepProgram 21 = .ok (.putfield 209, 3) := by decide +kernel
theorem dX11_keepProgram_24 : decode cX11_keepProgram 24 = .ok (.aload_n 0, 1) := by decide +kernel
theorem dX11_keepProgram_25 : decode cX11_keepProgram 25 = .ok (.iconst 0, 1) := by decide +kernel
theorem dX11_keepProgram_26 : decode cX11_keepProgram 26 = .ok (.putfield 212, 3) := by decide +kernel
theorem dX11_keepProgram_29 : decode cX11_keepProgram 29 = .ok (.iconst 0, 1) := by decide +kernel
theorem dX11_keepProgram_30 : decode cX11_keepProgram 30 = .ok (.istore_n 1, 1) := by decide +kernel
theorem dX11_keepProgram_31 : decode cX11_keepProgram 31 = .ok (.iload_n 1, 1) := by decide +kernel
theorem dX11_keepProgram_32 : decode cX11_keepProgram 32 = .ok (.aload_n 0, 1) := by decide +kernel
theorem dX11_keepProgram_33 : decode cX11_keepProgram 33 = .ok (.getfield 203, 3) := by decide +kernel
theorem dX11_keepProgram_36 : decode cX11_keepProgram 36 = .ok (.if_icmp .ge 67, 3) := by decide +kernel
