theorem dX8_init_0 : decode cX8_init 0 = .ok (.aload_n 0, 1) := by decide +kernel
theorem dX8_init_1 : decode cX8_init 1 = .ok (.invokespecial 1, 3) := by decide +kernel
theorem dX8_init_4 : decode cX8_init 4 = .ok (.aload_n 0, 1) := by decide +kernel
theorem dX8_init_5 : decode cX8_init 5 = .ok (.sipush 320, 3) := by decide +kernel
theorem dX8_init_8 : decode cX8_init 8 = .ok (.newarray .byte, 2) := by decide +kernel
theorem dX8_init_10 : decode cX8_init 10 = .ok (.putfield 9, 3) := by decide +kernel
theorem dX8_init_13 : decode cX8_init 13 = .ok (.aload_n 0, 1) := by decide +kernel
theorem dX8_init_14 : decode cX8_init 14 = .ok (.iconst 0, 1) := by decide +kernel
theorem dX8_init_15 : decode cX8_init 15 = .ok (.putfield 13, 3) := by decide +kernel
theorem dX8_init_18 : decode cX8_init 18 = .ok (.return_, 1) := by decide +kernel
theorem dX3_init_0 : decode cX3_init 0 = .ok (.aload_n 0, 1) := by decide +kernel
theorem dX3_init_1 : decode cX3_init 1 = .ok (.invokespecial 3, 3) := by decide +kernel
theorem dX3_init_4 : decode cX3_init 4 = .ok (.aload_n 0, 1) := by decide +kernel
theorem dX3_init_5 : decode cX3_init 5 = .ok (.iconst 0, 1) := by decide +kernel
theorem dX3_init_6 : decode cX3_init 6 = .ok (.putfield 9, 3) := by decide +kernel
theorem dX3_init_9 : decode cX3_init 9 = .ok (.aload_n 0, 1) := by decide +kernel
theorem dX3_init_10 : decode cX3_init 10 = .ok (.bipush 16, 2) := by decide +kernel
theorem dX3_init_12 : decode cX3_init 12 = .ok (.newarray .int, 2) := by decide +kernel
theorem dX3_init_14 : decode cX3_init 14 = .ok (.putfield 15, 3) := by decide +kernel
theorem dX3_init_17 : decode cX3_init 17 = .ok (.aload_n 0, 1) := by decide +kernel
theorem dX3_init_18 : decode cX3_init 18 = .ok (.bipush 16, 2) := by decide +kernel
theorem dX3_init_20 : decode cX3_init 20 = .ok (.newarray .int, 2) := by decide +kernel
theorem dX3_init_22 : decode cX3_init 22 = .ok (.putfield 19, 3) := by decide +kernel
theorem dX3_init_25 : decode cX3_init 25 = .ok (.aload_n 0, 1) := by decide +kernel
theorem dX3_init_26 : decode cX3_init 26 = .ok (.bipush 16, 2) := by decide +kernel
theorem dX3_init_28 : decode cX3_init 28 = .ok (.newarray .int, 2) := by decide +kernel
theorem dX3_init_30 : decode cX3_init 30 = .ok (.putfield 22, 3) := by decide +kernel
theorem dX3_init_33 : decode cX3_init 33 = .ok (.aload_n 0, 1) := by decide +kernel
theorem dX3_init_34 : decode cX3_init 34 = .ok (.bipush 16, 2) := by decide +kernel
theorem dX3_init_36 : decode cX3_init 36 = .ok (.bipush 8, 2) := by decide +kernel
theorem dX3_init_38 : decode cX3_init 38 = .ok (.multianewarray 25 2, 4) := by decide +kernel
theorem dX3_init_42 : decode cX3_init 42 = .ok (.putfield 27, 3) := by decide +kernel
theorem dX3_init_45 : decode cX3_init 45 = .ok (.aload_n 0, 1) := by decide +kernel
theorem dX3_init_46 : decode cX3_init 46 = .ok (.iconst 0, 1) := by decide +kernel
theorem dX3_init_47 : decode cX3_init 47 = .ok (.putfield 30, 3) := by decide +kernel
theorem dX3_init_50 : decode cX3_init 50 = .ok (.aload_n 0, 1) := by decide +kernel
theorem dX3_init_51 : decode cX3_init 51 = .ok (.bipush 40, 2) := by decide +kernel
theorem dX3_init_53 : decode cX3_init 53 = .ok (.newarray .int, 2) := by decide +kernel
theorem dX3_init_55 : decode cX3_init 55 = .ok (.putfield 33, 3) := by decide +kernel
theorem dX3_init_58 : decode cX3_init 58 = .ok (.aload_n 0, 1) := by decide +kernel
theorem dX3_init_59 : decode cX3_init 59 = .ok (.bipush 40, 2) := by decide +kernel
theorem dX3_init_61 : decode cX3_init 61 = .ok (.newarray .int, 2) := by decide +kernel
theorem dX3_init_63 : decode cX3_init 63 = .ok (.putfield 36, 3) := by decide +kernel
theorem dX3_init_66 : decode cX3_init 66 = .ok (.aload_n 0, 1) := by decide +kernel
theorem dX3_init_67 : decode cX3_init 67 = .ok (.bipush 40, 2) := by decide +kernel
theorem dX3_init_69 : decode cX3_init 69 = .ok (.newarray .int, 2) := by decide +kernel
theorem dX3_init_71 : decode cX3_init 71 = .ok (.putfield 39, 3) := by decide +kernel
theorem dX3_init_74 : decode cX3_init 74 = .ok (.aload_n 0, 1) := by decide +kernel
theorem dX3_init_75 : decode cX3_init 75 = .ok (.bipush 40, 2) := by decide +kernel
theorem dX3_init_77 : decode cX3_init 77 = .ok (.newarray .int, 2) := by decide +kernel
theorem dX3_init_79 : decode cX3_init 79 = .ok (.putfield 42, 3) := by decide +kernel
theorem dX3_init_82 : decode cX3_init 82 = .ok (.aload_n 0, 1) := by decide +kernel
theorem dX3_init_83 : decode cX3_init 83 = .ok (.bipush 40, 2) := by decide +kernel
theorem dX3_init_85 : decode cX3_init 85 = .ok (.newarray .int, 2) := by decide +kernel
theorem dX3_init_87 : decode cX3_init 87 = .ok (.putfield 45, 3) := by decide +kernel
theorem dX3_init_90 : decode cX3_init 90 = .ok (.aload_n 0, 1) := by decide +kernel
theorem dX3_init_91 : decode cX3_init 91 = .ok (.bipush 40, 2) := by decide +kernel
theorem dX3_init_93 : decode cX3_init 93 = .ok (.newarray .int, 2) := by decide +kernel
theorem dX3_init_95 : decode cX3_init 95 = .ok (.putfield 48, 3) := by decide +kernel
theorem dX3_init_98 : decode cX3_init 98 = .ok (.aload_n 0, 1) := by decide +kernel
theorem dX3_init_99 : decode cX3_init 99 = .ok (.iconst 4, 1) := by decide +kernel
theorem dX3_init_100 : decode cX3_init 100 = .ok (.newarray .int, 2) := by decide +kernel
theorem dX3_init_102 : decode cX3_init 102 = .ok (.putfield 51, 3) := by decide +kernel
theorem dX3_init_105 : decode cX3_init 105 = .ok (.aload_n 0, 1) := by decide +kernel
theorem dX3_init_106 : decode cX3_init 106 = .ok (.iconst 0, 1) := by decide +kernel
theorem dX3_init_107 : decode cX3_init 107 = .ok (.putfield 54, 3) := by decide +kernel
theorem dX3_init_110 : decode cX3_init 110 = .ok (.aload_n 0, 1) := by decide +kernel
theorem dX3_init_111 : decode cX3_init 111 = .ok (.iconst 1, 1) := by decide +kernel
theorem dX3_init_112 : decode cX3_init 112 = .ok (.putfield 57, 3) := by decide +kernel
theorem dX3_init_115 : decode cX3_init 115 = .ok (.aload_n 0, 1) := by decide +kernel
theorem dX3_init_116 : decode cX3_init 116 = .ok (.iconst 0, 1) := by decide +kernel
theorem dX3_init_117 : decode cX3_init 117 = .ok (.putfield 60, 3) := by decide +kernel
theorem dX3_init_120 : decode cX3_init 120 = .ok (.aload_n 0, 1) := by decide +kernel
theorem dX3_init_121 : decode cX3_init 121 = .ok (.iconst 0, 1) := by decide +kernel
theorem dX3_init_122 : decode cX3_init 122 = .ok (.putfield 63, 3) := by decide +kernel
theorem dX3_init_125 : decode cX3_init 125 = .ok (.aload_n 0, 1) := by decide +kernel
theorem dX3_init_126 : decode cX3_init 126 = .ok (.sipush 6000, 3) := by decide +kernel
theorem dX3_init_129 : decode cX3_init 129 = .ok (.newarray .byte, 2) := by decide +kernel
theorem dX3_init_131 : decode cX3_init 131 = .ok (.putfield 67, 3) := by decide +kernel
theorem dX3_init_134 : decode cX3_init 134 = .ok (.aload_n 0, 1) := by decide +kernel
theorem dX3_init_135 : decode cX3_init 135 = .ok (.sipush 6001, 3) := by decide +kernel
theorem dX3_init_138 : decode cX3_init 138 = .ok (.newarray .int, 2) := by decide +kernel
theorem dX3_init_140 : decode cX3_init 140 = .ok (.putfield 71, 3) := by decide +kernel
theorem dX3_init_143 : decode cX3_init 143 = .ok (.return_, 1) := by decide +kernel
theorem dX4_init_0 : decode cX4_init 0 = .ok (.aload_n 0, 1) := by decide +kernel
theorem dX4_init_1 : decode cX4_init 1 = .ok (.invokespecial 3, 3) := by decide +kernel
theorem dX4_init_4 : decode cX4_init 4 = .ok (.aload_n 0, 1) := by decide +kernel
theorem dX4_init_5 : decode cX4_init 5 = .ok (.iconst 0, 1) := by decide +kernel
theorem dX4_init_6 : decode cX4_init 6 = .ok (.putfield 9, 3) := by decide +kernel
theorem dX4_init_9 : decode cX4_init 9 = .ok (.aload_n 0, 1) := by decide +kernel
theorem dX4_init_10 : decode cX4_init 10 = .ok (.iconst 3, 1) := by decide +kernel
theorem dX4_init_11 : decode cX4_init 11 = .ok (.putfield 15, 3) := by decide +kernel
theorem dX4_init_14 : decode cX4_init 14 = .ok (.aload_n 0, 1) := by decide +kernel
theorem dX4_init_15 : decode cX4_init 15 = .ok (.iconst 0, 1) := by decide +kernel
theorem dX4_init_16 : decode cX4_init 16 = .ok (.putfield 18, 3) := by decide +kernel
theorem dX4_init_19 : decode cX4_init 19 = .ok (.aload_n 0, 1) := by decide +kernel
theorem dX4_init_20 : decode cX4_init 20 = .ok (.iconst 0, 1) := by decide +kernel
theorem dX4_init_21 : decode cX4_init 21 = .ok (.putfield 21, 3) := by decide +kernel
theorem dX4_init_24 : decode cX4_init 24 = .ok (.aload_n 0, 1) := by decide +kernel
theorem dX4_init_25 : decode cX4_init 25 = .ok (.iconst 0, 1) := by decide +kernel
theorem dX4_init_26 : decode cX4_init 26 = .ok (.putfield 24, 3) := by decide +kernel
theorem dX4_init_29 : decode cX4_init 29 = .ok (.aload_n 0, 1) := by decide +kernel
theorem dX4_init_30 : decode cX4_init 30 = .ok (.iconst 0, 1) := by decide +kernel
theorem dX4_init_31 : decode cX4_init 31 = .ok (.putfield 27, 3) := by decide +kernel
theorem dX4_init_34 : decode cX4_init 34 = .ok (.aload_n 0, 1) := by decide +kernel
theorem dX4_init_35 : decode cX4_init 35 = .ok (.aload_n 1, 1) := by decide +kernel
theorem dX4_init_36 : decode cX4_init 36 = .ok (.putfield 30, 3) := by decide +kernel
theorem dX4_init_39 : decode cX4_init 39 = .ok (.aload_n 0, 1) := by decide +kernel
theorem dX4_init_40 : decode cX4_init 40 = .ok (.aload_n 2, 1) := by decide +kernel
theorem dX4_init_41 : decode cX4_init 41 = .ok (.putfield 34, 3) := by decide +kernel
theorem dX4_init_44 : decode cX4_init 44 = .ok (.return_, 1) := by decide +kernel
theorem dX1_init_0 : decode cX1_init 0 = .ok (.aload_n 0, 1) := by decide +kernel
theorem dX1_init_1 : decode cX1_init 1 = .ok (.invokespecial 3, 3) := by decide +kernel
theorem dX1_init_4 : decode cX1_init 4 = .ok (.aload_n 0, 1) := by decide +kernel
theorem dX1_init_5 : decode cX1_init 5 = .ok (.bipush 16, 2) := by decide +kernel
theorem dX1_init_7 : decode cX1_init 7 = .ok (.bipush 8, 2) := by decide +kernel
theorem dX1_init_9 : decode cX1_init 9 = .ok (.multianewarray 9 2, 4) := by decide +kernel
theorem dX1_init_13 : decode cX1_init 13 = .ok (.putfield 11, 3) := by decide +kernel
theorem dX1_init_16 : decode cX1_init 16 = .ok (.return_, 1) := by decide +kernel
theorem dX0_init_0 : decode cX0_init 0 = .ok (.aload_n 0, 1) := by decide +kernel
theorem dX0_init_1 : decode cX0_init 1 = .ok (.invokespecial 3, 3) := by decide +kernel
theorem dX0_init_4 : decode cX0_init 4 = .ok (.aload_n 0, 1) := by decide +kernel
theorem dX0_init_5 : decode cX0_init 5 = .ok (.iconst 0, 1) := by decide +kernel
theorem dX0_init_6 : decode cX0_init 6 = .ok (.putfield 9, 3) := by decide +kernel
theorem dX0_init_9 : decode cX0_init 9 = .ok (.aload_n 0, 1) := by decide +kernel
theorem dX0_init_10 : decode cX0_init 10 = .ok (.iconst 4, 1) := by decide +kernel
theorem dX0_init_11 : decode cX0_init 11 = .ok (.newarray .int, 2) := by decide +kernel
theorem dX0_init_13 : decode cX0_init 13 = .ok (.putfield 15, 3) := by decide +kernel
theorem dX0_init_16 : decode cX0_init 16 = .ok (.aload_n 0, 1) := by decide +kernel
theorem dX0_init_17 : decode cX0_init 17 = .ok (.iconst 4, 1) := by decide +kernel
theorem dX0_init_18 : decode cX0_init 18 = .ok (.newarray .int, 2) := by decide +kernel
theorem dX0_init_20 : decode cX0_init 20 = .ok (.putfield 19, 3) := by decide +kernel
theorem dX0_init_23 : decode cX0_init 23 = .ok (.aload_n 0, 1) := by decide +kernel
theorem dX0_init_24 : decode cX0_init 24 = .ok (.bipush 8, 2) := by decide +kernel
theorem dX0_init_26 : decode cX0_init 26 = .ok (.newarray .int, 2) := by decide +kernel
theorem dX0_init_28 : decode cX0_init 28 = .ok (.putfield 22, 3) := by decide +kernel
theorem dX0_init_31 : decode cX0_init 31 = .ok (.aload_n 0, 1) := by decide +kernel
theorem dX0_init_32 : decode cX0_init 32 = .ok (.sipush 256, 3) := by decide +kernel
theorem dX0_init_35 : decode cX0_init 35 = .ok (.newarray .boolean, 2) := by decide +kernel
theorem dX0_init_37 : decode cX0_init 37 = .ok (.putfield 25, 3) := by decide +kernel
theorem dX0_init_40 : decode cX0_init 40 = .ok (.aload_n 0, 1) := by decide +kernel
theorem dX0_init_41 : decode cX0_init 41 = .ok (.sipush 256, 3) := by decide +kernel
theorem dX0_init_44 : decode cX0_init 44 = .ok (.newarray .int, 2) := by decide +kernel
theorem dX0_init_46 : decode cX0_init 46 = .ok (.putfield 29, 3) := by decide +kernel
theorem dX0_init_49 : decode cX0_init 49 = .ok (.aload_n 0, 1) := by decide +kernel
theorem dX0_init_50 : decode cX0_init 50 = .ok (.iconst 0, 1) := by decide +kernel
theorem dX0_init_51 : decode cX0_init 51 = .ok (.putfield 32, 3) := by decide +kernel
theorem dX0_init_54 : decode cX0_init 54 = .ok (.return_, 1) := by decide +kernel
theorem dX9_init_0 : decode cX9_init 0 = .ok (.aload_n 0, 1) := by decide +kernel
theorem dX9_init_1 : decode cX9_init 1 = .ok (.invokespecial 1, 3) := by decide +kernel
theorem dX9_init_4 : decode cX9_init 4 = .ok (.aload_n 0, 1) := by decide +kernel
theorem dX9_init_5 : decode cX9_init 5 = .ok (.iconst 0, 1) := by decide +kernel
theorem dX9_init_6 : decode cX9_init 6 = .ok (.putfield 7, 3) := by decide +kernel
theorem dX9_init_9 : decode cX9_init 9 = .ok (.aload_n 0, 1) := by decide +kernel
theorem dX9_init_10 : decode cX9_init 10 = .ok (.iconst 0, 1) := by decide +kernel
theorem dX9_init_11 : decode cX9_init 11 = .ok (.putfield 13, 3) := by decide +kernel
theorem dX9_init_14 : decode cX9_init 14 = .ok (.return_, 1) := by decide +kernel
theorem dX6_init_0 : decode cX6_init 0 = .ok (.aload_n 0, 1) := by decide +kernel
theorem dX6_init_1 : decode cX6_init 1 = .ok (.invokespecial 3, 3) := by decide +kernel
theorem dX6_init_4 : decode cX6_init 4 = .ok (.aload_n 0, 1) := by decide +kernel
theorem dX6_init_5 : decode cX6_init 5 = .ok (.bipush 16, 2) := by decide +kernel
theorem dX6_init_7 : decode cX6_init 7 = .ok (.newarray .int, 2) := by decide +kernel
theorem dX6_init_9 : decode cX6_init 9 = .ok (.putfield 9, 3) := by decide +kernel
theorem dX6_init_12 : decode cX6_init 12 = .ok (.aload_n 0, 1) := by decide +kernel
theorem dX6_init_13 : decode cX6_init 13 = .ok (.iconst 0, 1) := by decide +kernel
theorem dX6_init_14 : decode cX6_init 14 = .ok (.putfield 15, 3) := by decide +kernel
theorem dX6_init_17 : decode cX6_init 17 = .ok (.aload_n 0, 1) := by decide +kernel
theorem dX6_init_18 : decode cX6_init 18 = .ok (.iconst 0, 1) := by decide +kernel
theorem dX6_init_19 : decode cX6_init 19 = .ok (.putfield 19, 3) := by decide +kernel
theorem dX6_init_22 : decode cX6_init 22 = .ok (.return_, 1) := by decide +kernel
theorem dX2_init_0 : decode cX2_init 0 = .ok (.aload_n 0, 1) := by decide +kernel
theorem dX2_init_1 : decode cX2_init 1 = .ok (.invokespecial 3, 3) := by decide +kernel
theorem dX2_init_4 : decode cX2_init 4 = .ok (.aload_n 0, 1) := by decide +kernel
theorem dX2_init_5 : decode cX2_init 5 = .ok (.iconst 0, 1) := by decide +kernel
theorem dX2_init_6 : decode cX2_init 6 = .ok (.putfield 9, 3) := by decide +kernel
theorem dX2_init_9 : decode cX2_init 9 = .ok (.aload_n 0, 1) := by decide +kernel
theorem dX2_init_10 : decode cX2_init 10 = .ok (.iconst 0, 1) := by decide +kernel
theorem dX2_init_11 : decode cX2_init 11 = .ok (.putfield 15, 3) := by decide +kernel
theorem dX2_init_14 : decode cX2_init 14 = .ok (.aload_n 0, 1) := by decide +kernel
theorem dX2_init_15 : decode cX2_init 15 = .ok (.iconst 0, 1) := by decide +kernel
theorem dX2_init_16 : decode cX2_init 16 = .ok (.putfield 18, 3) := by decide +kernel
theorem dX2_init_19 : decode cX2_init 19 = .ok (.aload_n 0, 1) := by decide +kernel
theorem dX2_init_20 : decode cX2_init 20 = .ok (.iconst 0, 1) := by decide +kernel
theorem dX2_init_21 : decode cX2_init 21 = .ok (.putfield 21, 3) := by decide +kernel
theorem dX2_init_24 : decode cX2_init 24 = .ok (.return_, 1) := by decide +kernel
theorem dX5_init_0 : decode cX5_init 0 = .ok (.aload_n 0, 1) := by decide +kernel
theorem dX5_init_1 : decode cX5_init 1 = .ok (.invokespecial 3, 3) := by decide +kernel
theorem dX5_init_4 : decode cX5_init 4 = .ok (.aload_n 0, 1) := by decide +kernel
theorem dX5_init_5 : decode cX5_init 5 = .ok (.iconst 0, 1) := by decide +kernel
theorem dX5_init_6 : decode cX5_init 6 = .ok (.putfield 9, 3) := by decide +kernel
theorem dX5_init_9 : decode cX5_init 9 = .ok (.aload_n 0, 1) := by decide +kernel
theorem dX5_init_10 : decode cX5_init 10 = .ok (.bipush 12, 2) := by decide +kernel
theorem dX5_init_12 : decode cX5_init 12 = .ok (.newarray .int, 2) := by decide +kernel
theorem dX5_init_14 : decode cX5_init 14 = .ok (.putfield 15, 3) := by decide +kernel
theorem dX5_init_17 : decode cX5_init 17 = .ok (.aload_n 0, 1) := by decide +kernel
theorem dX5_init_18 : decode cX5_init 18 = .ok (.bipush 12, 2) := by decide +kernel
theorem dX5_init_20 : decode cX5_init 20 = .ok (.newarray .int, 2) := by decide +kernel
theorem dX5_init_22 : decode cX5_init 22 = .ok (.putfield 19, 3) := by decide +kernel
theorem dX5_init_25 : decode cX5_init 25 = .ok (.aload_n 0, 1) := by decide +kernel
theorem dX5_init_26 : decode cX5_init 26 = .ok (.bipush 12, 2) := by decide +kernel
theorem dX5_init_28 : decode cX5_init 28 = .ok (.newarray .int, 2) := by decide +kernel
theorem dX5_init_30 : decode cX5_init 30 = .ok (.putfield 22, 3) := by decide +kernel
theorem dX5_init_33 : decode cX5_init 33 = .ok (.aload_n 0, 1) := by decide +kernel
theorem dX5_init_34 : decode cX5_init 34 = .ok (.iconst 0, 1) := by decide +kernel
theorem dX5_init_35 : decode cX5_init 35 = .ok (.putfield 25, 3) := by decide +kernel
theorem dX5_init_38 : decode cX5_init 38 = .ok (.aload_n 0, 1) := by decide +kernel
theorem dX5_init_39 : decode cX5_init 39 = .ok (.bipush 36, 2) := by decide +kernel
theorem dX5_init_41 : decode cX5_init 41 = .ok (.newarray .int, 2) := by decide +kernel
theorem dX5_init_43 : decode cX5_init 43 = .ok (.putfield 28, 3) := by decide +kernel
theorem dX5_init_46 : decode cX5_init 46 = .ok (.return_, 1) := by decide +kernel
theorem dX7_init_0 : decode cX7_init 0 = .ok (.aload_n 0, 1) := by decide +kernel
theorem dX7_init_1 : decode cX7_init 1 = .ok (.invokespecial 3, 3) := by decide +kernel
theorem dX7_init_4 : decode cX7_init 4 = .ok (.aload_n 0, 1) := by decide +kernel
theorem dX7_init_5 : decode cX7_init 5 = .ok (.iconst 4, 1) := by decide +kernel
theorem dX7_init_6 : decode cX7_init 6 = .ok (.newarray .int, 2) := by decide +kernel
theorem dX7_init_8 : decode cX7_init 8 = .ok (.putfield 11, 3) := by decide +kernel
theorem dX7_init_11 : decode cX7_init 11 = .ok (.aload_n 0, 1) := by decide +kernel
theorem dX7_init_12 : decode cX7_init 12 = .ok (.iconst 4, 1) := by decide +kernel
theorem dX7_init_13 : decode cX7_init 13 = .ok (.newarray .int, 2) := by decide +kernel
theorem dX7_init_15 : decode cX7_init 15 = .ok (.dup, 1) := by decide +kernel
theorem dX7_init_16 : decode cX7_init 16 = .ok (.iconst 0, 1) := by decide +kernel
theorem dX7_init_17 : decode cX7_init 17 = .ok (.iconst (-1), 1) := by decide +kernel
theorem dX7_init_18 : decode cX7_init 18 = .ok (.iastore, 1) := by decide +kernel
theorem dX7_init_19 : decode cX7_init 19 = .ok (.dup, 1) := by decide +kernel
theorem dX7_init_20 : decode cX7_init 20 = .ok (.iconst 1, 1) := by decide +kernel
theorem dX7_init_21 : decode cX7_init 21 = .ok (.iconst (-1), 1) := by decide +kernel
theorem dX7_init_22 : decode cX7_init 22 = .ok (.iastore, 1) := by decide +kernel
theorem dX7_init_23 : decode cX7_init 23 = .ok (.dup, 1) := by decide +kernel
theorem dX7_init_24 : decode cX7_init 24 = .ok (.iconst 2, 1) := by decide +kernel
theorem dX7_init_25 : decode cX7_init 25 = .ok (.iconst (-1), 1) := by decide +kernel
theorem dX7_init_26 : decode cX7_init 26 = .ok (.iastore, 1) := by decide +kernel
theorem dX7_init_27 : decode cX7_init 27 = .ok (.dup, 1) := by decide +kernel
theorem dX7_init_28 : decode cX7_init 28 = .ok (.iconst 3, 1) := by decide +kernel
theorem dX7_init_29 : decode cX7_init 29 = .ok (.iconst (-1), 1) := by decide +kernel
theorem dX7_init_30 : decode cX7_init 30 = .ok (.iastore, 1) := by decide +kernel
theorem dX7_init_31 : decode cX7_init 31 = .ok (.putfield 15, 3) := by decide +kernel
theorem dX7_init_34 : decode cX7_init 34 = .ok (.aload_n 0, 1) := by decide +kernel
theorem dX7_init_35 : decode cX7_init 35 = .ok (.iconst 4, 1) := by decide +kernel
theorem dX7_init_36 : decode cX7_init 36 = .ok (.bipush 40, 2) := by decide +kernel
theorem dX7_init_38 : decode cX7_init 38 = .ok (.multianewarray 18 2, 4) := by decide +kernel
theorem dX7_init_42 : decode cX7_init 42 = .ok (.putfield 20, 3) := by decide +kernel
theorem dX7_init_45 : decode cX7_init 45 = .ok (.return_, 1) := by decide +kernel
theorem dX10_init_0 : decode cX10_init 0 = .ok (.aload_n 0, 1) := by decide +kernel
theorem dX10_init_1 : decode cX10_init 1 = .ok (.invokespecial 1, 3) := by decide +kernel
theorem dX10_init_4 : decode cX10_init 4 = .ok (.aload_n 0, 1) := by decide +kernel
theorem dX10_init_5 : decode cX10_init 5 = .ok (.new 7, 3) := by decide +kernel
theorem dX10_init_8 : decode cX10_init 8 = .ok (.dup, 1) := by decide +kernel
theorem dX10_init_9 : decode cX10_init 9 = .ok (.invokespecial 9, 3) := by decide +kernel
theorem dX10_init_12 : decode cX10_init 12 = .ok (.putfield 10, 3) := by decide +kernel
theorem dX10_init_15 : decode cX10_init 15 = .ok (.aload_n 0, 1) := by decide +kernel
theorem dX10_init_16 : decode cX10_init 16 = .ok (.new 16, 3) := by decide +kernel
theorem dX10_init_19 : decode cX10_init 19 = .ok (.dup, 1) := by decide +kernel
theorem dX10_init_20 : decode cX10_init 20 = .ok (.invokespecial 18, 3) := by decide +kernel
theorem dX10_init_23 : decode cX10_init 23 = .ok (.putfield 19, 3) := by decide +kernel
theorem dX10_init_26 : decode cX10_init 26 = .ok (.aload_n 0, 1) := by decide +kernel
theorem dX10_init_27 : decode cX10_init 27 = .ok (.new 16, 3) := by decide +kernel
theorem dX10_init_30 : decode cX10_init 30 = .ok (.dup, 1) := by decide +kernel
theorem dX10_init_31 : decode cX10_init 31 = .ok (.invokespecial 18, 3) := by decide +kernel
theorem dX10_init_34 : decode cX10_init 34 = .ok (.putfield 23, 3) := by decide +kernel
theorem dX10_init_37 : decode cX10_init 37 = .ok (.aload_n 0, 1) := by decide +kernel
theorem dX10_init_38 : decode cX10_init 38 = .ok (.new 26, 3) := by decide +kernel
theorem dX10_init_41 : decode cX10_init 41 = .ok (.dup, 1) := by decide +kernel
theorem dX10_init_42 : decode cX10_init 42 = .ok (.aload_n 0, 1) := by decide +kernel
theorem dX10_init_43 : decode cX10_init 43 = .ok (.getfield 10, 3) := by decide +kernel
theorem dX10_init_46 : decode cX10_init 46 = .ok (.aload_n 0, 1) := by decide +kernel
theorem dX10_init_47 : decode cX10_init 47 = .ok (.getfield 23, 3) := by decide +kernel
theorem dX10_init_50 : decode cX10_init 50 = .ok (.invokespecial 28, 3) := by decide +kernel
theorem dX10_init_53 : decode cX10_init 53 = .ok (.putfield 31, 3) := by decide +kernel
theorem dX10_init_56 : decode cX10_init 56 = .ok (.aload_n 0, 1) := by decide +kernel
theorem dX10_init_57 : decode cX10_init 57 = .ok (.new 35, 3) := by decide +kernel
theorem dX10_init_60 : decode cX10_init 60 = .ok (.dup, 1) := by decide +kernel
theorem dX10_init_61 : decode cX10_init 61 = .ok (.invokespecial 37, 3) := by decide +kernel
theorem dX10_init_64 : decode cX10_init 64 = .ok (.putfield 38, 3) := by decide +kernel
theorem dX10_init_67 : decode cX10_init 67 = .ok (.aload_n 0, 1) := by decide +kernel
theorem dX10_init_68 : decode cX10_init 68 = .ok (.new 42, 3) := by decide +kernel
theorem dX10_init_71 : decode cX10_init 71 = .ok (.dup, 1) := by decide +kernel
theorem dX10_init_72 : decode cX10_init 72 = .ok (.invokespecial 44, 3) := by decide +kernel
theorem dX10_init_75 : decode cX10_init 75 = .ok (.putfield 45, 3) := by decide +kernel
theorem dX10_init_78 : decode cX10_init 78 = .ok (.aload_n 0, 1) := by decide +kernel
theorem dX10_init_79 : decode cX10_init 79 = .ok (.new 49, 3) := by decide +kernel
theorem dX10_init_82 : decode cX10_init 82 = .ok (.dup, 1) := by decide +kernel
theorem dX10_init_83 : decode cX10_init 83 = .ok (.invokespecial 51, 3) := by decide +kernel
theorem dX10_init_86 : decode cX10_init 86 = .ok (.putfield 52, 3) := by decide +kernel
theorem dX10_init_89 : decode cX10_init 89 = .ok (.aload_n 0, 1) := by decide +kernel
theorem dX10_init_90 : decode cX10_init 90 = .ok (.new 56, 3) := by decide +kernel
theorem dX10_init_93 : decode cX10_init 93 = .ok (.dup, 1) := by decide +kernel
theorem dX10_init_94 : decode cX10_init 94 = .ok (.invokespecial 58, 3) := by decide +kernel
theorem dX10_init_97 : decode cX10_init 97 = .ok (.putfield 59, 3) := by decide +kernel
theorem dX10_init_100 : decode cX10_init 100 = .ok (.aload_n 0, 1) := by decide +kernel
theorem dX10_init_101 : decode cX10_init 101 = .ok (.new 63, 3) := by decide +kernel
theorem dX10_init_104 : decode cX10_init 104 = .ok (.dup, 1) := by decide +kernel
theorem dX10_init_105 : decode cX10_init 105 = .ok (.invokespecial 65, 3) := by decide +kernel
theorem dX10_init_108 : decode cX10_init 108 = .ok (.putfield 66, 3) := by decide +kernel
theorem dX10_init_111 : decode cX10_init 111 = .ok (.aload_n 0, 1) := by decide +kernel
theorem dX10_init_112 : decode cX10_init 112 = .ok (.new 70, 3) := by decide +kernel
theorem dX10_init_115 : decode cX10_init 115 = .ok (.dup, 1) := by decide +kernel
theorem dX10_init_116 : decode cX10_init 116 = .ok (.invokespecial 72, 3) := by decide +kernel
theorem dX10_init_119 : decode cX10_init 119 = .ok (.putfield 73, 3) := by decide +kernel
theorem dX10_init_122 : decode cX10_init 122 = .ok (.aload_n 0, 1) := by decide +kernel
theorem dX10_init_123 : decode cX10_init 123 = .ok (.new 77, 3) := by decide +kernel
theorem dX10_init_126 : decode cX10_init 126 = .ok (.dup, 1) := by decide +kernel
theorem dX10_init_127 : decode cX10_init 127 = .ok (.invokespecial 79, 3) := by decide +kernel
theorem dX10_init_130 : decode cX10_init 130 = .ok (.putfield 80, 3) := by decide +kernel
theorem dX10_init_133 : decode cX10_init 133 = .ok (.aload_n 0, 1) := by decide +kernel
theorem dX10_init_134 : decode cX10_init 134 = .ok (.iconst 0, 1) := by decide +kernel
theorem dX10_init_135 : decode cX10_init 135 = .ok (.putfield 84, 3) := by decide +kernel
theorem dX10_init_138 : decode cX10_init 138 = .ok (.aload_n 0, 1) := by decide +kernel
theorem dX10_init_139 : decode cX10_init 139 = .ok (.getfield 45, 3) := by decide +kernel
theorem dX10_init_142 : decode cX10_init 142 = .ok (.iconst 2, 1) := by decide +kernel
theorem dX10_init_143 : decode cX10_init 143 = .ok (.invokevirtual 88, 3) := by decide +kernel
theorem dX10_init_146 : decode cX10_init 146 = .ok (.return_, 1) := by decide +kernel
theorem dX11_init_0 : decode cX11_init 0 = .ok (.aload_n 0, 1) := by decide +kernel
theorem dX11_init_1 : decode cX11_init 1 = .ok (.invokespecial 1, 3) := by decide +kernel
theorem dX11_init_4 : decode cX11_init 4 = .ok (.aload_n 0, 1) := by decide +kernel
theorem dX11_init_5 : decode cX11_init 5 = .ok (.bipush 16, 2) := by decide +kernel
theorem dX11_init_7 : decode cX11_init 7 = .ok (.newarray .int, 2) := by decide +kernel
theorem dX11_init_9 : decode cX11_init 9 = .ok (.putfield 7, 3) := by decide +kernel
theorem dX11_init_12 : decode cX11_init 12 = .ok (.aload_n 0, 1) := by decide +kernel
theorem dX11_init_13 : decode cX11_init 13 = .ok (.sipush 128, 3) := by decide +kernel
theorem dX11_init_16 : decode cX11_init 16 = .ok (.newarray .int, 2) := by decide +kernel
theorem dX11_init_18 : decode cX11_init 18 = .ok (.putfield 13, 3) := by decide +kernel
theorem dX11_init_21 : decode cX11_init 21 = .ok (.aload_n 0, 1) := by decide +kernel
theorem dX11_init_22 : decode cX11_init 22 = .ok (.bipush 16, 2) := by decide +kernel
theorem dX11_init_24 : decode cX11_init 24 = .ok (.newarray .int, 2) := by decide +kernel
theorem dX11_init_26 : decode cX11_init 26 = .ok (.putfield 16, 3) := by decide +kernel
theorem dX11_init_29 : decode cX11_init 29 = .ok (.aload_n 0, 1) := by decide +kernel
theorem dX11_init_30 : decode cX11_init 30 = .ok (.bipush 40, 2) := by decide +kernel
theorem dX11_init_32 : decode cX11_init 32 = .ok (.newarray .int, 2) := by decide +kernel
theorem dX11_init_34 : decode cX11_init 34 = .ok (.putfield 19, 3) := by decide +kernel
theorem dX11_init_37 : decode cX11_init 37 = .ok (.aload_n 0, 1) := by decide +kernel
theorem dX11_init_38 : decode cX11_init 38 = .ok (.bipush 40, 2) := by decide +kernel
theorem dX11_init_40 : decode cX11_init 40 = .ok (.newarray .int, 2) := by decide +kernel
theorem dX11_init_42 : decode cX11_init 42 = .ok (.putfield 22, 3) := by decide +kernel
theorem dX11_init_45 : decode cX11_init 45 = .ok (.aload_n 0, 1) := by decide +kernel
theorem dX11_init_46 : decode cX11_init 46 = .ok (.sipush 6000, 3) := by decide +kernel
theorem dX11_init_49 : decode cX11_init 49 = .ok (.newarray .int, 2) := by decide +kernel
theorem dX11_init_51 : decode cX11_init 51 = .ok (.putfield 25, 3) := by decide +kernel
theorem dX11_init_54 : decode cX11_init 54 = .ok (.aload_n 0, 1) := by decide +kernel
theorem dX11_init_55 : decode cX11_init 55 = .ok (.bipush 16, 2) := by decide +kernel
theorem dX11_init_57 : decode cX11_init 57 = .ok (.newarray .int, 2) := by decide +kernel
theorem dX11_init_59 : decode cX11_init 59 = .ok (.putfield 28, 3) := by decide +kernel
theorem dX11_init_62 : decode cX11_init 62 = .ok (.aload_n 0, 1) := by decide +kernel
theorem dX11_init_63 : decode cX11_init 63 = .ok (.bipush 16, 2) := by decide +kernel
theorem dX11_init_65 : decode cX11_init 65 = .ok (.newarray .int, 2) := by decide +kernel
theorem dX11_init_67 : decode cX11_init 67 = .ok (.putfield 31, 3) := by decide +kernel
theorem dX11_init_70 : decode cX11_init 70 = .ok (.aload_n 0, 1) := by decide +kernel
theorem dX11_init_71 : decode cX11_init 71 = .ok (.sipush 128, 3) := by decide +kernel
theorem dX11_init_74 : decode cX11_init 74 = .ok (.newarray .int, 2) := by decide +kernel
theorem dX11_init_76 : decode cX11_init 76 = .ok (.putfield 34, 3) := by decide +kernel
theorem dX11_init_79 : decode cX11_init 79 = .ok (.aload_n 0, 1) := by decide +kernel
theorem dX11_init_80 : decode cX11_init 80 = .ok (.bipush 16, 2) := by decide +kernel
theorem dX11_init_82 : decode cX11_init 82 = .ok (.newarray .int, 2) := by decide +kernel
theorem dX11_init_84 : decode cX11_init 84 = .ok (.putfield 37, 3) := by decide +kernel
theorem dX11_init_87 : decode cX11_init 87 = .ok (.aload_n 0, 1) := by decide +kernel
theorem dX11_init_88 : decode cX11_init 88 = .ok (.bipush 40, 2) := by decide +kernel
theorem dX11_init_90 : decode cX11_init 90 = .ok (.newarray .int, 2) := by decide +kernel
theorem dX11_init_92 : decode cX11_init 92 = .ok (.putfield 40, 3) := by decide +kernel
theorem dX11_init_95 : decode cX11_init 95 = .ok (.aload_n 0, 1) := by decide +kernel
theorem dX11_init_96 : decode cX11_init 96 = .ok (.bipush 40, 2) := by decide +kernel
theorem dX11_init_98 : decode cX11_init 98 = .ok (.newarray .int, 2) := by decide +kernel
theorem dX11_init_100 : decode cX11_init 100 = .ok (.putfield 43, 3) := by decide +kernel
theorem dX11_init_103 : decode cX11_init 103 = .ok (.aload_n 0, 1) := by decide +kernel
theorem dX11_init_104 : decode cX11_init 104 = .ok (.iconst 5, 1) := by decide +kernel
theorem dX11_init_105 : decode cX11_init 105 = .ok (.newarray .int, 2) := by decide +kernel
theorem dX11_init_107 : decode cX11_init 107 = .ok (.putfield 46, 3) := by decide +kernel
theorem dX11_init_110 : decode cX11_init 110 = .ok (.aload_n 0, 1) := by decide +kernel
theorem dX11_init_111 : decode cX11_init 111 = .ok (.bipush 100, 2) := by decide +kernel
theorem dX11_init_113 : decode cX11_init 113 = .ok (.newarray .int, 2) := by decide +kernel
theorem dX11_init_115 : decode cX11_init 115 = .ok (.putfield 49, 3) := by decide +kernel
theorem dX11_init_118 : decode cX11_init 118 = .ok (.aload_n 0, 1) := by decide +kernel
theorem dX11_init_119 : decode cX11_init 119 = .ok (.bipush 100, 2) := by decide +kernel
theorem dX11_init_121 : decode cX11_init 121 = .ok (.newarray .int, 2) := by decide +kernel
theorem dX11_init_123 : decode cX11_init 123 = .ok (.putfield 52, 3) := by decide +kernel
theorem dX11_init_126 : decode cX11_init 126 = .ok (.aload_n 0, 1) := by decide +kernel
theorem dX11_init_127 : decode cX11_init 127 = .ok (.sipush 320, 3) := by decide +kernel
theorem dX11_init_130 : decode cX11_init 130 = .ok (.newarray .int, 2) := by decide +kernel
theorem dX11_init_132 : decode cX11_init 132 = .ok (.putfield 55, 3) := by decide +kernel
theorem dX11_init_135 : decode cX11_init 135 = .ok (.aload_n 0, 1) := by decide +kernel
theorem dX11_init_136 : decode cX11_init 136 = .ok (.bipush 40, 2) := by decide +kernel
theorem dX11_init_138 : decode cX11_init 138 = .ok (.newarray .int, 2) := by decide +kernel
theorem dX11_init_140 : decode cX11_init 140 = .ok (.putfield 58, 3) := by decide +kernel
theorem dX11_init_143 : decode cX11_init 143 = .ok (.aload_n 0, 1) := by decide +kernel
theorem dX11_init_144 : decode cX11_init 144 = .ok (.bipush 40, 2) := by decide +kernel
theorem dX11_init_146 : decode cX11_init 146 = .ok (.newarray .int, 2) := by decide +kernel
theorem dX11_init_148 : decode cX11_init 148 = .ok (.putfield 61, 3) := by decide +kernel
theorem dX11_init_151 : decode cX11_init 151 = .ok (.aload_n 0, 1) := by decide +kernel
theorem dX11_init_152 : decode cX11_init 152 = .ok (.sipush 128, 3) := by decide +kernel
theorem dX11_init_155 : decode cX11_init 155 = .ok (.newarray .int, 2) := by decide +kernel
theorem dX11_init_157 : decode cX11_init 157 = .ok (.putfield 64, 3) := by decide +kernel
theorem dX11_init_160 : decode cX11_init 160 = .ok (.aload_n 0, 1) := by decide +kernel
theorem dX11_init_161 : decode cX11_init 161 = .ok (.iconst 2, 1) := by decide +kernel
theorem dX11_init_162 : decode cX11_init 162 = .ok (.putfield 67, 3) := by decide +kernel
theorem dX11_init_165 : decode cX11_init 165 = .ok (.aload_n 0, 1) := by decide +kernel
theorem dX11_init_166 : decode cX11_init 166 = .ok (.iconst 4, 1) := by decide +kernel
theorem dX11_init_167 : decode cX11_init 167 = .ok (.newarray .int, 2) := by decide +kernel
theorem dX11_init_169 : decode cX11_init 169 = .ok (.putfield 71, 3) := by decide +kernel
theorem dX11_init_172 : decode cX11_init 172 = .ok (.aload_n 0, 1) := by decide +kernel
theorem dX11_init_173 : decode cX11_init 173 = .ok (.iconst 4, 1) := by decide +kernel
theorem dX11_init_174 : decode cX11_init 174 = .ok (.newarray .int, 2) := by decide +kernel
theorem dX11_init_176 : decode cX11_init 176 = .ok (.putfield 74, 3) := by decide +kernel
theorem dX11_init_179 : decode cX11_init 179 = .ok (.aload_n 0, 1) := by decide +kernel
theorem dX11_init_180 : decode cX11_init 180 = .ok (.sipush 256, 3) := by decide +kernel
theorem dX11_init_183 : decode cX11_init 183 = .ok (.newarray .int, 2) := by decide +kernel
theorem dX11_init_185 : decode cX11_init 185 = .ok (.putfield 77, 3) := by decide +kernel
theorem dX11_init_188 : decode cX11_init 188 = .ok (.aload_n 0, 1) := by decide +kernel
theorem dX11_init_189 : decode cX11_init 189 = .ok (.sipush 256, 3) := by decide +kernel
theorem dX11_init_192 : decode cX11_init 192 = .ok (.newarray .boolean, 2) := by decide +kernel
theorem dX11_init_194 : decode cX11_init 194 = .ok (.putfield 80, 3) := by decide +kernel
theorem dX11_init_197 : decode cX11_init 197 = .ok (.aload_n 0, 1) := by decide +kernel
theorem dX11_init_198 : decode cX11_init 198 = .ok (.bipush 8, 2) := by decide +kernel
theorem dX11_init_200 : decode cX11_init 200 = .ok (.newarray .int, 2) := by decide +kernel
theorem dX11_init_202 : decode cX11_init 202 = .ok (.putfield 84, 3) := by decide +kernel
theorem dX11_init_205 : decode cX11_init 205 = .ok (.aload_n 0, 1) := by decide +kernel
theorem dX11_init_206 : decode cX11_init 206 = .ok (.bipush 16, 2) := by decide +kernel
theorem dX11_init_208 : decode cX11_init 208 = .ok (.newarray .int, 2) := by decide +kernel
theorem dX11_init_210 : decode cX11_init 210 = .ok (.putfield 87, 3) := by decide +kernel
theorem dX11_init_213 : decode cX11_init 213 = .ok (.aload_n 0, 1) := by decide +kernel
theorem dX11_init_214 : decode cX11_init 214 = .ok (.bipush 12, 2) := by decide +kernel
theorem dX11_init_216 : decode cX11_init 216 = .ok (.newarray .int, 2) := by decide +kernel
theorem dX11_init_218 : decode cX11_init 218 = .ok (.putfield 90, 3) := by decide +kernel
theorem dX11_init_221 : decode cX11_init 221 = .ok (.aload_n 0, 1) := by decide +kernel
theorem dX11_init_222 : decode cX11_init 222 = .ok (.bipush 12, 2) := by decide +kernel
theorem dX11_init_224 : decode cX11_init 224 = .ok (.newarray .int, 2) := by decide +kernel
theorem dX11_init_226 : decode cX11_init 226 = .ok (.putfield 93, 3) := by decide +kernel
theorem dX11_init_229 : decode cX11_init 229 = .ok (.aload_n 0, 1) := by decide +kernel
theorem dX11_init_230 : decode cX11_init 230 = .ok (.bipush 12, 2) := by decide +kernel
theorem dX11_init_232 : decode cX11_init 232 = .ok (.newarray .int, 2) := by decide +kernel
theorem dX11_init_234 : decode cX11_init 234 = .ok (.putfield 96, 3) := by decide +kernel
theorem dX11_init_237 : decode cX11_init 237 = .ok (.aload_n 0, 1) := by decide +kernel
theorem dX11_init_238 : decode cX11_init 238 = .ok (.iconst 4, 1) := by decide +kernel
theorem dX11_init_239 : decode cX11_init 239 = .ok (.newarray .int, 2) := by decide +kernel
theorem dX11_init_241 : decode cX11_init 241 = .ok (.putfield 99, 3) := by decide +kernel
theorem dX11_init_244 : decode cX11_init 244 = .ok (.aload_n 0, 1) := by decide +kernel
theorem dX11_init_245 : decode cX11_init 245 = .ok (.iconst 4, 1) := by decide +kernel
theorem dX11_init_246 : decode cX11_init 246 = .ok (.newarray .int, 2) := by decide +kernel
theorem dX11_init_248 : decode cX11_init 248 = .ok (.putfield 102, 3) := by decide +kernel
theorem dX11_init_251 : decode cX11_init 251 = .ok (.aload_n 0, 1) := by decide +kernel
theorem dX11_init_252 : decode cX11_init 252 = .ok (.sipush 160, 3) := by decide +kernel
theorem dX11_init_255 : decode cX11_init 255 = .ok (.newarray .int, 2) := by decide +kernel
theorem dX11_init_257 : decode cX11_init 257 = .ok (.putfield 105, 3) := by decide +kernel
theorem dX11_init_260 : decode cX11_init 260 = .ok (.iconst 0, 1) := by decide +kernel
theorem dX11_init_261 : decode cX11_init 261 = .ok (.istore_n 1, 1) := by decide +kernel
theorem dX11_init_262 : decode cX11_init 262 = .ok (.iload_n 1, 1) := by decide +kernel
theorem dX11_init_263 : decode cX11_init 263 = .ok (.iconst 4, 1) := by decide +kernel
theorem dX11_init_264 : decode cX11_init 264 = .ok (.if_icmp .ge 17, 3) := by decide +kernel
theorem dX11_init_267 : decode cX11_init 267 = .ok (.aload_n 0, 1) := by decide +kernel
theorem dX11_init_268 : decode cX11_init 268 = .ok (.getfield 99, 3) := by decide +kernel
theorem dX11_init_271 : decode cX11_init 271 = .ok (.iload_n 1, 1) := by decide +kernel
theorem dX11_init_272 : decode cX11_init 272 = .ok (.bipush (-4), 2) := by decide +kernel
theorem dX11_init_274 : decode cX11_init 274 = .ok (.iastore, 1) := by decide +kernel
theorem dX11_init_275 : decode cX11_init 275 = .ok (.iinc 1 1, 3) := by decide +kernel
theorem dX11_init_278 : decode cX11_init 278 = .ok (.goto (-16), 3) := by decide +kernel
theorem dX11_init_281 : decode cX11_init 281 = .ok (.aload_n 0, 1) := by decide +kernel
theorem dX11_init_282 : decode cX11_init 282 = .ok (.invokevirtual 108, 3) := by decide +kernel
theorem dX11_init_285 : decode cX11_init 285 = .ok (.return_, 1) := by decide +kernel
def zs0 : zS := (fun _ _ => 0, fun _ _ => 0, fun _ _ => 0)
def zr0 : Nat → Nat → Bool := fun _ _ => false
theorem fr0 : zfrM 0 zs0 zr0 := fun _ _ => ⟨fun _ => rfl, fun _ => rfl, fun _ => rfl⟩
def cs1 : zS := (zsI zs0 1 1 (0 : Int32))
def cr1 : Nat → Nat → Bool := (zrsM zr0 1 0)
theorem fr1 : zfrM 3 cs1 cr1 := by
  have h0 : zfrM 3 zs0 zr0 := fr0.mono (by decide)
  have h1 := h0.r (c := 1) (k := 0) (by decide)
  have h2 := h1.I (c := 1) (k := 1) (v := (0 : Int32)) (by decide)
  exact h2
def cs2 : zS := cs1
def cr2 : Nat → Nat → Bool := (zrsM cr1 0 0)
theorem frM2 : zfrM 4 cs2 cr2 := by
  have h0 : zfrM 4 cs1 cr1 := fr1.mono (by decide)
  have h1 := h0.r (c := 0) (k := 0) (by decide)
  exact h1
def cs3 : zS := (zsI (zsI (zsI (zsI (zsI (zsI cs2 3 0 (0 : Int32)) 3 5 (0 : Int32)) 3 13 (0 : Int32)) 3 14 (1 : Int32)) 3 15 (0 : Int32)) 3 16 (0 : Int32))
def cr3 : Nat → Nat → Bool := (zrsM (zrsM (zrsM (zrsM (zrsM (zrsM (zrsM (zrsM (zrsM (zrsM (zrsM (zrsM (zrsM cr2 3 1) 3 2) 3 3) 3 4) 3 6) 3 7) 3 8) 3 9) 3 10) 3 11) 3 12) 3 17) 3 18)
theorem fr3 : zfrM 33 cs3 cr3 := by
  have h0 : zfrM 33 cs2 cr2 := frM2.mono (by decide)
  have h1 := h0.I (c := 3) (k := 0) (v := (0 : Int32)) (by decide)
  have h2 := h1.r (c := 3) (k := 1) (by decide)
  have h3 := h2.r (c := 3) (k := 2) (by decide)
  have h4 := h3.r (c := 3) (k := 3) (by decide)
  have h5 := h4.r (c := 3) (k := 4) (by decide)
  have h6 := h5.I (c := 3) (k := 5) (v := (0 : Int32)) (by decide)
  have h7 := h6.r (c := 3) (k := 6) (by decide)
  have h8 := h7.r (c := 3) (k := 7) (by decide)
  have h9 := h8.r (c := 3) (k := 8) (by decide)
  have h10 := h9.r (c := 3) (k := 9) (by decide)
  have h11 := h10.r (c := 3) (k := 10) (by decide)
  have h12 := h11.r (c := 3) (k := 11) (by decide)
  have h13 := h12.r (c := 3) (k := 12) (by decide)
  have h14 := h13.I (c := 3) (k := 13) (v := (0 : Int32)) (by decide)
  have h15 := h14.I (c := 3) (k := 14) (v := (1 : Int32)) (by decide)
  have h16 := h15.I (c := 3) (k := 15) (v := (0 : Int32)) (by decide)
  have h17 := h16.I (c := 3) (k := 16) (v := (0 : Int32)) (by decide)
  have h18 := h17.r (c := 3) (k := 17) (by decide)
  have h19 := h18.r (c := 3) (k := 18) (by decide)
  exact h19
def cs4 : zS := (zsR cs3 0 1 3)
def cr4 : Nat → Nat → Bool := (zrsM cr3 0 1)
theorem fr4 : zfrM 34 cs4 cr4 := by
  have h0 : zfrM 34 cs3 cr3 := fr3.mono (by decide)
  have h1 := h0.R (c := 0) (k := 1) (v := 3)
  have h2 := h1.r (c := 0) (k := 1) (by decide)
  exact h2
def cs5 : zS := (zsI (zsI (zsI (zsI (zsI (zsI cs4 33 0 (0 : Int32)) 33 5 (0 : Int32)) 33 13 (0 : Int32)) 33 14 (1 : Int32)) 33 15 (0 : Int32)) 33 16 (0 : Int32))
def cr5 : Nat → Nat → Bool := (zrsM (zrsM (zrsM (zrsM (zrsM (zrsM (zrsM (zrsM (zrsM (zrsM (zrsM (zrsM (zrsM cr4 33 1) 33 2) 33 3) 33 4) 33 6) 33 7) 33 8) 33 9) 33 10) 33 11) 33 12) 33 17) 33 18)
theorem fr5 : zfrM 63 cs5 cr5 := by
  have h0 : zfrM 63 cs4 cr4 := fr4.mono (by decide)
  have h1 := h0.I (c := 33) (k := 0) (v := (0 : Int32)) (by decide)
  have h2 := h1.r (c := 33) (k := 1) (by decide)
  have h3 := h2.r (c := 33) (k := 2) (by decide)
  have h4 := h3.r (c := 33) (k := 3) (by decide)
  have h5 := h4.r (c := 33) (k := 4) (by decide)
  have h6 := h5.I (c := 33) (k := 5) (v := (0 : Int32)) (by decide)
  have h7 := h6.r (c := 33) (k := 6) (by decide)
  have h8 := h7.r (c := 33) (k := 7) (by decide)
  have h9 := h8.r (c := 33) (k := 8) (by decide)
  have h10 := h9.r (c := 33) (k := 9) (by decide)
  have h11 := h10.r (c := 33) (k := 10) (by decide)
  have h12 := h11.r (c := 33) (k := 11) (by decide)
  have h13 := h12.r (c := 33) (k := 12) (by decide)
  have h14 := h13.I (c := 33) (k := 13) (v := (0 : Int32)) (by decide)
  have h15 := h14.I (c := 33) (k := 14) (v := (1 : Int32)) (by decide)
  have h16 := h15.I (c := 33) (k := 15) (v := (0 : Int32)) (by decide)
  have h17 := h16.I (c := 33) (k := 16) (v := (0 : Int32)) (by decide)
  have h18 := h17.r (c := 33) (k := 17) (by decide)
  have h19 := h18.r (c := 33) (k := 18) (by decide)
  exact h19
def cs6 : zS := (zsR cs5 0 2 33)
def cr6 : Nat → Nat → Bool := (zrsM cr5 0 2)
theorem fr6 : zfrM 64 cs6 cr6 := by
  have h0 : zfrM 64 cs5 cr5 := fr5.mono (by decide)
  have h1 := h0.R (c := 0) (k := 2) (v := 33)
  have h2 := h1.r (c := 0) (k := 2) (by decide)
  exact h2
def cs7 : zS := (zsR (zsI (zsI (zsI (zsI (zsI (zsI cs6 63 2 (0 : Int32)) 63 3 (3 : Int32)) 63 4 (0 : Int32)) 63 5 (0 : Int32)) 63 6 (0 : Int32)) 63 7 (0 : Int32)) 63 1 33)
def cr7 : Nat → Nat → Bool := (zrsM (zrsM cr6 63 0) 63 1)
theorem fr7 : zfrM 64 cs7 cr7 := by
  have h0 : zfrM 64 cs6 cr6 := fr6.mono (by decide)
  have h1 := h0.I (c := 63) (k := 2) (v := (0 : Int32)) (by decide)
  have h2 := h1.I (c := 63) (k := 3) (v := (3 : Int32)) (by decide)
  have h3 := h2.I (c := 63) (k := 4) (v := (0 : Int32)) (by decide)
  have h4 := h3.I (c := 63) (k := 5) (v := (0 : Int32)) (by decide)
  have h5 := h4.I (c := 63) (k := 6) (v := (0 : Int32)) (by decide)
  have h6 := h5.I (c := 63) (k := 7) (v := (0 : Int32)) (by decide)
  have h7 := h6.r (c := 63) (k := 0) (by decide)
  have h8 := h7.R (c := 63) (k := 1) (v := 33)
  have h9 := h8.r (c := 63) (k := 1) (by decide)
  exact h9
def cs8 : zS := cs7
def cr8 : Nat → Nat → Bool := (zrsM cr7 0 3)
theorem fr8 : zfrM 65 cs8 cr8 := by
  have h0 : zfrM 65 cs7 cr7 := fr7.mono (by decide)
  have h1 := h0.r (c := 0) (k := 3) (by decide)
  exact h1
def cs9 : zS := cs8
def cr9 : Nat → Nat → Bool := (zrsM cr8 64 0)
theorem fr9 : zfrM 82 cs9 cr9 := by
  have h0 : zfrM 82 cs8 cr8 := fr8.mono (by decide)
  have h1 := h0.r (c := 64) (k := 0) (by decide)
  exact h1
def cs10 : zS := cs9
def cr10 : Nat → Nat → Bool := (zrsM cr9 0 4)
theorem fr10 : zfrM 83 cs10 cr10 := by
  have h0 : zfrM 83 cs9 cr9 := fr9.mono (by decide)
  have h1 := h0.r (c := 0) (k := 4) (by decide)
  exact h1
def cs11 : zS := (zsI (zsI cs10 82 0 (0 : Int32)) 82 6 (0 : Int32))
def cr11 : Nat → Nat → Bool := (zrsM (zrsM (zrsM (zrsM (zrsM cr10 82 1) 82 2) 82 3) 82 4) 82 5)
theorem fr11 : zfrM 88 cs11 cr11 := by
  have h0 : zfrM 88 cs10 cr10 := fr10.mono (by decide)
  have h1 := h0.I (c := 82) (k := 0) (v := (0 : Int32)) (by decide)
  have h2 := h1.r (c := 82) (k := 1) (by decide)
  have h3 := h2.r (c := 82) (k := 2) (by decide)
  have h4 := h3.r (c := 82) (k := 3) (by decide)
  have h5 := h4.r (c := 82) (k := 4) (by decide)
  have h6 := h5.r (c := 82) (k := 5) (by decide)
  have h7 := h6.I (c := 82) (k := 6) (v := (0 : Int32)) (by decide)
  exact h7
def cs12 : zS := cs11
def cr12 : Nat → Nat → Bool := (zrsM cr11 0 5)
theorem fr12 : zfrM 89 cs12 cr12 := by
  have h0 : zfrM 89 cs11 cr11 := fr11.mono (by decide)
  have h1 := h0.r (c := 0) (k := 5) (by decide)
  exact h1
def cs13 : zS := (zsI (zsI cs12 88 0 (0 : Int32)) 88 1 (0 : Int32))
def cr13 : Nat → Nat → Bool := cr12
theorem fr13 : zfrM 89 cs13 cr13 := by
  have h0 : zfrM 89 cs12 cr12 := fr12.mono (by decide)
  have h1 := h0.I (c := 88) (k := 0) (v := (0 : Int32)) (by decide)
  have h2 := h1.I (c := 88) (k := 1) (v := (0 : Int32)) (by decide)
  exact h2
def cs14 : zS := cs13
def cr14 : Nat → Nat → Bool := (zrsM cr13 0 6)
theorem fr14 : zfrM 90 cs14 cr14 := by
  have h0 : zfrM 90 cs13 cr13 := fr13.mono (by decide)
  have h1 := h0.r (c := 0) (k := 6) (by decide)
  exact h1
def cs15 : zS := (zsI (zsI cs14 89 1 (0 : Int32)) 89 2 (0 : Int32))
def cr15 : Nat → Nat → Bool := (zrsM cr14 89 0)
theorem fr15 : zfrM 91 cs15 cr15 := by
  have h0 : zfrM 91 cs14 cr14 := fr14.mono (by decide)
  have h1 := h0.r (c := 89) (k := 0) (by decide)
  have h2 := h1.I (c := 89) (k := 1) (v := (0 : Int32)) (by decide)
  have h3 := h2.I (c := 89) (k := 2) (v := (0 : Int32)) (by decide)
  exact h3
def cs16 : zS := cs15
def cr16 : Nat → Nat → Bool := (zrsM cr15 0 7)
theorem fr16 : zfrM 92 cs16 cr16 := by
  have h0 : zfrM 92 cs15 cr15 := fr15.mono (by decide)
  have h1 := h0.r (c := 0) (k := 7) (by decide)
  exact h1
def cs17 : zS := (zsI (zsI (zsI (zsI cs16 91 0 (0 : Int32)) 91 1 (0 : Int32)) 91 2 (0 : Int32)) 91 3 (0 : Int32))
def cr17 : Nat → Nat → Bool := cr16
theorem fr17 : zfrM 92 cs17 cr17 := by
  have h0 : zfrM 92 cs16 cr16 := fr16.mono (by decide)
  have h1 := h0.I (c := 91) (k := 0) (v := (0 : Int32)) (by decide)
  have h2 := h1.I (c := 91) (k := 1) (v := (0 : Int32)) (by decide)
  have h3 := h2.I (c := 91) (k := 2) (v := (0 : Int32)) (by decide)
  have h4 := h3.I (c := 91) (k := 3) (v := (0 : Int32)) (by decide)
  exact h4
def cs18 : zS := cs17
def cr18 : Nat → Nat → Bool := (zrsM cr17 0 8)
theorem fr18 : zfrM 93 cs18 cr18 := by
  have h0 : zfrM 93 cs17 cr17 := fr17.mono (by decide)
  have h1 := h0.r (c := 0) (k := 8) (by decide)
  exact h1
def cs19 : zS := (zsI (zsI cs18 92 0 (0 : Int32)) 92 4 (0 : Int32))
def cr19 : Nat → Nat → Bool := (zrsM (zrsM (zrsM (zrsM cr18 92 1) 92 2) 92 3) 92 5)
theorem fr19 : zfrM 97 cs19 cr19 := by
  have h0 : zfrM 97 cs18 cr18 := fr18.mono (by decide)
  have h1 := h0.I (c := 92) (k := 0) (v := (0 : Int32)) (by decide)
  have h2 := h1.r (c := 92) (k := 1) (by decide)
  have h3 := h2.r (c := 92) (k := 2) (by decide)
  have h4 := h3.r (c := 92) (k := 3) (by decide)
  have h5 := h4.I (c := 92) (k := 4) (v := (0 : Int32)) (by decide)
  have h6 := h5.r (c := 92) (k := 5) (by decide)
  exact h6
def cs20 : zS := cs19
def cr20 : Nat → Nat → Bool := (zrsM cr19 0 9)
theorem fr20 : zfrM 98 cs20 cr20 := by
  have h0 : zfrM 98 cs19 cr19 := fr19.mono (by decide)
  have h1 := h0.r (c := 0) (k := 9) (by decide)
  exact h1
def cs21 : zS := (zsI (zsI (zsI (zsI cs20 99 0 (-1 : Int32)) 99 1 (-1 : Int32)) 99 2 (-1 : Int32)) 99 3 (-1 : Int32))
def cr21 : Nat → Nat → Bool := (zrsM (zrsM (zrsM cr20 97 0) 97 1) 97 2)
theorem fr21 : zfrM 105 cs21 cr21 := by
  have h0 : zfrM 105 cs20 cr20 := fr20.mono (by decide)
  have h1 := h0.r (c := 97) (k := 0) (by decide)
  have h2 := h1.I (c := 99) (k := 0) (v := (-1 : Int32)) (by decide)
  have h3 := h2.I (c := 99) (k := 1) (v := (-1 : Int32)) (by decide)
  have h4 := h3.I (c := 99) (k := 2) (v := (-1 : Int32)) (by decide)
  have h5 := h4.I (c := 99) (k := 3) (v := (-1 : Int32)) (by decide)
  have h6 := h5.r (c := 97) (k := 1) (by decide)
  have h7 := h6.r (c := 97) (k := 2) (by decide)
  exact h7
def cs22 : zS := (zsI cs21 0 11 (0 : Int32))
def cr22 : Nat → Nat → Bool := (zrsM cr21 0 10)
theorem fr22 : zfrM 105 cs22 cr22 := by
  have h0 : zfrM 105 cs21 cr21 := fr21.mono (by decide)
  have h1 := h0.r (c := 0) (k := 10) (by decide)
  have h2 := h1.I (c := 0) (k := 11) (v := (0 : Int32)) (by decide)
  exact h2
def cs23 : zS := (zsI (zsI (zsI (zsI (zsI (zsI (zsI (zsI (zsI (zsI cs22 82 0 (2 : Int32)) 82 6 (0 : Int32)) 83 0 (255 : Int32)) 84 0 (8 : Int32)) 83 1 (255 : Int32)) 84 1 (8 : Int32)) 83 2 (255 : Int32)) 84 2 (8 : Int32)) 83 3 (255 : Int32)) 84 3 (8 : Int32))
def cr23 : Nat → Nat → Bool := cr22
theorem fr23 : zfrM 105 cs23 cr23 := by
  have h0 : zfrM 105 cs22 cr22 := fr22.mono (by decide)
  have h1 := h0.I (c := 82) (k := 0) (v := (2 : Int32)) (by decide)
  have h2 := h1.I (c := 82) (k := 6) (v := (0 : Int32)) (by decide)
  have h3 := h2.I (c := 83) (k := 0) (v := (255 : Int32)) (by decide)
  have h4 := h3.I (c := 84) (k := 0) (v := (8 : Int32)) (by decide)
  have h5 := h4.I (c := 83) (k := 1) (v := (255 : Int32)) (by decide)
  have h6 := h5.I (c := 84) (k := 1) (v := (8 : Int32)) (by decide)
  have h7 := h6.I (c := 83) (k := 2) (v := (255 : Int32)) (by decide)
  have h8 := h7.I (c := 84) (k := 2) (v := (8 : Int32)) (by decide)
  have h9 := h8.I (c := 83) (k := 3) (v := (255 : Int32)) (by decide)
  have h10 := h9.I (c := 84) (k := 3) (v := (8 : Int32)) (by decide)
  exact h10
def cs24 : zS := (zsI (zsI (zsI (zsI (zsI cs23 105 36 (2 : Int32)) 134 0 (-4 : Int32)) 134 1 (-4 : Int32)) 134 2 (-4 : Int32)) 134 3 (-4 : Int32))
def cr24 : Nat → Nat → Bool := (zrsM (zrsM (zrsM (zrsM (zrsM (zrsM (zrsM (zrsM (zrsM (zrsM (zrsM (zrsM (zrsM (zrsM (zrsM (zrsM (zrsM (zrsM (zrsM (zrsM (zrsM (zrsM (zrsM (zrsM (zrsM (zrsM (zrsM (zrsM (zrsM (zrsM (zrsM cr23 105 1) 105 2) 105 3) 105 5) 105 6) 105 8) 105 9) 105 12) 105 13) 105 14) 105 16) 105 17) 105 18) 105 20) 105 21) 105 24) 105 32) 105 33) 105 35) 105 37) 105 38) 105 39) 105 40) 105 42) 105 47) 105 50) 105 51) 105 52) 105 53) 105 54) 105 55)
theorem fr24 : zfrM 137 cs24 cr24 := by
  have h0 : zfrM 137 cs23 cr23 := fr23.mono (by decide)
  have h1 := h0.r (c := 105) (k := 1) (by decide)
  have h2 := h1.r (c := 105) (k := 2) (by decide)
  have h3 := h2.r (c := 105) (k := 3) (by decide)
  have h4 := h3.r (c := 105) (k := 5) (by decide)
  have h5 := h4.r (c := 105) (k := 6) (by decide)
  have h6 := h5.r (c := 105) (k := 8) (by decide)
  have h7 := h6.r (c := 105) (k := 9) (by decide)
  have h8 := h7.r (c := 105) (k := 12) (by decide)
  have h9 := h8.r (c := 105) (k := 13) (by decide)
  have h10 := h9.r (c := 105) (k := 14) (by decide)
  have h11 := h10.r (c := 105) (k := 16) (by decide)
  have h12 := h11.r (c := 105) (k := 17) (by decide)
  have h13 := h12.r (c := 105) (k := 18) (by decide)
  have h14 := h13.r (c := 105) (k := 20) (by decide)
  have h15 := h14.r (c := 105) (k := 21) (by decide)
  have h16 := h15.r (c := 105) (k := 24) (by decide)
  have h17 := h16.r (c := 105) (k := 32) (by decide)
  have h18 := h17.r (c := 105) (k := 33) (by decide)
  have h19 := h18.r (c := 105) (k := 35) (by decide)
  have h20 := h19.I (c := 105) (k := 36) (v := (2 : Int32)) (by decide)
  have h21 := h20.r (c := 105) (k := 37) (by decide)
  have h22 := h21.r (c := 105) (k := 38) (by decide)
  have h23 := h22.r (c := 105) (k := 39) (by decide)
  have h24 := h23.r (c := 105) (k := 40) (by decide)
  have h25 := h24.r (c := 105) (k := 42) (by decide)
  have h26 := h25.r (c := 105) (k := 47) (by decide)
  have h27 := h26.r (c := 105) (k := 50) (by decide)
  have h28 := h27.r (c := 105) (k := 51) (by decide)
  have h29 := h28.r (c := 105) (k := 52) (by decide)
  have h30 := h29.r (c := 105) (k := 53) (by decide)
  have h31 := h30.r (c := 105) (k := 54) (by decide)
  have h32 := h31.r (c := 105) (k := 55) (by decide)
  have h33 := h32.I (c := 134) (k := 0) (v := (-4 : Int32)) (by decide)
  have h34 := h33.I (c := 134) (k := 1) (v := (-4 : Int32)) (by decide)
  have h35 := h34.I (c := 134) (k := 2) (v := (-4 : Int32)) (by decide)
  have h36 := h35.I (c := 134) (k := 3) (v := (-4 : Int32)) (by decide)
  exact h36
def cs25 : zS := (zsI (zsI (zsI (zsI (zsI (zsI (zsI (zsI cs24 125 0 (255 : Int32)) 126 0 (8 : Int32)) 125 1 (255 : Int32)) 126 1 (8 : Int32)) 125 2 (255 : Int32)) 126 2 (8 : Int32)) 125 3 (255 : Int32)) 126 3 (8 : Int32))
def cr25 : Nat → Nat → Bool := cr24
theorem fr25 : zfrM 137 cs25 cr25 := by
  have h0 : zfrM 137 cs24 cr24 := fr24.mono (by decide)
  have h1 := h0.I (c := 125) (k := 0) (v := (255 : Int32)) (by decide)
  have h2 := h1.I (c := 126) (k := 0) (v := (8 : Int32)) (by decide)
  have h3 := h2.I (c := 125) (k := 1) (v := (255 : Int32)) (by decide)
  have h4 := h3.I (c := 126) (k := 1) (v := (8 : Int32)) (by decide)
  have h5 := h4.I (c := 125) (k := 2) (v := (255 : Int32)) (by decide)
  have h6 := h5.I (c := 126) (k := 2) (v := (8 : Int32)) (by decide)
  have h7 := h6.I (c := 125) (k := 3) (v := (255 : Int32)) (by decide)
  have h8 := h7.I (c := 126) (k := 3) (v := (8 : Int32)) (by decide)
  exact h8
theorem zdf_0 : ∀ k, k < 7 → defaultValue (tyX0 k) = zdf (zft 0 k).1 ∧ (zft 0 k).1 < 5 := by
  have h : ∀ k, k < 7 → (zft 0 k).1 < 5 := by decide +kernel
  intro k hk
  refine ⟨?_, h k hk⟩
  match k, hk with
  | 0, _ => rfl
  | 1, _ => rfl
  | 2, _ => rfl
  | 3, _ => rfl
  | 4, _ => rfl
  | 5, _ => rfl
  | 6, _ => rfl
  | k + 7, hk => omega
theorem zdf_1 : ∀ k, k < 1 → defaultValue (tyX1 k) = zdf (zft 1 k).1 ∧ (zft 1 k).1 < 5 := by
  have h : ∀ k, k < 1 → (zft 1 k).1 < 5 := by decide +kernel
  intro k hk
  refine ⟨?_, h k hk⟩
  match k, hk with
  | 0, _ => rfl
  | k + 1, hk => omega
theorem zdf_2 : ∀ k, k < 4 → defaultValue (tyX2 k) = zdf (zft 2 k).1 ∧ (zft 2 k).1 < 5 := by
  have h : ∀ k, k < 4 → (zft 2 k).1 < 5 := by decide +kernel
  intro k hk
  refine ⟨?_, h k hk⟩
  match k, hk with
  | 0, _ => rfl
  | 1, _ => rfl
  | 2, _ => rfl
  | 3, _ => rfl
  | k + 4, hk => omega
theorem zdf_3 : ∀ k, k < 19 → defaultValue (tyX3 k) = zdf (zft 3 k).1 ∧ (zft 3 k).1 < 5 := by
  have h : ∀ k, k < 19 → (zft 3 k).1 < 5 := by decide +kernel
  intro k hk
  refine ⟨?_, h k hk⟩
  match k, hk with
  | 0, _ => rfl
  | 1, _ => rfl
  | 2, _ => rfl
  | 3, _ => rfl
  | 4, _ => rfl
  | 5, _ => rfl
  | 6, _ => rfl
  | 7, _ => rfl
  | 8, _ => rfl
  | 9, _ => rfl
  | 10, _ => rfl
  | 11, _ => rfl
  | 12, _ => rfl
  | 13, _ => rfl
  | 14, _ => rfl
  | 15, _ => rfl
  | 16, _ => rfl
  | 17, _ => rfl
  | 18, _ => rfl
  | k + 19, hk => omega
theorem zdf_4 : ∀ k, k < 8 → defaultValue (tyX4 k) = zdf (zft 4 k).1 ∧ (zft 4 k).1 < 5 := by
  have h : ∀ k, k < 8 → (zft 4 k).1 < 5 := by decide +kernel
  intro k hk
  refine ⟨?_, h k hk⟩
  match k, hk with
  | 0, _ => rfl
  | 1, _ => rfl
  | 2, _ => rfl
  | 3, _ => rfl
  | 4, _ => rfl
  | 5, _ => rfl
  | 6, _ => rfl
  | 7, _ => rfl
  | k + 8, hk => omega
theorem zdf_5 : ∀ k, k < 6 → defaultValue (tyX5 k) = zdf (zft 5 k).1 ∧ (zft 5 k).1 < 5 := by
  have h : ∀ k, k < 6 → (zft 5 k).1 < 5 := by decide +kernel
  intro k hk
  refine ⟨?_, h k hk⟩
  match k, hk with
  | 0, _ => rfl
  | 1, _ => rfl
  | 2, _ => rfl
  | 3, _ => rfl
  | 4, _ => rfl
  | 5, _ => rfl
  | k + 6, hk => omega
theorem zdf_6 : ∀ k, k < 3 → defaultValue (tyX6 k) = zdf (zft 6 k).1 ∧ (zft 6 k).1 < 5 := by
  have h : ∀ k, k < 3 → (zft 6 k).1 < 5 := by decide +kernel
  intro k hk
  refine ⟨?_, h k hk⟩
  match k, hk with
  | 0, _ => rfl
  | 1, _ => rfl
  | 2, _ => rfl
  | k + 3, hk => omega
theorem zdf_7 : ∀ k, k < 3 → defaultValue (tyX7 k) = zdf (zft 7 k).1 ∧ (zft 7 k).1 < 5 := by
  have h : ∀ k, k < 3 → (zft 7 k).1 < 5 := by decide +kernel
  intro k hk
  refine ⟨?_, h k hk⟩
  match k, hk with
  | 0, _ => rfl
  | 1, _ => rfl
  | 2, _ => rfl
  | k + 3, hk => omega
theorem zdf_8 : ∀ k, k < 2 → defaultValue (tyX8 k) = zdf (zft 8 k).1 ∧ (zft 8 k).1 < 5 := by
  have h : ∀ k, k < 2 → (zft 8 k).1 < 5 := by decide +kernel
  intro k hk
  refine ⟨?_, h k hk⟩
  match k, hk with
  | 0, _ => rfl
  | 1, _ => rfl
  | k + 2, hk => omega
theorem zdf_9 : ∀ k, k < 2 → defaultValue (tyX9 k) = zdf (zft 9 k).1 ∧ (zft 9 k).1 < 5 := by
  have h : ∀ k, k < 2 → (zft 9 k).1 < 5 := by decide +kernel
  intro k hk
  refine ⟨?_, h k hk⟩
  match k, hk with
  | 0, _ => rfl
  | 1, _ => rfl
  | k + 2, hk => omega
theorem zdf_10 : ∀ k, k < 12 → defaultValue (tyX10 k) = zdf (zft 10 k).1 ∧ (zft 10 k).1 < 5 := by
  have h : ∀ k, k < 12 → (zft 10 k).1 < 5 := by decide +kernel
  intro k hk
  refine ⟨?_, h k hk⟩
  match k, hk with
  | 0, _ => rfl
  | 1, _ => rfl
  | 2, _ => rfl
  | 3, _ => rfl
  | 4, _ => rfl
  | 5, _ => rfl
  | 6, _ => rfl
  | 7, _ => rfl
  | 8, _ => rfl
  | 9, _ => rfl
  | 10, _ => rfl
  | 11, _ => rfl
  | k + 12, hk => omega
theorem zdf_11 : ∀ k, k < 56 → defaultValue (tyX11 k) = zdf (zft 11 k).1 ∧ (zft 11 k).1 < 5 := by
  have h : ∀ k, k < 56 → (zft 11 k).1 < 5 := by decide +kernel
  intro k hk
  refine ⟨?_, h k hk⟩
  match k, hk with
  | 0, _ => rfl
  | 1, _ => rfl
  | 2, _ => rfl
  | 3, _ => rfl
  | 4, _ => rfl
  | 5, _ => rfl
  | 6, _ => rfl
  | 7, _ => rfl
  | 8, _ => rfl
  | 9, _ => rfl
  | 10, _ => rfl
  | 11, _ => rfl
  | 12, _ => rfl
  | 13, _ => rfl
  | 14, _ => rfl
  | 15, _ => rfl
  | 16, _ => rfl
  | 17, _ => rfl
  | 18, _ => rfl
  | 19, _ => rfl
  | 20, _ => rfl
  | 21, _ => rfl
  | 22, _ => rfl
  | 23, _ => rfl
  | 24, _ => rfl
  | 25, _ => rfl
  | 26, _ => rfl
  | 27, _ => rfl
  | 28, _ => rfl
  | 29, _ => rfl
  | 30, _ => rfl
  | 31, _ => rfl
  | 32, _ => rfl
  | 33, _ => rfl
  | 34, _ => rfl
  | 35, _ => rfl
  | 36, _ => rfl
  | 37, _ => rfl
  | 38, _ => rfl
  | 39, _ => rfl
  | 40, _ => rfl
  | 41, _ => rfl
  | 42, _ => rfl
  | 43, _ => rfl
  | 44, _ => rfl
  | 45, _ => rfl
  | 46, _ => rfl
  | 47, _ => rfl
  | 48, _ => rfl
  | 49, _ => rfl
  | 50, _ => rfl
  | 51, _ => rfl
  | 52, _ => rfl
  | 53, _ => rfl
  | 54, _ => rfl
  | 55, _ => rfl
  | k + 56, hk => omega
set_option maxRecDepth 100000 in
set_option maxHeartbeats 4000000 in
theorem MC_X8_init_2 (G : zG) (l : Launch) (hF : zfrM 2 zs0 zr0) : zMV G l yX8_init cX8_init 1 none { frames := 1, cells := 1, slots := 320, locals := 12 } [.ref (G.1 + 1)] 2 (zenN G zs0 zr0) 3 (zenN G cs1 cr1) := by
  refine zentN (by decide +kernel) (Nat.le_of_ble_eq_true rfl) ?_
  intro p e s m args below meth c C hret hin0
  have hin : meth.name = "<init>" := hin0
  refine zr_sub [0] [(0, .ref (G.1 + 1))] rfl ?_
  refine zr_aload_n C 0 dX8_init_0 rfl ?_
  refine zn_oi C zm_3_9 zm_1_11 zm_1_12 (Nat.le_of_ble_eq_true rfl) (Nat.le_of_ble_eq_true rfl) dX8_init_1 ?_
  refine zr_aload_n C 0 dX8_init_4 rfl ?_
  refine zr_sipush C dX8_init_5 (v := (320 : Int32)) (by decide) ?_
  refine zn_newa_b C zk_2 hF zm_3_10 (by decide) (by decide) (Nat.le_of_ble_eq_true rfl) ⟨Nat.le_of_ble_eq_true rfl, Nat.le_of_ble_eq_true rfl⟩ dX8_init_8 (fun hF1 => ?_)
  refine zn_putR C 1 2 (by decide) zk_1 (rfl : zcl[8]? = some (RX8, TX8, 2)) (k := 0) ⟨by decide, by decide⟩ zm_3_11 (Or.inr ⟨rfl, hin, rfl⟩) (tyX8_ok 0 (by decide)) rfl rfl zf_8_0 (Or.inr ⟨rfl, rfl⟩) hF1 dX8_init_10 (fun hF2 => ?_)
  refine zr_aload_n C 0 dX8_init_13 rfl ?_
  refine zr_iconst C dX8_init_14 (v := (0 : Int32)) (by decide) ?_
  refine zn_putI C 1 (by decide) zk_1 (rfl : zcl[8]? = some (RX8, TX8, 2)) (k := 1) ⟨by decide, by decide⟩ zm_3_12 rfl (tyX8_ok 1 (by decide)) rfl rfl zf_8_1 hF2 dX8_init_15 (fun hF3 => ?_)
  exact zr_vret C hret rfl rfl dX8_init_18
set_option maxRecDepth 100000 in
set_option maxHeartbeats 4000000 in
theorem MC_X3_init_4 (G : zG) (l : Launch) (hF : zfrM 4 cs2 cr2) : zMV G l yX3_init cX3_init 1 none { frames := 1, cells := 29, slots := 12437, locals := 12 } [.ref (G.1 + 3)] 4 (zenN G cs2 cr2) 33 (zenN G cs3 cr3) := by
  refine zentN (by decide +kernel) (Nat.le_of_ble_eq_true rfl) ?_
  intro p e s m args below meth c C hret hin0
  have hin : meth.name = "<init>" := hin0
  refine zr_sub [0] [(0, .ref (G.1 + 3))] rfl ?_
  refine zr_aload_n C 0 dX3_init_0 rfl ?_
  refine zn_oi C zm_3_15 zm_1_11 zm_1_12 (Nat.le_of_ble_eq_true rfl) (Nat.le_of_ble_eq_true rfl) dX3_init_1 ?_
  refine zr_aload_n C 0 dX3_init_4 rfl ?_
  refine zr_iconst C dX3_init_5 (v := (0 : Int32)) (by decide) ?_
  refine zn_putI C 3 (by decide) zk_3 (rfl : zcl[3]? = some (RX3, TX3, 19)) (k := 0) ⟨by decide, by decide⟩ zm_3_16 rfl (tyX3_ok 0 (by decide)) rfl rfl zf_3_0 hF dX3_init_6 (fun hF1 => ?_)
  refine zr_aload_n C 0 dX3_init_9 rfl ?_
  refine zr_bipush C dX3_init_10 (v := (16 : Int32)) (by decide) ?_
  refine zn_newa_i C zk_4 hF1 zm_3_17 (by decide) (by decide) (Nat.le_of_ble_eq_true rfl) ⟨Nat.le_of_ble_eq_true rfl, Nat.le_of_ble_eq_true rfl⟩ dX3_init_12 (fun hF2 => ?_)
  refine zn_putR C 3 4 (by decide) zk_3 (rfl : zcl[3]? = some (RX3, TX3, 19)) (k := 1) ⟨by decide, by decide⟩ zm_3_18 (Or.inr ⟨rfl, hin, rfl⟩) (tyX3_ok 1 (by decide)) rfl rfl zf_3_1 (Or.inl ⟨rfl, rfl⟩) hF2 dX3_init_14 (fun hF3 => ?_)
  refine zr_aload_n C 0 dX3_init_17 rfl ?_
  refine zr_bipush C dX3_init_18 (v := (16 : Int32)) (by decide) ?_
  refine zn_newa_i C zk_5 hF3 zm_3_17 (by decide) (by decide) (Nat.le_of_ble_eq_true rfl) ⟨Nat.le_of_ble_eq_true rfl, Nat.le_of_ble_eq_true rfl⟩ dX3_init_20 (fun hF4 => ?_)
  refine zn_putR C 3 5 (by decide) zk_3 (rfl : zcl[3]? = some (RX3, TX3, 19)) (k := 2) ⟨by decide, by decide⟩ zm_3_19 (Or.inr ⟨rfl, hin, rfl⟩) (tyX3_ok 2 (by decide)) rfl rfl zf_3_2 (Or.inl ⟨rfl, rfl⟩) hF4 dX3_init_22 (fun hF5 => ?_)
  refine zr_aload_n C 0 dX3_init_25 rfl ?_
  refine zr_bipush C dX3_init_26 (v := (16 : Int32)) (by decide) ?_
  refine zn_newa_i C zk_6 hF5 zm_3_17 (by decide) (by decide) (Nat.le_of_ble_eq_true rfl) ⟨Nat.le_of_ble_eq_true rfl, Nat.le_of_ble_eq_true rfl⟩ dX3_init_28 (fun hF6 => ?_)
  refine zn_putR C 3 6 (by decide) zk_3 (rfl : zcl[3]? = some (RX3, TX3, 19)) (k := 3) ⟨by decide, by decide⟩ zm_3_20 (Or.inr ⟨rfl, hin, rfl⟩) (tyX3_ok 3 (by decide)) rfl rfl zf_3_3 (Or.inl ⟨rfl, rfl⟩) hF6 dX3_init_30 (fun hF7 => ?_)
  refine zr_aload_n C 0 dX3_init_33 rfl ?_
  refine zr_bipush C dX3_init_34 (v := (16 : Int32)) (by decide) ?_
  refine zr_bipush C dX3_init_36 (v := (8 : Int32)) (by decide) ?_
  refine zn_mna C zk_7 (K := 8) (by decide +kernel) hF7 zm_3_21 zm_3_17 (by decide) (by decide) (by decide) (by decide) ⟨Nat.le_of_ble_eq_true rfl, Nat.le_of_ble_eq_true rfl⟩ ⟨Nat.le_of_ble_eq_true rfl, Nat.le_of_ble_eq_true rfl⟩ dX3_init_38 (fun hF8 => ?_)
  refine zn_putR C 3 7 (by decide) zk_3 (rfl : zcl[3]? = some (RX3, TX3, 19)) (k := 4) ⟨by decide, by decide⟩ zm_3_22 (Or.inr ⟨rfl, hin, rfl⟩) (tyX3_ok 4 (by decide)) rfl rfl zf_3_4 (Or.inl ⟨rfl, rfl⟩) hF8 dX3_init_42 (fun hF9 => ?_)
  refine zr_aload_n C 0 dX3_init_45 rfl ?_
  refine zr_iconst C dX3_init_46 (v := (0 : Int32)) (by decide) ?_
  refine zn_putI C 3 (by decide) zk_3 (rfl : zcl[3]? = some (RX3, TX3, 19)) (k := 5) ⟨by decide, by decide⟩ zm_3_23 rfl (tyX3_ok 5 (by decide)) rfl rfl zf_3_5 hF9 dX3_init_47 (fun hF10 => ?_)
  refine zr_aload_n C 0 dX3_init_50 rfl ?_
  refine zr_bipush C dX3_init_51 (v := (40 : Int32)) (by decide) ?_
  refine zn_newa_i C zk_24 hF10 zm_3_17 (by decide) (by decide) (Nat.le_of_ble_eq_true rfl) ⟨Nat.le_of_ble_eq_true rfl, Nat.le_of_ble_eq_true rfl⟩ dX3_init_53 (fun hF11 => ?_)
  refine zn_putR C 3 24 (by decide) zk_3 (rfl : zcl[3]? = some (RX3, TX3, 19)) (k := 6) ⟨by decide, by decide⟩ zm_4_0 (Or.inr ⟨rfl, hin, rfl⟩) (tyX3_ok 6 (by decide)) rfl rfl zf_3_6 (Or.inl ⟨rfl, rfl⟩) hF11 dX3_init_55 (fun hF12 => ?_)
  refine zr_aload_n C 0 dX3_init_58 rfl ?_
  refine zr_bipush C dX3_init_59 (v := (40 : Int32)) (by decide) ?_
  refine zn_newa_i C zk_25 hF12 zm_3_17 (by decide) (by decide) (Nat.le_of_ble_eq_true rfl) ⟨Nat.le_of_ble_eq_true rfl, Nat.le_of_ble_eq_true rfl⟩ dX3_init_61 (fun hF13 => ?_)
  refine zn_putR C 3 25 (by decide) zk_3 (rfl : zcl[3]? = some (RX3, TX3, 19)) (k := 7) ⟨by decide, by decide⟩ zm_4_1 (Or.inr ⟨rfl, hin, rfl⟩) (tyX3_ok 7 (by decide)) rfl rfl zf_3_7 (Or.inl ⟨rfl, rfl⟩) hF13 dX3_init_63 (fun hF14 => ?_)
  refine zr_aload_n C 0 dX3_init_66 rfl ?_
  refine zr_bipush C dX3_init_67 (v := (40 : Int32)) (by decide) ?_
  refine zn_newa_i C zk_26 hF14 zm_3_17 (by decide) (by decide) (Nat.le_of_ble_eq_true rfl) ⟨Nat.le_of_ble_eq_true rfl, Nat.le_of_ble_eq_true rfl⟩ dX3_init_69 (fun hF15 => ?_)
  refine zn_putR C 3 26 (by decide) zk_3 (rfl : zcl[3]? = some (RX3, TX3, 19)) (k := 8) ⟨by decide, by decide⟩ zm_4_2 (Or.inr ⟨rfl, hin, rfl⟩) (tyX3_ok 8 (by decide)) rfl rfl zf_3_8 (Or.inl ⟨rfl, rfl⟩) hF15 dX3_init_71 (fun hF16 => ?_)
  refine zr_aload_n C 0 dX3_init_74 rfl ?_
  refine zr_bipush C dX3_init_75 (v := (40 : Int32)) (by decide) ?_
  refine zn_newa_i C zk_27 hF16 zm_3_17 (by decide) (by decide) (Nat.le_of_ble_eq_true rfl) ⟨Nat.le_of_ble_eq_true rfl, Nat.le_of_ble_eq_true rfl⟩ dX3_init_77 (fun hF17 => ?_)
  refine zn_putR C 3 27 (by decide) zk_3 (rfl : zcl[3]? = some (RX3, TX3, 19)) (k := 9) ⟨by decide, by decide⟩ zm_4_3 (Or.inr ⟨rfl, hin, rfl⟩) (tyX3_ok 9 (by decide)) rfl rfl zf_3_9 (Or.inl ⟨rfl, rfl⟩) hF17 dX3_init_79 (fun hF18 => ?_)
  refine zr_aload_n C 0 dX3_init_82 rfl ?_
  refine zr_bipush C dX3_init_83 (v := (40 : Int32)) (by decide) ?_
  refine zn_newa_i C zk_28 hF18 zm_3_17 (by decide) (by decide) (Nat.le_of_ble_eq_true rfl) ⟨Nat.le_of_ble_eq_true rfl, Nat.le_of_ble_eq_true rfl⟩ dX3_init_85 (fun hF19 => ?_)
  refine zn_putR C 3 28 (by decide) zk_3 (rfl : zcl[3]? = some (RX3, TX3, 19)) (k := 10) ⟨by decide, by decide⟩ zm_4_4 (Or.inr ⟨rfl, hin, rfl⟩) (tyX3_ok 10 (by decide)) rfl rfl zf_3_10 (Or.inl ⟨rfl, rfl⟩) hF19 dX3_init_87 (fun hF20 => ?_)
  refine zr_aload_n C 0 dX3_init_90 rfl ?_
  refine zr_bipush C dX3_init_91 (v := (40 : Int32)) (by decide) ?_
  refine zn_newa_i C zk_29 hF20 zm_3_17 (by decide) (by decide) (Nat.le_of_ble_eq_true rfl) ⟨Nat.le_of_ble_eq_true rfl, Nat.le_of_ble_eq_true rfl⟩ dX3_init_93 (fun hF21 => ?_)
  refine zn_putR C 3 29 (by decide) zk_3 (rfl : zcl[3]? = some (RX3, TX3, 19)) (k := 11) ⟨by decide, by decide⟩ zm_4_5 (Or.inr ⟨rfl, hin, rfl⟩) (tyX3_ok 11 (by decide)) rfl rfl zf_3_11 (Or.inl ⟨rfl, rfl⟩) hF21 dX3_init_95 (fun hF22 => ?_)
  refine zr_aload_n C 0 dX3_init_98 rfl ?_
  refine zr_iconst C dX3_init_99 (v := (4 : Int32)) (by decide) ?_
  refine zn_newa_i C zk_30 hF22 zm_3_17 (by decide) (by decide) (Nat.le_of_ble_eq_true rfl) ⟨Nat.le_of_ble_eq_true rfl, Nat.le_of_ble_eq_true rfl⟩ dX3_init_100 (fun hF23 => ?_)
  refine zn_putR C 3 30 (by decide) zk_3 (rfl : zcl[3]? = some (RX3, TX3, 19)) (k := 12) ⟨by decide, by decide⟩ zm_4_6 (Or.inr ⟨rfl, hin, rfl⟩) (tyX3_ok 12 (by decide)) rfl rfl zf_3_12 (Or.inl ⟨rfl, rfl⟩) hF23 dX3_init_102 (fun hF24 => ?_)
  refine zr_aload_n C 0 dX3_init_105 rfl ?_
  refine zr_iconst C dX3_init_106 (v := (0 : Int32)) (by decide) ?_
  refine zn_putI C 3 (by decide) zk_3 (rfl : zcl[3]? = some (RX3, TX3, 19)) (k := 13) ⟨by decide, by decide⟩ zm_4_7 rfl (tyX3_ok 13 (by decide)) rfl rfl zf_3_13 hF24 dX3_init_107 (fun hF25 => ?_)
  refine zr_aload_n C 0 dX3_init_110 rfl ?_
  refine zr_iconst C dX3_init_111 (v := (1 : Int32)) (by decide) ?_
  refine zn_putI C 3 (by decide) zk_3 (rfl : zcl[3]? = some (RX3, TX3, 19)) (k := 14) ⟨by decide, by decide⟩ zm_4_8 rfl (tyX3_ok 14 (by decide)) rfl rfl zf_3_14 hF25 dX3_init_112 (fun hF26 => ?_)
  refine zr_aload_n C 0 dX3_init_115 rfl ?_
  refine zr_iconst C dX3_init_116 (v := (0 : Int32)) (by decide) ?_
  refine zn_putI C 3 (by decide) zk_3 (rfl : zcl[3]? = some (RX3, TX3, 19)) (k := 15) ⟨by decide, by decide⟩ zm_4_9 rfl (tyX3_ok 15 (by decide)) rfl rfl zf_3_15 hF26 dX3_init_117 (fun hF27 => ?_)
  refine zr_aload_n C 0 dX3_init_120 rfl ?_
  refine zr_iconst C dX3_init_121 (v := (0 : Int32)) (by decide) ?_
  refine zn_putI C 3 (by decide) zk_3 (rfl : zcl[3]? = some (RX3, TX3, 19)) (k := 16) ⟨by decide, by decide⟩ zm_4_10 rfl (tyX3_ok 16 (by decide)) rfl rfl zf_3_16 hF27 dX3_init_122 (fun hF28 => ?_)
  refine zr_aload_n C 0 dX3_init_125 rfl ?_
  refine zr_sipush C dX3_init_126 (v := (6000 : Int32)) (by decide) ?_
  refine zn_newa_b C zk_31 hF28 zm_3_10 (by decide) (by decide) (Nat.le_of_ble_eq_true rfl) ⟨Nat.le_of_ble_eq_true rfl, Nat.le_of_ble_eq_true rfl⟩ dX3_init_129 (fun hF29 => ?_)
  refine zn_putR C 3 31 (by decide) zk_3 (rfl : zcl[3]? = some (RX3, TX3, 19)) (k := 17) ⟨by decide, by decide⟩ zm_4_11 (Or.inr ⟨rfl, hin, rfl⟩) (tyX3_ok 17 (by decide)) rfl rfl zf_3_17 (Or.inl ⟨rfl, rfl⟩) hF29 dX3_init_131 (fun hF30 => ?_)
  refine zr_aload_n C 0 dX3_init_134 rfl ?_
  refine zr_sipush C dX3_init_135 (v := (6001 : Int32)) (by decide) ?_
  refine zn_newa_i C zk_32 hF30 zm_3_17 (by decide) (by decide) (Nat.le_of_ble_eq_true rfl) ⟨Nat.le_of_ble_eq_true rfl, Nat.le_of_ble_eq_true rfl⟩ dX3_init_138 (fun hF31 => ?_)
  refine zn_putR C 3 32 (by decide) zk_3 (rfl : zcl[3]? = some (RX3, TX3, 19)) (k := 18) ⟨by decide, by decide⟩ zm_4_12 (Or.inr ⟨rfl, hin, rfl⟩) (tyX3_ok 18 (by decide)) rfl rfl zf_3_18 (Or.inl ⟨rfl, rfl⟩) hF31 dX3_init_140 (fun hF32 => ?_)
  exact zr_vret C hret rfl rfl dX3_init_143
set_option maxRecDepth 100000 in
set_option maxHeartbeats 4000000 in
theorem MC_X3_init_34 (G : zG) (l : Launch) (hF : zfrM 34 cs4 cr4) : zMV G l yX3_init cX3_init 1 none { frames := 1, cells := 29, slots := 12437, locals := 12 } [.ref (G.1 + 33)] 34 (zenN G cs4 cr4) 63 (zenN G cs5 cr5) := by
  refine zentN (by decide +kernel) (Nat.le_of_ble_eq_true rfl) ?_
  intro p e s m args below meth c C hret hin0
  have hin : meth.name = "<init>" := hin0
  refine zr_sub [0] [(0, .ref (G.1 + 33))] rfl ?_
  refine zr_aload_n C 0 dX3_init_0 rfl ?_
  refine zn_oi C zm_3_15 zm_1_11 zm_1_12 (Nat.le_of_ble_eq_true rfl) (Nat.le_of_ble_eq_true rfl) dX3_init_1 ?_
  refine zr_aload_n C 0 dX3_init_4 rfl ?_
  refine zr_iconst C dX3_init_5 (v := (0 : Int32)) (by decide) ?_
  refine zn_putI C 33 (by decide) zk_33 (rfl : zcl[3]? = some (RX3, TX3, 19)) (k := 0) ⟨by decide, by decide⟩ zm_3_16 rfl (tyX3_ok 0 (by decide)) rfl rfl zf_3_0 hF dX3_init_6 (fun hF1 => ?_)
  refine zr_aload_n C 0 dX3_init_9 rfl ?_
  refine zr_bipush C dX3_init_10 (v := (16 : Int32)) (by decide) ?_
  refine zn_newa_i C zk_34 hF1 zm_3_17 (by decide) (by decide) (Nat.le_of_ble_eq_true rfl) ⟨Nat.le_of_ble_eq_true rfl, Nat.le_of_ble_eq_true rfl⟩ dX3_init_12 (fun hF2 => ?_)
  refine zn_putR C 33 34 (by decide) zk_33 (rfl : zcl[3]? = some (RX3, TX3, 19)) (k := 1) ⟨by decide, by decide⟩ zm_3_18 (Or.inr ⟨rfl, hin, rfl⟩) (tyX3_ok 1 (by decide)) rfl rfl zf_3_1 (Or.inl ⟨rfl, rfl⟩) hF2 dX3_init_14 (fun hF3 => ?_)
  refine zr_aload_n C 0 dX3_init_17 rfl ?_
  refine zr_bipush C dX3_init_18 (v := (16 : Int32)) (by decide) ?_
  refine zn_newa_i C zk_35 hF3 zm_3_17 (by decide) (by decide) (Nat.le_of_ble_eq_true rfl) ⟨Nat.le_of_ble_eq_true rfl, Nat.le_of_ble_eq_true rfl⟩ dX3_init_20 (fun hF4 => ?_)
  refine zn_putR C 33 35 (by decide) zk_33 (rfl : zcl[3]? = some (RX3, TX3, 19)) (k := 2) ⟨by decide, by decide⟩ zm_3_19 (Or.inr ⟨rfl, hin, rfl⟩) (tyX3_ok 2 (by decide)) rfl rfl zf_3_2 (Or.inl ⟨rfl, rfl⟩) hF4 dX3_init_22 (fun hF5 => ?_)
  refine zr_aload_n C 0 dX3_init_25 rfl ?_
  refine zr_bipush C dX3_init_26 (v := (16 : Int32)) (by decide) ?_
  refine zn_newa_i C zk_36 hF5 zm_3_17 (by decide) (by decide) (Nat.le_of_ble_eq_true rfl) ⟨Nat.le_of_ble_eq_true rfl, Nat.le_of_ble_eq_true rfl⟩ dX3_init_28 (fun hF6 => ?_)
  refine zn_putR C 33 36 (by decide) zk_33 (rfl : zcl[3]? = some (RX3, TX3, 19)) (k := 3) ⟨by decide, by decide⟩ zm_3_20 (Or.inr ⟨rfl, hin, rfl⟩) (tyX3_ok 3 (by decide)) rfl rfl zf_3_3 (Or.inl ⟨rfl, rfl⟩) hF6 dX3_init_30 (fun hF7 => ?_)
  refine zr_aload_n C 0 dX3_init_33 rfl ?_
  refine zr_bipush C dX3_init_34 (v := (16 : Int32)) (by decide) ?_
  refine zr_bipush C dX3_init_36 (v := (8 : Int32)) (by decide) ?_
  refine zn_mna C zk_37 (K := 8) (by decide +kernel) hF7 zm_3_21 zm_3_17 (by decide) (by decide) (by decide) (by decide) ⟨Nat.le_of_ble_eq_true rfl, Nat.le_of_ble_eq_true rfl⟩ ⟨Nat.le_of_ble_eq_true rfl, Nat.le_of_ble_eq_true rfl⟩ dX3_init_38 (fun hF8 => ?_)
  refine zn_putR C 33 37 (by decide) zk_33 (rfl : zcl[3]? = some (RX3, TX3, 19)) (k := 4) ⟨by decide, by decide⟩ zm_3_22 (Or.inr ⟨rfl, hin, rfl⟩) (tyX3_ok 4 (by decide)) rfl rfl zf_3_4 (Or.inl ⟨rfl, rfl⟩) hF8 dX3_init_42 (fun hF9 => ?_)
  refine zr_aload_n C 0 dX3_init_45 rfl ?_
  refine zr_iconst C dX3_init_46 (v := (0 : Int32)) (by decide) ?_
  refine zn_putI C 33 (by decide) zk_33 (rfl : zcl[3]? = some (RX3, TX3, 19)) (k := 5) ⟨by decide, by decide⟩ zm_3_23 rfl (tyX3_ok 5 (by decide)) rfl rfl zf_3_5 hF9 dX3_init_47 (fun hF10 => ?_)
  refine zr_aload_n C 0 dX3_init_50 rfl ?_
  refine zr_bipush C dX3_init_51 (v := (40 : Int32)) (by decide) ?_
  refine zn_newa_i C zk_54 hF10 zm_3_17 (by decide) (by decide) (Nat.le_of_ble_eq_true rfl) ⟨Nat.le_of_ble_eq_true rfl, Nat.le_of_ble_eq_true rfl⟩ dX3_init_53 (fun hF11 => ?_)
  refine zn_putR C 33 54 (by decide) zk_33 (rfl : zcl[3]? = some (RX3, TX3, 19)) (k := 6) ⟨by decide, by decide⟩ zm_4_0 (Or.inr ⟨rfl, hin, rfl⟩) (tyX3_ok 6 (by decide)) rfl rfl zf_3_6 (Or.inl ⟨rfl, rfl⟩) hF11 dX3_init_55 (fun hF12 => ?_)
  refine zr_aload_n C 0 dX3_init_58 rfl ?_
  refine zr_bipush C dX3_init_59 (v := (40 : Int32)) (by decide) ?_
  refine zn_newa_i C zk_55 hF12 zm_3_17 (by decide) (by decide) (Nat.le_of_ble_eq_true rfl) ⟨Nat.le_of_ble_eq_true rfl, Nat.le_of_ble_eq_true rfl⟩ dX3_init_61 (fun hF13 => ?_)
  refine zn_putR C 33 55 (by decide) zk_33 (rfl : zcl[3]? = some (RX3, TX3, 19)) (k := 7) ⟨by decide, by decide⟩ zm_4_1 (Or.inr ⟨rfl, hin, rfl⟩) (tyX3_ok 7 (by decide)) rfl rfl zf_3_7 (Or.inl ⟨rfl, rfl⟩) hF13 dX3_init_63 (fun hF14 => ?_)
  refine zr_aload_n C 0 dX3_init_66 rfl ?_
  refine zr_bipush C dX3_init_67 (v := (40 : Int32)) (by decide) ?_
  refine zn_newa_i C zk_56 hF14 zm_3_17 (by decide) (by decide) (Nat.le_of_ble_eq_true rfl) ⟨Nat.le_of_ble_eq_true rfl, Nat.le_of_ble_eq_true rfl⟩ dX3_init_69 (fun hF15 => ?_)
  refine zn_putR C 33 56 (by decide) zk_33 (rfl : zcl[3]? = some (RX3, TX3, 19)) (k := 8) ⟨by decide, by decide⟩ zm_4_2 (Or.inr ⟨rfl, hin, rfl⟩) (tyX3_ok 8 (by decide)) rfl rfl zf_3_8 (Or.inl ⟨rfl, rfl⟩) hF15 dX3_init_71 (fun hF16 => ?_)
  refine zr_aload_n C 0 dX3_init_74 rfl ?_
  refine zr_bipush C dX3_init_75 (v := (40 : Int32)) (by decide) ?_
  refine zn_newa_i C zk_57 hF16 zm_3_17 (by decide) (by decide) (Nat.le_of_ble_eq_true rfl) ⟨Nat.le_of_ble_eq_true rfl, Nat.le_of_ble_eq_true rfl⟩ dX3_init_77 (fun hF17 => ?_)
  refine zn_putR C 33 57 (by decide) zk_33 (rfl : zcl[3]? = some (RX3, TX3, 19)) (k := 9) ⟨by decide, by decide⟩ zm_4_3 (Or.inr ⟨rfl, hin, rfl⟩) (tyX3_ok 9 (by decide)) rfl rfl zf_3_9 (Or.inl ⟨rfl, rfl⟩) hF17 dX3_init_79 (fun hF18 => ?_)
  refine zr_aload_n C 0 dX3_init_82 rfl ?_
  refine zr_bipush C dX3_init_83 (v := (40 : Int32)) (by decide) ?_
  refine zn_newa_i C zk_58 hF18 zm_3_17 (by decide) (by decide) (Nat.le_of_ble_eq_true rfl) ⟨Nat.le_of_ble_eq_true rfl, Nat.le_of_ble_eq_true rfl⟩ dX3_init_85 (fun hF19 => ?_)
  refine zn_putR C 33 58 (by decide) zk_33 (rfl : zcl[3]? = some (RX3, TX3, 19)) (k := 10) ⟨by decide, by decide⟩ zm_4_4 (Or.inr ⟨rfl, hin, rfl⟩) (tyX3_ok 10 (by decide)) rfl rfl zf_3_10 (Or.inl ⟨rfl, rfl⟩) hF19 dX3_init_87 (fun hF20 => ?_)
  refine zr_aload_n C 0 dX3_init_90 rfl ?_
  refine zr_bipush C dX3_init_91 (v := (40 : Int32)) (by decide) ?_
  refine zn_newa_i C zk_59 hF20 zm_3_17 (by decide) (by decide) (Nat.le_of_ble_eq_true rfl) ⟨Nat.le_of_ble_eq_true rfl, Nat.le_of_ble_eq_true rfl⟩ dX3_init_93 (fun hF21 => ?_)
  refine zn_putR C 33 59 (by decide) zk_33 (rfl : zcl[3]? = some (RX3, TX3, 19)) (k := 11) ⟨by decide, by decide⟩ zm_4_5 (Or.inr ⟨rfl, hin, rfl⟩) (tyX3_ok 11 (by decide)) rfl rfl zf_3_11 (Or.inl ⟨rfl, rfl⟩) hF21 dX3_init_95 (fun hF22 => ?_)
  refine zr_aload_n C 0 dX3_init_98 rfl ?_
  refine zr_iconst C dX3_init_99 (v := (4 : Int32)) (by decide) ?_
  refine zn_newa_i C zk_60 hF22 zm_3_17 (by decide) (by decide) (Nat.le_of_ble_eq_true rfl) ⟨Nat.le_of_ble_eq_true rfl, Nat.le_of_ble_eq_true rfl⟩ dX3_init_100 (fun hF23 => ?_)
  refine zn_putR C 33 60 (by decide) zk_33 (rfl : zcl[3]? = some (RX3, TX3, 19)) (k := 12) ⟨by decide, by decide⟩ zm_4_6 (Or.inr ⟨rfl, hin, rfl⟩) (tyX3_ok 12 (by decide)) rfl rfl zf_3_12 (Or.inl ⟨rfl, rfl⟩) hF23 dX3_init_102 (fun hF24 => ?_)
  refine zr_aload_n C 0 dX3_init_105 rfl ?_
  refine zr_iconst C dX3_init_106 (v := (0 : Int32)) (by decide) ?_
  refine zn_putI C 33 (by decide) zk_33 (rfl : zcl[3]? = some (RX3, TX3, 19)) (k := 13) ⟨by decide, by decide⟩ zm_4_7 rfl (tyX3_ok 13 (by decide)) rfl rfl zf_3_13 hF24 dX3_init_107 (fun hF25 => ?_)
  refine zr_aload_n C 0 dX3_init_110 rfl ?_
  refine zr_iconst C dX3_init_111 (v := (1 : Int32)) (by decide) ?_
  refine zn_putI C 33 (by decide) zk_33 (rfl : zcl[3]? = some (RX3, TX3, 19)) (k := 14) ⟨by decide, by decide⟩ zm_4_8 rfl (tyX3_ok 14 (by decide)) rfl rfl zf_3_14 hF25 dX3_init_112 (fun hF26 => ?_)
  refine zr_aload_n C 0 dX3_init_115 rfl ?_
  refine zr_iconst C dX3_init_116 (v := (0 : Int32)) (by decide) ?_
  refine zn_putI C 33 (by decide) zk_33 (rfl : zcl[3]? = some (RX3, TX3, 19)) (k := 15) ⟨by decide, by decide⟩ zm_4_9 rfl (tyX3_ok 15 (by decide)) rfl rfl zf_3_15 hF26 dX3_init_117 (fun hF27 => ?_)
  refine zr_aload_n C 0 dX3_init_120 rfl ?_
  refine zr_iconst C dX3_init_121 (v := (0 : Int32)) (by decide) ?_
  refine zn_putI C 33 (by decide) zk_33 (rfl : zcl[3]? = some (RX3, TX3, 19)) (k := 16) ⟨by decide, by decide⟩ zm_4_10 rfl (tyX3_ok 16 (by decide)) rfl rfl zf_3_16 hF27 dX3_init_122 (fun hF28 => ?_)
  refine zr_aload_n C 0 dX3_init_125 rfl ?_
  refine zr_sipush C dX3_init_126 (v := (6000 : Int32)) (by decide) ?_
  refine zn_newa_b C zk_61 hF28 zm_3_10 (by decide) (by decide) (Nat.le_of_ble_eq_true rfl) ⟨Nat.le_of_ble_eq_true rfl, Nat.le_of_ble_eq_true rfl⟩ dX3_init_129 (fun hF29 => ?_)
  refine zn_putR C 33 61 (by decide) zk_33 (rfl : zcl[3]? = some (RX3, TX3, 19)) (k := 17) ⟨by decide, by decide⟩ zm_4_11 (Or.inr ⟨rfl, hin, rfl⟩) (tyX3_ok 17 (by decide)) rfl rfl zf_3_17 (Or.inl ⟨rfl, rfl⟩) hF29 dX3_init_131 (fun hF30 => ?_)
  refine zr_aload_n C 0 dX3_init_134 rfl ?_
  refine zr_sipush C dX3_init_135 (v := (6001 : Int32)) (by decide) ?_
  refine zn_newa_i C zk_62 hF30 zm_3_17 (by decide) (by decide) (Nat.le_of_ble_eq_true rfl) ⟨Nat.le_of_ble_eq_true rfl, Nat.le_of_ble_eq_true rfl⟩ dX3_init_138 (fun hF31 => ?_)
  refine zn_putR C 33 62 (by decide) zk_33 (rfl : zcl[3]? = some (RX3, TX3, 19)) (k := 18) ⟨by decide, by decide⟩ zm_4_12 (Or.inr ⟨rfl, hin, rfl⟩) (tyX3_ok 18 (by decide)) rfl rfl zf_3_18 (Or.inl ⟨rfl, rfl⟩) hF31 dX3_init_140 (fun hF32 => ?_)
  exact zr_vret C hret rfl rfl dX3_init_143
set_option maxRecDepth 100000 in
set_option maxHeartbeats 4000000 in
theorem MC_X4_init_64 (G : zG) (l : Launch) (hF : zfrM 64 cs6 cr6) : zMV G l yX4_init cX4_init 3 none { frames := 1, cells := 0, slots := 0, locals := 12 } [.ref (G.1 + 63), .ref (G.1 + 1), .ref (G.1 + 33)] 64 (zenN G cs6 cr6) 64 (zenN G cs7 cr7) := by
  refine zentN (by decide +kernel) (Nat.le_of_ble_eq_true rfl) ?_
  intro p e s m args below meth c C hret hin0
  have hin : meth.name = "<init>" := hin0
  refine zr_sub [0, 1, 2] [(0, .ref (G.1 + 63)), (1, .ref (G.1 + 1)), (2, .ref (G.1 + 33))] rfl ?_
  refine zr_aload_n C 0 dX4_init_0 rfl ?_
  refine zn_oi C zm_4_16 zm_1_11 zm_1_12 (Nat.le_of_ble_eq_true rfl) (Nat.le_of_ble_eq_true rfl) dX4_init_1 ?_
  refine zr_aload_n C 0 dX4_init_4 rfl ?_
  refine zr_iconst C dX4_init_5 (v := (0 : Int32)) (by decide) ?_
  refine zn_putI C 63 (by decide) zk_63 (rfl : zcl[4]? = some (RX4, TX4, 8)) (k := 2) ⟨by decide, by decide⟩ zm_4_17 rfl (tyX4_ok 2 (by decide)) rfl rfl zf_4_2 hF dX4_init_6 (fun hF1 => ?_)
  refine zr_aload_n C 0 dX4_init_9 rfl ?_
  refine zr_iconst C dX4_init_10 (v := (3 : Int32)) (by decide) ?_
  refine zn_putI C 63 (by decide) zk_63 (rfl : zcl[4]? = some (RX4, TX4, 8)) (k := 3) ⟨by decide, by decide⟩ zm_4_18 rfl (tyX4_ok 3 (by decide)) rfl rfl zf_4_3 hF1 dX4_init_11 (fun hF2 => ?_)
  refine zr_aload_n C 0 dX4_init_14 rfl ?_
  refine zr_iconst C dX4_init_15 (v := (0 : Int32)) (by decide) ?_
  refine zn_putI C 63 (by decide) zk_63 (rfl : zcl[4]? = some (RX4, TX4, 8)) (k := 4) ⟨by decide, by decide⟩ zm_4_19 rfl (tyX4_ok 4 (by decide)) rfl rfl zf_4_4 hF2 dX4_init_16 (fun hF3 => ?_)
  refine zr_aload_n C 0 dX4_init_19 rfl ?_
  refine zr_iconst C dX4_init_20 (v := (0 : Int32)) (by decide) ?_
  refine zn_putI C 63 (by decide) zk_63 (rfl : zcl[4]? = some (RX4, TX4, 8)) (k := 5) ⟨by decide, by decide⟩ zm_4_20 rfl (tyX4_ok 5 (by decide)) rfl rfl zf_4_5 hF3 dX4_init_21 (fun hF4 => ?_)
  refine zr_aload_n C 0 dX4_init_24 rfl ?_
  refine zr_iconst C dX4_init_25 (v := (0 : Int32)) (by decide) ?_
  refine zn_putI C 63 (by decide) zk_63 (rfl : zcl[4]? = some (RX4, TX4, 8)) (k := 6) ⟨by decide, by decide⟩ zm_4_21 rfl (tyX4_ok 6 (by decide)) rfl rfl zf_4_6 hF4 dX4_init_26 (fun hF5 => ?_)
  refine zr_aload_n C 0 dX4_init_29 rfl ?_
  refine zr_iconst C dX4_init_30 (v := (0 : Int32)) (by decide) ?_
  refine zn_putI C 63 (by decide) zk_63 (rfl : zcl[4]? = some (RX4, TX4, 8)) (k := 7) ⟨by decide, by decide⟩ zm_4_22 rfl (tyX4_ok 7 (by decide)) rfl rfl zf_4_7 hF5 dX4_init_31 (fun hF6 => ?_)
  refine zr_aload_n C 0 dX4_init_34 rfl ?_
  refine zr_aload_n C 1 dX4_init_35 rfl ?_
  refine zn_putR C 63 1 (by decide) zk_63 (rfl : zcl[4]? = some (RX4, TX4, 8)) (k := 0) ⟨by decide, by decide⟩ zm_4_23 (Or.inr ⟨rfl, hin, rfl⟩) (tyX4_ok 0 (by decide)) rfl rfl zf_4_0 (Or.inr ⟨rfl, rfl⟩) hF6 dX4_init_36 (fun hF7 => ?_)
  refine zr_aload_n C 0 dX4_init_39 rfl ?_
  refine zr_aload_n C 2 dX4_init_40 rfl ?_
  refine zn_putM C 63 33 (by decide) zk_63 (rfl : zcl[4]? = some (RX4, TX4, 8)) (k := 1) ⟨by decide, by decide⟩ zm_5_0 (Or.inl rfl) (tyX4_ok 1 (by decide)) rfl rfl zf_4_1 hF7 dX4_init_41 (fun hF8 => ?_)
  exact zr_vret C hret rfl rfl dX4_init_44
set_option maxRecDepth 100000 in
set_option maxHeartbeats 4000000 in
theorem MC_X1_init_65 (G : zG) (l : Launch) (hF : zfrM 65 cs8 cr8) : zMV G l yX1_init cX1_init 1 none { frames := 1, cells := 17, slots := 144, locals := 12 } [.ref (G.1 + 64)] 65 (zenN G cs8 cr8) 82 (zenN G cs9 cr9) := by
  refine zentN (by decide +kernel) (Nat.le_of_ble_eq_true rfl) ?_
  intro p e s m args below meth c C hret hin0
  have hin : meth.name = "<init>" := hin0
  refine zr_sub [0] [(0, .ref (G.1 + 64))] rfl ?_
  refine zr_aload_n C 0 dX1_init_0 rfl ?_
  refine zn_oi C zm_5_3 zm_1_11 zm_1_12 (Nat.le_of_ble_eq_true rfl) (Nat.le_of_ble_eq_true rfl) dX1_init_1 ?_
  refine zr_aload_n C 0 dX1_init_4 rfl ?_
  refine zr_bipush C dX1_init_5 (v := (16 : Int32)) (by decide) ?_
  refine zr_bipush C dX1_init_7 (v := (8 : Int32)) (by decide) ?_
  refine zn_mna C zk_65 (K := 8) (by decide +kernel) hF zm_5_4 zm_3_17 (by decide) (by decide) (by decide) (by decide) ⟨Nat.le_of_ble_eq_true rfl, Nat.le_of_ble_eq_true rfl⟩ ⟨Nat.le_of_ble_eq_true rfl, Nat.le_of_ble_eq_true rfl⟩ dX1_init_9 (fun hF1 => ?_)
  refine zn_putR C 64 65 (by decide) zk_64 (rfl : zcl[1]? = some (RX1, TX1, 1)) (k := 0) ⟨by decide, by decide⟩ zm_5_5 (Or.inr ⟨rfl, hin, rfl⟩) (tyX1_ok 0 (by decide)) rfl rfl zf_1_0 (Or.inr ⟨rfl, rfl⟩) hF1 dX1_init_13 (fun hF2 => ?_)
  exact zr_vret C hret rfl rfl dX1_init_16
set_option maxRecDepth 100000 in
set_option maxHeartbeats 4000000 in
theorem MC_X0_init_83 (G : zG) (l : Launch) (hF : zfrM 83 cs10 cr10) : zMV G l yX0_init cX0_init 1 none { frames := 1, cells := 5, slots := 528, locals := 12 } [.ref (G.1 + 82)] 83 (zenN G cs10 cr10) 88 (zenN G cs11 cr11) := by
  refine zentN (by decide +kernel) (Nat.le_of_ble_eq_true rfl) ?_
  intro p e s m args below meth c C hret hin0
  have hin : meth.name = "<init>" := hin0
  refine zr_sub [0] [(0, .ref (G.1 + 82))] rfl ?_
  refine zr_aload_n C 0 dX0_init_0 rfl ?_
  refine zn_oi C zm_5_8 zm_1_11 zm_1_12 (Nat.le_of_ble_eq_true rfl) (Nat.le_of_ble_eq_true rfl) dX0_init_1 ?_
  refine zr_aload_n C 0 dX0_init_4 rfl ?_
  refine zr_iconst C dX0_init_5 (v := (0 : Int32)) (by decide) ?_
  refine zn_putI C 82 (by decide) zk_82 (rfl : zcl[0]? = some (RX0, TX0, 7)) (k := 0) ⟨by decide, by decide⟩ zm_5_9 rfl (tyX0_ok 0 (by decide)) rfl rfl zf_0_0 hF dX0_init_6 (fun hF1 => ?_)
  refine zr_aload_n C 0 dX0_init_9 rfl ?_
  refine zr_iconst C dX0_init_10 (v := (4 : Int32)) (by decide) ?_
  refine zn_newa_i C zk_83 hF1 zm_3_17 (by decide) (by decide) (Nat.le_of_ble_eq_true rfl) ⟨Nat.le_of_ble_eq_true rfl, Nat.le_of_ble_eq_true rfl⟩ dX0_init_11 (fun hF2 => ?_)
  refine zn_putR C 82 83 (by decide) zk_82 (rfl : zcl[0]? = some (RX0, TX0, 7)) (k := 1) ⟨by decide, by decide⟩ zm_5_10 (Or.inr ⟨rfl, hin, rfl⟩) (tyX0_ok 1 (by decide)) rfl rfl zf_0_1 (Or.inr ⟨rfl, rfl⟩) hF2 dX0_init_13 (fun hF3 => ?_)
  refine zr_aload_n C 0 dX0_init_16 rfl ?_
  refine zr_iconst C dX0_init_17 (v := (4 : Int32)) (by decide) ?_
  refine zn_newa_i C zk_84 hF3 zm_3_17 (by decide) (by decide) (Nat.le_of_ble_eq_true rfl) ⟨Nat.le_of_ble_eq_true rfl, Nat.le_of_ble_eq_true rfl⟩ dX0_init_18 (fun hF4 => ?_)
  refine zn_putR C 82 84 (by decide) zk_82 (rfl : zcl[0]? = some (RX0, TX0, 7)) (k := 2) ⟨by decide, by decide⟩ zm_5_11 (Or.inr ⟨rfl, hin, rfl⟩) (tyX0_ok 2 (by decide)) rfl rfl zf_0_2 (Or.inr ⟨rfl, rfl⟩) hF4 dX0_init_20 (fun hF5 => ?_)
  refine zr_aload_n C 0 dX0_init_23 rfl ?_
  refine zr_bipush C dX0_init_24 (v := (8 : Int32)) (by decide) ?_
  refine zn_newa_i C zk_85 hF5 zm_3_17 (by decide) (by decide) (Nat.le_of_ble_eq_true rfl) ⟨Nat.le_of_ble_eq_true rfl, Nat.le_of_ble_eq_true rfl⟩ dX0_init_26 (fun hF6 => ?_)
  refine zn_putR C 82 85 (by decide) zk_82 (rfl : zcl[0]? = some (RX0, TX0, 7)) (k := 3) ⟨by decide, by decide⟩ zm_5_12 (Or.inr ⟨rfl, hin, rfl⟩) (tyX0_ok 3 (by decide)) rfl rfl zf_0_3 (Or.inr ⟨rfl, rfl⟩) hF6 dX0_init_28 (fun hF7 => ?_)
  refine zr_aload_n C 0 dX0_init_31 rfl ?_
  refine zr_sipush C dX0_init_32 (v := (256 : Int32)) (by decide) ?_
  refine zn_newa_z C zk_86 hF7 zm_5_13 (by decide) (by decide) (Nat.le_of_ble_eq_true rfl) ⟨Nat.le_of_ble_eq_true rfl, Nat.le_of_ble_eq_true rfl⟩ dX0_init_35 (fun hF8 => ?_)
  refine zn_putR C 82 86 (by decide) zk_82 (rfl : zcl[0]? = some (RX0, TX0, 7)) (k := 4) ⟨by decide, by decide⟩ zm_5_14 (Or.inr ⟨rfl, hin, rfl⟩) (tyX0_ok 4 (by decide)) rfl rfl zf_0_4 (Or.inr ⟨rfl, rfl⟩) hF8 dX0_init_37 (fun hF9 => ?_)
  refine zr_aload_n C 0 dX0_init_40 rfl ?_
  refine zr_sipush C dX0_init_41 (v := (256 : Int32)) (by decide) ?_
  refine zn_newa_i C zk_87 hF9 zm_3_17 (by decide) (by decide) (Nat.le_of_ble_eq_true rfl) ⟨Nat.le_of_ble_eq_true rfl, Nat.le_of_ble_eq_true rfl⟩ dX0_init_44 (fun hF10 => ?_)
  refine zn_putR C 82 87 (by decide) zk_82 (rfl : zcl[0]? = some (RX0, TX0, 7)) (k := 5) ⟨by decide, by decide⟩ zm_5_15 (Or.inr ⟨rfl, hin, rfl⟩) (tyX0_ok 5 (by decide)) rfl rfl zf_0_5 (Or.inr ⟨rfl, rfl⟩) hF10 dX0_init_46 (fun hF11 => ?_)
  refine zr_aload_n C 0 dX0_init_49 rfl ?_
  refine zr_iconst C dX0_init_50 (v := (0 : Int32)) (by decide) ?_
  refine zn_putI C 82 (by decide) zk_82 (rfl : zcl[0]? = some (RX0, TX0, 7)) (k := 6) ⟨by decide, by decide⟩ zm_5_16 rfl (tyX0_ok 6 (by decide)) rfl rfl zf_0_6 hF11 dX0_init_51 (fun hF12 => ?_)
  exact zr_vret C hret rfl rfl dX0_init_54
set_option maxRecDepth 100000 in
set_option maxHeartbeats 4000000 in
theorem MC_X9_init_89 (G : zG) (l : Launch) (hF : zfrM 89 cs12 cr12) : zMV G l yX9_init cX9_init 1 none { frames := 1, cells := 0, slots := 0, locals := 12 } [.ref (G.1 + 88)] 89 (zenN G cs12 cr12) 89 (zenN G cs13 cr13) := by
  refine zentN (by decide +kernel) (Nat.le_of_ble_eq_true rfl) ?_
  intro p e s m args below meth c C hret hin0
  refine zr_sub [0] [(0, .ref (G.1 + 88))] rfl ?_
  refine zr_aload_n C 0 dX9_init_0 rfl ?_
  refine zn_oi C zm_5_19 zm_1_11 zm_1_12 (Nat.le_of_ble_eq_true rfl) (Nat.le_of_ble_eq_true rfl) dX9_init_1 ?_
  refine zr_aload_n C 0 dX9_init_4 rfl ?_
  refine zr_iconst C dX9_init_5 (v := (0 : Int32)) (by decide) ?_
  refine zn_putI C 88 (by decide) zk_88 (rfl : zcl[9]? = some (RX9, TX9, 2)) (k := 0) ⟨by decide, by decide⟩ zm_5_20 rfl (tyX9_ok 0 (by decide)) rfl rfl zf_9_0 hF dX9_init_6 (fun hF1 => ?_)
  refine zr_aload_n C 0 dX9_init_9 rfl ?_
  refine zr_iconst C dX9_init_10 (v := (0 : Int32)) (by decide) ?_
  refine zn_putI C 88 (by decide) zk_88 (rfl : zcl[9]? = some (RX9, TX9, 2)) (k := 1) ⟨by decide, by decide⟩ zm_5_21 rfl (tyX9_ok 1 (by decide)) rfl rfl zf_9_1 hF1 dX9_init_11 (fun hF2 => ?_)
  exact zr_vret C hret rfl rfl dX9_init_14
set_option maxRecDepth 100000 in
set_option maxHeartbeats 4000000 in
theorem MC_X6_init_90 (G : zG) (l : Launch) (hF : zfrM 90 cs14 cr14) : zMV G l yX6_init cX6_init 1 none { frames := 1, cells := 1, slots := 16, locals := 12 } [.ref (G.1 + 89)] 90 (zenN G cs14 cr14) 91 (zenN G cs15 cr15) := by
  refine zentN (by decide +kernel) (Nat.le_of_ble_eq_true rfl) ?_
  intro p e s m args below meth c C hret hin0
  have hin : meth.name = "<init>" := hin0
  refine zr_sub [0] [(0, .ref (G.1 + 89))] rfl ?_
  refine zr_aload_n C 0 dX6_init_0 rfl ?_
  refine zn_oi C zm_6_0 zm_1_11 zm_1_12 (Nat.le_of_ble_eq_true rfl) (Nat.le_of_ble_eq_true rfl) dX6_init_1 ?_
  refine zr_aload_n C 0 dX6_init_4 rfl ?_
  refine zr_bipush C dX6_init_5 (v := (16 : Int32)) (by decide) ?_
  refine zn_newa_i C zk_90 hF zm_3_17 (by decide) (by decide) (Nat.le_of_ble_eq_true rfl) ⟨Nat.le_of_ble_eq_true rfl, Nat.le_of_ble_eq_true rfl⟩ dX6_init_7 (fun hF1 => ?_)
  refine zn_putR C 89 90 (by decide) zk_89 (rfl : zcl[6]? = some (RX6, TX6, 3)) (k := 0) ⟨by decide, by decide⟩ zm_6_1 (Or.inr ⟨rfl, hin, rfl⟩) (tyX6_ok 0 (by decide)) rfl rfl zf_6_0 (Or.inr ⟨rfl, rfl⟩) hF1 dX6_init_9 (fun hF2 => ?_)
  refine zr_aload_n C 0 dX6_init_12 rfl ?_
  refine zr_iconst C dX6_init_13 (v := (0 : Int32)) (by decide) ?_
  refine zn_putI C 89 (by decide) zk_89 (rfl : zcl[6]? = some (RX6, TX6, 3)) (k := 1) ⟨by decide, by decide⟩ zm_6_2 rfl (tyX6_ok 1 (by decide)) rfl rfl zf_6_1 hF2 dX6_init_14 (fun hF3 => ?_)
  refine zr_aload_n C 0 dX6_init_17 rfl ?_
  refine zr_iconst C dX6_init_18 (v := (0 : Int32)) (by decide) ?_
  refine zn_putI C 89 (by decide) zk_89 (rfl : zcl[6]? = some (RX6, TX6, 3)) (k := 2) ⟨by decide, by decide⟩ zm_6_3 rfl (tyX6_ok 2 (by decide)) rfl rfl zf_6_2 hF3 dX6_init_19 (fun hF4 => ?_)
  exact zr_vret C hret rfl rfl dX6_init_22
set_option maxRecDepth 100000 in
set_option maxHeartbeats 4000000 in
theorem MC_X2_init_92 (G : zG) (l : Launch) (hF : zfrM 92 cs16 cr16) : zMV G l yX2_init cX2_init 1 none { frames := 1, cells := 0, slots := 0, locals := 12 } [.ref (G.1 + 91)] 92 (zenN G cs16 cr16) 92 (zenN G cs17 cr17) := by
  refine zentN (by decide +kernel) (Nat.le_of_ble_eq_true rfl) ?_
  intro p e s m args below meth c C hret hin0
  refine zr_sub [0] [(0, .ref (G.1 + 91))] rfl ?_
  refine zr_aload_n C 0 dX2_init_0 rfl ?_
  refine zn_oi C zm_6_6 zm_1_11 zm_1_12 (Nat.le_of_ble_eq_true rfl) (Nat.le_of_ble_eq_true rfl) dX2_init_1 ?_
  refine zr_aload_n C 0 dX2_init_4 rfl ?_
  refine zr_iconst C dX2_init_5 (v := (0 : Int32)) (by decide) ?_
  refine zn_putI C 91 (by decide) zk_91 (rfl : zcl[2]? = some (RX2, TX2, 4)) (k := 0) ⟨by decide, by decide⟩ zm_6_7 rfl (tyX2_ok 0 (by decide)) rfl rfl zf_2_0 hF dX2_init_6 (fun hF1 => ?_)
  refine zr_aload_n C 0 dX2_init_9 rfl ?_
  refine zr_iconst C dX2_init_10 (v := (0 : Int32)) (by decide) ?_
  refine zn_putI C 91 (by decide) zk_91 (rfl : zcl[2]? = some (RX2, TX2, 4)) (k := 1) ⟨by decide, by decide⟩ zm_6_8 rfl (tyX2_ok 1 (by decide)) rfl rfl zf_2_1 hF1 dX2_init_11 (fun hF2 => ?_)
  refine zr_aload_n C 0 dX2_init_14 rfl ?_
  refine zr_iconst C dX2_init_15 (v := (0 : Int32)) (by decide) ?_
  refine zn_putI C 91 (by decide) zk_91 (rfl : zcl[2]? = some (RX2, TX2, 4)) (k := 2) ⟨by decide, by decide⟩ zm_6_9 rfl (tyX2_ok 2 (by decide)) rfl rfl zf_2_2 hF2 dX2_init_16 (fun hF3 => ?_)
  refine zr_aload_n C 0 dX2_init_19 rfl ?_
  refine zr_iconst C dX2_init_20 (v := (0 : Int32)) (by decide) ?_
  refine zn_putI C 91 (by decide) zk_91 (rfl : zcl[2]? = some (RX2, TX2, 4)) (k := 3) ⟨by decide, by decide⟩ zm_6_10 rfl (tyX2_ok 3 (by decide)) rfl rfl zf_2_3 hF3 dX2_init_21 (fun hF4 => ?_)
  exact zr_vret C hret rfl rfl dX2_init_24
set_option maxRecDepth 100000 in
set_option maxHeartbeats 4000000 in
theorem MC_X5_init_93 (G : zG) (l : Launch) (hF : zfrM 93 cs18 cr18) : zMV G l yX5_init cX5_init 1 none { frames := 1, cells := 4, slots := 72, locals := 12 } [.ref (G.1 + 92)] 93 (zenN G cs18 cr18) 97 (zenN G cs19 cr19) := by
  refine zentN (by decide +kernel) (Nat.le_of_ble_eq_true rfl) ?_
  intro p e s m args below meth c C hret hin0
  have hin : meth.name = "<init>" := hin0
  refine zr_sub [0] [(0, .ref (G.1 + 92))] rfl ?_
  refine zr_aload_n C 0 dX5_init_0 rfl ?_
  refine zn_oi C zm_6_13 zm_1_11 zm_1_12 (Nat.le_of_ble_eq_true rfl) (Nat.le_of_ble_eq_true rfl) dX5_init_1 ?_
  refine zr_aload_n C 0 dX5_init_4 rfl ?_
  refine zr_iconst C dX5_init_5 (v := (0 : Int32)) (by decide) ?_
  refine zn_putI C 92 (by decide) zk_92 (rfl : zcl[5]? = some (RX5, TX5, 6)) (k := 0) ⟨by decide, by decide⟩ zm_6_14 rfl (tyX5_ok 0 (by decide)) rfl rfl zf_5_0 hF dX5_init_6 (fun hF1 => ?_)
  refine zr_aload_n C 0 dX5_init_9 rfl ?_
  refine zr_bipush C dX5_init_10 (v := (12 : Int32)) (by decide) ?_
  refine zn_newa_i C zk_93 hF1 zm_3_17 (by decide) (by decide) (Nat.le_of_ble_eq_true rfl) ⟨Nat.le_of_ble_eq_true rfl, Nat.le_of_ble_eq_true rfl⟩ dX5_init_12 (fun hF2 => ?_)
  refine zn_putR C 92 93 (by decide) zk_92 (rfl : zcl[5]? = some (RX5, TX5, 6)) (k := 1) ⟨by decide, by decide⟩ zm_6_15 (Or.inr ⟨rfl, hin, rfl⟩) (tyX5_ok 1 (by decide)) rfl rfl zf_5_1 (Or.inr ⟨rfl, rfl⟩) hF2 dX5_init_14 (fun hF3 => ?_)
  refine zr_aload_n C 0 dX5_init_17 rfl ?_
  refine zr_bipush C dX5_init_18 (v := (12 : Int32)) (by decide) ?_
  refine zn_newa_i C zk_94 hF3 zm_3_17 (by decide) (by decide) (Nat.le_of_ble_eq_true rfl) ⟨Nat.le_of_ble_eq_true rfl, Nat.le_of_ble_eq_true rfl⟩ dX5_init_20 (fun hF4 => ?_)
  refine zn_putR C 92 94 (by decide) zk_92 (rfl : zcl[5]? = some (RX5, TX5, 6)) (k := 2) ⟨by decide, by decide⟩ zm_6_16 (Or.inr ⟨rfl, hin, rfl⟩) (tyX5_ok 2 (by decide)) rfl rfl zf_5_2 (Or.inr ⟨rfl, rfl⟩) hF4 dX5_init_22 (fun hF5 => ?_)
  refine zr_aload_n C 0 dX5_init_25 rfl ?_
  refine zr_bipush C dX5_init_26 (v := (12 : Int32)) (by decide) ?_
  refine zn_newa_i C zk_95 hF5 zm_3_17 (by decide) (by decide) (Nat.le_of_ble_eq_true rfl) ⟨Nat.le_of_ble_eq_true rfl, Nat.le_of_ble_eq_true rfl⟩ dX5_init_28 (fun hF6 => ?_)
  refine zn_putR C 92 95 (by decide) zk_92 (rfl : zcl[5]? = some (RX5, TX5, 6)) (k := 3) ⟨by decide, by decide⟩ zm_6_17 (Or.inr ⟨rfl, hin, rfl⟩) (tyX5_ok 3 (by decide)) rfl rfl zf_5_3 (Or.inr ⟨rfl, rfl⟩) hF6 dX5_init_30 (fun hF7 => ?_)
  refine zr_aload_n C 0 dX5_init_33 rfl ?_
  refine zr_iconst C dX5_init_34 (v := (0 : Int32)) (by decide) ?_
  refine zn_putI C 92 (by decide) zk_92 (rfl : zcl[5]? = some (RX5, TX5, 6)) (k := 4) ⟨by decide, by decide⟩ zm_6_18 rfl (tyX5_ok 4 (by decide)) rfl rfl zf_5_4 hF7 dX5_init_35 (fun hF8 => ?_)
  refine zr_aload_n C 0 dX5_init_38 rfl ?_
  refine zr_bipush C dX5_init_39 (v := (36 : Int32)) (by decide) ?_
  refine zn_newa_i C zk_96 hF8 zm_3_17 (by decide) (by decide) (Nat.le_of_ble_eq_true rfl) ⟨Nat.le_of_ble_eq_true rfl, Nat.le_of_ble_eq_true rfl⟩ dX5_init_41 (fun hF9 => ?_)
  refine zn_putR C 92 96 (by decide) zk_92 (rfl : zcl[5]? = some (RX5, TX5, 6)) (k := 5) ⟨by decide, by decide⟩ zm_6_19 (Or.inr ⟨rfl, hin, rfl⟩) (tyX5_ok 5 (by decide)) rfl rfl zf_5_5 (Or.inr ⟨rfl, rfl⟩) hF9 dX5_init_43 (fun hF10 => ?_)
  exact zr_vret C hret rfl rfl dX5_init_46
set_option maxRecDepth 100000 in
set_option maxHeartbeats 4000000 in
theorem MC_X7_init_98 (G : zG) (l : Launch) (hF : zfrM 98 cs20 cr20) : zMV G l yX7_init cX7_init 1 none { frames := 1, cells := 7, slots := 172, locals := 12 } [.ref (G.1 + 97)] 98 (zenN G cs20 cr20) 105 (zenN G cs21 cr21) := by
  refine zentN (by decide +kernel) (Nat.le_of_ble_eq_true rfl) ?_
  intro p e s m args below meth c C hret hin0
  have hin : meth.name = "<init>" := hin0
  refine zr_sub [0] [(0, .ref (G.1 + 97))] rfl ?_
  refine zr_aload_n C 0 dX7_init_0 rfl ?_
  refine zn_oi C zm_6_22 zm_1_11 zm_1_12 (Nat.le_of_ble_eq_true rfl) (Nat.le_of_ble_eq_true rfl) dX7_init_1 ?_
  refine zr_aload_n C 0 dX7_init_4 rfl ?_
  refine zr_iconst C dX7_init_5 (v := (4 : Int32)) (by decide) ?_
  refine zn_newa_i C zk_98 hF zm_3_17 (by decide) (by decide) (Nat.le_of_ble_eq_true rfl) ⟨Nat.le_of_ble_eq_true rfl, Nat.le_of_ble_eq_true rfl⟩ dX7_init_6 (fun hF1 => ?_)
  refine zn_putR C 97 98 (by decide) zk_97 (rfl : zcl[7]? = some (RX7, TX7, 3)) (k := 0) ⟨by decide, by decide⟩ zm_6_23 (Or.inr ⟨rfl, hin, rfl⟩) (tyX7_ok 0 (by decide)) rfl rfl zf_7_0 (Or.inr ⟨rfl, rfl⟩) hF1 dX7_init_8 (fun hF2 => ?_)
  refine zr_aload_n C 0 dX7_init_11 rfl ?_
  refine zr_iconst C dX7_init_12 (v := (4 : Int32)) (by decide) ?_
  refine zn_newa_i C zk_99 hF2 zm_3_17 (by decide) (by decide) (Nat.le_of_ble_eq_true rfl) ⟨Nat.le_of_ble_eq_true rfl, Nat.le_of_ble_eq_true rfl⟩ dX7_init_13 (fun hF3 => ?_)
  refine zr_dup C dX7_init_15 rfl ?_
  refine zr_iconst C dX7_init_16 (v := (0 : Int32)) (by decide) ?_
  refine zr_iconst C dX7_init_17 (v := (-1 : Int32)) (by decide) ?_
  refine zn_iast C 99 0 (by decide) zk_99 (by decide) (by decide) hF3 dX7_init_18 (fun hF4 => ?_)
  refine zr_dup C dX7_init_19 rfl ?_
  refine zr_iconst C dX7_init_20 (v := (1 : Int32)) (by decide) ?_
  refine zr_iconst C dX7_init_21 (v := (-1 : Int32)) (by decide) ?_
  refine zn_iast C 99 1 (by decide) zk_99 (by decide) (by decide) hF4 dX7_init_22 (fun hF5 => ?_)
  refine zr_dup C dX7_init_23 rfl ?_
  refine zr_iconst C dX7_init_24 (v := (2 : Int32)) (by decide) ?_
  refine zr_iconst C dX7_init_25 (v := (-1 : Int32)) (by decide) ?_
  refine zn_iast C 99 2 (by decide) zk_99 (by decide) (by decide) hF5 dX7_init_26 (fun hF6 => ?_)
  refine zr_dup C dX7_init_27 rfl ?_
  refine zr_iconst C dX7_init_28 (v := (3 : Int32)) (by decide) ?_
  refine zr_iconst C dX7_init_29 (v := (-1 : Int32)) (by decide) ?_
  refine zn_iast C 99 3 (by decide) zk_99 (by decide) (by decide) hF6 dX7_init_30 (fun hF7 => ?_)
  refine zn_putR C 97 99 (by decide) zk_97 (rfl : zcl[7]? = some (RX7, TX7, 3)) (k := 1) ⟨by decide, by decide⟩ zm_7_0 (Or.inr ⟨rfl, hin, rfl⟩) (tyX7_ok 1 (by decide)) rfl rfl zf_7_1 (Or.inr ⟨rfl, rfl⟩) hF7 dX7_init_31 (fun hF8 => ?_)
  refine zr_aload_n C 0 dX7_init_34 rfl ?_
  refine zr_iconst C dX7_init_35 (v := (4 : Int32)) (by decide) ?_
  refine zr_bipush C dX7_init_36 (v := (40 : Int32)) (by decide) ?_
  refine zn_mna C zk_100 (K := 40) (by decide +kernel) hF8 zm_7_1 zm_3_17 (by decide) (by decide) (by decide) (by decide) ⟨Nat.le_of_ble_eq_true rfl, Nat.le_of_ble_eq_true rfl⟩ ⟨Nat.le_of_ble_eq_true rfl, Nat.le_of_ble_eq_true rfl⟩ dX7_init_38 (fun hF9 => ?_)
  refine zn_putR C 97 100 (by decide) zk_97 (rfl : zcl[7]? = some (RX7, TX7, 3)) (k := 2) ⟨by decide, by decide⟩ zm_7_2 (Or.inr ⟨rfl, hin, rfl⟩) (tyX7_ok 2 (by decide)) rfl rfl zf_7_2 (Or.inr ⟨rfl, rfl⟩) hF9 dX7_init_42 (fun hF10 => ?_)
  exact zr_vret C hret rfl rfl dX7_init_45
set_option maxRecDepth 100000 in
set_option maxHeartbeats 4000000 in
theorem MC_X0_begin_105 (G : zG) (l : Launch) (hF : zfrM 105 cs22 cr22) : zMV G l yX0_begin cX0_begin 3 none { frames := 0, cells := 0, slots := 0, locals := 0 } [.ref (G.1 + 82), .int (2 : Int32)] 105 (zenN G cs22 cr22) 105 (zenN G cs23 cr23) := by
  refine zentN (by decide +kernel) (Nat.le_of_ble_eq_true rfl) ?_
  intro p e s m args below meth c C hret hin0
  refine zr_sub [0, 1] [(0, .ref (G.1 + 82)), (1, .int (2 : Int32))] rfl ?_
  refine zr_aload_n C 0 dX0_begin_0 rfl ?_
  refine zr_iload_n C 1 dX0_begin_1 rfl ?_
  refine zn_putI C 82 (by decide) zk_82 (rfl : zcl[0]? = some (RX0, TX0, 7)) (k := 0) ⟨by decide, by decide⟩ zm_5_9 rfl (tyX0_ok 0 (by decide)) rfl rfl zf_0_0 hF dX0_begin_2 (fun hF1 => ?_)
  refine zr_aload_n C 0 dX0_begin_5 rfl ?_
  refine zr_iconst C dX0_begin_6 (v := (0 : Int32)) (by decide) ?_
  refine zn_putI C 82 (by decide) zk_82 (rfl : zcl[0]? = some (RX0, TX0, 7)) (k := 6) ⟨by decide, by decide⟩ zm_5_16 rfl (tyX0_ok 6 (by decide)) rfl rfl zf_0_6 hF1 dX0_begin_7 (fun hF2 => ?_)
  refine zr_iconst C dX0_begin_10 (v := (0 : Int32)) (by decide) ?_
  refine zr_istore_n C [(2, .int (0 : Int32)), (0, .ref (G.1 + 82)), (1, .int (2 : Int32))] dX0_begin_11 (by decide) rfl ?_
  refine zr_iload_n C 0 dX0_begin_12 rfl ?_
  refine zr_iconst C dX0_begin_13 (v := (4 : Int32)) (by decide) ?_
  refine zr_icmp_ge C 40 dX0_begin_14 (by decide) (fun h => absurd h (by decide)) (fun _ => ?_)
  refine zr_aload_n C 1 dX0_begin_17 rfl ?_
  refine zn_get C 82 83 (by decide) zk_82 (rfl : zcl[0]? = some (RX0, TX0, 7)) (k := 1) ⟨by decide, by decide⟩ zm_5_10 zf_0_1 (Or.inr (Or.inl ⟨rfl, rfl⟩)) (by decide +kernel) dX0_begin_18 ?_
  refine zr_iload_n C 0 dX0_begin_21 rfl ?_
  refine zr_sipush C dX0_begin_22 (v := (255 : Int32)) (by decide) ?_
  refine zn_iast C 83 0 (by decide) zk_83 (by decide) (by decide) hF2 dX0_begin_25 (fun hF3 => ?_)
  refine zr_aload_n C 1 dX0_begin_26 rfl ?_
  refine zn_get C 82 84 (by decide) zk_82 (rfl : zcl[0]? = some (RX0, TX0, 7)) (k := 2) ⟨by decide, by decide⟩ zm_5_11 zf_0_2 (Or.inr (Or.inl ⟨rfl, rfl⟩)) (by decide +kernel) dX0_begin_27 ?_
  refine zr_iload_n C 0 dX0_begin_30 rfl ?_
  refine zr_bipush C dX0_begin_31 (v := (8 : Int32)) (by decide) ?_
  refine zn_iast C 84 0 (by decide) zk_84 (by decide) (by decide) hF3 dX0_begin_33 (fun hF4 => ?_)
  refine zr_iinc C (1 : Int32) 0 [(2, .int (1 : Int32)), (0, .ref (G.1 + 82)), (1, .int (2 : Int32))] dX0_begin_34 rfl (by decide) (by decide) rfl ?_
  refine zr_goto C 12 dX0_begin_37 (by decide) ?_
  refine zr_iload_n C 0 dX0_begin_12 rfl ?_
  refine zr_iconst C dX0_begin_13 (v := (4 : Int32)) (by decide) ?_
  refine zr_icmp_ge C 40 dX0_begin_14 (by decide) (fun h => absurd h (by decide)) (fun _ => ?_)
  refine zr_aload_n C 1 dX0_begin_17 rfl ?_
  refine zn_get C 82 83 (by decide) zk_82 (rfl : zcl[0]? = some (RX0, TX0, 7)) (k := 1) ⟨by decide, by decide⟩ zm_5_10 zf_0_1 (Or.inr (Or.inl ⟨rfl, rfl⟩)) (by decide +kernel) dX0_begin_18 ?_
  refine zr_iload_n C 0 dX0_begin_21 rfl ?_
  refine zr_sipush C dX0_begin_22 (v := (255 : Int32)) (by decide) ?_
  refine zn_iast C 83 1 (by decide) zk_83 (by decide) (by decide) hF4 dX0_begin_25 (fun hF5 => ?_)
  refine zr_aload_n C 1 dX0_begin_26 rfl ?_
  refine zn_get C 82 84 (by decide) zk_82 (rfl : zcl[0]? = some (RX0, TX0, 7)) (k := 2) ⟨by decide, by decide⟩ zm_5_11 zf_0_2 (Or.inr (Or.inl ⟨rfl, rfl⟩)) (by decide +kernel) dX0_begin_27 ?_
  refine zr_iload_n C 0 dX0_begin_30 rfl ?_
  refine zr_bipush C dX0_begin_31 (v := (8 : Int32)) (by decide) ?_
  refine zn_iast C 84 1 (by decide) zk_84 (by decide) (by decide) hF5 dX0_begin_33 (fun hF6 => ?_)
  refine zr_iinc C (2 : Int32) 0 [(2, .int (2 : Int32)), (0, .ref (G.1 + 82)), (1, .int (2 : Int32))] dX0_begin_34 rfl (by decide) (by decide) rfl ?_
  refine zr_goto C 12 dX0_begin_37 (by decide) ?_
  refine zr_iload_n C 0 dX0_begin_12 rfl ?_
  refine zr_iconst C dX0_begin_13 (v := (4 : Int32)) (by decide) ?_
  refine zr_icmp_ge C 40 dX0_begin_14 (by decide) (fun h => absurd h (by decide)) (fun _ => ?_)
  refine zr_aload_n C 1 dX0_begin_17 rfl ?_
  refine zn_get C 82 83 (by decide) zk_82 (rfl : zcl[0]? = some (RX0, TX0, 7)) (k := 1) ⟨by decide, by decide⟩ zm_5_10 zf_0_1 (Or.inr (Or.inl ⟨rfl, rfl⟩)) (by decide +kernel) dX0_begin_18 ?_
  refine zr_iload_n C 0 dX0_begin_21 rfl ?_
  refine zr_sipush C dX0_begin_22 (v := (255 : Int32)) (by decide) ?_
  refine zn_iast C 83 2 (by decide) zk_83 (by decide) (by decide) hF6 dX0_begin_25 (fun hF7 => ?_)
  refine zr_aload_n C 1 dX0_begin_26 rfl ?_
  refine zn_get C 82 84 (by decide) zk_82 (rfl : zcl[0]? = some (RX0, TX0, 7)) (k := 2) ⟨by decide, by decide⟩ zm_5_11 zf_0_2 (Or.inr (Or.inl ⟨rfl, rfl⟩)) (by decide +kernel) dX0_begin_27 ?_
  refine zr_iload_n C 0 dX0_begin_30 rfl ?_
  refine zr_bipush C dX0_begin_31 (v := (8 : Int32)) (by decide) ?_
  refine zn_iast C 84 2 (by decide) zk_84 (by decide) (by decide) hF7 dX0_begin_33 (fun hF8 => ?_)
  refine zr_iinc C (3 : Int32) 0 [(2, .int (3 : Int32)), (0, .ref (G.1 + 82)), (1, .int (2 : Int32))] dX0_begin_34 rfl (by decide) (by decide) rfl ?_
  refine zr_goto C 12 dX0_begin_37 (by decide) ?_
  refine zr_iload_n C 0 dX0_begin_12 rfl ?_
  refine zr_iconst C dX0_begin_13 (v := (4 : Int32)) (by decide) ?_
  refine zr_icmp_ge C 40 dX0_begin_14 (by decide) (fun h => absurd h (by decide)) (fun _ => ?_)
  refine zr_aload_n C 1 dX0_begin_17 rfl ?_
  refine zn_get C 82 83 (by decide) zk_82 (rfl : zcl[0]? = some (RX0, TX0, 7)) (k := 1) ⟨by decide, by decide⟩ zm_5_10 zf_0_1 (Or.inr (Or.inl ⟨rfl, rfl⟩)) (by decide +kernel) dX0_begin_18 ?_
  refine zr_iload_n C 0 dX0_begin_21 rfl ?_
  refine zr_sipush C dX0_begin_22 (v := (255 : Int32)) (by decide) ?_
  refine zn_iast C 83 3 (by decide) zk_83 (by decide) (by decide) hF8 dX0_begin_25 (fun hF9 => ?_)
  refine zr_aload_n C 1 dX0_begin_26 rfl ?_
  refine zn_get C 82 84 (by decide) zk_82 (rfl : zcl[0]? = some (RX0, TX0, 7)) (k := 2) ⟨by decide, by decide⟩ zm_5_11 zf_0_2 (Or.inr (Or.inl ⟨rfl, rfl⟩)) (by decide +kernel) dX0_begin_27 ?_
  refine zr_iload_n C 0 dX0_begin_30 rfl ?_
  refine zr_bipush C dX0_begin_31 (v := (8 : Int32)) (by decide) ?_
  refine zn_iast C 84 3 (by decide) zk_84 (by decide) (by decide) hF9 dX0_begin_33 (fun hF10 => ?_)
  refine zr_iinc C (4 : Int32) 0 [(2, .int (4 : Int32)), (0, .ref (G.1 + 82)), (1, .int (2 : Int32))] dX0_begin_34 rfl (by decide) (by decide) rfl ?_
  refine zr_goto C 12 dX0_begin_37 (by decide) ?_
  refine zr_iload_n C 0 dX0_begin_12 rfl ?_
  refine zr_iconst C dX0_begin_13 (v := (4 : Int32)) (by decide) ?_
  refine zr_icmp_ge C 40 dX0_begin_14 (by decide) (fun _ => ?_) (fun h => absurd (by decide) h)
  exact zr_vret C hret rfl rfl dX0_begin_40
set_option maxRecDepth 100000 in
set_option maxHeartbeats 4000000 in
theorem MC_X10_init_1 (G : zG) (l : Launch) (hF : zfrM 1 zs0 zr0) : zMV G l yX10_init cX10_init 1 none { frames := 2, cells := 104, slots := 26200, locals := 34 } [.ref (G.1 + 0)] 1 (zenN G zs0 zr0) 105 (zenN G cs23 cr23) := by
  refine zentN (by decide +kernel) (Nat.le_of_ble_eq_true rfl) ?_
  intro p e s m args below meth c C hret hin0
  have hin : meth.name = "<init>" := hin0
  refine zr_sub [0] [(0, .ref (G.1 + 0))] rfl ?_
  refine zr_aload_n C 0 dX10_init_0 rfl ?_
  refine zn_oi C zm_1_10 zm_1_11 zm_1_12 (Nat.le_of_ble_eq_true rfl) (Nat.le_of_ble_eq_true rfl) dX10_init_1 ?_
  refine zr_aload_n C 0 dX10_init_4 rfl ?_
  refine zn_new C (N := 2) tyX8 (zk_1) (rfl : zcl[8]? = some (RX8, TX8, 2)) tyX8_ok zdf_8 (by decide) hF zm_1_13 zm_1_14 zm_1_15 ⟨Nat.le_of_ble_eq_true rfl, Nat.le_of_ble_eq_true rfl⟩ dX10_init_5 (fun hF1 => ?_)
  refine zr_dup C dX10_init_8 rfl ?_
  refine zn_callN C (na := 0) (As := []) (MC_X8_init_2 G l (fr0.mono (by decide))) zm_3_7 zm_1_15 zm_3_8 (by decide +kernel) rfl zne_X10_9 rfl rfl (Nat.le_of_ble_eq_true rfl) ⟨Nat.le_of_ble_eq_true rfl, Nat.le_of_ble_eq_true rfl⟩ ⟨Nat.le_of_ble_eq_true rfl, Nat.le_of_ble_eq_true rfl⟩ dX10_init_9 ?_
  refine zn_putR C 0 1 (by decide) zk_0 (rfl : zcl[10]? = some (RX10, TX10, 12)) (k := 0) ⟨by decide, by decide⟩ zm_1_16 (Or.inr ⟨rfl, hin, rfl⟩) (tyX10_ok 0 (by decide)) rfl rfl zf_10_0 (Or.inr ⟨rfl, rfl⟩) (fr1.mono (by decide)) dX10_init_12 (fun hF2 => ?_)
  refine zr_aload_n C 0 dX10_init_15 rfl ?_
  refine zn_new C (N := 19) tyX3 (zk_3) (rfl : zcl[3]? = some (RX3, TX3, 19)) tyX3_ok zdf_3 (by decide) hF2 zm_1_17 zm_1_18 zm_1_19 ⟨Nat.le_of_ble_eq_true rfl, Nat.le_of_ble_eq_true rfl⟩ dX10_init_16 (fun hF3 => ?_)
  refine zr_dup C dX10_init_19 rfl ?_
  refine zn_callN C (na := 0) (As := []) (MC_X3_init_4 G l (frM2.mono (by decide))) zm_3_13 zm_1_19 zm_3_14 (by decide +kernel) rfl zne_X10_18 rfl rfl (Nat.le_of_ble_eq_true rfl) ⟨Nat.le_of_ble_eq_true rfl, Nat.le_of_ble_eq_true rfl⟩ ⟨Nat.le_of_ble_eq_true rfl, Nat.le_of_ble_eq_true rfl⟩ dX10_init_20 ?_
  refine zn_putM C 0 3 (by decide) zk_0 (rfl : zcl[10]? = some (RX10, TX10, 12)) (k := 1) ⟨by decide, by decide⟩ zm_1_20 (Or.inl rfl) (tyX10_ok 1 (by decide)) rfl rfl zf_10_1 (fr3.mono (by decide)) dX10_init_23 (fun hF4 => ?_)
  refine zr_aload_n C 0 dX10_init_26 rfl ?_
  refine zn_new C (N := 19) tyX3 (zk_33) (rfl : zcl[3]? = some (RX3, TX3, 19)) tyX3_ok zdf_3 (by decide) hF4 zm_1_17 zm_1_18 zm_1_19 ⟨Nat.le_of_ble_eq_true rfl, Nat.le_of_ble_eq_true rfl⟩ dX10_init_27 (fun hF5 => ?_)
  refine zr_dup C dX10_init_30 rfl ?_
  refine zn_callN C (na := 0) (As := []) (MC_X3_init_34 G l (fr4.mono (by decide))) zm_3_13 zm_1_19 zm_3_14 (by decide +kernel) rfl zne_X10_18 rfl rfl (Nat.le_of_ble_eq_true rfl) ⟨Nat.le_of_ble_eq_true rfl, Nat.le_of_ble_eq_true rfl⟩ ⟨Nat.le_of_ble_eq_true rfl, Nat.le_of_ble_eq_true rfl⟩ dX10_init_31 ?_
  refine zn_putM C 0 33 (by decide) zk_0 (rfl : zcl[10]? = some (RX10, TX10, 12)) (k := 2) ⟨by decide, by decide⟩ zm_1_21 (Or.inl rfl) (tyX10_ok 2 (by decide)) rfl rfl zf_10_2 (fr5.mono (by decide)) dX10_init_34 (fun hF6 => ?_)
  refine zr_aload_n C 0 dX10_init_37 rfl ?_
  refine zn_new C (N := 8) tyX4 (zk_63) (rfl : zcl[4]? = some (RX4, TX4, 8)) tyX4_ok zdf_4 (by decide) hF6 zm_1_22 zm_1_23 zm_2_0 ⟨Nat.le_of_ble_eq_true rfl, Nat.le_of_ble_eq_true rfl⟩ dX10_init_38 (fun hF7 => ?_)
  refine zr_dup C dX10_init_41 rfl ?_
  refine zr_aload_n C 0 dX10_init_42 rfl ?_
  refine zn_get C 0 1 (by decide) zk_0 (rfl : zcl[10]? = some (RX10, TX10, 12)) (k := 0) ⟨by decide, by decide⟩ zm_1_16 zf_10_0 (Or.inr (Or.inl ⟨rfl, rfl⟩)) (by decide +kernel) dX10_init_43 ?_
  refine zr_aload_n C 0 dX10_init_46 rfl ?_
  refine zn_get C 0 33 (by decide) zk_0 (rfl : zcl[10]? = some (RX10, TX10, 12)) (k := 2) ⟨by decide, by decide⟩ zm_1_21 zf_10_2 (Or.inr (Or.inr ⟨rfl, by decide +kernel⟩)) (by decide +kernel) dX10_init_47 ?_
  refine zn_callI C (na := 2) (As := [.ref (G.1 + 1), .ref (G.1 + 33)]) (MC_X4_init_64 G l (fr6.mono (by decide))) zm_4_14 zm_2_0 zm_4_15 (by decide +kernel) rfl zm_4_13 rfl rfl (Nat.le_of_ble_eq_true rfl) ⟨Nat.le_of_ble_eq_true rfl, Nat.le_of_ble_eq_true rfl⟩ ⟨Nat.le_of_ble_eq_true rfl, Nat.le_of_ble_eq_true rfl⟩ dX10_init_50 ?_
  refine zn_putR C 0 63 (by decide) zk_0 (rfl : zcl[10]? = some (RX10, TX10, 12)) (k := 3) ⟨by decide, by decide⟩ zm_2_1 (Or.inr ⟨rfl, hin, rfl⟩) (tyX10_ok 3 (by decide)) rfl rfl zf_10_3 (Or.inr ⟨rfl, rfl⟩) (fr7.mono (by decide)) dX10_init_53 (fun hF8 => ?_)
  refine zr_aload_n C 0 dX10_init_56 rfl ?_
  refine zn_new C (N := 1) tyX1 (zk_64) (rfl : zcl[1]? = some (RX1, TX1, 1)) tyX1_ok zdf_1 (by decide) hF8 zm_2_2 zm_2_3 zm_2_4 ⟨Nat.le_of_ble_eq_true rfl, Nat.le_of_ble_eq_true rfl⟩ dX10_init_57 (fun hF9 => ?_)
  refine zr_dup C dX10_init_60 rfl ?_
  refine zn_callN C (na := 0) (As := []) (MC_X1_init_65 G l (fr8.mono (by decide))) zm_5_1 zm_2_4 zm_5_2 (by decide +kernel) rfl zne_X10_37 rfl rfl (Nat.le_of_ble_eq_true rfl) ⟨Nat.le_of_ble_eq_true rfl, Nat.le_of_ble_eq_true rfl⟩ ⟨Nat.le_of_ble_eq_true rfl, Nat.le_of_ble_eq_true rfl⟩ dX10_init_61 ?_
  refine zn_putR C 0 64 (by decide) zk_0 (rfl : zcl[10]? = some (RX10, TX10, 12)) (k := 4) ⟨by decide, by decide⟩ zm_2_5 (Or.inr ⟨rfl, hin, rfl⟩) (tyX10_ok 4 (by decide)) rfl rfl zf_10_4 (Or.inr ⟨rfl, rfl⟩) (fr9.mono (by decide)) dX10_init_64 (fun hF10 => ?_)
  refine zr_aload_n C 0 dX10_init_67 rfl ?_
  refine zn_new C (N := 7) tyX0 (zk_82) (rfl : zcl[0]? = some (RX0, TX0, 7)) tyX0_ok zdf_0 (by decide) hF10 zm_2_6 zm_2_7 zm_2_8 ⟨Nat.le_of_ble_eq_true rfl, Nat.le_of_ble_eq_true rfl⟩ dX10_init_68 (fun hF11 => ?_)
  refine zr_dup C dX10_init_71 rfl ?_
  refine zn_callN C (na := 0) (As := []) (MC_X0_init_83 G l (fr10.mono (by decide))) zm_5_6 zm_2_8 zm_5_7 (by decide +kernel) rfl zne_X10_44 rfl rfl (Nat.le_of_ble_eq_true rfl) ⟨Nat.le_of_ble_eq_true rfl, Nat.le_of_ble_eq_true rfl⟩ ⟨Nat.le_of_ble_eq_true rfl, Nat.le_of_ble_eq_true rfl⟩ dX10_init_72 ?_
  refine zn_putR C 0 82 (by decide) zk_0 (rfl : zcl[10]? = some (RX10, TX10, 12)) (k := 5) ⟨by decide, by decide⟩ zm_2_9 (Or.inr ⟨rfl, hin, rfl⟩) (tyX10_ok 5 (by decide)) rfl rfl zf_10_5 (Or.inr ⟨rfl, rfl⟩) (fr11.mono (by decide)) dX10_init_75 (fun hF12 => ?_)
  refine zr_aload_n C 0 dX10_init_78 rfl ?_
  refine zn_new C (N := 2) tyX9 (zk_88) (rfl : zcl[9]? = some (RX9, TX9, 2)) tyX9_ok zdf_9 (by decide) hF12 zm_2_10 zm_2_11 zm_2_12 ⟨Nat.le_of_ble_eq_true rfl, Nat.le_of_ble_eq_true rfl⟩ dX10_init_79 (fun hF13 => ?_)
  refine zr_dup C dX10_init_82 rfl ?_
  refine zn_callN C (na := 0) (As := []) (MC_X9_init_89 G l (fr12.mono (by decide))) zm_5_17 zm_2_12 zm_5_18 (by decide +kernel) rfl zne_X10_51 rfl rfl (Nat.le_of_ble_eq_true rfl) ⟨Nat.le_of_ble_eq_true rfl, Nat.le_of_ble_eq_true rfl⟩ ⟨Nat.le_of_ble_eq_true rfl, Nat.le_of_ble_eq_true rfl⟩ dX10_init_83 ?_
  refine zn_putR C 0 88 (by decide) zk_0 (rfl : zcl[10]? = some (RX10, TX10, 12)) (k := 6) ⟨by decide, by decide⟩ zm_2_13 (Or.inr ⟨rfl, hin, rfl⟩) (tyX10_ok 6 (by decide)) rfl rfl zf_10_6 (Or.inr ⟨rfl, rfl⟩) (fr13.mono (by decide)) dX10_init_86 (fun hF14 => ?_)
  refine zr_aload_n C 0 dX10_init_89 rfl ?_
  refine zn_new C (N := 3) tyX6 (zk_89) (rfl : zcl[6]? = some (RX6, TX6, 3)) tyX6_ok zdf_6 (by decide) hF14 zm_2_14 zm_2_15 zm_2_16 ⟨Nat.le_of_ble_eq_true rfl, Nat.le_of_ble_eq_true rfl⟩ dX10_init_90 (fun hF15 => ?_)
  refine zr_dup C dX10_init_93 rfl ?_
  refine zn_callN C (na := 0) (As := []) (MC_X6_init_90 G l (fr14.mono (by decide))) zm_5_22 zm_2_16 zm_5_23 (by decide +kernel) rfl zne_X10_58 rfl rfl (Nat.le_of_ble_eq_true rfl) ⟨Nat.le_of_ble_eq_true rfl, Nat.le_of_ble_eq_true rfl⟩ ⟨Nat.le_of_ble_eq_true rfl, Nat.le_of_ble_eq_true rfl⟩ dX10_init_94 ?_
  refine zn_putR C 0 89 (by decide) zk_0 (rfl : zcl[10]? = some (RX10, TX10, 12)) (k := 7) ⟨by decide, by decide⟩ zm_2_17 (Or.inr ⟨rfl, hin, rfl⟩) (tyX10_ok 7 (by decide)) rfl rfl zf_10_7 (Or.inr ⟨rfl, rfl⟩) (fr15.mono (by decide)) dX10_init_97 (fun hF16 => ?_)
  refine zr_aload_n C 0 dX10_init_100 rfl ?_
  refine zn_new C (N := 4) tyX2 (zk_91) (rfl : zcl[2]? = some (RX2, TX2, 4)) tyX2_ok zdf_2 (by decide) hF16 zm_2_18 zm_2_19 zm_2_20 ⟨Nat.le_of_ble_eq_true rfl, Nat.le_of_ble_eq_true rfl⟩ dX10_init_101 (fun hF17 => ?_)
  refine zr_dup C dX10_init_104 rfl ?_
  refine zn_callN C (na := 0) (As := []) (MC_X2_init_92 G l (fr16.mono (by decide))) zm_6_4 zm_2_20 zm_6_5 (by decide +kernel) rfl zne_X10_65 rfl rfl (Nat.le_of_ble_eq_true rfl) ⟨Nat.le_of_ble_eq_true rfl, Nat.le_of_ble_eq_true rfl⟩ ⟨Nat.le_of_ble_eq_true rfl, Nat.le_of_ble_eq_true rfl⟩ dX10_init_105 ?_
  refine zn_putR C 0 91 (by decide) zk_0 (rfl : zcl[10]? = some (RX10, TX10, 12)) (k := 8) ⟨by decide, by decide⟩ zm_2_21 (Or.inr ⟨rfl, hin, rfl⟩) (tyX10_ok 8 (by decide)) rfl rfl zf_10_8 (Or.inr ⟨rfl, rfl⟩) (fr17.mono (by decide)) dX10_init_108 (fun hF18 => ?_)
  refine zr_aload_n C 0 dX10_init_111 rfl ?_
  refine zn_new C (N := 6) tyX5 (zk_92) (rfl : zcl[5]? = some (RX5, TX5, 6)) tyX5_ok zdf_5 (by decide) hF18 zm_2_22 zm_2_23 zm_3_0 ⟨Nat.le_of_ble_eq_true rfl, Nat.le_of_ble_eq_true rfl⟩ dX10_init_112 (fun hF19 => ?_)
  refine zr_dup C dX10_init_115 rfl ?_
  refine zn_callN C (na := 0) (As := []) (MC_X5_init_93 G l (fr18.mono (by decide))) zm_6_11 zm_3_0 zm_6_12 (by decide +kernel) rfl zne_X10_72 rfl rfl (Nat.le_of_ble_eq_true rfl) ⟨Nat.le_of_ble_eq_true rfl, Nat.le_of_ble_eq_true rfl⟩ ⟨Nat.le_of_ble_eq_true rfl, Nat.le_of_ble_eq_true rfl⟩ dX10_init_116 ?_
  refine zn_putR C 0 92 (by decide) zk_0 (rfl : zcl[10]? = some (RX10, TX10, 12)) (k := 9) ⟨by decide, by decide⟩ zm_3_1 (Or.inr ⟨rfl, hin, rfl⟩) (tyX10_ok 9 (by decide)) rfl rfl zf_10_9 (Or.inr ⟨rfl, rfl⟩) (fr19.mono (by decide)) dX10_init_119 (fun hF20 => ?_)
  refine zr_aload_n C 0 dX10_init_122 rfl ?_
  refine zn_new C (N := 3) tyX7 (zk_97) (rfl : zcl[7]? = some (RX7, TX7, 3)) tyX7_ok zdf_7 (by decide) hF20 zm_3_2 zm_3_3 zm_3_4 ⟨Nat.le_of_ble_eq_true rfl, Nat.le_of_ble_eq_true rfl⟩ dX10_init_123 (fun hF21 => ?_)
  refine zr_dup C dX10_init_126 rfl ?_
  refine zn_callN C (na := 0) (As := []) (MC_X7_init_98 G l (fr20.mono (by decide))) zm_6_20 zm_3_4 zm_6_21 (by decide +kernel) rfl zne_X10_79 rfl rfl (Nat.le_of_ble_eq_true rfl) ⟨Nat.le_of_ble_eq_true rfl, Nat.le_of_ble_eq_true rfl⟩ ⟨Nat.le_of_ble_eq_true rfl, Nat.le_of_ble_eq_true rfl⟩ dX10_init_127 ?_
  refine zn_putR C 0 97 (by decide) zk_0 (rfl : zcl[10]? = some (RX10, TX10, 12)) (k := 10) ⟨by decide, by decide⟩ zm_3_5 (Or.inr ⟨rfl, hin, rfl⟩) (tyX10_ok 10 (by decide)) rfl rfl zf_10_10 (Or.inr ⟨rfl, rfl⟩) (fr21.mono (by decide)) dX10_init_130 (fun hF22 => ?_)
  refine zr_aload_n C 0 dX10_init_133 rfl ?_
  refine zr_iconst C dX10_init_134 (v := (0 : Int32)) (by decide) ?_
  refine zn_putI C 0 (by decide) zk_0 (rfl : zcl[10]? = some (RX10, TX10, 12)) (k := 11) ⟨by decide, by decide⟩ zm_3_6 rfl (tyX10_ok 11 (by decide)) rfl rfl zf_10_11 hF22 dX10_init_135 (fun hF23 => ?_)
  refine zr_aload_n C 0 dX10_init_138 rfl ?_
  refine zn_get C 0 82 (by decide) zk_0 (rfl : zcl[10]? = some (RX10, TX10, 12)) (k := 5) ⟨by decide, by decide⟩ zm_2_9 zf_10_5 (Or.inr (Or.inl ⟨rfl, rfl⟩)) (by decide +kernel) dX10_init_139 ?_
  refine zr_iconst C dX10_init_142 (v := (2 : Int32)) (by decide) ?_
  refine zr_callVV C (As := [.int (2 : Int32)]) 82 (by decide) (zenN_obj zk_82) (rfl : zcl[0]? = some (RX0, TX0, 7)) (MC_X0_begin_105 G l (fr22.mono (by decide))) zin_X0_begin zm_7_3 rfl rfl (Nat.le_of_ble_eq_true rfl) ⟨Nat.le_of_ble_eq_true rfl, Nat.le_of_ble_eq_true rfl⟩ ⟨Nat.le_of_ble_eq_true rfl, Nat.le_of_ble_eq_true rfl⟩ dX10_init_143 ?_
  exact zr_vret C hret rfl rfl dX10_init_146
set_option maxRecDepth 100000 in
set_option maxHeartbeats 4000000 in
theorem MC_X11_freshCounters_137 (G : zG) (l : Launch) (hF : zfrM 137 cs24 cr24) : zMV G l yX11_freshCounters cX11_freshCounters 2 none { frames := 0, cells := 0, slots := 0, locals := 0 } [.ref (G.1 + 105)] 137 (zenN G cs24 cr24) 137 (zenN G cs25 cr25) := by
  refine zentN (by decide +kernel) (Nat.le_of_ble_eq_true rfl) ?_
  intro p e s m args below meth c C hret hin0
  refine zr_sub [0] [(0, .ref (G.1 + 105))] rfl ?_
  refine zr_iconst C dX11_freshCounters_0 (v := (0 : Int32)) (by decide) ?_
  refine zr_istore_n C [(1, .int (0 : Int32)), (0, .ref (G.1 + 105))] dX11_freshCounters_1 (by decide) rfl ?_
  refine zr_iload_n C 0 dX11_freshCounters_2 rfl ?_
  refine zr_iconst C dX11_freshCounters_3 (v := (4 : Int32)) (by decide) ?_
  refine zr_icmp_ge C 30 dX11_freshCounters_4 (by decide) (fun h => absurd h (by decide)) (fun _ => ?_)
  refine zr_aload_n C 1 dX11_freshCounters_7 rfl ?_
  refine zn_get C 105 125 (by decide) zk_105 (rfl : zcl[11]? = some (RX11, TX11, 56)) (k := 37) ⟨by decide, by decide⟩ zm_8_7 zf_11_37 (Or.inr (Or.inl ⟨rfl, rfl⟩)) (by decide +kernel) dX11_freshCounters_8 ?_
  refine zr_iload_n C 0 dX11_freshCounters_11 rfl ?_
  refine zr_sipush C dX11_freshCounters_12 (v := (255 : Int32)) (by decide) ?_
  refine zn_iast C 125 0 (by decide) zk_125 (by decide) (by decide) hF dX11_freshCounters_15 (fun hF1 => ?_)
  refine zr_aload_n C 1 dX11_freshCounters_16 rfl ?_
  refine zn_get C 105 126 (by decide) zk_105 (rfl : zcl[11]? = some (RX11, TX11, 56)) (k := 38) ⟨by decide, by decide⟩ zm_8_8 zf_11_38 (Or.inr (Or.inl ⟨rfl, rfl⟩)) (by decide +kernel) dX11_freshCounters_17 ?_
  refine zr_iload_n C 0 dX11_freshCounters_20 rfl ?_
  refine zr_bipush C dX11_freshCounters_21 (v := (8 : Int32)) (by decide) ?_
  refine zn_iast C 126 0 (by decide) zk_126 (by decide) (by decide) hF1 dX11_freshCounters_23 (fun hF2 => ?_)
  refine zr_iinc C (1 : Int32) 0 [(1, .int (1 : Int32)), (0, .ref (G.1 + 105))] dX11_freshCounters_24 rfl (by decide) (by decide) rfl ?_
  refine zr_goto C 2 dX11_freshCounters_27 (by decide) ?_
  refine zr_iload_n C 0 dX11_freshCounters_2 rfl ?_
  refine zr_iconst C dX11_freshCounters_3 (v := (4 : Int32)) (by decide) ?_
  refine zr_icmp_ge C 30 dX11_freshCounters_4 (by decide) (fun h => absurd h (by decide)) (fun _ => ?_)
  refine zr_aload_n C 1 dX11_freshCounters_7 rfl ?_
  refine zn_get C 105 125 (by decide) zk_105 (rfl : zcl[11]? = some (RX11, TX11, 56)) (k := 37) ⟨by decide, by decide⟩ zm_8_7 zf_11_37 (Or.inr (Or.inl ⟨rfl, rfl⟩)) (by decide +kernel) dX11_freshCounters_8 ?_
  refine zr_iload_n C 0 dX11_freshCounters_11 rfl ?_
  refine zr_sipush C dX11_freshCounters_12 (v := (255 : Int32)) (by decide) ?_
  refine zn_iast C 125 1 (by decide) zk_125 (by decide) (by decide) hF2 dX11_freshCounters_15 (fun hF3 => ?_)
  refine zr_aload_n C 1 dX11_freshCounters_16 rfl ?_
  refine zn_get C 105 126 (by decide) zk_105 (rfl : zcl[11]? = some (RX11, TX11, 56)) (k := 38) ⟨by decide, by decide⟩ zm_8_8 zf_11_38 (Or.inr (Or.inl ⟨rfl, rfl⟩)) (by decide +kernel) dX11_freshCounters_17 ?_
  refine zr_iload_n C 0 dX11_freshCounters_20 rfl ?_
  refine zr_bipush C dX11_freshCounters_21 (v := (8 : Int32)) (by decide) ?_
  refine zn_iast C 126 1 (by decide) zk_126 (by decide) (by decide) hF3 dX11_freshCounters_23 (fun hF4 => ?_)
  refine zr_iinc C (2 : Int32) 0 [(1, .int (2 : Int32)), (0, .ref (G.1 + 105))] dX11_freshCounters_24 rfl (by decide) (by decide) rfl ?_
  refine zr_goto C 2 dX11_freshCounters_27 (by decide) ?_
  refine zr_iload_n C 0 dX11_freshCounters_2 rfl ?_
  refine zr_iconst C dX11_freshCounters_3 (v := (4 : Int32)) (by decide) ?_
  refine zr_icmp_ge C 30 dX11_freshCounters_4 (by decide) (fun h => absurd h (by decide)) (fun _ => ?_)
  refine zr_aload_n C 1 dX11_freshCounters_7 rfl ?_
  refine zn_get C 105 125 (by decide) zk_105 (rfl : zcl[11]? = some (RX11, TX11, 56)) (k := 37) ⟨by decide, by decide⟩ zm_8_7 zf_11_37 (Or.inr (Or.inl ⟨rfl, rfl⟩)) (by decide +kernel) dX11_freshCounters_8 ?_
  refine zr_iload_n C 0 dX11_freshCounters_11 rfl ?_
  refine zr_sipush C dX11_freshCounters_12 (v := (255 : Int32)) (by decide) ?_
  refine zn_iast C 125 2 (by decide) zk_125 (by decide) (by decide) hF4 dX11_freshCounters_15 (fun hF5 => ?_)
  refine zr_aload_n C 1 dX11_freshCounters_16 rfl ?_
  refine zn_get C 105 126 (by decide) zk_105 (rfl : zcl[11]? = some (RX11, TX11, 56)) (k := 38) ⟨by decide, by decide⟩ zm_8_8 zf_11_38 (Or.inr (Or.inl ⟨rfl, rfl⟩)) (by decide +kernel) dX11_freshCounters_17 ?_
  refine zr_iload_n C 0 dX11_freshCounters_20 rfl ?_
  refine zr_bipush C dX11_freshCounters_21 (v := (8 : Int32)) (by decide) ?_
  refine zn_iast C 126 2 (by decide) zk_126 (by decide) (by decide) hF5 dX11_freshCounters_23 (fun hF6 => ?_)
  refine zr_iinc C (3 : Int32) 0 [(1, .int (3 : Int32)), (0, .ref (G.1 + 105))] dX11_freshCounters_24 rfl (by decide) (by decide) rfl ?_
  refine zr_goto C 2 dX11_freshCounters_27 (by decide) ?_
  refine zr_iload_n C 0 dX11_freshCounters_2 rfl ?_
  refine zr_iconst C dX11_freshCounters_3 (v := (4 : Int32)) (by decide) ?_
  refine zr_icmp_ge C 30 dX11_freshCounters_4 (by decide) (fun h => absurd h (by decide)) (fun _ => ?_)
  refine zr_aload_n C 1 dX11_freshCounters_7 rfl ?_
  refine zn_get C 105 125 (by decide) zk_105 (rfl : zcl[11]? = some (RX11, TX11, 56)) (k := 37) ⟨by decide, by decide⟩ zm_8_7 zf_11_37 (Or.inr (Or.inl ⟨rfl, rfl⟩)) (by decide +kernel) dX11_freshCounters_8 ?_
  refine zr_iload_n C 0 dX11_freshCounters_11 rfl ?_
  refine zr_sipush C dX11_freshCounters_12 (v := (255 : Int32)) (by decide) ?_
  refine zn_iast C 125 3 (by decide) zk_125 (by decide) (by decide) hF6 dX11_freshCounters_15 (fun hF7 => ?_)
  refine zr_aload_n C 1 dX11_freshCounters_16 rfl ?_
  refine zn_get C 105 126 (by decide) zk_105 (rfl : zcl[11]? = some (RX11, TX11, 56)) (k := 38) ⟨by decide, by decide⟩ zm_8_8 zf_11_38 (Or.inr (Or.inl ⟨rfl, rfl⟩)) (by decide +kernel) dX11_freshCounters_17 ?_
  refine zr_iload_n C 0 dX11_freshCounters_20 rfl ?_
  refine zr_bipush C dX11_freshCounters_21 (v := (8 : Int32)) (by decide) ?_
  refine zn_iast C 126 3 (by decide) zk_126 (by decide) (by decide) hF7 dX11_freshCounters_23 (fun hF8 => ?_)
  refine zr_iinc C (4 : Int32) 0 [(1, .int (4 : Int32)), (0, .ref (G.1 + 105))] dX11_freshCounters_24 rfl (by decide) (by decide) rfl ?_
  refine zr_goto C 2 dX11_freshCounters_27 (by decide) ?_
  refine zr_iload_n C 0 dX11_freshCounters_2 rfl ?_
  refine zr_iconst C dX11_freshCounters_3 (v := (4 : Int32)) (by decide) ?_
  refine zr_icmp_ge C 30 dX11_freshCounters_4 (by decide) (fun _ => ?_) (fun h => absurd (by decide) h)
  exact zr_vret C hret rfl rfl dX11_freshCounters_30
set_option maxRecDepth 100000 in
set_option maxHeartbeats 4000000 in
theorem MC_X11_init_106 (G : zG) (l : Launch) (hF : zfrM 106 cs23 cr23) : zMV G l yX11_init cX11_init 2 none { frames := 1, cells := 31, slots := 7977, locals := 21 } [.ref (G.1 + 105)] 106 (zenN G cs23 cr23) 137 (zenN G cs25 cr25) := by
  refine zentN (by decide +kernel) (Nat.le_of_ble_eq_true rfl) ?_
  intro p e s m args below meth c C hret hin0
  have hin : meth.name = "<init>" := hin0
  refine zr_sub [0] [(0, .ref (G.1 + 105))] rfl ?_
  refine zr_aload_n C 0 dX11_init_0 rfl ?_
  refine zn_oi C zm_7_10 zm_1_11 zm_1_12 (Nat.le_of_ble_eq_true rfl) (Nat.le_of_ble_eq_true rfl) dX11_init_1 ?_
  refine zr_aload_n C 0 dX11_init_4 rfl ?_
  refine zr_bipush C dX11_init_5 (v := (16 : Int32)) (by decide) ?_
  refine zn_newa_i C zk_106 hF zm_3_17 (by decide) (by decide) (Nat.le_of_ble_eq_true rfl) ⟨Nat.le_of_ble_eq_true rfl, Nat.le_of_ble_eq_true rfl⟩ dX11_init_7 (fun hF1 => ?_)
  refine zn_putR C 105 106 (by decide) zk_105 (rfl : zcl[11]? = some (RX11, TX11, 56)) (k := 1) ⟨by decide, by decide⟩ zm_7_11 (Or.inr ⟨rfl, hin, rfl⟩) (tyX11_ok 1 (by decide)) rfl rfl zf_11_1 (Or.inr ⟨rfl, rfl⟩) hF1 dX11_init_9 (fun hF2 => ?_)
  refine zr_aload_n C 0 dX11_init_12 rfl ?_
  refine zr_sipush C dX11_init_13 (v := (128 : Int32)) (by decide) ?_
  refine zn_newa_i C zk_107 hF2 zm_3_17 (by decide) (by decide) (Nat.le_of_ble_eq_true rfl) ⟨Nat.le_of_ble_eq_true rfl, Nat.le_of_ble_eq_true rfl⟩ dX11_init_16 (fun hF3 => ?_)
  refine zn_putR C 105 107 (by decide) zk_105 (rfl : zcl[11]? = some (RX11, TX11, 56)) (k := 2) ⟨by decide, by decide⟩ zm_7_12 (Or.inr ⟨rfl, hin, rfl⟩) (tyX11_ok 2 (by decide)) rfl rfl zf_11_2 (Or.inr ⟨rfl, rfl⟩) hF3 dX11_init_18 (fun hF4 => ?_)
  refine zr_aload_n C 0 dX11_init_21 rfl ?_
  refine zr_bipush C dX11_init_22 (v := (16 : Int32)) (by decide) ?_
  refine zn_newa_i C zk_108 hF4 zm_3_17 (by decide) (by decide) (Nat.le_of_ble_eq_true rfl) ⟨Nat.le_of_ble_eq_true rfl, Nat.le_of_ble_eq_true rfl⟩ dX11_init_24 (fun hF5 => ?_)
  refine zn_putR C 105 108 (by decide) zk_105 (rfl : zcl[11]? = some (RX11, TX11, 56)) (k := 3) ⟨by decide, by decide⟩ zm_7_13 (Or.inr ⟨rfl, hin, rfl⟩) (tyX11_ok 3 (by decide)) rfl rfl zf_11_3 (Or.inr ⟨rfl, rfl⟩) hF5 dX11_init_26 (fun hF6 => ?_)
  refine zr_aload_n C 0 dX11_init_29 rfl ?_
  refine zr_bipush C dX11_init_30 (v := (40 : Int32)) (by decide) ?_
  refine zn_newa_i C zk_109 hF6 zm_3_17 (by decide) (by decide) (Nat.le_of_ble_eq_true rfl) ⟨Nat.le_of_ble_eq_true rfl, Nat.le_of_ble_eq_true rfl⟩ dX11_init_32 (fun hF7 => ?_)
  refine zn_putR C 105 109 (by decide) zk_105 (rfl : zcl[11]? = some (RX11, TX11, 56)) (k := 5) ⟨by decide, by decide⟩ zm_7_14 (Or.inr ⟨rfl, hin, rfl⟩) (tyX11_ok 5 (by decide)) rfl rfl zf_11_5 (Or.inr ⟨rfl, rfl⟩) hF7 dX11_init_34 (fun hF8 => ?_)
  refine zr_aload_n C 0 dX11_init_37 rfl ?_
  refine zr_bipush C dX11_init_38 (v := (40 : Int32)) (by decide) ?_
  refine zn_newa_i C zk_110 hF8 zm_3_17 (by decide) (by decide) (Nat.le_of_ble_eq_true rfl) ⟨Nat.le_of_ble_eq_true rfl, Nat.le_of_ble_eq_true rfl⟩ dX11_init_40 (fun hF9 => ?_)
  refine zn_putR C 105 110 (by decide) zk_105 (rfl : zcl[11]? = some (RX11, TX11, 56)) (k := 6) ⟨by decide, by decide⟩ zm_7_15 (Or.inr ⟨rfl, hin, rfl⟩) (tyX11_ok 6 (by decide)) rfl rfl zf_11_6 (Or.inr ⟨rfl, rfl⟩) hF9 dX11_init_42 (fun hF10 => ?_)
  refine zr_aload_n C 0 dX11_init_45 rfl ?_
  refine zr_sipush C dX11_init_46 (v := (6000 : Int32)) (by decide) ?_
  refine zn_newa_i C zk_111 hF10 zm_3_17 (by decide) (by decide) (Nat.le_of_ble_eq_true rfl) ⟨Nat.le_of_ble_eq_true rfl, Nat.le_of_ble_eq_true rfl⟩ dX11_init_49 (fun hF11 => ?_)
  refine zn_putR C 105 111 (by decide) zk_105 (rfl : zcl[11]? = some (RX11, TX11, 56)) (k := 8) ⟨by decide, by decide⟩ zm_7_16 (Or.inr ⟨rfl, hin, rfl⟩) (tyX11_ok 8 (by decide)) rfl rfl zf_11_8 (Or.inr ⟨rfl, rfl⟩) hF11 dX11_init_51 (fun hF12 => ?_)
  refine zr_aload_n C 0 dX11_init_54 rfl ?_
  refine zr_bipush C dX11_init_55 (v := (16 : Int32)) (by decide) ?_
  refine zn_newa_i C zk_112 hF12 zm_3_17 (by decide) (by decide) (Nat.le_of_ble_eq_true rfl) ⟨Nat.le_of_ble_eq_true rfl, Nat.le_of_ble_eq_true rfl⟩ dX11_init_57 (fun hF13 => ?_)
  refine zn_putR C 105 112 (by decide) zk_105 (rfl : zcl[11]? = some (RX11, TX11, 56)) (k := 9) ⟨by decide, by decide⟩ zm_7_17 (Or.inr ⟨rfl, hin, rfl⟩) (tyX11_ok 9 (by decide)) rfl rfl zf_11_9 (Or.inr ⟨rfl, rfl⟩) hF13 dX11_init_59 (fun hF14 => ?_)
  refine zr_aload_n C 0 dX11_init_62 rfl ?_
  refine zr_bipush C dX11_init_63 (v := (16 : Int32)) (by decide) ?_
  refine zn_newa_i C zk_113 hF14 zm_3_17 (by decide) (by decide) (Nat.le_of_ble_eq_true rfl) ⟨Nat.le_of_ble_eq_true rfl, Nat.le_of_ble_eq_true rfl⟩ dX11_init_65 (fun hF15 => ?_)
  refine zn_putR C 105 113 (by decide) zk_105 (rfl : zcl[11]? = some (RX11, TX11, 56)) (k := 12) ⟨by decide, by decide⟩ zm_7_18 (Or.inr ⟨rfl, hin, rfl⟩) (tyX11_ok 12 (by decide)) rfl rfl zf_11_12 (Or.inr ⟨rfl, rfl⟩) hF15 dX11_init_67 (fun hF16 => ?_)
  refine zr_aload_n C 0 dX11_init_70 rfl ?_
  refine zr_sipush C dX11_init_71 (v := (128 : Int32)) (by decide) ?_
  refine zn_newa_i C zk_114 hF16 zm_3_17 (by decide) (by decide) (Nat.le_of_ble_eq_true rfl) ⟨Nat.le_of_ble_eq_true rfl, Nat.le_of_ble_eq_true rfl⟩ dX11_init_74 (fun hF17 => ?_)
  refine zn_putR C 105 114 (by decide) zk_105 (rfl : zcl[11]? = some (RX11, TX11, 56)) (k := 13) ⟨by decide, by decide⟩ zm_7_19 (Or.inr ⟨rfl, hin, rfl⟩) (tyX11_ok 13 (by decide)) rfl rfl zf_11_13 (Or.inr ⟨rfl, rfl⟩) hF17 dX11_init_76 (fun hF18 => ?_)
  refine zr_aload_n C 0 dX11_init_79 rfl ?_
  refine zr_bipush C dX11_init_80 (v := (16 : Int32)) (by decide) ?_
  refine zn_newa_i C zk_115 hF18 zm_3_17 (by decide) (by decide) (Nat.le_of_ble_eq_true rfl) ⟨Nat.le_of_ble_eq_true rfl, Nat.le_of_ble_eq_true rfl⟩ dX11_init_82 (fun hF19 => ?_)
  refine zn_putR C 105 115 (by decide) zk_105 (rfl : zcl[11]? = some (RX11, TX11, 56)) (k := 14) ⟨by decide, by decide⟩ zm_7_20 (Or.inr ⟨rfl, hin, rfl⟩) (tyX11_ok 14 (by decide)) rfl rfl zf_11_14 (Or.inr ⟨rfl, rfl⟩) hF19 dX11_init_84 (fun hF20 => ?_)
  refine zr_aload_n C 0 dX11_init_87 rfl ?_
  refine zr_bipush C dX11_init_88 (v := (40 : Int32)) (by decide) ?_
  refine zn_newa_i C zk_116 hF20 zm_3_17 (by decide) (by decide) (Nat.le_of_ble_eq_true rfl) ⟨Nat.le_of_ble_eq_true rfl, Nat.le_of_ble_eq_true rfl⟩ dX11_init_90 (fun hF21 => ?_)
  refine zn_putR C 105 116 (by decide) zk_105 (rfl : zcl[11]? = some (RX11, TX11, 56)) (k := 16) ⟨by decide, by decide⟩ zm_7_21 (Or.inr ⟨rfl, hin, rfl⟩) (tyX11_ok 16 (by decide)) rfl rfl zf_11_16 (Or.inr ⟨rfl, rfl⟩) hF21 dX11_init_92 (fun hF22 => ?_)
  refine zr_aload_n C 0 dX11_init_95 rfl ?_
  refine zr_bipush C dX11_init_96 (v := (40 : Int32)) (by decide) ?_
  refine zn_newa_i C zk_117 hF22 zm_3_17 (by decide) (by decide) (Nat.le_of_ble_eq_true rfl) ⟨Nat.le_of_ble_eq_true rfl, Nat.le_of_ble_eq_true rfl⟩ dX11_init_98 (fun hF23 => ?_)
  refine zn_putR C 105 117 (by decide) zk_105 (rfl : zcl[11]? = some (RX11, TX11, 56)) (k := 17) ⟨by decide, by decide⟩ zm_7_22 (Or.inr ⟨rfl, hin, rfl⟩) (tyX11_ok 17 (by decide)) rfl rfl zf_11_17 (Or.inr ⟨rfl, rfl⟩) hF23 dX11_init_100 (fun hF24 => ?_)
  refine zr_aload_n C 0 dX11_init_103 rfl ?_
  refine zr_iconst C dX11_init_104 (v := (5 : Int32)) (by decide) ?_
  refine zn_newa_i C zk_118 hF24 zm_3_17 (by decide) (by decide) (Nat.le_of_ble_eq_true rfl) ⟨Nat.le_of_ble_eq_true rfl, Nat.le_of_ble_eq_true rfl⟩ dX11_init_105 (fun hF25 => ?_)
  refine zn_putR C 105 118 (by decide) zk_105 (rfl : zcl[11]? = some (RX11, TX11, 56)) (k := 18) ⟨by decide, by decide⟩ zm_7_23 (Or.inr ⟨rfl, hin, rfl⟩) (tyX11_ok 18 (by decide)) rfl rfl zf_11_18 (Or.inr ⟨rfl, rfl⟩) hF25 dX11_init_107 (fun hF26 => ?_)
  refine zr_aload_n C 0 dX11_init_110 rfl ?_
  refine zr_bipush C dX11_init_111 (v := (100 : Int32)) (by decide) ?_
  refine zn_newa_i C zk_119 hF26 zm_3_17 (by decide) (by decide) (Nat.le_of_ble_eq_true rfl) ⟨Nat.le_of_ble_eq_true rfl, Nat.le_of_ble_eq_true rfl⟩ dX11_init_113 (fun hF27 => ?_)
  refine zn_putR C 105 119 (by decide) zk_105 (rfl : zcl[11]? = some (RX11, TX11, 56)) (k := 20) ⟨by decide, by decide⟩ zm_8_0 (Or.inr ⟨rfl, hin, rfl⟩) (tyX11_ok 20 (by decide)) rfl rfl zf_11_20 (Or.inr ⟨rfl, rfl⟩) hF27 dX11_init_115 (fun hF28 => ?_)
  refine zr_aload_n C 0 dX11_init_118 rfl ?_
  refine zr_bipush C dX11_init_119 (v := (100 : Int32)) (by decide) ?_
  refine zn_newa_i C zk_120 hF28 zm_3_17 (by decide) (by decide) (Nat.le_of_ble_eq_true rfl) ⟨Nat.le_of_ble_eq_true rfl, Nat.le_of_ble_eq_true rfl⟩ dX11_init_121 (fun hF29 => ?_)
  refine zn_putR C 105 120 (by decide) zk_105 (rfl : zcl[11]? = some (RX11, TX11, 56)) (k := 21) ⟨by decide, by decide⟩ zm_8_1 (Or.inr ⟨rfl, hin, rfl⟩) (tyX11_ok 21 (by decide)) rfl rfl zf_11_21 (Or.inr ⟨rfl, rfl⟩) hF29 dX11_init_123 (fun hF30 => ?_)
  refine zr_aload_n C 0 dX11_init_126 rfl ?_
  refine zr_sipush C dX11_init_127 (v := (320 : Int32)) (by decide) ?_
  refine zn_newa_i C zk_121 hF30 zm_3_17 (by decide) (by decide) (Nat.le_of_ble_eq_true rfl) ⟨Nat.le_of_ble_eq_true rfl, Nat.le_of_ble_eq_true rfl⟩ dX11_init_130 (fun hF31 => ?_)
  refine zn_putR C 105 121 (by decide) zk_105 (rfl : zcl[11]? = some (RX11, TX11, 56)) (k := 24) ⟨by decide, by decide⟩ zm_8_2 (Or.inr ⟨rfl, hin, rfl⟩) (tyX11_ok 24 (by decide)) rfl rfl zf_11_24 (Or.inr ⟨rfl, rfl⟩) hF31 dX11_init_132 (fun hF32 => ?_)
  refine zr_aload_n C 0 dX11_init_135 rfl ?_
  refine zr_bipush C dX11_init_136 (v := (40 : Int32)) (by decide) ?_
  refine zn_newa_i C zk_122 hF32 zm_3_17 (by decide) (by decide) (Nat.le_of_ble_eq_true rfl) ⟨Nat.le_of_ble_eq_true rfl, Nat.le_of_ble_eq_true rfl⟩ dX11_init_138 (fun hF33 => ?_)
  refine zn_putR C 105 122 (by decide) zk_105 (rfl : zcl[11]? = some (RX11, TX11, 56)) (k := 32) ⟨by decide, by decide⟩ zm_8_3 (Or.inr ⟨rfl, hin, rfl⟩) (tyX11_ok 32 (by decide)) rfl rfl zf_11_32 (Or.inr ⟨rfl, rfl⟩) hF33 dX11_init_140 (fun hF34 => ?_)
  refine zr_aload_n C 0 dX11_init_143 rfl ?_
  refine zr_bipush C dX11_init_144 (v := (40 : Int32)) (by decide) ?_
  refine zn_newa_i C zk_123 hF34 zm_3_17 (by decide) (by decide) (Nat.le_of_ble_eq_true rfl) ⟨Nat.le_of_ble_eq_true rfl, Nat.le_of_ble_eq_true rfl⟩ dX11_init_146 (fun hF35 => ?_)
  refine zn_putR C 105 123 (by decide) zk_105 (rfl : zcl[11]? = some (RX11, TX11, 56)) (k := 33) ⟨by decide, by decide⟩ zm_8_4 (Or.inr ⟨rfl, hin, rfl⟩) (tyX11_ok 33 (by decide)) rfl rfl zf_11_33 (Or.inr ⟨rfl, rfl⟩) hF35 dX11_init_148 (fun hF36 => ?_)
  refine zr_aload_n C 0 dX11_init_151 rfl ?_
  refine zr_sipush C dX11_init_152 (v := (128 : Int32)) (by decide) ?_
  refine zn_newa_i C zk_124 hF36 zm_3_17 (by decide) (by decide) (Nat.le_of_ble_eq_true rfl) ⟨Nat.le_of_ble_eq_true rfl, Nat.le_of_ble_eq_true rfl⟩ dX11_init_155 (fun hF37 => ?_)
  refine zn_putR C 105 124 (by decide) zk_105 (rfl : zcl[11]? = some (RX11, TX11, 56)) (k := 35) ⟨by decide, by decide⟩ zm_8_5 (Or.inr ⟨rfl, hin, rfl⟩) (tyX11_ok 35 (by decide)) rfl rfl zf_11_35 (Or.inr ⟨rfl, rfl⟩) hF37 dX11_init_157 (fun hF38 => ?_)
  refine zr_aload_n C 0 dX11_init_160 rfl ?_
  refine zr_iconst C dX11_init_161 (v := (2 : Int32)) (by decide) ?_
  refine zn_putI C 105 (by decide) zk_105 (rfl : zcl[11]? = some (RX11, TX11, 56)) (k := 36) ⟨by decide, by decide⟩ zm_8_6 rfl (tyX11_ok 36 (by decide)) rfl rfl zf_11_36 hF38 dX11_init_162 (fun hF39 => ?_)
  refine zr_aload_n C 0 dX11_init_165 rfl ?_
  refine zr_iconst C dX11_init_166 (v := (4 : Int32)) (by decide) ?_
  refine zn_newa_i C zk_125 hF39 zm_3_17 (by decide) (by decide) (Nat.le_of_ble_eq_true rfl) ⟨Nat.le_of_ble_eq_true rfl, Nat.le_of_ble_eq_true rfl⟩ dX11_init_167 (fun hF40 => ?_)
  refine zn_putR C 105 125 (by decide) zk_105 (rfl : zcl[11]? = some (RX11, TX11, 56)) (k := 37) ⟨by decide, by decide⟩ zm_8_7 (Or.inr ⟨rfl, hin, rfl⟩) (tyX11_ok 37 (by decide)) rfl rfl zf_11_37 (Or.inr ⟨rfl, rfl⟩) hF40 dX11_init_169 (fun hF41 => ?_)
  refine zr_aload_n C 0 dX11_init_172 rfl ?_
  refine zr_iconst C dX11_init_173 (v := (4 : Int32)) (by decide) ?_
  refine zn_newa_i C zk_126 hF41 zm_3_17 (by decide) (by decide) (Nat.le_of_ble_eq_true rfl) ⟨Nat.le_of_ble_eq_true rfl, Nat.le_of_ble_eq_true rfl⟩ dX11_init_174 (fun hF42 => ?_)
  refine zn_putR C 105 126 (by decide) zk_105 (rfl : zcl[11]? = some (RX11, TX11, 56)) (k := 38) ⟨by decide, by decide⟩ zm_8_8 (Or.inr ⟨rfl, hin, rfl⟩) (tyX11_ok 38 (by decide)) rfl rfl zf_11_38 (Or.inr ⟨rfl, rfl⟩) hF42 dX11_init_176 (fun hF43 => ?_)
  refine zr_aload_n C 0 dX11_init_179 rfl ?_
  refine zr_sipush C dX11_init_180 (v := (256 : Int32)) (by decide) ?_
  refine zn_newa_i C zk_127 hF43 zm_3_17 (by decide) (by decide) (Nat.le_of_ble_eq_true rfl) ⟨Nat.le_of_ble_eq_true rfl, Nat.le_of_ble_eq_true rfl⟩ dX11_init_183 (fun hF44 => ?_)
  refine zn_putR C 105 127 (by decide) zk_105 (rfl : zcl[11]? = some (RX11, TX11, 56)) (k := 39) ⟨by decide, by decide⟩ zm_8_9 (Or.inr ⟨rfl, hin, rfl⟩) (tyX11_ok 39 (by decide)) rfl rfl zf_11_39 (Or.inr ⟨rfl, rfl⟩) hF44 dX11_init_185 (fun hF45 => ?_)
  refine zr_aload_n C 0 dX11_init_188 rfl ?_
  refine zr_sipush C dX11_init_189 (v := (256 : Int32)) (by decide) ?_
  refine zn_newa_z C zk_128 hF45 zm_5_13 (by decide) (by decide) (Nat.le_of_ble_eq_true rfl) ⟨Nat.le_of_ble_eq_true rfl, Nat.le_of_ble_eq_true rfl⟩ dX11_init_192 (fun hF46 => ?_)
  refine zn_putR C 105 128 (by decide) zk_105 (rfl : zcl[11]? = some (RX11, TX11, 56)) (k := 40) ⟨by decide, by decide⟩ zm_8_10 (Or.inr ⟨rfl, hin, rfl⟩) (tyX11_ok 40 (by decide)) rfl rfl zf_11_40 (Or.inr ⟨rfl, rfl⟩) hF46 dX11_init_194 (fun hF47 => ?_)
  refine zr_aload_n C 0 dX11_init_197 rfl ?_
  refine zr_bipush C dX11_init_198 (v := (8 : Int32)) (by decide) ?_
  refine zn_newa_i C zk_129 hF47 zm_3_17 (by decide) (by decide) (Nat.le_of_ble_eq_true rfl) ⟨Nat.le_of_ble_eq_true rfl, Nat.le_of_ble_eq_true rfl⟩ dX11_init_200 (fun hF48 => ?_)
  refine zn_putR C 105 129 (by decide) zk_105 (rfl : zcl[11]? = some (RX11, TX11, 56)) (k := 42) ⟨by decide, by decide⟩ zm_8_11 (Or.inr ⟨rfl, hin, rfl⟩) (tyX11_ok 42 (by decide)) rfl rfl zf_11_42 (Or.inr ⟨rfl, rfl⟩) hF48 dX11_init_202 (fun hF49 => ?_)
  refine zr_aload_n C 0 dX11_init_205 rfl ?_
  refine zr_bipush C dX11_init_206 (v := (16 : Int32)) (by decide) ?_
  refine zn_newa_i C zk_130 hF49 zm_3_17 (by decide) (by decide) (Nat.le_of_ble_eq_true rfl) ⟨Nat.le_of_ble_eq_true rfl, Nat.le_of_ble_eq_true rfl⟩ dX11_init_208 (fun hF50 => ?_)
  refine zn_putR C 105 130 (by decide) zk_105 (rfl : zcl[11]? = some (RX11, TX11, 56)) (k := 47) ⟨by decide, by decide⟩ zm_8_12 (Or.inr ⟨rfl, hin, rfl⟩) (tyX11_ok 47 (by decide)) rfl rfl zf_11_47 (Or.inr ⟨rfl, rfl⟩) hF50 dX11_init_210 (fun hF51 => ?_)
  refine zr_aload_n C 0 dX11_init_213 rfl ?_
  refine zr_bipush C dX11_init_214 (v := (12 : Int32)) (by decide) ?_
  refine zn_newa_i C zk_131 hF51 zm_3_17 (by decide) (by decide) (Nat.le_of_ble_eq_true rfl) ⟨Nat.le_of_ble_eq_true rfl, Nat.le_of_ble_eq_true rfl⟩ dX11_init_216 (fun hF52 => ?_)
  refine zn_putR C 105 131 (by decide) zk_105 (rfl : zcl[11]? = some (RX11, TX11, 56)) (k := 50) ⟨by decide, by decide⟩ zm_8_13 (Or.inr ⟨rfl, hin, rfl⟩) (tyX11_ok 50 (by decide)) rfl rfl zf_11_50 (Or.inr ⟨rfl, rfl⟩) hF52 dX11_init_218 (fun hF53 => ?_)
  refine zr_aload_n C 0 dX11_init_221 rfl ?_
  refine zr_bipush C dX11_init_222 (v := (12 : Int32)) (by decide) ?_
  refine zn_newa_i C zk_132 hF53 zm_3_17 (by decide) (by decide) (Nat.le_of_ble_eq_true rfl) ⟨Nat.le_of_ble_eq_true rfl, Nat.le_of_ble_eq_true rfl⟩ dX11_init_224 (fun hF54 => ?_)
  refine zn_putR C 105 132 (by decide) zk_105 (rfl : zcl[11]? = some (RX11, TX11, 56)) (k := 51) ⟨by decide, by decide⟩ zm_8_14 (Or.inr ⟨rfl, hin, rfl⟩) (tyX11_ok 51 (by decide)) rfl rfl zf_11_51 (Or.inr ⟨rfl, rfl⟩) hF54 dX11_init_226 (fun hF55 => ?_)
  refine zr_aload_n C 0 dX11_init_229 rfl ?_
  refine zr_bipush C dX11_init_230 (v := (12 : Int32)) (by decide) ?_
  refine zn_newa_i C zk_133 hF55 zm_3_17 (by decide) (by decide) (Nat.le_of_ble_eq_true rfl) ⟨Nat.le_of_ble_eq_true rfl, Nat.le_of_ble_eq_true rfl⟩ dX11_init_232 (fun hF56 => ?_)
  refine zn_putR C 105 133 (by decide) zk_105 (rfl : zcl[11]? = some (RX11, TX11, 56)) (k := 52) ⟨by decide, by decide⟩ zm_8_15 (Or.inr ⟨rfl, hin, rfl⟩) (tyX11_ok 52 (by decide)) rfl rfl zf_11_52 (Or.inr ⟨rfl, rfl⟩) hF56 dX11_init_234 (fun hF57 => ?_)
  refine zr_aload_n C 0 dX11_init_237 rfl ?_
  refine zr_iconst C dX11_init_238 (v := (4 : Int32)) (by decide) ?_
  refine zn_newa_i C zk_134 hF57 zm_3_17 (by decide) (by decide) (Nat.le_of_ble_eq_true rfl) ⟨Nat.le_of_ble_eq_true rfl, Nat.le_of_ble_eq_true rfl⟩ dX11_init_239 (fun hF58 => ?_)
  refine zn_putR C 105 134 (by decide) zk_105 (rfl : zcl[11]? = some (RX11, TX11, 56)) (k := 53) ⟨by decide, by decide⟩ zm_8_16 (Or.inr ⟨rfl, hin, rfl⟩) (tyX11_ok 53 (by decide)) rfl rfl zf_11_53 (Or.inr ⟨rfl, rfl⟩) hF58 dX11_init_241 (fun hF59 => ?_)
  refine zr_aload_n C 0 dX11_init_244 rfl ?_
  refine zr_iconst C dX11_init_245 (v := (4 : Int32)) (by decide) ?_
  refine zn_newa_i C zk_135 hF59 zm_3_17 (by decide) (by decide) (Nat.le_of_ble_eq_true rfl) ⟨Nat.le_of_ble_eq_true rfl, Nat.le_of_ble_eq_true rfl⟩ dX11_init_246 (fun hF60 => ?_)
  refine zn_putR C 105 135 (by decide) zk_105 (rfl : zcl[11]? = some (RX11, TX11, 56)) (k := 54) ⟨by decide, by decide⟩ zm_8_17 (Or.inr ⟨rfl, hin, rfl⟩) (tyX11_ok 54 (by decide)) rfl rfl zf_11_54 (Or.inr ⟨rfl, rfl⟩) hF60 dX11_init_248 (fun hF61 => ?_)
  refine zr_aload_n C 0 dX11_init_251 rfl ?_
  refine zr_sipush C dX11_init_252 (v := (160 : Int32)) (by decide) ?_
  refine zn_newa_i C zk_136 hF61 zm_3_17 (by decide) (by decide) (Nat.le_of_ble_eq_true rfl) ⟨Nat.le_of_ble_eq_true rfl, Nat.le_of_ble_eq_true rfl⟩ dX11_init_255 (fun hF62 => ?_)
  refine zn_putR C 105 136 (by decide) zk_105 (rfl : zcl[11]? = some (RX11, TX11, 56)) (k := 55) ⟨by decide, by decide⟩ zm_8_18 (Or.inr ⟨rfl, hin, rfl⟩) (tyX11_ok 55 (by decide)) rfl rfl zf_11_55 (Or.inr ⟨rfl, rfl⟩) hF62 dX11_init_257 (fun hF63 => ?_)
  refine zr_iconst C dX11_init_260 (v := (0 : Int32)) (by decide) ?_
  refine zr_istore_n C [(1, .int (0 : Int32)), (0, .ref (G.1 + 105))] dX11_init_261 (by decide) rfl ?_
  refine zr_iload_n C 0 dX11_init_262 rfl ?_
  refine zr_iconst C dX11_init_263 (v := (4 : Int32)) (by decide) ?_
  refine zr_icmp_ge C 281 dX11_init_264 (by decide) (fun h => absurd h (by decide)) (fun _ => ?_)
  refine zr_aload_n C 1 dX11_init_267 rfl ?_
  refine zn_get C 105 134 (by decide) zk_105 (rfl : zcl[11]? = some (RX11, TX11, 56)) (k := 53) ⟨by decide, by decide⟩ zm_8_16 zf_11_53 (Or.inr (Or.inl ⟨rfl, rfl⟩)) (by decide +kernel) dX11_init_268 ?_
  refine zr_iload_n C 0 dX11_init_271 rfl ?_
  refine zr_bipush C dX11_init_272 (v := (-4 : Int32)) (by decide) ?_
  refine zn_iast C 134 0 (by decide) zk_134 (by decide) (by decide) hF63 dX11_init_274 (fun hF64 => ?_)
  refine zr_iinc C (1 : Int32) 0 [(1, .int (1 : Int32)), (0, .ref (G.1 + 105))] dX11_init_275 rfl (by decide) (by decide) rfl ?_
  refine zr_goto C 262 dX11_init_278 (by decide) ?_
  refine zr_iload_n C 0 dX11_init_262 rfl ?_
  refine zr_iconst C dX11_init_263 (v := (4 : Int32)) (by decide) ?_
  refine zr_icmp_ge C 281 dX11_init_264 (by decide) (fun h => absurd h (by decide)) (fun _ => ?_)
  refine zr_aload_n C 1 dX11_init_267 rfl ?_
  refine zn_get C 105 134 (by decide) zk_105 (rfl : zcl[11]? = some (RX11, TX11, 56)) (k := 53) ⟨by decide, by decide⟩ zm_8_16 zf_11_53 (Or.inr (Or.inl ⟨rfl, rfl⟩)) (by decide +kernel) dX11_init_268 ?_
  refine zr_iload_n C 0 dX11_init_271 rfl ?_
  refine zr_bipush C dX11_init_272 (v := (-4 : Int32)) (by decide) ?_
  refine zn_iast C 134 1 (by decide) zk_134 (by decide) (by decide) hF64 dX11_init_274 (fun hF65 => ?_)
  refine zr_iinc C (2 : Int32) 0 [(1, .int (2 : Int32)), (0, .ref (G.1 + 105))] dX11_init_275 rfl (by decide) (by decide) rfl ?_
  refine zr_goto C 262 dX11_init_278 (by decide) ?_
  refine zr_iload_n C 0 dX11_init_262 rfl ?_
  refine zr_iconst C dX11_init_263 (v := (4 : Int32)) (by decide) ?_
  refine zr_icmp_ge C 281 dX11_init_264 (by decide) (fun h => absurd h (by decide)) (fun _ => ?_)
  refine zr_aload_n C 1 dX11_init_267 rfl ?_
  refine zn_get C 105 134 (by decide) zk_105 (rfl : zcl[11]? = some (RX11, TX11, 56)) (k := 53) ⟨by decide, by decide⟩ zm_8_16 zf_11_53 (Or.inr (Or.inl ⟨rfl, rfl⟩)) (by decide +kernel) dX11_init_268 ?_
  refine zr_iload_n C 0 dX11_init_271 rfl ?_
  refine zr_bipush C dX11_init_272 (v := (-4 : Int32)) (by decide) ?_
  refine zn_iast C 134 2 (by decide) zk_134 (by decide) (by decide) hF65 dX11_init_274 (fun hF66 => ?_)
  refine zr_iinc C (3 : Int32) 0 [(1, .int (3 : Int32)), (0, .ref (G.1 + 105))] dX11_init_275 rfl (by decide) (by decide) rfl ?_
  refine zr_goto C 262 dX11_init_278 (by decide) ?_
  refine zr_iload_n C 0 dX11_init_262 rfl ?_
  refine zr_iconst C dX11_init_263 (v := (4 : Int32)) (by decide) ?_
  refine zr_icmp_ge C 281 dX11_init_264 (by decide) (fun h => absurd h (by decide)) (fun _ => ?_)
  refine zr_aload_n C 1 dX11_init_267 rfl ?_
  refine zn_get C 105 134 (by decide) zk_105 (rfl : zcl[11]? = some (RX11, TX11, 56)) (k := 53) ⟨by decide, by decide⟩ zm_8_16 zf_11_53 (Or.inr (Or.inl ⟨rfl, rfl⟩)) (by decide +kernel) dX11_init_268 ?_
  refine zr_iload_n C 0 dX11_init_271 rfl ?_
  refine zr_bipush C dX11_init_272 (v := (-4 : Int32)) (by decide) ?_
  refine zn_iast C 134 3 (by decide) zk_134 (by decide) (by decide) hF66 dX11_init_274 (fun hF67 => ?_)
  refine zr_iinc C (4 : Int32) 0 [(1, .int (4 : Int32)), (0, .ref (G.1 + 105))] dX11_init_275 rfl (by decide) (by decide) rfl ?_
  refine zr_goto C 262 dX11_init_278 (by decide) ?_
  refine zr_iload_n C 0 dX11_init_262 rfl ?_
  refine zr_iconst C dX11_init_263 (v := (4 : Int32)) (by decide) ?_
  refine zr_icmp_ge C 281 dX11_init_264 (by decide) (fun _ => ?_) (fun h => absurd (by decide) h)
  refine zr_aload_n C 1 dX11_init_281 rfl ?_
  refine zr_callVV C (As := []) 105 (by decide) (zenN_obj zk_105) (rfl : zcl[11]? = some (RX11, TX11, 56)) (MC_X11_freshCounters_137 G l (fr24.mono (by decide))) zin_X11_freshCounters zm_8_19 rfl rfl (Nat.le_of_ble_eq_true rfl) ⟨Nat.le_of_ble_eq_true rfl, Nat.le_of_ble_eq_true rfl⟩ ⟨Nat.le_of_ble_eq_true rfl, Nat.le_of_ble_eq_true rfl⟩ dX11_init_282 ?_
  exact zr_vret C hret rfl rfl dX11_init_285
