theorem dX11_keepProgram_39 : decode cX11_keepProgram 39 = .ok (.aload_n 0, 1) := by decide +kernel
theorem dX11_keepProgram_40 : decode cX11_keepProgram 40 = .ok (.getfield 7, 3) := by decide +kernel
theorem dX11_keepProgram_43 : decode cX11_keepProgram 43 = .ok (.iload_n 1, 1) := by decide +kernel
theorem dX11_keepProgram_44 : decode cX11_keepProgram 44 = .ok (.aload_n 0, 1) := by decide +kernel
theorem dX11_keepProgram_45 : decode cX11_keepProgram 45 = .ok (.getfield 31, 3) := by decide +kernel
theorem dX11_keepProgram_48 : decode cX11_keepProgram 48 = .ok (.iload_n 1, 1) := by decide +kernel
theorem dX11_keepProgram_49 : decode cX11_keepProgram 49 = .ok (.iaload, 1) := by decide +kernel
theorem dX11_keepProgram_50 : decode cX11_keepProgram 50 = .ok (.iastore, 1) := by decide +kernel
theorem dX11_keepProgram_51 : decode cX11_keepProgram 51 = .ok (.aload_n 0, 1) := by decide +kernel
theorem dX11_keepProgram_52 : decode cX11_keepProgram 52 = .ok (.getfield 16, 3) := by decide +kernel
theorem dX11_keepProgram_55 : decode cX11_keepProgram 55 = .ok (.iload_n 1, 1) := by decide +kernel
theorem dX11_keepProgram_56 : decode cX11_keepProgram 56 = .ok (.aload_n 0, 1) := by decide +kernel
theorem dX11_keepProgram_57 : decode cX11_keepProgram 57 = .ok (.getfield 37, 3) := by decide +kernel
theorem dX11_keepProgram_60 : decode cX11_keepProgram 60 = .ok (.iload_n 1, 1) := by decide +kernel
theorem dX11_keepProgram_61 : decode cX11_keepProgram 61 = .ok (.iaload, 1) := by decide +kernel
theorem dX11_keepProgram_62 : decode cX11_keepProgram 62 = .ok (.iastore, 1) := by decide +kernel
theorem dX11_keepProgram_63 : decode cX11_keepProgram 63 = .ok (.aload_n 0, 1) := by decide +kernel
theorem dX11_keepProgram_64 : decode cX11_keepProgram 64 = .ok (.getfield 28, 3) := by decide +kernel
theorem dX11_keepProgram_67 : decode cX11_keepProgram 67 = .ok (.iload_n 1, 1) := by decide +kernel
theorem dX11_keepProgram_68 : decode cX11_keepProgram 68 = .ok (.aload_n 0, 1) := by decide +kernel
theorem dX11_keepProgram_69 : decode cX11_keepProgram 69 = .ok (.iload_n 1, 1) := by decide +kernel
theorem dX11_keepProgram_70 : decode cX11_keepProgram 70 = .ok (.invokevirtual 215, 3) := by decide +kernel
theorem dX11_keepProgram_73 : decode cX11_keepProgram 73 = .ok (.l2i, 1) := by decide +kernel
theorem dX11_keepProgram_74 : decode cX11_keepProgram 74 = .ok (.iastore, 1) := by decide +kernel
theorem dX11_keepProgram_75 : decode cX11_keepProgram 75 = .ok (.aload_n 0, 1) := by decide +kernel
theorem dX11_keepProgram_76 : decode cX11_keepProgram 76 = .ok (.dup, 1) := by decide +kernel
theorem dX11_keepProgram_77 : decode cX11_keepProgram 77 = .ok (.getfield 212, 3) := by decide +kernel
theorem dX11_keepProgram_80 : decode cX11_keepProgram 80 = .ok (.aload_n 0, 1) := by decide +kernel
theorem dX11_keepProgram_81 : decode cX11_keepProgram 81 = .ok (.getfield 7, 3) := by decide +kernel
theorem dX11_keepProgram_84 : decode cX11_keepProgram 84 = .ok (.iload_n 1, 1) := by decide +kernel
theorem dX11_keepProgram_85 : decode cX11_keepProgram 85 = .ok (.iaload, 1) := by decide +kernel
theorem dX11_keepProgram_86 : decode cX11_keepProgram 86 = .ok (.aload_n 0, 1) := by decide +kernel
theorem dX11_keepProgram_87 : decode cX11_keepProgram 87 = .ok (.getfield 28, 3) := by decide +kernel
theorem dX11_keepProgram_90 : decode cX11_keepProgram 90 = .ok (.iload_n 1, 1) := by decide +kernel
theorem dX11_keepProgram_91 : decode cX11_keepProgram 91 = .ok (.iaload, 1) := by decide +kernel
theorem dX11_keepProgram_92 : decode cX11_keepProgram 92 = .ok (.imul, 1) := by decide +kernel
theorem dX11_keepProgram_93 : decode cX11_keepProgram 93 = .ok (.iadd, 1) := by decide +kernel
theorem dX11_keepProgram_94 : decode cX11_keepProgram 94 = .ok (.putfield 212, 3) := by decide +kernel
theorem dX11_keepProgram_97 : decode cX11_keepProgram 97 = .ok (.iinc 1 1, 3) := by decide +kernel
theorem dX11_keepProgram_100 : decode cX11_keepProgram 100 = .ok (.goto (-69), 3) := by decide +kernel
theorem dX11_keepProgram_103 : decode cX11_keepProgram 103 = .ok (.iconst 0, 1) := by decide +kernel
theorem dX11_keepProgram_104 : decode cX11_keepProgram 104 = .ok (.istore_n 1, 1) := by decide +kernel
theorem dX11_keepProgram_105 : decode cX11_keepProgram 105 = .ok (.iload_n 1, 1) := by decide +kernel
theorem dX11_keepProgram_106 : decode cX11_keepProgram 106 = .ok (.sipush 128, 3) := by decide +kernel
theorem dX11_keepProgram_109 : decode cX11_keepProgram 109 = .ok (.if_icmp .ge 21, 3) := by decide +kernel
theorem dX11_keepProgram_112 : decode cX11_keepProgram 112 = .ok (.aload_n 0, 1) := by decide +kernel
theorem dX11_keepProgram_113 : decode cX11_keepProgram 113 = .ok (.getfield 13, 3) := by decide +kernel
theorem dX11_keepProgram_116 : decode cX11_keepProgram 116 = .ok (.iload_n 1, 1) := by decide +kernel
theorem dX11_keepProgram_117 : decode cX11_keepProgram 117 = .ok (.aload_n 0, 1) := by decide +kernel
theorem dX11_keepProgram_118 : decode cX11_keepProgram 118 = .ok (.getfield 34, 3) := by decide +kernel
theorem dX11_keepProgram_121 : decode cX11_keepProgram 121 = .ok (.iload_n 1, 1) := by decide +kernel
theorem dX11_keepProgram_122 : decode cX11_keepProgram 122 = .ok (.iaload, 1) := by decide +kernel
theorem dX11_keepProgram_123 : decode cX11_keepProgram 123 = .ok (.iastore, 1) := by decide +kernel
theorem dX11_keepProgram_124 : decode cX11_keepProgram 124 = .ok (.iinc 1 1, 3) := by decide +kernel
theorem dX11_keepProgram_127 : decode cX11_keepProgram 127 = .ok (.goto (-22), 3) := by decide +kernel
theorem dX11_keepProgram_130 : decode cX11_keepProgram 130 = .ok (.iconst 0, 1) := by decide +kernel
theorem dX11_keepProgram_131 : decode cX11_keepProgram 131 = .ok (.istore_n 1, 1) := by decide +kernel
theorem dX11_keepProgram_132 : decode cX11_keepProgram 132 = .ok (.iload_n 1, 1) := by decide +kernel
theorem dX11_keepProgram_133 : decode cX11_keepProgram 133 = .ok (.aload_n 0, 1) := by decide +kernel
theorem dX11_keepProgram_134 : decode cX11_keepProgram 134 = .ok (.getfield 206, 3) := by decide +kernel
theorem dX11_keepProgram_137 : decode cX11_keepProgram 137 = .ok (.if_icmp .ge 33, 3) := by decide +kernel
theorem dX11_keepProgram_140 : decode cX11_keepProgram 140 = .ok (.aload_n 0, 1) := by decide +kernel
theorem dX11_keepProgram_141 : decode cX11_keepProgram 141 = .ok (.getfield 19, 3) := by decide +kernel
theorem dX11_keepProgram_144 : decode cX11_keepProgram 144 = .ok (.iload_n 1, 1) := by decide +kernel
theorem dX11_keepProgram_145 : decode cX11_keepProgram 145 = .ok (.aload_n 0, 1) := by decide +kernel
theorem dX11_keepProgram_146 : decode cX11_keepProgram 146 = .ok (.getfield 40, 3) := by decide +kernel
theorem dX11_keepProgram_149 : decode cX11_keepProgram 149 = .ok (.iload_n 1, 1) := by decide +kernel
theorem dX11_keepProgram_150 : decode cX11_keepProgram 150 = .ok (.iaload, 1) := by decide +kernel
theorem dX11_keepProgram_151 : decode cX11_keepProgram 151 = .ok (.iastore, 1) := by decide +kernel
theorem dX11_keepProgram_152 : decode cX11_keepProgram 152 = .ok (.aload_n 0, 1) := by decide +kernel
theorem dX11_keepProgram_153 : decode cX11_keepProgram 153 = .ok (.getfield 22, 3) := by decide +kernel
theorem dX11_keepProgram_156 : decode cX11_keepProgram 156 = .ok (.iload_n 1, 1) := by decide +kernel
theorem dX11_keepProgram_157 : decode cX11_keepProgram 157 = .ok (.aload_n 0, 1) := by decide +kernel
theorem dX11_keepProgram_158 : decode cX11_keepProgram 158 = .ok (.getfield 43, 3) := by decide +kernel
theorem dX11_keepProgram_161 : decode cX11_keepProgram 161 = .ok (.iload_n 1, 1) := by decide +kernel
theorem dX11_keepProgram_162 : decode cX11_keepProgram 162 = .ok (.iaload, 1) := by decide +kernel
theorem dX11_keepProgram_163 : decode cX11_keepProgram 163 = .ok (.iastore, 1) := by decide +kernel
theorem dX11_keepProgram_164 : decode cX11_keepProgram 164 = .ok (.iinc 1 1, 3) := by decide +kernel
theorem dX11_keepProgram_167 : decode cX11_keepProgram 167 = .ok (.goto (-35), 3) := by decide +kernel
theorem dX11_keepProgram_170 : decode cX11_keepProgram 170 = .ok (.iconst 0, 1) := by decide +kernel
theorem dX11_keepProgram_171 : decode cX11_keepProgram 171 = .ok (.istore_n 1, 1) := by decide +kernel
theorem dX11_keepProgram_172 : decode cX11_keepProgram 172 = .ok (.iload_n 1, 1) := by decide +kernel
theorem dX11_keepProgram_173 : decode cX11_keepProgram 173 = .ok (.aload_n 0, 1) := by decide +kernel
theorem dX11_keepProgram_174 : decode cX11_keepProgram 174 = .ok (.getfield 209, 3) := by decide +kernel
theorem dX11_keepProgram_177 : decode cX11_keepProgram 177 = .ok (.if_icmp .ge 21, 3) := by decide +kernel
theorem dX11_keepProgram_180 : decode cX11_keepProgram 180 = .ok (.aload_n 0, 1) := by decide +kernel
theorem dX11_keepProgram_181 : decode cX11_keepProgram 181 = .ok (.getfield 49, 3) := by decide +kernel
theorem dX11_keepProgram_184 : decode cX11_keepProgram 184 = .ok (.iload_n 1, 1) := by decide +kernel
theorem dX11_keepProgram_185 : decode cX11_keepProgram 185 = .ok (.aload_n 0, 1) := by decide +kernel
theorem dX11_keepProgram_186 : decode cX11_keepProgram 186 = .ok (.getfield 52, 3) := by decide +kernel
theorem dX11_keepProgram_189 : decode cX11_keepProgram 189 = .ok (.iload_n 1, 1) := by decide +kernel
theorem dX11_keepProgram_190 : decode cX11_keepProgram 190 = .ok (.iaload, 1) := by decide +kernel
theorem dX11_keepProgram_191 : decode cX11_keepProgram 191 = .ok (.iastore, 1) := by decide +kernel
theorem dX11_keepProgram_192 : decode cX11_keepProgram 192 = .ok (.iinc 1 1, 3) := by decide +kernel
theorem dX11_keepProgram_195 : decode cX11_keepProgram 195 = .ok (.goto (-23), 3) := by decide +kernel
theorem dX11_keepProgram_198 : decode cX11_keepProgram 198 = .ok (.aload_n 0, 1) := by decide +kernel
theorem dX11_keepProgram_199 : decode cX11_keepProgram 199 = .ok (.invokevirtual 219, 3) := by decide +kernel
theorem dX11_keepProgram_202 : decode cX11_keepProgram 202 = .ok (.aload_n 0, 1) := by decide +kernel
theorem dX11_keepProgram_203 : decode cX11_keepProgram 203 = .ok (.iconst 0, 1) := by decide +kernel
theorem dX11_keepProgram_204 : decode cX11_keepProgram 204 = .ok (.putfield 222, 3) := by decide +kernel
theorem dX11_keepProgram_207 : decode cX11_keepProgram 207 = .ok (.return_, 1) := by decide +kernel
theorem dX11_walk_0 : decode cX11_walk 0 = .ok (.aload_n 0, 1) := by decide +kernel
theorem dX11_walk_1 : decode cX11_walk 1 = .ok (.iconst 0, 1) := by decide +kernel
theorem dX11_walk_2 : decode cX11_walk 2 = .ok (.putfield 225, 3) := by decide +kernel
theorem dX11_walk_5 : decode cX11_walk 5 = .ok (.iconst 0, 1) := by decide +kernel
theorem dX11_walk_6 : decode cX11_walk 6 = .ok (.istore_n 1, 1) := by decide +kernel
theorem dX11_walk_7 : decode cX11_walk 7 = .ok (.iload_n 1, 1) := by decide +kernel
theorem dX11_walk_8 : decode cX11_walk 8 = .ok (.aload_n 0, 1) := by decide +kernel
theorem dX11_walk_9 : decode cX11_walk 9 = .ok (.getfield 209, 3) := by decide +kernel
theorem dX11_walk_12 : decode cX11_walk 12 = .ok (.if_icmp .ge 140, 3) := by decide +kernel
theorem dX11_walk_15 : decode cX11_walk 15 = .ok (.aload_n 0, 1) := by decide +kernel
theorem dX11_walk_16 : decode cX11_walk 16 = .ok (.getfield 49, 3) := by decide +kernel
theorem dX11_walk_19 : decode cX11_walk 19 = .ok (.iload_n 1, 1) := by decide +kernel
theorem dX11_walk_20 : decode cX11_walk 20 = .ok (.iaload, 1) := by decide +kernel
theorem dX11_walk_21 : decode cX11_walk 21 = .ok (.istore_n 2, 1) := by decide +kernel
theorem dX11_walk_22 : decode cX11_walk 22 = .ok (.iload_n 2, 1) := by decide +kernel
theorem dX11_walk_23 : decode cX11_walk 23 = .ok (.bipush 100, 2) := by decide +kernel
theorem dX11_walk_25 : decode cX11_walk 25 = .ok (.if_icmp .ge 26, 3) := by decide +kernel
theorem dX11_walk_28 : decode cX11_walk 28 = .ok (.aload_n 0, 1) := by decide +kernel
theorem dX11_walk_29 : decode cX11_walk 29 = .ok (.getfield 25, 3) := by decide +kernel
theorem dX11_walk_32 : decode cX11_walk 32 = .ok (.aload_n 0, 1) := by decide +kernel
theorem dX11_walk_33 : decode cX11_walk 33 = .ok (.getfield 225, 3) := by decide +kernel
theorem dX11_walk_36 : decode cX11_walk 36 = .ok (.iload_n 2, 1) := by decide +kernel
theorem dX11_walk_37 : decode cX11_walk 37 = .ok (.iastore, 1) := by decide +kernel
theorem dX11_walk_38 : decode cX11_walk 38 = .ok (.aload_n 0, 1) := by decide +kernel
theorem dX11_walk_39 : decode cX11_walk 39 = .ok (.dup, 1) := by decide +kernel
theorem dX11_walk_40 : decode cX11_walk 40 = .ok (.getfield 225, 3) := by decide +kernel
theorem dX11_walk_43 : decode cX11_walk 43 = .ok (.iconst 1, 1) := by decide +kernel
theorem dX11_walk_44 : decode cX11_walk 44 = .ok (.iadd, 1) := by decide +kernel
theorem dX11_walk_45 : decode cX11_walk 45 = .ok (.putfield 225, 3) := by decide +kernel
theorem dX11_walk_48 : decode cX11_walk 48 = .ok (.goto 98, 3) := by decide +kernel
theorem dX11_walk_51 : decode cX11_walk 51 = .ok (.iload_n 2, 1) := by decide +kernel
theorem dX11_walk_52 : decode cX11_walk 52 = .ok (.sipush 200, 3) := by decide +kernel
theorem dX11_walk_55 : decode cX11_walk 55 = .ok (.if_icmp .ge 49, 3) := by decide +kernel
theorem dX11_walk_58 : decode cX11_walk 58 = .ok (.aload_n 0, 1) := by decide +kernel
theorem dX11_walk_59 : decode cX11_walk 59 = .ok (.getfield 58, 3) := by decide +kernel
theorem dX11_walk_62 : decode cX11_walk 62 = .ok (.iload_n 2, 1) := by decide +kernel
theorem dX11_walk_63 : decode cX11_walk 63 = .ok (.bipush 100, 2) := by decide +kernel
theorem dX11_walk_65 : decode cX11_walk 65 = .ok (.isub, 1) := by decide +kernel
theorem dX11_walk_66 : decode cX11_walk 66 = .ok (.aload_n 0, 1) := by decide +kernel
theorem dX11_walk_67 : decode cX11_walk 67 = .ok (.iload_n 2, 1) := by decide +kernel
theorem dX11_walk_68 : decode cX11_walk 68 = .ok (.bipush 100, 2) := by decide +kernel
theorem dX11_walk_70 : decode cX11_walk 70 = .ok (.isub, 1) := by decide +kernel
theorem dX11_walk_71 : decode cX11_walk 71 = .ok (.invokevirtual 228, 3) := by decide +kernel
theorem dX11_walk_74 : decode cX11_walk 74 = .ok (.ifCond .ne 7, 3) := by decide +kernel
theorem dX11_walk_77 : decode cX11_walk 77 = .ok (.iconst 1, 1) := by decide +kernel
theorem dX11_walk_78 : decode cX11_walk 78 = .ok (.goto 12, 3) := by decide +kernel
theorem dX11_walk_81 : decode cX11_walk 81 = .ok (.aload_n 0, 1) := by decide +kernel
theorem dX11_walk_82 : decode cX11_walk 82 = .ok (.getfield 19, 3) := by decide +kernel
theorem dX11_walk_85 : decode cX11_walk 85 = .ok (.iload_n 2, 1) := by decide +kernel
theorem dX11_walk_86 : decode cX11_walk 86 = .ok (.bipush 100, 2) := by decide +kernel
theorem dX11_walk_88 : decode cX11_walk 88 = .ok (.isub, 1) := by decide +kernel
theorem dX11_walk_89 : decode cX11_walk 89 = .ok (.iaload, 1) := by decide +kernel
theorem dX11_walk_90 : decode cX11_walk 90 = .ok (.iastore, 1) := by decide +kernel
theorem dX11_walk_91 : decode cX11_walk 91 = .ok (.aload_n 0, 1) := by decide +kernel
theorem dX11_walk_92 : decode cX11_walk 92 = .ok (.getfield 61, 3) := by decide +kernel
theorem dX11_walk_95 : decode cX11_walk 95 = .ok (.iload_n 2, 1) := by decide +kernel
theorem dX11_walk_96 : decode cX11_walk 96 = .ok (.bipush 100, 2) := by decide +kernel
theorem dX11_walk_98 : decode cX11_walk 98 = .ok (.isub, 1) := by decide +kernel
theorem dX11_walk_99 : decode cX11_walk 99 = .ok (.iload_n 1, 1) := by decide +kernel
theorem dX11_walk_100 : decode cX11_walk 100 = .ok (.iastore, 1) := by decide +kernel
theorem dX11_walk_101 : decode cX11_walk 101 = .ok (.goto 45, 3) := by decide +kernel
theorem dX11_walk_104 : decode cX11_walk 104 = .ok (.aload_n 0, 1) := by decide +kernel
theorem dX11_walk_105 : decode cX11_walk 105 = .ok (.getfield 58, 3) := by decide +kernel
theorem dX11_walk_108 : decode cX11_walk 108 = .ok (.iload_n 2, 1) := by decide +kernel
theorem dX11_walk_109 : decode cX11_walk 109 = .ok (.sipush 200, 3) := by decide +kernel
theorem dX11_walk_112 : decode cX11_walk 112 = .ok (.isub, 1) := by decide +kernel
theorem dX11_walk_113 : decode cX11_walk 113 = .ok (.dup2, 1) := by decide +kernel
theorem dX11_walk_114 : decode cX11_walk 114 = .ok (.iaload, 1) := by decide +kernel
theorem dX11_walk_115 : decode cX11_walk 115 = .ok (.iconst 1, 1) := by decide +kernel
theorem dX11_walk_116 : decode cX11_walk 116 = .ok (.isub, 1) := by decide +kernel
theorem dX11_walk_117 : decode cX11_walk 117 = .ok (.iastore, 1) := by decide +kernel
theorem dX11_walk_118 : decode cX11_walk 118 = .ok (.aload_n 0, 1) := by decide +kernel
theorem dX11_walk_119 : decode cX11_walk 119 = .ok (.getfield 58, 3) := by decide +kernel
theorem dX11_walk_122 : decode cX11_walk 122 = .ok (.iload_n 2, 1) := by decide +kernel
theorem dX11_walk_123 : decode cX11_walk 123 = .ok (.sipush 200, 3) := by decide +kernel
theorem dX11_walk_126 : decode cX11_walk 126 = .ok (.isub, 1) := by decide +kernel
theorem dX11_walk_127 : decode cX11_walk 127 = .ok (.iaload, 1) := by decide +kernel
theorem dX11_walk_128 : decode cX11_walk 128 = .ok (.ifCond .le 16, 3) := by decide +kernel
theorem dX11_walk_131 : decode cX11_walk 131 = .ok (.aload_n 0, 1) := by decide +kernel
theorem dX11_walk_132 : decode cX11_walk 132 = .ok (.getfield 61, 3) := by decide +kernel
theorem dX11_walk_135 : decode cX11_walk 135 = .ok (.iload_n 2, 1) := by decide +kernel
theorem dX11_walk_136 : decode cX11_walk 136 = .ok (.sipush 200, 3) := by decide +kernel
theorem dX11_walk_139 : decode cX11_walk 139 = .ok (.isub, 1) := by decide +kernel
theorem dX11_walk_140 : decode cX11_walk 140 = .ok (.iaload, 1) := by decide +kernel
theorem dX11_walk_141 : decode cX11_walk 141 = .ok (.goto 4, 3) := by decide +kernel
theorem dX11_walk_144 : decode cX11_walk 144 = .ok (.iload_n 1, 1) := by decide +kernel
theorem dX11_walk_145 : decode cX11_walk 145 = .ok (.istore_n 1, 1) := by decide +kernel
theorem dX11_walk_146 : decode cX11_walk 146 = .ok (.iinc 1 1, 3) := by decide +kernel
theorem dX11_walk_149 : decode cX11_walk 149 = .ok (.goto (-142), 3) := by decide +kernel
theorem dX11_walk_152 : decode cX11_walk 152 = .ok (.return_, 1) := by decide +kernel
theorem dX11_isWithin_0 : decode cX11_isWithin 0 = .ok (.iconst 0, 1) := by decide +kernel
theorem dX11_isWithin_1 : decode cX11_isWithin 1 = .ok (.istore_n 3, 1) := by decide +kernel
theorem dX11_isWithin_2 : decode cX11_isWithin 2 = .ok (.iload_n 1, 1) := by decide +kernel
theorem dX11_isWithin_3 : decode cX11_isWithin 3 = .ok (.istore 4, 2) := by decide +kernel
theorem dX11_isWithin_5 : decode cX11_isWithin 5 = .ok (.iload 4, 2) := by decide +kernel
theorem dX11_isWithin_7 : decode cX11_isWithin 7 = .ok (.bipush (-4), 2) := by decide +kernel
theorem dX11_isWithin_9 : decode cX11_isWithin 9 = .ok (.if_icmp .eq 31, 3) := by decide +kernel
theorem dX11_isWithin_12 : decode cX11_isWithin 12 = .ok (.iload_n 3, 1) := by decide +kernel
theorem dX11_isWithin_13 : decode cX11_isWithin 13 = .ok (.ifCond .ne 9, 3) := by decide +kernel
theorem dX11_isWithin_16 : decode cX11_isWithin 16 = .ok (.iload 4, 2) := by decide +kernel
theorem dX11_isWithin_18 : decode cX11_isWithin 18 = .ok (.iload_n 2, 1) := by decide +kernel
theorem dX11_isWithin_19 : decode cX11_isWithin 19 = .ok (.if_icmp .ne 7, 3) := by decide +kernel
theorem dX11_isWithin_22 : decode cX11_isWithin 22 = .ok (.iconst 1, 1) := by decide +kernel
theorem dX11_isWithin_23 : decode cX11_isWithin 23 = .ok (.goto 4, 3) := by decide +kernel
theorem dX11_isWithin_26 : decode cX11_isWithin 26 = .ok (.iconst 0, 1) := by decide +kernel
theorem dX11_isWithin_27 : decode cX11_isWithin 27 = .ok (.istore_n 3, 1) := by decide +kernel
theorem dX11_isWithin_28 : decode cX11_isWithin 28 = .ok (.aload_n 0, 1) := by decide +kernel
theorem dX11_isWithin_29 : decode cX11_isWithin 29 = .ok (.getfield 22, 3) := by decide +kernel
theorem dX11_isWithin_32 : decode cX11_isWithin 32 = .ok (.iload 4, 2) := by decide +kernel
theorem dX11_isWithin_34 : decode cX11_isWithin 34 = .ok (.iaload, 1) := by decide +kernel
theorem dX11_isWithin_35 : decode cX11_isWithin 35 = .ok (.istore 4, 2) := by decide +kernel
theorem dX11_isWithin_37 : decode cX11_isWithin 37 = .ok (.goto (-32), 3) := by decide +kernel
theorem dX11_isWithin_40 : decode cX11_isWithin 40 = .ok (.iload_n 3, 1) := by decide +kernel
theorem dX11_isWithin_41 : decode cX11_isWithin 41 = .ok (.ireturn, 1) := by decide +kernel
theorem dX11_linesIn_0 : decode cX11_linesIn 0 = .ok (.iconst 0, 1) := by decide +kernel
theorem dX11_linesIn_1 : decode cX11_linesIn 1 = .ok (.istore_n 2, 1) := by decide +kernel
theorem dX11_linesIn_2 : decode cX11_linesIn 2 = .ok (.iconst 0, 1) := by decide +kernel
theorem dX11_linesIn_3 : decode cX11_linesIn 3 = .ok (.istore_n 3, 1) := by decide +kernel
theorem dX11_linesIn_4 : decode cX11_linesIn 4 = .ok (.iload_n 3, 1) := by decide +kernel
theorem dX11_linesIn_5 : decode cX11_linesIn 5 = .ok (.aload_n 0, 1) := by decide +kernel
theorem dX11_linesIn_6 : decode cX11_linesIn 6 = .ok (.getfield 203, 3) := by decide +kernel
theorem dX11_linesIn_9 : decode cX11_linesIn 9 = .ok (.if_icmp .ge 33, 3) := by decide +kernel
theorem dX11_linesIn_12 : decode cX11_linesIn 12 = .ok (.iload_n 2, 1) := by decide +kernel
theorem dX11_linesIn_13 : decode cX11_linesIn 13 = .ok (.aload_n 0, 1) := by decide +kernel
theorem dX11_linesIn_14 : decode cX11_linesIn 14 = .ok (.aload_n 0, 1) := by decide +kernel
theorem dX11_linesIn_15 : decode cX11_linesIn 15 = .ok (.getfield 16, 3) := by decide +kernel
theorem dX11_linesIn_18 : decode cX11_linesIn 18 = .ok (.iload_n 3, 1) := by decide +kernel
theorem dX11_linesIn_19 : decode cX11_linesIn 19 = .ok (.iaload, 1) := by decide +kernel
theorem dX11_linesIn_20 : decode cX11_linesIn 20 = .ok (.iload_n 1, 1) := by decide +kernel
theorem dX11_linesIn_21 : decode cX11_linesIn 21 = .ok (.invokevirtual 231, 3) := by decide +kernel
theorem dX11_linesIn_24 : decode cX11_linesIn 24 = .ok (.ifCond .eq 9, 3) := by decide +kernel
theorem dX11_linesIn_27 : decode cX11_linesIn 27 = .ok (.iconst 1, 1) := by decide +kernel
theorem dX11_linesIn_28 : decode cX11_linesIn 28 = .ok (.iload_n 3, 1) := by decide +kernel
theorem dX11_linesIn_29 : decode cX11_linesIn 29 = .ok (.ishl, 1) := by decide +kernel
theorem dX11_linesIn_30 : decode cX11_linesIn 30 = .ok (.goto 4, 3) := by decide +kernel
theorem dX11_linesIn_33 : decode cX11_linesIn 33 = .ok (.iconst 0, 1) := by decide +kernel
theorem dX11_linesIn_34 : decode cX11_linesIn 34 = .ok (.ior, 1) := by decide +kernel
theorem dX11_linesIn_35 : decode cX11_linesIn 35 = .ok (.istore_n 2, 1) := by decide +kernel
theorem dX11_linesIn_36 : decode cX11_linesIn 36 = .ok (.iinc 3 1, 3) := by decide +kernel
theorem dX11_linesIn_39 : decode cX11_linesIn 39 = .ok (.goto (-35), 3) := by decide +kernel
theorem dX11_linesIn_42 : decode cX11_linesIn 42 = .ok (.iload_n 2, 1) := by decide +kernel
theorem dX11_linesIn_43 : decode cX11_linesIn 43 = .ok (.ireturn, 1) := by decide +kernel
theorem dX11_program_0 : decode cX11_program 0 = .ok (.aload_n 0, 1) := by decide +kernel
theorem dX11_program_1 : decode cX11_program 1 = .ok (.iconst 0, 1) := by decide +kernel
theorem dX11_program_2 : decode cX11_program 2 = .ok (.putfield 128, 3) := by decide +kernel
theorem dX11_program_5 : decode cX11_program 5 = .ok (.aload_n 0, 1) := by decide +kernel
theorem dX11_program_6 : decode cX11_program 6 = .ok (.iconst 0, 1) := by decide +kernel
theorem dX11_program_7 : decode cX11_program 7 = .ok (.putfield 137, 3) := by decide +kernel
theorem dX11_program_10 : decode cX11_program 10 = .ok (.aload_n 0, 1) := by decide +kernel
theorem dX11_program_11 : decode cX11_program 11 = .ok (.iconst 0, 1) := by decide +kernel
theorem dX11_program_12 : decode cX11_program 12 = .ok (.putfield 175, 3) := by decide +kernel
theorem dX11_program_15 : decode cX11_program 15 = .ok (.aload_n 0, 1) := by decide +kernel
theorem dX11_program_16 : decode cX11_program 16 = .ok (.iconst 0, 1) := by decide +kernel
theorem dX11_program_17 : decode cX11_program 17 = .ok (.putfield 187, 3) := by decide +kernel
theorem dX11_program_20 : decode cX11_program 20 = .ok (.aload_n 0, 1) := by decide +kernel
theorem dX11_program_21 : decode cX11_program 21 = .ok (.iconst 0, 1) := by decide +kernel
theorem dX11_program_22 : decode cX11_program 22 = .ok (.putfield 184, 3) := by decide +kernel
theorem dX11_program_25 : decode cX11_program 25 = .ok (.aload_n 0, 1) := by decide +kernel
theorem dX11_program_26 : decode cX11_program 26 = .ok (.iconst 0, 1) := by decide +kernel
theorem dX11_program_27 : decode cX11_program 27 = .ok (.putfield 181, 3) := by decide +kernel
theorem dX11_program_30 : decode cX11_program 30 = .ok (.aload_n 0, 1) := by decide +kernel
theorem dX11_program_31 : decode cX11_program 31 = .ok (.invokevirtual 166, 3) := by decide +kernel
theorem dX11_program_34 : decode cX11_program 34 = .ok (.aload_n 0, 1) := by decide +kernel
theorem dX11_program_35 : decode cX11_program 35 = .ok (.getfield 128, 3) := by decide +kernel
theorem dX11_program_38 : decode cX11_program 38 = .ok (.ifCond .ne 17, 3) := by decide +kernel
theorem dX11_program_41 : decode cX11_program 41 = .ok (.aload_n 0, 1) := by decide +kernel
theorem dX11_program_42 : decode cX11_program 42 = .ok (.getfield 148, 3) := by decide +kernel
theorem dX11_program_45 : decode cX11_program 45 = .ok (.ifCond .eq 10, 3) := by decide +kernel
theorem dX11_program_48 : decode cX11_program 48 = .ok (.aload_n 0, 1) := by decide +kernel
theorem dX11_program_49 : decode cX11_program 49 = .ok (.invokevirtual 235, 3) := by decide +kernel
theorem dX11_program_52 : decode cX11_program 52 = .ok (.goto (-18), 3) := by decide +kernel
theorem dX11_program_55 : decode cX11_program 55 = .ok (.aload_n 0, 1) := by decide +kernel
theorem dX11_program_56 : decode cX11_program 56 = .ok (.aload_n 0, 1) := by decide +kernel
theorem dX11_program_57 : decode cX11_program 57 = .ok (.getfield 181, 3) := by decide +kernel
theorem dX11_program_60 : decode cX11_program 60 = .ok (.ifCond .ne 7, 3) := by decide +kernel
theorem dX11_program_63 : decode cX11_program 63 = .ok (.iconst 1, 1) := by decide +kernel
theorem dX11_program_64 : decode cX11_program 64 = .ok (.goto 4, 3) := by decide +kernel
theorem dX11_program_67 : decode cX11_program 67 = .ok (.iconst 0, 1) := by decide +kernel
theorem dX11_program_68 : decode cX11_program 68 = .ok (.iconst 2, 1) := by decide +kernel
theorem dX11_program_69 : decode cX11_program 69 = .ok (.invokevirtual 162, 3) := by decide +kernel
theorem dX11_program_72 : decode cX11_program 72 = .ok (.lconst 0, 1) := by decide +kernel
theorem dX11_program_73 : decode cX11_program 73 = .ok (.lstore_n 1, 1) := by decide +kernel
theorem dX11_program_74 : decode cX11_program 74 = .ok (.iconst 0, 1) := by decide +kernel
theorem dX11_program_75 : decode cX11_program 75 = .ok (.istore_n 3, 1) := by decide +kernel
theorem dX11_program_76 : decode cX11_program 76 = .ok (.iload_n 3, 1) := by decide +kernel
theorem dX11_program_77 : decode cX11_program 77 = .ok (.aload_n 0, 1) := by decide +kernel
theorem dX11_program_78 : decode cX11_program 78 = .ok (.getfield 175, 3) := by decide +kernel
theorem dX11_program_81 : decode cX11_program 81 = .ok (.if_icmp .ge 17, 3) := by decide +kernel
theorem dX11_program_84 : decode cX11_program 84 = .ok (.lload_n 1, 1) := by decide +kernel
theorem dX11_program_85 : decode cX11_program 85 = .ok (.aload_n 0, 1) := by decide +kernel
theorem dX11_program_86 : decode cX11_program 86 = .ok (.iload_n 3, 1) := by decide +kernel
theorem dX11_program_87 : decode cX11_program 87 = .ok (.invokevirtual 215, 3) := by decide +kernel
theorem dX11_program_90 : decode cX11_program 90 = .ok (.ladd, 1) := by decide +kernel
theorem dX11_program_91 : decode cX11_program 91 = .ok (.lstore_n 1, 1) := by decide +kernel
theorem dX11_program_92 : decode cX11_program 92 = .ok (.iinc 3 1, 3) := by decide +kernel
theorem dX11_program_95 : decode cX11_program 95 = .ok (.goto (-19), 3) := by decide +kernel
theorem dX11_program_98 : decode cX11_program 98 = .ok (.aload_n 0, 1) := by decide +kernel
theorem dX11_program_99 : decode cX11_program 99 = .ok (.getfield 128, 3) := by decide +kernel
theorem dX11_program_102 : decode cX11_program 102 = .ok (.ifCond .ne 25, 3) := by decide +kernel
theorem dX11_program_105 : decode cX11_program 105 = .ok (.lload_n 1, 1) := by decide +kernel
theorem dX11_program_106 : decode cX11_program 106 = .ok (.ldc2_w 238, 3) := by decide +kernel
theorem dX11_program_109 : decode cX11_program 109 = .ok (.lcmp, 1) := by decide +kernel
theorem dX11_program_110 : decode cX11_program 110 = .ok (.ifCond .le 17, 3) := by decide +kernel
theorem dX11_program_113 : decode cX11_program 113 = .ok (.aload_n 0, 1) := by decide +kernel
theorem dX11_program_114 : decode cX11_program 114 = .ok (.bipush 6, 2) := by decide +kernel
theorem dX11_program_116 : decode cX11_program 116 = .ok (.putfield 128, 3) := by decide +kernel
theorem dX11_program_119 : decode cX11_program 119 = .ok (.aload_n 0, 1) := by decide +kernel
theorem dX11_program_120 : decode cX11_program 120 = .ok (.aload_n 0, 1) := by decide +kernel
theorem dX11_program_121 : decode cX11_program 121 = .ok (.getfield 119, 3) := by decide +kernel
theorem dX11_program_124 : decode cX11_program 124 = .ok (.putfield 134, 3) := by decide +kernel
theorem dX11_program_127 : decode cX11_program 127 = .ok (.aload_n 0, 1) := by decide +kernel
theorem dX11_program_128 : decode cX11_program 128 = .ok (.iconst 0, 1) := by decide +kernel
theorem dX11_program_129 : decode cX11_program 129 = .ok (.putfield 119, 3) := by decide +kernel
theorem dX11_program_132 : decode cX11_program 132 = .ok (.aload_n 0, 1) := by decide +kernel
theorem dX11_program_133 : decode cX11_program 133 = .ok (.getfield 128, 3) := by decide +kernel
theorem dX11_program_136 : decode cX11_program 136 = .ok (.ifCond .le 11, 3) := by decide +kernel
theorem dX11_program_139 : decode cX11_program 139 = .ok (.bipush (-10), 2) := by decide +kernel
theorem dX11_program_141 : decode cX11_program 141 = .ok (.aload_n 0, 1) := by decide +kernel
theorem dX11_program_142 : decode cX11_program 142 = .ok (.getfield 134, 3) := by decide +kernel
theorem dX11_program_145 : decode cX11_program 145 = .ok (.isub, 1) := by decide +kernel
theorem dX11_program_146 : decode cX11_program 146 = .ok (.ireturn, 1) := by decide +kernel
theorem dX11_program_147 : decode cX11_program 147 = .ok (.aload_n 0, 1) := by decide +kernel
theorem dX11_program_148 : decode cX11_program 148 = .ok (.invokevirtual 240, 3) := by decide +kernel
theorem dX11_program_151 : decode cX11_program 151 = .ok (.aload_n 0, 1) := by decide +kernel
theorem dX11_program_152 : decode cX11_program 152 = .ok (.getfield 203, 3) := by decide +kernel
theorem dX11_program_155 : decode cX11_program 155 = .ok (.ireturn, 1) := by decide +kernel
theorem dX11_fault_0 : decode cX11_fault 0 = .ok (.aload_n 0, 1) := by decide +kernel
theorem dX11_fault_1 : decode cX11_fault 1 = .ok (.getfield 128, 3) := by decide +kernel
theorem dX11_fault_4 : decode cX11_fault 4 = .ok (.ireturn, 1) := by decide +kernel
theorem dX11_isLine_0 : decode cX11_isLine 0 = .ok (.iload_n 1, 1) := by decide +kernel
theorem dX11_isLine_1 : decode cX11_isLine 1 = .ok (.i2l, 1) := by decide +kernel
theorem dX11_isLine_2 : decode cX11_isLine 2 = .ok (.lconst 0, 1) := by decide +kernel
theorem dX11_isLine_3 : decode cX11_isLine 3 = .ok (.aload_n 0, 1) := by decide +kernel
theorem dX11_isLine_4 : decode cX11_isLine 4 = .ok (.getfield 203, 3) := by decide +kernel
theorem dX11_isLine_7 : decode cX11_isLine 7 = .ok (.iconst 1, 1) := by decide +kernel
theorem dX11_isLine_8 : decode cX11_isLine 8 = .ok (.isub, 1) := by decide +kernel
theorem dX11_isLine_9 : decode cX11_isLine 9 = .ok (.i2l, 1) := by decide +kernel
theorem dX11_isLine_10 : decode cX11_isLine 10 = .ok (.invokestatic 124, 3) := by decide +kernel
theorem dX11_isLine_13 : decode cX11_isLine 13 = .ok (.ireturn, 1) := by decide +kernel
theorem dX11_isEvent_0 : decode cX11_isEvent 0 = .ok (.iload_n 0, 1) := by decide +kernel
theorem dX11_isEvent_1 : decode cX11_isEvent 1 = .ok (.i2l, 1) := by decide +kernel
theorem dX11_isEvent_2 : decode cX11_isEvent 2 = .ok (.lconst 0, 1) := by decide +kernel
theorem dX11_isEvent_3 : decode cX11_isEvent 3 = .ok (.ldc2_w 169, 3) := by decide +kernel
theorem dX11_isEvent_6 : decode cX11_isEvent 6 = .ok (.invokestatic 124, 3) := by decide +kernel
theorem dX11_isEvent_9 : decode cX11_isEvent 9 = .ok (.ireturn, 1) := by decide +kernel
theorem dX11_made_0 : decode cX11_made 0 = .ok (.aload_n 0, 1) := by decide +kernel
theorem dX11_made_1 : decode cX11_made 1 = .ok (.getfield 13, 3) := by decide +kernel
theorem dX11_made_4 : decode cX11_made 4 = .ok (.bipush 8, 2) := by decide +kernel
theorem dX11_made_6 : decode cX11_made 6 = .ok (.iload_n 1, 1) := by decide +kernel
theorem dX11_made_7 : decode cX11_made 7 = .ok (.imul, 1) := by decide +kernel
theorem dX11_made_8 : decode cX11_made 8 = .ok (.iload_n 2, 1) := by decide +kernel
theorem dX11_made_9 : decode cX11_made 9 = .ok (.iadd, 1) := by decide +kernel
theorem dX11_made_10 : decode cX11_made 10 = .ok (.iaload, 1) := by decide +kernel
theorem dX11_made_11 : decode cX11_made 11 = .ok (.ireturn, 1) := by decide +kernel
theorem dX11_depthOf_0 : decode cX11_depthOf 0 = .ok (.iconst 0, 1) := by decide +kernel
theorem dX11_depthOf_1 : decode cX11_depthOf 1 = .ok (.istore_n 2, 1) := by decide +kernel
theorem dX11_depthOf_2 : decode cX11_depthOf 2 = .ok (.iload_n 1, 1) := by decide +kernel
theorem dX11_depthOf_3 : decode cX11_depthOf 3 = .ok (.istore_n 3, 1) := by decide +kernel
theorem dX11_depthOf_4 : decode cX11_depthOf 4 = .ok (.iload_n 3, 1) := by decide +kernel
theorem dX11_depthOf_5 : decode cX11_depthOf 5 = .ok (.bipush (-4), 2) := by decide +kernel
theorem dX11_depthOf_7 : decode cX11_depthOf 7 = .ok (.if_icmp .eq 16, 3) := by decide +kernel
theorem dX11_depthOf_10 : decode cX11_depthOf 10 = .ok (.iinc 2 1, 3) := by decide +kernel
theorem dX11_depthOf_13 : decode cX11_depthOf 13 = .ok (.aload_n 0, 1) := by decide +kernel
theorem dX11_depthOf_14 : decode cX11_depthOf 14 = .ok (.getfield 22, 3) := by decide +kernel
theorem dX11_depthOf_17 : decode cX11_depthOf 17 = .ok (.iload_n 3, 1) := by decide +kernel
theorem dX11_depthOf_18 : decode cX11_depthOf 18 = .ok (.iaload, 1) := by decide +kernel
theorem dX11_depthOf_19 : decode cX11_depthOf 19 = .ok (.istore_n 3, 1) := by decide +kernel
theorem dX11_depthOf_20 : decode cX11_depthOf 20 = .ok (.goto (-16), 3) := by decide +kernel
theorem dX11_depthOf_23 : decode cX11_depthOf 23 = .ok (.iload_n 2, 1) := by decide +kernel
theorem dX11_depthOf_24 : decode cX11_depthOf 24 = .ok (.ireturn, 1) := by decide +kernel
theorem dX11_line_0 : decode cX11_line 0 = .ok (.aload_n 0, 1) := by decide +kernel
theorem dX11_line_1 : decode cX11_line 1 = .ok (.iload_n 1, 1) := by decide +kernel
theorem dX11_line_2 : decode cX11_line 2 = .ok (.invokevirtual 243, 3) := by decide +kernel
theorem dX11_line_5 : decode cX11_line 5 = .ok (.ifCond .ne 5, 3) := by decide +kernel
theorem dX11_line_8 : decode cX11_line 8 = .ok (.iconst (-1), 1) := by decide +kernel
theorem dX11_line_9 : decode cX11_line 9 = .ok (.ireturn, 1) := by decide +kernel
theorem dX11_line_10 : decode cX11_line 10 = .ok (.iload_n 2, 1) := by decide +kernel
theorem dX11_line_11 : decode cX11_line 11 = .ok (.i2l, 1) := by decide +kernel
theorem dX11_line_12 : decode cX11_line 12 = .ok (.ldc2_w 247, 3) := by decide +kernel
theorem dX11_line_15 : decode cX11_line 15 = .ok (.ldc2_w 249, 3) := by decide +kernel
theorem dX11_line_18 : decode cX11_line 18 = .ok (.invokestatic 124, 3) := by decide +kernel
theorem dX11_line_21 : decode cX11_line 21 = .ok (.ifCond .eq 13, 3) := by decide +kernel
theorem dX11_line_24 : decode cX11_line 24 = .ok (.aload_n 0, 1) := by decide +kernel
theorem dX11_line_25 : decode cX11_line 25 = .ok (.iload_n 1, 1) := by decide +kernel
theorem dX11_line_26 : decode cX11_line 26 = .ok (.iload_n 2, 1) := by decide +kernel
theorem dX11_line_27 : decode cX11_line 27 = .ok (.bipush 10, 2) := by decide +kernel
theorem dX11_line_29 : decode cX11_line 29 = .ok (.isub, 1) := by decide +kernel
theorem dX11_line_30 : decode cX11_line 30 = .ok (.invokevirtual 251, 3) := by decide +kernel
theorem dX11_line_33 : decode cX11_line 33 = .ok (.ireturn, 1) := by decide +kernel
theorem dX11_line_34 : decode cX11_line 34 = .ok (.iload_n 2, 1) := by decide +kernel
theorem dX11_line_35 : decode cX11_line 35 = .ok (.ifCond .ne 12, 3) := by decide +kernel
theorem dX11_line_38 : decode cX11_line 38 = .ok (.aload_n 0, 1) := by decide +kernel
theorem dX11_line_39 : decode cX11_line 39 = .ok (.getfield 7, 3) := by decide +kernel
theorem dX11_line_42 : decode cX11_line 42 = .ok (.iload_n 1, 1) := by decide +kernel
theorem dX11_line_43 : decode cX11_line 43 = .ok (.iaload, 1) := by decide +kernel
theorem dX11_line_44 : decode cX11_line 44 = .ok (.goto 36, 3) := by decide +kernel
theorem dX11_line_47 : decode cX11_line 47 = .ok (.iload_n 2, 1) := by decide +kernel
theorem dX11_line_48 : decode cX11_line 48 = .ok (.iconst 1, 1) := by decide +kernel
theorem dX11_line_49 : decode cX11_line 49 = .ok (.if_icmp .ne 12, 3) := by decide +kernel
theorem dX11_line_52 : decode cX11_line 52 = .ok (.aload_n 0, 1) := by decide +kernel
theorem dX11_line_53 : decode cX11_line 53 = .ok (.getfield 28, 3) := by decide +kernel
theorem dX11_line_56 : decode cX11_line 56 = .ok (.iload_n 1, 1) := by decide +kernel
theorem dX11_line_57 : decode cX11_line 57 = .ok (.iaload, 1) := by decide +kernel
theorem dX11_line_58 : decode cX11_line 58 = .ok (.goto 22, 3) := by decide +kernel
theorem dX11_line_61 : decode cX11_line 61 = .ok (.iload_n 2, 1) := by decide +kernel
theorem dX11_line_62 : decode cX11_line 62 = .ok (.iconst 2, 1) := by decide +kernel
theorem dX11_line_63 : decode cX11_line 63 = .ok (.if_icmp .ne 16, 3) := by decide +kernel
theorem dX11_line_66 : decode cX11_line 66 = .ok (.aload_n 0, 1) := by decide +kernel
theorem dX11_line_67 : decode cX11_line 67 = .ok (.aload_n 0, 1) := by decide +kernel
theorem dX11_line_68 : decode cX11_line 68 = .ok (.getfield 16, 3) := by decide +kernel
theorem dX11_line_71 : decode cX11_line 71 = .ok (.iload_n 1, 1) := by decide +kernel
theorem dX11_line_72 : decode cX11_line 72 = .ok (.iaload, 1) := by decide +kernel
theorem dX11_line_73 : decode cX11_line 73 = .ok (.invokevirtual 254, 3) := by decide +kernel
theorem dX11_line_76 : decode cX11_line 76 = .ok (.goto 4, 3) := by decide +kernel
theorem dX11_line_79 : decode cX11_line 79 = .ok (.iconst (-1), 1) := by decide +kernel
theorem dX11_line_80 : decode cX11_line 80 = .ok (.ireturn, 1) := by decide +kernel
theorem dX11_step_0 : decode cX11_step 0 = .ok (.iload_n 1, 1) := by decide +kernel
theorem dX11_step_1 : decode cX11_step 1 = .ok (.i2l, 1) := by decide +kernel
theorem dX11_step_2 : decode cX11_step 2 = .ok (.lconst 0, 1) := by decide +kernel
theorem dX11_step_3 : decode cX11_step 3 = .ok (.aload_n 0, 1) := by decide +kernel
theorem dX11_step_4 : decode cX11_step 4 = .ok (.getfield 225, 3) := by decide +kernel
theorem dX11_step_7 : decode cX11_step 7 = .ok (.iconst 1, 1) := by decide +kernel
theorem dX11_step_8 : decode cX11_step 8 = .ok (.isub, 1) := by decide +kernel
theorem dX11_step_9 : decode cX11_step 9 = .ok (.i2l, 1) := by decide +kernel
theorem dX11_step_10 : decode cX11_step 10 = .ok (.invokestatic 124, 3) := by decide +kernel
theorem dX11_step_13 : decode cX11_step 13 = .ok (.ifCond .eq 12, 3) := by decide +kernel
theorem dX11_step_16 : decode cX11_step 16 = .ok (.aload_n 0, 1) := by decide +kernel
theorem dX11_step_17 : decode cX11_step 17 = .ok (.getfield 25, 3) := by decide +kernel
theorem dX11_step_20 : decode cX11_step 20 = .ok (.iload_n 1, 1) := by decide +kernel
theorem dX11_step_21 : decode cX11_step 21 = .ok (.iaload, 1) := by decide +kernel
theorem dX11_step_22 : decode cX11_step 22 = .ok (.goto 4, 3) := by decide +kernel
theorem dX11_step_25 : decode cX11_step 25 = .ok (.iconst (-1), 1) := by decide +kernel
theorem dX11_step_26 : decode cX11_step 26 = .ok (.ireturn, 1) := by decide +kernel
theorem dX11_total_0 : decode cX11_total 0 = .ok (.iconst 0, 1) := by decide +kernel
theorem dX11_total_1 : decode cX11_total 1 = .ok (.istore_n 2, 1) := by decide +kernel
theorem dX11_total_2 : decode cX11_total 2 = .ok (.iconst 0, 1) := by decide +kernel
theorem dX11_total_3 : decode cX11_total 3 = .ok (.istore_n 3, 1) := by decide +kernel
theorem dX11_total_4 : decode cX11_total 4 = .ok (.iload_n 3, 1) := by decide +kernel
theorem dX11_total_5 : decode cX11_total 5 = .ok (.aload_n 0, 1) := by decide +kernel
theorem dX11_total_6 : decode cX11_total 6 = .ok (.getfield 203, 3) := by decide +kernel
theorem dX11_total_9 : decode cX11_total 9 = .ok (.if_icmp .ge 25, 3) := by decide +kernel
theorem dX11_total_12 : decode cX11_total 12 = .ok (.iload_n 2, 1) := by decide +kernel
theorem dX11_total_13 : decode cX11_total 13 = .ok (.aload_n 0, 1) := by decide +kernel
theorem dX11_total_14 : decode cX11_total 14 = .ok (.getfield 28, 3) := by decide +kernel
theorem dX11_total_17 : decode cX11_total 17 = .ok (.iload_n 3, 1) := by decide +kernel
theorem dX11_total_18 : decode cX11_total 18 = .ok (.iaload, 1) := by decide +kernel
theorem dX11_total_19 : decode cX11_total 19 = .ok (.aload_n 0, 1) := by decide +kernel
theorem dX11_total_20 : decode cX11_total 20 = .ok (.iload_n 3, 1) := by decide +kernel
theorem dX11_total_21 : decode cX11_total 21 = .ok (.iload_n 1, 1) := by decide +kernel
theorem dX11_total_22 : decode cX11_total 22 = .ok (.invokevirtual 251, 3) := by decide +kernel
theorem dX11_total_25 : decode cX11_total 25 = .ok (.imul, 1) := by decide +kernel
theorem dX11_total_26 : decode cX11_total 26 = .ok (.iadd, 1) := by decide +kernel
theorem dX11_total_27 : decode cX11_total 27 = .ok (.istore_n 2, 1) := by decide +kernel
theorem dX11_total_28 : decode cX11_total 28 = .ok (.iinc 3 1, 3) := by decide +kernel
theorem dX11_total_31 : decode cX11_total 31 = .ok (.goto (-27), 3) := by decide +kernel
theorem dX11_total_34 : decode cX11_total 34 = .ok (.iload_n 2, 1) := by decide +kernel
theorem dX11_total_35 : decode cX11_total 35 = .ok (.ireturn, 1) := by decide +kernel
theorem dX11_whole_0 : decode cX11_whole 0 = .ok (.iload_n 1, 1) := by decide +kernel
theorem dX11_whole_1 : decode cX11_whole 1 = .ok (.ifCond .ne 10, 3) := by decide +kernel
theorem dX11_whole_4 : decode cX11_whole 4 = .ok (.aload_n 0, 1) := by decide +kernel
theorem dX11_whole_5 : decode cX11_whole 5 = .ok (.getfield 225, 3) := by decide +kernel
theorem dX11_whole_8 : decode cX11_whole 8 = .ok (.goto 41, 3) := by decide +kernel
theorem dX11_whole_11 : decode cX11_whole 11 = .ok (.iload_n 1, 1) := by decide +kernel
theorem dX11_whole_12 : decode cX11_whole 12 = .ok (.iconst 1, 1) := by decide +kernel
theorem dX11_whole_13 : decode cX11_whole 13 = .ok (.if_icmp .ne 10, 3) := by decide +kernel
theorem dX11_whole_16 : decode cX11_whole 16 = .ok (.aload_n 0, 1) := by decide +kernel
theorem dX11_whole_17 : decode cX11_whole 17 = .ok (.getfield 212, 3) := by decide +kernel
theorem dX11_whole_20 : decode cX11_whole 20 = .ok (.goto 29, 3) := by decide +kernel
theorem dX11_whole_23 : decode cX11_whole 23 = .ok (.iload_n 1, 1) := by decide +kernel
theorem dX11_whole_24 : decode cX11_whole 24 = .ok (.i2l, 1) := by decide +kernel
theorem dX11_whole_25 : decode cX11_whole 25 = .ok (.ldc2_w 247, 3) := by decide +kernel
theorem dX11_whole_28 : decode cX11_whole 28 = .ok (.ldc2_w 249, 3) := by decide +kernel
theorem dX11_whole_31 : decode cX11_whole 31 = .ok (.invokestatic 124, 3) := by decide +kernel
theorem dX11_whole_34 : decode cX11_whole 34 = .ok (.ifCond .eq 14, 3) := by decide +kernel
theorem dX11_whole_37 : decode cX11_whole 37 = .ok (.aload_n 0, 1) := by decide +kernel
theorem dX11_whole_38 : decode cX11_whole 38 = .ok (.iload_n 1, 1) := by decide +kernel
theorem dX11_whole_39 : decode cX11_whole 39 = .ok (.bipush 10, 2) := by decide +kernel
theorem dX11_whole_41 : decode cX11_whole 41 = .ok (.isub, 1) := by decide +kernel
theorem dX11_whole_42 : decode cX11_whole 42 = .ok (.invokevirtual 257, 3) := by decide +kernel
theorem dX11_whole_45 : decode cX11_whole 45 = .ok (.goto 4, 3) := by decide +kernel
theorem dX11_whole_48 : decode cX11_whole 48 = .ok (.iconst (-1), 1) := by decide +kernel
theorem dX11_whole_49 : decode cX11_whole 49 = .ok (.ireturn, 1) := by decide +kernel
theorem dX11_ratio_0 : decode cX11_ratio 0 = .ok (.iload_n 1, 1) := by decide +kernel
theorem dX11_ratio_1 : decode cX11_ratio 1 = .ok (.bipush (-4), 2) := by decide +kernel
theorem dX11_ratio_3 : decode cX11_ratio 3 = .ok (.if_icmp .eq 11, 3) := by decide +kernel
theorem dX11_ratio_6 : decode cX11_ratio 6 = .ok (.aload_n 0, 1) := by decide +kernel
theorem dX11_ratio_7 : decode cX11_ratio 7 = .ok (.iload_n 1, 1) := by decide +kernel
theorem dX11_ratio_8 : decode cX11_ratio 8 = .ok (.invokevirtual 243, 3) := by decide +kernel
theorem dX11_ratio_11 : decode cX11_ratio 11 = .ok (.ifCond .eq 28, 3) := by decide +kernel
theorem dX11_ratio_14 : decode cX11_ratio 14 = .ok (.iload_n 2, 1) := by decide +kernel
theorem dX11_ratio_15 : decode cX11_ratio 15 = .ok (.invokestatic 260, 3) := by decide +kernel
theorem dX11_ratio_18 : decode cX11_ratio 18 = .ok (.ifCond .eq 21, 3) := by decide +kernel
theorem dX11_ratio_21 : decode cX11_ratio 21 = .ok (.iload_n 3, 1) := by decide +kernel
theorem dX11_ratio_22 : decode cX11_ratio 22 = .ok (.invokestatic 260, 3) := by decide +kernel
theorem dX11_ratio_25 : decode cX11_ratio 25 = .ok (.ifCond .eq 14, 3) := by decide +kernel
theorem dX11_ratio_28 : decode cX11_ratio 28 = .ok (.iload 4, 2) := by decide +kernel
theorem dX11_ratio_30 : decode cX11_ratio 30 = .ok (.i2l, 1) := by decide +kernel
theorem dX11_ratio_31 : decode cX11_ratio 31 = .ok (.lconst 0, 1) := by decide +kernel
theorem dX11_ratio_32 : decode cX11_ratio 32 = .ok (.lconst 1, 1) := by decide +kernel
theorem dX11_ratio_33 : decode cX11_ratio 33 = .ok (.invokestatic 124, 3) := by decide +kernel
theorem dX11_ratio_36 : decode cX11_ratio 36 = .ok (.ifCond .ne 5, 3) := by decide +kernel
theorem dX11_ratio_39 : decode cX11_ratio 39 = .ok (.iconst (-1), 1) := by decide +kernel
theorem dX11_ratio_40 : decode cX11_ratio 40 = .ok (.ireturn, 1) := by decide +kernel
theorem dX11_ratio_41 : decode cX11_ratio 41 = .ok (.iload_n 1, 1) := by decide +kernel
theorem dX11_ratio_42 : decode cX11_ratio 42 = .ok (.bipush (-4), 2) := by decide +kernel
theorem dX11_ratio_44 : decode cX11_ratio 44 = .ok (.if_icmp .ne 11, 3) := by decide +kernel
theorem dX11_ratio_47 : decode cX11_ratio 47 = .ok (.aload_n 0, 1) := by decide +kernel
theorem dX11_ratio_48 : decode cX11_ratio 48 = .ok (.iload_n 2, 1) := by decide +kernel
theorem dX11_ratio_49 : decode cX11_ratio 49 = .ok (.invokevirtual 257, 3) := by decide +kernel
theorem dX11_ratio_52 : decode cX11_ratio 52 = .ok (.goto 9, 3) := by decide +kernel
theorem dX11_ratio_55 : decode cX11_ratio 55 = .ok (.aload_n 0, 1) := by decide +kernel
theorem dX11_ratio_56 : decode cX11_ratio 56 = .ok (.iload_n 1, 1) := by decide +kernel
theorem dX11_ratio_57 : decode cX11_ratio 57 = .ok (.iload_n 2, 1) := by decide +kernel
theorem dX11_ratio_58 : decode cX11_ratio 58 = .ok (.invokevirtual 251, 3) := by decide +kernel
theorem dX11_ratio_61 : decode cX11_ratio 61 = .ok (.istore 5, 2) := by decide +kernel
theorem dX11_ratio_63 : decode cX11_ratio 63 = .ok (.iload_n 1, 1) := by decide +kernel
theorem dX11_ratio_64 : decode cX11_ratio 64 = .ok (.bipush (-4), 2) := by decide +kernel
theorem dX11_ratio_66 : decode cX11_ratio 66 = .ok (.if_icmp .ne 11, 3) := by decide +kernel
theorem dX11_ratio_69 : decode cX11_ratio 69 = .ok (.aload_n 0, 1) := by decide +kernel
theorem dX11_ratio_70 : decode cX11_ratio 70 = .ok (.iload_n 3, 1) := by decide +kernel
theorem dX11_ratio_71 : decode cX11_ratio 71 = .ok (.invokevirtual 257, 3) := by decide +kernel
theorem dX11_ratio_74 : decode cX11_ratio 74 = .ok (.goto 9, 3) := by decide +kernel
theorem dX11_ratio_77 : decode cX11_ratio 77 = .ok (.aload_n 0, 1) := by decide +kernel
theorem dX11_ratio_78 : decode cX11_ratio 78 = .ok (.iload_n 1, 1) := by decide +kernel
theorem dX11_ratio_79 : decode cX11_ratio 79 = .ok (.iload_n 3, 1) := by decide +kernel
theorem dX11_ratio_80 : decode cX11_ratio 80 = .ok (.invokevirtual 251, 3) := by decide +kernel
theorem dX11_ratio_83 : decode cX11_ratio 83 = .ok (.istore 6, 2) := by decide +kernel
theorem dX11_ratio_85 : decode cX11_ratio 85 = .ok (.iload 6, 2) := by decide +kernel
theorem dX11_ratio_87 : decode cX11_ratio 87 = .ok (.ifCond .ne 8, 3) := by decide +kernel
theorem dX11_ratio_90 : decode cX11_ratio 90 = .ok (.bipush (-4), 2) := by decide +kernel
theorem dX11_ratio_92 : decode cX11_ratio 92 = .ok (.goto 15, 3) := by decide +kernel
theorem dX11_ratio_95 : decode cX11_ratio 95 = .ok (.iload 5, 2) := by decide +kernel
theorem dX11_ratio_97 : decode cX11_ratio 97 = .ok (.i2l, 1) := by decide +kernel
theorem dX11_ratio_98 : decode cX11_ratio 98 = .ok (.iload 6, 2) := by decide +kernel
theorem dX11_ratio_100 : decode cX11_ratio 100 = .ok (.i2l, 1) := by decide +kernel
theorem dX11_ratio_101 : decode cX11_ratio 101 = .ok (.iload 4, 2) := by decide +kernel
theorem dX11_ratio_103 : decode cX11_ratio 103 = .ok (.invokestatic 263, 3) := by decide +kernel
theorem dX11_ratio_106 : decode cX11_ratio 106 = .ok (.l2i, 1) := by decide +kernel
theorem dX11_ratio_107 : decode cX11_ratio 107 = .ok (.ireturn, 1) := by decide +kernel
theorem dX11_loop_0 : decode cX11_loop 0 = .ok (.iload_n 1, 1) := by decide +kernel
theorem dX11_loop_1 : decode cX11_loop 1 = .ok (.i2l, 1) := by decide +kernel
theorem dX11_loop_2 : decode cX11_loop 2 = .ok (.lconst 0, 1) := by decide +kernel
theorem dX11_loop_3 : decode cX11_loop 3 = .ok (.aload_n 0, 1) := by decide +kernel
theorem dX11_loop_4 : decode cX11_loop 4 = .ok (.getfield 206, 3) := by decide +kernel
theorem dX11_loop_7 : decode cX11_loop 7 = .ok (.iconst 1, 1) := by decide +kernel
theorem dX11_loop_8 : decode cX11_loop 8 = .ok (.isub, 1) := by decide +kernel
theorem dX11_loop_9 : decode cX11_loop 9 = .ok (.i2l, 1) := by decide +kernel
theorem dX11_loop_10 : decode cX11_loop 10 = .ok (.invokestatic 124, 3) := by decide +kernel
theorem dX11_loop_13 : decode cX11_loop 13 = .ok (.ifCond .eq 15, 3) := by decide +kernel
theorem dX11_loop_16 : decode cX11_loop 16 = .ok (.iload_n 2, 1) := by decide +kernel
theorem dX11_loop_17 : decode cX11_loop 17 = .ok (.i2l, 1) := by decide +kernel
theorem dX11_loop_18 : decode cX11_loop 18 = .ok (.lconst 0, 1) := by decide +kernel
theorem dX11_loop_19 : decode cX11_loop 19 = .ok (.ldc2_w 267, 3) := by decide +kernel
theorem dX11_loop_22 : decode cX11_loop 22 = .ok (.invokestatic 124, 3) := by decide +kernel
theorem dX11_loop_25 : decode cX11_loop 25 = .ok (.ifCond .ne 5, 3) := by decide +kernel
theorem dX11_loop_28 : decode cX11_loop 28 = .ok (.iconst (-1), 1) := by decide +kernel
theorem dX11_loop_29 : decode cX11_loop 29 = .ok (.ireturn, 1) := by decide +kernel
theorem dX11_loop_30 : decode cX11_loop 30 = .ok (.iconst 1, 1) := by decide +kernel
theorem dX11_loop_31 : decode cX11_loop 31 = .ok (.istore_n 3, 1) := by decide +kernel
theorem dX11_loop_32 : decode cX11_loop 32 = .ok (.aload_n 0, 1) := by decide +kernel
theorem dX11_loop_33 : decode cX11_loop 33 = .ok (.getfield 22, 3) := by decide +kernel
theorem dX11_loop_36 : decode cX11_loop 36 = .ok (.iload_n 1, 1) := by decide +kernel
theorem dX11_loop_37 : decode cX11_loop 37 = .ok (.iaload, 1) := by decide +kernel
theorem dX11_loop_38 : decode cX11_loop 38 = .ok (.istore 4, 2) := by decide +kernel
theorem dX11_loop_40 : decode cX11_loop 40 = .ok (.iload 4, 2) := by decide +kernel
theorem dX11_loop_42 : decode cX11_loop 42 = .ok (.bipush (-4), 2) := by decide +kernel
theorem dX11_loop_44 : decode cX11_loop 44 = .ok (.if_icmp .eq 25, 3) := by decide +kernel
theorem dX11_loop_47 : decode cX11_loop 47 = .ok (.iload_n 3, 1) := by decide +kernel
theorem dX11_loop_48 : decode cX11_loop 48 = .ok (.aload_n 0, 1) := by decide +kernel
theorem dX11_loop_49 : decode cX11_loop 49 = .ok (.getfield 19, 3) := by decide +kernel
theorem dX11_loop_52 : decode cX11_loop 52 = .ok (.iload 4, 2) := by decide +kernel
theorem dX11_loop_54 : decode cX11_loop 54 = .ok (.iaload, 1) := by decide +kernel
theorem dX11_loop_55 : decode cX11_loop 55 = .ok (.imul, 1) := by decide +kernel
theorem dX11_loop_56 : decode cX11_loop 56 = .ok (.istore_n 3, 1) := by decide +kernel
theorem dX11_loop_57 : decode cX11_loop 57 = .ok (.aload_n 0, 1) := by decide +kernel
theorem dX11_loop_58 : decode cX11_loop 58 = .ok (.getfield 22, 3) := by decide +kernel
theorem dX11_loop_61 : decode cX11_loop 61 = .ok (.iload 4, 2) := by decide +kernel
theorem dX11_loop_63 : decode cX11_loop 63 = .ok (.iaload, 1) := by decide +kernel
theorem dX11_loop_64 : decode cX11_loop 64 = .ok (.istore 4, 2) := by decide +kernel
theorem dX11_loop_66 : decode cX11_loop 66 = .ok (.goto (-26), 3) := by decide +kernel
theorem dX11_loop_69 : decode cX11_loop 69 = .ok (.aload_n 0, 1) := by decide +kernel
theorem dX11_loop_70 : decode cX11_loop 70 = .ok (.iload_n 1, 1) := by decide +kernel
theorem dX11_loop_71 : decode cX11_loop 71 = .ok (.invokevirtual 228, 3) := by decide +kernel
theorem dX11_loop_74 : decode cX11_loop 74 = .ok (.istore 4, 2) := by decide +kernel
theorem dX11_loop_76 : decode cX11_loop 76 = .ok (.iconst 0, 1) := by decide +kernel
theorem dX11_loop_77 : decode cX11_loop 77 = .ok (.istore 5, 2) := by decide +kernel
theorem dX11_loop_79 : decode cX11_loop 79 = .ok (.iconst 0, 1) := by decide +kernel
theorem dX11_loop_80 : decode cX11_loop 80 = .ok (.istore 6, 2) := by decide +kernel
theorem dX11_loop_82 : decode cX11_loop 82 = .ok (.iload 6, 2) := by decide +kernel
theorem dX11_loop_84 : decode cX11_loop 84 = .ok (.aload_n 0, 1) := by decide +kernel
theorem dX11_loop_85 : decode cX11_loop 85 = .ok (.getfield 203, 3) := by decide +kernel
theorem dX11_loop_88 : decode cX11_loop 88 = .ok (.if_icmp .ge 36, 3) := by decide +kernel
theorem dX11_loop_91 : decode cX11_loop 91 = .ok (.iload 5, 2) := by decide +kernel
theorem dX11_loop_93 : decode cX11_loop 93 = .ok (.iload 4, 2) := by decide +kernel
theorem dX11_loop_95 : decode cX11_loop 95 = .ok (.iload 6, 2) := by decide +kernel
theorem dX11_loop_97 : decode cX11_loop 97 = .ok (.ishr, 1) := by decide +kernel
theorem dX11_loop_98 : decode cX11_loop 98 = .ok (.iconst 1, 1) := by decide +kernel
theorem dX11_loop_99 : decode cX11_loop 99 = .ok (.iand, 1) := by decide +kernel
theorem dX11_loop_100 : decode cX11_loop 100 = .ok (.iconst 1, 1) := by decide +kernel
theorem dX11_loop_101 : decode cX11_loop 101 = .ok (.if_icmp .ne 13, 3) := by decide +kernel
theorem dX11_loop_104 : decode cX11_loop 104 = .ok (.aload_n 0, 1) := by decide +kernel
theorem dX11_loop_105 : decode cX11_loop 105 = .ok (.getfield 28, 3) := by decide +kernel
theorem dX11_loop_108 : decode cX11_loop 108 = .ok (.iload 6, 2) := by decide +kernel
theorem dX11_loop_110 : decode cX11_loop 110 = .ok (.iaload, 1) := by decide +kernel
theorem dX11_loop_111 : decode cX11_loop 111 = .ok (.goto 4, 3) := by decide +kernel
theorem dX11_loop_114 : decode cX11_loop 114 = .ok (.iconst 0, 1) := by decide +kernel
theorem dX11_loop_115 : decode cX11_loop 115 = .ok (.iadd, 1) := by decide +kernel
theorem dX11_loop_116 : decode cX11_loop 116 = .ok (.istore 5, 2) := by decide +kernel
theorem dX11_loop_118 : decode cX11_loop 118 = .ok (.iinc 6 1, 3) := by decide +kernel
theorem dX11_loop_121 : decode cX11_loop 121 = .ok (.goto (-39), 3) := by decide +kernel
theorem dX11_loop_124 : decode cX11_loop 124 = .ok (.iload_n 2, 1) := by decide +kernel
theorem dX11_loop_125 : decode cX11_loop 125 = .ok (.ifCond .ne 12, 3) := by decide +kernel
theorem dX11_loop_128 : decode cX11_loop 128 = .ok (.aload_n 0, 1) := by decide +kernel
theorem dX11_loop_129 : decode cX11_loop 129 = .ok (.getfield 19, 3) := by decide +kernel
theorem dX11_loop_132 : decode cX11_loop 132 = .ok (.iload_n 1, 1) := by decide +kernel
theorem dX11_loop_133 : decode cX11_loop 133 = .ok (.iaload, 1) := by decide +kernel
theorem dX11_loop_134 : decode cX11_loop 134 = .ok (.goto 42, 3) := by decide +kernel
theorem dX11_loop_137 : decode cX11_loop 137 = .ok (.iload_n 2, 1) := by decide +kernel
theorem dX11_loop_138 : decode cX11_loop 138 = .ok (.iconst 1, 1) := by decide +kernel
theorem dX11_loop_139 : decode cX11_loop 139 = .ok (.if_icmp .ne 16, 3) := by decide +kernel
theorem dX11_loop_142 : decode cX11_loop 142 = .ok (.aload_n 0, 1) := by decide +kernel
theorem dX11_loop_143 : decode cX11_loop 143 = .ok (.aload_n 0, 1) := by decide +kernel
theorem dX11_loop_144 : decode cX11_loop 144 = .ok (.getfield 22, 3) := by decide +kernel
theorem dX11_loop_147 : decode cX11_loop 147 = .ok (.iload_n 1, 1) := by decide +kernel
theorem dX11_loop_148 : decode cX11_loop 148 = .ok (.iaload, 1) := by decide +kernel
theorem dX11_loop_149 : decode cX11_loop 149 = .ok (.invokevirtual 254, 3) := by decide +kernel
theorem dX11_loop_152 : decode cX11_loop 152 = .ok (.goto 24, 3) := by decide +kernel
theorem dX11_loop_155 : decode cX11_loop 155 = .ok (.iload_n 2, 1) := by decide +kernel
theorem dX11_loop_156 : decode cX11_loop 156 = .ok (.iconst 2, 1) := by decide +kernel
theorem dX11_loop_157 : decode cX11_loop 157 = .ok (.if_icmp .ne 8, 3) := by decide +kernel
theorem dX11_loop_160 : decode cX11_loop 160 = .ok (.iload 4, 2) := by decide +kernel
theorem dX11_loop_162 : decode cX11_loop 162 = .ok (.goto 14, 3) := by decide +kernel
theorem dX11_loop_165 : decode cX11_loop 165 = .ok (.iload_n 2, 1) := by decide +kernel
theorem dX11_loop_166 : decode cX11_loop 166 = .ok (.iconst 3, 1) := by decide +kernel
theorem dX11_loop_167 : decode cX11_loop 167 = .ok (.if_icmp .ne 7, 3) := by decide +kernel
theorem dX11_loop_170 : decode cX11_loop 170 = .ok (.iload_n 3, 1) := by decide +kernel
theorem dX11_loop_171 : decode cX11_loop 171 = .ok (.goto 5, 3) := by decide +kernel
theorem dX11_loop_174 : decode cX11_loop 174 = .ok (.iload 5, 2) := by decide +kernel
theorem dX11_loop_176 : decode cX11_loop 176 = .ok (.ireturn, 1) := by decide +kernel
theorem dX11_went_0 : decode cX11_went 0 = .ok (.iload_n 1, 1) := by decide +kernel
theorem dX11_went_1 : decode cX11_went 1 = .ok (.i2l, 1) := by decide +kernel
theorem dX11_went_2 : decode cX11_went 2 = .ok (.lconst 0, 1) := by decide +kernel
theorem dX11_went_3 : decode cX11_went 3 = .ok (.aload_n 0, 1) := by decide +kernel
theorem dX11_went_4 : decode cX11_went 4 = .ok (.getfield 206, 3) := by decide +kernel
theorem dX11_went_7 : decode cX11_went 7 = .ok (.iconst 1, 1) := by decide +kernel
theorem dX11_went_8 : decode cX11_went 8 = .ok (.isub, 1) := by decide +kernel
theorem dX11_went_9 : decode cX11_went 9 = .ok (.i2l, 1) := by decide +kernel
theorem dX11_went_10 : decode cX11_went 10 = .ok (.invokestatic 124, 3) := by decide +kernel
theorem dX11_went_13 : decode cX11_went 13 = .ok (.ifCond .eq 22, 3) := by decide +kernel
theorem dX11_went_16 : decode cX11_went 16 = .ok (.iload_n 2, 1) := by decide +kernel
theorem dX11_went_17 : decode cX11_went 17 = .ok (.invokestatic 260, 3) := by decide +kernel
theorem dX11_went_20 : decode cX11_went 20 = .ok (.ifCond .eq 15, 3) := by decide +kernel
theorem dX11_went_23 : decode cX11_went 23 = .ok (.iload_n 3, 1) := by decide +kernel
theorem dX11_went_24 : decode cX11_went 24 = .ok (.i2l, 1) := by decide +kernel
theorem dX11_went_25 : decode cX11_went 25 = .ok (.lconst 0, 1) := by decide +kernel
theorem dX11_went_26 : decode cX11_went 26 = .ok (.ldc2_w 269, 3) := by decide +kernel
theorem dX11_went_29 : decode cX11_went 29 = .ok (.invokestatic 124, 3) := by decide +kernel
theorem dX11_went_32 : decode cX11_went 32 = .ok (.ifCond .ne 5, 3) := by decide +kernel
theorem dX11_went_35 : decode cX11_went 35 = .ok (.iconst (-1), 1) := by decide +kernel
theorem dX11_went_36 : decode cX11_went 36 = .ok (.ireturn, 1) := by decide +kernel
theorem dX11_went_37 : decode cX11_went 37 = .ok (.aload_n 0, 1) := by decide +kernel
theorem dX11_went_38 : decode cX11_went 38 = .ok (.iload_n 1, 1) := by decide +kernel
theorem dX11_went_39 : decode cX11_went 39 = .ok (.invokevirtual 228, 3) := by decide +kernel
theorem dX11_went_42 : decode cX11_went 42 = .ok (.istore 4, 2) := by decide +kernel
theorem dX11_went_44 : decode cX11_went 44 = .ok (.iconst 0, 1) := by decide +kernel
theorem dX11_went_45 : decode cX11_went 45 = .ok (.istore 5, 2) := by decide +kernel
theorem dX11_went_47 : decode cX11_went 47 = .ok (.iconst 0, 1) := by decide +kernel
theorem dX11_went_48 : decode cX11_went 48 = .ok (.istore 6, 2) := by decide +kernel
theorem dX11_went_50 : decode cX11_went 50 = .ok (.iconst 0, 1) := by decide +kernel
theorem dX11_went_51 : decode cX11_went 51 = .ok (.istore 7, 2) := by decide +kernel
theorem dX11_went_53 : decode cX11_went 53 = .ok (.iload 7, 2) := by decide +kernel
theorem dX11_went_55 : decode cX11_went 55 = .ok (.aload_n 0, 1) := by decide +kernel
theorem dX11_went_56 : decode cX11_went 56 = .ok (.getfield 203, 3) := by decide +kernel
theorem dX11_went_59 : decode cX11_went 59 = .ok (.if_icmp .ge 92, 3) := by decide +kernel
theorem dX11_went_62 : decode cX11_went 62 = .ok (.iload 4, 2) := by decide +kernel
theorem dX11_went_64 : decode cX11_went 64 = .ok (.iload 7, 2) := by decide +kernel
theorem dX11_went_66 : decode cX11_went 66 = .ok (.ishr, 1) := by decide +kernel
theorem dX11_went_67 : decode cX11_went 67 = .ok (.iconst 1, 1) := by decide +kernel
theorem dX11_went_68 : decode cX11_went 68 = .ok (.iand, 1) := by decide +kernel
theorem dX11_went_69 : decode cX11_went 69 = .ok (.iconst 1, 1) := by decide +kernel
theorem dX11_went_70 : decode cX11_went 70 = .ok (.if_icmp .ne 7, 3) := by decide +kernel
theorem dX11_went_73 : decode cX11_went 73 = .ok (.iconst 1, 1) := by decide +kernel
theorem dX11_went_74 : decode cX11_went 74 = .ok (.goto 4, 3) := by decide +kernel
theorem dX11_went_77 : decode cX11_went 77 = .ok (.iconst 0, 1) := by decide +kernel
theorem dX11_went_78 : decode cX11_went 78 = .ok (.istore 8, 2) := by decide +kernel
theorem dX11_went_80 : decode cX11_went 80 = .ok (.iload 5, 2) := by decide +kernel
theorem dX11_went_82 : decode cX11_went 82 = .ok (.iload 8, 2) := by decide +kernel
theorem dX11_went_84 : decode cX11_went 84 = .ok (.ifCond .eq 7, 3) := by decide +kernel
theorem dX11_went_87 : decode cX11_went 87 = .ok (.iconst 0, 1) := by decide +kernel
theorem dX11_went_88 : decode cX11_went 88 = .ok (.goto 18, 3) := by decide +kernel
theorem dX11_went_91 : decode cX11_went 91 = .ok (.aload_n 0, 1) := by decide +kernel
theorem dX11_went_92 : decode cX11_went 92 = .ok (.getfield 28, 3) := by decide +kernel
theorem dX11_went_95 : decode cX11_went 95 = .ok (.iload 7, 2) := by decide +kernel
theorem dX11_went_97 : decode cX11_went 97 = .ok (.iaload, 1) := by decide +kernel
theorem dX11_went_98 : decode cX11_went 98 = .ok (.aload_n 0, 1) := by decide +kernel
theorem dX11_went_99 : decode cX11_went 99 = .ok (.iload 7, 2) := by decide +kernel
theorem dX11_went_101 : decode cX11_went 101 = .ok (.iload_n 2, 1) := by decide +kernel
theorem dX11_went_102 : decode cX11_went 102 = .ok (.invokevirtual 251, 3) := by decide +kernel
theorem dX11_went_105 : decode cX11_went 105 = .ok (.imul, 1) := by decide +kernel
theorem dX11_went_106 : decode cX11_went 106 = .ok (.iadd, 1) := by decide +kernel
theorem dX11_went_107 : decode cX11_went 107 = .ok (.istore 5, 2) := by decide +kernel
theorem dX11_went_109 : decode cX11_went 109 = .ok (.iload 6, 2) := by decide +kernel
theorem dX11_went_111 : decode cX11_went 111 = .ok (.iload 8, 2) := by decide +kernel
theorem dX11_went_113 : decode cX11_went 113 = .ok (.ifCond .eq 28, 3) := by decide +kernel
theorem dX11_went_116 : decode cX11_went 116 = .ok (.aload_n 0, 1) := by decide +kernel
theorem dX11_went_117 : decode cX11_went 117 = .ok (.getfield 28, 3) := by decide +kernel
theorem dX11_went_120 : decode cX11_went 120 = .ok (.iload 7, 2) := by decide +kernel
theorem dX11_went_122 : decode cX11_went 122 = .ok (.iaload, 1) := by decide +kernel
theorem dX11_went_123 : decode cX11_went 123 = .ok (.aload_n 0, 1) := by decide +kernel
theorem dX11_went_124 : decode cX11_went 124 = .ok (.getfield 19, 3) := by decide +kernel
theorem dX11_went_127 : decode cX11_went 127 = .ok (.iload_n 1, 1) := by decide +kernel
theorem dX11_went_128 : decode cX11_went 128 = .ok (.iaload, 1) := by decide +kernel
theorem dX11_went_129 : decode cX11_went 129 = .ok (.idiv, 1) := by decide +kernel
theorem dX11_went_130 : decode cX11_went 130 = .ok (.aload_n 0, 1) := by decide +kernel
theorem dX11_went_131 : decode cX11_went 131 = .ok (.iload 7, 2) := by decide +kernel
theorem dX11_went_133 : decode cX11_went 133 = .ok (.iload_n 2, 1) := by decide +kernel
theorem dX11_went_134 : decode cX11_went 134 = .ok (.invokevirtual 251, 3) := by decide +kernel
theorem dX11_went_137 : decode cX11_went 137 = .ok (.imul, 1) := by decide +kernel
theorem dX11_went_138 : decode cX11_went 138 = .ok (.goto 4, 3) := by decide +kernel
theorem dX11_went_141 : decode cX11_went 141 = .ok (.iconst 0, 1) := by decide +kernel
theorem dX11_went_142 : decode cX11_went 142 = .ok (.iadd, 1) := by decide +kernel
theorem dX11_went_143 : decode cX11_went 143 = .ok (.istore 6, 2) := by decide +kernel
theorem dX11_went_145 : decode cX11_went 145 = .ok (.iinc 7 1, 3) := by decide +kernel
theorem dX11_went_148 : decode cX11_went 148 = .ok (.goto (-95), 3) := by decide +kernel
theorem dX11_went_151 : decode cX11_went 151 = .ok (.iload_n 3, 1) := by decide +kernel
theorem dX11_went_152 : decode cX11_went 152 = .ok (.iload 5, 2) := by decide +kernel
theorem dX11_went_154 : decode cX11_went 154 = .ok (.isub, 1) := by decide +kernel
theorem dX11_went_155 : decode cX11_went 155 = .ok (.istore 7, 2) := by decide +kernel
theorem dX11_went_157 : decode cX11_went 157 = .ok (.iload 6, 2) := by decide +kernel
theorem dX11_went_159 : decode cX11_went 159 = .ok (.ifCond .ne 15, 3) := by decide +kernel
theorem dX11_went_162 : decode cX11_went 162 = .ok (.iload 7, 2) := by decide +kernel
theorem dX11_went_164 : decode cX11_went 164 = .ok (.ifCond .ne 7, 3) := by decide +kernel
theorem dX11_went_167 : decode cX11_went 167 = .ok (.iconst 0, 1) := by decide +kernel
theorem dX11_went_168 : decode cX11_went 168 = .ok (.goto 5, 3) := by decide +kernel
theorem dX11_went_171 : decode cX11_went 171 = .ok (.bipush (-4), 2) := by decide +kernel
theorem dX11_went_173 : decode cX11_went 173 = .ok (.ireturn, 1) := by decide +kernel
theorem dX11_went_174 : decode cX11_went 174 = .ok (.iload 7, 2) := by decide +kernel
theorem dX11_went_176 : decode cX11_went 176 = .ok (.ifCond .lt 30, 3) := by decide +kernel
theorem dX11_went_179 : decode cX11_went 179 = .ok (.iload 7, 2) := by decide +kernel
theorem dX11_went_181 : decode cX11_went 181 = .ok (.iload 6, 2) := by decide +kernel
theorem dX11_went_183 : decode cX11_went 183 = .ok (.irem, 1) := by decide +kernel
theorem dX11_went_184 : decode cX11_went 184 = .ok (.ifCond .ne 22, 3) := by decide +kernel
theorem dX11_went_187 : decode cX11_went 187 = .ok (.iload 7, 2) := by decide +kernel
theorem dX11_went_189 : decode cX11_went 189 = .ok (.iload 6, 2) := by decide +kernel
theorem dX11_went_191 : decode cX11_went 191 = .ok (.idiv, 1) := by decide +kernel
theorem dX11_went_192 : decode cX11_went 192 = .ok (.sipush 9999, 3) := by decide +kernel
theorem dX11_went_195 : decode cX11_went 195 = .ok (.if_icmp .gt 11, 3) := by decide +kernel
theorem dX11_went_198 : decode cX11_went 198 = .ok (.iload 7, 2) := by decide +kernel
theorem dX11_went_200 : decode cX11_went 200 = .ok (.iload 6, 2) := by decide +kernel
theorem dX11_went_202 : decode cX11_went 202 = .ok (.idiv, 1) := by decide +kernel
theorem dX11_went_203 : decode cX11_went 203 = .ok (.goto 5, 3) := by decide +kernel
theorem dX11_went_206 : decode cX11_went 206 = .ok (.bipush (-4), 2) := by decide +kernel
theorem dX11_went_208 : decode cX11_went 208 = .ok (.ireturn, 1) := by decide +kernel
theorem dX11_hot_0 : decode cX11_hot 0 = .ok (.iload_n 1, 1) := by decide +kernel
theorem dX11_hot_1 : decode cX11_hot 1 = .ok (.invokestatic 260, 3) := by decide +kernel
theorem dX11_hot_4 : decode cX11_hot 4 = .ok (.ifCond .eq 25, 3) := by decide +kernel
theorem dX11_hot_7 : decode cX11_hot 7 = .ok (.iload_n 2, 1) := by decide +kernel
theorem dX11_hot_8 : decode cX11_hot 8 = .ok (.i2l, 1) := by decide +kernel
theorem dX11_hot_9 : decode cX11_hot 9 = .ok (.lconst 1, 1) := by decide +kernel
theorem dX11_hot_10 : decode cX11_hot 10 = .ok (.ldc2_w 271, 3) := by decide +kernel
theorem dX11_hot_13 : decode cX11_hot 13 = .ok (.invokestatic 124, 3) := by decide +kernel
theorem dX11_hot_16 : decode cX11_hot 16 = .ok (.ifCond .eq 13, 3) := by decide +kernel
theorem dX11_hot_19 : decode cX11_hot 19 = .ok (.iload_n 3, 1) := by decide +kernel
theorem dX11_hot_20 : decode cX11_hot 20 = .ok (.i2l, 1) := by decide +kernel
theorem dX11_hot_21 : decode cX11_hot 21 = .ok (.lconst 0, 1) := by decide +kernel
theorem dX11_hot_22 : decode cX11_hot 22 = .ok (.lconst 1, 1) := by decide +kernel
theorem dX11_hot_23 : decode cX11_hot 23 = .ok (.invokestatic 124, 3) := by decide +kernel
theorem dX11_hot_26 : decode cX11_hot 26 = .ok (.ifCond .ne 5, 3) := by decide +kernel
theorem dX11_hot_29 : decode cX11_hot 29 = .ok (.iconst (-1), 1) := by decide +kernel
theorem dX11_hot_30 : decode cX11_hot 30 = .ok (.ireturn, 1) := by decide +kernel
theorem dX11_hot_31 : decode cX11_hot 31 = .ok (.aload_n 0, 1) := by decide +kernel
theorem dX11_hot_32 : decode cX11_hot 32 = .ok (.iload_n 1, 1) := by decide +kernel
theorem dX11_hot_33 : decode cX11_hot 33 = .ok (.invokevirtual 257, 3) := by decide +kernel
theorem dX11_hot_36 : decode cX11_hot 36 = .ok (.istore 4, 2) := by decide +kernel
theorem dX11_hot_38 : decode cX11_hot 38 = .ok (.bipush (-4), 2) := by decide +kernel
theorem dX11_hot_40 : decode cX11_hot 40 = .ok (.istore 5, 2) := by decide +kernel
theorem dX11_hot_42 : decode cX11_hot 42 = .ok (.iconst 1, 1) := by decide +kernel
theorem dX11_hot_43 : decode cX11_hot 43 = .ok (.istore 6, 2) := by decide +kernel
theorem dX11_hot_45 : decode cX11_hot 45 = .ok (.iload 6, 2) := by decide +kernel
theorem dX11_hot_47 : decode cX11_hot 47 = .ok (.iconst 1, 1) := by decide +kernel
theorem dX11_hot_48 : decode cX11_hot 48 = .ok (.aload_n 0, 1) := by decide +kernel
theorem dX11_hot_49 : decode cX11_hot 49 = .ok (.getfield 203, 3) := by decide +kernel
theorem dX11_hot_52 : decode cX11_hot 52 = .ok (.ishl, 1) := by decide +kernel
theorem dX11_hot_53 : decode cX11_hot 53 = .ok (.if_icmp .ge 116, 3) := by decide +kernel
theorem dX11_hot_56 : decode cX11_hot 56 = .ok (.iload 4, 2) := by decide +kernel
theorem dX11_hot_58 : decode cX11_hot 58 = .ok (.ifCond .le 111, 3) := by decide +kernel
theorem dX11_hot_61 : decode cX11_hot 61 = .ok (.iload 5, 2) := by decide +kernel
theorem dX11_hot_63 : decode cX11_hot 63 = .ok (.bipush (-4), 2) := by decide +kernel
theorem dX11_hot_65 : decode cX11_hot 65 = .ok (.if_icmp .eq 16, 3) := by decide +kernel
theorem dX11_hot_68 : decode cX11_hot 68 = .ok (.iload 6, 2) := by decide +kernel
theorem dX11_hot_70 : decode cX11_hot 70 = .ok (.invokestatic 273, 3) := by decide +kernel
theorem dX11_hot_73 : decode cX11_hot 73 = .ok (.iload 5, 2) := by decide +kernel
theorem dX11_hot_75 : decode cX11_hot 75 = .ok (.invokestatic 273, 3) := by decide +kernel
theorem dX11_hot_78 : decode cX11_hot 78 = .ok (.if_icmp .ge 85, 3) := by decide +kernel
theorem dX11_hot_81 : decode cX11_hot 81 = .ok (.iconst 0, 1) := by decide +kernel
theorem dX11_hot_82 : decode cX11_hot 82 = .ok (.istore 7, 2) := by decide +kernel
theorem dX11_hot_84 : decode cX11_hot 84 = .ok (.iconst 0, 1) := by decide +kernel
theorem dX11_hot_85 : decode cX11_hot 85 = .ok (.istore 8, 2) := by decide +kernel
theorem dX11_hot_87 : decode cX11_hot 87 = .ok (.iload 8, 2) := by decide +kernel
theorem dX11_hot_89 : decode cX11_hot 89 = .ok (.aload_n 0, 1) := by decide +kernel
theorem dX11_hot_90 : decode cX11_hot 90 = .ok (.getfield 203, 3) := by decide +kernel
theorem dX11_hot_93 : decode cX11_hot 93 = .ok (.if_icmp .ge 44, 3) := by decide +kernel
theorem dX11_hot_96 : decode cX11_hot 96 = .ok (.iload 7, 2) := by decide +kernel
theorem dX11_hot_98 : decode cX11_hot 98 = .ok (.iload 6, 2) := by decide +kernel
theorem dX11_hot_100 : decode cX11_hot 100 = .ok (.iload 8, 2) := by decide +kernel
theorem dX11_hot_102 : decode cX11_hot 102 = .ok (.ishr, 1) := by decide +kernel
theorem dX11_hot_103 : decode cX11_hot 103 = .ok (.iconst 1, 1) := by decide +kernel
theorem dX11_hot_104 : decode cX11_hot 104 = .ok (.iand, 1) := by decide +kernel
theorem dX11_hot_105 : decode cX11_hot 105 = .ok (.iconst 1, 1) := by decide +kernel
theorem dX11_hot_106 : decode cX11_hot 106 = .ok (.if_icmp .ne 21, 3) := by decide +kernel
theorem dX11_hot_109 : decode cX11_hot 109 = .ok (.aload_n 0, 1) := by decide +kernel
theorem dX11_hot_110 : decode cX11_hot 110 = .ok (.getfield 28, 3) := by decide +kernel
theorem dX11_hot_113 : decode cX11_hot 113 = .ok (.iload 8, 2) := by decide +kernel
theorem dX11_hot_115 : decode cX11_hot 115 = .ok (.iaload, 1) := by decide +kernel
theorem dX11_hot_116 : decode cX11_hot 116 = .ok (.aload_n 0, 1) := by decide +kernel
theorem dX11_hot_117 : decode cX11_hot 117 = .ok (.iload 8, 2) := by decide +kernel
theorem dX11_hot_119 : decode cX11_hot 119 = .ok (.iload_n 1, 1) := by decide +kernel
theorem dX11_hot_120 : decode cX11_hot 120 = .ok (.invokevirtual 251, 3) := by decide +kernel
theorem dX11_hot_123 : decode cX11_hot 123 = .ok (.imul, 1) := by decide +kernel
theorem dX11_hot_124 : decode cX11_hot 124 = .ok (.goto 4, 3) := by decide +kernel
theorem dX11_hot_127 : decode cX11_hot 127 = .ok (.iconst 0, 1) := by decide +kernel
theorem dX11_hot_128 : decode cX11_hot 128 = .ok (.iadd, 1) := by decide +kernel
theorem dX11_hot_129 : decode cX11_hot 129 = .ok (.istore 7, 2) := by decide +kernel
theorem dX11_hot_131 : decode cX11_hot 131 = .ok (.iinc 8 1, 3) := by decide +kernel
theorem dX11_hot_134 : decode cX11_hot 134 = .ok (.goto (-47), 3) := by decide +kernel
theorem dX11_hot_137 : decode cX11_hot 137 = .ok (.ldc2_w 271, 3) := by decide +kernel
theorem dX11_hot_140 : decode cX11_hot 140 = .ok (.iload 7, 2) := by decide +kernel
theorem dX11_hot_142 : decode cX11_hot 142 = .ok (.i2l, 1) := by decide +kernel
theorem dX11_hot_143 : decode cX11_hot 143 = .ok (.lmul, 1) := by decide +kernel
theorem dX11_hot_144 : decode cX11_hot 144 = .ok (.iload_n 2, 1) := by decide +kernel
theorem dX11_hot_145 : decode cX11_hot 145 = .ok (.i2l, 1) := by decide +kernel
theorem dX11_hot_146 : decode cX11_hot 146 = .ok (.iload 4, 2) := by decide +kernel
theorem dX11_hot_148 : decode cX11_hot 148 = .ok (.i2l, 1) := by decide +kernel
theorem dX11_hot_149 : decode cX11_hot 149 = .ok (.lmul, 1) := by decide +kernel
theorem dX11_hot_150 : decode cX11_hot 150 = .ok (.lcmp, 1) := by decide +kernel
theorem dX11_hot_151 : decode cX11_hot 151 = .ok (.ifCond .lt 8, 3) := by decide +kernel
theorem dX11_hot_154 : decode cX11_hot 154 = .ok (.iload 6, 2) := by decide +kernel
theorem dX11_hot_156 : decode cX11_hot 156 = .ok (.goto 5, 3) := by decide +kernel
theorem dX11_hot_159 : decode cX11_hot 159 = .ok (.iload 5, 2) := by decide +kernel
theorem dX11_hot_161 : decode cX11_hot 161 = .ok (.istore 5, 2) := by decide +kernel
theorem dX11_hot_163 : decode cX11_hot 163 = .ok (.iinc 6 1, 3) := by decide +kernel
theorem dX11_hot_166 : decode cX11_hot 166 = .ok (.goto (-121), 3) := by decide +kernel
theorem dX11_hot_169 : decode cX11_hot 169 = .ok (.iload 5, 2) := by decide +kernel
theorem dX11_hot_171 : decode cX11_hot 171 = .ok (.bipush (-4), 2) := by decide +kernel
theorem dX11_hot_173 : decode cX11_hot 173 = .ok (.if_icmp .ne 8, 3) := by decide +kernel
theorem dX11_hot_176 : decode cX11_hot 176 = .ok (.bipush (-4), 2) := by decide +kernel
theorem dX11_hot_178 : decode cX11_hot 178 = .ok (.goto 17, 3) := by decide +kernel
theorem dX11_hot_181 : decode cX11_hot 181 = .ok (.iload_n 3, 1) := by decide +kernel
theorem dX11_hot_182 : decode cX11_hot 182 = .ok (.ifCond .ne 11, 3) := by decide +kernel
theorem dX11_hot_185 : decode cX11_hot 185 = .ok (.iload 5, 2) := by decide +kernel
theorem dX11_hot_187 : decode cX11_hot 187 = .ok (.invokestatic 273, 3) := by decide +kernel
theorem dX11_hot_190 : decode cX11_hot 190 = .ok (.goto 5, 3) := by decide +kernel
theorem dX11_hot_193 : decode cX11_hot 193 = .ok (.iload 5, 2) := by decide +kernel
theorem dX11_hot_195 : decode cX11_hot 195 = .ok (.ireturn, 1) := by decide +kernel
theorem dX11_keep_0 : decode cX11_keep 0 = .ok (.aload_n 0, 1) := by decide +kernel
theorem dX11_keep_1 : decode cX11_keep 1 = .ok (.aload_n 0, 1) := by decide +kernel
theorem dX11_keep_2 : decode cX11_keep 2 = .ok (.getfield 203, 3) := by decide +kernel
theorem dX11_keep_5 : decode cX11_keep 5 = .ok (.putfield 276, 3) := by decide +kernel
theorem dX11_keep_8 : decode cX11_keep 8 = .ok (.iconst 0, 1) := by decide +kernel
theorem dX11_keep_9 : decode cX11_keep 9 = .ok (.istore_n 1, 1) := by decide +kernel
theorem dX11_keep_10 : decode cX11_keep 10 = .ok (.iload_n 1, 1) := by decide +kernel
theorem dX11_keep_11 : decode cX11_keep 11 = .ok (.bipush 16, 2) := by decide +kernel
theorem dX11_keep_13 : decode cX11_keep 13 = .ok (.if_icmp .ge 59, 3) := by decide +kernel
theorem dX11_keep_16 : decode cX11_keep 16 = .ok (.iconst 0, 1) := by decide +kernel
theorem dX11_keep_17 : decode cX11_keep 17 = .ok (.istore_n 2, 1) := by decide +kernel
theorem dX11_keep_18 : decode cX11_keep 18 = .ok (.iload_n 2, 1) := by decide +kernel
theorem dX11_keep_19 : decode cX11_keep 19 = .ok (.bipush 8, 2) := by decide +kernel
theorem dX11_keep_21 : decode cX11_keep 21 = .ok (.if_icmp .ge 45, 3) := by decide +kernel
theorem dX11_keep_24 : decode cX11_keep 24 = .ok (.aload_n 0, 1) := by decide +kernel
theorem dX11_keep_25 : decode cX11_keep 25 = .ok (.getfield 64, 3) := by decide +kernel
theorem dX11_keep_28 : decode cX11_keep 28 = .ok (.bipush 8, 2) := by decide +kernel
theorem dX11_keep_30 : decode cX11_keep 30 = .ok (.iload_n 1, 1) := by decide +kernel
theorem dX11_keep_31 : decode cX11_keep 31 = .ok (.imul, 1) := by decide +kernel
theorem dX11_keep_32 : decode cX11_keep 32 = .ok (.iload_n 2, 1) := by decide +kernel
theorem dX11_keep_33 : decode cX11_keep 33 = .ok (.iadd, 1) := by decide +kernel
theorem dX11_keep_34 : decode cX11_keep 34 = .ok (.iload_n 1, 1) := by decide +kernel
theorem dX11_keep_35 : decode cX11_keep 35 = .ok (.aload_n 0, 1) := by decide +kernel
theorem dX11_keep_36 : decode cX11_keep 36 = .ok (.getfield 203, 3) := by decide +kernel
theorem dX11_keep_39 : decode cX11_keep 39 = .ok (.if_icmp .ge 19, 3) := by decide +kernel
theorem dX11_keep_42 : decode cX11_keep 42 = .ok (.aload_n 0, 1) := by decide +kernel
theorem dX11_keep_43 : decode cX11_keep 43 = .ok (.getfield 28, 3) := by decide +kernel
theorem dX11_keep_46 : decode cX11_keep 46 = .ok (.iload_n 1, 1) := by decide +kernel
theorem dX11_keep_47 : decode cX11_keep 47 = .ok (.iaload, 1) := by decide +kernel
theorem dX11_keep_48 : decode cX11_keep 48 = .ok (.aload_n 0, 1) := by decide +kernel
theorem dX11_keep_49 : decode cX11_keep 49 = .ok (.iload_n 1, 1) := by decide +kernel
theorem dX11_keep_50 : decode cX11_keep 50 = .ok (.iload_n 2, 1) := by decide +kernel
theorem dX11_keep_51 : decode cX11_keep 51 = .ok (.invokevirtual 251, 3) := by decide +kernel
theorem dX11_keep_54 : decode cX11_keep 54 = .ok (.imul, 1) := by decide +kernel
theorem dX11_keep_55 : decode cX11_keep 55 = .ok (.goto 4, 3) := by decide +kernel
theorem dX11_keep_58 : decode cX11_keep 58 = .ok (.iconst 0, 1) := by decide +kernel
theorem dX11_keep_59 : decode cX11_keep 59 = .ok (.iastore, 1) := by decide +kernel
theorem dX11_keep_60 : decode cX11_keep 60 = .ok (.iinc 2 1, 3) := by decide +kernel
theorem dX11_keep_63 : decode cX11_keep 63 = .ok (.goto (-45), 3) := by decide +kernel
theorem dX11_keep_66 : decode cX11_keep 66 = .ok (.iinc 1 1, 3) := by decide +kernel
theorem dX11_keep_69 : decode cX11_keep 69 = .ok (.goto (-59), 3) := by decide +kernel
theorem dX11_keep_72 : decode cX11_keep 72 = .ok (.aload_n 0, 1) := by decide +kernel
theorem dX11_keep_73 : decode cX11_keep 73 = .ok (.getfield 276, 3) := by decide +kernel
theorem dX11_keep_76 : decode cX11_keep 76 = .ok (.ireturn, 1) := by decide +kernel
theorem dX11_beside_0 : decode cX11_beside 0 = .ok (.iload_n 1, 1) := by decide +kernel
theorem dX11_beside_1 : decode cX11_beside 1 = .ok (.invokestatic 260, 3) := by decide +kernel
theorem dX11_beside_4 : decode cX11_beside 4 = .ok (.ifCond .eq 15, 3) := by decide +kernel
theorem dX11_beside_7 : decode cX11_beside 7 = .ok (.iload_n 2, 1) := by decide +kernel
theorem dX11_beside_8 : decode cX11_beside 8 = .ok (.i2l, 1) := by decide +kernel
theorem dX11_beside_9 : decode cX11_beside 9 = .ok (.lconst 0, 1) := by decide +kernel
theorem dX11_beside_10 : decode cX11_beside 10 = .ok (.ldc2_w 267, 3) := by decide +kernel
theorem dX11_beside_13 : decode cX11_beside 13 = .ok (.invokestatic 124, 3) := by decide +kernel
theorem dX11_beside_16 : decode cX11_beside 16 = .ok (.ifCond .ne 5, 3) := by decide +kernel
theorem dX11_beside_19 : decode cX11_beside 19 = .ok (.iconst (-1), 1) := by decide +kernel
theorem dX11_beside_20 : decode cX11_beside 20 = .ok (.ireturn, 1) := by decide +kernel
theorem dX11_beside_21 : decode cX11_beside 21 = .ok (.iconst 0, 1) := by decide +kernel
theorem dX11_beside_22 : decode cX11_beside 22 = .ok (.istore_n 3, 1) := by decide +kernel
theorem dX11_beside_23 : decode cX11_beside 23 = .ok (.iconst 0, 1) := by decide +kernel
theorem dX11_beside_24 : decode cX11_beside 24 = .ok (.istore 4, 2) := by decide +kernel
theorem dX11_beside_26 : decode cX11_beside 26 = .ok (.iconst 0, 1) := by decide +kernel
theorem dX11_beside_27 : decode cX11_beside 27 = .ok (.istore 5, 2) := by decide +kernel
theorem dX11_beside_29 : decode cX11_beside 29 = .ok (.bipush (-4), 2) := by decide +kernel
theorem dX11_beside_31 : decode cX11_beside 31 = .ok (.istore 6, 2) := by decide +kernel
theorem dX11_beside_33 : decode cX11_beside 33 = .ok (.iconst 0, 1) := by decide +kernel
theorem dX11_beside_34 : decode cX11_beside 34 = .ok (.istore 7, 2) := by decide +kernel
theorem dX11_beside_36 : decode cX11_beside 36 = .ok (.iconst 0, 1) := by decide +kernel
theorem dX11_beside_37 : decode cX11_beside 37 = .ok (.istore 8, 2) := by decide +kernel
theorem dX11_beside_39 : decode cX11_beside 39 = .ok (.iload 8, 2) := by decide +kernel
theorem dX11_beside_41 : decode cX11_beside 41 = .ok (.bipush 16, 2) := by decide +kernel
theorem dX11_beside_43 : decode cX11_beside 43 = .ok (.if_icmp .ge 152, 3) := by decide +kernel
theorem dX11_beside_46 : decode cX11_beside 46 = .ok (.iload 8, 2) := by decide +kernel
theorem dX11_beside_48 : decode cX11_beside 48 = .ok (.aload_n 0, 1) := by decide +kernel
theorem dX11_beside_49 : decode cX11_beside 49 = .ok (.getfield 203, 3) := by decide +kernel
theorem dX11_beside_52 : decode cX11_beside 52 = .ok (.if_icmp .ge 21, 3) := by decide +kernel
theorem dX11_beside_55 : decode cX11_beside 55 = .ok (.aload_n 0, 1) := by decide +kernel
theorem dX11_beside_56 : decode cX11_beside 56 = .ok (.getfield 28, 3) := by decide +kernel
theorem dX11_beside_59 : decode cX11_beside 59 = .ok (.iload 8, 2) := by decide +kernel
theorem dX11_beside_61 : decode cX11_beside 61 = .ok (.iaload, 1) := by decide +kernel
theorem dX11_beside_62 : decode cX11_beside 62 = .ok (.aload_n 0, 1) := by decide +kernel
theorem dX11_beside_63 : decode cX11_beside 63 = .ok (.iload 8, 2) := by decide +kernel
theorem dX11_beside_65 : decode cX11_beside 65 = .ok (.iload_n 1, 1) := by decide +kernel
theorem dX11_beside_66 : decode cX11_beside 66 = .ok (.invokevirtual 251, 3) := by decide +kernel
theorem dX11_beside_69 : decode cX11_beside 69 = .ok (.imul, 1) := by decide +kernel
theorem dX11_beside_70 : decode cX11_beside 70 = .ok (.goto 4, 3) := by decide +kernel
theorem dX11_beside_73 : decode cX11_beside 73 = .ok (.iconst 0, 1) := by decide +kernel
theorem dX11_beside_74 : decode cX11_beside 74 = .ok (.aload_n 0, 1) := by decide +kernel
theorem dX11_beside_75 : decode cX11_beside 75 = .ok (.getfield 64, 3) := by decide +kernel
theorem dX11_beside_78 : decode cX11_beside 78 = .ok (.bipush 8, 2) := by decide +kernel
theorem dX11_beside_80 : decode cX11_beside 80 = .ok (.iload 8, 2) := by decide +kernel
theorem dX11_beside_82 : decode cX11_beside 82 = .ok (.imul, 1) := by decide +kernel
theorem dX11_beside_83 : decode cX11_beside 83 = .ok (.iload_n 1, 1) := by decide +kernel
theorem dX11_beside_84 : decode cX11_beside 84 = .ok (.iadd, 1) := by decide +kernel
theorem dX11_beside_85 : decode cX11_beside 85 = .ok (.iaload, 1) := by decide +kernel
theorem dX11_beside_86 : decode cX11_beside 86 = .ok (.isub, 1) := by decide +kernel
theorem dX11_beside_87 : decode cX11_beside 87 = .ok (.istore 9, 2) := by decide +kernel
theorem dX11_beside_89 : decode cX11_beside 89 = .ok (.iload_n 3, 1) := by decide +kernel
theorem dX11_beside_90 : decode cX11_beside 90 = .ok (.aload_n 0, 1) := by decide +kernel
theorem dX11_beside_91 : decode cX11_beside 91 = .ok (.getfield 64, 3) := by decide +kernel
theorem dX11_beside_94 : decode cX11_beside 94 = .ok (.bipush 8, 2) := by decide +kernel
theorem dX11_beside_96 : decode cX11_beside 96 = .ok (.iload 8, 2) := by decide +kernel
theorem dX11_beside_98 : decode cX11_beside 98 = .ok (.imul, 1) := by decide +kernel
theorem dX11_beside_99 : decode cX11_beside 99 = .ok (.iload_n 1, 1) := by decide +kernel
theorem dX11_beside_100 : decode cX11_beside 100 = .ok (.iadd, 1) := by decide +kernel
theorem dX11_beside_101 : decode cX11_beside 101 = .ok (.iaload, 1) := by decide +kernel
theorem dX11_beside_102 : decode cX11_beside 102 = .ok (.iadd, 1) := by decide +kernel
theorem dX11_beside_103 : decode cX11_beside 103 = .ok (.istore_n 3, 1) := by decide +kernel
theorem dX11_beside_104 : decode cX11_beside 104 = .ok (.iload 4, 2) := by decide +kernel
theorem dX11_beside_106 : decode cX11_beside 106 = .ok (.iload 9, 2) := by decide +kernel
theorem dX11_beside_108 : decode cX11_beside 108 = .ok (.ifCond .le 10, 3) := by decide +kernel
theorem dX11_beside_111 : decode cX11_beside 111 = .ok (.iconst 1, 1) := by decide +kernel
theorem dX11_beside_112 : decode cX11_beside 112 = .ok (.iload 8, 2) := by decide +kernel
theorem dX11_beside_114 : decode cX11_beside 114 = .ok (.ishl, 1) := by decide +kernel
theorem dX11_beside_115 : decode cX11_beside 115 = .ok (.goto 4, 3) := by decide +kernel
theorem dX11_beside_118 : decode cX11_beside 118 = .ok (.iconst 0, 1) := by decide +kernel
theorem dX11_beside_119 : decode cX11_beside 119 = .ok (.ior, 1) := by decide +kernel
theorem dX11_beside_120 : decode cX11_beside 120 = .ok (.istore 4, 2) := by decide +kernel
theorem dX11_beside_122 : decode cX11_beside 122 = .ok (.iload 5, 2) := by decide +kernel
theorem dX11_beside_124 : decode cX11_beside 124 = .ok (.iload 9, 2) := by decide +kernel
theorem dX11_beside_126 : decode cX11_beside 126 = .ok (.ifCond .ge 10, 3) := by decide +kernel
theorem dX11_beside_129 : decode cX11_beside 129 = .ok (.iconst 1, 1) := by decide +kernel
theorem dX11_beside_130 : decode cX11_beside 130 = .ok (.iload 8, 2) := by decide +kernel
theorem dX11_beside_132 : decode cX11_beside 132 = .ok (.ishl, 1) := by decide +kernel
theorem dX11_beside_133 : decode cX11_beside 133 = .ok (.goto 4, 3) := by decide +kernel
theorem dX11_beside_136 : decode cX11_beside 136 = .ok (.iconst 0, 1) := by decide +kernel
theorem dX11_beside_137 : decode cX11_beside 137 = .ok (.ior, 1) := by decide +kernel
theorem dX11_beside_138 : decode cX11_beside 138 = .ok (.istore 5, 2) := by decide +kernel
theorem dX11_beside_140 : decode cX11_beside 140 = .ok (.iload 9, 2) := by decide +kernel
theorem dX11_beside_142 : decode cX11_beside 142 = .ok (.i2l, 1) := by decide +kernel
theorem dX11_beside_143 : decode cX11_beside 143 = .ok (.invokestatic 111, 3) := by decide +kernel
theorem dX11_beside_146 : decode cX11_beside 146 = .ok (.iload 7, 2) := by decide +kernel
theorem dX11_beside_148 : decode cX11_beside 148 = .ok (.i2l, 1) := by decide +kernel
theorem dX11_beside_149 : decode cX11_beside 149 = .ok (.lcmp, 1) := by decide +kernel
theorem dX11_beside_150 : decode cX11_beside 150 = .ok (.ifCond .le 8, 3) := by decide +kernel
theorem dX11_beside_153 : decode cX11_beside 153 = .ok (.iload 8, 2) := by decide +kernel
theorem dX11_beside_155 : decode cX11_beside 155 = .ok (.goto 5, 3) := by decide +kernel
theorem dX11_beside_158 : decode cX11_beside 158 = .ok (.iload 6, 2) := by decide +kernel
theorem dX11_beside_160 : decode cX11_beside 160 = .ok (.istore 6, 2) := by decide +kernel
theorem dX11_beside_162 : decode cX11_beside 162 = .ok (.iload 9, 2) := by decide +kernel
theorem dX11_beside_164 : decode cX11_beside 164 = .ok (.i2l, 1) := by decide +kernel
theorem dX11_beside_165 : decode cX11_beside 165 = .ok (.invokestatic 111, 3) := by decide +kernel
theorem dX11_beside_168 : decode cX11_beside 168 = .ok (.iload 7, 2) := by decide +kernel
theorem dX11_beside_170 : decode cX11_beside 170 = .ok (.i2l, 1) := by decide +kernel
theorem dX11_beside_171 : decode cX11_beside 171 = .ok (.lcmp, 1) := by decide +kernel
theorem dX11_beside_172 : decode cX11_beside 172 = .ok (.ifCond .le 13, 3) := by decide +kernel
theorem dX11_beside_175 : decode cX11_beside 175 = .ok (.iload 9, 2) := by decide +kernel
theorem dX11_beside_177 : decode cX11_beside 177 = .ok (.i2l, 1) := by decide +kernel
theorem dX11_beside_178 : decode cX11_beside 178 = .ok (.invokestatic 111, 3) := by decide +kernel
theorem dX11_beside_181 : decode cX11_beside 181 = .ok (.l2i, 1) := by decide +kernel
theorem dX11_beside_182 : decode cX11_beside 182 = .ok (.goto 5, 3) := by decide +kernel
theorem dX11_beside_185 : decode cX11_beside 185 = .ok (.iload 7, 2) := by decide +kernel
theorem dX11_beside_187 : decode cX11_beside 187 = .ok (.istore 7, 2) := by decide +kernel
theorem dX11_beside_189 : decode cX11_beside 189 = .ok (.iinc 8 1, 3) := by decide +kernel
theorem dX11_beside_192 : decode cX11_beside 192 = .ok (.goto (-153), 3) := by decide +kernel
theorem dX11_beside_195 : decode cX11_beside 195 = .ok (.iload_n 2, 1) := by decide +kernel
theorem dX11_beside_196 : decode cX11_beside 196 = .ok (.ifCond .ne 11, 3) := by decide +kernel
theorem dX11_beside_199 : decode cX11_beside 199 = .ok (.aload_n 0, 1) := by decide +kernel
theorem dX11_beside_200 : decode cX11_beside 200 = .ok (.iload_n 1, 1) := by decide +kernel
theorem dX11_beside_201 : decode cX11_beside 201 = .ok (.invokevirtual 257, 3) := by decide +kernel
theorem dX11_beside_204 : decode cX11_beside 204 = .ok (.goto 34, 3) := by decide +kernel
theorem dX11_beside_207 : decode cX11_beside 207 = .ok (.iload_n 2, 1) := by decide +kernel
theorem dX11_beside_208 : decode cX11_beside 208 = .ok (.iconst 1, 1) := by decide +kernel
theorem dX11_beside_209 : decode cX11_beside 209 = .ok (.if_icmp .ne 7, 3) := by decide +kernel
theorem dX11_beside_212 : decode cX11_beside 212 = .ok (.iload_n 3, 1) := by decide +kernel
theorem dX11_beside_213 : decode cX11_beside 213 = .ok (.goto 25, 3) := by decide +kernel
theorem dX11_beside_216 : decode cX11_beside 216 = .ok (.iload_n 2, 1) := by decide +kernel
theorem dX11_beside_217 : decode cX11_beside 217 = .ok (.iconst 2, 1) := by decide +kernel
theorem dX11_beside_218 : decode cX11_beside 218 = .ok (.if_icmp .ne 8, 3) := by decide +kernel
theorem dX11_beside_221 : decode cX11_beside 221 = .ok (.iload 4, 2) := by decide +kernel
theorem dX11_beside_223 : decode cX11_beside 223 = .ok (.goto 15, 3) := by decide +kernel
theorem dX11_beside_226 : decode cX11_beside 226 = .ok (.iload_n 2, 1) := by decide +kernel
theorem dX11_beside_227 : decode cX11_beside 227 = .ok (.iconst 3, 1) := by decide +kernel
theorem dX11_beside_228 : decode cX11_beside 228 = .ok (.if_icmp .ne 8, 3) := by decide +kernel
theorem dX11_beside_231 : decode cX11_beside 231 = .ok (.iload 5, 2) := by decide +kernel
theorem dX11_beside_233 : decode cX11_beside 233 = .ok (.goto 5, 3) := by decide +kernel
theorem dX11_beside_236 : decode cX11_beside 236 = .ok (.iload 6, 2) := by decide +kernel
theorem dX11_beside_238 : decode cX11_beside 238 = .ok (.ireturn, 1) := by decide +kernel
theorem dX11_freshCounters_0 : decode cX11_freshCounters 0 = .ok (.iconst 0, 1) := by decide +kernel
theorem dX11_freshCounters_1 : decode cX11_freshCounters 1 = .ok (.istore_n 1, 1) := by decide +kernel
theorem dX11_freshCounters_2 : decode cX11_freshCounters 2 = .ok (.iload_n 1, 1) := by decide +kernel
theorem dX11_freshCounters_3 : decode cX11_freshCounters 3 = .ok (.iconst 4, 1) := by decide +kernel
theorem dX11_freshCounters_4 : decode cX11_freshCounters 4 = .ok (.if_icmp .ge 26, 3) := by decide +kernel
theorem dX11_freshCounters_7 : decode cX11_freshCounters 7 = .ok (.aload_n 0, 1) := by decide +kernel
theorem dX11_freshCounters_8 : decode cX11_freshCounters 8 = .ok (.getfield 71, 3) := by decide +kernel
theorem dX11_freshCounters_11 : decode cX11_freshCounters 11 = .ok (.iload_n 1, 1) := by decide +kernel
theorem dX11_freshCounters_12 : decode cX11_freshCounters 12 = .ok (.sipush 255, 3) := by decide +kernel
theorem dX11_freshCounters_15 : decode cX11_freshCounters 15 = .ok (.iastore, 1) := by decide +kernel
theorem dX11_freshCounters_16 : decode cX11_freshCounters 16 = .ok (.aload_n 0, 1) := by decide +kernel
theorem dX11_freshCounters_17 : decode cX11_freshCounters 17 = .ok (.getfield 74, 3) := by decide +kernel
theorem dX11_freshCounters_20 : decode cX11_freshCounters 20 = .ok (.iload_n 1, 1) := by decide +kernel
theorem dX11_freshCounters_21 : decode cX11_freshCounters 21 = .ok (.bipush 8, 2) := by decide +kernel
theorem dX11_freshCounters_23 : decode cX11_freshCounters 23 = .ok (.iastore, 1) := by decide +kernel
theorem dX11_freshCounters_24 : decode cX11_freshCounters 24 = .ok (.iinc 1 1, 3) := by decide +kernel
theorem dX11_freshCounters_27 : decode cX11_freshCounters 27 = .ok (.goto (-25), 3) := by decide +kernel
theorem dX11_freshCounters_30 : decode cX11_freshCounters 30 = .ok (.return_, 1) := by decide +kernel
theorem dX11_isCounter_0 : decode cX11_isCounter 0 = .ok (.iload_n 1, 1) := by decide +kernel
theorem dX11_isCounter_1 : decode cX11_isCounter 1 = .ok (.i2l, 1) := by decide +kernel
theorem dX11_isCounter_2 : decode cX11_isCounter 2 = .ok (.lconst 0, 1) := by decide +kernel
theorem dX11_isCounter_3 : decode cX11_isCounter 3 = .ok (.aload_n 0, 1) := by decide +kernel
theorem dX11_isCounter_4 : decode cX11_isCounter 4 = .ok (.getfield 67, 3) := by decide +kernel
theorem dX11_isCounter_7 : decode cX11_isCounter 7 = .ok (.iconst 1, 1) := by decide +kernel
theorem dX11_isCounter_8 : decode cX11_isCounter 8 = .ok (.isub, 1) := by decide +kernel
theorem dX11_isCounter_9 : decode cX11_isCounter 9 = .ok (.i2l, 1) := by decide +kernel
theorem dX11_isCounter_10 : decode cX11_isCounter 10 = .ok (.invokestatic 124, 3) := by decide +kernel
theorem dX11_isCounter_13 : decode cX11_isCounter 13 = .ok (.ireturn, 1) := by decide +kernel
theorem dX11_counters_0 : decode cX11_counters 0 = .ok (.iload_n 1, 1) := by decide +kernel
theorem dX11_counters_1 : decode cX11_counters 1 = .ok (.i2l, 1) := by decide +kernel
theorem dX11_counters_2 : decode cX11_counters 2 = .ok (.lconst 1, 1) := by decide +kernel
theorem dX11_counters_3 : decode cX11_counters 3 = .ok (.ldc2_w 267, 3) := by decide +kernel
theorem dX11_counters_6 : decode cX11_counters 6 = .ok (.invokestatic 124, 3) := by decide +kernel
theorem dX11_counters_9 : decode cX11_counters 9 = .ok (.ifCond .ne 5, 3) := by decide +kernel
theorem dX11_counters_12 : decode cX11_counters 12 = .ok (.iconst (-1), 1) := by decide +kernel
theorem dX11_counters_13 : decode cX11_counters 13 = .ok (.ireturn, 1) := by decide +kernel
theorem dX11_counters_14 : decode cX11_counters 14 = .ok (.aload_n 0, 1) := by decide +kernel
theorem dX11_counters_15 : decode cX11_counters 15 = .ok (.getfield 67, 3) := by decide +kernel
theorem dX11_counters_18 : decode cX11_counters 18 = .ok (.istore_n 2, 1) := by decide +kernel
theorem dX11_counters_19 : decode cX11_counters 19 = .ok (.aload_n 0, 1) := by decide +kernel
theorem dX11_counters_20 : decode cX11_counters 20 = .ok (.iload_n 1, 1) := by decide +kernel
theorem dX11_counters_21 : decode cX11_counters 21 = .ok (.putfield 67, 3) := by decide +kernel
theorem dX11_counters_24 : decode cX11_counters 24 = .ok (.aload_n 0, 1) := by decide +kernel
theorem dX11_counters_25 : decode cX11_counters 25 = .ok (.invokevirtual 108, 3) := by decide +kernel
theorem dX11_counters_28 : decode cX11_counters 28 = .ok (.aload_n 0, 1) := by decide +kernel
theorem dX11_counters_29 : decode cX11_counters 29 = .ok (.iconst 0, 1) := by decide +kernel
theorem dX11_counters_30 : decode cX11_counters 30 = .ok (.putfield 222, 3) := by decide +kernel
theorem dX11_counters_33 : decode cX11_counters 33 = .ok (.iload_n 2, 1) := by decide +kernel
theorem dX11_counters_34 : decode cX11_counters 34 = .ok (.ireturn, 1) := by decide +kernel
theorem dX11_mask_0 : decode cX11_mask 0 = .ok (.aload_n 0, 1) := by decide +kernel
theorem dX11_mask_1 : decode cX11_mask 1 = .ok (.iload_n 1, 1) := by decide +kernel
theorem dX11_mask_2 : decode cX11_mask 2 = .ok (.invokevirtual 279, 3) := by decide +kernel
theorem dX11_mask_5 : decode cX11_mask 5 = .ok (.ifCond .eq 15, 3) := by decide +kernel
theorem dX11_mask_8 : decode cX11_mask 8 = .ok (.iload_n 2, 1) := by decide +kernel
theorem dX11_mask_9 : decode cX11_mask 9 = .ok (.i2l, 1) := by decide +kernel
theorem dX11_mask_10 : decode cX11_mask 10 = .ok (.lconst 0, 1) := by decide +kernel
theorem dX11_mask_11 : decode cX11_mask 11 = .ok (.ldc2_w 122, 3) := by decide +kernel
theorem dX11_mask_14 : decode cX11_mask 14 = .ok (.invokestatic 124, 3) := by decide +kernel
theorem dX11_mask_17 : decode cX11_mask 17 = .ok (.ifCond .ne 5, 3) := by decide +kernel
theorem dX11_mask_20 : decode cX11_mask 20 = .ok (.iconst (-1), 1) := by decide +kernel
theorem dX11_mask_21 : decode cX11_mask 21 = .ok (.ireturn, 1) := by decide +kernel
theorem dX11_mask_22 : decode cX11_mask 22 = .ok (.aload_n 0, 1) := by decide +kernel
theorem dX11_mask_23 : decode cX11_mask 23 = .ok (.getfield 71, 3) := by decide +kernel
theorem dX11_mask_26 : decode cX11_mask 26 = .ok (.iload_n 1, 1) := by decide +kernel
theorem dX11_mask_27 : decode cX11_mask 27 = .ok (.iaload, 1) := by decide +kernel
theorem dX11_mask_28 : decode cX11_mask 28 = .ok (.istore_n 3, 1) := by decide +kernel
theorem dX11_mask_29 : decode cX11_mask 29 = .ok (.aload_n 0, 1) := by decide +kernel
theorem dX11_mask_30 : decode cX11_mask 30 = .ok (.getfield 71, 3) := by decide +kernel
theorem dX11_mask_33 : decode cX11_mask 33 = .ok (.iload_n 1, 1) := by decide +kernel
theorem dX11_mask_34 : decode cX11_mask 34 = .ok (.iload_n 2, 1) := by decide +kernel
theorem dX11_mask_35 : decode cX11_mask 35 = .ok (.iastore, 1) := by decide +kernel
theorem dX11_mask_36 : decode cX11_mask 36 = .ok (.iload_n 3, 1) := by decide +kernel
theorem dX11_mask_37 : decode cX11_mask 37 = .ok (.ireturn, 1) := by decide +kernel
theorem dX11_width_0 : decode cX11_width 0 = .ok (.aload_n 0, 1) := by decide +kernel
theorem dX11_width_1 : decode cX11_width 1 = .ok (.iload_n 1, 1) := by decide +kernel
theorem dX11_width_2 : decode cX11_width 2 = .ok (.invokevirtual 279, 3) := by decide +kernel
theorem dX11_width_5 : decode cX11_width 5 = .ok (.ifCond .eq 17, 3) := by decide +kernel
theorem dX11_width_8 : decode cX11_width 8 = .ok (.iload_n 2, 1) := by decide +kernel
theorem dX11_width_9 : decode cX11_width 9 = .ok (.i2l, 1) := by decide +kernel
theorem dX11_width_10 : decode cX11_width 10 = .ok (.ldc2_w 282, 3) := by decide +kernel
theorem dX11_width_13 : decode cX11_width 13 = .ok (.ldc2_w 284, 3) := by decide +kernel
theorem dX11_width_16 : decode cX11_width 16 = .ok (.invokestatic 124, 3) := by decide +kernel
theorem dX11_width_19 : decode cX11_width 19 = .ok (.ifCond .ne 5, 3) := by decide +kernel
theorem dX11_width_22 : decode cX11_width 22 = .ok (.iconst (-1), 1) := by decide +kernel
theorem dX11_width_23 : decode cX11_width 23 = .ok (.ireturn, 1) := by decide +kernel
theorem dX11_width_24 : decode cX11_width 24 = .ok (.aload_n 0, 1) := by decide +kernel
theorem dX11_width_25 : decode cX11_width 25 = .ok (.getfield 74, 3) := by decide +kernel
theorem dX11_width_28 : decode cX11_width 28 = .ok (.iload_n 1, 1) := by decide +kernel
theorem dX11_width_29 : decode cX11_width 29 = .ok (.iaload, 1) := by decide +kernel
theorem dX11_width_30 : decode cX11_width 30 = .ok (.istore_n 3, 1) := by decide +kernel
theorem dX11_width_31 : decode cX11_width 31 = .ok (.aload_n 0, 1) := by decide +kernel
theorem dX11_width_32 : decode cX11_width 32 = .ok (.getfield 74, 3) := by decide +kernel
theorem dX11_width_35 : decode cX11_width 35 = .ok (.iload_n 1, 1) := by decide +kernel
theorem dX11_width_36 : decode cX11_width 36 = .ok (.iload_n 2, 1) := by decide +kernel
theorem dX11_width_37 : decode cX11_width 37 = .ok (.iastore, 1) := by decide +kernel
theorem dX11_width_38 : decode cX11_width 38 = .ok (.iload_n 3, 1) := by decide +kernel
theorem dX11_width_39 : decode cX11_width 39 = .ok (.ireturn, 1) := by decide +kernel
theorem dX11_wayOf_0 : decode cX11_wayOf 0 = .ok (.iload_n 1, 1) := by decide +kernel
theorem dX11_wayOf_1 : decode cX11_wayOf 1 = .ok (.invokestatic 273, 3) := by decide +kernel
theorem dX11_wayOf_4 : decode cX11_wayOf 4 = .ok (.istore_n 2, 1) := by decide +kernel
theorem dX11_wayOf_5 : decode cX11_wayOf 5 = .ok (.iload_n 2, 1) := by decide +kernel
theorem dX11_wayOf_6 : decode cX11_wayOf 6 = .ok (.aload_n 0, 1) := by decide +kernel
theorem dX11_wayOf_7 : decode cX11_wayOf 7 = .ok (.getfield 67, 3) := by decide +kernel
theorem dX11_wayOf_10 : decode cX11_wayOf 10 = .ok (.if_icmp .le 6, 3) := by decide +kernel
theorem dX11_wayOf_13 : decode cX11_wayOf 13 = .ok (.bipush (-4), 2) := by decide +kernel
theorem dX11_wayOf_15 : decode cX11_wayOf 15 = .ok (.ireturn, 1) := by decide +kernel
theorem dX11_wayOf_16 : decode cX11_wayOf 16 = .ok (.iconst 0, 1) := by decide +kernel
theorem dX11_wayOf_17 : decode cX11_wayOf 17 = .ok (.istore_n 3, 1) := by decide +kernel
theorem dX11_wayOf_18 : decode cX11_wayOf 18 = .ok (.iload_n 3, 1) := by decide +kernel
theorem dX11_wayOf_19 : decode cX11_wayOf 19 = .ok (.iconst 1, 1) := by decide +kernel
theorem dX11_wayOf_20 : decode cX11_wayOf 20 = .ok (.iconst 2, 1) := by decide +kernel
theorem dX11_wayOf_21 : decode cX11_wayOf 21 = .ok (.iload_n 2, 1) := by decide +kernel
theorem dX11_wayOf_22 : decode cX11_wayOf 22 = .ok (.imul, 1) := by decide +kernel
theorem dX11_wayOf_23 : decode cX11_wayOf 23 = .ok (.ishl, 1) := by decide +kernel
theorem dX11_wayOf_24 : decode cX11_wayOf 24 = .ok (.if_icmp .ge 120, 3) := by decide +kernel
theorem dX11_wayOf_27 : decode cX11_wayOf 27 = .ok (.iconst 0, 1) := by decide +kernel
theorem dX11_wayOf_28 : decode cX11_wayOf 28 = .ok (.istore 4, 2) := by decide +kernel
theorem dX11_wayOf_30 : decode cX11_wayOf 30 = .ok (.iload_n 2, 1) := by decide +kernel
theorem dX11_wayOf_31 : decode cX11_wayOf 31 = .ok (.istore 5, 2) := by decide +kernel
theorem dX11_wayOf_33 : decode cX11_wayOf 33 = .ok (.iconst 1, 1) := by decide +kernel
theorem dX11_wayOf_34 : decode cX11_wayOf 34 = .ok (.istore 6, 2) := by decide +kernel
theorem dX11_wayOf_36 : decode cX11_wayOf 36 = .ok (.iconst 0, 1) := by decide +kernel
theorem dX11_wayOf_37 : decode cX11_wayOf 37 = .ok (.istore 7, 2) := by decide +kernel
theorem dX11_wayOf_39 : decode cX11_wayOf 39 = .ok (.iload 7, 2) := by decide +kernel
theorem dX11_wayOf_41 : decode cX11_wayOf 41 = .ok (.bipush 8, 2) := by decide +kernel
theorem dX11_wayOf_43 : decode cX11_wayOf 43 = .ok (.if_icmp .ge 88, 3) := by decide +kernel
theorem dX11_wayOf_46 : decode cX11_wayOf 46 = .ok (.iload_n 1, 1) := by decide +kernel
theorem dX11_wayOf_47 : decode cX11_wayOf 47 = .ok (.iload 7, 2) := by decide +kernel
theorem dX11_wayOf_49 : decode cX11_wayOf 49 = .ok (.ishr, 1) := by decide +kernel
theorem dX11_wayOf_50 : decode cX11_wayOf 50 = .ok (.iconst 1, 1) := by decide +kernel
theorem dX11_wayOf_51 : decode cX11_wayOf 51 = .ok (.iand, 1) := by decide +kernel
theorem dX11_wayOf_52 : decode cX11_wayOf 52 = .ok (.iconst 1, 1) := by decide +kernel
theorem dX11_wayOf_53 : decode cX11_wayOf 53 = .ok (.if_icmp .ne 72, 3) := by decide +kernel
theorem dX11_wayOf_56 : decode cX11_wayOf 56 = .ok (.iinc 5 (-1), 3) := by decide +kernel
theorem dX11_wayOf_59 : decode cX11_wayOf 59 = .ok (.iload_n 3, 1) := by decide +kernel
theorem dX11_wayOf_60 : decode cX11_wayOf 60 = .ok (.iconst 2, 1) := by decide +kernel
theorem dX11_wayOf_61 : decode cX11_wayOf 61 = .ok (.iload 5, 2) := by decide +kernel
theorem dX11_wayOf_63 : decode cX11_wayOf 63 = .ok (.imul, 1) := by decide +kernel
theorem dX11_wayOf_64 : decode cX11_wayOf 64 = .ok (.ishr, 1) := by decide +kernel
theorem dX11_wayOf_65 : decode cX11_wayOf 65 = .ok (.iconst 3, 1) := by decide +kernel
theorem dX11_wayOf_66 : decode cX11_wayOf 66 = .ok (.iand, 1) := by decide +kernel
theorem dX11_wayOf_67 : decode cX11_wayOf 67 = .ok (.istore 8, 2) := by decide +kernel
theorem dX11_wayOf_69 : decode cX11_wayOf 69 = .ok (.iload 6, 2) := by decide +kernel
theorem dX11_wayOf_71 : decode cX11_wayOf 71 = .ok (.ifCond .eq 42, 3) := by decide +kernel
theorem dX11_wayOf_74 : decode cX11_wayOf 74 = .ok (.iload 8, 2) := by decide +kernel
theorem dX11_wayOf_76 : decode cX11_wayOf 76 = .ok (.aload_n 0, 1) := by decide +kernel
theorem dX11_wayOf_77 : decode cX11_wayOf 77 = .ok (.getfield 67, 3) := by decide +kernel
theorem dX11_wayOf_80 : decode cX11_wayOf 80 = .ok (.if_icmp .ge 33, 3) := by decide +kernel
theorem dX11_wayOf_83 : decode cX11_wayOf 83 = .ok (.iload 4, 2) := by decide +kernel
theorem dX11_wayOf_85 : decode cX11_wayOf 85 = .ok (.iload 8, 2) := by decide +kernel
theorem dX11_wayOf_87 : decode cX11_wayOf 87 = .ok (.ishr, 1) := by decide +kernel
theorem dX11_wayOf_88 : decode cX11_wayOf 88 = .ok (.iconst 1, 1) := by decide +kernel
theorem dX11_wayOf_89 : decode cX11_wayOf 89 = .ok (.iand, 1) := by decide +kernel
theorem dX11_wayOf_90 : decode cX11_wayOf 90 = .ok (.ifCond .ne 23, 3) := by decide +kernel
theorem dX11_wayOf_93 : decode cX11_wayOf 93 = .ok (.aload_n 0, 1) := by decide +kernel
theorem dX11_wayOf_94 : decode cX11_wayOf 94 = .ok (.getfield 71, 3) := by decide +kernel
theorem dX11_wayOf_97 : decode cX11_wayOf 97 = .ok (.iload 8, 2) := by decide +kernel
theorem dX11_wayOf_99 : decode cX11_wayOf 99 = .ok (.iaload, 1) := by decide +kernel
theorem dX11_wayOf_100 : decode cX11_wayOf 100 = .ok (.iload 7, 2) := by decide +kernel
theorem dX11_wayOf_102 : decode cX11_wayOf 102 = .ok (.ishr, 1) := by decide +kernel
theorem dX11_wayOf_103 : decode cX11_wayOf 103 = .ok (.iconst 1, 1) := by decide +kernel
theorem dX11_wayOf_104 : decode cX11_wayOf 104 = .ok (.iand, 1) := by decide +kernel
theorem dX11_wayOf_105 : decode cX11_wayOf 105 = .ok (.iconst 1, 1) := by decide +kernel
theorem dX11_wayOf_106 : decode cX11_wayOf 106 = .ok (.if_icmp .ne 7, 3) := by decide +kernel
theorem dX11_wayOf_109 : decode cX11_wayOf 109 = .ok (.iconst 1, 1) := by decide +kernel
theorem dX11_wayOf_110 : decode cX11_wayOf 110 = .ok (.goto 4, 3) := by decide +kernel
theorem dX11_wayOf_113 : decode cX11_wayOf 113 = .ok (.iconst 0, 1) := by decide +kernel
theorem dX11_wayOf_114 : decode cX11_wayOf 114 = .ok (.istore 6, 2) := by decide +kernel
theorem dX11_wayOf_116 : decode cX11_wayOf 116 = .ok (.iload 4, 2) := by decide +kernel
theorem dX11_wayOf_118 : decode cX11_wayOf 118 = .ok (.iconst 1, 1) := by decide +kernel
theorem dX11_wayOf_119 : decode cX11_wayOf 119 = .ok (.iload 8, 2) := by decide +kernel
theorem dX11_wayOf_121 : decode cX11_wayOf 121 = .ok (.ishl, 1) := by decide +kernel
theorem dX11_wayOf_122 : decode cX11_wayOf 122 = .ok (.ior, 1) := by decide +kernel
theorem dX11_wayOf_123 : decode cX11_wayOf 123 = .ok (.istore 4, 2) := by decide +kernel
theorem dX11_wayOf_125 : decode cX11_wayOf 125 = .ok (.iinc 7 1, 3) := by decide +kernel
theorem dX11_wayOf_128 : decode cX11_wayOf 128 = .ok (.goto (-89), 3) := by decide +kernel
theorem dX11_wayOf_131 : decode cX11_wayOf 131 = .ok (.iload 6, 2) := by decide +kernel
theorem dX11_wayOf_133 : decode cX11_wayOf 133 = .ok (.ifCond .eq 5, 3) := by decide +kernel
theorem dX11_wayOf_136 : decode cX11_wayOf 136 = .ok (.iload_n 3, 1) := by decide +kernel
theorem dX11_wayOf_137 : decode cX11_wayOf 137 = .ok (.ireturn, 1) := by decide +kernel
theorem dX11_wayOf_138 : decode cX11_wayOf 138 = .ok (.iinc 3 1, 3) := by decide +kernel
theorem dX11_wayOf_141 : decode cX11_wayOf 141 = .ok (.goto (-123), 3) := by decide +kernel
theorem dX11_wayOf_144 : decode cX11_wayOf 144 = .ok (.bipush (-4), 2) := by decide +kernel
theorem dX11_wayOf_146 : decode cX11_wayOf 146 = .ok (.ireturn, 1) := by decide +kernel
theorem dX11_areEvents_0 : decode cX11_areEvents 0 = .ok (.iload_n 0, 1) := by decide +kernel
theorem dX11_areEvents_1 : decode cX11_areEvents 1 = .ok (.i2l, 1) := by decide +kernel
theorem dX11_areEvents_2 : decode cX11_areEvents 2 = .ok (.lconst 0, 1) := by decide +kernel
theorem dX11_areEvents_3 : decode cX11_areEvents 3 = .ok (.ldc2_w 122, 3) := by decide +kernel
theorem dX11_areEvents_6 : decode cX11_areEvents 6 = .ok (.invokestatic 124, 3) := by decide +kernel
theorem dX11_areEvents_9 : decode cX11_areEvents 9 = .ok (.ireturn, 1) := by decide +kernel
theorem dX11_together_0 : decode cX11_together 0 = .ok (.iload_n 1, 1) := by decide +kernel
theorem dX11_together_1 : decode cX11_together 1 = .ok (.invokestatic 286, 3) := by decide +kernel
theorem dX11_together_4 : decode cX11_together 4 = .ok (.ifCond .ne 7, 3) := by decide +kernel
theorem dX11_together_7 : decode cX11_together 7 = .ok (.iconst (-1), 1) := by decide +kernel
theorem dX11_together_8 : decode cX11_together 8 = .ok (.goto 18, 3) := by decide +kernel
theorem dX11_together_11 : decode cX11_together 11 = .ok (.aload_n 0, 1) := by decide +kernel
theorem dX11_together_12 : decode cX11_together 12 = .ok (.iload_n 1, 1) := by decide +kernel
theorem dX11_together_13 : decode cX11_together 13 = .ok (.invokevirtual 289, 3) := by decide +kernel
theorem dX11_together_16 : decode cX11_together 16 = .ok (.bipush (-4), 2) := by decide +kernel
theorem dX11_together_18 : decode cX11_together 18 = .ok (.if_icmp .ne 7, 3) := by decide +kernel
theorem dX11_together_21 : decode cX11_together 21 = .ok (.iconst 0, 1) := by decide +kernel
theorem dX11_together_22 : decode cX11_together 22 = .ok (.goto 4, 3) := by decide +kernel
theorem dX11_together_25 : decode cX11_together 25 = .ok (.iconst 1, 1) := by decide +kernel
theorem dX11_together_26 : decode cX11_together 26 = .ok (.ireturn, 1) := by decide +kernel
theorem dX11_goes_0 : decode cX11_goes 0 = .ok (.iload_n 1, 1) := by decide +kernel
theorem dX11_goes_1 : decode cX11_goes 1 = .ok (.invokestatic 286, 3) := by decide +kernel
theorem dX11_goes_4 : decode cX11_goes 4 = .ok (.ifCond .eq 18, 3) := by decide +kernel
theorem dX11_goes_7 : decode cX11_goes 7 = .ok (.iload_n 2, 1) := by decide +kernel
theorem dX11_goes_8 : decode cX11_goes 8 = .ok (.invokestatic 260, 3) := by decide +kernel
theorem dX11_goes_11 : decode cX11_goes 11 = .ok (.ifCond .eq 11, 3) := by decide +kernel
theorem dX11_goes_14 : decode cX11_goes 14 = .ok (.iload_n 1, 1) := by decide +kernel
theorem dX11_goes_15 : decode cX11_goes 15 = .ok (.iload_n 2, 1) := by decide +kernel
theorem dX11_goes_16 : decode cX11_goes 16 = .ok (.ishr, 1) := by decide +kernel
theorem dX11_goes_17 : decode cX11_goes 17 = .ok (.iconst 1, 1) := by decide +kernel
theorem dX11_goes_18 : decode cX11_goes 18 = .ok (.iand, 1) := by decide +kernel
theorem dX11_goes_19 : decode cX11_goes 19 = .ok (.ifCond .ne 5, 3) := by decide +kernel
theorem dX11_goes_22 : decode cX11_goes 22 = .ok (.iconst (-1), 1) := by decide +kernel
theorem dX11_goes_23 : decode cX11_goes 23 = .ok (.ireturn, 1) := by decide +kernel
theorem dX11_goes_24 : decode cX11_goes 24 = .ok (.aload_n 0, 1) := by decide +kernel
theorem dX11_goes_25 : decode cX11_goes 25 = .ok (.iload_n 1, 1) := by decide +kernel
theorem dX11_goes_26 : decode cX11_goes 26 = .ok (.invokevirtual 289, 3) := by decide +kernel
theorem dX11_goes_29 : decode cX11_goes 29 = .ok (.istore_n 3, 1) := by decide +kernel
theorem dX11_goes_30 : decode cX11_goes 30 = .ok (.iload_n 3, 1) := by decide +kernel
theorem dX11_goes_31 : decode cX11_goes 31 = .ok (.bipush (-4), 2) := by decide +kernel
theorem dX11_goes_33 : decode cX11_goes 33 = .ok (.if_icmp .ne 8, 3) := by decide +kernel
theorem dX11_goes_36 : decode cX11_goes 36 = .ok (.bipush (-4), 2) := by decide +kernel
theorem dX11_goes_38 : decode cX11_goes 38 = .ok (.goto 17, 3) := by decide +kernel
theorem dX11_goes_41 : decode cX11_goes 41 = .ok (.iload_n 3, 1) := by decide +kernel
theorem dX11_goes_42 : decode cX11_goes 42 = .ok (.iconst 2, 1) := by decide +kernel
theorem dX11_goes_43 : decode cX11_goes 43 = .ok (.iload_n 1, 1) := by decide +kernel
theorem dX11_goes_44 : decode cX11_goes 44 = .ok (.iload_n 2, 1) := by decide +kernel
theorem dX11_goes_45 : decode cX11_goes 45 = .ok (.iconst 1, 1) := by decide +kernel
theorem dX11_goes_46 : decode cX11_goes 46 = .ok (.iadd, 1) := by decide +kernel
theorem dX11_goes_47 : decode cX11_goes 47 = .ok (.ishr, 1) := by decide +kernel
theorem dX11_goes_48 : decode cX11_goes 48 = .ok (.invokestatic 273, 3) := by decide +kernel
theorem dX11_goes_51 : decode cX11_goes 51 = .ok (.imul, 1) := by decide +kernel
theorem dX11_goes_52 : decode cX11_goes 52 = .ok (.ishr, 1) := by decide +kernel
theorem dX11_goes_53 : decode cX11_goes 53 = .ok (.iconst 3, 1) := by decide +kernel
theorem dX11_goes_54 : decode cX11_goes 54 = .ok (.iand, 1) := by decide +kernel
theorem dX11_goes_55 : decode cX11_goes 55 = .ok (.ireturn, 1) := by decide +kernel
theorem dX11_findRounds_0 : decode cX11_findRounds 0 = .ok (.iconst 0, 1) := by decide +kernel
theorem dX11_findRounds_1 : decode cX11_findRounds 1 = .ok (.istore_n 2, 1) := by decide +kernel
theorem dX11_findRounds_2 : decode cX11_findRounds 2 = .ok (.iload_n 2, 1) := by decide +kernel
theorem dX11_findRounds_3 : decode cX11_findRounds 3 = .ok (.sipush 256, 3) := by decide +kernel
theorem dX11_findRounds_6 : decode cX11_findRounds 6 = .ok (.if_icmp .ge 30, 3) := by decide +kernel
theorem dX11_findRounds_9 : decode cX11_findRounds 9 = .ok (.aload_n 0, 1) := by decide +kernel
theorem dX11_findRounds_10 : decode cX11_findRounds 10 = .ok (.getfield 80, 3) := by decide +kernel
theorem dX11_findRounds_13 : decode cX11_findRounds 13 = .ok (.iload_n 2, 1) := by decide +kernel
theorem dX11_findRounds_14 : decode cX11_findRounds 14 = .ok (.aload_n 0, 1) := by decide +kernel
theorem dX11_findRounds_15 : decode cX11_findRounds 15 = .ok (.iload_n 2, 1) := by decide +kernel
theorem dX11_findRounds_16 : decode cX11_findRounds 16 = .ok (.invokevirtual 289, 3) := by decide +kernel
theorem dX11_findRounds_19 : decode cX11_findRounds 19 = .ok (.bipush (-4), 2) := by decide +kernel
theorem dX11_findRounds_21 : decode cX11_findRounds 21 = .ok (.if_icmp .eq 7, 3) := by decide +kernel
theorem dX11_findRounds_24 : decode cX11_findRounds 24 = .ok (.iconst 1, 1) := by decide +kernel
theorem dX11_findRounds_25 : decode cX11_findRounds 25 = .ok (.goto 4, 3) := by decide +kernel
theorem dX11_findRounds_28 : decode cX11_findRounds 28 = .ok (.iconst 0, 1) := by decide +kernel
theorem dX11_findRounds_29 : decode cX11_findRounds 29 = .ok (.bastore, 1) := by decide +kernel
theorem dX11_findRounds_30 : decode cX11_findRounds 30 = .ok (.iinc 2 1, 3) := by decide +kernel
theorem dX11_findRounds_33 : decode cX11_findRounds 33 = .ok (.goto (-31), 3) := by decide +kernel
theorem dX11_findRounds_36 : decode cX11_findRounds 36 = .ok (.aload_n 0, 1) := by decide +kernel
theorem dX11_findRounds_37 : decode cX11_findRounds 37 = .ok (.getfield 77, 3) := by decide +kernel
theorem dX11_findRounds_40 : decode cX11_findRounds 40 = .ok (.iconst 0, 1) := by decide +kernel
theorem dX11_findRounds_41 : decode cX11_findRounds 41 = .ok (.iconst 0, 1) := by decide +kernel
theorem dX11_findRounds_42 : decode cX11_findRounds 42 = .ok (.iastore, 1) := by decide +kernel
theorem dX11_findRounds_43 : decode cX11_findRounds 43 = .ok (.iconst 1, 1) := by decide +kernel
theorem dX11_findRounds_44 : decode cX11_findRounds 44 = .ok (.istore_n 2, 1) := by decide +kernel
theorem dX11_findRounds_45 : decode cX11_findRounds 45 = .ok (.iload_n 2, 1) := by decide +kernel
theorem dX11_findRounds_46 : decode cX11_findRounds 46 = .ok (.sipush 256, 3) := by decide +kernel
theorem dX11_findRounds_49 : decode cX11_findRounds 49 = .ok (.if_icmp .ge 125, 3) := by decide +kernel
theorem dX11_findRounds_52 : decode cX11_findRounds 52 = .ok (.aload_n 0, 1) := by decide +kernel
theorem dX11_findRounds_53 : decode cX11_findRounds 53 = .ok (.getfield 77, 3) := by decide +kernel
theorem dX11_findRounds_56 : decode cX11_findRounds 56 = .ok (.iload_n 2, 1) := by decide +kernel
theorem dX11_findRounds_57 : decode cX11_findRounds 57 = .ok (.bipush 99, 2) := by decide +kernel
theorem dX11_findRounds_59 : decode cX11_findRounds 59 = .ok (.iastore, 1) := by decide +kernel
theorem dX11_findRounds_60 : decode cX11_findRounds 60 = .ok (.iload_n 2, 1) := by decide +kernel
theorem dX11_findRounds_61 : decode cX11_findRounds 61 = .ok (.iload_n 2, 1) := by decide +kernel
theorem dX11_findRounds_62 : decode cX11_findRounds 62 = .ok (.ineg, 1) := by decide +kernel
theorem dX11_findRounds_63 : decode cX11_findRounds 63 = .ok (.iand, 1) := by decide +kernel
theorem dX11_findRounds_64 : decode cX11_findRounds 64 = .ok (.istore_n 3, 1) := by decide +kernel
theorem dX11_findRounds_65 : decode cX11_findRounds 65 = .ok (.iconst 1, 1) := by decide +kernel
theorem dX11_findRounds_66 : decode cX11_findRounds 66 = .ok (.istore 4, 2) := by decide +kernel
theorem dX11_findRounds_68 : decode cX11_findRounds 68 = .ok (.iload 4, 2) := by decide +kernel
theorem dX11_findRounds_70 : decode cX11_findRounds 70 = .ok (.iload_n 2, 1) := by decide +kernel
theorem dX11_findRounds_71 : decode cX11_findRounds 71 = .ok (.if_icmp .gt 97, 3) := by decide +kernel
theorem dX11_findRounds_74 : decode cX11_findRounds 74 = .ok (.iload 4, 2) := by decide +kernel
theorem dX11_findRounds_76 : decode cX11_findRounds 76 = .ok (.iload_n 2, 1) := by decide +kernel
theorem dX11_findRounds_77 : decode cX11_findRounds 77 = .ok (.iconst (-1), 1) := by decide +kernel
theorem dX11_findRounds_78 : decode cX11_findRounds 78 = .ok (.ixor, 1) := by decide +kernel
theorem dX11_findRounds_79 : decode cX11_findRounds 79 = .ok (.iand, 1) := by decide +kernel
theorem dX11_findRounds_80 : decode cX11_findRounds 80 = .ok (.ifCond .ne 24, 3) := by decide +kernel
theorem dX11_findRounds_83 : decode cX11_findRounds 83 = .ok (.iload 4, 2) := by decide +kernel
theorem dX11_findRounds_85 : decode cX11_findRounds 85 = .ok (.iload_n 3, 1) := by decide +kernel
theorem dX11_findRounds_86 : decode cX11_findRounds 86 = .ok (.iand, 1) := by decide +kernel
theorem dX11_findRounds_87 : decode cX11_findRounds 87 = .ok (.ifCond .eq 17, 3) := by decide +kernel
theorem dX11_findRounds_90 : decode cX11_findRounds 90 = .ok (.aload_n 0, 1) := by decide +kernel
theorem dX11_findRounds_91 : decode cX11_findRounds 91 = .ok (.getfield 80, 3) := by decide +kernel
theorem dX11_findRounds_94 : decode cX11_findRounds 94 = .ok (.iload 4, 2) := by decide +kernel
theorem dX11_findRounds_96 : decode cX11_findRounds 96 = .ok (.baload, 1) := by decide +kernel
theorem dX11_findRounds_97 : decode cX11_findRounds 97 = .ok (.ifCond .eq 7, 3) := by decide +kernel
theorem dX11_findRounds_100 : decode cX11_findRounds 100 = .ok (.iconst 1, 1) := by decide +kernel
theorem dX11_findRounds_101 : decode cX11_findRounds 101 = .ok (.goto 4, 3) := by decide +kernel
theorem dX11_findRounds_104 : decode cX11_findRounds 104 = .ok (.iconst 0, 1) := by decide +kernel
theorem dX11_findRounds_105 : decode cX11_findRounds 105 = .ok (.istore 5, 2) := by decide +kernel
theorem dX11_findRounds_107 : decode cX11_findRounds 107 = .ok (.aload_n 0, 1) := by decide +kernel
theorem dX11_findRounds_108 : decode cX11_findRounds 108 = .ok (.getfield 77, 3) := by decide +kernel
theorem dX11_findRounds_111 : decode cX11_findRounds 111 = .ok (.iload_n 2, 1) := by decide +kernel
theorem dX11_findRounds_112 : decode cX11_findRounds 112 = .ok (.iload 5, 2) := by decide +kernel
theorem dX11_findRounds_114 : decode cX11_findRounds 114 = .ok (.ifCond .eq 41, 3) := by decide +kernel
theorem dX11_findRounds_117 : decode cX11_findRounds 117 = .ok (.aload_n 0, 1) := by decide +kernel
theorem dX11_findRounds_118 : decode cX11_findRounds 118 = .ok (.getfield 77, 3) := by decide +kernel
theorem dX11_findRounds_121 : decode cX11_findRounds 121 = .ok (.iload_n 2, 1) := by decide +kernel
theorem dX11_findRounds_122 : decode cX11_findRounds 122 = .ok (.iload 4, 2) := by decide +kernel
theorem dX11_findRounds_124 : decode cX11_findRounds 124 = .ok (.iconst (-1), 1) := by decide +kernel
theorem dX11_findRounds_125 : decode cX11_findRounds 125 = .ok (.ixor, 1) := by decide +kernel
theorem dX11_findRounds_126 : decode cX11_findRounds 126 = .ok (.iand, 1) := by decide +kernel
theorem dX11_findRounds_127 : decode cX11_findRounds 127 = .ok (.iaload, 1) := by decide +kernel
theorem dX11_findRounds_128 : decode cX11_findRounds 128 = .ok (.iconst 1, 1) := by decide +kernel
theorem dX11_findRounds_129 : decode cX11_findRounds 129 = .ok (.iadd, 1) := by decide +kernel
theorem dX11_findRounds_130 : decode cX11_findRounds 130 = .ok (.aload_n 0, 1) := by decide +kernel
theorem dX11_findRounds_131 : decode cX11_findRounds 131 = .ok (.getfield 77, 3) := by decide +kernel
theorem dX11_findRounds_134 : decode cX11_findRounds 134 = .ok (.iload_n 2, 1) := by decide +kernel
theorem dX11_findRounds_135 : decode cX11_findRounds 135 = .ok (.iaload, 1) := by decide +kernel
theorem dX11_findRounds_136 : decode cX11_findRounds 136 = .ok (.if_icmp .ge 19, 3) := by decide +kernel
theorem dX11_findRounds_139 : decode cX11_findRounds 139 = .ok (.aload_n 0, 1) := by decide +kernel
theorem dX11_findRounds_140 : decode cX11_findRounds 140 = .ok (.getfield 77, 3) := by decide +kernel
theorem dX11_findRounds_143 : decode cX11_findRounds 143 = .ok (.iload_n 2, 1) := by decide +kernel
theorem dX11_findRounds_144 : decode cX11_findRounds 144 = .ok (.iload 4, 2) := by decide +kernel
theorem dX11_findRounds_146 : decode cX11_findRounds 146 = .ok (.iconst (-1), 1) := by decide +kernel
theorem dX11_findRounds_147 : decode cX11_findRounds 147 = .ok (.ixor, 1) := by decide +kernel
theorem dX11_findRounds_148 : decode cX11_findRounds 148 = .ok (.iand, 1) := by decide +kernel
theorem dX11_findRounds_149 : decode cX11_findRounds 149 = .ok (.iaload, 1) := by decide +kernel
theorem dX11_findRounds_150 : decode cX11_findRounds 150 = .ok (.iconst 1, 1) := by decide +kernel
theorem dX11_findRounds_151 : decode cX11_findRounds 151 = .ok (.iadd, 1) := by decide +kernel
theorem dX11_findRounds_152 : decode cX11_findRounds 152 = .ok (.goto 9, 3) := by decide +kernel
theorem dX11_findRounds_155 : decode cX11_findRounds 155 = .ok (.aload_n 0, 1) := by decide +kernel
theorem dX11_findRounds_156 : decode cX11_findRounds 156 = .ok (.getfield 77, 3) := by decide +kernel
theorem dX11_findRounds_159 : decode cX11_findRounds 159 = .ok (.iload_n 2, 1) := by decide +kernel
theorem dX11_findRounds_160 : decode cX11_findRounds 160 = .ok (.iaload, 1) := by decide +kernel
theorem dX11_findRounds_161 : decode cX11_findRounds 161 = .ok (.iastore, 1) := by decide +kernel
theorem dX11_findRounds_162 : decode cX11_findRounds 162 = .ok (.iinc 4 1, 3) := by decide +kernel
theorem dX11_findRounds_165 : decode cX11_findRounds 165 = .ok (.goto (-97), 3) := by decide +kernel
theorem dX11_findRounds_168 : decode cX11_findRounds 168 = .ok (.iinc 2 1, 3) := by decide +kernel
theorem dX11_findRounds_171 : decode cX11_findRounds 171 = .ok (.goto (-126), 3) := by decide +kernel
theorem dX11_findRounds_174 : decode cX11_findRounds 174 = .ok (.aload_n 0, 1) := by decide +kernel
theorem dX11_findRounds_175 : decode cX11_findRounds 175 = .ok (.aload_n 0, 1) := by decide +kernel
theorem dX11_findRounds_176 : decode cX11_findRounds 176 = .ok (.getfield 77, 3) := by decide +kernel
theorem dX11_findRounds_179 : decode cX11_findRounds 179 = .ok (.iload_n 1, 1) := by decide +kernel
theorem dX11_findRounds_180 : decode cX11_findRounds 180 = .ok (.iaload, 1) := by decide +kernel
theorem dX11_findRounds_181 : decode cX11_findRounds 181 = .ok (.bipush 99, 2) := by decide +kernel
theorem dX11_findRounds_183 : decode cX11_findRounds 183 = .ok (.if_icmp .lt 8, 3) := by decide +kernel
theorem dX11_findRounds_186 : decode cX11_findRounds 186 = .ok (.bipush (-4), 2) := by decide +kernel
theorem dX11_findRounds_188 : decode cX11_findRounds 188 = .ok (.goto 4, 3) := by decide +kernel
theorem dX11_findRounds_191 : decode cX11_findRounds 191 = .ok (.iconst 0, 1) := by decide +kernel
theorem dX11_findRounds_192 : decode cX11_findRounds 192 = .ok (.putfield 292, 3) := by decide +kernel
theorem dX11_findRounds_195 : decode cX11_findRounds 195 = .ok (.aload_n 0, 1) := by decide +kernel
theorem dX11_findRounds_196 : decode cX11_findRounds 196 = .ok (.getfield 292, 3) := by decide +kernel
theorem dX11_findRounds_199 : decode cX11_findRounds 199 = .ok (.bipush (-4), 2) := by decide +kernel
theorem dX11_findRounds_201 : decode cX11_findRounds 201 = .ok (.if_icmp .ne 7, 3) := by decide +kernel
theorem dX11_findRounds_204 : decode cX11_findRounds 204 = .ok (.iconst 0, 1) := by decide +kernel
theorem dX11_findRounds_205 : decode cX11_findRounds 205 = .ok (.goto 4, 3) := by decide +kernel
theorem dX11_findRounds_208 : decode cX11_findRounds 208 = .ok (.iload_n 1, 1) := by decide +kernel
theorem dX11_findRounds_209 : decode cX11_findRounds 209 = .ok (.istore_n 2, 1) := by decide +kernel
theorem dX11_findRounds_210 : decode cX11_findRounds 210 = .ok (.iload_n 2, 1) := by decide +kernel
theorem dX11_findRounds_211 : decode cX11_findRounds 211 = .ok (.ifCond .eq 87, 3) := by decide +kernel
theorem dX11_findRounds_214 : decode cX11_findRounds 214 = .ok (.iconst 1, 1) := by decide +kernel
theorem dX11_findRounds_215 : decode cX11_findRounds 215 = .ok (.istore_n 3, 1) := by decide +kernel
theorem dX11_findRounds_216 : decode cX11_findRounds 216 = .ok (.iload_n 3, 1) := by decide +kernel
theorem dX11_findRounds_217 : decode cX11_findRounds 217 = .ok (.iload_n 2, 1) := by decide +kernel
theorem dX11_findRounds_218 : decode cX11_findRounds 218 = .ok (.iconst (-1), 1) := by decide +kernel
theorem dX11_findRounds_219 : decode cX11_findRounds 219 = .ok (.ixor, 1) := by decide +kernel
theorem dX11_findRounds_220 : decode cX11_findRounds 220 = .ok (.iand, 1) := by decide +kernel
theorem dX11_findRounds_221 : decode cX11_findRounds 221 = .ok (.ifCond .ne 42, 3) := by decide +kernel
theorem dX11_findRounds_224 : decode cX11_findRounds 224 = .ok (.iload_n 3, 1) := by decide +kernel
theorem dX11_findRounds_225 : decode cX11_findRounds 225 = .ok (.iload_n 2, 1) := by decide +kernel
theorem dX11_findRounds_226 : decode cX11_findRounds 226 = .ok (.iload_n 2, 1) := by decide +kernel
theorem dX11_findRounds_227 : decode cX11_findRounds 227 = .ok (.ineg, 1) := by decide +kernel
theorem dX11_findRounds_228 : decode cX11_findRounds 228 = .ok (.iand, 1) := by decide +kernel
theorem dX11_findRounds_229 : decode cX11_findRounds 229 = .ok (.iand, 1) := by decide +kernel
theorem dX11_findRounds_230 : decode cX11_findRounds 230 = .ok (.ifCond .eq 33, 3) := by decide +kernel
theorem dX11_findRounds_233 : decode cX11_findRounds 233 = .ok (.aload_n 0, 1) := by decide +kernel
theorem dX11_findRounds_234 : decode cX11_findRounds 234 = .ok (.getfield 80, 3) := by decide +kernel
theorem dX11_findRounds_237 : decode cX11_findRounds 237 = .ok (.iload_n 3, 1) := by decide +kernel
theorem dX11_findRounds_238 : decode cX11_findRounds 238 = .ok (.baload, 1) := by decide +kernel
theorem dX11_findRounds_239 : decode cX11_findRounds 239 = .ok (.ifCond .eq 24, 3) := by decide +kernel
theorem dX11_findRounds_242 : decode cX11_findRounds 242 = .ok (.aload_n 0, 1) := by decide +kernel
theorem dX11_findRounds_243 : decode cX11_findRounds 243 = .ok (.getfield 77, 3) := by decide +kernel
theorem dX11_findRounds_246 : decode cX11_findRounds 246 = .ok (.iload_n 2, 1) := by decide +kernel
theorem dX11_findRounds_247 : decode cX11_findRounds 247 = .ok (.iload_n 3, 1) := by decide +kernel
theorem dX11_findRounds_248 : decode cX11_findRounds 248 = .ok (.iconst (-1), 1) := by decide +kernel
theorem dX11_findRounds_249 : decode cX11_findRounds 249 = .ok (.ixor, 1) := by decide +kernel
theorem dX11_findRounds_250 : decode cX11_findRounds 250 = .ok (.iand, 1) := by decide +kernel
theorem dX11_findRounds_251 : decode cX11_findRounds 251 = .ok (.iaload, 1) := by decide +kernel
theorem dX11_findRounds_252 : decode cX11_findRounds 252 = .ok (.iconst 1, 1) := by decide +kernel
theorem dX11_findRounds_253 : decode cX11_findRounds 253 = .ok (.iadd, 1) := by decide +kernel
theorem dX11_findRounds_254 : decode cX11_findRounds 254 = .ok (.aload_n 0, 1) := by decide +kernel
theorem dX11_findRounds_255 : decode cX11_findRounds 255 = .ok (.getfield 77, 3) := by decide +kernel
theorem dX11_findRounds_258 : decode cX11_findRounds 258 = .ok (.iload_n 2, 1) := by decide +kernel
theorem dX11_findRounds_259 : decode cX11_findRounds 259 = .ok (.iaload, 1) := by decide +kernel
theorem dX11_findRounds_260 : decode cX11_findRounds 260 = .ok (.if_icmp .eq 9, 3) := by decide +kernel
theorem dX11_findRounds_263 : decode cX11_findRounds 263 = .ok (.iinc 3 1, 3) := by decide +kernel
theorem dX11_findRounds_266 : decode cX11_findRounds 266 = .ok (.goto (-50), 3) := by decide +kernel
theorem dX11_findRounds_269 : decode cX11_findRounds 269 = .ok (.aload_n 0, 1) := by decide +kernel
theorem dX11_findRounds_270 : decode cX11_findRounds 270 = .ok (.getfield 84, 3) := by decide +kernel
theorem dX11_findRounds_273 : decode cX11_findRounds 273 = .ok (.aload_n 0, 1) := by decide +kernel
theorem dX11_findRounds_274 : decode cX11_findRounds 274 = .ok (.getfield 292, 3) := by decide +kernel
theorem dX11_findRounds_277 : decode cX11_findRounds 277 = .ok (.iload_n 3, 1) := by decide +kernel
theorem dX11_findRounds_278 : decode cX11_findRounds 278 = .ok (.iastore, 1) := by decide +kernel
theorem dX11_findRounds_279 : decode cX11_findRounds 279 = .ok (.aload_n 0, 1) := by decide +kernel
theorem dX11_findRounds_280 : decode cX11_findRounds 280 = .ok (.dup, 1) := by decide +kernel
theorem dX11_findRounds_281 : decode cX11_findRounds 281 = .ok (.getfield 292, 3) := by decide +kernel
theorem dX11_findRounds_284 : decode cX11_findRounds 284 = .ok (.iconst 1, 1) := by decide +kernel
theorem dX11_findRounds_285 : decode cX11_findRounds 285 = .ok (.iadd, 1) := by decide +kernel
theorem dX11_findRounds_286 : decode cX11_findRounds 286 = .ok (.putfield 292, 3) := by decide +kernel
theorem dX11_findRounds_289 : decode cX11_findRounds 289 = .ok (.iload_n 2, 1) := by decide +kernel
theorem dX11_findRounds_290 : decode cX11_findRounds 290 = .ok (.iload_n 3, 1) := by decide +kernel
theorem dX11_findRounds_291 : decode cX11_findRounds 291 = .ok (.iconst (-1), 1) := by decide +kernel
theorem dX11_findRounds_292 : decode cX11_findRounds 292 = .ok (.ixor, 1) := by decide +kernel
theorem dX11_findRounds_293 : decode cX11_findRounds 293 = .ok (.iand, 1) := by decide +kernel
theorem dX11_findRounds_294 : decode cX11_findRounds 294 = .ok (.istore_n 2, 1) := by decide +kernel
theorem dX11_findRounds_295 : decode cX11_findRounds 295 = .ok (.goto (-85), 3) := by decide +kernel
theorem dX11_findRounds_298 : decode cX11_findRounds 298 = .ok (.return_, 1) := by decide +kernel
theorem dX11_rounds_0 : decode cX11_rounds 0 = .ok (.iload_n 1, 1) := by decide +kernel
theorem dX11_rounds_1 : decode cX11_rounds 1 = .ok (.invokestatic 286, 3) := by decide +kernel
theorem dX11_rounds_4 : decode cX11_rounds 4 = .ok (.ifCond .eq 21, 3) := by decide +kernel
theorem dX11_rounds_7 : decode cX11_rounds 7 = .ok (.iload_n 2, 1) := by decide +kernel
theorem dX11_rounds_8 : decode cX11_rounds 8 = .ok (.ifCond .eq 19, 3) := by decide +kernel
theorem dX11_rounds_11 : decode cX11_rounds 11 = .ok (.iload_n 2, 1) := by decide +kernel
theorem dX11_rounds_12 : decode cX11_rounds 12 = .ok (.i2l, 1) := by decide +kernel
theorem dX11_rounds_13 : decode cX11_rounds 13 = .ok (.ldc2_w 247, 3) := by decide +kernel
theorem dX11_rounds_16 : decode cX11_rounds 16 = .ok (.ldc2_w 249, 3) := by decide +kernel
theorem dX11_rounds_19 : decode cX11_rounds 19 = .ok (.invokestatic 124, 3) := by decide +kernel
theorem dX11_rounds_22 : decode cX11_rounds 22 = .ok (.ifCond .ne 5, 3) := by decide +kernel
theorem dX11_rounds_25 : decode cX11_rounds 25 = .ok (.iconst (-1), 1) := by decide +kernel
theorem dX11_rounds_26 : decode cX11_rounds 26 = .ok (.ireturn, 1) := by decide +kernel
theorem dX11_rounds_27 : decode cX11_rounds 27 = .ok (.aload_n 0, 1) := by decide +kernel
theorem dX11_rounds_28 : decode cX11_rounds 28 = .ok (.iload_n 1, 1) := by decide +kernel
theorem dX11_rounds_29 : decode cX11_rounds 29 = .ok (.invokevirtual 295, 3) := by decide +kernel
theorem dX11_rounds_32 : decode cX11_rounds 32 = .ok (.aload_n 0, 1) := by decide +kernel
theorem dX11_rounds_33 : decode cX11_rounds 33 = .ok (.getfield 292, 3) := by decide +kernel
theorem dX11_rounds_36 : decode cX11_rounds 36 = .ok (.bipush (-4), 2) := by decide +kernel
theorem dX11_rounds_38 : decode cX11_rounds 38 = .ok (.if_icmp .ne 6, 3) := by decide +kernel
theorem dX11_rounds_41 : decode cX11_rounds 41 = .ok (.bipush (-4), 2) := by decide +kernel
theorem dX11_rounds_43 : decode cX11_rounds 43 = .ok (.ireturn, 1) := by decide +kernel
theorem dX11_rounds_44 : decode cX11_rounds 44 = .ok (.iload_n 2, 1) := by decide +kernel
theorem dX11_rounds_45 : decode cX11_rounds 45 = .ok (.ifCond .ne 10, 3) := by decide +kernel
theorem dX11_rounds_48 : decode cX11_rounds 48 = .ok (.aload_n 0, 1) := by decide +kernel
theorem dX11_rounds_49 : decode cX11_rounds 49 = .ok (.getfield 292, 3) := by decide +kernel
theorem dX11_rounds_52 : decode cX11_rounds 52 = .ok (.goto 27, 3) := by decide +kernel
theorem dX11_rounds_55 : decode cX11_rounds 55 = .ok (.iload_n 2, 1) := by decide +kernel
theorem dX11_rounds_56 : decode cX11_rounds 56 = .ok (.bipush 10, 2) := by decide +kernel
theorem dX11_rounds_58 : decode cX11_rounds 58 = .ok (.isub, 1) := by decide +kernel
theorem dX11_rounds_59 : decode cX11_rounds 59 = .ok (.aload_n 0, 1) := by decide +kernel
theorem dX11_rounds_60 : decode cX11_rounds 60 = .ok (.getfield 292, 3) := by decide +kernel
theorem dX11_rounds_63 : decode cX11_rounds 63 = .ok (.if_icmp .ge 15, 3) := by decide +kernel
theorem dX11_rounds_66 : decode cX11_rounds 66 = .ok (.aload_n 0, 1) := by decide +kernel
theorem dX11_rounds_67 : decode cX11_rounds 67 = .ok (.getfield 84, 3) := by decide +kernel
theorem dX11_rounds_70 : decode cX11_rounds 70 = .ok (.iload_n 2, 1) := by decide +kernel
theorem dX11_rounds_71 : decode cX11_rounds 71 = .ok (.bipush 10, 2) := by decide +kernel
theorem dX11_rounds_73 : decode cX11_rounds 73 = .ok (.isub, 1) := by decide +kernel
theorem dX11_rounds_74 : decode cX11_rounds 74 = .ok (.iaload, 1) := by decide +kernel
theorem dX11_rounds_75 : decode cX11_rounds 75 = .ok (.goto 4, 3) := by decide +kernel
theorem dX11_rounds_78 : decode cX11_rounds 78 = .ok (.iconst (-1), 1) := by decide +kernel
theorem dX11_rounds_79 : decode cX11_rounds 79 = .ok (.ireturn, 1) := by decide +kernel
theorem dX11_countsBy_0 : decode cX11_countsBy 0 = .ok (.aload_n 0, 1) := by decide +kernel
theorem dX11_countsBy_1 : decode cX11_countsBy 1 = .ok (.iload_n 1, 1) := by decide +kernel
theorem dX11_countsBy_2 : decode cX11_countsBy 2 = .ok (.invokevirtual 295, 3) := by decide +kernel
theorem dX11_countsBy_5 : decode cX11_countsBy 5 = .ok (.aload_n 0, 1) := by decide +kernel
theorem dX11_countsBy_6 : decode cX11_countsBy 6 = .ok (.getfield 292, 3) := by decide +kernel
theorem dX11_countsBy_9 : decode cX11_countsBy 9 = .ok (.bipush (-4), 2) := by decide +kernel
theorem dX11_countsBy_11 : decode cX11_countsBy 11 = .ok (.if_icmp .ne 5, 3) := by decide +kernel
theorem dX11_countsBy_14 : decode cX11_countsBy 14 = .ok (.iconst 0, 1) := by decide +kernel
theorem dX11_countsBy_15 : decode cX11_countsBy 15 = .ok (.ireturn, 1) := by decide +kernel
theorem dX11_countsBy_16 : decode cX11_countsBy 16 = .ok (.aload_n 0, 1) := by decide +kernel
theorem dX11_countsBy_17 : decode cX11_countsBy 17 = .ok (.iload_n 2, 1) := by decide +kernel
theorem dX11_countsBy_18 : decode cX11_countsBy 18 = .ok (.iload_n 3, 1) := by decide +kernel
theorem dX11_countsBy_19 : decode cX11_countsBy 19 = .ok (.invokevirtual 299, 3) := by decide +kernel
theorem dX11_countsBy_22 : decode cX11_countsBy 22 = .ok (.iconst 1, 1) := by decide +kernel
theorem dX11_countsBy_23 : decode cX11_countsBy 23 = .ok (.ireturn, 1) := by decide +kernel
theorem dX11_countsIn_0 : decode cX11_countsIn 0 = .ok (.iconst 0, 1) := by decide +kernel
theorem dX11_countsIn_1 : decode cX11_countsIn 1 = .ok (.istore_n 3, 1) := by decide +kernel
theorem dX11_countsIn_2 : decode cX11_countsIn 2 = .ok (.aload_n 0, 1) := by decide +kernel
theorem dX11_countsIn_3 : decode cX11_countsIn 3 = .ok (.getfield 84, 3) := by decide +kernel
theorem dX11_countsIn_6 : decode cX11_countsIn 6 = .ok (.iload_n 3, 1) := by decide +kernel
theorem dX11_countsIn_7 : decode cX11_countsIn 7 = .ok (.iaload, 1) := by decide +kernel
theorem dX11_countsIn_8 : decode cX11_countsIn 8 = .ok (.iload_n 2, 1) := by decide +kernel
theorem dX11_countsIn_9 : decode cX11_countsIn 9 = .ok (.ishr, 1) := by decide +kernel
theorem dX11_countsIn_10 : decode cX11_countsIn 10 = .ok (.iconst 1, 1) := by decide +kernel
theorem dX11_countsIn_11 : decode cX11_countsIn 11 = .ok (.iand, 1) := by decide +kernel
theorem dX11_countsIn_12 : decode cX11_countsIn 12 = .ok (.ifCond .ne 9, 3) := by decide +kernel
theorem dX11_countsIn_15 : decode cX11_countsIn 15 = .ok (.iinc 3 1, 3) := by decide +kernel
theorem dX11_countsIn_18 : decode cX11_countsIn 18 = .ok (.goto (-16), 3) := by decide +kernel
theorem dX11_countsIn_21 : decode cX11_countsIn 21 = .ok (.aload_n 0, 1) := by decide +kernel
theorem dX11_countsIn_22 : decode cX11_countsIn 22 = .ok (.lconst 0, 1) := by decide +kernel
theorem dX11_countsIn_23 : decode cX11_countsIn 23 = .ok (.putfield 303, 3) := by decide +kernel
theorem dX11_countsIn_26 : decode cX11_countsIn 26 = .ok (.aload_n 0, 1) := by decide +kernel
theorem dX11_countsIn_27 : decode cX11_countsIn 27 = .ok (.lconst 0, 1) := by decide +kernel
theorem dX11_countsIn_28 : decode cX11_countsIn 28 = .ok (.putfield 307, 3) := by decide +kernel
theorem dX11_countsIn_31 : decode cX11_countsIn 31 = .ok (.iconst 0, 1) := by decide +kernel
theorem dX11_countsIn_32 : decode cX11_countsIn 32 = .ok (.istore 4, 2) := by decide +kernel
theorem dX11_countsIn_34 : decode cX11_countsIn 34 = .ok (.iconst 0, 1) := by decide +kernel
theorem dX11_countsIn_35 : decode cX11_countsIn 35 = .ok (.istore 5, 2) := by decide +kernel
theorem dX11_countsIn_37 : decode cX11_countsIn 37 = .ok (.iload 5, 2) := by decide +kernel
theorem dX11_countsIn_39 : decode cX11_countsIn 39 = .ok (.aload_n 0, 1) := by decide +kernel
theorem dX11_countsIn_40 : decode cX11_countsIn 40 = .ok (.getfield 225, 3) := by decide +kernel
theorem dX11_countsIn_43 : decode cX11_countsIn 43 = .ok (.if_icmp .ge 83, 3) := by decide +kernel
theorem dX11_countsIn_46 : decode cX11_countsIn 46 = .ok (.iload 4, 2) := by decide +kernel
theorem dX11_countsIn_48 : decode cX11_countsIn 48 = .ok (.iload_n 1, 1) := by decide +kernel
theorem dX11_countsIn_49 : decode cX11_countsIn 49 = .ok (.idiv, 1) := by decide +kernel
theorem dX11_countsIn_50 : decode cX11_countsIn 50 = .ok (.aload_n 0, 1) := by decide +kernel
theorem dX11_countsIn_51 : decode cX11_countsIn 51 = .ok (.getfield 292, 3) := by decide +kernel
theorem dX11_countsIn_54 : decode cX11_countsIn 54 = .ok (.irem, 1) := by decide +kernel
theorem dX11_countsIn_55 : decode cX11_countsIn 55 = .ok (.iload_n 3, 1) := by decide +kernel
theorem dX11_countsIn_56 : decode cX11_countsIn 56 = .ok (.if_icmp .ne 47, 3) := by decide +kernel
theorem dX11_countsIn_59 : decode cX11_countsIn 59 = .ok (.aload_n 0, 1) := by decide +kernel
theorem dX11_countsIn_60 : decode cX11_countsIn 60 = .ok (.dup, 1) := by decide +kernel
theorem dX11_countsIn_61 : decode cX11_countsIn 61 = .ok (.getfield 303, 3) := by decide +kernel
theorem dX11_countsIn_64 : decode cX11_countsIn 64 = .ok (.aload_n 0, 1) := by decide +kernel
theorem dX11_countsIn_65 : decode cX11_countsIn 65 = .ok (.aload_n 0, 1) := by decide +kernel
theorem dX11_countsIn_66 : decode cX11_countsIn 66 = .ok (.getfield 25, 3) := by decide +kernel
theorem dX11_countsIn_69 : decode cX11_countsIn 69 = .ok (.iload 5, 2) := by decide +kernel
theorem dX11_countsIn_71 : decode cX11_countsIn 71 = .ok (.iaload, 1) := by decide +kernel
theorem dX11_countsIn_72 : decode cX11_countsIn 72 = .ok (.iload_n 2, 1) := by decide +kernel
theorem dX11_countsIn_73 : decode cX11_countsIn 73 = .ok (.invokevirtual 251, 3) := by decide +kernel
theorem dX11_countsIn_76 : decode cX11_countsIn 76 = .ok (.i2l, 1) := by decide +kernel
theorem dX11_countsIn_77 : decode cX11_countsIn 77 = .ok (.ladd, 1) := by decide +kernel
theorem dX11_countsIn_78 : decode cX11_countsIn 78 = .ok (.putfield 303, 3) := by decide +kernel
theorem dX11_countsIn_81 : decode cX11_countsIn 81 = .ok (.aload_n 0, 1) := by decide +kernel
theorem dX11_countsIn_82 : decode cX11_countsIn 82 = .ok (.dup, 1) := by decide +kernel
theorem dX11_countsIn_83 : decode cX11_countsIn 83 = .ok (.getfield 307, 3) := by decide +kernel
theorem dX11_countsIn_86 : decode cX11_countsIn 86 = .ok (.aload_n 0, 1) := by decide +kernel
theorem dX11_countsIn_87 : decode cX11_countsIn 87 = .ok (.getfield 7, 3) := by decide +kernel
theorem dX11_countsIn_90 : decode cX11_countsIn 90 = .ok (.aload_n 0, 1) := by decide +kernel
theorem dX11_countsIn_91 : decode cX11_countsIn 91 = .ok (.getfield 25, 3) := by decide +kernel
theorem dX11_countsIn_94 : decode cX11_countsIn 94 = .ok (.iload 5, 2) := by decide +kernel
theorem dX11_countsIn_96 : decode cX11_countsIn 96 = .ok (.iaload, 1) := by decide +kernel
theorem dX11_countsIn_97 : decode cX11_countsIn 97 = .ok (.iaload, 1) := by decide +kernel
theorem dX11_countsIn_98 : decode cX11_countsIn 98 = .ok (.i2l, 1) := by decide +kernel
theorem dX11_countsIn_99 : decode cX11_countsIn 99 = .ok (.ladd, 1) := by decide +kernel
theorem dX11_countsIn_100 : decode cX11_countsIn 100 = .ok (.putfield 307, 3) := by decide +kernel
theorem dX11_countsIn_103 : decode cX11_countsIn 103 = .ok (.iload 4, 2) := by decide +kernel
theorem dX11_countsIn_105 : decode cX11_countsIn 105 = .ok (.aload_n 0, 1) := by decide +kernel
theorem dX11_countsIn_106 : decode cX11_countsIn 106 = .ok (.getfield 7, 3) := by decide +kernel
theorem dX11_countsIn_109 : decode cX11_countsIn 109 = .ok (.aload_n 0, 1) := by decide +kernel
theorem dX11_countsIn_110 : decode cX11_countsIn 110 = .ok (.getfield 25, 3) := by decide +kernel
theorem dX11_countsIn_113 : decode cX11_countsIn 113 = .ok (.iload 5, 2) := by decide +kernel
theorem dX11_countsIn_115 : decode cX11_countsIn 115 = .ok (.iaload, 1) := by decide +kernel
theorem dX11_countsIn_116 : decode cX11_countsIn 116 = .ok (.iaload, 1) := by decide +kernel
theorem dX11_countsIn_117 : decode cX11_countsIn 117 = .ok (.iadd, 1) := by decide +kernel
theorem dX11_countsIn_118 : decode cX11_countsIn 118 = .ok (.istore 4, 2) := by decide +kernel
theorem dX11_countsIn_120 : decode cX11_countsIn 120 = .ok (.iinc 5 1, 3) := by decide +kernel
theorem dX11_countsIn_123 : decode cX11_countsIn 123 = .ok (.goto (-86), 3) := by decide +kernel
theorem dX11_countsIn_126 : decode cX11_countsIn 126 = .ok (.return_, 1) := by decide +kernel
theorem dX11_isOf_0 : decode cX11_isOf 0 = .ok (.iload_n 0, 1) := by decide +kernel
theorem dX11_isOf_1 : decode cX11_isOf 1 = .ok (.invokestatic 286, 3) := by decide +kernel
theorem dX11_isOf_4 : decode cX11_isOf 4 = .ok (.ifCond .eq 23, 3) := by decide +kernel
theorem dX11_isOf_7 : decode cX11_isOf 7 = .ok (.iload_n 1, 1) := by decide +kernel
theorem dX11_isOf_8 : decode cX11_isOf 8 = .ok (.invokestatic 260, 3) := by decide +kernel
theorem dX11_isOf_11 : decode cX11_isOf 11 = .ok (.ifCond .eq 16, 3) := by decide +kernel
theorem dX11_isOf_14 : decode cX11_isOf 14 = .ok (.iload_n 0, 1) := by decide +kernel
theorem dX11_isOf_15 : decode cX11_isOf 15 = .ok (.iload_n 1, 1) := by decide +kernel
theorem dX11_isOf_16 : decode cX11_isOf 16 = .ok (.ishr, 1) := by decide +kernel
theorem dX11_isOf_17 : decode cX11_isOf 17 = .ok (.iconst 1, 1) := by decide +kernel
theorem dX11_isOf_18 : decode cX11_isOf 18 = .ok (.iand, 1) := by decide +kernel
theorem dX11_isOf_19 : decode cX11_isOf 19 = .ok (.iconst 1, 1) := by decide +kernel
theorem dX11_isOf_20 : decode cX11_isOf 20 = .ok (.if_icmp .ne 7, 3) := by decide +kernel
theorem dX11_isOf_23 : decode cX11_isOf 23 = .ok (.iconst 1, 1) := by decide +kernel
theorem dX11_isOf_24 : decode cX11_isOf 24 = .ok (.goto 4, 3) := by decide +kernel
theorem dX11_isOf_27 : decode cX11_isOf 27 = .ok (.iconst 0, 1) := by decide +kernel
theorem dX11_isOf_28 : decode cX11_isOf 28 = .ok (.ireturn, 1) := by decide +kernel
theorem dX11_sliced_0 : decode cX11_sliced 0 = .ok (.iload_n 1, 1) := by decide +kernel
theorem dX11_sliced_1 : decode cX11_sliced 1 = .ok (.iload_n 3, 1) := by decide +kernel
theorem dX11_sliced_2 : decode cX11_sliced 2 = .ok (.invokestatic 310, 3) := by decide +kernel
theorem dX11_sliced_5 : decode cX11_sliced 5 = .ok (.ifCond .eq 26, 3) := by decide +kernel
theorem dX11_sliced_8 : decode cX11_sliced 8 = .ok (.iload_n 2, 1) := by decide +kernel
theorem dX11_sliced_9 : decode cX11_sliced 9 = .ok (.i2l, 1) := by decide +kernel
theorem dX11_sliced_10 : decode cX11_sliced 10 = .ok (.lconst 1, 1) := by decide +kernel
theorem dX11_sliced_11 : decode cX11_sliced 11 = .ok (.ldc2_w 313, 3) := by decide +kernel
theorem dX11_sliced_14 : decode cX11_sliced 14 = .ok (.invokestatic 124, 3) := by decide +kernel
theorem dX11_sliced_17 : decode cX11_sliced 17 = .ok (.ifCond .eq 14, 3) := by decide +kernel
theorem dX11_sliced_20 : decode cX11_sliced 20 = .ok (.iload 4, 2) := by decide +kernel
theorem dX11_sliced_22 : decode cX11_sliced 22 = .ok (.i2l, 1) := by decide +kernel
theorem dX11_sliced_23 : decode cX11_sliced 23 = .ok (.lconst 0, 1) := by decide +kernel
theorem dX11_sliced_24 : decode cX11_sliced 24 = .ok (.lconst 1, 1) := by decide +kernel
theorem dX11_sliced_25 : decode cX11_sliced 25 = .ok (.invokestatic 124, 3) := by decide +kernel
theorem dX11_sliced_28 : decode cX11_sliced 28 = .ok (.ifCond .ne 5, 3) := by decide +kernel
theorem dX11_sliced_31 : decode cX11_sliced 31 = .ok (.iconst (-1), 1) := by decide +kernel
theorem dX11_sliced_32 : decode cX11_sliced 32 = .ok (.ireturn, 1) := by decide +kernel
theorem dX11_sliced_33 : decode cX11_sliced 33 = .ok (.aload_n 0, 1) := by decide +kernel
theorem dX11_sliced_34 : decode cX11_sliced 34 = .ok (.iload_n 1, 1) := by decide +kernel
theorem dX11_sliced_35 : decode cX11_sliced 35 = .ok (.iload_n 2, 1) := by decide +kernel
theorem dX11_sliced_36 : decode cX11_sliced 36 = .ok (.iload_n 3, 1) := by decide +kernel
theorem dX11_sliced_37 : decode cX11_sliced 37 = .ok (.invokevirtual 315, 3) := by decide +kernel
theorem dX11_sliced_40 : decode cX11_sliced 40 = .ok (.ifCond .ne 8, 3) := by decide +kernel
theorem dX11_sliced_43 : decode cX11_sliced 43 = .ok (.bipush (-4), 2) := by decide +kernel
theorem dX11_sliced_45 : decode cX11_sliced 45 = .ok (.goto 20, 3) := by decide +kernel
theorem dX11_sliced_48 : decode cX11_sliced 48 = .ok (.iload 4, 2) := by decide +kernel
theorem dX11_sliced_50 : decode cX11_sliced 50 = .ok (.ifCond .ne 10, 3) := by decide +kernel
theorem dX11_sliced_53 : decode cX11_sliced 53 = .ok (.aload_n 0, 1) := by decide +kernel
theorem dX11_sliced_54 : decode cX11_sliced 54 = .ok (.getfield 303, 3) := by decide +kernel
theorem dX11_sliced_57 : decode cX11_sliced 57 = .ok (.goto 7, 3) := by decide +kernel
theorem dX11_sliced_60 : decode cX11_sliced 60 = .ok (.aload_n 0, 1) := by decide +kernel
theorem dX11_sliced_61 : decode cX11_sliced 61 = .ok (.getfield 307, 3) := by decide +kernel
theorem dX11_sliced_64 : decode cX11_sliced 64 = .ok (.l2i, 1) := by decide +kernel
theorem dX11_sliced_65 : decode cX11_sliced 65 = .ok (.ireturn, 1) := by decide +kernel
theorem dX11_scaled_0 : decode cX11_scaled 0 = .ok (.iload_n 1, 1) := by decide +kernel
theorem dX11_scaled_1 : decode cX11_scaled 1 = .ok (.iload_n 3, 1) := by decide +kernel
theorem dX11_scaled_2 : decode cX11_scaled 2 = .ok (.invokestatic 310, 3) := by decide +kernel
theorem dX11_scaled_5 : decode cX11_scaled 5 = .ok (.ifCond .eq 28, 3) := by decide +kernel
theorem dX11_scaled_8 : decode cX11_scaled 8 = .ok (.iload_n 2, 1) := by decide +kernel
theorem dX11_scaled_9 : decode cX11_scaled 9 = .ok (.i2l, 1) := by decide +kernel
theorem dX11_scaled_10 : decode cX11_scaled 10 = .ok (.lconst 1, 1) := by decide +kernel
theorem dX11_scaled_11 : decode cX11_scaled 11 = .ok (.ldc2_w 313, 3) := by decide +kernel
theorem dX11_scaled_14 : decode cX11_scaled 14 = .ok (.invokestatic 124, 3) := by decide +kernel
theorem dX11_scaled_17 : decode cX11_scaled 17 = .ok (.ifCond .eq 16, 3) := by decide +kernel
theorem dX11_scaled_20 : decode cX11_scaled 20 = .ok (.iload 4, 2) := by decide +kernel
theorem dX11_scaled_22 : decode cX11_scaled 22 = .ok (.i2l, 1) := by decide +kernel
theorem dX11_scaled_23 : decode cX11_scaled 23 = .ok (.lconst 0, 1) := by decide +kernel
theorem dX11_scaled_24 : decode cX11_scaled 24 = .ok (.ldc2_w 319, 3) := by decide +kernel
theorem dX11_scaled_27 : decode cX11_scaled 27 = .ok (.invokestatic 124, 3) := by decide +kernel
theorem dX11_scaled_30 : decode cX11_scaled 30 = .ok (.ifCond .ne 7, 3) := by decide +kernel
theorem dX11_scaled_33 : decode cX11_scaled 33 = .ok (.ldc2_w 321, 3) := by decide +kernel
theorem dX11_scaled_36 : decode cX11_scaled 36 = .ok (.lreturn, 1) := by decide +kernel
theorem dX11_scaled_37 : decode cX11_scaled 37 = .ok (.aload_n 0, 1) := by decide +kernel
theorem dX11_scaled_38 : decode cX11_scaled 38 = .ok (.iload_n 1, 1) := by decide +kernel
theorem dX11_scaled_39 : decode cX11_scaled 39 = .ok (.iload_n 2, 1) := by decide +kernel
theorem dX11_scaled_40 : decode cX11_scaled 40 = .ok (.iload_n 3, 1) := by decide +kernel
theorem dX11_scaled_41 : decode cX11_scaled 41 = .ok (.invokevirtual 315, 3) := by decide +kernel
theorem dX11_scaled_44 : decode cX11_scaled 44 = .ok (.ifCond .eq 12, 3) := by decide +kernel
theorem dX11_scaled_47 : decode cX11_scaled 47 = .ok (.aload_n 0, 1) := by decide +kernel
theorem dX11_scaled_48 : decode cX11_scaled 48 = .ok (.getfield 307, 3) := by decide +kernel
theorem dX11_scaled_51 : decode cX11_scaled 51 = .ok (.lconst 0, 1) := by decide +kernel
theorem dX11_scaled_52 : decode cX11_scaled 52 = .ok (.lcmp, 1) := by decide +kernel
theorem dX11_scaled_53 : decode cX11_scaled 53 = .ok (.ifCond .ne 7, 3) := by decide +kernel
theorem dX11_scaled_56 : decode cX11_scaled 56 = .ok (.ldc2_w 323, 3) := by decide +kernel
theorem dX11_scaled_59 : decode cX11_scaled 59 = .ok (.lreturn, 1) := by decide +kernel
theorem dX11_scaled_60 : decode cX11_scaled 60 = .ok (.aload_n 0, 1) := by decide +kernel
theorem dX11_scaled_61 : decode cX11_scaled 61 = .ok (.getfield 303, 3) := by decide +kernel
theorem dX11_scaled_64 : decode cX11_scaled 64 = .ok (.aload_n 0, 1) := by decide +kernel
theorem dX11_scaled_65 : decode cX11_scaled 65 = .ok (.getfield 212, 3) := by decide +kernel
theorem dX11_scaled_68 : decode cX11_scaled 68 = .ok (.i2l, 1) := by decide +kernel
theorem dX11_scaled_69 : decode cX11_scaled 69 = .ok (.lmul, 1) := by decide +kernel
theorem dX11_scaled_70 : decode cX11_scaled 70 = .ok (.iload 4, 2) := by decide +kernel
theorem dX11_scaled_72 : decode cX11_scaled 72 = .ok (.iconst 2, 1) := by decide +kernel
theorem dX11_scaled_73 : decode cX11_scaled 73 = .ok (.if_icmp .ge 7, 3) := by decide +kernel
theorem dX11_scaled_76 : decode cX11_scaled 76 = .ok (.lconst 0, 1) := by decide +kernel
theorem dX11_scaled_77 : decode cX11_scaled 77 = .ok (.goto 14, 3) := by decide +kernel
theorem dX11_scaled_80 : decode cX11_scaled 80 = .ok (.aload_n 0, 1) := by decide +kernel
theorem dX11_scaled_81 : decode cX11_scaled 81 = .ok (.iload_n 3, 1) := by decide +kernel
theorem dX11_scaled_82 : decode cX11_scaled 82 = .ok (.invokevirtual 257, 3) := by decide +kernel
theorem dX11_scaled_85 : decode cX11_scaled 85 = .ok (.i2l, 1) := by decide +kernel
theorem dX11_scaled_86 : decode cX11_scaled 86 = .ok (.aload_n 0, 1) := by decide +kernel
theorem dX11_scaled_87 : decode cX11_scaled 87 = .ok (.getfield 307, 3) := by decide +kernel
theorem dX11_scaled_90 : decode cX11_scaled 90 = .ok (.lmul, 1) := by decide +kernel
theorem dX11_scaled_91 : decode cX11_scaled 91 = .ok (.lsub, 1) := by decide +kernel
theorem dX11_scaled_92 : decode cX11_scaled 92 = .ok (.aload_n 0, 1) := by decide +kernel
theorem dX11_scaled_93 : decode cX11_scaled 93 = .ok (.getfield 307, 3) := by decide +kernel
theorem dX11_scaled_96 : decode cX11_scaled 96 = .ok (.iload 4, 2) := by decide +kernel
theorem dX11_scaled_98 : decode cX11_scaled 98 = .ok (.iconst 2, 1) := by decide +kernel
theorem dX11_scaled_99 : decode cX11_scaled 99 = .ok (.irem, 1) := by decide +kernel
theorem dX11_scaled_100 : decode cX11_scaled 100 = .ok (.invokestatic 263, 3) := by decide +kernel
theorem dX11_scaled_103 : decode cX11_scaled 103 = .ok (.lreturn, 1) := by decide +kernel
theorem dX11_finest_0 : decode cX11_finest 0 = .ok (.iload_n 1, 1) := by decide +kernel
theorem dX11_finest_1 : decode cX11_finest 1 = .ok (.iload 4, 2) := by decide +kernel
theorem dX11_finest_3 : decode cX11_finest 3 = .ok (.invokestatic 310, 3) := by decide +kernel
theorem dX11_finest_6 : decode cX11_finest 6 = .ok (.ifCond .eq 37, 3) := by decide +kernel
theorem dX11_finest_9 : decode cX11_finest 9 = .ok (.iload_n 2, 1) := by decide +kernel
theorem dX11_finest_10 : decode cX11_finest 10 = .ok (.i2l, 1) := by decide +kernel
theorem dX11_finest_11 : decode cX11_finest 11 = .ok (.lconst 1, 1) := by decide +kernel
theorem dX11_finest_12 : decode cX11_finest 12 = .ok (.ldc2_w 313, 3) := by decide +kernel
theorem dX11_finest_15 : decode cX11_finest 15 = .ok (.invokestatic 124, 3) := by decide +kernel
theorem dX11_finest_18 : decode cX11_finest 18 = .ok (.ifCond .eq 25, 3) := by decide +kernel
theorem dX11_finest_21 : decode cX11_finest 21 = .ok (.iload_n 3, 1) := by decide +kernel
theorem dX11_finest_22 : decode cX11_finest 22 = .ok (.i2l, 1) := by decide +kernel
theorem dX11_finest_23 : decode cX11_finest 23 = .ok (.iload_n 2, 1) := by decide +kernel
theorem dX11_finest_24 : decode cX11_finest 24 = .ok (.i2l, 1) := by decide +kernel
theorem dX11_finest_25 : decode cX11_finest 25 = .ok (.ldc2_w 313, 3) := by decide +kernel
theorem dX11_finest_28 : decode cX11_finest 28 = .ok (.invokestatic 124, 3) := by decide +kernel
theorem dX11_finest_31 : decode cX11_finest 31 = .ok (.ifCond .eq 12, 3) := by decide +kernel
theorem dX11_finest_34 : decode cX11_finest 34 = .ok (.iload_n 3, 1) := by decide +kernel
theorem dX11_finest_35 : decode cX11_finest 35 = .ok (.iload_n 2, 1) := by decide +kernel
theorem dX11_finest_36 : decode cX11_finest 36 = .ok (.isub, 1) := by decide +kernel
theorem dX11_finest_37 : decode cX11_finest 37 = .ok (.sipush 199, 3) := by decide +kernel
theorem dX11_finest_40 : decode cX11_finest 40 = .ok (.if_icmp .le 5, 3) := by decide +kernel
theorem dX11_finest_43 : decode cX11_finest 43 = .ok (.iconst (-1), 1) := by decide +kernel
theorem dX11_finest_44 : decode cX11_finest 44 = .ok (.ireturn, 1) := by decide +kernel
theorem dX11_finest_45 : decode cX11_finest 45 = .ok (.bipush (-4), 2) := by decide +kernel
theorem dX11_finest_47 : decode cX11_finest 47 = .ok (.istore 5, 2) := by decide +kernel
theorem dX11_finest_49 : decode cX11_finest 49 = .ok (.lconst 0, 1) := by decide +kernel
theorem dX11_finest_50 : decode cX11_finest 50 = .ok (.lstore 6, 2) := by decide +kernel
theorem dX11_finest_52 : decode cX11_finest 52 = .ok (.lconst 1, 1) := by decide +kernel
theorem dX11_finest_53 : decode cX11_finest 53 = .ok (.lstore 8, 2) := by decide +kernel
theorem dX11_finest_55 : decode cX11_finest 55 = .ok (.aload_n 0, 1) := by decide +kernel
theorem dX11_finest_56 : decode cX11_finest 56 = .ok (.iload_n 1, 1) := by decide +kernel
theorem dX11_finest_57 : decode cX11_finest 57 = .ok (.invokevirtual 295, 3) := by decide +kernel
theorem dX11_finest_60 : decode cX11_finest 60 = .ok (.iload_n 2, 1) := by decide +kernel
theorem dX11_finest_61 : decode cX11_finest 61 = .ok (.istore 10, 2) := by decide +kernel
theorem dX11_finest_63 : decode cX11_finest 63 = .ok (.iload 10, 2) := by decide +kernel
theorem dX11_finest_65 : decode cX11_finest 65 = .ok (.iload_n 3, 1) := by decide +kernel
theorem dX11_finest_66 : decode cX11_finest 66 = .ok (.if_icmp .gt 137, 3) := by decide +kernel
theorem dX11_finest_69 : decode cX11_finest 69 = .ok (.aload_n 0, 1) := by decide +kernel
theorem dX11_finest_70 : decode cX11_finest 70 = .ok (.getfield 292, 3) := by decide +kernel
theorem dX11_finest_73 : decode cX11_finest 73 = .ok (.bipush (-4), 2) := by decide +kernel
theorem dX11_finest_75 : decode cX11_finest 75 = .ok (.if_icmp .eq 128, 3) := by decide +kernel
theorem dX11_finest_78 : decode cX11_finest 78 = .ok (.aload_n 0, 1) := by decide +kernel
theorem dX11_finest_79 : decode cX11_finest 79 = .ok (.iload 10, 2) := by decide +kernel
theorem dX11_finest_81 : decode cX11_finest 81 = .ok (.iload 4, 2) := by decide +kernel
theorem dX11_finest_83 : decode cX11_finest 83 = .ok (.invokevirtual 299, 3) := by decide +kernel
theorem dX11_finest_86 : decode cX11_finest 86 = .ok (.aload_n 0, 1) := by decide +kernel
theorem dX11_finest_87 : decode cX11_finest 87 = .ok (.getfield 303, 3) := by decide +kernel
theorem dX11_finest_90 : decode cX11_finest 90 = .ok (.aload_n 0, 1) := by decide +kernel
theorem dX11_finest_91 : decode cX11_finest 91 = .ok (.getfield 212, 3) := by decide +kernel
theorem dX11_finest_94 : decode cX11_finest 94 = .ok (.i2l, 1) := by decide +kernel
theorem dX11_finest_95 : decode cX11_finest 95 = .ok (.lmul, 1) := by decide +kernel
theorem dX11_finest_96 : decode cX11_finest 96 = .ok (.aload_n 0, 1) := by decide +kernel
theorem dX11_finest_97 : decode cX11_finest 97 = .ok (.iload 4, 2) := by decide +kernel
theorem dX11_finest_99 : decode cX11_finest 99 = .ok (.invokevirtual 257, 3) := by decide +kernel
theorem dX11_finest_102 : decode cX11_finest 102 = .ok (.i2l, 1) := by decide +kernel
theorem dX11_finest_103 : decode cX11_finest 103 = .ok (.aload_n 0, 1) := by decide +kernel
theorem dX11_finest_104 : decode cX11_finest 104 = .ok (.getfield 307, 3) := by decide +kernel
theorem dX11_finest_107 : decode cX11_finest 107 = .ok (.lmul, 1) := by decide +kernel
theorem dX11_finest_108 : decode cX11_finest 108 = .ok (.lsub, 1) := by decide +kernel
theorem dX11_finest_109 : decode cX11_finest 109 = .ok (.invokestatic 111, 3) := by decide +kernel
theorem dX11_finest_112 : decode cX11_finest 112 = .ok (.lstore 11, 2) := by decide +kernel
theorem dX11_finest_114 : decode cX11_finest 114 = .ok (.aload_n 0, 1) := by decide +kernel
theorem dX11_finest_115 : decode cX11_finest 115 = .ok (.getfield 307, 3) := by decide +kernel
theorem dX11_finest_118 : decode cX11_finest 118 = .ok (.lconst 0, 1) := by decide +kernel
theorem dX11_finest_119 : decode cX11_finest 119 = .ok (.lcmp, 1) := by decide +kernel
theorem dX11_finest_120 : decode cX11_finest 120 = .ok (.ifCond .le 30, 3) := by decide +kernel
theorem dX11_finest_123 : decode cX11_finest 123 = .ok (.iload 5, 2) := by decide +kernel
theorem dX11_finest_125 : decode cX11_finest 125 = .ok (.bipush (-4), 2) := by decide +kernel
theorem dX11_finest_127 : decode cX11_finest 127 = .ok (.if_icmp .eq 19, 3) := by decide +kernel
theorem dX11_finest_130 : decode cX11_finest 130 = .ok (.lload 11, 2) := by decide +kernel
theorem dX11_finest_132 : decode cX11_finest 132 = .ok (.lload 8, 2) := by decide +kernel
theorem dX11_finest_134 : decode cX11_finest 134 = .ok (.lmul, 1) := by decide +kernel
theorem dX11_finest_135 : decode cX11_finest 135 = .ok (.lload 6, 2) := by decide +kernel
theorem dX11_finest_137 : decode cX11_finest 137 = .ok (.aload_n 0, 1) := by decide +kernel
theorem dX11_finest_138 : decode cX11_finest 138 = .ok (.getfield 307, 3) := by decide +kernel
theorem dX11_finest_141 : decode cX11_finest 141 = .ok (.lmul, 1) := by decide +kernel
theorem dX11_finest_142 : decode cX11_finest 142 = .ok (.lcmp, 1) := by decide +kernel
theorem dX11_finest_143 : decode cX11_finest 143 = .ok (.ifCond .ge 7, 3) := by decide +kernel
theorem dX11_finest_146 : decode cX11_finest 146 = .ok (.iconst 1, 1) := by decide +kernel
theorem dX11_finest_147 : decode cX11_finest 147 = .ok (.goto 4, 3) := by decide +kernel
theorem dX11_finest_150 : decode cX11_finest 150 = .ok (.iconst 0, 1) := by decide +kernel
theorem dX11_finest_151 : decode cX11_finest 151 = .ok (.istore 13, 2) := by decide +kernel
theorem dX11_finest_153 : decode cX11_finest 153 = .ok (.iload 13, 2) := by decide +kernel
theorem dX11_finest_155 : decode cX11_finest 155 = .ok (.ifCond .eq 8, 3) := by decide +kernel
theorem dX11_finest_158 : decode cX11_finest 158 = .ok (.iload 10, 2) := by decide +kernel
theorem dX11_finest_160 : decode cX11_finest 160 = .ok (.goto 5, 3) := by decide +kernel
theorem dX11_finest_163 : decode cX11_finest 163 = .ok (.iload 5, 2) := by decide +kernel
theorem dX11_finest_165 : decode cX11_finest 165 = .ok (.istore 5, 2) := by decide +kernel
theorem dX11_finest_167 : decode cX11_finest 167 = .ok (.iload 13, 2) := by decide +kernel
theorem dX11_finest_169 : decode cX11_finest 169 = .ok (.ifCond .eq 8, 3) := by decide +kernel
theorem dX11_finest_172 : decode cX11_finest 172 = .ok (.lload 11, 2) := by decide +kernel
theorem dX11_finest_174 : decode cX11_finest 174 = .ok (.goto 5, 3) := by decide +kernel
theorem dX11_finest_177 : decode cX11_finest 177 = .ok (.lload 6, 2) := by decide +kernel
theorem dX11_finest_179 : decode cX11_finest 179 = .ok (.lstore 6, 2) := by decide +kernel
theorem dX11_finest_181 : decode cX11_finest 181 = .ok (.iload 13, 2) := by decide +kernel
theorem dX11_finest_183 : decode cX11_finest 183 = .ok (.ifCond .eq 10, 3) := by decide +kernel
theorem dX11_finest_186 : decode cX11_finest 186 = .ok (.aload_n 0, 1) := by decide +kernel
theorem dX11_finest_187 : decode cX11_finest 187 = .ok (.getfield 307, 3) := by decide +kernel
theorem dX11_finest_190 : decode cX11_finest 190 = .ok (.goto 5, 3) := by decide +kernel
theorem dX11_finest_193 : decode cX11_finest 193 = .ok (.lload 8, 2) := by decide +kernel
theorem dX11_finest_195 : decode cX11_finest 195 = .ok (.lstore 8, 2) := by decide +kernel
theorem dX11_finest_197 : decode cX11_finest 197 = .ok (.iinc 10 1, 3) := by decide +kernel
theorem dX11_finest_200 : decode cX11_finest 200 = .ok (.goto (-137), 3) := by decide +kernel
theorem dX11_finest_203 : decode cX11_finest 203 = .ok (.iload 5, 2) := by decide +kernel
theorem dX11_finest_205 : decode cX11_finest 205 = .ok (.ireturn, 1) := by decide +kernel
theorem dX11_findSamples_0 : decode cX11_findSamples 0 = .ok (.aload_n 0, 1) := by decide +kernel
theorem dX11_findSamples_1 : decode cX11_findSamples 1 = .ok (.iconst 0, 1) := by decide +kernel
theorem dX11_findSamples_2 : decode cX11_findSamples 2 = .ok (.putfield 325, 3) := by decide +kernel
theorem dX11_findSamples_5 : decode cX11_findSamples 5 = .ok (.aload_n 0, 1) := by decide +kernel
theorem dX11_findSamples_6 : decode cX11_findSamples 6 = .ok (.iconst 0, 1) := by decide +kernel
theorem dX11_findSamples_7 : decode cX11_findSamples 7 = .ok (.putfield 328, 3) := by decide +kernel
theorem dX11_findSamples_10 : decode cX11_findSamples 10 = .ok (.iconst 0, 1) := by decide +kernel
theorem dX11_findSamples_11 : decode cX11_findSamples 11 = .ok (.istore 5, 2) := by decide +kernel
theorem dX11_findSamples_13 : decode cX11_findSamples 13 = .ok (.iload 5, 2) := by decide +kernel
theorem dX11_findSamples_15 : decode cX11_findSamples 15 = .ok (.bipush 16, 2) := by decide +kernel
theorem dX11_findSamples_17 : decode cX11_findSamples 17 = .ok (.if_icmp .ge 17, 3) := by decide +kernel
theorem dX11_findSamples_20 : decode cX11_findSamples 20 = .ok (.aload_n 0, 1) := by decide +kernel
theorem dX11_findSamples_21 : decode cX11_findSamples 21 = .ok (.getfield 87, 3) := by decide +kernel
theorem dX11_findSamples_24 : decode cX11_findSamples 24 = .ok (.iload 5, 2) := by decide +kernel
theorem dX11_findSamples_26 : decode cX11_findSamples 26 = .ok (.iconst 0, 1) := by decide +kernel
theorem dX11_findSamples_27 : decode cX11_findSamples 27 = .ok (.iastore, 1) := by decide +kernel
theorem dX11_findSamples_28 : decode cX11_findSamples 28 = .ok (.iinc 5 1, 3) := by decide +kernel
theorem dX11_findSamples_31 : decode cX11_findSamples 31 = .ok (.goto (-18), 3) := by decide +kernel
theorem dX11_findSamples_34 : decode cX11_findSamples 34 = .ok (.iload_n 3, 1) := by decide +kernel
theorem dX11_findSamples_35 : decode cX11_findSamples 35 = .ok (.istore 5, 2) := by decide +kernel
theorem dX11_findSamples_37 : decode cX11_findSamples 37 = .ok (.iconst 0, 1) := by decide +kernel
theorem dX11_findSamples_38 : decode cX11_findSamples 38 = .ok (.istore 6, 2) := by decide +kernel
theorem dX11_findSamples_40 : decode cX11_findSamples 40 = .ok (.iload 6, 2) := by decide +kernel
theorem dX11_findSamples_42 : decode cX11_findSamples 42 = .ok (.aload_n 0, 1) := by decide +kernel
theorem dX11_findSamples_43 : decode cX11_findSamples 43 = .ok (.getfield 225, 3) := by decide +kernel
theorem dX11_findSamples_46 : decode cX11_findSamples 46 = .ok (.if_icmp .ge 95, 3) := by decide +kernel
theorem dX11_findSamples_49 : decode cX11_findSamples 49 = .ok (.iload 5, 2) := by decide +kernel
theorem dX11_findSamples_51 : decode cX11_findSamples 51 = .ok (.aload_n 0, 1) := by decide +kernel
theorem dX11_findSamples_52 : decode cX11_findSamples 52 = .ok (.aload_n 0, 1) := by decide +kernel
theorem dX11_findSamples_53 : decode cX11_findSamples 53 = .ok (.getfield 25, 3) := by decide +kernel
theorem dX11_findSamples_56 : decode cX11_findSamples 56 = .ok (.iload 6, 2) := by decide +kernel
theorem dX11_findSamples_58 : decode cX11_findSamples 58 = .ok (.iaload, 1) := by decide +kernel
theorem dX11_findSamples_59 : decode cX11_findSamples 59 = .ok (.iload_n 1, 1) := by decide +kernel
theorem dX11_findSamples_60 : decode cX11_findSamples 60 = .ok (.invokevirtual 251, 3) := by decide +kernel
theorem dX11_findSamples_63 : decode cX11_findSamples 63 = .ok (.iadd, 1) := by decide +kernel
theorem dX11_findSamples_64 : decode cX11_findSamples 64 = .ok (.istore 5, 2) := by decide +kernel
theorem dX11_findSamples_66 : decode cX11_findSamples 66 = .ok (.iload 5, 2) := by decide +kernel
theorem dX11_findSamples_68 : decode cX11_findSamples 68 = .ok (.iload_n 2, 1) := by decide +kernel
theorem dX11_findSamples_69 : decode cX11_findSamples 69 = .ok (.idiv, 1) := by decide +kernel
theorem dX11_findSamples_70 : decode cX11_findSamples 70 = .ok (.istore 7, 2) := by decide +kernel
theorem dX11_findSamples_72 : decode cX11_findSamples 72 = .ok (.iload 5, 2) := by decide +kernel
theorem dX11_findSamples_74 : decode cX11_findSamples 74 = .ok (.iload_n 2, 1) := by decide +kernel
theorem dX11_findSamples_75 : decode cX11_findSamples 75 = .ok (.irem, 1) := by decide +kernel
theorem dX11_findSamples_76 : decode cX11_findSamples 76 = .ok (.istore 5, 2) := by decide +kernel
theorem dX11_findSamples_78 : decode cX11_findSamples 78 = .ok (.aload_n 0, 1) := by decide +kernel
theorem dX11_findSamples_79 : decode cX11_findSamples 79 = .ok (.dup, 1) := by decide +kernel
theorem dX11_findSamples_80 : decode cX11_findSamples 80 = .ok (.getfield 325, 3) := by decide +kernel
theorem dX11_findSamples_83 : decode cX11_findSamples 83 = .ok (.iload 7, 2) := by decide +kernel
theorem dX11_findSamples_85 : decode cX11_findSamples 85 = .ok (.iadd, 1) := by decide +kernel
theorem dX11_findSamples_86 : decode cX11_findSamples 86 = .ok (.putfield 325, 3) := by decide +kernel
theorem dX11_findSamples_89 : decode cX11_findSamples 89 = .ok (.iload 6, 2) := by decide +kernel
theorem dX11_findSamples_91 : decode cX11_findSamples 91 = .ok (.iload 4, 2) := by decide +kernel
theorem dX11_findSamples_93 : decode cX11_findSamples 93 = .ok (.iadd, 1) := by decide +kernel
theorem dX11_findSamples_94 : decode cX11_findSamples 94 = .ok (.aload_n 0, 1) := by decide +kernel
theorem dX11_findSamples_95 : decode cX11_findSamples 95 = .ok (.getfield 225, 3) := by decide +kernel
theorem dX11_findSamples_98 : decode cX11_findSamples 98 = .ok (.if_icmp .ge 26, 3) := by decide +kernel
theorem dX11_findSamples_101 : decode cX11_findSamples 101 = .ok (.aload_n 0, 1) := by decide +kernel
theorem dX11_findSamples_102 : decode cX11_findSamples 102 = .ok (.getfield 87, 3) := by decide +kernel
theorem dX11_findSamples_105 : decode cX11_findSamples 105 = .ok (.aload_n 0, 1) := by decide +kernel
theorem dX11_findSamples_106 : decode cX11_findSamples 106 = .ok (.getfield 25, 3) := by decide +kernel
theorem dX11_findSamples_109 : decode cX11_findSamples 109 = .ok (.iload 6, 2) := by decide +kernel
theorem dX11_findSamples_111 : decode cX11_findSamples 111 = .ok (.iload 4, 2) := by decide +kernel
theorem dX11_findSamples_113 : decode cX11_findSamples 113 = .ok (.iadd, 1) := by decide +kernel
theorem dX11_findSamples_114 : decode cX11_findSamples 114 = .ok (.iaload, 1) := by decide +kernel
theorem dX11_findSamples_115 : decode cX11_findSamples 115 = .ok (.dup2, 1) := by decide +kernel
theorem dX11_findSamples_116 : decode cX11_findSamples 116 = .ok (.iaload, 1) := by decide +kernel
theorem dX11_findSamples_117 : decode cX11_findSamples 117 = .ok (.iload 7, 2) := by decide +kernel
theorem dX11_findSamples_119 : decode cX11_findSamples 119 = .ok (.iadd, 1) := by decide +kernel
theorem dX11_findSamples_120 : decode cX11_findSamples 120 = .ok (.iastore, 1) := by decide +kernel
theorem dX11_findSamples_121 : decode cX11_findSamples 121 = .ok (.goto 14, 3) := by decide +kernel
theorem dX11_findSamples_124 : decode cX11_findSamples 124 = .ok (.aload_n 0, 1) := by decide +kernel
theorem dX11_findSamples_125 : decode cX11_findSamples 125 = .ok (.dup, 1) := by decide +kernel
theorem dX11_findSamples_126 : decode cX11_findSamples 126 = .ok (.getfield 328, 3) := by decide +kernel
theorem dX11_findSamples_129 : decode cX11_findSamples 129 = .ok (.iload 7, 2) := by decide +kernel
theorem dX11_findSamples_131 : decode cX11_findSamples 131 = .ok (.iadd, 1) := by decide +kernel
theorem dX11_findSamples_132 : decode cX11_findSamples 132 = .ok (.putfield 328, 3) := by decide +kernel
theorem dX11_findSamples_135 : decode cX11_findSamples 135 = .ok (.iinc 6 1, 3) := by decide +kernel
theorem dX11_findSamples_138 : decode cX11_findSamples 138 = .ok (.goto (-98), 3) := by decide +kernel
theorem dX11_findSamples_141 : decode cX11_findSamples 141 = .ok (.return_, 1) := by decide +kernel
theorem dX11_isSampling_0 : decode cX11_isSampling 0 = .ok (.iload_n 0, 1) := by decide +kernel
theorem dX11_isSampling_1 : decode cX11_isSampling 1 = .ok (.invokestatic 260, 3) := by decide +kernel
theorem dX11_isSampling_4 : decode cX11_isSampling 4 = .ok (.ifCond .eq 44, 3) := by decide +kernel
theorem dX11_isSampling_7 : decode cX11_isSampling 7 = .ok (.iload_n 1, 1) := by decide +kernel
theorem dX11_isSampling_8 : decode cX11_isSampling 8 = .ok (.i2l, 1) := by decide +kernel
theorem dX11_isSampling_9 : decode cX11_isSampling 9 = .ok (.lconst 1, 1) := by decide +kernel
theorem dX11_isSampling_10 : decode cX11_isSampling 10 = .ok (.ldc2_w 331, 3) := by decide +kernel
theorem dX11_isSampling_13 : decode cX11_isSampling 13 = .ok (.invokestatic 124, 3) := by decide +kernel
theorem dX11_isSampling_16 : decode cX11_isSampling 16 = .ok (.ifCond .eq 32, 3) := by decide +kernel
theorem dX11_isSampling_19 : decode cX11_isSampling 19 = .ok (.iload_n 2, 1) := by decide +kernel
theorem dX11_isSampling_20 : decode cX11_isSampling 20 = .ok (.i2l, 1) := by decide +kernel
theorem dX11_isSampling_21 : decode cX11_isSampling 21 = .ok (.lconst 0, 1) := by decide +kernel
theorem dX11_isSampling_22 : decode cX11_isSampling 22 = .ok (.iload_n 1, 1) := by decide +kernel
theorem dX11_isSampling_23 : decode cX11_isSampling 23 = .ok (.iconst 1, 1) := by decide +kernel
theorem dX11_isSampling_24 : decode cX11_isSampling 24 = .ok (.isub, 1) := by decide +kernel
theorem dX11_isSampling_25 : decode cX11_isSampling 25 = .ok (.i2l, 1) := by decide +kernel
theorem dX11_isSampling_26 : decode cX11_isSampling 26 = .ok (.invokestatic 124, 3) := by decide +kernel
theorem dX11_isSampling_29 : decode cX11_isSampling 29 = .ok (.ifCond .eq 19, 3) := by decide +kernel
theorem dX11_isSampling_32 : decode cX11_isSampling 32 = .ok (.iload_n 3, 1) := by decide +kernel
theorem dX11_isSampling_33 : decode cX11_isSampling 33 = .ok (.i2l, 1) := by decide +kernel
theorem dX11_isSampling_34 : decode cX11_isSampling 34 = .ok (.lconst 0, 1) := by decide +kernel
theorem dX11_isSampling_35 : decode cX11_isSampling 35 = .ok (.ldc2_w 333, 3) := by decide +kernel
theorem dX11_isSampling_38 : decode cX11_isSampling 38 = .ok (.invokestatic 124, 3) := by decide +kernel
theorem dX11_isSampling_41 : decode cX11_isSampling 41 = .ok (.ifCond .eq 7, 3) := by decide +kernel
theorem dX11_isSampling_44 : decode cX11_isSampling 44 = .ok (.iconst 1, 1) := by decide +kernel
theorem dX11_isSampling_45 : decode cX11_isSampling 45 = .ok (.goto 4, 3) := by decide +kernel
theorem dX11_isSampling_48 : decode cX11_isSampling 48 = .ok (.iconst 0, 1) := by decide +kernel
theorem dX11_isSampling_49 : decode cX11_isSampling 49 = .ok (.ireturn, 1) := by decide +kernel
theorem dX11_shows_0 : decode cX11_shows 0 = .ok (.iload_n 1, 1) := by decide +kernel
theorem dX11_shows_1 : decode cX11_shows 1 = .ok (.iload_n 2, 1) := by decide +kernel
theorem dX11_shows_2 : decode cX11_shows 2 = .ok (.iload_n 3, 1) := by decide +kernel
theorem dX11_shows_3 : decode cX11_shows 3 = .ok (.iload 4, 2) := by decide +kernel
theorem dX11_shows_5 : decode cX11_shows 5 = .ok (.invokestatic 335, 3) := by decide +kernel
theorem dX11_shows_8 : decode cX11_shows 8 = .ok (.ifCond .eq 12, 3) := by decide +kernel
theorem dX11_shows_11 : decode cX11_shows 11 = .ok (.aload_n 0, 1) := by decide +kernel
theorem dX11_shows_12 : decode cX11_shows 12 = .ok (.iload 5, 2) := by decide +kernel
theorem dX11_shows_14 : decode cX11_shows 14 = .ok (.invokevirtual 243, 3) := by decide +kernel
theorem dX11_shows_17 : decode cX11_shows 17 = .ok (.ifCond .ne 5, 3) := by decide +kernel
theorem dX11_shows_20 : decode cX11_shows 20 = .ok (.iconst (-1), 1) := by decide +kernel
theorem dX11_shows_21 : decode cX11_shows 21 = .ok (.ireturn, 1) := by decide +kernel
theorem dX11_shows_22 : decode cX11_shows 22 = .ok (.aload_n 0, 1) := by decide +kernel
theorem dX11_shows_23 : decode cX11_shows 23 = .ok (.iload_n 1, 1) := by decide +kernel
theorem dX11_shows_24 : decode cX11_shows 24 = .ok (.iload_n 2, 1) := by decide +kernel
theorem dX11_shows_25 : decode cX11_shows 25 = .ok (.iload_n 3, 1) := by decide +kernel
theorem dX11_shows_26 : decode cX11_shows 26 = .ok (.iload 4, 2) := by decide +kernel
theorem dX11_shows_28 : decode cX11_shows 28 = .ok (.invokevirtual 339, 3) := by decide +kernel
theorem dX11_shows_31 : decode cX11_shows 31 = .ok (.aload_n 0, 1) := by decide +kernel
theorem dX11_shows_32 : decode cX11_shows 32 = .ok (.getfield 87, 3) := by decide +kernel
theorem dX11_shows_35 : decode cX11_shows 35 = .ok (.iload 5, 2) := by decide +kernel
theorem dX11_shows_37 : decode cX11_shows 37 = .ok (.iaload, 1) := by decide +kernel
theorem dX11_shows_38 : decode cX11_shows 38 = .ok (.ireturn, 1) := by decide +kernel
theorem dX11_samples_0 : decode cX11_samples 0 = .ok (.iload_n 1, 1) := by decide +kernel
theorem dX11_samples_1 : decode cX11_samples 1 = .ok (.iload_n 2, 1) := by decide +kernel
theorem dX11_samples_2 : decode cX11_samples 2 = .ok (.iload_n 3, 1) := by decide +kernel
theorem dX11_samples_3 : decode cX11_samples 3 = .ok (.iload 4, 2) := by decide +kernel
theorem dX11_samples_5 : decode cX11_samples 5 = .ok (.invokestatic 335, 3) := by decide +kernel
theorem dX11_samples_8 : decode cX11_samples 8 = .ok (.ifCond .eq 16, 3) := by decide +kernel
theorem dX11_samples_11 : decode cX11_samples 11 = .ok (.iload 5, 2) := by decide +kernel
theorem dX11_samples_13 : decode cX11_samples 13 = .ok (.i2l, 1) := by decide +kernel
theorem dX11_samples_14 : decode cX11_samples 14 = .ok (.lconst 0, 1) := by decide +kernel
theorem dX11_samples_15 : decode cX11_samples 15 = .ok (.ldc2_w 343, 3) := by decide +kernel
theorem dX11_samples_18 : decode cX11_samples 18 = .ok (.invokestatic 124, 3) := by decide +kernel
theorem dX11_samples_21 : decode cX11_samples 21 = .ok (.ifCond .ne 5, 3) := by decide +kernel
theorem dX11_samples_24 : decode cX11_samples 24 = .ok (.iconst (-1), 1) := by decide +kernel
theorem dX11_samples_25 : decode cX11_samples 25 = .ok (.ireturn, 1) := by decide +kernel
theorem dX11_samples_26 : decode cX11_samples 26 = .ok (.aload_n 0, 1) := by decide +kernel
theorem dX11_samples_27 : decode cX11_samples 27 = .ok (.iload_n 1, 1) := by decide +kernel
theorem dX11_samples_28 : decode cX11_samples 28 = .ok (.iload_n 2, 1) := by decide +kernel
theorem dX11_samples_29 : decode cX11_samples 29 = .ok (.iload_n 3, 1) := by decide +kernel
theorem dX11_samples_30 : decode cX11_samples 30 = .ok (.iload 4, 2) := by decide +kernel
theorem dX11_samples_32 : decode cX11_samples 32 = .ok (.invokevirtual 339, 3) := by decide +kernel
theorem dX11_samples_35 : decode cX11_samples 35 = .ok (.iconst 0, 1) := by decide +kernel
theorem dX11_samples_36 : decode cX11_samples 36 = .ok (.istore 6, 2) := by decide +kernel
theorem dX11_samples_38 : decode cX11_samples 38 = .ok (.iconst 0, 1) := by decide +kernel
theorem dX11_samples_39 : decode cX11_samples 39 = .ok (.istore 7, 2) := by decide +kernel
theorem dX11_samples_41 : decode cX11_samples 41 = .ok (.iconst 0, 1) := by decide +kernel
theorem dX11_samples_42 : decode cX11_samples 42 = .ok (.istore 8, 2) := by decide +kernel
theorem dX11_samples_44 : decode cX11_samples 44 = .ok (.bipush (-4), 2) := by decide +kernel
theorem dX11_samples_46 : decode cX11_samples 46 = .ok (.istore 9, 2) := by decide +kernel
theorem dX11_samples_48 : decode cX11_samples 48 = .ok (.iconst 0, 1) := by decide +kernel
theorem dX11_samples_49 : decode cX11_samples 49 = .ok (.istore 10, 2) := by decide +kernel
theorem dX11_samples_51 : decode cX11_samples 51 = .ok (.iload 10, 2) := by decide +kernel
theorem dX11_samples_53 : decode cX11_samples 53 = .ok (.aload_n 0, 1) := by decide +kernel
theorem dX11_samples_54 : decode cX11_samples 54 = .ok (.getfield 203, 3) := by decide +kernel
theorem dX11_samples_57 : decode cX11_samples 57 = .ok (.if_icmp .ge 141, 3) := by decide +kernel
theorem dX11_samples_60 : decode cX11_samples 60 = .ok (.iload 6, 2) := by decide +kernel
theorem dX11_samples_62 : decode cX11_samples 62 = .ok (.aload_n 0, 1) := by decide +kernel
theorem dX11_samples_63 : decode cX11_samples 63 = .ok (.getfield 87, 3) := by decide +kernel
theorem dX11_samples_66 : decode cX11_samples 66 = .ok (.iload 10, 2) := by decide +kernel
theorem dX11_samples_68 : decode cX11_samples 68 = .ok (.iaload, 1) := by decide +kernel
theorem dX11_samples_69 : decode cX11_samples 69 = .ok (.ifCond .le 10, 3) := by decide +kernel
theorem dX11_samples_72 : decode cX11_samples 72 = .ok (.iconst 1, 1) := by decide +kernel
theorem dX11_samples_73 : decode cX11_samples 73 = .ok (.iload 10, 2) := by decide +kernel
theorem dX11_samples_75 : decode cX11_samples 75 = .ok (.ishl, 1) := by decide +kernel
theorem dX11_samples_76 : decode cX11_samples 76 = .ok (.goto 4, 3) := by decide +kernel
theorem dX11_samples_79 : decode cX11_samples 79 = .ok (.iconst 0, 1) := by decide +kernel
theorem dX11_samples_80 : decode cX11_samples 80 = .ok (.ior, 1) := by decide +kernel
theorem dX11_samples_81 : decode cX11_samples 81 = .ok (.istore 6, 2) := by decide +kernel
theorem dX11_samples_83 : decode cX11_samples 83 = .ok (.iload 7, 2) := by decide +kernel
theorem dX11_samples_85 : decode cX11_samples 85 = .ok (.aload_n 0, 1) := by decide +kernel
theorem dX11_samples_86 : decode cX11_samples 86 = .ok (.getfield 87, 3) := by decide +kernel
theorem dX11_samples_89 : decode cX11_samples 89 = .ok (.iload 10, 2) := by decide +kernel
theorem dX11_samples_91 : decode cX11_samples 91 = .ok (.iaload, 1) := by decide +kernel
theorem dX11_samples_92 : decode cX11_samples 92 = .ok (.ifCond .ne 20, 3) := by decide +kernel
theorem dX11_samples_95 : decode cX11_samples 95 = .ok (.aload_n 0, 1) := by decide +kernel
theorem dX11_samples_96 : decode cX11_samples 96 = .ok (.iload 10, 2) := by decide +kernel
theorem dX11_samples_98 : decode cX11_samples 98 = .ok (.iload_n 1, 1) := by decide +kernel
theorem dX11_samples_99 : decode cX11_samples 99 = .ok (.invokevirtual 251, 3) := by decide +kernel
theorem dX11_samples_102 : decode cX11_samples 102 = .ok (.ifCond .le 10, 3) := by decide +kernel
theorem dX11_samples_105 : decode cX11_samples 105 = .ok (.iconst 1, 1) := by decide +kernel
theorem dX11_samples_106 : decode cX11_samples 106 = .ok (.iload 10, 2) := by decide +kernel
theorem dX11_samples_108 : decode cX11_samples 108 = .ok (.ishl, 1) := by decide +kernel
theorem dX11_samples_109 : decode cX11_samples 109 = .ok (.goto 4, 3) := by decide +kernel
theorem dX11_samples_112 : decode cX11_samples 112 = .ok (.iconst 0, 1) := by decide +kernel
theorem dX11_samples_113 : decode cX11_samples 113 = .ok (.ior, 1) := by decide +kernel
theorem dX11_samples_114 : decode cX11_samples 114 = .ok (.istore 7, 2) := by decide +kernel
theorem dX11_samples_116 : decode cX11_samples 116 = .ok (.iload 8, 2) := by decide +kernel
theorem dX11_samples_118 : decode cX11_samples 118 = .ok (.aload_n 0, 1) := by decide +kernel
theorem dX11_samples_119 : decode cX11_samples 119 = .ok (.getfield 87, 3) := by decide +kernel
theorem dX11_samples_122 : decode cX11_samples 122 = .ok (.iload 10, 2) := by decide +kernel
theorem dX11_samples_124 : decode cX11_samples 124 = .ok (.iaload, 1) := by decide +kernel
theorem dX11_samples_125 : decode cX11_samples 125 = .ok (.ifCond .le 20, 3) := by decide +kernel
theorem dX11_samples_128 : decode cX11_samples 128 = .ok (.aload_n 0, 1) := by decide +kernel
theorem dX11_samples_129 : decode cX11_samples 129 = .ok (.iload 10, 2) := by decide +kernel
theorem dX11_samples_131 : decode cX11_samples 131 = .ok (.iload_n 1, 1) := by decide +kernel
theorem dX11_samples_132 : decode cX11_samples 132 = .ok (.invokevirtual 251, 3) := by decide +kernel
theorem dX11_samples_135 : decode cX11_samples 135 = .ok (.ifCond .ne 10, 3) := by decide +kernel
theorem dX11_samples_138 : decode cX11_samples 138 = .ok (.iconst 1, 1) := by decide +kernel
theorem dX11_samples_139 : decode cX11_samples 139 = .ok (.iload 10, 2) := by decide +kernel
theorem dX11_samples_141 : decode cX11_samples 141 = .ok (.ishl, 1) := by decide +kernel
theorem dX11_samples_142 : decode cX11_samples 142 = .ok (.goto 4, 3) := by decide +kernel
theorem dX11_samples_145 : decode cX11_samples 145 = .ok (.iconst 0, 1) := by decide +kernel
theorem dX11_samples_146 : decode cX11_samples 146 = .ok (.ior, 1) := by decide +kernel
theorem dX11_samples_147 : decode cX11_samples 147 = .ok (.istore 8, 2) := by decide +kernel
theorem dX11_samples_149 : decode cX11_samples 149 = .ok (.aload_n 0, 1) := by decide +kernel
theorem dX11_samples_150 : decode cX11_samples 150 = .ok (.getfield 87, 3) := by decide +kernel
theorem dX11_samples_153 : decode cX11_samples 153 = .ok (.iload 10, 2) := by decide +kernel
theorem dX11_samples_155 : decode cX11_samples 155 = .ok (.iaload, 1) := by decide +kernel
theorem dX11_samples_156 : decode cX11_samples 156 = .ok (.ifCond .le 32, 3) := by decide +kernel
theorem dX11_samples_159 : decode cX11_samples 159 = .ok (.iload 9, 2) := by decide +kernel
theorem dX11_samples_161 : decode cX11_samples 161 = .ok (.bipush (-4), 2) := by decide +kernel
theorem dX11_samples_163 : decode cX11_samples 163 = .ok (.if_icmp .eq 20, 3) := by decide +kernel
theorem dX11_samples_166 : decode cX11_samples 166 = .ok (.aload_n 0, 1) := by decide +kernel
theorem dX11_samples_167 : decode cX11_samples 167 = .ok (.getfield 87, 3) := by decide +kernel
theorem dX11_samples_170 : decode cX11_samples 170 = .ok (.iload 10, 2) := by decide +kernel
theorem dX11_samples_172 : decode cX11_samples 172 = .ok (.iaload, 1) := by decide +kernel
theorem dX11_samples_173 : decode cX11_samples 173 = .ok (.aload_n 0, 1) := by decide +kernel
theorem dX11_samples_174 : decode cX11_samples 174 = .ok (.getfield 87, 3) := by decide +kernel
theorem dX11_samples_177 : decode cX11_samples 177 = .ok (.iload 9, 2) := by decide +kernel
theorem dX11_samples_179 : decode cX11_samples 179 = .ok (.iaload, 1) := by decide +kernel
theorem dX11_samples_180 : decode cX11_samples 180 = .ok (.if_icmp .le 8, 3) := by decide +kernel
theorem dX11_samples_183 : decode cX11_samples 183 = .ok (.iload 10, 2) := by decide +kernel
theorem dX11_samples_185 : decode cX11_samples 185 = .ok (.goto 5, 3) := by decide +kernel
theorem dX11_samples_188 : decode cX11_samples 188 = .ok (.iload 9, 2) := by decide +kernel
theorem dX11_samples_190 : decode cX11_samples 190 = .ok (.istore 9, 2) := by decide +kernel
theorem dX11_samples_192 : decode cX11_samples 192 = .ok (.iinc 10 1, 3) := by decide +kernel
theorem dX11_samples_195 : decode cX11_samples 195 = .ok (.goto (-144), 3) := by decide +kernel
theorem dX11_samples_198 : decode cX11_samples 198 = .ok (.iload 5, 2) := by decide +kernel
theorem dX11_samples_200 : decode cX11_samples 200 = .ok (.tableswitch 55 0 4 #[36, 41, 46, 49, 52], 36) := by decide +kernel
theorem dX11_samples_236 : decode cX11_samples 236 = .ok (.aload_n 0, 1) := by decide +kernel
theorem dX11_samples_237 : decode cX11_samples 237 = .ok (.getfield 325, 3) := by decide +kernel
theorem dX11_samples_240 : decode cX11_samples 240 = .ok (.ireturn, 1) := by decide +kernel
theorem dX11_samples_241 : decode cX11_samples 241 = .ok (.aload_n 0, 1) := by decide +kernel
theorem dX11_samples_242 : decode cX11_samples 242 = .ok (.getfield 328, 3) := by decide +kernel
theorem dX11_samples_245 : decode cX11_samples 245 = .ok (.ireturn, 1) := by decide +kernel
theorem dX11_samples_246 : decode cX11_samples 246 = .ok (.iload 6, 2) := by decide +kernel
theorem dX11_samples_248 : decode cX11_samples 248 = .ok (.ireturn, 1) := by decide +kernel
theorem dX11_samples_249 : decode cX11_samples 249 = .ok (.iload 7, 2) := by decide +kernel
theorem dX11_samples_251 : decode cX11_samples 251 = .ok (.ireturn, 1) := by decide +kernel
theorem dX11_samples_252 : decode cX11_samples 252 = .ok (.iload 8, 2) := by decide +kernel
theorem dX11_samples_254 : decode cX11_samples 254 = .ok (.ireturn, 1) := by decide +kernel
theorem dX11_samples_255 : decode cX11_samples 255 = .ok (.iload 9, 2) := by decide +kernel
theorem dX11_samples_257 : decode cX11_samples 257 = .ok (.ireturn, 1) := by decide +kernel
theorem dX11_farNow_0 : decode cX11_farNow 0 = .ok (.aload_n 0, 1) := by decide +kernel
theorem dX11_farNow_1 : decode cX11_farNow 1 = .ok (.iload_n 1, 1) := by decide +kernel
theorem dX11_farNow_2 : decode cX11_farNow 2 = .ok (.invokevirtual 257, 3) := by decide +kernel
theorem dX11_farNow_5 : decode cX11_farNow 5 = .ok (.i2l, 1) := by decide +kernel
theorem dX11_farNow_6 : decode cX11_farNow 6 = .ok (.lstore_n 2, 1) := by decide +kernel
theorem dX11_farNow_7 : decode cX11_farNow 7 = .ok (.lconst 0, 1) := by decide +kernel
theorem dX11_farNow_8 : decode cX11_farNow 8 = .ok (.lstore 4, 2) := by decide +kernel
theorem dX11_farNow_10 : decode cX11_farNow 10 = .ok (.iconst 0, 1) := by decide +kernel
theorem dX11_farNow_11 : decode cX11_farNow 11 = .ok (.istore 6, 2) := by decide +kernel
theorem dX11_farNow_13 : decode cX11_farNow 13 = .ok (.iload 6, 2) := by decide +kernel
theorem dX11_farNow_15 : decode cX11_farNow 15 = .ok (.aload_n 0, 1) := by decide +kernel
theorem dX11_farNow_16 : decode cX11_farNow 16 = .ok (.getfield 203, 3) := by decide +kernel
theorem dX11_farNow_19 : decode cX11_farNow 19 = .ok (.if_icmp .ge 56, 3) := by decide +kernel
theorem dX11_farNow_22 : decode cX11_farNow 22 = .ok (.lload 4, 2) := by decide +kernel
theorem dX11_farNow_24 : decode cX11_farNow 24 = .ok (.aload_n 0, 1) := by decide +kernel
theorem dX11_farNow_25 : decode cX11_farNow 25 = .ok (.getfield 87, 3) := by decide +kernel
theorem dX11_farNow_28 : decode cX11_farNow 28 = .ok (.iload 6, 2) := by decide +kernel
theorem dX11_farNow_30 : decode cX11_farNow 30 = .ok (.iaload, 1) := by decide +kernel
theorem dX11_farNow_31 : decode cX11_farNow 31 = .ok (.i2l, 1) := by decide +kernel
theorem dX11_farNow_32 : decode cX11_farNow 32 = .ok (.lload_n 2, 1) := by decide +kernel
theorem dX11_farNow_33 : decode cX11_farNow 33 = .ok (.lmul, 1) := by decide +kernel
theorem dX11_farNow_34 : decode cX11_farNow 34 = .ok (.aload_n 0, 1) := by decide +kernel
theorem dX11_farNow_35 : decode cX11_farNow 35 = .ok (.getfield 28, 3) := by decide +kernel
theorem dX11_farNow_38 : decode cX11_farNow 38 = .ok (.iload 6, 2) := by decide +kernel
theorem dX11_farNow_40 : decode cX11_farNow 40 = .ok (.iaload, 1) := by decide +kernel
theorem dX11_farNow_41 : decode cX11_farNow 41 = .ok (.i2l, 1) := by decide +kernel
theorem dX11_farNow_42 : decode cX11_farNow 42 = .ok (.aload_n 0, 1) := by decide +kernel
theorem dX11_farNow_43 : decode cX11_farNow 43 = .ok (.iload 6, 2) := by decide +kernel
theorem dX11_farNow_45 : decode cX11_farNow 45 = .ok (.iload_n 1, 1) := by decide +kernel
theorem dX11_farNow_46 : decode cX11_farNow 46 = .ok (.invokevirtual 251, 3) := by decide +kernel
theorem dX11_farNow_49 : decode cX11_farNow 49 = .ok (.i2l, 1) := by decide +kernel
theorem dX11_farNow_50 : decode cX11_farNow 50 = .ok (.lmul, 1) := by decide +kernel
theorem dX11_farNow_51 : decode cX11_farNow 51 = .ok (.aload_n 0, 1) := by decide +kernel
theorem dX11_farNow_52 : decode cX11_farNow 52 = .ok (.getfield 325, 3) := by decide +kernel
theorem dX11_farNow_55 : decode cX11_farNow 55 = .ok (.aload_n 0, 1) := by decide +kernel
theorem dX11_farNow_56 : decode cX11_farNow 56 = .ok (.getfield 328, 3) := by decide +kernel
theorem dX11_farNow_59 : decode cX11_farNow 59 = .ok (.isub, 1) := by decide +kernel
theorem dX11_farNow_60 : decode cX11_farNow 60 = .ok (.i2l, 1) := by decide +kernel
theorem dX11_farNow_61 : decode cX11_farNow 61 = .ok (.lmul, 1) := by decide +kernel
theorem dX11_farNow_62 : decode cX11_farNow 62 = .ok (.lsub, 1) := by decide +kernel
theorem dX11_farNow_63 : decode cX11_farNow 63 = .ok (.invokestatic 111, 3) := by decide +kernel
theorem dX11_farNow_66 : decode cX11_farNow 66 = .ok (.ladd, 1) := by decide +kernel
theorem dX11_farNow_67 : decode cX11_farNow 67 = .ok (.lstore 4, 2) := by decide +kernel
theorem dX11_farNow_69 : decode cX11_farNow 69 = .ok (.iinc 6 1, 3) := by decide +kernel
theorem dX11_farNow_72 : decode cX11_farNow 72 = .ok (.goto (-59), 3) := by decide +kernel
theorem dX11_farNow_75 : decode cX11_farNow 75 = .ok (.lload 4, 2) := by decide +kernel
theorem dX11_farNow_77 : decode cX11_farNow 77 = .ok (.lreturn, 1) := by decide +kernel
theorem dX11_far_0 : decode cX11_far 0 = .ok (.iload_n 1, 1) := by decide +kernel
theorem dX11_far_1 : decode cX11_far 1 = .ok (.iload_n 2, 1) := by decide +kernel
theorem dX11_far_2 : decode cX11_far 2 = .ok (.iload_n 3, 1) := by decide +kernel
theorem dX11_far_3 : decode cX11_far 3 = .ok (.iload 4, 2) := by decide +kernel
theorem dX11_far_5 : decode cX11_far 5 = .ok (.invokestatic 335, 3) := by decide +kernel
theorem dX11_far_8 : decode cX11_far 8 = .ok (.ifCond .eq 14, 3) := by decide +kernel
theorem dX11_far_11 : decode cX11_far 11 = .ok (.iload 5, 2) := by decide +kernel
theorem dX11_far_13 : decode cX11_far 13 = .ok (.i2l, 1) := by decide +kernel
theorem dX11_far_14 : decode cX11_far 14 = .ok (.lconst 0, 1) := by decide +kernel
theorem dX11_far_15 : decode cX11_far 15 = .ok (.lconst 1, 1) := by decide +kernel
theorem dX11_far_16 : decode cX11_far 16 = .ok (.invokestatic 124, 3) := by decide +kernel
theorem dX11_far_19 : decode cX11_far 19 = .ok (.ifCond .ne 7, 3) := by decide +kernel
theorem dX11_far_22 : decode cX11_far 22 = .ok (.ldc2_w 345, 3) := by decide +kernel
theorem dX11_far_25 : decode cX11_far 25 = .ok (.lreturn, 1) := by decide +kernel
theorem dX11_far_26 : decode cX11_far 26 = .ok (.aload_n 0, 1) := by decide +kernel
theorem dX11_far_27 : decode cX11_far 27 = .ok (.iload_n 1, 1) := by decide +kernel
theorem dX11_far_28 : decode cX11_far 28 = .ok (.iload_n 2, 1) := by decide +kernel
theorem dX11_far_29 : decode cX11_far 29 = .ok (.iload_n 3, 1) := by decide +kernel
theorem dX11_far_30 : decode cX11_far 30 = .ok (.iload 4, 2) := by decide +kernel
theorem dX11_far_32 : decode cX11_far 32 = .ok (.invokevirtual 339, 3) := by decide +kernel
theorem dX11_far_35 : decode cX11_far 35 = .ok (.aload_n 0, 1) := by decide +kernel
theorem dX11_far_36 : decode cX11_far 36 = .ok (.getfield 325, 3) := by decide +kernel
theorem dX11_far_39 : decode cX11_far 39 = .ok (.aload_n 0, 1) := by decide +kernel
theorem dX11_far_40 : decode cX11_far 40 = .ok (.getfield 328, 3) := by decide +kernel
theorem dX11_far_43 : decode cX11_far 43 = .ok (.if_icmp .ne 9, 3) := by decide +kernel
theorem dX11_far_46 : decode cX11_far 46 = .ok (.ldc2_w 347, 3) := by decide +kernel
theorem dX11_far_49 : decode cX11_far 49 = .ok (.goto 30, 3) := by decide +kernel
theorem dX11_far_52 : decode cX11_far 52 = .ok (.aload_n 0, 1) := by decide +kernel
theorem dX11_far_53 : decode cX11_far 53 = .ok (.iload_n 1, 1) := by decide +kernel
theorem dX11_far_54 : decode cX11_far 54 = .ok (.invokevirtual 349, 3) := by decide +kernel
theorem dX11_far_57 : decode cX11_far 57 = .ok (.aload_n 0, 1) := by decide +kernel
theorem dX11_far_58 : decode cX11_far 58 = .ok (.getfield 325, 3) := by decide +kernel
theorem dX11_far_61 : decode cX11_far 61 = .ok (.aload_n 0, 1) := by decide +kernel
theorem dX11_far_62 : decode cX11_far 62 = .ok (.getfield 328, 3) := by decide +kernel
theorem dX11_far_65 : decode cX11_far 65 = .ok (.isub, 1) := by decide +kernel
theorem dX11_far_66 : decode cX11_far 66 = .ok (.i2l, 1) := by decide +kernel
theorem dX11_far_67 : decode cX11_far 67 = .ok (.aload_n 0, 1) := by decide +kernel
theorem dX11_far_68 : decode cX11_far 68 = .ok (.iload_n 1, 1) := by decide +kernel
theorem dX11_far_69 : decode cX11_far 69 = .ok (.invokevirtual 257, 3) := by decide +kernel
theorem dX11_far_72 : decode cX11_far 72 = .ok (.i2l, 1) := by decide +kernel
theorem dX11_far_73 : decode cX11_far 73 = .ok (.lmul, 1) := by decide +kernel
theorem dX11_far_74 : decode cX11_far 74 = .ok (.iload 5, 2) := by decide +kernel
theorem dX11_far_76 : decode cX11_far 76 = .ok (.invokestatic 263, 3) := by decide +kernel
theorem dX11_far_79 : decode cX11_far 79 = .ok (.lreturn, 1) := by decide +kernel
theorem dX11_truest_0 : decode cX11_truest 0 = .ok (.iload_n 1, 1) := by decide +kernel
theorem dX11_truest_1 : decode cX11_truest 1 = .ok (.iload_n 2, 1) := by decide +kernel
theorem dX11_truest_2 : decode cX11_truest 2 = .ok (.iconst 0, 1) := by decide +kernel
theorem dX11_truest_3 : decode cX11_truest 3 = .ok (.iload 4, 2) := by decide +kernel
theorem dX11_truest_5 : decode cX11_truest 5 = .ok (.invokestatic 335, 3) := by decide +kernel
theorem dX11_truest_8 : decode cX11_truest 8 = .ok (.ifCond .eq 25, 3) := by decide +kernel
theorem dX11_truest_11 : decode cX11_truest 11 = .ok (.iload_n 3, 1) := by decide +kernel
theorem dX11_truest_12 : decode cX11_truest 12 = .ok (.i2l, 1) := by decide +kernel
theorem dX11_truest_13 : decode cX11_truest 13 = .ok (.iload_n 2, 1) := by decide +kernel
theorem dX11_truest_14 : decode cX11_truest 14 = .ok (.i2l, 1) := by decide +kernel
theorem dX11_truest_15 : decode cX11_truest 15 = .ok (.ldc2_w 331, 3) := by decide +kernel
theorem dX11_truest_18 : decode cX11_truest 18 = .ok (.invokestatic 124, 3) := by decide +kernel
theorem dX11_truest_21 : decode cX11_truest 21 = .ok (.ifCond .eq 12, 3) := by decide +kernel
theorem dX11_truest_24 : decode cX11_truest 24 = .ok (.iload_n 3, 1) := by decide +kernel
theorem dX11_truest_25 : decode cX11_truest 25 = .ok (.iload_n 2, 1) := by decide +kernel
theorem dX11_truest_26 : decode cX11_truest 26 = .ok (.isub, 1) := by decide +kernel
theorem dX11_truest_27 : decode cX11_truest 27 = .ok (.sipush 199, 3) := by decide +kernel
theorem dX11_truest_30 : decode cX11_truest 30 = .ok (.if_icmp .le 5, 3) := by decide +kernel
theorem dX11_truest_33 : decode cX11_truest 33 = .ok (.iconst (-1), 1) := by decide +kernel
theorem dX11_truest_34 : decode cX11_truest 34 = .ok (.ireturn, 1) := by decide +kernel
theorem dX11_truest_35 : decode cX11_truest 35 = .ok (.bipush (-4), 2) := by decide +kernel
theorem dX11_truest_37 : decode cX11_truest 37 = .ok (.istore 5, 2) := by decide +kernel
theorem dX11_truest_39 : decode cX11_truest 39 = .ok (.lconst 0, 1) := by decide +kernel
theorem dX11_truest_40 : decode cX11_truest 40 = .ok (.lstore 6, 2) := by decide +kernel
theorem dX11_truest_42 : decode cX11_truest 42 = .ok (.lconst 1, 1) := by decide +kernel
theorem dX11_truest_43 : decode cX11_truest 43 = .ok (.lstore 8, 2) := by decide +kernel
theorem dX11_truest_45 : decode cX11_truest 45 = .ok (.iload_n 2, 1) := by decide +kernel
theorem dX11_truest_46 : decode cX11_truest 46 = .ok (.istore 10, 2) := by decide +kernel
theorem dX11_truest_48 : decode cX11_truest 48 = .ok (.iload 10, 2) := by decide +kernel
theorem dX11_truest_50 : decode cX11_truest 50 = .ok (.iload_n 3, 1) := by decide +kernel
theorem dX11_truest_51 : decode cX11_truest 51 = .ok (.if_icmp .gt 123, 3) := by decide +kernel
theorem dX11_truest_54 : decode cX11_truest 54 = .ok (.aload_n 0, 1) := by decide +kernel
theorem dX11_truest_55 : decode cX11_truest 55 = .ok (.iload_n 1, 1) := by decide +kernel
theorem dX11_truest_56 : decode cX11_truest 56 = .ok (.iload 10, 2) := by decide +kernel
theorem dX11_truest_58 : decode cX11_truest 58 = .ok (.iconst 0, 1) := by decide +kernel
theorem dX11_truest_59 : decode cX11_truest 59 = .ok (.iload 4, 2) := by decide +kernel
theorem dX11_truest_61 : decode cX11_truest 61 = .ok (.invokevirtual 339, 3) := by decide +kernel
theorem dX11_truest_64 : decode cX11_truest 64 = .ok (.aload_n 0, 1) := by decide +kernel
theorem dX11_truest_65 : decode cX11_truest 65 = .ok (.iload_n 1, 1) := by decide +kernel
theorem dX11_truest_66 : decode cX11_truest 66 = .ok (.invokevirtual 349, 3) := by decide +kernel
theorem dX11_truest_69 : decode cX11_truest 69 = .ok (.lstore 11, 2) := by decide +kernel
theorem dX11_truest_71 : decode cX11_truest 71 = .ok (.aload_n 0, 1) := by decide +kernel
theorem dX11_truest_72 : decode cX11_truest 72 = .ok (.getfield 325, 3) := by decide +kernel
theorem dX11_truest_75 : decode cX11_truest 75 = .ok (.aload_n 0, 1) := by decide +kernel
theorem dX11_truest_76 : decode cX11_truest 76 = .ok (.getfield 328, 3) := by decide +kernel
theorem dX11_truest_79 : decode cX11_truest 79 = .ok (.if_icmp .le 36, 3) := by decide +kernel
theorem dX11_truest_82 : decode cX11_truest 82 = .ok (.iload 5, 2) := by decide +kernel
theorem dX11_truest_84 : decode cX11_truest 84 = .ok (.bipush (-4), 2) := by decide +kernel
theorem dX11_truest_86 : decode cX11_truest 86 = .ok (.if_icmp .eq 25, 3) := by decide +kernel
theorem dX11_truest_89 : decode cX11_truest 89 = .ok (.lload 11, 2) := by decide +kernel
theorem dX11_truest_91 : decode cX11_truest 91 = .ok (.lload 8, 2) := by decide +kernel
theorem dX11_truest_93 : decode cX11_truest 93 = .ok (.lmul, 1) := by decide +kernel
theorem dX11_truest_94 : decode cX11_truest 94 = .ok (.lload 6, 2) := by decide +kernel
theorem dX11_truest_96 : decode cX11_truest 96 = .ok (.aload_n 0, 1) := by decide +kernel
theorem dX11_truest_97 : decode cX11_truest 97 = .ok (.getfield 325, 3) := by decide +kernel
theorem dX11_truest_100 : decode cX11_truest 100 = .ok (.aload_n 0, 1) := by decide +kernel
theorem dX11_truest_101 : decode cX11_truest 101 = .ok (.getfield 328, 3) := by decide +kernel
theorem dX11_truest_104 : decode cX11_truest 104 = .ok (.isub, 1) := by decide +kernel
theorem dX11_truest_105 : decode cX11_truest 105 = .ok (.i2l, 1) := by decide +kernel
theorem dX11_truest_106 : decode cX11_truest 106 = .ok (.lmul, 1) := by decide +kernel
theorem dX11_truest_107 : decode cX11_truest 107 = .ok (.lcmp, 1) := by decide +kernel
theorem dX11_truest_108 : decode cX11_truest 108 = .ok (.ifCond .ge 7, 3) := by decide +kernel
theorem dX11_truest_111 : decode cX11_truest 111 = .ok (.iconst 1, 1) := by decide +kernel
theorem dX11_truest_112 : decode cX11_truest 112 = .ok (.goto 4, 3) := by decide +kernel
theorem dX11_truest_115 : decode cX11_truest 115 = .ok (.iconst 0, 1) := by decide +kernel
theorem dX11_truest_116 : decode cX11_truest 116 = .ok (.istore 13, 2) := by decide +kernel
theorem dX11_truest_118 : decode cX11_truest 118 = .ok (.iload 13, 2) := by decide +kernel
theorem dX11_truest_120 : decode cX11_truest 120 = .ok (.ifCond .eq 8, 3) := by decide +kernel
theorem dX11_truest_123 : decode cX11_truest 123 = .ok (.iload 10, 2) := by decide +kernel
theorem dX11_truest_125 : decode cX11_truest 125 = .ok (.goto 5, 3) := by decide +kernel
theorem dX11_truest_128 : decode cX11_truest 128 = .ok (.iload 5, 2) := by decide +kernel
theorem dX11_truest_130 : decode cX11_truest 130 = .ok (.istore 5, 2) := by decide +kernel
theorem dX11_truest_132 : decode cX11_truest 132 = .ok (.iload 13, 2) := by decide +kernel
theorem dX11_truest_134 : decode cX11_truest 134 = .ok (.ifCond .eq 8, 3) := by decide +kernel
theorem dX11_truest_137 : decode cX11_truest 137 = .ok (.lload 11, 2) := by decide +kernel
theorem dX11_truest_139 : decode cX11_truest 139 = .ok (.goto 5, 3) := by decide +kernel
theorem dX11_truest_142 : decode cX11_truest 142 = .ok (.lload 6, 2) := by decide +kernel
theorem dX11_truest_144 : decode cX11_truest 144 = .ok (.lstore 6, 2) := by decide +kernel
theorem dX11_truest_146 : decode cX11_truest 146 = .ok (.iload 13, 2) := by decide +kernel
theorem dX11_truest_148 : decode cX11_truest 148 = .ok (.ifCond .eq 16, 3) := by decide +kernel
theorem dX11_truest_151 : decode cX11_truest 151 = .ok (.aload_n 0, 1) := by decide +kernel
theorem dX11_truest_152 : decode cX11_truest 152 = .ok (.getfield 325, 3) := by decide +kernel
theorem dX11_truest_155 : decode cX11_truest 155 = .ok (.aload_n 0, 1) := by decide +kernel
theorem dX11_truest_156 : decode cX11_truest 156 = .ok (.getfield 328, 3) := by decide +kernel
theorem dX11_truest_159 : decode cX11_truest 159 = .ok (.isub, 1) := by decide +kernel
theorem dX11_truest_160 : decode cX11_truest 160 = .ok (.i2l, 1) := by decide +kernel
theorem dX11_truest_161 : decode cX11_truest 161 = .ok (.goto 5, 3) := by decide +kernel
theorem dX11_truest_164 : decode cX11_truest 164 = .ok (.lload 8, 2) := by decide +kernel
theorem dX11_truest_166 : decode cX11_truest 166 = .ok (.lstore 8, 2) := by decide +kernel
theorem dX11_truest_168 : decode cX11_truest 168 = .ok (.iinc 10 1, 3) := by decide +kernel
theorem dX11_truest_171 : decode cX11_truest 171 = .ok (.goto (-123), 3) := by decide +kernel
theorem dX11_truest_174 : decode cX11_truest 174 = .ok (.iload 5, 2) := by decide +kernel
theorem dX11_truest_176 : decode cX11_truest 176 = .ok (.ireturn, 1) := by decide +kernel
theorem dX11_beats_0 : decode cX11_beats 0 = .ok (.iload_n 1, 1) := by decide +kernel
theorem dX11_beats_1 : decode cX11_beats 1 = .ok (.iload_n 2, 1) := by decide +kernel
theorem dX11_beats_2 : decode cX11_beats 2 = .ok (.iload_n 3, 1) := by decide +kernel
theorem dX11_beats_3 : decode cX11_beats 3 = .ok (.iconst 0, 1) := by decide +kernel
theorem dX11_beats_4 : decode cX11_beats 4 = .ok (.invokestatic 335, 3) := by decide +kernel
theorem dX11_beats_7 : decode cX11_beats 7 = .ok (.ifCond .eq 16, 3) := by decide +kernel
theorem dX11_beats_10 : decode cX11_beats 10 = .ok (.iload 4, 2) := by decide +kernel
theorem dX11_beats_12 : decode cX11_beats 12 = .ok (.i2l, 1) := by decide +kernel
theorem dX11_beats_13 : decode cX11_beats 13 = .ok (.lconst 0, 1) := by decide +kernel
theorem dX11_beats_14 : decode cX11_beats 14 = .ok (.ldc2_w 282, 3) := by decide +kernel
theorem dX11_beats_17 : decode cX11_beats 17 = .ok (.invokestatic 124, 3) := by decide +kernel
theorem dX11_beats_20 : decode cX11_beats 20 = .ok (.ifCond .ne 5, 3) := by decide +kernel
theorem dX11_beats_23 : decode cX11_beats 23 = .ok (.iconst (-1), 1) := by decide +kernel
theorem dX11_beats_24 : decode cX11_beats 24 = .ok (.ireturn, 1) := by decide +kernel
theorem dX11_beats_25 : decode cX11_beats 25 = .ok (.aload_n 0, 1) := by decide +kernel
theorem dX11_beats_26 : decode cX11_beats 26 = .ok (.iload_n 1, 1) := by decide +kernel
theorem dX11_beats_27 : decode cX11_beats 27 = .ok (.invokevirtual 257, 3) := by decide +kernel
theorem dX11_beats_30 : decode cX11_beats 30 = .ok (.istore 5, 2) := by decide +kernel
theorem dX11_beats_32 : decode cX11_beats 32 = .ok (.iload 5, 2) := by decide +kernel
theorem dX11_beats_34 : decode cX11_beats 34 = .ok (.ifCond .ne 5, 3) := by decide +kernel
theorem dX11_beats_37 : decode cX11_beats 37 = .ok (.iconst 0, 1) := by decide +kernel
theorem dX11_beats_38 : decode cX11_beats 38 = .ok (.ireturn, 1) := by decide +kernel
theorem dX11_beats_39 : decode cX11_beats 39 = .ok (.iload_n 2, 1) := by decide +kernel
theorem dX11_beats_40 : decode cX11_beats 40 = .ok (.i2l, 1) := by decide +kernel
theorem dX11_beats_41 : decode cX11_beats 41 = .ok (.iload 5, 2) := by decide +kernel
theorem dX11_beats_43 : decode cX11_beats 43 = .ok (.i2l, 1) := by decide +kernel
theorem dX11_beats_44 : decode cX11_beats 44 = .ok (.invokestatic 115, 3) := by decide +kernel
theorem dX11_beats_47 : decode cX11_beats 47 = .ok (.l2i, 1) := by decide +kernel
theorem dX11_beats_48 : decode cX11_beats 48 = .ok (.istore 6, 2) := by decide +kernel
theorem dX11_beats_50 : decode cX11_beats 50 = .ok (.iconst 0, 1) := by decide +kernel
theorem dX11_beats_51 : decode cX11_beats 51 = .ok (.istore 7, 2) := by decide +kernel
theorem dX11_beats_53 : decode cX11_beats 53 = .ok (.iconst 0, 1) := by decide +kernel
theorem dX11_beats_54 : decode cX11_beats 54 = .ok (.istore 8, 2) := by decide +kernel
theorem dX11_beats_56 : decode cX11_beats 56 = .ok (.iload_n 3, 1) := by decide +kernel
theorem dX11_beats_57 : decode cX11_beats 57 = .ok (.istore 9, 2) := by decide +kernel
theorem dX11_beats_59 : decode cX11_beats 59 = .ok (.iconst 0, 1) := by decide +kernel
theorem dX11_beats_60 : decode cX11_beats 60 = .ok (.istore 10, 2) := by decide +kernel
theorem dX11_beats_62 : decode cX11_beats 62 = .ok (.iload 10, 2) := by decide +kernel
theorem dX11_beats_64 : decode cX11_beats 64 = .ok (.aload_n 0, 1) := by decide +kernel
theorem dX11_beats_65 : decode cX11_beats 65 = .ok (.getfield 225, 3) := by decide +kernel
theorem dX11_beats_68 : decode cX11_beats 68 = .ok (.if_icmp .ge 94, 3) := by decide +kernel
theorem dX11_beats_71 : decode cX11_beats 71 = .ok (.aload_n 0, 1) := by decide +kernel
theorem dX11_beats_72 : decode cX11_beats 72 = .ok (.getfield 25, 3) := by decide +kernel
theorem dX11_beats_75 : decode cX11_beats 75 = .ok (.iload 10, 2) := by decide +kernel
theorem dX11_beats_77 : decode cX11_beats 77 = .ok (.iaload, 1) := by decide +kernel
theorem dX11_beats_78 : decode cX11_beats 78 = .ok (.istore 11, 2) := by decide +kernel
theorem dX11_beats_80 : decode cX11_beats 80 = .ok (.iload 8, 2) := by decide +kernel
theorem dX11_beats_82 : decode cX11_beats 82 = .ok (.aload_n 0, 1) := by decide +kernel
theorem dX11_beats_83 : decode cX11_beats 83 = .ok (.iload 11, 2) := by decide +kernel
theorem dX11_beats_85 : decode cX11_beats 85 = .ok (.iload_n 1, 1) := by decide +kernel
theorem dX11_beats_86 : decode cX11_beats 86 = .ok (.invokevirtual 251, 3) := by decide +kernel
theorem dX11_beats_89 : decode cX11_beats 89 = .ok (.ifCond .le 10, 3) := by decide +kernel
theorem dX11_beats_92 : decode cX11_beats 92 = .ok (.iconst 1, 1) := by decide +kernel
theorem dX11_beats_93 : decode cX11_beats 93 = .ok (.iload 11, 2) := by decide +kernel
theorem dX11_beats_95 : decode cX11_beats 95 = .ok (.ishl, 1) := by decide +kernel
theorem dX11_beats_96 : decode cX11_beats 96 = .ok (.goto 4, 3) := by decide +kernel
theorem dX11_beats_99 : decode cX11_beats 99 = .ok (.iconst 0, 1) := by decide +kernel
theorem dX11_beats_100 : decode cX11_beats 100 = .ok (.ior, 1) := by decide +kernel
theorem dX11_beats_101 : decode cX11_beats 101 = .ok (.istore 8, 2) := by decide +kernel
theorem dX11_beats_103 : decode cX11_beats 103 = .ok (.iload 7, 2) := by decide +kernel
theorem dX11_beats_105 : decode cX11_beats 105 = .ok (.aload_n 0, 1) := by decide +kernel
theorem dX11_beats_106 : decode cX11_beats 106 = .ok (.iload 11, 2) := by decide +kernel
theorem dX11_beats_108 : decode cX11_beats 108 = .ok (.iload_n 1, 1) := by decide +kernel
theorem dX11_beats_109 : decode cX11_beats 109 = .ok (.invokevirtual 251, 3) := by decide +kernel
theorem dX11_beats_112 : decode cX11_beats 112 = .ok (.ifCond .le 28, 3) := by decide +kernel
theorem dX11_beats_115 : decode cX11_beats 115 = .ok (.aload_n 0, 1) := by decide +kernel
theorem dX11_beats_116 : decode cX11_beats 116 = .ok (.iload 11, 2) := by decide +kernel
theorem dX11_beats_118 : decode cX11_beats 118 = .ok (.iload_n 1, 1) := by decide +kernel
theorem dX11_beats_119 : decode cX11_beats 119 = .ok (.invokevirtual 251, 3) := by decide +kernel
theorem dX11_beats_122 : decode cX11_beats 122 = .ok (.iload 6, 2) := by decide +kernel
theorem dX11_beats_124 : decode cX11_beats 124 = .ok (.iload 9, 2) := by decide +kernel
theorem dX11_beats_126 : decode cX11_beats 126 = .ok (.iload 6, 2) := by decide +kernel
theorem dX11_beats_128 : decode cX11_beats 128 = .ok (.irem, 1) := by decide +kernel
theorem dX11_beats_129 : decode cX11_beats 129 = .ok (.isub, 1) := by decide +kernel
theorem dX11_beats_130 : decode cX11_beats 130 = .ok (.if_icmp .lt 10, 3) := by decide +kernel
theorem dX11_beats_133 : decode cX11_beats 133 = .ok (.iconst 1, 1) := by decide +kernel
theorem dX11_beats_134 : decode cX11_beats 134 = .ok (.iload 11, 2) := by decide +kernel
theorem dX11_beats_136 : decode cX11_beats 136 = .ok (.ishl, 1) := by decide +kernel
theorem dX11_beats_137 : decode cX11_beats 137 = .ok (.goto 4, 3) := by decide +kernel
theorem dX11_beats_140 : decode cX11_beats 140 = .ok (.iconst 0, 1) := by decide +kernel
theorem dX11_beats_141 : decode cX11_beats 141 = .ok (.ior, 1) := by decide +kernel
theorem dX11_beats_142 : decode cX11_beats 142 = .ok (.istore 7, 2) := by decide +kernel
theorem dX11_beats_144 : decode cX11_beats 144 = .ok (.iload 9, 2) := by decide +kernel
theorem dX11_beats_146 : decode cX11_beats 146 = .ok (.aload_n 0, 1) := by decide +kernel
theorem dX11_beats_147 : decode cX11_beats 147 = .ok (.iload 11, 2) := by decide +kernel
theorem dX11_beats_149 : decode cX11_beats 149 = .ok (.iload_n 1, 1) := by decide +kernel
theorem dX11_beats_150 : decode cX11_beats 150 = .ok (.invokevirtual 251, 3) := by decide +kernel
theorem dX11_beats_153 : decode cX11_beats 153 = .ok (.iadd, 1) := by decide +kernel
theorem dX11_beats_154 : decode cX11_beats 154 = .ok (.istore 9, 2) := by decide +kernel
theorem dX11_beats_156 : decode cX11_beats 156 = .ok (.iinc 10 1, 3) := by decide +kernel
theorem dX11_beats_159 : decode cX11_beats 159 = .ok (.goto (-97), 3) := by decide +kernel
theorem dX11_beats_162 : decode cX11_beats 162 = .ok (.iload 4, 2) := by decide +kernel
theorem dX11_beats_164 : decode cX11_beats 164 = .ok (.ifCond .ne 8, 3) := by decide +kernel
theorem dX11_beats_167 : decode cX11_beats 167 = .ok (.iload 7, 2) := by decide +kernel
theorem dX11_beats_169 : decode cX11_beats 169 = .ok (.goto 23, 3) := by decide +kernel
theorem dX11_beats_172 : decode cX11_beats 172 = .ok (.iload 4, 2) := by decide +kernel
theorem dX11_beats_174 : decode cX11_beats 174 = .ok (.iconst 1, 1) := by decide +kernel
theorem dX11_beats_175 : decode cX11_beats 175 = .ok (.if_icmp .ne 13, 3) := by decide +kernel
theorem dX11_beats_178 : decode cX11_beats 178 = .ok (.iload 8, 2) := by decide +kernel
theorem dX11_beats_180 : decode cX11_beats 180 = .ok (.iload 7, 2) := by decide +kernel
theorem dX11_beats_182 : decode cX11_beats 182 = .ok (.iconst (-1), 1) := by decide +kernel
theorem dX11_beats_183 : decode cX11_beats 183 = .ok (.ixor, 1) := by decide +kernel
theorem dX11_beats_184 : decode cX11_beats 184 = .ok (.iand, 1) := by decide +kernel
theorem dX11_beats_185 : decode cX11_beats 185 = .ok (.goto 7, 3) := by decide +kernel
theorem dX11_beats_188 : decode cX11_beats 188 = .ok (.iload_n 2, 1) := by decide +kernel
theorem dX11_beats_189 : decode cX11_beats 189 = .ok (.iload 6, 2) := by decide +kernel
theorem dX11_beats_191 : decode cX11_beats 191 = .ok (.idiv, 1) := by decide +kernel
theorem dX11_beats_192 : decode cX11_beats 192 = .ok (.ireturn, 1) := by decide +kernel
theorem dX11_canCount_0 : decode cX11_canCount 0 = .ok (.aload_n 0, 1) := by decide +kernel
theorem dX11_canCount_1 : decode cX11_canCount 1 = .ok (.iload_n 1, 1) := by decide +kernel
theorem dX11_canCount_2 : decode cX11_canCount 2 = .ok (.invokevirtual 279, 3) := by decide +kernel
theorem dX11_canCount_5 : decode cX11_canCount 5 = .ok (.ifCond .eq 28, 3) := by decide +kernel
theorem dX11_canCount_8 : decode cX11_canCount 8 = .ok (.iload_n 2, 1) := by decide +kernel
theorem dX11_canCount_9 : decode cX11_canCount 9 = .ok (.invokestatic 260, 3) := by decide +kernel
theorem dX11_canCount_12 : decode cX11_canCount 12 = .ok (.ifCond .eq 21, 3) := by decide +kernel
theorem dX11_canCount_15 : decode cX11_canCount 15 = .ok (.aload_n 0, 1) := by decide +kernel
theorem dX11_canCount_16 : decode cX11_canCount 16 = .ok (.getfield 71, 3) := by decide +kernel
theorem dX11_canCount_19 : decode cX11_canCount 19 = .ok (.iload_n 1, 1) := by decide +kernel
theorem dX11_canCount_20 : decode cX11_canCount 20 = .ok (.iaload, 1) := by decide +kernel
theorem dX11_canCount_21 : decode cX11_canCount 21 = .ok (.iload_n 2, 1) := by decide +kernel
theorem dX11_canCount_22 : decode cX11_canCount 22 = .ok (.ishr, 1) := by decide +kernel
theorem dX11_canCount_23 : decode cX11_canCount 23 = .ok (.iconst 1, 1) := by decide +kernel
theorem dX11_canCount_24 : decode cX11_canCount 24 = .ok (.iand, 1) := by decide +kernel
theorem dX11_canCount_25 : decode cX11_canCount 25 = .ok (.iconst 1, 1) := by decide +kernel
theorem dX11_canCount_26 : decode cX11_canCount 26 = .ok (.if_icmp .ne 7, 3) := by decide +kernel
theorem dX11_canCount_29 : decode cX11_canCount 29 = .ok (.iconst 1, 1) := by decide +kernel
theorem dX11_canCount_30 : decode cX11_canCount 30 = .ok (.goto 4, 3) := by decide +kernel
theorem dX11_canCount_33 : decode cX11_canCount 33 = .ok (.iconst 0, 1) := by decide +kernel
theorem dX11_canCount_34 : decode cX11_canCount 34 = .ok (.ireturn, 1) := by decide +kernel
theorem dX11_over_0 : decode cX11_over 0 = .ok (.aload_n 0, 1) := by decide +kernel
theorem dX11_over_1 : decode cX11_over 1 = .ok (.iload_n 1, 1) := by decide +kernel
theorem dX11_over_2 : decode cX11_over 2 = .ok (.iload_n 2, 1) := by decide +kernel
theorem dX11_over_3 : decode cX11_over 3 = .ok (.invokevirtual 352, 3) := by decide +kernel
theorem dX11_over_6 : decode cX11_over 6 = .ok (.ifCond .eq 34, 3) := by decide +kernel
theorem dX11_over_9 : decode cX11_over 9 = .ok (.iload_n 3, 1) := by decide +kernel
theorem dX11_over_10 : decode cX11_over 10 = .ok (.i2l, 1) := by decide +kernel
theorem dX11_over_11 : decode cX11_over 11 = .ok (.lconst 0, 1) := by decide +kernel
theorem dX11_over_12 : decode cX11_over 12 = .ok (.iconst 1, 1) := by decide +kernel
theorem dX11_over_13 : decode cX11_over 13 = .ok (.aload_n 0, 1) := by decide +kernel
theorem dX11_over_14 : decode cX11_over 14 = .ok (.getfield 74, 3) := by decide +kernel
theorem dX11_over_17 : decode cX11_over 17 = .ok (.iload_n 1, 1) := by decide +kernel
theorem dX11_over_18 : decode cX11_over 18 = .ok (.iaload, 1) := by decide +kernel
theorem dX11_over_19 : decode cX11_over 19 = .ok (.ishl, 1) := by decide +kernel
theorem dX11_over_20 : decode cX11_over 20 = .ok (.iconst 1, 1) := by decide +kernel
theorem dX11_over_21 : decode cX11_over 21 = .ok (.isub, 1) := by decide +kernel
theorem dX11_over_22 : decode cX11_over 22 = .ok (.i2l, 1) := by decide +kernel
theorem dX11_over_23 : decode cX11_over 23 = .ok (.invokestatic 124, 3) := by decide +kernel
theorem dX11_over_26 : decode cX11_over 26 = .ok (.ifCond .eq 14, 3) := by decide +kernel
theorem dX11_over_29 : decode cX11_over 29 = .ok (.iload 4, 2) := by decide +kernel
theorem dX11_over_31 : decode cX11_over 31 = .ok (.i2l, 1) := by decide +kernel
theorem dX11_over_32 : decode cX11_over 32 = .ok (.lconst 0, 1) := by decide +kernel
theorem dX11_over_33 : decode cX11_over 33 = .ok (.lconst 1, 1) := by decide +kernel
theorem dX11_over_34 : decode cX11_over 34 = .ok (.invokestatic 124, 3) := by decide +kernel
theorem dX11_over_37 : decode cX11_over 37 = .ok (.ifCond .ne 5, 3) := by decide +kernel
theorem dX11_over_40 : decode cX11_over 40 = .ok (.iconst (-1), 1) := by decide +kernel
theorem dX11_over_41 : decode cX11_over 41 = .ok (.ireturn, 1) := by decide +kernel
theorem dX11_over_42 : decode cX11_over 42 = .ok (.iload_n 3, 1) := by decide +kernel
theorem dX11_over_43 : decode cX11_over 43 = .ok (.aload_n 0, 1) := by decide +kernel
theorem dX11_over_44 : decode cX11_over 44 = .ok (.iload_n 2, 1) := by decide +kernel
theorem dX11_over_45 : decode cX11_over 45 = .ok (.invokevirtual 257, 3) := by decide +kernel
theorem dX11_over_48 : decode cX11_over 48 = .ok (.iadd, 1) := by decide +kernel
theorem dX11_over_49 : decode cX11_over 49 = .ok (.istore 5, 2) := by decide +kernel
theorem dX11_over_51 : decode cX11_over 51 = .ok (.iload 4, 2) := by decide +kernel
theorem dX11_over_53 : decode cX11_over 53 = .ok (.ifCond .ne 19, 3) := by decide +kernel
theorem dX11_over_56 : decode cX11_over 56 = .ok (.iload 5, 2) := by decide +kernel
theorem dX11_over_58 : decode cX11_over 58 = .ok (.iconst 1, 1) := by decide +kernel
theorem dX11_over_59 : decode cX11_over 59 = .ok (.aload_n 0, 1) := by decide +kernel
theorem dX11_over_60 : decode cX11_over 60 = .ok (.getfield 74, 3) := by decide +kernel
theorem dX11_over_63 : decode cX11_over 63 = .ok (.iload_n 1, 1) := by decide +kernel
theorem dX11_over_64 : decode cX11_over 64 = .ok (.iaload, 1) := by decide +kernel
theorem dX11_over_65 : decode cX11_over 65 = .ok (.ishl, 1) := by decide +kernel
theorem dX11_over_66 : decode cX11_over 66 = .ok (.iconst 1, 1) := by decide +kernel
theorem dX11_over_67 : decode cX11_over 67 = .ok (.isub, 1) := by decide +kernel
theorem dX11_over_68 : decode cX11_over 68 = .ok (.iand, 1) := by decide +kernel
theorem dX11_over_69 : decode cX11_over 69 = .ok (.goto 12, 3) := by decide +kernel
theorem dX11_over_72 : decode cX11_over 72 = .ok (.iload 5, 2) := by decide +kernel
theorem dX11_over_74 : decode cX11_over 74 = .ok (.aload_n 0, 1) := by decide +kernel
theorem dX11_over_75 : decode cX11_over 75 = .ok (.getfield 74, 3) := by decide +kernel
theorem dX11_over_78 : decode cX11_over 78 = .ok (.iload_n 1, 1) := by decide +kernel
theorem dX11_over_79 : decode cX11_over 79 = .ok (.iaload, 1) := by decide +kernel
theorem dX11_over_80 : decode cX11_over 80 = .ok (.ishr, 1) := by decide +kernel
theorem dX11_over_81 : decode cX11_over 81 = .ok (.ireturn, 1) := by decide +kernel
theorem dX11_toldBy_0 : decode cX11_toldBy 0 = .ok (.iconst 1, 1) := by decide +kernel
theorem dX11_toldBy_1 : decode cX11_toldBy 1 = .ok (.aload_n 0, 1) := by decide +kernel
theorem dX11_toldBy_2 : decode cX11_toldBy 2 = .ok (.getfield 74, 3) := by decide +kernel
theorem dX11_toldBy_5 : decode cX11_toldBy 5 = .ok (.iload_n 1, 1) := by decide +kernel
theorem dX11_toldBy_6 : decode cX11_toldBy 6 = .ok (.iaload, 1) := by decide +kernel
theorem dX11_toldBy_7 : decode cX11_toldBy 7 = .ok (.ishl, 1) := by decide +kernel
theorem dX11_toldBy_8 : decode cX11_toldBy 8 = .ok (.istore 4, 2) := by decide +kernel
theorem dX11_toldBy_10 : decode cX11_toldBy 10 = .ok (.iconst 0, 1) := by decide +kernel
theorem dX11_toldBy_11 : decode cX11_toldBy 11 = .ok (.istore 5, 2) := by decide +kernel
theorem dX11_toldBy_13 : decode cX11_toldBy 13 = .ok (.iconst 0, 1) := by decide +kernel
theorem dX11_toldBy_14 : decode cX11_toldBy 14 = .ok (.istore 6, 2) := by decide +kernel
theorem dX11_toldBy_16 : decode cX11_toldBy 16 = .ok (.iconst 0, 1) := by decide +kernel
theorem dX11_toldBy_17 : decode cX11_toldBy 17 = .ok (.istore 7, 2) := by decide +kernel
theorem dX11_toldBy_19 : decode cX11_toldBy 19 = .ok (.iconst 0, 1) := by decide +kernel
theorem dX11_toldBy_20 : decode cX11_toldBy 20 = .ok (.istore 8, 2) := by decide +kernel
theorem dX11_toldBy_22 : decode cX11_toldBy 22 = .ok (.aload_n 0, 1) := by decide +kernel
theorem dX11_toldBy_23 : decode cX11_toldBy 23 = .ok (.iconst 1, 1) := by decide +kernel
theorem dX11_toldBy_24 : decode cX11_toldBy 24 = .ok (.putfield 355, 3) := by decide +kernel
theorem dX11_toldBy_27 : decode cX11_toldBy 27 = .ok (.iconst 0, 1) := by decide +kernel
theorem dX11_toldBy_28 : decode cX11_toldBy 28 = .ok (.istore 9, 2) := by decide +kernel
theorem dX11_toldBy_30 : decode cX11_toldBy 30 = .ok (.iload 9, 2) := by decide +kernel
theorem dX11_toldBy_32 : decode cX11_toldBy 32 = .ok (.aload_n 0, 1) := by decide +kernel
theorem dX11_toldBy_33 : decode cX11_toldBy 33 = .ok (.getfield 225, 3) := by decide +kernel
theorem dX11_toldBy_36 : decode cX11_toldBy 36 = .ok (.if_icmp .ge 86, 3) := by decide +kernel
theorem dX11_toldBy_39 : decode cX11_toldBy 39 = .ok (.iload 9, 2) := by decide +kernel
theorem dX11_toldBy_41 : decode cX11_toldBy 41 = .ok (.ifCond .le 37, 3) := by decide +kernel
theorem dX11_toldBy_44 : decode cX11_toldBy 44 = .ok (.iload 5, 2) := by decide +kernel
theorem dX11_toldBy_46 : decode cX11_toldBy 46 = .ok (.iload_n 3, 1) := by decide +kernel
theorem dX11_toldBy_47 : decode cX11_toldBy 47 = .ok (.idiv, 1) := by decide +kernel
theorem dX11_toldBy_48 : decode cX11_toldBy 48 = .ok (.iload 6, 2) := by decide +kernel
theorem dX11_toldBy_50 : decode cX11_toldBy 50 = .ok (.iload_n 3, 1) := by decide +kernel
theorem dX11_toldBy_51 : decode cX11_toldBy 51 = .ok (.idiv, 1) := by decide +kernel
theorem dX11_toldBy_52 : decode cX11_toldBy 52 = .ok (.if_icmp .eq 26, 3) := by decide +kernel
theorem dX11_toldBy_55 : decode cX11_toldBy 55 = .ok (.aload_n 0, 1) := by decide +kernel
theorem dX11_toldBy_56 : decode cX11_toldBy 56 = .ok (.dup, 1) := by decide +kernel
theorem dX11_toldBy_57 : decode cX11_toldBy 57 = .ok (.getfield 355, 3) := by decide +kernel
theorem dX11_toldBy_60 : decode cX11_toldBy 60 = .ok (.iconst 1, 1) := by decide +kernel
theorem dX11_toldBy_61 : decode cX11_toldBy 61 = .ok (.iadd, 1) := by decide +kernel
theorem dX11_toldBy_62 : decode cX11_toldBy 62 = .ok (.putfield 355, 3) := by decide +kernel
theorem dX11_toldBy_65 : decode cX11_toldBy 65 = .ok (.iload 8, 2) := by decide +kernel
theorem dX11_toldBy_67 : decode cX11_toldBy 67 = .ok (.iload 7, 2) := by decide +kernel
theorem dX11_toldBy_69 : decode cX11_toldBy 69 = .ok (.iload 4, 2) := by decide +kernel
theorem dX11_toldBy_71 : decode cX11_toldBy 71 = .ok (.irem, 1) := by decide +kernel
theorem dX11_toldBy_72 : decode cX11_toldBy 72 = .ok (.iadd, 1) := by decide +kernel
theorem dX11_toldBy_73 : decode cX11_toldBy 73 = .ok (.istore 8, 2) := by decide +kernel
theorem dX11_toldBy_75 : decode cX11_toldBy 75 = .ok (.iconst 0, 1) := by decide +kernel
theorem dX11_toldBy_76 : decode cX11_toldBy 76 = .ok (.istore 7, 2) := by decide +kernel
theorem dX11_toldBy_78 : decode cX11_toldBy 78 = .ok (.iload 5, 2) := by decide +kernel
theorem dX11_toldBy_80 : decode cX11_toldBy 80 = .ok (.istore 6, 2) := by decide +kernel
theorem dX11_toldBy_82 : decode cX11_toldBy 82 = .ok (.iload 7, 2) := by decide +kernel
theorem dX11_toldBy_84 : decode cX11_toldBy 84 = .ok (.aload_n 0, 1) := by decide +kernel
theorem dX11_toldBy_85 : decode cX11_toldBy 85 = .ok (.aload_n 0, 1) := by decide +kernel
theorem dX11_toldBy_86 : decode cX11_toldBy 86 = .ok (.getfield 25, 3) := by decide +kernel
theorem dX11_toldBy_89 : decode cX11_toldBy 89 = .ok (.iload 9, 2) := by decide +kernel
theorem dX11_toldBy_91 : decode cX11_toldBy 91 = .ok (.iaload, 1) := by decide +kernel
theorem dX11_toldBy_92 : decode cX11_toldBy 92 = .ok (.iload_n 2, 1) := by decide +kernel
theorem dX11_toldBy_93 : decode cX11_toldBy 93 = .ok (.invokevirtual 251, 3) := by decide +kernel
theorem dX11_toldBy_96 : decode cX11_toldBy 96 = .ok (.iadd, 1) := by decide +kernel
theorem dX11_toldBy_97 : decode cX11_toldBy 97 = .ok (.istore 7, 2) := by decide +kernel
theorem dX11_toldBy_99 : decode cX11_toldBy 99 = .ok (.iload 5, 2) := by decide +kernel
theorem dX11_toldBy_101 : decode cX11_toldBy 101 = .ok (.aload_n 0, 1) := by decide +kernel
theorem dX11_toldBy_102 : decode cX11_toldBy 102 = .ok (.getfield 7, 3) := by decide +kernel
theorem dX11_toldBy_105 : decode cX11_toldBy 105 = .ok (.aload_n 0, 1) := by decide +kernel
theorem dX11_toldBy_106 : decode cX11_toldBy 106 = .ok (.getfield 25, 3) := by decide +kernel
theorem dX11_toldBy_109 : decode cX11_toldBy 109 = .ok (.iload 9, 2) := by decide +kernel
theorem dX11_toldBy_111 : decode cX11_toldBy 111 = .ok (.iaload, 1) := by decide +kernel
theorem dX11_toldBy_112 : decode cX11_toldBy 112 = .ok (.iaload, 1) := by decide +kernel
theorem dX11_toldBy_113 : decode cX11_toldBy 113 = .ok (.iadd, 1) := by decide +kernel
theorem dX11_toldBy_114 : decode cX11_toldBy 114 = .ok (.istore 5, 2) := by decide +kernel
theorem dX11_toldBy_116 : decode cX11_toldBy 116 = .ok (.iinc 9 1, 3) := by decide +kernel
theorem dX11_toldBy_119 : decode cX11_toldBy 119 = .ok (.goto (-89), 3) := by decide +kernel
theorem dX11_toldBy_122 : decode cX11_toldBy 122 = .ok (.iload 8, 2) := by decide +kernel
theorem dX11_toldBy_124 : decode cX11_toldBy 124 = .ok (.iload 7, 2) := by decide +kernel
theorem dX11_toldBy_126 : decode cX11_toldBy 126 = .ok (.iload 4, 2) := by decide +kernel
theorem dX11_toldBy_128 : decode cX11_toldBy 128 = .ok (.irem, 1) := by decide +kernel
theorem dX11_toldBy_129 : decode cX11_toldBy 129 = .ok (.iadd, 1) := by decide +kernel
theorem dX11_toldBy_130 : decode cX11_toldBy 130 = .ok (.ireturn, 1) := by decide +kernel
theorem dX11_looked_0 : decode cX11_looked 0 = .ok (.aload_n 0, 1) := by decide +kernel
theorem dX11_looked_1 : decode cX11_looked 1 = .ok (.iload_n 1, 1) := by decide +kernel
theorem dX11_looked_2 : decode cX11_looked 2 = .ok (.iload_n 2, 1) := by decide +kernel
theorem dX11_looked_3 : decode cX11_looked 3 = .ok (.invokevirtual 352, 3) := by decide +kernel
theorem dX11_looked_6 : decode cX11_looked 6 = .ok (.ifCond .eq 28, 3) := by decide +kernel
theorem dX11_looked_9 : decode cX11_looked 9 = .ok (.iload_n 3, 1) := by decide +kernel
theorem dX11_looked_10 : decode cX11_looked 10 = .ok (.i2l, 1) := by decide +kernel
theorem dX11_looked_11 : decode cX11_looked 11 = .ok (.lconst 1, 1) := by decide +kernel
theorem dX11_looked_12 : decode cX11_looked 12 = .ok (.ldc2_w 313, 3) := by decide +kernel
theorem dX11_looked_15 : decode cX11_looked 15 = .ok (.invokestatic 124, 3) := by decide +kernel
theorem dX11_looked_18 : decode cX11_looked 18 = .ok (.ifCond .eq 16, 3) := by decide +kernel
theorem dX11_looked_21 : decode cX11_looked 21 = .ok (.iload 4, 2) := by decide +kernel
theorem dX11_looked_23 : decode cX11_looked 23 = .ok (.i2l, 1) := by decide +kernel
theorem dX11_looked_24 : decode cX11_looked 24 = .ok (.lconst 0, 1) := by decide +kernel
theorem dX11_looked_25 : decode cX11_looked 25 = .ok (.ldc2_w 282, 3) := by decide +kernel
theorem dX11_looked_28 : decode cX11_looked 28 = .ok (.invokestatic 124, 3) := by decide +kernel
theorem dX11_looked_31 : decode cX11_looked 31 = .ok (.ifCond .ne 5, 3) := by decide +kernel
theorem dX11_looked_34 : decode cX11_looked 34 = .ok (.iconst (-1), 1) := by decide +kernel
theorem dX11_looked_35 : decode cX11_looked 35 = .ok (.ireturn, 1) := by decide +kernel
theorem dX11_looked_36 : decode cX11_looked 36 = .ok (.aload_n 0, 1) := by decide +kernel
theorem dX11_looked_37 : decode cX11_looked 37 = .ok (.iload_n 1, 1) := by decide +kernel
theorem dX11_looked_38 : decode cX11_looked 38 = .ok (.iload_n 2, 1) := by decide +kernel
theorem dX11_looked_39 : decode cX11_looked 39 = .ok (.iload_n 3, 1) := by decide +kernel
theorem dX11_looked_40 : decode cX11_looked 40 = .ok (.invokevirtual 358, 3) := by decide +kernel
theorem dX11_looked_43 : decode cX11_looked 43 = .ok (.istore 5, 2) := by decide +kernel
theorem dX11_looked_45 : decode cX11_looked 45 = .ok (.iload 4, 2) := by decide +kernel
theorem dX11_looked_47 : decode cX11_looked 47 = .ok (.ifCond .ne 8, 3) := by decide +kernel
theorem dX11_looked_50 : decode cX11_looked 50 = .ok (.iload 5, 2) := by decide +kernel
theorem dX11_looked_52 : decode cX11_looked 52 = .ok (.goto 24, 3) := by decide +kernel
theorem dX11_looked_55 : decode cX11_looked 55 = .ok (.iload 4, 2) := by decide +kernel
theorem dX11_looked_57 : decode cX11_looked 57 = .ok (.iconst 1, 1) := by decide +kernel
theorem dX11_looked_58 : decode cX11_looked 58 = .ok (.if_icmp .ne 14, 3) := by decide +kernel
theorem dX11_looked_61 : decode cX11_looked 61 = .ok (.aload_n 0, 1) := by decide +kernel
theorem dX11_looked_62 : decode cX11_looked 62 = .ok (.iload_n 2, 1) := by decide +kernel
theorem dX11_looked_63 : decode cX11_looked 63 = .ok (.invokevirtual 257, 3) := by decide +kernel
theorem dX11_looked_66 : decode cX11_looked 66 = .ok (.iload 5, 2) := by decide +kernel
theorem dX11_looked_68 : decode cX11_looked 68 = .ok (.isub, 1) := by decide +kernel
theorem dX11_looked_69 : decode cX11_looked 69 = .ok (.goto 7, 3) := by decide +kernel
theorem dX11_looked_72 : decode cX11_looked 72 = .ok (.aload_n 0, 1) := by decide +kernel
theorem dX11_looked_73 : decode cX11_looked 73 = .ok (.getfield 355, 3) := by decide +kernel
theorem dX11_looked_76 : decode cX11_looked 76 = .ok (.ireturn, 1) := by decide +kernel
theorem dX11_seldom_0 : decode cX11_seldom 0 = .ok (.aload_n 0, 1) := by decide +kernel
theorem dX11_seldom_1 : decode cX11_seldom 1 = .ok (.iload_n 1, 1) := by decide +kernel
theorem dX11_seldom_2 : decode cX11_seldom 2 = .ok (.iload_n 2, 1) := by decide +kernel
theorem dX11_seldom_3 : decode cX11_seldom 3 = .ok (.invokevirtual 352, 3) := by decide +kernel
theorem dX11_seldom_6 : decode cX11_seldom 6 = .ok (.ifCond .ne 5, 3) := by decide +kernel
theorem dX11_seldom_9 : decode cX11_seldom 9 = .ok (.iconst (-1), 1) := by decide +kernel
theorem dX11_seldom_10 : decode cX11_seldom 10 = .ok (.ireturn, 1) := by decide +kernel
theorem dX11_seldom_11 : decode cX11_seldom 11 = .ok (.aload_n 0, 1) := by decide +kernel
theorem dX11_seldom_12 : decode cX11_seldom 12 = .ok (.iload_n 2, 1) := by decide +kernel
theorem dX11_seldom_13 : decode cX11_seldom 13 = .ok (.invokevirtual 257, 3) := by decide +kernel
theorem dX11_seldom_16 : decode cX11_seldom 16 = .ok (.istore_n 3, 1) := by decide +kernel
theorem dX11_seldom_17 : decode cX11_seldom 17 = .ok (.sipush 999, 3) := by decide +kernel
theorem dX11_seldom_20 : decode cX11_seldom 20 = .ok (.istore 4, 2) := by decide +kernel
theorem dX11_seldom_22 : decode cX11_seldom 22 = .ok (.iload 4, 2) := by decide +kernel
theorem dX11_seldom_24 : decode cX11_seldom 24 = .ok (.ifCond .le 24, 3) := by decide +kernel
theorem dX11_seldom_27 : decode cX11_seldom 27 = .ok (.aload_n 0, 1) := by decide +kernel
theorem dX11_seldom_28 : decode cX11_seldom 28 = .ok (.iload_n 1, 1) := by decide +kernel
theorem dX11_seldom_29 : decode cX11_seldom 29 = .ok (.iload_n 2, 1) := by decide +kernel
theorem dX11_seldom_30 : decode cX11_seldom 30 = .ok (.iload 4, 2) := by decide +kernel
theorem dX11_seldom_32 : decode cX11_seldom 32 = .ok (.invokevirtual 358, 3) := by decide +kernel
theorem dX11_seldom_35 : decode cX11_seldom 35 = .ok (.iload_n 3, 1) := by decide +kernel
theorem dX11_seldom_36 : decode cX11_seldom 36 = .ok (.if_icmp .ne 6, 3) := by decide +kernel
theorem dX11_seldom_39 : decode cX11_seldom 39 = .ok (.iload 4, 2) := by decide +kernel
theorem dX11_seldom_41 : decode cX11_seldom 41 = .ok (.ireturn, 1) := by decide +kernel
theorem dX11_seldom_42 : decode cX11_seldom 42 = .ok (.iinc 4 (-1), 3) := by decide +kernel
theorem dX11_seldom_45 : decode cX11_seldom 45 = .ok (.goto (-23), 3) := by decide +kernel
theorem dX11_seldom_48 : decode cX11_seldom 48 = .ok (.bipush (-4), 2) := by decide +kernel
theorem dX11_seldom_50 : decode cX11_seldom 50 = .ok (.ireturn, 1) := by decide +kernel
theorem dX11_run_0 : decode cX11_run 0 = .ok (.aload_n 0, 1) := by decide +kernel
theorem dX11_run_1 : decode cX11_run 1 = .ok (.iload_n 1, 1) := by decide +kernel
theorem dX11_run_2 : decode cX11_run 2 = .ok (.invokevirtual 279, 3) := by decide +kernel
theorem dX11_run_5 : decode cX11_run 5 = .ok (.ifCond .eq 22, 3) := by decide +kernel
theorem dX11_run_8 : decode cX11_run 8 = .ok (.iload_n 2, 1) := by decide +kernel
theorem dX11_run_9 : decode cX11_run 9 = .ok (.invokestatic 260, 3) := by decide +kernel
theorem dX11_run_12 : decode cX11_run 12 = .ok (.ifCond .eq 15, 3) := by decide +kernel
theorem dX11_run_15 : decode cX11_run 15 = .ok (.iload_n 3, 1) := by decide +kernel
theorem dX11_run_16 : decode cX11_run 16 = .ok (.i2l, 1) := by decide +kernel
theorem dX11_run_17 : decode cX11_run 17 = .ok (.lconst 0, 1) := by decide +kernel
theorem dX11_run_18 : decode cX11_run 18 = .ok (.ldc2_w 269, 3) := by decide +kernel
theorem dX11_run_21 : decode cX11_run 21 = .ok (.invokestatic 124, 3) := by decide +kernel
theorem dX11_run_24 : decode cX11_run 24 = .ok (.ifCond .ne 5, 3) := by decide +kernel
theorem dX11_run_27 : decode cX11_run 27 = .ok (.iconst (-1), 1) := by decide +kernel
theorem dX11_run_28 : decode cX11_run 28 = .ok (.ireturn, 1) := by decide +kernel
theorem dX11_run_29 : decode cX11_run 29 = .ok (.aload_n 0, 1) := by decide +kernel
theorem dX11_run_30 : decode cX11_run 30 = .ok (.getfield 222, 3) := by decide +kernel
theorem dX11_run_33 : decode cX11_run 33 = .ok (.bipush 12, 2) := by decide +kernel
theorem dX11_run_35 : decode cX11_run 35 = .ok (.if_icmp .ne 6, 3) := by decide +kernel
theorem dX11_run_38 : decode cX11_run 38 = .ok (.bipush (-3), 2) := by decide +kernel
theorem dX11_run_40 : decode cX11_run 40 = .ok (.ireturn, 1) := by decide +kernel
theorem dX11_run_41 : decode cX11_run 41 = .ok (.aload_n 0, 1) := by decide +kernel
theorem dX11_run_42 : decode cX11_run 42 = .ok (.getfield 90, 3) := by decide +kernel
theorem dX11_run_45 : decode cX11_run 45 = .ok (.aload_n 0, 1) := by decide +kernel
theorem dX11_run_46 : decode cX11_run 46 = .ok (.getfield 222, 3) := by decide +kernel
theorem dX11_run_49 : decode cX11_run 49 = .ok (.iload_n 1, 1) := by decide +kernel
theorem dX11_run_50 : decode cX11_run 50 = .ok (.iastore, 1) := by decide +kernel
theorem dX11_run_51 : decode cX11_run 51 = .ok (.aload_n 0, 1) := by decide +kernel
theorem dX11_run_52 : decode cX11_run 52 = .ok (.getfield 93, 3) := by decide +kernel
theorem dX11_run_55 : decode cX11_run 55 = .ok (.aload_n 0, 1) := by decide +kernel
theorem dX11_run_56 : decode cX11_run 56 = .ok (.getfield 222, 3) := by decide +kernel
theorem dX11_run_59 : decode cX11_run 59 = .ok (.iload_n 2, 1) := by decide +kernel
theorem dX11_run_60 : decode cX11_run 60 = .ok (.iastore, 1) := by decide +kernel
theorem dX11_run_61 : decode cX11_run 61 = .ok (.aload_n 0, 1) := by decide +kernel
theorem dX11_run_62 : decode cX11_run 62 = .ok (.getfield 96, 3) := by decide +kernel
theorem dX11_run_65 : decode cX11_run 65 = .ok (.aload_n 0, 1) := by decide +kernel
theorem dX11_run_66 : decode cX11_run 66 = .ok (.getfield 222, 3) := by decide +kernel
theorem dX11_run_69 : decode cX11_run 69 = .ok (.iload_n 3, 1) := by decide +kernel
