theorem dX10_aligns_0 : decode cX10_aligns 0 = .ok (.iconst 0, 1) := by decide +kernel
theorem dX10_aligns_1 : decode cX10_aligns 1 = .ok (.istore 6, 2) := by decide +kernel
theorem dX10_aligns_3 : decode cX10_aligns 3 = .ok (.iload 6, 2) := by decide +kernel
theorem dX10_aligns_5 : decode cX10_aligns 5 = .ok (.bipush 24, 2) := by decide +kernel
theorem dX10_aligns_7 : decode cX10_aligns 7 = .ok (.if_icmp .ge 15, 3) := by decide +kernel
theorem dX10_aligns_10 : decode cX10_aligns 10 = .ok (.aload 5, 2) := by decide +kernel
theorem dX10_aligns_12 : decode cX10_aligns 12 = .ok (.iload 6, 2) := by decide +kernel
theorem dX10_aligns_14 : decode cX10_aligns 14 = .ok (.iconst (-1), 1) := by decide +kernel
theorem dX10_aligns_15 : decode cX10_aligns 15 = .ok (.iastore, 1) := by decide +kernel
theorem dX10_aligns_16 : decode cX10_aligns 16 = .ok (.iinc 6 1, 3) := by decide +kernel
theorem dX10_aligns_19 : decode cX10_aligns 19 = .ok (.goto (-16), 3) := by decide +kernel
theorem dX10_aligns_22 : decode cX10_aligns 22 = .ok (.aload_n 0, 1) := by decide +kernel
theorem dX10_aligns_23 : decode cX10_aligns 23 = .ok (.iconst 0, 1) := by decide +kernel
theorem dX10_aligns_24 : decode cX10_aligns 24 = .ok (.putfield 193, 3) := by decide +kernel
theorem dX10_aligns_27 : decode cX10_aligns 27 = .ok (.iconst 0, 1) := by decide +kernel
theorem dX10_aligns_28 : decode cX10_aligns 28 = .ok (.istore 6, 2) := by decide +kernel
theorem dX10_aligns_30 : decode cX10_aligns 30 = .ok (.iconst 0, 1) := by decide +kernel
theorem dX10_aligns_31 : decode cX10_aligns 31 = .ok (.istore 7, 2) := by decide +kernel
theorem dX10_aligns_33 : decode cX10_aligns 33 = .ok (.aload_n 0, 1) := by decide +kernel
theorem dX10_aligns_34 : decode cX10_aligns 34 = .ok (.getfield 196, 3) := by decide +kernel
theorem dX10_aligns_37 : decode cX10_aligns 37 = .ok (.iconst 1, 1) := by decide +kernel
theorem dX10_aligns_38 : decode cX10_aligns 38 = .ok (.if_icmp .ne 151, 3) := by decide +kernel
theorem dX10_aligns_41 : decode cX10_aligns 41 = .ok (.aload_n 0, 1) := by decide +kernel
theorem dX10_aligns_42 : decode cX10_aligns 42 = .ok (.aload_n 1, 1) := by decide +kernel
theorem dX10_aligns_43 : decode cX10_aligns 43 = .ok (.iload_n 2, 1) := by decide +kernel
theorem dX10_aligns_44 : decode cX10_aligns 44 = .ok (.aload_n 3, 1) := by decide +kernel
theorem dX10_aligns_45 : decode cX10_aligns 45 = .ok (.iload 4, 2) := by decide +kernel
theorem dX10_aligns_47 : decode cX10_aligns 47 = .ok (.invokevirtual 199, 3) := by decide +kernel
theorem dX10_aligns_50 : decode cX10_aligns 50 = .ok (.iconst 0, 1) := by decide +kernel
theorem dX10_aligns_51 : decode cX10_aligns 51 = .ok (.istore 8, 2) := by decide +kernel
theorem dX10_aligns_53 : decode cX10_aligns 53 = .ok (.iconst 0, 1) := by decide +kernel
theorem dX10_aligns_54 : decode cX10_aligns 54 = .ok (.istore 9, 2) := by decide +kernel
theorem dX10_aligns_56 : decode cX10_aligns 56 = .ok (.iload 9, 2) := by decide +kernel
theorem dX10_aligns_58 : decode cX10_aligns 58 = .ok (.iload_n 2, 1) := by decide +kernel
theorem dX10_aligns_59 : decode cX10_aligns 59 = .ok (.if_icmp .ge 23, 3) := by decide +kernel
theorem dX10_aligns_62 : decode cX10_aligns 62 = .ok (.iload 8, 2) := by decide +kernel
theorem dX10_aligns_64 : decode cX10_aligns 64 = .ok (.aload_n 0, 1) := by decide +kernel
theorem dX10_aligns_65 : decode cX10_aligns 65 = .ok (.getfield 48, 3) := by decide +kernel
theorem dX10_aligns_68 : decode cX10_aligns 68 = .ok (.iload 9, 2) := by decide +kernel
theorem dX10_aligns_70 : decode cX10_aligns 70 = .ok (.iaload, 1) := by decide +kernel
theorem dX10_aligns_71 : decode cX10_aligns 71 = .ok (.invokestatic 182, 3) := by decide +kernel
theorem dX10_aligns_74 : decode cX10_aligns 74 = .ok (.istore 8, 2) := by decide +kernel
theorem dX10_aligns_76 : decode cX10_aligns 76 = .ok (.iinc 9 1, 3) := by decide +kernel
theorem dX10_aligns_79 : decode cX10_aligns 79 = .ok (.goto (-23), 3) := by decide +kernel
theorem dX10_aligns_82 : decode cX10_aligns 82 = .ok (.iconst 0, 1) := by decide +kernel
theorem dX10_aligns_83 : decode cX10_aligns 83 = .ok (.istore 9, 2) := by decide +kernel
theorem dX10_aligns_85 : decode cX10_aligns 85 = .ok (.iload 9, 2) := by decide +kernel
theorem dX10_aligns_87 : decode cX10_aligns 87 = .ok (.iload_n 2, 1) := by decide +kernel
theorem dX10_aligns_88 : decode cX10_aligns 88 = .ok (.if_icmp .ge 101, 3) := by decide +kernel
theorem dX10_aligns_91 : decode cX10_aligns 91 = .ok (.iload 8, 2) := by decide +kernel
theorem dX10_aligns_93 : decode cX10_aligns 93 = .ok (.ifCond .le 90, 3) := by decide +kernel
theorem dX10_aligns_96 : decode cX10_aligns 96 = .ok (.aload_n 0, 1) := by decide +kernel
theorem dX10_aligns_97 : decode cX10_aligns 97 = .ok (.getfield 48, 3) := by decide +kernel
theorem dX10_aligns_100 : decode cX10_aligns 100 = .ok (.iload 9, 2) := by decide +kernel
theorem dX10_aligns_102 : decode cX10_aligns 102 = .ok (.iaload, 1) := by decide +kernel
theorem dX10_aligns_103 : decode cX10_aligns 103 = .ok (.iload 8, 2) := by decide +kernel
theorem dX10_aligns_105 : decode cX10_aligns 105 = .ok (.if_icmp .ne 78, 3) := by decide +kernel
theorem dX10_aligns_108 : decode cX10_aligns 108 = .ok (.aload_n 0, 1) := by decide +kernel
theorem dX10_aligns_109 : decode cX10_aligns 109 = .ok (.getfield 45, 3) := by decide +kernel
theorem dX10_aligns_112 : decode cX10_aligns 112 = .ok (.iload 9, 2) := by decide +kernel
theorem dX10_aligns_114 : decode cX10_aligns 114 = .ok (.iaload, 1) := by decide +kernel
theorem dX10_aligns_115 : decode cX10_aligns 115 = .ok (.iload 7, 2) := by decide +kernel
theorem dX10_aligns_117 : decode cX10_aligns 117 = .ok (.if_icmp .lt 66, 3) := by decide +kernel
theorem dX10_aligns_120 : decode cX10_aligns 120 = .ok (.aload_n 0, 1) := by decide +kernel
theorem dX10_aligns_121 : decode cX10_aligns 121 = .ok (.aload_n 1, 1) := by decide +kernel
theorem dX10_aligns_122 : decode cX10_aligns 122 = .ok (.aload_n 3, 1) := by decide +kernel
theorem dX10_aligns_123 : decode cX10_aligns 123 = .ok (.iload 6, 2) := by decide +kernel
theorem dX10_aligns_125 : decode cX10_aligns 125 = .ok (.iload 9, 2) := by decide +kernel
theorem dX10_aligns_127 : decode cX10_aligns 127 = .ok (.iload 7, 2) := by decide +kernel
theorem dX10_aligns_129 : decode cX10_aligns 129 = .ok (.aload_n 0, 1) := by decide +kernel
theorem dX10_aligns_130 : decode cX10_aligns 130 = .ok (.getfield 45, 3) := by decide +kernel
theorem dX10_aligns_133 : decode cX10_aligns 133 = .ok (.iload 9, 2) := by decide +kernel
theorem dX10_aligns_135 : decode cX10_aligns 135 = .ok (.iaload, 1) := by decide +kernel
theorem dX10_aligns_136 : decode cX10_aligns 136 = .ok (.aload 5, 2) := by decide +kernel
theorem dX10_aligns_138 : decode cX10_aligns 138 = .ok (.invokevirtual 203, 3) := by decide +kernel
theorem dX10_aligns_141 : decode cX10_aligns 141 = .ok (.aload 5, 2) := by decide +kernel
theorem dX10_aligns_143 : decode cX10_aligns 143 = .ok (.iload 9, 2) := by decide +kernel
theorem dX10_aligns_145 : decode cX10_aligns 145 = .ok (.aload_n 0, 1) := by decide +kernel
theorem dX10_aligns_146 : decode cX10_aligns 146 = .ok (.getfield 45, 3) := by decide +kernel
theorem dX10_aligns_149 : decode cX10_aligns 149 = .ok (.iload 9, 2) := by decide +kernel
theorem dX10_aligns_151 : decode cX10_aligns 151 = .ok (.iaload, 1) := by decide +kernel
theorem dX10_aligns_152 : decode cX10_aligns 152 = .ok (.iastore, 1) := by decide +kernel
theorem dX10_aligns_153 : decode cX10_aligns 153 = .ok (.iload 9, 2) := by decide +kernel
theorem dX10_aligns_155 : decode cX10_aligns 155 = .ok (.iconst 1, 1) := by decide +kernel
theorem dX10_aligns_156 : decode cX10_aligns 156 = .ok (.iadd, 1) := by decide +kernel
theorem dX10_aligns_157 : decode cX10_aligns 157 = .ok (.istore 6, 2) := by decide +kernel
theorem dX10_aligns_159 : decode cX10_aligns 159 = .ok (.aload_n 0, 1) := by decide +kernel
theorem dX10_aligns_160 : decode cX10_aligns 160 = .ok (.getfield 45, 3) := by decide +kernel
theorem dX10_aligns_163 : decode cX10_aligns 163 = .ok (.iload 9, 2) := by decide +kernel
theorem dX10_aligns_165 : decode cX10_aligns 165 = .ok (.iaload, 1) := by decide +kernel
theorem dX10_aligns_166 : decode cX10_aligns 166 = .ok (.iconst 1, 1) := by decide +kernel
theorem dX10_aligns_167 : decode cX10_aligns 167 = .ok (.iadd, 1) := by decide +kernel
theorem dX10_aligns_168 : decode cX10_aligns 168 = .ok (.istore 7, 2) := by decide +kernel
theorem dX10_aligns_170 : decode cX10_aligns 170 = .ok (.iinc 8 (-1), 3) := by decide +kernel
theorem dX10_aligns_173 : decode cX10_aligns 173 = .ok (.aload_n 0, 1) := by decide +kernel
theorem dX10_aligns_174 : decode cX10_aligns 174 = .ok (.dup, 1) := by decide +kernel
theorem dX10_aligns_175 : decode cX10_aligns 175 = .ok (.getfield 193, 3) := by decide +kernel
theorem dX10_aligns_178 : decode cX10_aligns 178 = .ok (.iconst 1, 1) := by decide +kernel
theorem dX10_aligns_179 : decode cX10_aligns 179 = .ok (.iadd, 1) := by decide +kernel
theorem dX10_aligns_180 : decode cX10_aligns 180 = .ok (.putfield 193, 3) := by decide +kernel
theorem dX10_aligns_183 : decode cX10_aligns 183 = .ok (.iinc 9 1, 3) := by decide +kernel
theorem dX10_aligns_186 : decode cX10_aligns 186 = .ok (.goto (-101), 3) := by decide +kernel
theorem dX10_aligns_189 : decode cX10_aligns 189 = .ok (.aload_n 0, 1) := by decide +kernel
theorem dX10_aligns_190 : decode cX10_aligns 190 = .ok (.aload_n 1, 1) := by decide +kernel
theorem dX10_aligns_191 : decode cX10_aligns 191 = .ok (.aload_n 3, 1) := by decide +kernel
theorem dX10_aligns_192 : decode cX10_aligns 192 = .ok (.iload 6, 2) := by decide +kernel
theorem dX10_aligns_194 : decode cX10_aligns 194 = .ok (.iload_n 2, 1) := by decide +kernel
theorem dX10_aligns_195 : decode cX10_aligns 195 = .ok (.iload 7, 2) := by decide +kernel
theorem dX10_aligns_197 : decode cX10_aligns 197 = .ok (.iload 4, 2) := by decide +kernel
theorem dX10_aligns_199 : decode cX10_aligns 199 = .ok (.aload 5, 2) := by decide +kernel
theorem dX10_aligns_201 : decode cX10_aligns 201 = .ok (.invokevirtual 203, 3) := by decide +kernel
theorem dX10_aligns_204 : decode cX10_aligns 204 = .ok (.return_, 1) := by decide +kernel
theorem dX10_takes_0 : decode cX10_takes 0 = .ok (.iconst 0, 1) := by decide +kernel
theorem dX10_takes_1 : decode cX10_takes 1 = .ok (.istore_n 3, 1) := by decide +kernel
theorem dX10_takes_2 : decode cX10_takes 2 = .ok (.iload_n 3, 1) := by decide +kernel
theorem dX10_takes_3 : decode cX10_takes 3 = .ok (.aload_n 0, 1) := by decide +kernel
theorem dX10_takes_4 : decode cX10_takes 4 = .ok (.getfield 13, 3) := by decide +kernel
theorem dX10_takes_7 : decode cX10_takes 7 = .ok (.iload_n 1, 1) := by decide +kernel
theorem dX10_takes_8 : decode cX10_takes 8 = .ok (.iaload, 1) := by decide +kernel
theorem dX10_takes_9 : decode cX10_takes 9 = .ok (.if_icmp .ge 23, 3) := by decide +kernel
theorem dX10_takes_12 : decode cX10_takes 12 = .ok (.aload_n 2, 1) := by decide +kernel
theorem dX10_takes_13 : decode cX10_takes 13 = .ok (.iload_n 3, 1) := by decide +kernel
theorem dX10_takes_14 : decode cX10_takes 14 = .ok (.aload_n 0, 1) := by decide +kernel
theorem dX10_takes_15 : decode cX10_takes 15 = .ok (.getfield 7, 3) := by decide +kernel
theorem dX10_takes_18 : decode cX10_takes 18 = .ok (.bipush 24, 2) := by decide +kernel
theorem dX10_takes_20 : decode cX10_takes 20 = .ok (.iload_n 1, 1) := by decide +kernel
theorem dX10_takes_21 : decode cX10_takes 21 = .ok (.imul, 1) := by decide +kernel
theorem dX10_takes_22 : decode cX10_takes 22 = .ok (.iload_n 3, 1) := by decide +kernel
theorem dX10_takes_23 : decode cX10_takes 23 = .ok (.iadd, 1) := by decide +kernel
theorem dX10_takes_24 : decode cX10_takes 24 = .ok (.iaload, 1) := by decide +kernel
theorem dX10_takes_25 : decode cX10_takes 25 = .ok (.iastore, 1) := by decide +kernel
theorem dX10_takes_26 : decode cX10_takes 26 = .ok (.iinc 3 1, 3) := by decide +kernel
theorem dX10_takes_29 : decode cX10_takes 29 = .ok (.goto (-27), 3) := by decide +kernel
theorem dX10_takes_32 : decode cX10_takes 32 = .ok (.aload_n 0, 1) := by decide +kernel
theorem dX10_takes_33 : decode cX10_takes 33 = .ok (.getfield 13, 3) := by decide +kernel
theorem dX10_takes_36 : decode cX10_takes 36 = .ok (.iload_n 1, 1) := by decide +kernel
theorem dX10_takes_37 : decode cX10_takes 37 = .ok (.iaload, 1) := by decide +kernel
theorem dX10_takes_38 : decode cX10_takes 38 = .ok (.ireturn, 1) := by decide +kernel
theorem dX10_distance_0 : decode cX10_distance 0 = .ok (.iload_n 1, 1) := by decide +kernel
theorem dX10_distance_1 : decode cX10_distance 1 = .ok (.invokestatic 126, 3) := by decide +kernel
theorem dX10_distance_4 : decode cX10_distance 4 = .ok (.ifCond .eq 10, 3) := by decide +kernel
theorem dX10_distance_7 : decode cX10_distance 7 = .ok (.iload_n 2, 1) := by decide +kernel
theorem dX10_distance_8 : decode cX10_distance 8 = .ok (.invokestatic 126, 3) := by decide +kernel
theorem dX10_distance_11 : decode cX10_distance 11 = .ok (.ifCond .ne 9, 3) := by decide +kernel
theorem dX10_distance_14 : decode cX10_distance 14 = .ok (.aload_n 0, 1) := by decide +kernel
theorem dX10_distance_15 : decode cX10_distance 15 = .ok (.iconst 1, 1) := by decide +kernel
theorem dX10_distance_16 : decode cX10_distance 16 = .ok (.invokevirtual 130, 3) := by decide +kernel
theorem dX10_distance_19 : decode cX10_distance 19 = .ok (.ireturn, 1) := by decide +kernel
theorem dX10_distance_20 : decode cX10_distance 20 = .ok (.aload_n 0, 1) := by decide +kernel
theorem dX10_distance_21 : decode cX10_distance 21 = .ok (.iload_n 1, 1) := by decide +kernel
theorem dX10_distance_22 : decode cX10_distance 22 = .ok (.aload_n 0, 1) := by decide +kernel
theorem dX10_distance_23 : decode cX10_distance 23 = .ok (.getfield 51, 3) := by decide +kernel
theorem dX10_distance_26 : decode cX10_distance 26 = .ok (.invokevirtual 207, 3) := by decide +kernel
theorem dX10_distance_29 : decode cX10_distance 29 = .ok (.istore_n 3, 1) := by decide +kernel
theorem dX10_distance_30 : decode cX10_distance 30 = .ok (.aload_n 0, 1) := by decide +kernel
theorem dX10_distance_31 : decode cX10_distance 31 = .ok (.iload_n 2, 1) := by decide +kernel
theorem dX10_distance_32 : decode cX10_distance 32 = .ok (.aload_n 0, 1) := by decide +kernel
theorem dX10_distance_33 : decode cX10_distance 33 = .ok (.getfield 54, 3) := by decide +kernel
theorem dX10_distance_36 : decode cX10_distance 36 = .ok (.invokevirtual 207, 3) := by decide +kernel
theorem dX10_distance_39 : decode cX10_distance 39 = .ok (.istore 4, 2) := by decide +kernel
theorem dX10_distance_41 : decode cX10_distance 41 = .ok (.aload_n 0, 1) := by decide +kernel
theorem dX10_distance_42 : decode cX10_distance 42 = .ok (.aload_n 0, 1) := by decide +kernel
theorem dX10_distance_43 : decode cX10_distance 43 = .ok (.getfield 51, 3) := by decide +kernel
theorem dX10_distance_46 : decode cX10_distance 46 = .ok (.aload_n 0, 1) := by decide +kernel
theorem dX10_distance_47 : decode cX10_distance 47 = .ok (.getfield 54, 3) := by decide +kernel
theorem dX10_distance_50 : decode cX10_distance 50 = .ok (.iconst 0, 1) := by decide +kernel
theorem dX10_distance_51 : decode cX10_distance 51 = .ok (.iload_n 3, 1) := by decide +kernel
theorem dX10_distance_52 : decode cX10_distance 52 = .ok (.iconst 0, 1) := by decide +kernel
theorem dX10_distance_53 : decode cX10_distance 53 = .ok (.iload 4, 2) := by decide +kernel
theorem dX10_distance_55 : decode cX10_distance 55 = .ok (.invokevirtual 185, 3) := by decide +kernel
theorem dX10_distance_58 : decode cX10_distance 58 = .ok (.aload_n 0, 1) := by decide +kernel
theorem dX10_distance_59 : decode cX10_distance 59 = .ok (.iload_n 3, 1) := by decide +kernel
theorem dX10_distance_60 : decode cX10_distance 60 = .ok (.iload 4, 2) := by decide +kernel
theorem dX10_distance_62 : decode cX10_distance 62 = .ok (.iadd, 1) := by decide +kernel
theorem dX10_distance_63 : decode cX10_distance 63 = .ok (.iconst 2, 1) := by decide +kernel
theorem dX10_distance_64 : decode cX10_distance 64 = .ok (.aload_n 0, 1) := by decide +kernel
theorem dX10_distance_65 : decode cX10_distance 65 = .ok (.iconst 0, 1) := by decide +kernel
theorem dX10_distance_66 : decode cX10_distance 66 = .ok (.iconst 0, 1) := by decide +kernel
theorem dX10_distance_67 : decode cX10_distance 67 = .ok (.invokevirtual 178, 3) := by decide +kernel
theorem dX10_distance_70 : decode cX10_distance 70 = .ok (.imul, 1) := by decide +kernel
theorem dX10_distance_71 : decode cX10_distance 71 = .ok (.isub, 1) := by decide +kernel
theorem dX10_distance_72 : decode cX10_distance 72 = .ok (.invokevirtual 138, 3) := by decide +kernel
theorem dX10_distance_75 : decode cX10_distance 75 = .ok (.ireturn, 1) := by decide +kernel
theorem dX10_setMode_0 : decode cX10_setMode 0 = .ok (.iload_n 1, 1) := by decide +kernel
theorem dX10_setMode_1 : decode cX10_setMode 1 = .ok (.iconst 0, 1) := by decide +kernel
theorem dX10_setMode_2 : decode cX10_setMode 2 = .ok (.iconst 1, 1) := by decide +kernel
theorem dX10_setMode_3 : decode cX10_setMode 3 = .ok (.invokestatic 119, 3) := by decide +kernel
theorem dX10_setMode_6 : decode cX10_setMode 6 = .ok (.ifCond .ne 9, 3) := by decide +kernel
theorem dX10_setMode_9 : decode cX10_setMode 9 = .ok (.aload_n 0, 1) := by decide +kernel
theorem dX10_setMode_10 : decode cX10_setMode 10 = .ok (.iconst 1, 1) := by decide +kernel
theorem dX10_setMode_11 : decode cX10_setMode 11 = .ok (.invokevirtual 130, 3) := by decide +kernel
theorem dX10_setMode_14 : decode cX10_setMode 14 = .ok (.ireturn, 1) := by decide +kernel
theorem dX10_setMode_15 : decode cX10_setMode 15 = .ok (.aload_n 0, 1) := by decide +kernel
theorem dX10_setMode_16 : decode cX10_setMode 16 = .ok (.getfield 196, 3) := by decide +kernel
theorem dX10_setMode_19 : decode cX10_setMode 19 = .ok (.istore_n 2, 1) := by decide +kernel
theorem dX10_setMode_20 : decode cX10_setMode 20 = .ok (.aload_n 0, 1) := by decide +kernel
theorem dX10_setMode_21 : decode cX10_setMode 21 = .ok (.iload_n 1, 1) := by decide +kernel
theorem dX10_setMode_22 : decode cX10_setMode 22 = .ok (.putfield 196, 3) := by decide +kernel
theorem dX10_setMode_25 : decode cX10_setMode 25 = .ok (.aload_n 0, 1) := by decide +kernel
theorem dX10_setMode_26 : decode cX10_setMode 26 = .ok (.iload_n 2, 1) := by decide +kernel
theorem dX10_setMode_27 : decode cX10_setMode 27 = .ok (.invokevirtual 138, 3) := by decide +kernel
theorem dX10_setMode_30 : decode cX10_setMode 30 = .ok (.ireturn, 1) := by decide +kernel
theorem dX10_tellParts_0 : decode cX10_tellParts 0 = .ok (.aload_n 0, 1) := by decide +kernel
theorem dX10_tellParts_1 : decode cX10_tellParts 1 = .ok (.iconst 0, 1) := by decide +kernel
theorem dX10_tellParts_2 : decode cX10_tellParts 2 = .ok (.putfield 211, 3) := by decide +kernel
theorem dX10_tellParts_5 : decode cX10_tellParts 5 = .ok (.iconst 0, 1) := by decide +kernel
theorem dX10_tellParts_6 : decode cX10_tellParts 6 = .ok (.istore_n 1, 1) := by decide +kernel
theorem dX10_tellParts_7 : decode cX10_tellParts 7 = .ok (.iconst 0, 1) := by decide +kernel
theorem dX10_tellParts_8 : decode cX10_tellParts 8 = .ok (.istore_n 2, 1) := by decide +kernel
theorem dX10_tellParts_9 : decode cX10_tellParts 9 = .ok (.iconst 0, 1) := by decide +kernel
theorem dX10_tellParts_10 : decode cX10_tellParts 10 = .ok (.istore_n 3, 1) := by decide +kernel
theorem dX10_tellParts_11 : decode cX10_tellParts 11 = .ok (.iload_n 3, 1) := by decide +kernel
theorem dX10_tellParts_12 : decode cX10_tellParts 12 = .ok (.aload_n 0, 1) := by decide +kernel
theorem dX10_tellParts_13 : decode cX10_tellParts 13 = .ok (.getfield 214, 3) := by decide +kernel
theorem dX10_tellParts_16 : decode cX10_tellParts 16 = .ok (.if_icmp .gt 143, 3) := by decide +kernel
theorem dX10_tellParts_19 : decode cX10_tellParts 19 = .ok (.iload_n 3, 1) := by decide +kernel
theorem dX10_tellParts_20 : decode cX10_tellParts 20 = .ok (.aload_n 0, 1) := by decide +kernel
theorem dX10_tellParts_21 : decode cX10_tellParts 21 = .ok (.getfield 214, 3) := by decide +kernel
theorem dX10_tellParts_24 : decode cX10_tellParts 24 = .ok (.if_icmp .ne 7, 3) := by decide +kernel
theorem dX10_tellParts_27 : decode cX10_tellParts 27 = .ok (.iconst 1, 1) := by decide +kernel
theorem dX10_tellParts_28 : decode cX10_tellParts 28 = .ok (.goto 4, 3) := by decide +kernel
theorem dX10_tellParts_31 : decode cX10_tellParts 31 = .ok (.iconst 0, 1) := by decide +kernel
theorem dX10_tellParts_32 : decode cX10_tellParts 32 = .ok (.istore 4, 2) := by decide +kernel
theorem dX10_tellParts_34 : decode cX10_tellParts 34 = .ok (.iload 4, 2) := by decide +kernel
theorem dX10_tellParts_36 : decode cX10_tellParts 36 = .ok (.ifCond .ne 12, 3) := by decide +kernel
theorem dX10_tellParts_39 : decode cX10_tellParts 39 = .ok (.aload_n 0, 1) := by decide +kernel
theorem dX10_tellParts_40 : decode cX10_tellParts 40 = .ok (.getfield 63, 3) := by decide +kernel
theorem dX10_tellParts_43 : decode cX10_tellParts 43 = .ok (.iload_n 3, 1) := by decide +kernel
theorem dX10_tellParts_44 : decode cX10_tellParts 44 = .ok (.iaload, 1) := by decide +kernel
theorem dX10_tellParts_45 : decode cX10_tellParts 45 = .ok (.ifCond .lt 108, 3) := by decide +kernel
theorem dX10_tellParts_48 : decode cX10_tellParts 48 = .ok (.iload 4, 2) := by decide +kernel
theorem dX10_tellParts_50 : decode cX10_tellParts 50 = .ok (.ifCond .eq 10, 3) := by decide +kernel
theorem dX10_tellParts_53 : decode cX10_tellParts 53 = .ok (.aload_n 0, 1) := by decide +kernel
theorem dX10_tellParts_54 : decode cX10_tellParts 54 = .ok (.getfield 217, 3) := by decide +kernel
theorem dX10_tellParts_57 : decode cX10_tellParts 57 = .ok (.goto 9, 3) := by decide +kernel
theorem dX10_tellParts_60 : decode cX10_tellParts 60 = .ok (.aload_n 0, 1) := by decide +kernel
theorem dX10_tellParts_61 : decode cX10_tellParts 61 = .ok (.getfield 63, 3) := by decide +kernel
theorem dX10_tellParts_64 : decode cX10_tellParts 64 = .ok (.iload_n 3, 1) := by decide +kernel
theorem dX10_tellParts_65 : decode cX10_tellParts 65 = .ok (.iaload, 1) := by decide +kernel
theorem dX10_tellParts_66 : decode cX10_tellParts 66 = .ok (.istore 5, 2) := by decide +kernel
theorem dX10_tellParts_68 : decode cX10_tellParts 68 = .ok (.iload_n 3, 1) := by decide +kernel
theorem dX10_tellParts_69 : decode cX10_tellParts 69 = .ok (.iload_n 1, 1) := by decide +kernel
theorem dX10_tellParts_70 : decode cX10_tellParts 70 = .ok (.if_icmp .gt 9, 3) := by decide +kernel
theorem dX10_tellParts_73 : decode cX10_tellParts 73 = .ok (.iload 5, 2) := by decide +kernel
theorem dX10_tellParts_75 : decode cX10_tellParts 75 = .ok (.iload_n 2, 1) := by decide +kernel
theorem dX10_tellParts_76 : decode cX10_tellParts 76 = .ok (.if_icmp .le 68, 3) := by decide +kernel
theorem dX10_tellParts_79 : decode cX10_tellParts 79 = .ok (.aload_n 0, 1) := by decide +kernel
theorem dX10_tellParts_80 : decode cX10_tellParts 80 = .ok (.getfield 69, 3) := by decide +kernel
theorem dX10_tellParts_83 : decode cX10_tellParts 83 = .ok (.iconst 4, 1) := by decide +kernel
theorem dX10_tellParts_84 : decode cX10_tellParts 84 = .ok (.aload_n 0, 1) := by decide +kernel
theorem dX10_tellParts_85 : decode cX10_tellParts 85 = .ok (.getfield 211, 3) := by decide +kernel
theorem dX10_tellParts_88 : decode cX10_tellParts 88 = .ok (.imul, 1) := by decide +kernel
theorem dX10_tellParts_89 : decode cX10_tellParts 89 = .ok (.iload_n 1, 1) := by decide +kernel
theorem dX10_tellParts_90 : decode cX10_tellParts 90 = .ok (.iastore, 1) := by decide +kernel
theorem dX10_tellParts_91 : decode cX10_tellParts 91 = .ok (.aload_n 0, 1) := by decide +kernel
theorem dX10_tellParts_92 : decode cX10_tellParts 92 = .ok (.getfield 69, 3) := by decide +kernel
theorem dX10_tellParts_95 : decode cX10_tellParts 95 = .ok (.iconst 4, 1) := by decide +kernel
theorem dX10_tellParts_96 : decode cX10_tellParts 96 = .ok (.aload_n 0, 1) := by decide +kernel
theorem dX10_tellParts_97 : decode cX10_tellParts 97 = .ok (.getfield 211, 3) := by decide +kernel
theorem dX10_tellParts_100 : decode cX10_tellParts 100 = .ok (.imul, 1) := by decide +kernel
theorem dX10_tellParts_101 : decode cX10_tellParts 101 = .ok (.iconst 1, 1) := by decide +kernel
theorem dX10_tellParts_102 : decode cX10_tellParts 102 = .ok (.iadd, 1) := by decide +kernel
theorem dX10_tellParts_103 : decode cX10_tellParts 103 = .ok (.iload_n 3, 1) := by decide +kernel
theorem dX10_tellParts_104 : decode cX10_tellParts 104 = .ok (.iastore, 1) := by decide +kernel
theorem dX10_tellParts_105 : decode cX10_tellParts 105 = .ok (.aload_n 0, 1) := by decide +kernel
theorem dX10_tellParts_106 : decode cX10_tellParts 106 = .ok (.getfield 69, 3) := by decide +kernel
theorem dX10_tellParts_109 : decode cX10_tellParts 109 = .ok (.iconst 4, 1) := by decide +kernel
theorem dX10_tellParts_110 : decode cX10_tellParts 110 = .ok (.aload_n 0, 1) := by decide +kernel
theorem dX10_tellParts_111 : decode cX10_tellParts 111 = .ok (.getfield 211, 3) := by decide +kernel
theorem dX10_tellParts_114 : decode cX10_tellParts 114 = .ok (.imul, 1) := by decide +kernel
theorem dX10_tellParts_115 : decode cX10_tellParts 115 = .ok (.iconst 2, 1) := by decide +kernel
theorem dX10_tellParts_116 : decode cX10_tellParts 116 = .ok (.iadd, 1) := by decide +kernel
theorem dX10_tellParts_117 : decode cX10_tellParts 117 = .ok (.iload_n 2, 1) := by decide +kernel
theorem dX10_tellParts_118 : decode cX10_tellParts 118 = .ok (.iastore, 1) := by decide +kernel
theorem dX10_tellParts_119 : decode cX10_tellParts 119 = .ok (.aload_n 0, 1) := by decide +kernel
theorem dX10_tellParts_120 : decode cX10_tellParts 120 = .ok (.getfield 69, 3) := by decide +kernel
theorem dX10_tellParts_123 : decode cX10_tellParts 123 = .ok (.iconst 4, 1) := by decide +kernel
theorem dX10_tellParts_124 : decode cX10_tellParts 124 = .ok (.aload_n 0, 1) := by decide +kernel
theorem dX10_tellParts_125 : decode cX10_tellParts 125 = .ok (.getfield 211, 3) := by decide +kernel
theorem dX10_tellParts_128 : decode cX10_tellParts 128 = .ok (.imul, 1) := by decide +kernel
theorem dX10_tellParts_129 : decode cX10_tellParts 129 = .ok (.iconst 3, 1) := by decide +kernel
theorem dX10_tellParts_130 : decode cX10_tellParts 130 = .ok (.iadd, 1) := by decide +kernel
theorem dX10_tellParts_131 : decode cX10_tellParts 131 = .ok (.iload 5, 2) := by decide +kernel
theorem dX10_tellParts_133 : decode cX10_tellParts 133 = .ok (.iastore, 1) := by decide +kernel
theorem dX10_tellParts_134 : decode cX10_tellParts 134 = .ok (.aload_n 0, 1) := by decide +kernel
theorem dX10_tellParts_135 : decode cX10_tellParts 135 = .ok (.dup, 1) := by decide +kernel
theorem dX10_tellParts_136 : decode cX10_tellParts 136 = .ok (.getfield 211, 3) := by decide +kernel
theorem dX10_tellParts_139 : decode cX10_tellParts 139 = .ok (.iconst 1, 1) := by decide +kernel
theorem dX10_tellParts_140 : decode cX10_tellParts 140 = .ok (.iadd, 1) := by decide +kernel
theorem dX10_tellParts_141 : decode cX10_tellParts 141 = .ok (.putfield 211, 3) := by decide +kernel
theorem dX10_tellParts_144 : decode cX10_tellParts 144 = .ok (.iload_n 3, 1) := by decide +kernel
theorem dX10_tellParts_145 : decode cX10_tellParts 145 = .ok (.iconst 1, 1) := by decide +kernel
theorem dX10_tellParts_146 : decode cX10_tellParts 146 = .ok (.iadd, 1) := by decide +kernel
theorem dX10_tellParts_147 : decode cX10_tellParts 147 = .ok (.istore_n 1, 1) := by decide +kernel
theorem dX10_tellParts_148 : decode cX10_tellParts 148 = .ok (.iload 5, 2) := by decide +kernel
theorem dX10_tellParts_150 : decode cX10_tellParts 150 = .ok (.iconst 1, 1) := by decide +kernel
theorem dX10_tellParts_151 : decode cX10_tellParts 151 = .ok (.iadd, 1) := by decide +kernel
theorem dX10_tellParts_152 : decode cX10_tellParts 152 = .ok (.istore_n 2, 1) := by decide +kernel
theorem dX10_tellParts_153 : decode cX10_tellParts 153 = .ok (.iinc 3 1, 3) := by decide +kernel
theorem dX10_tellParts_156 : decode cX10_tellParts 156 = .ok (.goto (-145), 3) := by decide +kernel
theorem dX10_tellParts_159 : decode cX10_tellParts 159 = .ok (.return_, 1) := by decide +kernel
theorem dX10_pairMany_0 : decode cX10_pairMany 0 = .ok (.iconst 0, 1) := by decide +kernel
theorem dX10_pairMany_1 : decode cX10_pairMany 1 = .ok (.istore_n 1, 1) := by decide +kernel
theorem dX10_pairMany_2 : decode cX10_pairMany 2 = .ok (.iconst 0, 1) := by decide +kernel
theorem dX10_pairMany_3 : decode cX10_pairMany 3 = .ok (.istore_n 2, 1) := by decide +kernel
theorem dX10_pairMany_4 : decode cX10_pairMany 4 = .ok (.iload_n 2, 1) := by decide +kernel
theorem dX10_pairMany_5 : decode cX10_pairMany 5 = .ok (.aload_n 0, 1) := by decide +kernel
theorem dX10_pairMany_6 : decode cX10_pairMany 6 = .ok (.getfield 214, 3) := by decide +kernel
theorem dX10_pairMany_9 : decode cX10_pairMany 9 = .ok (.if_icmp .ge 26, 3) := by decide +kernel
theorem dX10_pairMany_12 : decode cX10_pairMany 12 = .ok (.iload_n 1, 1) := by decide +kernel
theorem dX10_pairMany_13 : decode cX10_pairMany 13 = .ok (.aload_n 0, 1) := by decide +kernel
theorem dX10_pairMany_14 : decode cX10_pairMany 14 = .ok (.getfield 63, 3) := by decide +kernel
theorem dX10_pairMany_17 : decode cX10_pairMany 17 = .ok (.iload_n 2, 1) := by decide +kernel
theorem dX10_pairMany_18 : decode cX10_pairMany 18 = .ok (.iaload, 1) := by decide +kernel
theorem dX10_pairMany_19 : decode cX10_pairMany 19 = .ok (.ifCond .lt 7, 3) := by decide +kernel
theorem dX10_pairMany_22 : decode cX10_pairMany 22 = .ok (.iconst 1, 1) := by decide +kernel
theorem dX10_pairMany_23 : decode cX10_pairMany 23 = .ok (.goto 4, 3) := by decide +kernel
theorem dX10_pairMany_26 : decode cX10_pairMany 26 = .ok (.iconst 0, 1) := by decide +kernel
theorem dX10_pairMany_27 : decode cX10_pairMany 27 = .ok (.iadd, 1) := by decide +kernel
theorem dX10_pairMany_28 : decode cX10_pairMany 28 = .ok (.istore_n 1, 1) := by decide +kernel
theorem dX10_pairMany_29 : decode cX10_pairMany 29 = .ok (.iinc 2 1, 3) := by decide +kernel
theorem dX10_pairMany_32 : decode cX10_pairMany 32 = .ok (.goto (-28), 3) := by decide +kernel
theorem dX10_pairMany_35 : decode cX10_pairMany 35 = .ok (.iload_n 1, 1) := by decide +kernel
theorem dX10_pairMany_36 : decode cX10_pairMany 36 = .ok (.ireturn, 1) := by decide +kernel
theorem dX10_compare_0 : decode cX10_compare 0 = .ok (.iload_n 1, 1) := by decide +kernel
theorem dX10_compare_1 : decode cX10_compare 1 = .ok (.invokestatic 126, 3) := by decide +kernel
theorem dX10_compare_4 : decode cX10_compare 4 = .ok (.ifCond .eq 10, 3) := by decide +kernel
theorem dX10_compare_7 : decode cX10_compare 7 = .ok (.iload_n 2, 1) := by decide +kernel
theorem dX10_compare_8 : decode cX10_compare 8 = .ok (.invokestatic 126, 3) := by decide +kernel
theorem dX10_compare_11 : decode cX10_compare 11 = .ok (.ifCond .ne 9, 3) := by decide +kernel
theorem dX10_compare_14 : decode cX10_compare 14 = .ok (.aload_n 0, 1) := by decide +kernel
theorem dX10_compare_15 : decode cX10_compare 15 = .ok (.iconst 1, 1) := by decide +kernel
theorem dX10_compare_16 : decode cX10_compare 16 = .ok (.invokevirtual 130, 3) := by decide +kernel
theorem dX10_compare_19 : decode cX10_compare 19 = .ok (.ireturn, 1) := by decide +kernel
theorem dX10_compare_20 : decode cX10_compare 20 = .ok (.aload_n 0, 1) := by decide +kernel
theorem dX10_compare_21 : decode cX10_compare 21 = .ok (.iconst 1, 1) := by decide +kernel
theorem dX10_compare_22 : decode cX10_compare 22 = .ok (.putfield 220, 3) := by decide +kernel
theorem dX10_compare_25 : decode cX10_compare 25 = .ok (.aload_n 0, 1) := by decide +kernel
theorem dX10_compare_26 : decode cX10_compare 26 = .ok (.aload_n 0, 1) := by decide +kernel
theorem dX10_compare_27 : decode cX10_compare 27 = .ok (.iload_n 1, 1) := by decide +kernel
theorem dX10_compare_28 : decode cX10_compare 28 = .ok (.aload_n 0, 1) := by decide +kernel
theorem dX10_compare_29 : decode cX10_compare 29 = .ok (.getfield 57, 3) := by decide +kernel
theorem dX10_compare_32 : decode cX10_compare 32 = .ok (.invokevirtual 207, 3) := by decide +kernel
theorem dX10_compare_35 : decode cX10_compare 35 = .ok (.putfield 214, 3) := by decide +kernel
theorem dX10_compare_38 : decode cX10_compare 38 = .ok (.aload_n 0, 1) := by decide +kernel
theorem dX10_compare_39 : decode cX10_compare 39 = .ok (.aload_n 0, 1) := by decide +kernel
theorem dX10_compare_40 : decode cX10_compare 40 = .ok (.iload_n 2, 1) := by decide +kernel
theorem dX10_compare_41 : decode cX10_compare 41 = .ok (.aload_n 0, 1) := by decide +kernel
theorem dX10_compare_42 : decode cX10_compare 42 = .ok (.getfield 60, 3) := by decide +kernel
theorem dX10_compare_45 : decode cX10_compare 45 = .ok (.invokevirtual 207, 3) := by decide +kernel
theorem dX10_compare_48 : decode cX10_compare 48 = .ok (.putfield 217, 3) := by decide +kernel
theorem dX10_compare_51 : decode cX10_compare 51 = .ok (.aload_n 0, 1) := by decide +kernel
theorem dX10_compare_52 : decode cX10_compare 52 = .ok (.aload_n 0, 1) := by decide +kernel
theorem dX10_compare_53 : decode cX10_compare 53 = .ok (.getfield 57, 3) := by decide +kernel
theorem dX10_compare_56 : decode cX10_compare 56 = .ok (.aload_n 0, 1) := by decide +kernel
theorem dX10_compare_57 : decode cX10_compare 57 = .ok (.getfield 214, 3) := by decide +kernel
theorem dX10_compare_60 : decode cX10_compare 60 = .ok (.aload_n 0, 1) := by decide +kernel
theorem dX10_compare_61 : decode cX10_compare 61 = .ok (.getfield 60, 3) := by decide +kernel
theorem dX10_compare_64 : decode cX10_compare 64 = .ok (.aload_n 0, 1) := by decide +kernel
theorem dX10_compare_65 : decode cX10_compare 65 = .ok (.getfield 217, 3) := by decide +kernel
theorem dX10_compare_68 : decode cX10_compare 68 = .ok (.aload_n 0, 1) := by decide +kernel
theorem dX10_compare_69 : decode cX10_compare 69 = .ok (.getfield 63, 3) := by decide +kernel
theorem dX10_compare_72 : decode cX10_compare 72 = .ok (.invokevirtual 223, 3) := by decide +kernel
theorem dX10_compare_75 : decode cX10_compare 75 = .ok (.aload_n 0, 1) := by decide +kernel
theorem dX10_compare_76 : decode cX10_compare 76 = .ok (.aload_n 0, 1) := by decide +kernel
theorem dX10_compare_77 : decode cX10_compare 77 = .ok (.getfield 193, 3) := by decide +kernel
theorem dX10_compare_80 : decode cX10_compare 80 = .ok (.putfield 227, 3) := by decide +kernel
theorem dX10_compare_83 : decode cX10_compare 83 = .ok (.aload_n 0, 1) := by decide +kernel
theorem dX10_compare_84 : decode cX10_compare 84 = .ok (.iconst 0, 1) := by decide +kernel
theorem dX10_compare_85 : decode cX10_compare 85 = .ok (.putfield 230, 3) := by decide +kernel
theorem dX10_compare_88 : decode cX10_compare 88 = .ok (.aload_n 0, 1) := by decide +kernel
theorem dX10_compare_89 : decode cX10_compare 89 = .ok (.invokevirtual 233, 3) := by decide +kernel
theorem dX10_compare_92 : decode cX10_compare 92 = .ok (.aload_n 0, 1) := by decide +kernel
theorem dX10_compare_93 : decode cX10_compare 93 = .ok (.aload_n 0, 1) := by decide +kernel
theorem dX10_compare_94 : decode cX10_compare 94 = .ok (.invokevirtual 236, 3) := by decide +kernel
theorem dX10_compare_97 : decode cX10_compare 97 = .ok (.invokevirtual 138, 3) := by decide +kernel
theorem dX10_compare_100 : decode cX10_compare 100 = .ok (.ireturn, 1) := by decide +kernel
theorem dX10_partner_0 : decode cX10_partner 0 = .ok (.aload_n 0, 1) := by decide +kernel
theorem dX10_partner_1 : decode cX10_partner 1 = .ok (.getfield 220, 3) := by decide +kernel
theorem dX10_partner_4 : decode cX10_partner 4 = .ok (.ifCond .ne 9, 3) := by decide +kernel
theorem dX10_partner_7 : decode cX10_partner 7 = .ok (.aload_n 0, 1) := by decide +kernel
theorem dX10_partner_8 : decode cX10_partner 8 = .ok (.iconst 1, 1) := by decide +kernel
theorem dX10_partner_9 : decode cX10_partner 9 = .ok (.invokevirtual 130, 3) := by decide +kernel
theorem dX10_partner_12 : decode cX10_partner 12 = .ok (.ireturn, 1) := by decide +kernel
theorem dX10_partner_13 : decode cX10_partner 13 = .ok (.iload_n 1, 1) := by decide +kernel
theorem dX10_partner_14 : decode cX10_partner 14 = .ok (.iconst 0, 1) := by decide +kernel
theorem dX10_partner_15 : decode cX10_partner 15 = .ok (.aload_n 0, 1) := by decide +kernel
theorem dX10_partner_16 : decode cX10_partner 16 = .ok (.getfield 214, 3) := by decide +kernel
theorem dX10_partner_19 : decode cX10_partner 19 = .ok (.iconst 1, 1) := by decide +kernel
theorem dX10_partner_20 : decode cX10_partner 20 = .ok (.isub, 1) := by decide +kernel
theorem dX10_partner_21 : decode cX10_partner 21 = .ok (.invokestatic 119, 3) := by decide +kernel
theorem dX10_partner_24 : decode cX10_partner 24 = .ok (.ifCond .eq 16, 3) := by decide +kernel
theorem dX10_partner_27 : decode cX10_partner 27 = .ok (.aload_n 0, 1) := by decide +kernel
theorem dX10_partner_28 : decode cX10_partner 28 = .ok (.aload_n 0, 1) := by decide +kernel
theorem dX10_partner_29 : decode cX10_partner 29 = .ok (.getfield 63, 3) := by decide +kernel
theorem dX10_partner_32 : decode cX10_partner 32 = .ok (.iload_n 1, 1) := by decide +kernel
theorem dX10_partner_33 : decode cX10_partner 33 = .ok (.iaload, 1) := by decide +kernel
theorem dX10_partner_34 : decode cX10_partner 34 = .ok (.invokevirtual 138, 3) := by decide +kernel
theorem dX10_partner_37 : decode cX10_partner 37 = .ok (.goto 8, 3) := by decide +kernel
theorem dX10_partner_40 : decode cX10_partner 40 = .ok (.aload_n 0, 1) := by decide +kernel
theorem dX10_partner_41 : decode cX10_partner 41 = .ok (.iconst 2, 1) := by decide +kernel
theorem dX10_partner_42 : decode cX10_partner 42 = .ok (.invokevirtual 130, 3) := by decide +kernel
theorem dX10_partner_45 : decode cX10_partner 45 = .ok (.ireturn, 1) := by decide +kernel
theorem dX10_anchors_0 : decode cX10_anchors 0 = .ok (.aload_n 0, 1) := by decide +kernel
theorem dX10_anchors_1 : decode cX10_anchors 1 = .ok (.getfield 220, 3) := by decide +kernel
theorem dX10_anchors_4 : decode cX10_anchors 4 = .ok (.ifCond .eq 14, 3) := by decide +kernel
theorem dX10_anchors_7 : decode cX10_anchors 7 = .ok (.aload_n 0, 1) := by decide +kernel
theorem dX10_anchors_8 : decode cX10_anchors 8 = .ok (.aload_n 0, 1) := by decide +kernel
theorem dX10_anchors_9 : decode cX10_anchors 9 = .ok (.getfield 227, 3) := by decide +kernel
theorem dX10_anchors_12 : decode cX10_anchors 12 = .ok (.invokevirtual 138, 3) := by decide +kernel
theorem dX10_anchors_15 : decode cX10_anchors 15 = .ok (.goto 8, 3) := by decide +kernel
theorem dX10_anchors_18 : decode cX10_anchors 18 = .ok (.aload_n 0, 1) := by decide +kernel
theorem dX10_anchors_19 : decode cX10_anchors 19 = .ok (.iconst 1, 1) := by decide +kernel
theorem dX10_anchors_20 : decode cX10_anchors 20 = .ok (.invokevirtual 130, 3) := by decide +kernel
theorem dX10_anchors_23 : decode cX10_anchors 23 = .ok (.ireturn, 1) := by decide +kernel
theorem dX10_differences_0 : decode cX10_differences 0 = .ok (.aload_n 0, 1) := by decide +kernel
theorem dX10_differences_1 : decode cX10_differences 1 = .ok (.getfield 220, 3) := by decide +kernel
theorem dX10_differences_4 : decode cX10_differences 4 = .ok (.ifCond .eq 14, 3) := by decide +kernel
theorem dX10_differences_7 : decode cX10_differences 7 = .ok (.aload_n 0, 1) := by decide +kernel
theorem dX10_differences_8 : decode cX10_differences 8 = .ok (.aload_n 0, 1) := by decide +kernel
theorem dX10_differences_9 : decode cX10_differences 9 = .ok (.getfield 211, 3) := by decide +kernel
theorem dX10_differences_12 : decode cX10_differences 12 = .ok (.invokevirtual 138, 3) := by decide +kernel
theorem dX10_differences_15 : decode cX10_differences 15 = .ok (.goto 8, 3) := by decide +kernel
theorem dX10_differences_18 : decode cX10_differences 18 = .ok (.aload_n 0, 1) := by decide +kernel
theorem dX10_differences_19 : decode cX10_differences 19 = .ok (.iconst 1, 1) := by decide +kernel
theorem dX10_differences_20 : decode cX10_differences 20 = .ok (.invokevirtual 130, 3) := by decide +kernel
theorem dX10_differences_23 : decode cX10_differences 23 = .ok (.ireturn, 1) := by decide +kernel
theorem dX10_difference_0 : decode cX10_difference 0 = .ok (.aload_n 0, 1) := by decide +kernel
theorem dX10_difference_1 : decode cX10_difference 1 = .ok (.getfield 220, 3) := by decide +kernel
theorem dX10_difference_4 : decode cX10_difference 4 = .ok (.ifCond .ne 9, 3) := by decide +kernel
theorem dX10_difference_7 : decode cX10_difference 7 = .ok (.aload_n 0, 1) := by decide +kernel
theorem dX10_difference_8 : decode cX10_difference 8 = .ok (.iconst 1, 1) := by decide +kernel
theorem dX10_difference_9 : decode cX10_difference 9 = .ok (.invokevirtual 130, 3) := by decide +kernel
theorem dX10_difference_12 : decode cX10_difference 12 = .ok (.ireturn, 1) := by decide +kernel
theorem dX10_difference_13 : decode cX10_difference 13 = .ok (.iload_n 1, 1) := by decide +kernel
theorem dX10_difference_14 : decode cX10_difference 14 = .ok (.iconst 0, 1) := by decide +kernel
theorem dX10_difference_15 : decode cX10_difference 15 = .ok (.aload_n 0, 1) := by decide +kernel
theorem dX10_difference_16 : decode cX10_difference 16 = .ok (.getfield 211, 3) := by decide +kernel
theorem dX10_difference_19 : decode cX10_difference 19 = .ok (.iconst 1, 1) := by decide +kernel
theorem dX10_difference_20 : decode cX10_difference 20 = .ok (.isub, 1) := by decide +kernel
theorem dX10_difference_21 : decode cX10_difference 21 = .ok (.invokestatic 119, 3) := by decide +kernel
theorem dX10_difference_24 : decode cX10_difference 24 = .ok (.ifCond .ne 9, 3) := by decide +kernel
theorem dX10_difference_27 : decode cX10_difference 27 = .ok (.aload_n 0, 1) := by decide +kernel
theorem dX10_difference_28 : decode cX10_difference 28 = .ok (.iconst 2, 1) := by decide +kernel
theorem dX10_difference_29 : decode cX10_difference 29 = .ok (.invokevirtual 130, 3) := by decide +kernel
theorem dX10_difference_32 : decode cX10_difference 32 = .ok (.ireturn, 1) := by decide +kernel
theorem dX10_difference_33 : decode cX10_difference 33 = .ok (.iload_n 2, 1) := by decide +kernel
theorem dX10_difference_34 : decode cX10_difference 34 = .ok (.iconst 0, 1) := by decide +kernel
theorem dX10_difference_35 : decode cX10_difference 35 = .ok (.iconst 3, 1) := by decide +kernel
theorem dX10_difference_36 : decode cX10_difference 36 = .ok (.invokestatic 119, 3) := by decide +kernel
theorem dX10_difference_39 : decode cX10_difference 39 = .ok (.ifCond .eq 20, 3) := by decide +kernel
theorem dX10_difference_42 : decode cX10_difference 42 = .ok (.aload_n 0, 1) := by decide +kernel
theorem dX10_difference_43 : decode cX10_difference 43 = .ok (.aload_n 0, 1) := by decide +kernel
theorem dX10_difference_44 : decode cX10_difference 44 = .ok (.getfield 69, 3) := by decide +kernel
theorem dX10_difference_47 : decode cX10_difference 47 = .ok (.iconst 4, 1) := by decide +kernel
theorem dX10_difference_48 : decode cX10_difference 48 = .ok (.iload_n 1, 1) := by decide +kernel
theorem dX10_difference_49 : decode cX10_difference 49 = .ok (.imul, 1) := by decide +kernel
theorem dX10_difference_50 : decode cX10_difference 50 = .ok (.iload_n 2, 1) := by decide +kernel
theorem dX10_difference_51 : decode cX10_difference 51 = .ok (.iadd, 1) := by decide +kernel
theorem dX10_difference_52 : decode cX10_difference 52 = .ok (.iaload, 1) := by decide +kernel
theorem dX10_difference_53 : decode cX10_difference 53 = .ok (.invokevirtual 138, 3) := by decide +kernel
theorem dX10_difference_56 : decode cX10_difference 56 = .ok (.goto 8, 3) := by decide +kernel
theorem dX10_difference_59 : decode cX10_difference 59 = .ok (.aload_n 0, 1) := by decide +kernel
theorem dX10_difference_60 : decode cX10_difference 60 = .ok (.iconst 3, 1) := by decide +kernel
theorem dX10_difference_61 : decode cX10_difference 61 = .ok (.invokevirtual 130, 3) := by decide +kernel
theorem dX10_difference_64 : decode cX10_difference 64 = .ok (.ireturn, 1) := by decide +kernel
theorem dX10_step_0 : decode cX10_step 0 = .ok (.aload_n 0, 1) := by decide +kernel
theorem dX10_step_1 : decode cX10_step 1 = .ok (.getfield 220, 3) := by decide +kernel
theorem dX10_step_4 : decode cX10_step 4 = .ok (.ifCond .ne 9, 3) := by decide +kernel
theorem dX10_step_7 : decode cX10_step 7 = .ok (.aload_n 0, 1) := by decide +kernel
theorem dX10_step_8 : decode cX10_step 8 = .ok (.iconst 1, 1) := by decide +kernel
theorem dX10_step_9 : decode cX10_step 9 = .ok (.invokevirtual 130, 3) := by decide +kernel
theorem dX10_step_12 : decode cX10_step 12 = .ok (.ireturn, 1) := by decide +kernel
theorem dX10_step_13 : decode cX10_step 13 = .ok (.iconst 0, 1) := by decide +kernel
theorem dX10_step_14 : decode cX10_step 14 = .ok (.istore_n 2, 1) := by decide +kernel
theorem dX10_step_15 : decode cX10_step 15 = .ok (.iconst 0, 1) := by decide +kernel
theorem dX10_step_16 : decode cX10_step 16 = .ok (.istore_n 3, 1) := by decide +kernel
theorem dX10_step_17 : decode cX10_step 17 = .ok (.iconst 0, 1) := by decide +kernel
theorem dX10_step_18 : decode cX10_step 18 = .ok (.istore 4, 2) := by decide +kernel
theorem dX10_step_20 : decode cX10_step 20 = .ok (.iload 4, 2) := by decide +kernel
theorem dX10_step_22 : decode cX10_step 22 = .ok (.aload_n 0, 1) := by decide +kernel
theorem dX10_step_23 : decode cX10_step 23 = .ok (.getfield 214, 3) := by decide +kernel
theorem dX10_step_26 : decode cX10_step 26 = .ok (.if_icmp .lt 11, 3) := by decide +kernel
theorem dX10_step_29 : decode cX10_step 29 = .ok (.iload_n 3, 1) := by decide +kernel
theorem dX10_step_30 : decode cX10_step 30 = .ok (.aload_n 0, 1) := by decide +kernel
theorem dX10_step_31 : decode cX10_step 31 = .ok (.getfield 217, 3) := by decide +kernel
theorem dX10_step_34 : decode cX10_step 34 = .ok (.if_icmp .ge 187, 3) := by decide +kernel
theorem dX10_step_37 : decode cX10_step 37 = .ok (.iload 4, 2) := by decide +kernel
theorem dX10_step_39 : decode cX10_step 39 = .ok (.aload_n 0, 1) := by decide +kernel
theorem dX10_step_40 : decode cX10_step 40 = .ok (.getfield 214, 3) := by decide +kernel
theorem dX10_step_43 : decode cX10_step 43 = .ok (.if_icmp .ge 39, 3) := by decide +kernel
theorem dX10_step_46 : decode cX10_step 46 = .ok (.aload_n 0, 1) := by decide +kernel
theorem dX10_step_47 : decode cX10_step 47 = .ok (.getfield 63, 3) := by decide +kernel
theorem dX10_step_50 : decode cX10_step 50 = .ok (.iload 4, 2) := by decide +kernel
theorem dX10_step_52 : decode cX10_step 52 = .ok (.aload_n 0, 1) := by decide +kernel
theorem dX10_step_53 : decode cX10_step 53 = .ok (.getfield 214, 3) := by decide +kernel
theorem dX10_step_56 : decode cX10_step 56 = .ok (.if_icmp .ge 8, 3) := by decide +kernel
theorem dX10_step_59 : decode cX10_step 59 = .ok (.iload 4, 2) := by decide +kernel
theorem dX10_step_61 : decode cX10_step 61 = .ok (.goto 4, 3) := by decide +kernel
theorem dX10_step_64 : decode cX10_step 64 = .ok (.iconst 0, 1) := by decide +kernel
theorem dX10_step_65 : decode cX10_step 65 = .ok (.iaload, 1) := by decide +kernel
theorem dX10_step_66 : decode cX10_step 66 = .ok (.iload_n 3, 1) := by decide +kernel
theorem dX10_step_67 : decode cX10_step 67 = .ok (.if_icmp .ne 15, 3) := by decide +kernel
theorem dX10_step_70 : decode cX10_step 70 = .ok (.iload_n 3, 1) := by decide +kernel
theorem dX10_step_71 : decode cX10_step 71 = .ok (.aload_n 0, 1) := by decide +kernel
theorem dX10_step_72 : decode cX10_step 72 = .ok (.getfield 217, 3) := by decide +kernel
theorem dX10_step_75 : decode cX10_step 75 = .ok (.if_icmp .ge 7, 3) := by decide +kernel
theorem dX10_step_78 : decode cX10_step 78 = .ok (.iconst 1, 1) := by decide +kernel
theorem dX10_step_79 : decode cX10_step 79 = .ok (.goto 4, 3) := by decide +kernel
theorem dX10_step_82 : decode cX10_step 82 = .ok (.iconst 0, 1) := by decide +kernel
theorem dX10_step_83 : decode cX10_step 83 = .ok (.istore 5, 2) := by decide +kernel
theorem dX10_step_85 : decode cX10_step 85 = .ok (.iload 4, 2) := by decide +kernel
theorem dX10_step_87 : decode cX10_step 87 = .ok (.aload_n 0, 1) := by decide +kernel
theorem dX10_step_88 : decode cX10_step 88 = .ok (.getfield 214, 3) := by decide +kernel
theorem dX10_step_91 : decode cX10_step 91 = .ok (.if_icmp .ge 31, 3) := by decide +kernel
theorem dX10_step_94 : decode cX10_step 94 = .ok (.aload_n 0, 1) := by decide +kernel
theorem dX10_step_95 : decode cX10_step 95 = .ok (.getfield 63, 3) := by decide +kernel
theorem dX10_step_98 : decode cX10_step 98 = .ok (.iload 4, 2) := by decide +kernel
theorem dX10_step_100 : decode cX10_step 100 = .ok (.aload_n 0, 1) := by decide +kernel
theorem dX10_step_101 : decode cX10_step 101 = .ok (.getfield 214, 3) := by decide +kernel
theorem dX10_step_104 : decode cX10_step 104 = .ok (.if_icmp .ge 8, 3) := by decide +kernel
theorem dX10_step_107 : decode cX10_step 107 = .ok (.iload 4, 2) := by decide +kernel
theorem dX10_step_109 : decode cX10_step 109 = .ok (.goto 4, 3) := by decide +kernel
theorem dX10_step_112 : decode cX10_step 112 = .ok (.iconst 0, 1) := by decide +kernel
theorem dX10_step_113 : decode cX10_step 113 = .ok (.iaload, 1) := by decide +kernel
theorem dX10_step_114 : decode cX10_step 114 = .ok (.iconst (-1), 1) := by decide +kernel
theorem dX10_step_115 : decode cX10_step 115 = .ok (.if_icmp .ne 7, 3) := by decide +kernel
theorem dX10_step_118 : decode cX10_step 118 = .ok (.iconst 1, 1) := by decide +kernel
theorem dX10_step_119 : decode cX10_step 119 = .ok (.goto 4, 3) := by decide +kernel
theorem dX10_step_122 : decode cX10_step 122 = .ok (.iconst 0, 1) := by decide +kernel
theorem dX10_step_123 : decode cX10_step 123 = .ok (.istore 6, 2) := by decide +kernel
theorem dX10_step_125 : decode cX10_step 125 = .ok (.iload 5, 2) := by decide +kernel
theorem dX10_step_127 : decode cX10_step 127 = .ok (.ifCond .eq 13, 3) := by decide +kernel
theorem dX10_step_130 : decode cX10_step 130 = .ok (.aload_n 0, 1) := by decide +kernel
theorem dX10_step_131 : decode cX10_step 131 = .ok (.getfield 57, 3) := by decide +kernel
theorem dX10_step_134 : decode cX10_step 134 = .ok (.iload 4, 2) := by decide +kernel
theorem dX10_step_136 : decode cX10_step 136 = .ok (.iaload, 1) := by decide +kernel
theorem dX10_step_137 : decode cX10_step 137 = .ok (.goto 31, 3) := by decide +kernel
theorem dX10_step_140 : decode cX10_step 140 = .ok (.iload 6, 2) := by decide +kernel
theorem dX10_step_142 : decode cX10_step 142 = .ok (.ifCond .eq 16, 3) := by decide +kernel
theorem dX10_step_145 : decode cX10_step 145 = .ok (.bipush 100, 2) := by decide +kernel
theorem dX10_step_147 : decode cX10_step 147 = .ok (.aload_n 0, 1) := by decide +kernel
theorem dX10_step_148 : decode cX10_step 148 = .ok (.getfield 57, 3) := by decide +kernel
theorem dX10_step_151 : decode cX10_step 151 = .ok (.iload 4, 2) := by decide +kernel
theorem dX10_step_153 : decode cX10_step 153 = .ok (.iaload, 1) := by decide +kernel
theorem dX10_step_154 : decode cX10_step 154 = .ok (.iadd, 1) := by decide +kernel
theorem dX10_step_155 : decode cX10_step 155 = .ok (.goto 13, 3) := by decide +kernel
theorem dX10_step_158 : decode cX10_step 158 = .ok (.sipush 200, 3) := by decide +kernel
theorem dX10_step_161 : decode cX10_step 161 = .ok (.aload_n 0, 1) := by decide +kernel
theorem dX10_step_162 : decode cX10_step 162 = .ok (.getfield 60, 3) := by decide +kernel
theorem dX10_step_165 : decode cX10_step 165 = .ok (.iload_n 3, 1) := by decide +kernel
theorem dX10_step_166 : decode cX10_step 166 = .ok (.iaload, 1) := by decide +kernel
theorem dX10_step_167 : decode cX10_step 167 = .ok (.iadd, 1) := by decide +kernel
theorem dX10_step_168 : decode cX10_step 168 = .ok (.istore 7, 2) := by decide +kernel
theorem dX10_step_170 : decode cX10_step 170 = .ok (.iload_n 2, 1) := by decide +kernel
theorem dX10_step_171 : decode cX10_step 171 = .ok (.iload_n 1, 1) := by decide +kernel
theorem dX10_step_172 : decode cX10_step 172 = .ok (.if_icmp .ne 10, 3) := by decide +kernel
theorem dX10_step_175 : decode cX10_step 175 = .ok (.aload_n 0, 1) := by decide +kernel
theorem dX10_step_176 : decode cX10_step 176 = .ok (.iload 7, 2) := by decide +kernel
theorem dX10_step_178 : decode cX10_step 178 = .ok (.invokevirtual 138, 3) := by decide +kernel
theorem dX10_step_181 : decode cX10_step 181 = .ok (.ireturn, 1) := by decide +kernel
theorem dX10_step_182 : decode cX10_step 182 = .ok (.iinc 2 1, 3) := by decide +kernel
theorem dX10_step_185 : decode cX10_step 185 = .ok (.iload 4, 2) := by decide +kernel
theorem dX10_step_187 : decode cX10_step 187 = .ok (.iload 5, 2) := by decide +kernel
theorem dX10_step_189 : decode cX10_step 189 = .ok (.ifCond .ne 8, 3) := by decide +kernel
theorem dX10_step_192 : decode cX10_step 192 = .ok (.iload 6, 2) := by decide +kernel
theorem dX10_step_194 : decode cX10_step 194 = .ok (.ifCond .eq 7, 3) := by decide +kernel
theorem dX10_step_197 : decode cX10_step 197 = .ok (.iconst 1, 1) := by decide +kernel
theorem dX10_step_198 : decode cX10_step 198 = .ok (.goto 4, 3) := by decide +kernel
theorem dX10_step_201 : decode cX10_step 201 = .ok (.iconst 0, 1) := by decide +kernel
theorem dX10_step_202 : decode cX10_step 202 = .ok (.iadd, 1) := by decide +kernel
theorem dX10_step_203 : decode cX10_step 203 = .ok (.istore 4, 2) := by decide +kernel
theorem dX10_step_205 : decode cX10_step 205 = .ok (.iload_n 3, 1) := by decide +kernel
theorem dX10_step_206 : decode cX10_step 206 = .ok (.iload 6, 2) := by decide +kernel
theorem dX10_step_208 : decode cX10_step 208 = .ok (.ifCond .eq 7, 3) := by decide +kernel
theorem dX10_step_211 : decode cX10_step 211 = .ok (.iconst 0, 1) := by decide +kernel
theorem dX10_step_212 : decode cX10_step 212 = .ok (.goto 4, 3) := by decide +kernel
theorem dX10_step_215 : decode cX10_step 215 = .ok (.iconst 1, 1) := by decide +kernel
theorem dX10_step_216 : decode cX10_step 216 = .ok (.iadd, 1) := by decide +kernel
theorem dX10_step_217 : decode cX10_step 217 = .ok (.istore_n 3, 1) := by decide +kernel
theorem dX10_step_218 : decode cX10_step 218 = .ok (.goto (-198), 3) := by decide +kernel
theorem dX10_step_221 : decode cX10_step 221 = .ok (.aload_n 0, 1) := by decide +kernel
theorem dX10_step_222 : decode cX10_step 222 = .ok (.iconst 2, 1) := by decide +kernel
theorem dX10_step_223 : decode cX10_step 223 = .ok (.invokevirtual 130, 3) := by decide +kernel
theorem dX10_step_226 : decode cX10_step 226 = .ok (.ireturn, 1) := by decide +kernel
theorem dX10_similarity_0 : decode cX10_similarity 0 = .ok (.aload_n 0, 1) := by decide +kernel
theorem dX10_similarity_1 : decode cX10_similarity 1 = .ok (.aload_n 0, 1) := by decide +kernel
theorem dX10_similarity_2 : decode cX10_similarity 2 = .ok (.getfield 220, 3) := by decide +kernel
theorem dX10_similarity_5 : decode cX10_similarity 5 = .ok (.ifCond .ne 7, 3) := by decide +kernel
theorem dX10_similarity_8 : decode cX10_similarity 8 = .ok (.iconst 1, 1) := by decide +kernel
theorem dX10_similarity_9 : decode cX10_similarity 9 = .ok (.goto 20, 3) := by decide +kernel
theorem dX10_similarity_12 : decode cX10_similarity 12 = .ok (.aload_n 0, 1) := by decide +kernel
theorem dX10_similarity_13 : decode cX10_similarity 13 = .ok (.getfield 214, 3) := by decide +kernel
theorem dX10_similarity_16 : decode cX10_similarity 16 = .ok (.aload_n 0, 1) := by decide +kernel
theorem dX10_similarity_17 : decode cX10_similarity 17 = .ok (.getfield 217, 3) := by decide +kernel
theorem dX10_similarity_20 : decode cX10_similarity 20 = .ok (.iadd, 1) := by decide +kernel
theorem dX10_similarity_21 : decode cX10_similarity 21 = .ok (.ifCond .ne 7, 3) := by decide +kernel
theorem dX10_similarity_24 : decode cX10_similarity 24 = .ok (.iconst 2, 1) := by decide +kernel
theorem dX10_similarity_25 : decode cX10_similarity 25 = .ok (.goto 4, 3) := by decide +kernel
theorem dX10_similarity_28 : decode cX10_similarity 28 = .ok (.iconst 0, 1) := by decide +kernel
theorem dX10_similarity_29 : decode cX10_similarity 29 = .ok (.putfield 115, 3) := by decide +kernel
theorem dX10_similarity_32 : decode cX10_similarity 32 = .ok (.aload_n 0, 1) := by decide +kernel
theorem dX10_similarity_33 : decode cX10_similarity 33 = .ok (.getfield 115, 3) := by decide +kernel
theorem dX10_similarity_36 : decode cX10_similarity 36 = .ok (.ifCond .eq 7, 3) := by decide +kernel
theorem dX10_similarity_39 : decode cX10_similarity 39 = .ok (.dconst 0, 1) := by decide +kernel
theorem dX10_similarity_40 : decode cX10_similarity 40 = .ok (.goto 21, 3) := by decide +kernel
theorem dX10_similarity_43 : decode cX10_similarity 43 = .ok (.iconst 2, 1) := by decide +kernel
theorem dX10_similarity_44 : decode cX10_similarity 44 = .ok (.aload_n 0, 1) := by decide +kernel
theorem dX10_similarity_45 : decode cX10_similarity 45 = .ok (.invokevirtual 236, 3) := by decide +kernel
theorem dX10_similarity_48 : decode cX10_similarity 48 = .ok (.imul, 1) := by decide +kernel
theorem dX10_similarity_49 : decode cX10_similarity 49 = .ok (.i2d, 1) := by decide +kernel
theorem dX10_similarity_50 : decode cX10_similarity 50 = .ok (.aload_n 0, 1) := by decide +kernel
theorem dX10_similarity_51 : decode cX10_similarity 51 = .ok (.getfield 214, 3) := by decide +kernel
theorem dX10_similarity_54 : decode cX10_similarity 54 = .ok (.aload_n 0, 1) := by decide +kernel
theorem dX10_similarity_55 : decode cX10_similarity 55 = .ok (.getfield 217, 3) := by decide +kernel
theorem dX10_similarity_58 : decode cX10_similarity 58 = .ok (.iadd, 1) := by decide +kernel
theorem dX10_similarity_59 : decode cX10_similarity 59 = .ok (.i2d, 1) := by decide +kernel
theorem dX10_similarity_60 : decode cX10_similarity 60 = .ok (.ddiv, 1) := by decide +kernel
theorem dX10_similarity_61 : decode cX10_similarity 61 = .ok (.dreturn, 1) := by decide +kernel
theorem dX10_lengthFrom_0 : decode cX10_lengthFrom 0 = .ok (.iconst 0, 1) := by decide +kernel
theorem dX10_lengthFrom_1 : decode cX10_lengthFrom 1 = .ok (.istore_n 3, 1) := by decide +kernel
theorem dX10_lengthFrom_2 : decode cX10_lengthFrom 2 = .ok (.iload_n 1, 1) := by decide +kernel
theorem dX10_lengthFrom_3 : decode cX10_lengthFrom 3 = .ok (.iload_n 3, 1) := by decide +kernel
theorem dX10_lengthFrom_4 : decode cX10_lengthFrom 4 = .ok (.iadd, 1) := by decide +kernel
theorem dX10_lengthFrom_5 : decode cX10_lengthFrom 5 = .ok (.aload_n 0, 1) := by decide +kernel
theorem dX10_lengthFrom_6 : decode cX10_lengthFrom 6 = .ok (.getfield 214, 3) := by decide +kernel
theorem dX10_lengthFrom_9 : decode cX10_lengthFrom 9 = .ok (.if_icmp .ge 60, 3) := by decide +kernel
theorem dX10_lengthFrom_12 : decode cX10_lengthFrom 12 = .ok (.iload_n 2, 1) := by decide +kernel
theorem dX10_lengthFrom_13 : decode cX10_lengthFrom 13 = .ok (.iload_n 3, 1) := by decide +kernel
theorem dX10_lengthFrom_14 : decode cX10_lengthFrom 14 = .ok (.iadd, 1) := by decide +kernel
theorem dX10_lengthFrom_15 : decode cX10_lengthFrom 15 = .ok (.aload_n 0, 1) := by decide +kernel
theorem dX10_lengthFrom_16 : decode cX10_lengthFrom 16 = .ok (.getfield 217, 3) := by decide +kernel
theorem dX10_lengthFrom_19 : decode cX10_lengthFrom 19 = .ok (.if_icmp .ge 50, 3) := by decide +kernel
theorem dX10_lengthFrom_22 : decode cX10_lengthFrom 22 = .ok (.aload_n 0, 1) := by decide +kernel
theorem dX10_lengthFrom_23 : decode cX10_lengthFrom 23 = .ok (.getfield 72, 3) := by decide +kernel
theorem dX10_lengthFrom_26 : decode cX10_lengthFrom 26 = .ok (.iload_n 1, 1) := by decide +kernel
theorem dX10_lengthFrom_27 : decode cX10_lengthFrom 27 = .ok (.iload_n 3, 1) := by decide +kernel
theorem dX10_lengthFrom_28 : decode cX10_lengthFrom 28 = .ok (.iadd, 1) := by decide +kernel
theorem dX10_lengthFrom_29 : decode cX10_lengthFrom 29 = .ok (.baload, 1) := by decide +kernel
theorem dX10_lengthFrom_30 : decode cX10_lengthFrom 30 = .ok (.ifCond .ne 39, 3) := by decide +kernel
theorem dX10_lengthFrom_33 : decode cX10_lengthFrom 33 = .ok (.aload_n 0, 1) := by decide +kernel
theorem dX10_lengthFrom_34 : decode cX10_lengthFrom 34 = .ok (.getfield 76, 3) := by decide +kernel
theorem dX10_lengthFrom_37 : decode cX10_lengthFrom 37 = .ok (.iload_n 2, 1) := by decide +kernel
theorem dX10_lengthFrom_38 : decode cX10_lengthFrom 38 = .ok (.iload_n 3, 1) := by decide +kernel
theorem dX10_lengthFrom_39 : decode cX10_lengthFrom 39 = .ok (.iadd, 1) := by decide +kernel
theorem dX10_lengthFrom_40 : decode cX10_lengthFrom 40 = .ok (.baload, 1) := by decide +kernel
theorem dX10_lengthFrom_41 : decode cX10_lengthFrom 41 = .ok (.ifCond .ne 28, 3) := by decide +kernel
theorem dX10_lengthFrom_44 : decode cX10_lengthFrom 44 = .ok (.aload_n 0, 1) := by decide +kernel
theorem dX10_lengthFrom_45 : decode cX10_lengthFrom 45 = .ok (.getfield 57, 3) := by decide +kernel
theorem dX10_lengthFrom_48 : decode cX10_lengthFrom 48 = .ok (.iload_n 1, 1) := by decide +kernel
theorem dX10_lengthFrom_49 : decode cX10_lengthFrom 49 = .ok (.iload_n 3, 1) := by decide +kernel
theorem dX10_lengthFrom_50 : decode cX10_lengthFrom 50 = .ok (.iadd, 1) := by decide +kernel
theorem dX10_lengthFrom_51 : decode cX10_lengthFrom 51 = .ok (.iaload, 1) := by decide +kernel
theorem dX10_lengthFrom_52 : decode cX10_lengthFrom 52 = .ok (.aload_n 0, 1) := by decide +kernel
theorem dX10_lengthFrom_53 : decode cX10_lengthFrom 53 = .ok (.getfield 60, 3) := by decide +kernel
theorem dX10_lengthFrom_56 : decode cX10_lengthFrom 56 = .ok (.iload_n 2, 1) := by decide +kernel
theorem dX10_lengthFrom_57 : decode cX10_lengthFrom 57 = .ok (.iload_n 3, 1) := by decide +kernel
theorem dX10_lengthFrom_58 : decode cX10_lengthFrom 58 = .ok (.iadd, 1) := by decide +kernel
theorem dX10_lengthFrom_59 : decode cX10_lengthFrom 59 = .ok (.iaload, 1) := by decide +kernel
theorem dX10_lengthFrom_60 : decode cX10_lengthFrom 60 = .ok (.if_icmp .ne 9, 3) := by decide +kernel
theorem dX10_lengthFrom_63 : decode cX10_lengthFrom 63 = .ok (.iinc 3 1, 3) := by decide +kernel
theorem dX10_lengthFrom_66 : decode cX10_lengthFrom 66 = .ok (.goto (-64), 3) := by decide +kernel
theorem dX10_lengthFrom_69 : decode cX10_lengthFrom 69 = .ok (.iload_n 3, 1) := by decide +kernel
theorem dX10_lengthFrom_70 : decode cX10_lengthFrom 70 = .ok (.ireturn, 1) := by decide +kernel
theorem dX10_marks_0 : decode cX10_marks 0 = .ok (.iconst 0, 1) := by decide +kernel
theorem dX10_marks_1 : decode cX10_marks 1 = .ok (.istore 4, 2) := by decide +kernel
theorem dX10_marks_3 : decode cX10_marks 3 = .ok (.iload 4, 2) := by decide +kernel
theorem dX10_marks_5 : decode cX10_marks 5 = .ok (.iload_n 3, 1) := by decide +kernel
theorem dX10_marks_6 : decode cX10_marks 6 = .ok (.if_icmp .ge 29, 3) := by decide +kernel
theorem dX10_marks_9 : decode cX10_marks 9 = .ok (.aload_n 0, 1) := by decide +kernel
theorem dX10_marks_10 : decode cX10_marks 10 = .ok (.getfield 72, 3) := by decide +kernel
theorem dX10_marks_13 : decode cX10_marks 13 = .ok (.iload_n 1, 1) := by decide +kernel
theorem dX10_marks_14 : decode cX10_marks 14 = .ok (.iload 4, 2) := by decide +kernel
theorem dX10_marks_16 : decode cX10_marks 16 = .ok (.iadd, 1) := by decide +kernel
theorem dX10_marks_17 : decode cX10_marks 17 = .ok (.iconst 1, 1) := by decide +kernel
theorem dX10_marks_18 : decode cX10_marks 18 = .ok (.bastore, 1) := by decide +kernel
theorem dX10_marks_19 : decode cX10_marks 19 = .ok (.aload_n 0, 1) := by decide +kernel
theorem dX10_marks_20 : decode cX10_marks 20 = .ok (.getfield 76, 3) := by decide +kernel
theorem dX10_marks_23 : decode cX10_marks 23 = .ok (.iload_n 2, 1) := by decide +kernel
theorem dX10_marks_24 : decode cX10_marks 24 = .ok (.iload 4, 2) := by decide +kernel
theorem dX10_marks_26 : decode cX10_marks 26 = .ok (.iadd, 1) := by decide +kernel
theorem dX10_marks_27 : decode cX10_marks 27 = .ok (.iconst 1, 1) := by decide +kernel
theorem dX10_marks_28 : decode cX10_marks 28 = .ok (.bastore, 1) := by decide +kernel
theorem dX10_marks_29 : decode cX10_marks 29 = .ok (.iinc 4 1, 3) := by decide +kernel
theorem dX10_marks_32 : decode cX10_marks 32 = .ok (.goto (-29), 3) := by decide +kernel
theorem dX10_marks_35 : decode cX10_marks 35 = .ok (.return_, 1) := by decide +kernel
theorem dX10_findMoves_0 : decode cX10_findMoves 0 = .ok (.iload_n 1, 1) := by decide +kernel
theorem dX10_findMoves_1 : decode cX10_findMoves 1 = .ok (.iconst 1, 1) := by decide +kernel
theorem dX10_findMoves_2 : decode cX10_findMoves 2 = .ok (.bipush 9, 2) := by decide +kernel
theorem dX10_findMoves_4 : decode cX10_findMoves 4 = .ok (.invokestatic 119, 3) := by decide +kernel
theorem dX10_findMoves_7 : decode cX10_findMoves 7 = .ok (.ifCond .ne 9, 3) := by decide +kernel
theorem dX10_findMoves_10 : decode cX10_findMoves 10 = .ok (.aload_n 0, 1) := by decide +kernel
theorem dX10_findMoves_11 : decode cX10_findMoves 11 = .ok (.iconst 1, 1) := by decide +kernel
theorem dX10_findMoves_12 : decode cX10_findMoves 12 = .ok (.invokevirtual 130, 3) := by decide +kernel
theorem dX10_findMoves_15 : decode cX10_findMoves 15 = .ok (.ireturn, 1) := by decide +kernel
theorem dX10_findMoves_16 : decode cX10_findMoves 16 = .ok (.aload_n 0, 1) := by decide +kernel
theorem dX10_findMoves_17 : decode cX10_findMoves 17 = .ok (.getfield 220, 3) := by decide +kernel
theorem dX10_findMoves_20 : decode cX10_findMoves 20 = .ok (.ifCond .ne 9, 3) := by decide +kernel
theorem dX10_findMoves_23 : decode cX10_findMoves 23 = .ok (.aload_n 0, 1) := by decide +kernel
theorem dX10_findMoves_24 : decode cX10_findMoves 24 = .ok (.iconst 2, 1) := by decide +kernel
theorem dX10_findMoves_25 : decode cX10_findMoves 25 = .ok (.invokevirtual 130, 3) := by decide +kernel
theorem dX10_findMoves_28 : decode cX10_findMoves 28 = .ok (.ireturn, 1) := by decide +kernel
theorem dX10_findMoves_29 : decode cX10_findMoves 29 = .ok (.iconst 0, 1) := by decide +kernel
theorem dX10_findMoves_30 : decode cX10_findMoves 30 = .ok (.istore_n 2, 1) := by decide +kernel
theorem dX10_findMoves_31 : decode cX10_findMoves 31 = .ok (.iload_n 2, 1) := by decide +kernel
theorem dX10_findMoves_32 : decode cX10_findMoves 32 = .ok (.bipush 24, 2) := by decide +kernel
theorem dX10_findMoves_34 : decode cX10_findMoves 34 = .ok (.if_icmp .ge 23, 3) := by decide +kernel
theorem dX10_findMoves_37 : decode cX10_findMoves 37 = .ok (.aload_n 0, 1) := by decide +kernel
theorem dX10_findMoves_38 : decode cX10_findMoves 38 = .ok (.getfield 72, 3) := by decide +kernel
theorem dX10_findMoves_41 : decode cX10_findMoves 41 = .ok (.iload_n 2, 1) := by decide +kernel
theorem dX10_findMoves_42 : decode cX10_findMoves 42 = .ok (.iconst 0, 1) := by decide +kernel
theorem dX10_findMoves_43 : decode cX10_findMoves 43 = .ok (.bastore, 1) := by decide +kernel
theorem dX10_findMoves_44 : decode cX10_findMoves 44 = .ok (.aload_n 0, 1) := by decide +kernel
theorem dX10_findMoves_45 : decode cX10_findMoves 45 = .ok (.getfield 76, 3) := by decide +kernel
theorem dX10_findMoves_48 : decode cX10_findMoves 48 = .ok (.iload_n 2, 1) := by decide +kernel
theorem dX10_findMoves_49 : decode cX10_findMoves 49 = .ok (.iconst 0, 1) := by decide +kernel
theorem dX10_findMoves_50 : decode cX10_findMoves 50 = .ok (.bastore, 1) := by decide +kernel
theorem dX10_findMoves_51 : decode cX10_findMoves 51 = .ok (.iinc 2 1, 3) := by decide +kernel
theorem dX10_findMoves_54 : decode cX10_findMoves 54 = .ok (.goto (-23), 3) := by decide +kernel
theorem dX10_findMoves_57 : decode cX10_findMoves 57 = .ok (.iconst 0, 1) := by decide +kernel
theorem dX10_findMoves_58 : decode cX10_findMoves 58 = .ok (.istore_n 2, 1) := by decide +kernel
theorem dX10_findMoves_59 : decode cX10_findMoves 59 = .ok (.iload_n 2, 1) := by decide +kernel
theorem dX10_findMoves_60 : decode cX10_findMoves 60 = .ok (.aload_n 0, 1) := by decide +kernel
theorem dX10_findMoves_61 : decode cX10_findMoves 61 = .ok (.getfield 214, 3) := by decide +kernel
theorem dX10_findMoves_64 : decode cX10_findMoves 64 = .ok (.if_icmp .ge 30, 3) := by decide +kernel
theorem dX10_findMoves_67 : decode cX10_findMoves 67 = .ok (.aload_n 0, 1) := by decide +kernel
theorem dX10_findMoves_68 : decode cX10_findMoves 68 = .ok (.getfield 63, 3) := by decide +kernel
theorem dX10_findMoves_71 : decode cX10_findMoves 71 = .ok (.iload_n 2, 1) := by decide +kernel
theorem dX10_findMoves_72 : decode cX10_findMoves 72 = .ok (.iaload, 1) := by decide +kernel
theorem dX10_findMoves_73 : decode cX10_findMoves 73 = .ok (.ifCond .lt 15, 3) := by decide +kernel
theorem dX10_findMoves_76 : decode cX10_findMoves 76 = .ok (.aload_n 0, 1) := by decide +kernel
theorem dX10_findMoves_77 : decode cX10_findMoves 77 = .ok (.iload_n 2, 1) := by decide +kernel
theorem dX10_findMoves_78 : decode cX10_findMoves 78 = .ok (.aload_n 0, 1) := by decide +kernel
theorem dX10_findMoves_79 : decode cX10_findMoves 79 = .ok (.getfield 63, 3) := by decide +kernel
theorem dX10_findMoves_82 : decode cX10_findMoves 82 = .ok (.iload_n 2, 1) := by decide +kernel
theorem dX10_findMoves_83 : decode cX10_findMoves 83 = .ok (.iaload, 1) := by decide +kernel
theorem dX10_findMoves_84 : decode cX10_findMoves 84 = .ok (.iconst 1, 1) := by decide +kernel
theorem dX10_findMoves_85 : decode cX10_findMoves 85 = .ok (.invokevirtual 239, 3) := by decide +kernel
theorem dX10_findMoves_88 : decode cX10_findMoves 88 = .ok (.iinc 2 1, 3) := by decide +kernel
theorem dX10_findMoves_91 : decode cX10_findMoves 91 = .ok (.goto (-32), 3) := by decide +kernel
theorem dX10_findMoves_94 : decode cX10_findMoves 94 = .ok (.aload_n 0, 1) := by decide +kernel
theorem dX10_findMoves_95 : decode cX10_findMoves 95 = .ok (.iconst 0, 1) := by decide +kernel
theorem dX10_findMoves_96 : decode cX10_findMoves 96 = .ok (.putfield 230, 3) := by decide +kernel
theorem dX10_findMoves_99 : decode cX10_findMoves 99 = .ok (.bipush 24, 2) := by decide +kernel
theorem dX10_findMoves_101 : decode cX10_findMoves 101 = .ok (.istore_n 2, 1) := by decide +kernel
theorem dX10_findMoves_102 : decode cX10_findMoves 102 = .ok (.iload_n 2, 1) := by decide +kernel
theorem dX10_findMoves_103 : decode cX10_findMoves 103 = .ok (.iload_n 1, 1) := by decide +kernel
theorem dX10_findMoves_104 : decode cX10_findMoves 104 = .ok (.if_icmp .lt 158, 3) := by decide +kernel
theorem dX10_findMoves_107 : decode cX10_findMoves 107 = .ok (.iconst 0, 1) := by decide +kernel
theorem dX10_findMoves_108 : decode cX10_findMoves 108 = .ok (.istore_n 2, 1) := by decide +kernel
theorem dX10_findMoves_109 : decode cX10_findMoves 109 = .ok (.iconst 0, 1) := by decide +kernel
theorem dX10_findMoves_110 : decode cX10_findMoves 110 = .ok (.istore_n 3, 1) := by decide +kernel
theorem dX10_findMoves_111 : decode cX10_findMoves 111 = .ok (.iconst 0, 1) := by decide +kernel
theorem dX10_findMoves_112 : decode cX10_findMoves 112 = .ok (.istore 4, 2) := by decide +kernel
theorem dX10_findMoves_114 : decode cX10_findMoves 114 = .ok (.iconst 0, 1) := by decide +kernel
theorem dX10_findMoves_115 : decode cX10_findMoves 115 = .ok (.istore 5, 2) := by decide +kernel
theorem dX10_findMoves_117 : decode cX10_findMoves 117 = .ok (.iload 5, 2) := by decide +kernel
theorem dX10_findMoves_119 : decode cX10_findMoves 119 = .ok (.aload_n 0, 1) := by decide +kernel
theorem dX10_findMoves_120 : decode cX10_findMoves 120 = .ok (.getfield 214, 3) := by decide +kernel
theorem dX10_findMoves_123 : decode cX10_findMoves 123 = .ok (.if_icmp .ge 72, 3) := by decide +kernel
theorem dX10_findMoves_126 : decode cX10_findMoves 126 = .ok (.iconst 0, 1) := by decide +kernel
theorem dX10_findMoves_127 : decode cX10_findMoves 127 = .ok (.istore 6, 2) := by decide +kernel
theorem dX10_findMoves_129 : decode cX10_findMoves 129 = .ok (.iload 6, 2) := by decide +kernel
theorem dX10_findMoves_131 : decode cX10_findMoves 131 = .ok (.aload_n 0, 1) := by decide +kernel
theorem dX10_findMoves_132 : decode cX10_findMoves 132 = .ok (.getfield 217, 3) := by decide +kernel
theorem dX10_findMoves_135 : decode cX10_findMoves 135 = .ok (.if_icmp .ge 54, 3) := by decide +kernel
theorem dX10_findMoves_138 : decode cX10_findMoves 138 = .ok (.aload_n 0, 1) := by decide +kernel
theorem dX10_findMoves_139 : decode cX10_findMoves 139 = .ok (.iload 5, 2) := by decide +kernel
theorem dX10_findMoves_141 : decode cX10_findMoves 141 = .ok (.iload 6, 2) := by decide +kernel
theorem dX10_findMoves_143 : decode cX10_findMoves 143 = .ok (.invokevirtual 243, 3) := by decide +kernel
theorem dX10_findMoves_146 : decode cX10_findMoves 146 = .ok (.istore 7, 2) := by decide +kernel
theorem dX10_findMoves_148 : decode cX10_findMoves 148 = .ok (.iload 7, 2) := by decide +kernel
theorem dX10_findMoves_150 : decode cX10_findMoves 150 = .ok (.iload_n 2, 1) := by decide +kernel
theorem dX10_findMoves_151 : decode cX10_findMoves 151 = .ok (.if_icmp .le 8, 3) := by decide +kernel
theorem dX10_findMoves_154 : decode cX10_findMoves 154 = .ok (.iload 5, 2) := by decide +kernel
theorem dX10_findMoves_156 : decode cX10_findMoves 156 = .ok (.goto 4, 3) := by decide +kernel
theorem dX10_findMoves_159 : decode cX10_findMoves 159 = .ok (.iload_n 3, 1) := by decide +kernel
theorem dX10_findMoves_160 : decode cX10_findMoves 160 = .ok (.istore_n 3, 1) := by decide +kernel
theorem dX10_findMoves_161 : decode cX10_findMoves 161 = .ok (.iload 7, 2) := by decide +kernel
theorem dX10_findMoves_163 : decode cX10_findMoves 163 = .ok (.iload_n 2, 1) := by decide +kernel
theorem dX10_findMoves_164 : decode cX10_findMoves 164 = .ok (.if_icmp .le 8, 3) := by decide +kernel
theorem dX10_findMoves_167 : decode cX10_findMoves 167 = .ok (.iload 6, 2) := by decide +kernel
theorem dX10_findMoves_169 : decode cX10_findMoves 169 = .ok (.goto 5, 3) := by decide +kernel
theorem dX10_findMoves_172 : decode cX10_findMoves 172 = .ok (.iload 4, 2) := by decide +kernel
theorem dX10_findMoves_174 : decode cX10_findMoves 174 = .ok (.istore 4, 2) := by decide +kernel
theorem dX10_findMoves_176 : decode cX10_findMoves 176 = .ok (.iload_n 2, 1) := by decide +kernel
theorem dX10_findMoves_177 : decode cX10_findMoves 177 = .ok (.iload 7, 2) := by decide +kernel
theorem dX10_findMoves_179 : decode cX10_findMoves 179 = .ok (.invokestatic 182, 3) := by decide +kernel
theorem dX10_findMoves_182 : decode cX10_findMoves 182 = .ok (.istore_n 2, 1) := by decide +kernel
theorem dX10_findMoves_183 : decode cX10_findMoves 183 = .ok (.iinc 6 1, 3) := by decide +kernel
theorem dX10_findMoves_186 : decode cX10_findMoves 186 = .ok (.goto (-57), 3) := by decide +kernel
theorem dX10_findMoves_189 : decode cX10_findMoves 189 = .ok (.iinc 5 1, 3) := by decide +kernel
theorem dX10_findMoves_192 : decode cX10_findMoves 192 = .ok (.goto (-75), 3) := by decide +kernel
theorem dX10_findMoves_195 : decode cX10_findMoves 195 = .ok (.iload_n 2, 1) := by decide +kernel
theorem dX10_findMoves_196 : decode cX10_findMoves 196 = .ok (.iload_n 1, 1) := by decide +kernel
theorem dX10_findMoves_197 : decode cX10_findMoves 197 = .ok (.if_icmp .lt 62, 3) := by decide +kernel
theorem dX10_findMoves_200 : decode cX10_findMoves 200 = .ok (.aload_n 0, 1) := by decide +kernel
theorem dX10_findMoves_201 : decode cX10_findMoves 201 = .ok (.iload_n 3, 1) := by decide +kernel
theorem dX10_findMoves_202 : decode cX10_findMoves 202 = .ok (.iload 4, 2) := by decide +kernel
theorem dX10_findMoves_204 : decode cX10_findMoves 204 = .ok (.iload_n 2, 1) := by decide +kernel
theorem dX10_findMoves_205 : decode cX10_findMoves 205 = .ok (.invokevirtual 239, 3) := by decide +kernel
theorem dX10_findMoves_208 : decode cX10_findMoves 208 = .ok (.aload_n 0, 1) := by decide +kernel
theorem dX10_findMoves_209 : decode cX10_findMoves 209 = .ok (.getfield 66, 3) := by decide +kernel
theorem dX10_findMoves_212 : decode cX10_findMoves 212 = .ok (.iconst 3, 1) := by decide +kernel
theorem dX10_findMoves_213 : decode cX10_findMoves 213 = .ok (.aload_n 0, 1) := by decide +kernel
theorem dX10_findMoves_214 : decode cX10_findMoves 214 = .ok (.getfield 230, 3) := by decide +kernel
theorem dX10_findMoves_217 : decode cX10_findMoves 217 = .ok (.imul, 1) := by decide +kernel
theorem dX10_findMoves_218 : decode cX10_findMoves 218 = .ok (.iload_n 3, 1) := by decide +kernel
theorem dX10_findMoves_219 : decode cX10_findMoves 219 = .ok (.iastore, 1) := by decide +kernel
theorem dX10_findMoves_220 : decode cX10_findMoves 220 = .ok (.aload_n 0, 1) := by decide +kernel
theorem dX10_findMoves_221 : decode cX10_findMoves 221 = .ok (.getfield 66, 3) := by decide +kernel
theorem dX10_findMoves_224 : decode cX10_findMoves 224 = .ok (.iconst 3, 1) := by decide +kernel
theorem dX10_findMoves_225 : decode cX10_findMoves 225 = .ok (.aload_n 0, 1) := by decide +kernel
theorem dX10_findMoves_226 : decode cX10_findMoves 226 = .ok (.getfield 230, 3) := by decide +kernel
theorem dX10_findMoves_229 : decode cX10_findMoves 229 = .ok (.imul, 1) := by decide +kernel
theorem dX10_findMoves_230 : decode cX10_findMoves 230 = .ok (.iconst 1, 1) := by decide +kernel
theorem dX10_findMoves_231 : decode cX10_findMoves 231 = .ok (.iadd, 1) := by decide +kernel
theorem dX10_findMoves_232 : decode cX10_findMoves 232 = .ok (.iload 4, 2) := by decide +kernel
theorem dX10_findMoves_234 : decode cX10_findMoves 234 = .ok (.iastore, 1) := by decide +kernel
theorem dX10_findMoves_235 : decode cX10_findMoves 235 = .ok (.aload_n 0, 1) := by decide +kernel
theorem dX10_findMoves_236 : decode cX10_findMoves 236 = .ok (.getfield 66, 3) := by decide +kernel
theorem dX10_findMoves_239 : decode cX10_findMoves 239 = .ok (.iconst 3, 1) := by decide +kernel
theorem dX10_findMoves_240 : decode cX10_findMoves 240 = .ok (.aload_n 0, 1) := by decide +kernel
theorem dX10_findMoves_241 : decode cX10_findMoves 241 = .ok (.getfield 230, 3) := by decide +kernel
theorem dX10_findMoves_244 : decode cX10_findMoves 244 = .ok (.imul, 1) := by decide +kernel
theorem dX10_findMoves_245 : decode cX10_findMoves 245 = .ok (.iconst 2, 1) := by decide +kernel
theorem dX10_findMoves_246 : decode cX10_findMoves 246 = .ok (.iadd, 1) := by decide +kernel
theorem dX10_findMoves_247 : decode cX10_findMoves 247 = .ok (.iload_n 2, 1) := by decide +kernel
theorem dX10_findMoves_248 : decode cX10_findMoves 248 = .ok (.iastore, 1) := by decide +kernel
theorem dX10_findMoves_249 : decode cX10_findMoves 249 = .ok (.aload_n 0, 1) := by decide +kernel
theorem dX10_findMoves_250 : decode cX10_findMoves 250 = .ok (.dup, 1) := by decide +kernel
theorem dX10_findMoves_251 : decode cX10_findMoves 251 = .ok (.getfield 230, 3) := by decide +kernel
theorem dX10_findMoves_254 : decode cX10_findMoves 254 = .ok (.iconst 1, 1) := by decide +kernel
theorem dX10_findMoves_255 : decode cX10_findMoves 255 = .ok (.iadd, 1) := by decide +kernel
theorem dX10_findMoves_256 : decode cX10_findMoves 256 = .ok (.putfield 230, 3) := by decide +kernel
theorem dX10_findMoves_259 : decode cX10_findMoves 259 = .ok (.goto (-157), 3) := by decide +kernel
theorem dX10_findMoves_262 : decode cX10_findMoves 262 = .ok (.aload_n 0, 1) := by decide +kernel
theorem dX10_findMoves_263 : decode cX10_findMoves 263 = .ok (.aload_n 0, 1) := by decide +kernel
theorem dX10_findMoves_264 : decode cX10_findMoves 264 = .ok (.getfield 230, 3) := by decide +kernel
theorem dX10_findMoves_267 : decode cX10_findMoves 267 = .ok (.invokevirtual 138, 3) := by decide +kernel
theorem dX10_findMoves_270 : decode cX10_findMoves 270 = .ok (.ireturn, 1) := by decide +kernel
theorem dX10_move_0 : decode cX10_move 0 = .ok (.iload_n 1, 1) := by decide +kernel
theorem dX10_move_1 : decode cX10_move 1 = .ok (.iconst 0, 1) := by decide +kernel
theorem dX10_move_2 : decode cX10_move 2 = .ok (.aload_n 0, 1) := by decide +kernel
theorem dX10_move_3 : decode cX10_move 3 = .ok (.getfield 230, 3) := by decide +kernel
theorem dX10_move_6 : decode cX10_move 6 = .ok (.iconst 1, 1) := by decide +kernel
theorem dX10_move_7 : decode cX10_move 7 = .ok (.isub, 1) := by decide +kernel
theorem dX10_move_8 : decode cX10_move 8 = .ok (.invokestatic 119, 3) := by decide +kernel
theorem dX10_move_11 : decode cX10_move 11 = .ok (.ifCond .ne 9, 3) := by decide +kernel
theorem dX10_move_14 : decode cX10_move 14 = .ok (.aload_n 0, 1) := by decide +kernel
theorem dX10_move_15 : decode cX10_move 15 = .ok (.iconst 1, 1) := by decide +kernel
theorem dX10_move_16 : decode cX10_move 16 = .ok (.invokevirtual 130, 3) := by decide +kernel
theorem dX10_move_19 : decode cX10_move 19 = .ok (.ireturn, 1) := by decide +kernel
theorem dX10_move_20 : decode cX10_move 20 = .ok (.iload_n 2, 1) := by decide +kernel
theorem dX10_move_21 : decode cX10_move 21 = .ok (.iconst 0, 1) := by decide +kernel
theorem dX10_move_22 : decode cX10_move 22 = .ok (.iconst 2, 1) := by decide +kernel
theorem dX10_move_23 : decode cX10_move 23 = .ok (.invokestatic 119, 3) := by decide +kernel
theorem dX10_move_26 : decode cX10_move 26 = .ok (.ifCond .eq 20, 3) := by decide +kernel
theorem dX10_move_29 : decode cX10_move 29 = .ok (.aload_n 0, 1) := by decide +kernel
theorem dX10_move_30 : decode cX10_move 30 = .ok (.aload_n 0, 1) := by decide +kernel
theorem dX10_move_31 : decode cX10_move 31 = .ok (.getfield 66, 3) := by decide +kernel
theorem dX10_move_34 : decode cX10_move 34 = .ok (.iconst 3, 1) := by decide +kernel
theorem dX10_move_35 : decode cX10_move 35 = .ok (.iload_n 1, 1) := by decide +kernel
theorem dX10_move_36 : decode cX10_move 36 = .ok (.imul, 1) := by decide +kernel
theorem dX10_move_37 : decode cX10_move 37 = .ok (.iload_n 2, 1) := by decide +kernel
theorem dX10_move_38 : decode cX10_move 38 = .ok (.iadd, 1) := by decide +kernel
theorem dX10_move_39 : decode cX10_move 39 = .ok (.iaload, 1) := by decide +kernel
theorem dX10_move_40 : decode cX10_move 40 = .ok (.invokevirtual 138, 3) := by decide +kernel
theorem dX10_move_43 : decode cX10_move 43 = .ok (.goto 8, 3) := by decide +kernel
theorem dX10_move_46 : decode cX10_move 46 = .ok (.aload_n 0, 1) := by decide +kernel
theorem dX10_move_47 : decode cX10_move 47 = .ok (.iconst 2, 1) := by decide +kernel
theorem dX10_move_48 : decode cX10_move 48 = .ok (.invokevirtual 130, 3) := by decide +kernel
theorem dX10_move_51 : decode cX10_move 51 = .ok (.ireturn, 1) := by decide +kernel
theorem dX10_setShrinking_0 : decode cX10_setShrinking 0 = .ok (.aload_n 0, 1) := by decide +kernel
theorem dX10_setShrinking_1 : decode cX10_setShrinking 1 = .ok (.getfield 16, 3) := by decide +kernel
theorem dX10_setShrinking_4 : decode cX10_setShrinking 4 = .ok (.istore_n 2, 1) := by decide +kernel
theorem dX10_setShrinking_5 : decode cX10_setShrinking 5 = .ok (.aload_n 0, 1) := by decide +kernel
theorem dX10_setShrinking_6 : decode cX10_setShrinking 6 = .ok (.iload_n 1, 1) := by decide +kernel
theorem dX10_setShrinking_7 : decode cX10_setShrinking 7 = .ok (.putfield 16, 3) := by decide +kernel
theorem dX10_setShrinking_10 : decode cX10_setShrinking 10 = .ok (.aload_n 0, 1) := by decide +kernel
theorem dX10_setShrinking_11 : decode cX10_setShrinking 11 = .ok (.iload_n 2, 1) := by decide +kernel
theorem dX10_setShrinking_12 : decode cX10_setShrinking 12 = .ok (.invokevirtual 148, 3) := by decide +kernel
theorem dX10_setShrinking_15 : decode cX10_setShrinking 15 = .ok (.ireturn, 1) := by decide +kernel
theorem dX10_alike_0 : decode cX10_alike 0 = .ok (.iload_n 2, 1) := by decide +kernel
theorem dX10_alike_1 : decode cX10_alike 1 = .ok (.iload_n 1, 1) := by decide +kernel
theorem dX10_alike_2 : decode cX10_alike 2 = .ok (.isub, 1) := by decide +kernel
theorem dX10_alike_3 : decode cX10_alike 3 = .ok (.iload 5, 2) := by decide +kernel
theorem dX10_alike_5 : decode cX10_alike 5 = .ok (.iload 4, 2) := by decide +kernel
theorem dX10_alike_7 : decode cX10_alike 7 = .ok (.isub, 1) := by decide +kernel
theorem dX10_alike_8 : decode cX10_alike 8 = .ok (.if_icmp .ne 7, 3) := by decide +kernel
theorem dX10_alike_11 : decode cX10_alike 11 = .ok (.iconst 1, 1) := by decide +kernel
theorem dX10_alike_12 : decode cX10_alike 12 = .ok (.goto 4, 3) := by decide +kernel
theorem dX10_alike_15 : decode cX10_alike 15 = .ok (.iconst 0, 1) := by decide +kernel
theorem dX10_alike_16 : decode cX10_alike 16 = .ok (.istore 6, 2) := by decide +kernel
theorem dX10_alike_18 : decode cX10_alike 18 = .ok (.iconst 0, 1) := by decide +kernel
theorem dX10_alike_19 : decode cX10_alike 19 = .ok (.istore 7, 2) := by decide +kernel
theorem dX10_alike_21 : decode cX10_alike 21 = .ok (.iload 7, 2) := by decide +kernel
theorem dX10_alike_23 : decode cX10_alike 23 = .ok (.iload_n 2, 1) := by decide +kernel
theorem dX10_alike_24 : decode cX10_alike 24 = .ok (.iload_n 1, 1) := by decide +kernel
theorem dX10_alike_25 : decode cX10_alike 25 = .ok (.isub, 1) := by decide +kernel
theorem dX10_alike_26 : decode cX10_alike 26 = .ok (.if_icmp .ge 37, 3) := by decide +kernel
theorem dX10_alike_29 : decode cX10_alike 29 = .ok (.iload 6, 2) := by decide +kernel
theorem dX10_alike_31 : decode cX10_alike 31 = .ok (.ifCond .eq 32, 3) := by decide +kernel
theorem dX10_alike_34 : decode cX10_alike 34 = .ok (.aload_n 0, 1) := by decide +kernel
theorem dX10_alike_35 : decode cX10_alike 35 = .ok (.iload_n 1, 1) := by decide +kernel
theorem dX10_alike_36 : decode cX10_alike 36 = .ok (.iload 7, 2) := by decide +kernel
theorem dX10_alike_38 : decode cX10_alike 38 = .ok (.iadd, 1) := by decide +kernel
theorem dX10_alike_39 : decode cX10_alike 39 = .ok (.iaload, 1) := by decide +kernel
theorem dX10_alike_40 : decode cX10_alike 40 = .ok (.aload_n 3, 1) := by decide +kernel
theorem dX10_alike_41 : decode cX10_alike 41 = .ok (.iload 4, 2) := by decide +kernel
theorem dX10_alike_43 : decode cX10_alike 43 = .ok (.iload 7, 2) := by decide +kernel
theorem dX10_alike_45 : decode cX10_alike 45 = .ok (.iadd, 1) := by decide +kernel
theorem dX10_alike_46 : decode cX10_alike 46 = .ok (.iaload, 1) := by decide +kernel
theorem dX10_alike_47 : decode cX10_alike 47 = .ok (.if_icmp .ne 7, 3) := by decide +kernel
theorem dX10_alike_50 : decode cX10_alike 50 = .ok (.iconst 1, 1) := by decide +kernel
theorem dX10_alike_51 : decode cX10_alike 51 = .ok (.goto 4, 3) := by decide +kernel
theorem dX10_alike_54 : decode cX10_alike 54 = .ok (.iconst 0, 1) := by decide +kernel
theorem dX10_alike_55 : decode cX10_alike 55 = .ok (.istore 6, 2) := by decide +kernel
theorem dX10_alike_57 : decode cX10_alike 57 = .ok (.iinc 7 1, 3) := by decide +kernel
theorem dX10_alike_60 : decode cX10_alike 60 = .ok (.goto (-39), 3) := by decide +kernel
theorem dX10_alike_63 : decode cX10_alike 63 = .ok (.iload 6, 2) := by decide +kernel
theorem dX10_alike_65 : decode cX10_alike 65 = .ok (.ireturn, 1) := by decide +kernel
theorem dX10_chunkComes_0 : decode cX10_chunkComes 0 = .ok (.bipush 7, 2) := by decide +kernel
theorem dX10_chunkComes_2 : decode cX10_chunkComes 2 = .ok (.aload_n 0, 1) := by decide +kernel
theorem dX10_chunkComes_3 : decode cX10_chunkComes 3 = .ok (.getfield 246, 3) := by decide +kernel
theorem dX10_chunkComes_6 : decode cX10_chunkComes 6 = .ok (.imul, 1) := by decide +kernel
theorem dX10_chunkComes_7 : decode cX10_chunkComes 7 = .ok (.istore 8, 2) := by decide +kernel
theorem dX10_chunkComes_9 : decode cX10_chunkComes 9 = .ok (.aload_n 0, 1) := by decide +kernel
theorem dX10_chunkComes_10 : decode cX10_chunkComes 10 = .ok (.getfield 94, 3) := by decide +kernel
theorem dX10_chunkComes_13 : decode cX10_chunkComes 13 = .ok (.iload 8, 2) := by decide +kernel
theorem dX10_chunkComes_15 : decode cX10_chunkComes 15 = .ok (.iload_n 1, 1) := by decide +kernel
theorem dX10_chunkComes_16 : decode cX10_chunkComes 16 = .ok (.iastore, 1) := by decide +kernel
theorem dX10_chunkComes_17 : decode cX10_chunkComes 17 = .ok (.aload_n 0, 1) := by decide +kernel
theorem dX10_chunkComes_18 : decode cX10_chunkComes 18 = .ok (.getfield 94, 3) := by decide +kernel
theorem dX10_chunkComes_21 : decode cX10_chunkComes 21 = .ok (.iload 8, 2) := by decide +kernel
theorem dX10_chunkComes_23 : decode cX10_chunkComes 23 = .ok (.iconst 1, 1) := by decide +kernel
theorem dX10_chunkComes_24 : decode cX10_chunkComes 24 = .ok (.iadd, 1) := by decide +kernel
theorem dX10_chunkComes_25 : decode cX10_chunkComes 25 = .ok (.iload_n 2, 1) := by decide +kernel
theorem dX10_chunkComes_26 : decode cX10_chunkComes 26 = .ok (.iastore, 1) := by decide +kernel
theorem dX10_chunkComes_27 : decode cX10_chunkComes 27 = .ok (.aload_n 0, 1) := by decide +kernel
theorem dX10_chunkComes_28 : decode cX10_chunkComes 28 = .ok (.getfield 94, 3) := by decide +kernel
theorem dX10_chunkComes_31 : decode cX10_chunkComes 31 = .ok (.iload 8, 2) := by decide +kernel
theorem dX10_chunkComes_33 : decode cX10_chunkComes 33 = .ok (.iconst 2, 1) := by decide +kernel
theorem dX10_chunkComes_34 : decode cX10_chunkComes 34 = .ok (.iadd, 1) := by decide +kernel
theorem dX10_chunkComes_35 : decode cX10_chunkComes 35 = .ok (.iload_n 3, 1) := by decide +kernel
theorem dX10_chunkComes_36 : decode cX10_chunkComes 36 = .ok (.iastore, 1) := by decide +kernel
theorem dX10_chunkComes_37 : decode cX10_chunkComes 37 = .ok (.aload_n 0, 1) := by decide +kernel
theorem dX10_chunkComes_38 : decode cX10_chunkComes 38 = .ok (.getfield 94, 3) := by decide +kernel
theorem dX10_chunkComes_41 : decode cX10_chunkComes 41 = .ok (.iload 8, 2) := by decide +kernel
theorem dX10_chunkComes_43 : decode cX10_chunkComes 43 = .ok (.iconst 3, 1) := by decide +kernel
theorem dX10_chunkComes_44 : decode cX10_chunkComes 44 = .ok (.iadd, 1) := by decide +kernel
theorem dX10_chunkComes_45 : decode cX10_chunkComes 45 = .ok (.iload 4, 2) := by decide +kernel
theorem dX10_chunkComes_47 : decode cX10_chunkComes 47 = .ok (.iastore, 1) := by decide +kernel
theorem dX10_chunkComes_48 : decode cX10_chunkComes 48 = .ok (.aload_n 0, 1) := by decide +kernel
theorem dX10_chunkComes_49 : decode cX10_chunkComes 49 = .ok (.getfield 94, 3) := by decide +kernel
theorem dX10_chunkComes_52 : decode cX10_chunkComes 52 = .ok (.iload 8, 2) := by decide +kernel
theorem dX10_chunkComes_54 : decode cX10_chunkComes 54 = .ok (.iconst 4, 1) := by decide +kernel
theorem dX10_chunkComes_55 : decode cX10_chunkComes 55 = .ok (.iadd, 1) := by decide +kernel
theorem dX10_chunkComes_56 : decode cX10_chunkComes 56 = .ok (.iload 5, 2) := by decide +kernel
theorem dX10_chunkComes_58 : decode cX10_chunkComes 58 = .ok (.iastore, 1) := by decide +kernel
theorem dX10_chunkComes_59 : decode cX10_chunkComes 59 = .ok (.aload_n 0, 1) := by decide +kernel
theorem dX10_chunkComes_60 : decode cX10_chunkComes 60 = .ok (.getfield 94, 3) := by decide +kernel
theorem dX10_chunkComes_63 : decode cX10_chunkComes 63 = .ok (.iload 8, 2) := by decide +kernel
theorem dX10_chunkComes_65 : decode cX10_chunkComes 65 = .ok (.iconst 5, 1) := by decide +kernel
theorem dX10_chunkComes_66 : decode cX10_chunkComes 66 = .ok (.iadd, 1) := by decide +kernel
theorem dX10_chunkComes_67 : decode cX10_chunkComes 67 = .ok (.iload 6, 2) := by decide +kernel
theorem dX10_chunkComes_69 : decode cX10_chunkComes 69 = .ok (.iastore, 1) := by decide +kernel
theorem dX10_chunkComes_70 : decode cX10_chunkComes 70 = .ok (.aload_n 0, 1) := by decide +kernel
theorem dX10_chunkComes_71 : decode cX10_chunkComes 71 = .ok (.getfield 94, 3) := by decide +kernel
theorem dX10_chunkComes_74 : decode cX10_chunkComes 74 = .ok (.iload 8, 2) := by decide +kernel
theorem dX10_chunkComes_76 : decode cX10_chunkComes 76 = .ok (.bipush 6, 2) := by decide +kernel
theorem dX10_chunkComes_78 : decode cX10_chunkComes 78 = .ok (.iadd, 1) := by decide +kernel
theorem dX10_chunkComes_79 : decode cX10_chunkComes 79 = .ok (.iload 7, 2) := by decide +kernel
theorem dX10_chunkComes_81 : decode cX10_chunkComes 81 = .ok (.iastore, 1) := by decide +kernel
theorem dX10_chunkComes_82 : decode cX10_chunkComes 82 = .ok (.aload_n 0, 1) := by decide +kernel
theorem dX10_chunkComes_83 : decode cX10_chunkComes 83 = .ok (.dup, 1) := by decide +kernel
theorem dX10_chunkComes_84 : decode cX10_chunkComes 84 = .ok (.getfield 246, 3) := by decide +kernel
theorem dX10_chunkComes_87 : decode cX10_chunkComes 87 = .ok (.iconst 1, 1) := by decide +kernel
theorem dX10_chunkComes_88 : decode cX10_chunkComes 88 = .ok (.iadd, 1) := by decide +kernel
theorem dX10_chunkComes_89 : decode cX10_chunkComes 89 = .ok (.putfield 246, 3) := by decide +kernel
theorem dX10_chunkComes_92 : decode cX10_chunkComes 92 = .ok (.iload_n 1, 1) := by decide +kernel
theorem dX10_chunkComes_93 : decode cX10_chunkComes 93 = .ok (.iconst 4, 1) := by decide +kernel
theorem dX10_chunkComes_94 : decode cX10_chunkComes 94 = .ok (.if_icmp .ne 23, 3) := by decide +kernel
theorem dX10_chunkComes_97 : decode cX10_chunkComes 97 = .ok (.aload_n 0, 1) := by decide +kernel
theorem dX10_chunkComes_98 : decode cX10_chunkComes 98 = .ok (.getfield 97, 3) := by decide +kernel
theorem dX10_chunkComes_101 : decode cX10_chunkComes 101 = .ok (.aload_n 0, 1) := by decide +kernel
theorem dX10_chunkComes_102 : decode cX10_chunkComes 102 = .ok (.getfield 249, 3) := by decide +kernel
theorem dX10_chunkComes_105 : decode cX10_chunkComes 105 = .ok (.iconst (-1), 1) := by decide +kernel
theorem dX10_chunkComes_106 : decode cX10_chunkComes 106 = .ok (.iastore, 1) := by decide +kernel
theorem dX10_chunkComes_107 : decode cX10_chunkComes 107 = .ok (.aload_n 0, 1) := by decide +kernel
theorem dX10_chunkComes_108 : decode cX10_chunkComes 108 = .ok (.dup, 1) := by decide +kernel
theorem dX10_chunkComes_109 : decode cX10_chunkComes 109 = .ok (.getfield 249, 3) := by decide +kernel
theorem dX10_chunkComes_112 : decode cX10_chunkComes 112 = .ok (.iconst 1, 1) := by decide +kernel
theorem dX10_chunkComes_113 : decode cX10_chunkComes 113 = .ok (.iadd, 1) := by decide +kernel
theorem dX10_chunkComes_114 : decode cX10_chunkComes 114 = .ok (.putfield 249, 3) := by decide +kernel
theorem dX10_chunkComes_117 : decode cX10_chunkComes 117 = .ok (.return_, 1) := by decide +kernel
theorem dX10_conflictComes_0 : decode cX10_conflictComes 0 = .ok (.iconst 0, 1) := by decide +kernel
theorem dX10_conflictComes_1 : decode cX10_conflictComes 1 = .ok (.istore 7, 2) := by decide +kernel
theorem dX10_conflictComes_3 : decode cX10_conflictComes 3 = .ok (.iconst 0, 1) := by decide +kernel
theorem dX10_conflictComes_4 : decode cX10_conflictComes 4 = .ok (.istore 8, 2) := by decide +kernel
theorem dX10_conflictComes_6 : decode cX10_conflictComes 6 = .ok (.aload_n 0, 1) := by decide +kernel
theorem dX10_conflictComes_7 : decode cX10_conflictComes 7 = .ok (.getfield 16, 3) := by decide +kernel
theorem dX10_conflictComes_10 : decode cX10_conflictComes 10 = .ok (.ifCond .eq 50, 3) := by decide +kernel
theorem dX10_conflictComes_13 : decode cX10_conflictComes 13 = .ok (.iload_n 3, 1) := by decide +kernel
theorem dX10_conflictComes_14 : decode cX10_conflictComes 14 = .ok (.iload 7, 2) := by decide +kernel
theorem dX10_conflictComes_16 : decode cX10_conflictComes 16 = .ok (.iadd, 1) := by decide +kernel
theorem dX10_conflictComes_17 : decode cX10_conflictComes 17 = .ok (.iload 4, 2) := by decide +kernel
theorem dX10_conflictComes_19 : decode cX10_conflictComes 19 = .ok (.if_icmp .ge 41, 3) := by decide +kernel
theorem dX10_conflictComes_22 : decode cX10_conflictComes 22 = .ok (.iload 5, 2) := by decide +kernel
theorem dX10_conflictComes_24 : decode cX10_conflictComes 24 = .ok (.iload 7, 2) := by decide +kernel
theorem dX10_conflictComes_26 : decode cX10_conflictComes 26 = .ok (.iadd, 1) := by decide +kernel
theorem dX10_conflictComes_27 : decode cX10_conflictComes 27 = .ok (.iload 6, 2) := by decide +kernel
theorem dX10_conflictComes_29 : decode cX10_conflictComes 29 = .ok (.if_icmp .ge 31, 3) := by decide +kernel
theorem dX10_conflictComes_32 : decode cX10_conflictComes 32 = .ok (.aload_n 0, 1) := by decide +kernel
theorem dX10_conflictComes_33 : decode cX10_conflictComes 33 = .ok (.getfield 82, 3) := by decide +kernel
theorem dX10_conflictComes_36 : decode cX10_conflictComes 36 = .ok (.iload_n 3, 1) := by decide +kernel
theorem dX10_conflictComes_37 : decode cX10_conflictComes 37 = .ok (.iload 7, 2) := by decide +kernel
theorem dX10_conflictComes_39 : decode cX10_conflictComes 39 = .ok (.iadd, 1) := by decide +kernel
theorem dX10_conflictComes_40 : decode cX10_conflictComes 40 = .ok (.iaload, 1) := by decide +kernel
theorem dX10_conflictComes_41 : decode cX10_conflictComes 41 = .ok (.aload_n 0, 1) := by decide +kernel
theorem dX10_conflictComes_42 : decode cX10_conflictComes 42 = .ok (.getfield 85, 3) := by decide +kernel
theorem dX10_conflictComes_45 : decode cX10_conflictComes 45 = .ok (.iload 5, 2) := by decide +kernel
theorem dX10_conflictComes_47 : decode cX10_conflictComes 47 = .ok (.iload 7, 2) := by decide +kernel
theorem dX10_conflictComes_49 : decode cX10_conflictComes 49 = .ok (.iadd, 1) := by decide +kernel
theorem dX10_conflictComes_50 : decode cX10_conflictComes 50 = .ok (.iaload, 1) := by decide +kernel
theorem dX10_conflictComes_51 : decode cX10_conflictComes 51 = .ok (.if_icmp .ne 9, 3) := by decide +kernel
theorem dX10_conflictComes_54 : decode cX10_conflictComes 54 = .ok (.iinc 7 1, 3) := by decide +kernel
theorem dX10_conflictComes_57 : decode cX10_conflictComes 57 = .ok (.goto (-51), 3) := by decide +kernel
theorem dX10_conflictComes_60 : decode cX10_conflictComes 60 = .ok (.aload_n 0, 1) := by decide +kernel
theorem dX10_conflictComes_61 : decode cX10_conflictComes 61 = .ok (.getfield 16, 3) := by decide +kernel
theorem dX10_conflictComes_64 : decode cX10_conflictComes 64 = .ok (.ifCond .eq 61, 3) := by decide +kernel
theorem dX10_conflictComes_67 : decode cX10_conflictComes 67 = .ok (.iload 4, 2) := by decide +kernel
theorem dX10_conflictComes_69 : decode cX10_conflictComes 69 = .ok (.iload 8, 2) := by decide +kernel
theorem dX10_conflictComes_71 : decode cX10_conflictComes 71 = .ok (.isub, 1) := by decide +kernel
theorem dX10_conflictComes_72 : decode cX10_conflictComes 72 = .ok (.iload_n 3, 1) := by decide +kernel
theorem dX10_conflictComes_73 : decode cX10_conflictComes 73 = .ok (.iload 7, 2) := by decide +kernel
theorem dX10_conflictComes_75 : decode cX10_conflictComes 75 = .ok (.iadd, 1) := by decide +kernel
theorem dX10_conflictComes_76 : decode cX10_conflictComes 76 = .ok (.if_icmp .le 49, 3) := by decide +kernel
theorem dX10_conflictComes_79 : decode cX10_conflictComes 79 = .ok (.iload 6, 2) := by decide +kernel
theorem dX10_conflictComes_81 : decode cX10_conflictComes 81 = .ok (.iload 8, 2) := by decide +kernel
theorem dX10_conflictComes_83 : decode cX10_conflictComes 83 = .ok (.isub, 1) := by decide +kernel
theorem dX10_conflictComes_84 : decode cX10_conflictComes 84 = .ok (.iload 5, 2) := by decide +kernel
theorem dX10_conflictComes_86 : decode cX10_conflictComes 86 = .ok (.iload 7, 2) := by decide +kernel
theorem dX10_conflictComes_88 : decode cX10_conflictComes 88 = .ok (.iadd, 1) := by decide +kernel
theorem dX10_conflictComes_89 : decode cX10_conflictComes 89 = .ok (.if_icmp .le 36, 3) := by decide +kernel
theorem dX10_conflictComes_92 : decode cX10_conflictComes 92 = .ok (.aload_n 0, 1) := by decide +kernel
theorem dX10_conflictComes_93 : decode cX10_conflictComes 93 = .ok (.getfield 82, 3) := by decide +kernel
theorem dX10_conflictComes_96 : decode cX10_conflictComes 96 = .ok (.iload 4, 2) := by decide +kernel
theorem dX10_conflictComes_98 : decode cX10_conflictComes 98 = .ok (.iload 8, 2) := by decide +kernel
theorem dX10_conflictComes_100 : decode cX10_conflictComes 100 = .ok (.isub, 1) := by decide +kernel
theorem dX10_conflictComes_101 : decode cX10_conflictComes 101 = .ok (.iconst 1, 1) := by decide +kernel
theorem dX10_conflictComes_102 : decode cX10_conflictComes 102 = .ok (.isub, 1) := by decide +kernel
theorem dX10_conflictComes_103 : decode cX10_conflictComes 103 = .ok (.iaload, 1) := by decide +kernel
theorem dX10_conflictComes_104 : decode cX10_conflictComes 104 = .ok (.aload_n 0, 1) := by decide +kernel
theorem dX10_conflictComes_105 : decode cX10_conflictComes 105 = .ok (.getfield 85, 3) := by decide +kernel
theorem dX10_conflictComes_108 : decode cX10_conflictComes 108 = .ok (.iload 6, 2) := by decide +kernel
theorem dX10_conflictComes_110 : decode cX10_conflictComes 110 = .ok (.iload 8, 2) := by decide +kernel
theorem dX10_conflictComes_112 : decode cX10_conflictComes 112 = .ok (.isub, 1) := by decide +kernel
theorem dX10_conflictComes_113 : decode cX10_conflictComes 113 = .ok (.iconst 1, 1) := by decide +kernel
theorem dX10_conflictComes_114 : decode cX10_conflictComes 114 = .ok (.isub, 1) := by decide +kernel
theorem dX10_conflictComes_115 : decode cX10_conflictComes 115 = .ok (.iaload, 1) := by decide +kernel
theorem dX10_conflictComes_116 : decode cX10_conflictComes 116 = .ok (.if_icmp .ne 9, 3) := by decide +kernel
theorem dX10_conflictComes_119 : decode cX10_conflictComes 119 = .ok (.iinc 8 1, 3) := by decide +kernel
theorem dX10_conflictComes_122 : decode cX10_conflictComes 122 = .ok (.goto (-62), 3) := by decide +kernel
theorem dX10_conflictComes_125 : decode cX10_conflictComes 125 = .ok (.iload 7, 2) := by decide +kernel
theorem dX10_conflictComes_127 : decode cX10_conflictComes 127 = .ok (.ifCond .le 22, 3) := by decide +kernel
theorem dX10_conflictComes_130 : decode cX10_conflictComes 130 = .ok (.aload_n 0, 1) := by decide +kernel
theorem dX10_conflictComes_131 : decode cX10_conflictComes 131 = .ok (.iconst 3, 1) := by decide +kernel
theorem dX10_conflictComes_132 : decode cX10_conflictComes 132 = .ok (.iload_n 1, 1) := by decide +kernel
theorem dX10_conflictComes_133 : decode cX10_conflictComes 133 = .ok (.iload_n 1, 1) := by decide +kernel
theorem dX10_conflictComes_134 : decode cX10_conflictComes 134 = .ok (.iload_n 3, 1) := by decide +kernel
theorem dX10_conflictComes_135 : decode cX10_conflictComes 135 = .ok (.iload_n 3, 1) := by decide +kernel
theorem dX10_conflictComes_136 : decode cX10_conflictComes 136 = .ok (.iload 7, 2) := by decide +kernel
theorem dX10_conflictComes_138 : decode cX10_conflictComes 138 = .ok (.iadd, 1) := by decide +kernel
theorem dX10_conflictComes_139 : decode cX10_conflictComes 139 = .ok (.iload 5, 2) := by decide +kernel
theorem dX10_conflictComes_141 : decode cX10_conflictComes 141 = .ok (.iload 5, 2) := by decide +kernel
theorem dX10_conflictComes_143 : decode cX10_conflictComes 143 = .ok (.iload 7, 2) := by decide +kernel
theorem dX10_conflictComes_145 : decode cX10_conflictComes 145 = .ok (.iadd, 1) := by decide +kernel
theorem dX10_conflictComes_146 : decode cX10_conflictComes 146 = .ok (.invokevirtual 252, 3) := by decide +kernel
theorem dX10_conflictComes_149 : decode cX10_conflictComes 149 = .ok (.aload_n 0, 1) := by decide +kernel
theorem dX10_conflictComes_150 : decode cX10_conflictComes 150 = .ok (.iconst 4, 1) := by decide +kernel
theorem dX10_conflictComes_151 : decode cX10_conflictComes 151 = .ok (.iload_n 1, 1) := by decide +kernel
theorem dX10_conflictComes_152 : decode cX10_conflictComes 152 = .ok (.iload_n 2, 1) := by decide +kernel
theorem dX10_conflictComes_153 : decode cX10_conflictComes 153 = .ok (.iload_n 3, 1) := by decide +kernel
theorem dX10_conflictComes_154 : decode cX10_conflictComes 154 = .ok (.iload 7, 2) := by decide +kernel
theorem dX10_conflictComes_156 : decode cX10_conflictComes 156 = .ok (.iadd, 1) := by decide +kernel
theorem dX10_conflictComes_157 : decode cX10_conflictComes 157 = .ok (.iload 4, 2) := by decide +kernel
theorem dX10_conflictComes_159 : decode cX10_conflictComes 159 = .ok (.iload 8, 2) := by decide +kernel
theorem dX10_conflictComes_161 : decode cX10_conflictComes 161 = .ok (.isub, 1) := by decide +kernel
theorem dX10_conflictComes_162 : decode cX10_conflictComes 162 = .ok (.iload 5, 2) := by decide +kernel
theorem dX10_conflictComes_164 : decode cX10_conflictComes 164 = .ok (.iload 7, 2) := by decide +kernel
theorem dX10_conflictComes_166 : decode cX10_conflictComes 166 = .ok (.iadd, 1) := by decide +kernel
theorem dX10_conflictComes_167 : decode cX10_conflictComes 167 = .ok (.iload 6, 2) := by decide +kernel
theorem dX10_conflictComes_169 : decode cX10_conflictComes 169 = .ok (.iload 8, 2) := by decide +kernel
theorem dX10_conflictComes_171 : decode cX10_conflictComes 171 = .ok (.isub, 1) := by decide +kernel
theorem dX10_conflictComes_172 : decode cX10_conflictComes 172 = .ok (.invokevirtual 252, 3) := by decide +kernel
theorem dX10_conflictComes_175 : decode cX10_conflictComes 175 = .ok (.iload 8, 2) := by decide +kernel
theorem dX10_conflictComes_177 : decode cX10_conflictComes 177 = .ok (.ifCond .le 24, 3) := by decide +kernel
theorem dX10_conflictComes_180 : decode cX10_conflictComes 180 = .ok (.aload_n 0, 1) := by decide +kernel
theorem dX10_conflictComes_181 : decode cX10_conflictComes 181 = .ok (.iconst 3, 1) := by decide +kernel
theorem dX10_conflictComes_182 : decode cX10_conflictComes 182 = .ok (.iload_n 2, 1) := by decide +kernel
theorem dX10_conflictComes_183 : decode cX10_conflictComes 183 = .ok (.iload_n 2, 1) := by decide +kernel
theorem dX10_conflictComes_184 : decode cX10_conflictComes 184 = .ok (.iload 4, 2) := by decide +kernel
theorem dX10_conflictComes_186 : decode cX10_conflictComes 186 = .ok (.iload 8, 2) := by decide +kernel
theorem dX10_conflictComes_188 : decode cX10_conflictComes 188 = .ok (.isub, 1) := by decide +kernel
theorem dX10_conflictComes_189 : decode cX10_conflictComes 189 = .ok (.iload 4, 2) := by decide +kernel
theorem dX10_conflictComes_191 : decode cX10_conflictComes 191 = .ok (.iload 6, 2) := by decide +kernel
theorem dX10_conflictComes_193 : decode cX10_conflictComes 193 = .ok (.iload 8, 2) := by decide +kernel
theorem dX10_conflictComes_195 : decode cX10_conflictComes 195 = .ok (.isub, 1) := by decide +kernel
theorem dX10_conflictComes_196 : decode cX10_conflictComes 196 = .ok (.iload 6, 2) := by decide +kernel
theorem dX10_conflictComes_198 : decode cX10_conflictComes 198 = .ok (.invokevirtual 252, 3) := by decide +kernel
theorem dX10_conflictComes_201 : decode cX10_conflictComes 201 = .ok (.return_, 1) := by decide +kernel
theorem dX10_regionComes_0 : decode cX10_regionComes 0 = .ok (.aload_n 0, 1) := by decide +kernel
theorem dX10_regionComes_1 : decode cX10_regionComes 1 = .ok (.getfield 82, 3) := by decide +kernel
theorem dX10_regionComes_4 : decode cX10_regionComes 4 = .ok (.iload_n 3, 1) := by decide +kernel
theorem dX10_regionComes_5 : decode cX10_regionComes 5 = .ok (.iload 4, 2) := by decide +kernel
theorem dX10_regionComes_7 : decode cX10_regionComes 7 = .ok (.aload_n 0, 1) := by decide +kernel
theorem dX10_regionComes_8 : decode cX10_regionComes 8 = .ok (.getfield 79, 3) := by decide +kernel
theorem dX10_regionComes_11 : decode cX10_regionComes 11 = .ok (.iload_n 1, 1) := by decide +kernel
theorem dX10_regionComes_12 : decode cX10_regionComes 12 = .ok (.iload_n 2, 1) := by decide +kernel
theorem dX10_regionComes_13 : decode cX10_regionComes 13 = .ok (.invokestatic 256, 3) := by decide +kernel
theorem dX10_regionComes_16 : decode cX10_regionComes 16 = .ok (.ifCond .eq 20, 3) := by decide +kernel
theorem dX10_regionComes_19 : decode cX10_regionComes 19 = .ok (.aload_n 0, 1) := by decide +kernel
theorem dX10_regionComes_20 : decode cX10_regionComes 20 = .ok (.iconst 2, 1) := by decide +kernel
theorem dX10_regionComes_21 : decode cX10_regionComes 21 = .ok (.iload_n 1, 1) := by decide +kernel
theorem dX10_regionComes_22 : decode cX10_regionComes 22 = .ok (.iload_n 2, 1) := by decide +kernel
theorem dX10_regionComes_23 : decode cX10_regionComes 23 = .ok (.iload_n 3, 1) := by decide +kernel
theorem dX10_regionComes_24 : decode cX10_regionComes 24 = .ok (.iload 4, 2) := by decide +kernel
theorem dX10_regionComes_26 : decode cX10_regionComes 26 = .ok (.iload 5, 2) := by decide +kernel
theorem dX10_regionComes_28 : decode cX10_regionComes 28 = .ok (.iload 6, 2) := by decide +kernel
theorem dX10_regionComes_30 : decode cX10_regionComes 30 = .ok (.invokevirtual 252, 3) := by decide +kernel
theorem dX10_regionComes_33 : decode cX10_regionComes 33 = .ok (.goto 91, 3) := by decide +kernel
theorem dX10_regionComes_36 : decode cX10_regionComes 36 = .ok (.aload_n 0, 1) := by decide +kernel
theorem dX10_regionComes_37 : decode cX10_regionComes 37 = .ok (.getfield 85, 3) := by decide +kernel
theorem dX10_regionComes_40 : decode cX10_regionComes 40 = .ok (.iload 5, 2) := by decide +kernel
theorem dX10_regionComes_42 : decode cX10_regionComes 42 = .ok (.iload 6, 2) := by decide +kernel
theorem dX10_regionComes_44 : decode cX10_regionComes 44 = .ok (.aload_n 0, 1) := by decide +kernel
theorem dX10_regionComes_45 : decode cX10_regionComes 45 = .ok (.getfield 79, 3) := by decide +kernel
theorem dX10_regionComes_48 : decode cX10_regionComes 48 = .ok (.iload_n 1, 1) := by decide +kernel
theorem dX10_regionComes_49 : decode cX10_regionComes 49 = .ok (.iload_n 2, 1) := by decide +kernel
theorem dX10_regionComes_50 : decode cX10_regionComes 50 = .ok (.invokestatic 256, 3) := by decide +kernel
theorem dX10_regionComes_53 : decode cX10_regionComes 53 = .ok (.ifCond .eq 20, 3) := by decide +kernel
theorem dX10_regionComes_56 : decode cX10_regionComes 56 = .ok (.aload_n 0, 1) := by decide +kernel
theorem dX10_regionComes_57 : decode cX10_regionComes 57 = .ok (.iconst 1, 1) := by decide +kernel
theorem dX10_regionComes_58 : decode cX10_regionComes 58 = .ok (.iload_n 1, 1) := by decide +kernel
theorem dX10_regionComes_59 : decode cX10_regionComes 59 = .ok (.iload_n 2, 1) := by decide +kernel
theorem dX10_regionComes_60 : decode cX10_regionComes 60 = .ok (.iload_n 3, 1) := by decide +kernel
theorem dX10_regionComes_61 : decode cX10_regionComes 61 = .ok (.iload 4, 2) := by decide +kernel
theorem dX10_regionComes_63 : decode cX10_regionComes 63 = .ok (.iload 5, 2) := by decide +kernel
theorem dX10_regionComes_65 : decode cX10_regionComes 65 = .ok (.iload 6, 2) := by decide +kernel
theorem dX10_regionComes_67 : decode cX10_regionComes 67 = .ok (.invokevirtual 252, 3) := by decide +kernel
theorem dX10_regionComes_70 : decode cX10_regionComes 70 = .ok (.goto 54, 3) := by decide +kernel
theorem dX10_regionComes_73 : decode cX10_regionComes 73 = .ok (.aload_n 0, 1) := by decide +kernel
theorem dX10_regionComes_74 : decode cX10_regionComes 74 = .ok (.getfield 82, 3) := by decide +kernel
theorem dX10_regionComes_77 : decode cX10_regionComes 77 = .ok (.iload_n 3, 1) := by decide +kernel
theorem dX10_regionComes_78 : decode cX10_regionComes 78 = .ok (.iload 4, 2) := by decide +kernel
theorem dX10_regionComes_80 : decode cX10_regionComes 80 = .ok (.aload_n 0, 1) := by decide +kernel
theorem dX10_regionComes_81 : decode cX10_regionComes 81 = .ok (.getfield 85, 3) := by decide +kernel
theorem dX10_regionComes_84 : decode cX10_regionComes 84 = .ok (.iload 5, 2) := by decide +kernel
theorem dX10_regionComes_86 : decode cX10_regionComes 86 = .ok (.iload 6, 2) := by decide +kernel
theorem dX10_regionComes_88 : decode cX10_regionComes 88 = .ok (.invokestatic 256, 3) := by decide +kernel
theorem dX10_regionComes_91 : decode cX10_regionComes 91 = .ok (.ifCond .eq 20, 3) := by decide +kernel
theorem dX10_regionComes_94 : decode cX10_regionComes 94 = .ok (.aload_n 0, 1) := by decide +kernel
theorem dX10_regionComes_95 : decode cX10_regionComes 95 = .ok (.iconst 3, 1) := by decide +kernel
theorem dX10_regionComes_96 : decode cX10_regionComes 96 = .ok (.iload_n 1, 1) := by decide +kernel
theorem dX10_regionComes_97 : decode cX10_regionComes 97 = .ok (.iload_n 2, 1) := by decide +kernel
theorem dX10_regionComes_98 : decode cX10_regionComes 98 = .ok (.iload_n 3, 1) := by decide +kernel
theorem dX10_regionComes_99 : decode cX10_regionComes 99 = .ok (.iload 4, 2) := by decide +kernel
theorem dX10_regionComes_101 : decode cX10_regionComes 101 = .ok (.iload 5, 2) := by decide +kernel
theorem dX10_regionComes_103 : decode cX10_regionComes 103 = .ok (.iload 6, 2) := by decide +kernel
theorem dX10_regionComes_105 : decode cX10_regionComes 105 = .ok (.invokevirtual 252, 3) := by decide +kernel
theorem dX10_regionComes_108 : decode cX10_regionComes 108 = .ok (.goto 16, 3) := by decide +kernel
theorem dX10_regionComes_111 : decode cX10_regionComes 111 = .ok (.aload_n 0, 1) := by decide +kernel
theorem dX10_regionComes_112 : decode cX10_regionComes 112 = .ok (.iload_n 1, 1) := by decide +kernel
theorem dX10_regionComes_113 : decode cX10_regionComes 113 = .ok (.iload_n 2, 1) := by decide +kernel
theorem dX10_regionComes_114 : decode cX10_regionComes 114 = .ok (.iload_n 3, 1) := by decide +kernel
theorem dX10_regionComes_115 : decode cX10_regionComes 115 = .ok (.iload 4, 2) := by decide +kernel
theorem dX10_regionComes_117 : decode cX10_regionComes 117 = .ok (.iload 5, 2) := by decide +kernel
theorem dX10_regionComes_119 : decode cX10_regionComes 119 = .ok (.iload 6, 2) := by decide +kernel
theorem dX10_regionComes_121 : decode cX10_regionComes 121 = .ok (.invokevirtual 260, 3) := by decide +kernel
theorem dX10_regionComes_124 : decode cX10_regionComes 124 = .ok (.return_, 1) := by decide +kernel
theorem dX10_merge_0 : decode cX10_merge 0 = .ok (.iload_n 1, 1) := by decide +kernel
theorem dX10_merge_1 : decode cX10_merge 1 = .ok (.invokestatic 126, 3) := by decide +kernel
theorem dX10_merge_4 : decode cX10_merge 4 = .ok (.ifCond .eq 17, 3) := by decide +kernel
theorem dX10_merge_7 : decode cX10_merge 7 = .ok (.iload_n 2, 1) := by decide +kernel
theorem dX10_merge_8 : decode cX10_merge 8 = .ok (.invokestatic 126, 3) := by decide +kernel
theorem dX10_merge_11 : decode cX10_merge 11 = .ok (.ifCond .eq 10, 3) := by decide +kernel
theorem dX10_merge_14 : decode cX10_merge 14 = .ok (.iload_n 3, 1) := by decide +kernel
theorem dX10_merge_15 : decode cX10_merge 15 = .ok (.invokestatic 126, 3) := by decide +kernel
theorem dX10_merge_18 : decode cX10_merge 18 = .ok (.ifCond .ne 9, 3) := by decide +kernel
theorem dX10_merge_21 : decode cX10_merge 21 = .ok (.aload_n 0, 1) := by decide +kernel
theorem dX10_merge_22 : decode cX10_merge 22 = .ok (.iconst 1, 1) := by decide +kernel
theorem dX10_merge_23 : decode cX10_merge 23 = .ok (.invokevirtual 130, 3) := by decide +kernel
theorem dX10_merge_26 : decode cX10_merge 26 = .ok (.ireturn, 1) := by decide +kernel
theorem dX10_merge_27 : decode cX10_merge 27 = .ok (.aload_n 0, 1) := by decide +kernel
theorem dX10_merge_28 : decode cX10_merge 28 = .ok (.iconst 1, 1) := by decide +kernel
theorem dX10_merge_29 : decode cX10_merge 29 = .ok (.putfield 264, 3) := by decide +kernel
theorem dX10_merge_32 : decode cX10_merge 32 = .ok (.aload_n 0, 1) := by decide +kernel
theorem dX10_merge_33 : decode cX10_merge 33 = .ok (.aload_n 0, 1) := by decide +kernel
theorem dX10_merge_34 : decode cX10_merge 34 = .ok (.iload_n 1, 1) := by decide +kernel
theorem dX10_merge_35 : decode cX10_merge 35 = .ok (.aload_n 0, 1) := by decide +kernel
theorem dX10_merge_36 : decode cX10_merge 36 = .ok (.getfield 79, 3) := by decide +kernel
theorem dX10_merge_39 : decode cX10_merge 39 = .ok (.invokevirtual 207, 3) := by decide +kernel
theorem dX10_merge_42 : decode cX10_merge 42 = .ok (.putfield 267, 3) := by decide +kernel
theorem dX10_merge_45 : decode cX10_merge 45 = .ok (.aload_n 0, 1) := by decide +kernel
theorem dX10_merge_46 : decode cX10_merge 46 = .ok (.aload_n 0, 1) := by decide +kernel
theorem dX10_merge_47 : decode cX10_merge 47 = .ok (.iload_n 2, 1) := by decide +kernel
theorem dX10_merge_48 : decode cX10_merge 48 = .ok (.aload_n 0, 1) := by decide +kernel
theorem dX10_merge_49 : decode cX10_merge 49 = .ok (.getfield 82, 3) := by decide +kernel
theorem dX10_merge_52 : decode cX10_merge 52 = .ok (.invokevirtual 207, 3) := by decide +kernel
theorem dX10_merge_55 : decode cX10_merge 55 = .ok (.putfield 270, 3) := by decide +kernel
theorem dX10_merge_58 : decode cX10_merge 58 = .ok (.aload_n 0, 1) := by decide +kernel
theorem dX10_merge_59 : decode cX10_merge 59 = .ok (.aload_n 0, 1) := by decide +kernel
theorem dX10_merge_60 : decode cX10_merge 60 = .ok (.iload_n 3, 1) := by decide +kernel
theorem dX10_merge_61 : decode cX10_merge 61 = .ok (.aload_n 0, 1) := by decide +kernel
theorem dX10_merge_62 : decode cX10_merge 62 = .ok (.getfield 85, 3) := by decide +kernel
theorem dX10_merge_65 : decode cX10_merge 65 = .ok (.invokevirtual 207, 3) := by decide +kernel
theorem dX10_merge_68 : decode cX10_merge 68 = .ok (.putfield 273, 3) := by decide +kernel
theorem dX10_merge_71 : decode cX10_merge 71 = .ok (.aload_n 0, 1) := by decide +kernel
theorem dX10_merge_72 : decode cX10_merge 72 = .ok (.aload_n 0, 1) := by decide +kernel
theorem dX10_merge_73 : decode cX10_merge 73 = .ok (.getfield 79, 3) := by decide +kernel
theorem dX10_merge_76 : decode cX10_merge 76 = .ok (.aload_n 0, 1) := by decide +kernel
theorem dX10_merge_77 : decode cX10_merge 77 = .ok (.getfield 267, 3) := by decide +kernel
theorem dX10_merge_80 : decode cX10_merge 80 = .ok (.aload_n 0, 1) := by decide +kernel
theorem dX10_merge_81 : decode cX10_merge 81 = .ok (.getfield 82, 3) := by decide +kernel
theorem dX10_merge_84 : decode cX10_merge 84 = .ok (.aload_n 0, 1) := by decide +kernel
theorem dX10_merge_85 : decode cX10_merge 85 = .ok (.getfield 270, 3) := by decide +kernel
theorem dX10_merge_88 : decode cX10_merge 88 = .ok (.aload_n 0, 1) := by decide +kernel
theorem dX10_merge_89 : decode cX10_merge 89 = .ok (.getfield 88, 3) := by decide +kernel
theorem dX10_merge_92 : decode cX10_merge 92 = .ok (.invokevirtual 223, 3) := by decide +kernel
theorem dX10_merge_95 : decode cX10_merge 95 = .ok (.aload_n 0, 1) := by decide +kernel
theorem dX10_merge_96 : decode cX10_merge 96 = .ok (.aload_n 0, 1) := by decide +kernel
theorem dX10_merge_97 : decode cX10_merge 97 = .ok (.getfield 79, 3) := by decide +kernel
theorem dX10_merge_100 : decode cX10_merge 100 = .ok (.aload_n 0, 1) := by decide +kernel
theorem dX10_merge_101 : decode cX10_merge 101 = .ok (.getfield 267, 3) := by decide +kernel
theorem dX10_merge_104 : decode cX10_merge 104 = .ok (.aload_n 0, 1) := by decide +kernel
theorem dX10_merge_105 : decode cX10_merge 105 = .ok (.getfield 85, 3) := by decide +kernel
theorem dX10_merge_108 : decode cX10_merge 108 = .ok (.aload_n 0, 1) := by decide +kernel
theorem dX10_merge_109 : decode cX10_merge 109 = .ok (.getfield 273, 3) := by decide +kernel
theorem dX10_merge_112 : decode cX10_merge 112 = .ok (.aload_n 0, 1) := by decide +kernel
theorem dX10_merge_113 : decode cX10_merge 113 = .ok (.getfield 91, 3) := by decide +kernel
theorem dX10_merge_116 : decode cX10_merge 116 = .ok (.invokevirtual 223, 3) := by decide +kernel
theorem dX10_merge_119 : decode cX10_merge 119 = .ok (.aload_n 0, 1) := by decide +kernel
theorem dX10_merge_120 : decode cX10_merge 120 = .ok (.iconst 0, 1) := by decide +kernel
theorem dX10_merge_121 : decode cX10_merge 121 = .ok (.putfield 246, 3) := by decide +kernel
theorem dX10_merge_124 : decode cX10_merge 124 = .ok (.aload_n 0, 1) := by decide +kernel
theorem dX10_merge_125 : decode cX10_merge 125 = .ok (.iconst 0, 1) := by decide +kernel
theorem dX10_merge_126 : decode cX10_merge 126 = .ok (.putfield 249, 3) := by decide +kernel
theorem dX10_merge_129 : decode cX10_merge 129 = .ok (.iconst 0, 1) := by decide +kernel
theorem dX10_merge_130 : decode cX10_merge 130 = .ok (.istore 4, 2) := by decide +kernel
theorem dX10_merge_132 : decode cX10_merge 132 = .ok (.iconst 0, 1) := by decide +kernel
theorem dX10_merge_133 : decode cX10_merge 133 = .ok (.istore 5, 2) := by decide +kernel
theorem dX10_merge_135 : decode cX10_merge 135 = .ok (.iconst 0, 1) := by decide +kernel
theorem dX10_merge_136 : decode cX10_merge 136 = .ok (.istore 6, 2) := by decide +kernel
theorem dX10_merge_138 : decode cX10_merge 138 = .ok (.iconst 0, 1) := by decide +kernel
theorem dX10_merge_139 : decode cX10_merge 139 = .ok (.istore 7, 2) := by decide +kernel
theorem dX10_merge_141 : decode cX10_merge 141 = .ok (.iconst 0, 1) := by decide +kernel
theorem dX10_merge_142 : decode cX10_merge 142 = .ok (.istore 8, 2) := by decide +kernel
theorem dX10_merge_144 : decode cX10_merge 144 = .ok (.iload 8, 2) := by decide +kernel
theorem dX10_merge_146 : decode cX10_merge 146 = .ok (.aload_n 0, 1) := by decide +kernel
theorem dX10_merge_147 : decode cX10_merge 147 = .ok (.getfield 267, 3) := by decide +kernel
theorem dX10_merge_150 : decode cX10_merge 150 = .ok (.if_icmp .gt 241, 3) := by decide +kernel
theorem dX10_merge_153 : decode cX10_merge 153 = .ok (.iload 8, 2) := by decide +kernel
theorem dX10_merge_155 : decode cX10_merge 155 = .ok (.aload_n 0, 1) := by decide +kernel
theorem dX10_merge_156 : decode cX10_merge 156 = .ok (.getfield 267, 3) := by decide +kernel
theorem dX10_merge_159 : decode cX10_merge 159 = .ok (.if_icmp .ne 7, 3) := by decide +kernel
theorem dX10_merge_162 : decode cX10_merge 162 = .ok (.iconst 1, 1) := by decide +kernel
theorem dX10_merge_163 : decode cX10_merge 163 = .ok (.goto 4, 3) := by decide +kernel
theorem dX10_merge_166 : decode cX10_merge 166 = .ok (.iconst 0, 1) := by decide +kernel
theorem dX10_merge_167 : decode cX10_merge 167 = .ok (.istore 9, 2) := by decide +kernel
theorem dX10_merge_169 : decode cX10_merge 169 = .ok (.iload 9, 2) := by decide +kernel
theorem dX10_merge_171 : decode cX10_merge 171 = .ok (.ifCond .ne 23, 3) := by decide +kernel
theorem dX10_merge_174 : decode cX10_merge 174 = .ok (.aload_n 0, 1) := by decide +kernel
theorem dX10_merge_175 : decode cX10_merge 175 = .ok (.getfield 88, 3) := by decide +kernel
theorem dX10_merge_178 : decode cX10_merge 178 = .ok (.iload 8, 2) := by decide +kernel
theorem dX10_merge_180 : decode cX10_merge 180 = .ok (.iaload, 1) := by decide +kernel
theorem dX10_merge_181 : decode cX10_merge 181 = .ok (.ifCond .lt 204, 3) := by decide +kernel
theorem dX10_merge_184 : decode cX10_merge 184 = .ok (.aload_n 0, 1) := by decide +kernel
theorem dX10_merge_185 : decode cX10_merge 185 = .ok (.getfield 91, 3) := by decide +kernel
theorem dX10_merge_188 : decode cX10_merge 188 = .ok (.iload 8, 2) := by decide +kernel
theorem dX10_merge_190 : decode cX10_merge 190 = .ok (.iaload, 1) := by decide +kernel
theorem dX10_merge_191 : decode cX10_merge 191 = .ok (.ifCond .lt 194, 3) := by decide +kernel
theorem dX10_merge_194 : decode cX10_merge 194 = .ok (.iload 9, 2) := by decide +kernel
theorem dX10_merge_196 : decode cX10_merge 196 = .ok (.ifCond .eq 10, 3) := by decide +kernel
theorem dX10_merge_199 : decode cX10_merge 199 = .ok (.aload_n 0, 1) := by decide +kernel
theorem dX10_merge_200 : decode cX10_merge 200 = .ok (.getfield 270, 3) := by decide +kernel
theorem dX10_merge_203 : decode cX10_merge 203 = .ok (.goto 10, 3) := by decide +kernel
theorem dX10_merge_206 : decode cX10_merge 206 = .ok (.aload_n 0, 1) := by decide +kernel
theorem dX10_merge_207 : decode cX10_merge 207 = .ok (.getfield 88, 3) := by decide +kernel
theorem dX10_merge_210 : decode cX10_merge 210 = .ok (.iload 8, 2) := by decide +kernel
theorem dX10_merge_212 : decode cX10_merge 212 = .ok (.iaload, 1) := by decide +kernel
theorem dX10_merge_213 : decode cX10_merge 213 = .ok (.istore 10, 2) := by decide +kernel
theorem dX10_merge_215 : decode cX10_merge 215 = .ok (.iload 9, 2) := by decide +kernel
theorem dX10_merge_217 : decode cX10_merge 217 = .ok (.ifCond .eq 10, 3) := by decide +kernel
theorem dX10_merge_220 : decode cX10_merge 220 = .ok (.aload_n 0, 1) := by decide +kernel
theorem dX10_merge_221 : decode cX10_merge 221 = .ok (.getfield 273, 3) := by decide +kernel
theorem dX10_merge_224 : decode cX10_merge 224 = .ok (.goto 10, 3) := by decide +kernel
theorem dX10_merge_227 : decode cX10_merge 227 = .ok (.aload_n 0, 1) := by decide +kernel
theorem dX10_merge_228 : decode cX10_merge 228 = .ok (.getfield 91, 3) := by decide +kernel
theorem dX10_merge_231 : decode cX10_merge 231 = .ok (.iload 8, 2) := by decide +kernel
theorem dX10_merge_233 : decode cX10_merge 233 = .ok (.iaload, 1) := by decide +kernel
theorem dX10_merge_234 : decode cX10_merge 234 = .ok (.istore 11, 2) := by decide +kernel
theorem dX10_merge_236 : decode cX10_merge 236 = .ok (.iload 8, 2) := by decide +kernel
theorem dX10_merge_238 : decode cX10_merge 238 = .ok (.iload 4, 2) := by decide +kernel
theorem dX10_merge_240 : decode cX10_merge 240 = .ok (.if_icmp .gt 17, 3) := by decide +kernel
theorem dX10_merge_243 : decode cX10_merge 243 = .ok (.iload 10, 2) := by decide +kernel
theorem dX10_merge_245 : decode cX10_merge 245 = .ok (.iload 5, 2) := by decide +kernel
theorem dX10_merge_247 : decode cX10_merge 247 = .ok (.if_icmp .gt 10, 3) := by decide +kernel
theorem dX10_merge_250 : decode cX10_merge 250 = .ok (.iload 11, 2) := by decide +kernel
theorem dX10_merge_252 : decode cX10_merge 252 = .ok (.iload 6, 2) := by decide +kernel
theorem dX10_merge_254 : decode cX10_merge 254 = .ok (.if_icmp .le 22, 3) := by decide +kernel
theorem dX10_merge_257 : decode cX10_merge 257 = .ok (.aload_n 0, 1) := by decide +kernel
theorem dX10_merge_258 : decode cX10_merge 258 = .ok (.iload 4, 2) := by decide +kernel
theorem dX10_merge_260 : decode cX10_merge 260 = .ok (.iload 8, 2) := by decide +kernel
theorem dX10_merge_262 : decode cX10_merge 262 = .ok (.iload 5, 2) := by decide +kernel
theorem dX10_merge_264 : decode cX10_merge 264 = .ok (.iload 10, 2) := by decide +kernel
theorem dX10_merge_266 : decode cX10_merge 266 = .ok (.iload 6, 2) := by decide +kernel
theorem dX10_merge_268 : decode cX10_merge 268 = .ok (.iload 11, 2) := by decide +kernel
theorem dX10_merge_270 : decode cX10_merge 270 = .ok (.invokevirtual 276, 3) := by decide +kernel
theorem dX10_merge_273 : decode cX10_merge 273 = .ok (.iconst 0, 1) := by decide +kernel
theorem dX10_merge_274 : decode cX10_merge 274 = .ok (.istore 7, 2) := by decide +kernel
theorem dX10_merge_276 : decode cX10_merge 276 = .ok (.iload 9, 2) := by decide +kernel
theorem dX10_merge_278 : decode cX10_merge 278 = .ok (.ifCond .ne 89, 3) := by decide +kernel
theorem dX10_merge_281 : decode cX10_merge 281 = .ok (.iload 7, 2) := by decide +kernel
theorem dX10_merge_283 : decode cX10_merge 283 = .ok (.ifCond .eq 58, 3) := by decide +kernel
theorem dX10_merge_286 : decode cX10_merge 286 = .ok (.bipush 7, 2) := by decide +kernel
theorem dX10_merge_288 : decode cX10_merge 288 = .ok (.aload_n 0, 1) := by decide +kernel
theorem dX10_merge_289 : decode cX10_merge 289 = .ok (.getfield 246, 3) := by decide +kernel
theorem dX10_merge_292 : decode cX10_merge 292 = .ok (.imul, 1) := by decide +kernel
theorem dX10_merge_293 : decode cX10_merge 293 = .ok (.bipush 7, 2) := by decide +kernel
theorem dX10_merge_295 : decode cX10_merge 295 = .ok (.isub, 1) := by decide +kernel
theorem dX10_merge_296 : decode cX10_merge 296 = .ok (.istore 12, 2) := by decide +kernel
theorem dX10_merge_298 : decode cX10_merge 298 = .ok (.aload_n 0, 1) := by decide +kernel
theorem dX10_merge_299 : decode cX10_merge 299 = .ok (.getfield 94, 3) := by decide +kernel
theorem dX10_merge_302 : decode cX10_merge 302 = .ok (.iload 12, 2) := by decide +kernel
theorem dX10_merge_304 : decode cX10_merge 304 = .ok (.iconst 2, 1) := by decide +kernel
theorem dX10_merge_305 : decode cX10_merge 305 = .ok (.iadd, 1) := by decide +kernel
theorem dX10_merge_306 : decode cX10_merge 306 = .ok (.dup2, 1) := by decide +kernel
theorem dX10_merge_307 : decode cX10_merge 307 = .ok (.iaload, 1) := by decide +kernel
theorem dX10_merge_308 : decode cX10_merge 308 = .ok (.iconst 1, 1) := by decide +kernel
theorem dX10_merge_309 : decode cX10_merge 309 = .ok (.iadd, 1) := by decide +kernel
theorem dX10_merge_310 : decode cX10_merge 310 = .ok (.iastore, 1) := by decide +kernel
theorem dX10_merge_311 : decode cX10_merge 311 = .ok (.aload_n 0, 1) := by decide +kernel
theorem dX10_merge_312 : decode cX10_merge 312 = .ok (.getfield 94, 3) := by decide +kernel
theorem dX10_merge_315 : decode cX10_merge 315 = .ok (.iload 12, 2) := by decide +kernel
theorem dX10_merge_317 : decode cX10_merge 317 = .ok (.iconst 4, 1) := by decide +kernel
theorem dX10_merge_318 : decode cX10_merge 318 = .ok (.iadd, 1) := by decide +kernel
theorem dX10_merge_319 : decode cX10_merge 319 = .ok (.dup2, 1) := by decide +kernel
theorem dX10_merge_320 : decode cX10_merge 320 = .ok (.iaload, 1) := by decide +kernel
theorem dX10_merge_321 : decode cX10_merge 321 = .ok (.iconst 1, 1) := by decide +kernel
theorem dX10_merge_322 : decode cX10_merge 322 = .ok (.iadd, 1) := by decide +kernel
theorem dX10_merge_323 : decode cX10_merge 323 = .ok (.iastore, 1) := by decide +kernel
theorem dX10_merge_324 : decode cX10_merge 324 = .ok (.aload_n 0, 1) := by decide +kernel
theorem dX10_merge_325 : decode cX10_merge 325 = .ok (.getfield 94, 3) := by decide +kernel
theorem dX10_merge_328 : decode cX10_merge 328 = .ok (.iload 12, 2) := by decide +kernel
theorem dX10_merge_330 : decode cX10_merge 330 = .ok (.bipush 6, 2) := by decide +kernel
theorem dX10_merge_332 : decode cX10_merge 332 = .ok (.iadd, 1) := by decide +kernel
theorem dX10_merge_333 : decode cX10_merge 333 = .ok (.dup2, 1) := by decide +kernel
theorem dX10_merge_334 : decode cX10_merge 334 = .ok (.iaload, 1) := by decide +kernel
theorem dX10_merge_335 : decode cX10_merge 335 = .ok (.iconst 1, 1) := by decide +kernel
theorem dX10_merge_336 : decode cX10_merge 336 = .ok (.iadd, 1) := by decide +kernel
theorem dX10_merge_337 : decode cX10_merge 337 = .ok (.iastore, 1) := by decide +kernel
theorem dX10_merge_338 : decode cX10_merge 338 = .ok (.goto 26, 3) := by decide +kernel
theorem dX10_merge_341 : decode cX10_merge 341 = .ok (.aload_n 0, 1) := by decide +kernel
theorem dX10_merge_342 : decode cX10_merge 342 = .ok (.iconst 0, 1) := by decide +kernel
theorem dX10_merge_343 : decode cX10_merge 343 = .ok (.iload 8, 2) := by decide +kernel
theorem dX10_merge_345 : decode cX10_merge 345 = .ok (.iload 8, 2) := by decide +kernel
theorem dX10_merge_347 : decode cX10_merge 347 = .ok (.iconst 1, 1) := by decide +kernel
theorem dX10_merge_348 : decode cX10_merge 348 = .ok (.iadd, 1) := by decide +kernel
theorem dX10_merge_349 : decode cX10_merge 349 = .ok (.iload 10, 2) := by decide +kernel
theorem dX10_merge_351 : decode cX10_merge 351 = .ok (.iload 10, 2) := by decide +kernel
theorem dX10_merge_353 : decode cX10_merge 353 = .ok (.iconst 1, 1) := by decide +kernel
theorem dX10_merge_354 : decode cX10_merge 354 = .ok (.iadd, 1) := by decide +kernel
theorem dX10_merge_355 : decode cX10_merge 355 = .ok (.iload 11, 2) := by decide +kernel
theorem dX10_merge_357 : decode cX10_merge 357 = .ok (.iload 11, 2) := by decide +kernel
theorem dX10_merge_359 : decode cX10_merge 359 = .ok (.iconst 1, 1) := by decide +kernel
theorem dX10_merge_360 : decode cX10_merge 360 = .ok (.iadd, 1) := by decide +kernel
theorem dX10_merge_361 : decode cX10_merge 361 = .ok (.invokevirtual 252, 3) := by decide +kernel
theorem dX10_merge_364 : decode cX10_merge 364 = .ok (.iconst 1, 1) := by decide +kernel
theorem dX10_merge_365 : decode cX10_merge 365 = .ok (.istore 7, 2) := by decide +kernel
theorem dX10_merge_367 : decode cX10_merge 367 = .ok (.iload 8, 2) := by decide +kernel
theorem dX10_merge_369 : decode cX10_merge 369 = .ok (.iconst 1, 1) := by decide +kernel
theorem dX10_merge_370 : decode cX10_merge 370 = .ok (.iadd, 1) := by decide +kernel
theorem dX10_merge_371 : decode cX10_merge 371 = .ok (.istore 4, 2) := by decide +kernel
theorem dX10_merge_373 : decode cX10_merge 373 = .ok (.iload 10, 2) := by decide +kernel
theorem dX10_merge_375 : decode cX10_merge 375 = .ok (.iconst 1, 1) := by decide +kernel
theorem dX10_merge_376 : decode cX10_merge 376 = .ok (.iadd, 1) := by decide +kernel
theorem dX10_merge_377 : decode cX10_merge 377 = .ok (.istore 5, 2) := by decide +kernel
theorem dX10_merge_379 : decode cX10_merge 379 = .ok (.iload 11, 2) := by decide +kernel
theorem dX10_merge_381 : decode cX10_merge 381 = .ok (.iconst 1, 1) := by decide +kernel
theorem dX10_merge_382 : decode cX10_merge 382 = .ok (.iadd, 1) := by decide +kernel
theorem dX10_merge_383 : decode cX10_merge 383 = .ok (.istore 6, 2) := by decide +kernel
theorem dX10_merge_385 : decode cX10_merge 385 = .ok (.iinc 8 1, 3) := by decide +kernel
theorem dX10_merge_388 : decode cX10_merge 388 = .ok (.goto (-244), 3) := by decide +kernel
theorem dX10_merge_391 : decode cX10_merge 391 = .ok (.aload_n 0, 1) := by decide +kernel
theorem dX10_merge_392 : decode cX10_merge 392 = .ok (.aload_n 0, 1) := by decide +kernel
theorem dX10_merge_393 : decode cX10_merge 393 = .ok (.getfield 249, 3) := by decide +kernel
theorem dX10_merge_396 : decode cX10_merge 396 = .ok (.invokevirtual 138, 3) := by decide +kernel
theorem dX10_merge_399 : decode cX10_merge 399 = .ok (.ireturn, 1) := by decide +kernel
theorem dX10_chunks_0 : decode cX10_chunks 0 = .ok (.aload_n 0, 1) := by decide +kernel
theorem dX10_chunks_1 : decode cX10_chunks 1 = .ok (.getfield 264, 3) := by decide +kernel
theorem dX10_chunks_4 : decode cX10_chunks 4 = .ok (.ifCond .eq 14, 3) := by decide +kernel
theorem dX10_chunks_7 : decode cX10_chunks 7 = .ok (.aload_n 0, 1) := by decide +kernel
theorem dX10_chunks_8 : decode cX10_chunks 8 = .ok (.aload_n 0, 1) := by decide +kernel
theorem dX10_chunks_9 : decode cX10_chunks 9 = .ok (.getfield 246, 3) := by decide +kernel
theorem dX10_chunks_12 : decode cX10_chunks 12 = .ok (.invokevirtual 138, 3) := by decide +kernel
theorem dX10_chunks_15 : decode cX10_chunks 15 = .ok (.goto 8, 3) := by decide +kernel
theorem dX10_chunks_18 : decode cX10_chunks 18 = .ok (.aload_n 0, 1) := by decide +kernel
theorem dX10_chunks_19 : decode cX10_chunks 19 = .ok (.iconst 1, 1) := by decide +kernel
theorem dX10_chunks_20 : decode cX10_chunks 20 = .ok (.invokevirtual 130, 3) := by decide +kernel
theorem dX10_chunks_23 : decode cX10_chunks 23 = .ok (.ireturn, 1) := by decide +kernel
theorem dX10_chunk_0 : decode cX10_chunk 0 = .ok (.aload_n 0, 1) := by decide +kernel
theorem dX10_chunk_1 : decode cX10_chunk 1 = .ok (.getfield 264, 3) := by decide +kernel
theorem dX10_chunk_4 : decode cX10_chunk 4 = .ok (.ifCond .ne 9, 3) := by decide +kernel
theorem dX10_chunk_7 : decode cX10_chunk 7 = .ok (.aload_n 0, 1) := by decide +kernel
theorem dX10_chunk_8 : decode cX10_chunk 8 = .ok (.iconst 1, 1) := by decide +kernel
theorem dX10_chunk_9 : decode cX10_chunk 9 = .ok (.invokevirtual 130, 3) := by decide +kernel
theorem dX10_chunk_12 : decode cX10_chunk 12 = .ok (.ireturn, 1) := by decide +kernel
theorem dX10_chunk_13 : decode cX10_chunk 13 = .ok (.iload_n 1, 1) := by decide +kernel
theorem dX10_chunk_14 : decode cX10_chunk 14 = .ok (.iconst 0, 1) := by decide +kernel
theorem dX10_chunk_15 : decode cX10_chunk 15 = .ok (.aload_n 0, 1) := by decide +kernel
theorem dX10_chunk_16 : decode cX10_chunk 16 = .ok (.getfield 246, 3) := by decide +kernel
theorem dX10_chunk_19 : decode cX10_chunk 19 = .ok (.iconst 1, 1) := by decide +kernel
theorem dX10_chunk_20 : decode cX10_chunk 20 = .ok (.isub, 1) := by decide +kernel
theorem dX10_chunk_21 : decode cX10_chunk 21 = .ok (.invokestatic 119, 3) := by decide +kernel
theorem dX10_chunk_24 : decode cX10_chunk 24 = .ok (.ifCond .ne 9, 3) := by decide +kernel
theorem dX10_chunk_27 : decode cX10_chunk 27 = .ok (.aload_n 0, 1) := by decide +kernel
theorem dX10_chunk_28 : decode cX10_chunk 28 = .ok (.iconst 2, 1) := by decide +kernel
theorem dX10_chunk_29 : decode cX10_chunk 29 = .ok (.invokevirtual 130, 3) := by decide +kernel
theorem dX10_chunk_32 : decode cX10_chunk 32 = .ok (.ireturn, 1) := by decide +kernel
theorem dX10_chunk_33 : decode cX10_chunk 33 = .ok (.iload_n 2, 1) := by decide +kernel
theorem dX10_chunk_34 : decode cX10_chunk 34 = .ok (.iconst 0, 1) := by decide +kernel
theorem dX10_chunk_35 : decode cX10_chunk 35 = .ok (.bipush 6, 2) := by decide +kernel
theorem dX10_chunk_37 : decode cX10_chunk 37 = .ok (.invokestatic 119, 3) := by decide +kernel
theorem dX10_chunk_40 : decode cX10_chunk 40 = .ok (.ifCond .eq 21, 3) := by decide +kernel
theorem dX10_chunk_43 : decode cX10_chunk 43 = .ok (.aload_n 0, 1) := by decide +kernel
theorem dX10_chunk_44 : decode cX10_chunk 44 = .ok (.aload_n 0, 1) := by decide +kernel
theorem dX10_chunk_45 : decode cX10_chunk 45 = .ok (.getfield 94, 3) := by decide +kernel
theorem dX10_chunk_48 : decode cX10_chunk 48 = .ok (.bipush 7, 2) := by decide +kernel
theorem dX10_chunk_50 : decode cX10_chunk 50 = .ok (.iload_n 1, 1) := by decide +kernel
theorem dX10_chunk_51 : decode cX10_chunk 51 = .ok (.imul, 1) := by decide +kernel
theorem dX10_chunk_52 : decode cX10_chunk 52 = .ok (.iload_n 2, 1) := by decide +kernel
theorem dX10_chunk_53 : decode cX10_chunk 53 = .ok (.iadd, 1) := by decide +kernel
theorem dX10_chunk_54 : decode cX10_chunk 54 = .ok (.iaload, 1) := by decide +kernel
theorem dX10_chunk_55 : decode cX10_chunk 55 = .ok (.invokevirtual 138, 3) := by decide +kernel
theorem dX10_chunk_58 : decode cX10_chunk 58 = .ok (.goto 8, 3) := by decide +kernel
theorem dX10_chunk_61 : decode cX10_chunk 61 = .ok (.aload_n 0, 1) := by decide +kernel
theorem dX10_chunk_62 : decode cX10_chunk 62 = .ok (.iconst 3, 1) := by decide +kernel
theorem dX10_chunk_63 : decode cX10_chunk 63 = .ok (.invokevirtual 130, 3) := by decide +kernel
theorem dX10_chunk_66 : decode cX10_chunk 66 = .ok (.ireturn, 1) := by decide +kernel
theorem dX10_goesOut_0 : decode cX10_goesOut 0 = .ok (.iload_n 2, 1) := by decide +kernel
theorem dX10_goesOut_1 : decode cX10_goesOut 1 = .ok (.istore 4, 2) := by decide +kernel
theorem dX10_goesOut_3 : decode cX10_goesOut 3 = .ok (.iload 4, 2) := by decide +kernel
theorem dX10_goesOut_5 : decode cX10_goesOut 5 = .ok (.iload_n 3, 1) := by decide +kernel
theorem dX10_goesOut_6 : decode cX10_goesOut 6 = .ok (.if_icmp .ge 32, 3) := by decide +kernel
theorem dX10_goesOut_9 : decode cX10_goesOut 9 = .ok (.aload_n 0, 1) := by decide +kernel
theorem dX10_goesOut_10 : decode cX10_goesOut 10 = .ok (.getfield 39, 3) := by decide +kernel
theorem dX10_goesOut_13 : decode cX10_goesOut 13 = .ok (.aload_n 0, 1) := by decide +kernel
theorem dX10_goesOut_14 : decode cX10_goesOut 14 = .ok (.getfield 158, 3) := by decide +kernel
theorem dX10_goesOut_17 : decode cX10_goesOut 17 = .ok (.aload_n 1, 1) := by decide +kernel
theorem dX10_goesOut_18 : decode cX10_goesOut 18 = .ok (.iload 4, 2) := by decide +kernel
theorem dX10_goesOut_20 : decode cX10_goesOut 20 = .ok (.iaload, 1) := by decide +kernel
theorem dX10_goesOut_21 : decode cX10_goesOut 21 = .ok (.iastore, 1) := by decide +kernel
theorem dX10_goesOut_22 : decode cX10_goesOut 22 = .ok (.aload_n 0, 1) := by decide +kernel
theorem dX10_goesOut_23 : decode cX10_goesOut 23 = .ok (.dup, 1) := by decide +kernel
theorem dX10_goesOut_24 : decode cX10_goesOut 24 = .ok (.getfield 158, 3) := by decide +kernel
theorem dX10_goesOut_27 : decode cX10_goesOut 27 = .ok (.iconst 1, 1) := by decide +kernel
theorem dX10_goesOut_28 : decode cX10_goesOut 28 = .ok (.iadd, 1) := by decide +kernel
theorem dX10_goesOut_29 : decode cX10_goesOut 29 = .ok (.putfield 158, 3) := by decide +kernel
theorem dX10_goesOut_32 : decode cX10_goesOut 32 = .ok (.iinc 4 1, 3) := by decide +kernel
theorem dX10_goesOut_35 : decode cX10_goesOut 35 = .ok (.goto (-32), 3) := by decide +kernel
theorem dX10_goesOut_38 : decode cX10_goesOut 38 = .ok (.return_, 1) := by decide +kernel
theorem dX10_mark_0 : decode cX10_mark 0 = .ok (.aload_n 0, 1) := by decide +kernel
theorem dX10_mark_1 : decode cX10_mark 1 = .ok (.getfield 39, 3) := by decide +kernel
theorem dX10_mark_4 : decode cX10_mark 4 = .ok (.aload_n 0, 1) := by decide +kernel
theorem dX10_mark_5 : decode cX10_mark 5 = .ok (.getfield 158, 3) := by decide +kernel
theorem dX10_mark_8 : decode cX10_mark 8 = .ok (.iload_n 1, 1) := by decide +kernel
theorem dX10_mark_9 : decode cX10_mark 9 = .ok (.iastore, 1) := by decide +kernel
theorem dX10_mark_10 : decode cX10_mark 10 = .ok (.aload_n 0, 1) := by decide +kernel
theorem dX10_mark_11 : decode cX10_mark 11 = .ok (.dup, 1) := by decide +kernel
theorem dX10_mark_12 : decode cX10_mark 12 = .ok (.getfield 158, 3) := by decide +kernel
theorem dX10_mark_15 : decode cX10_mark 15 = .ok (.iconst 1, 1) := by decide +kernel
theorem dX10_mark_16 : decode cX10_mark 16 = .ok (.iadd, 1) := by decide +kernel
theorem dX10_mark_17 : decode cX10_mark 17 = .ok (.putfield 158, 3) := by decide +kernel
theorem dX10_mark_20 : decode cX10_mark 20 = .ok (.return_, 1) := by decide +kernel
theorem dX10_resolvedOut_0 : decode cX10_resolvedOut 0 = .ok (.iload_n 2, 1) := by decide +kernel
theorem dX10_resolvedOut_1 : decode cX10_resolvedOut 1 = .ok (.iconst (-1), 1) := by decide +kernel
theorem dX10_resolvedOut_2 : decode cX10_resolvedOut 2 = .ok (.if_icmp .ne 8, 3) := by decide +kernel
theorem dX10_resolvedOut_5 : decode cX10_resolvedOut 5 = .ok (.aload_n 0, 1) := by decide +kernel
theorem dX10_resolvedOut_6 : decode cX10_resolvedOut 6 = .ok (.iconst (-1), 1) := by decide +kernel
theorem dX10_resolvedOut_7 : decode cX10_resolvedOut 7 = .ok (.invokevirtual 279, 3) := by decide +kernel
theorem dX10_resolvedOut_10 : decode cX10_resolvedOut 10 = .ok (.iload_n 2, 1) := by decide +kernel
theorem dX10_resolvedOut_11 : decode cX10_resolvedOut 11 = .ok (.ifCond .eq 13, 3) := by decide +kernel
theorem dX10_resolvedOut_14 : decode cX10_resolvedOut 14 = .ok (.iload_n 2, 1) := by decide +kernel
theorem dX10_resolvedOut_15 : decode cX10_resolvedOut 15 = .ok (.iconst 2, 1) := by decide +kernel
theorem dX10_resolvedOut_16 : decode cX10_resolvedOut 16 = .ok (.if_icmp .eq 8, 3) := by decide +kernel
theorem dX10_resolvedOut_19 : decode cX10_resolvedOut 19 = .ok (.iload_n 2, 1) := by decide +kernel
theorem dX10_resolvedOut_20 : decode cX10_resolvedOut 20 = .ok (.iconst (-1), 1) := by decide +kernel
theorem dX10_resolvedOut_21 : decode cX10_resolvedOut 21 = .ok (.if_icmp .ne 27, 3) := by decide +kernel
theorem dX10_resolvedOut_24 : decode cX10_resolvedOut 24 = .ok (.aload_n 0, 1) := by decide +kernel
theorem dX10_resolvedOut_25 : decode cX10_resolvedOut 25 = .ok (.aload_n 0, 1) := by decide +kernel
theorem dX10_resolvedOut_26 : decode cX10_resolvedOut 26 = .ok (.getfield 82, 3) := by decide +kernel
theorem dX10_resolvedOut_29 : decode cX10_resolvedOut 29 = .ok (.aload_n 0, 1) := by decide +kernel
theorem dX10_resolvedOut_30 : decode cX10_resolvedOut 30 = .ok (.getfield 94, 3) := by decide +kernel
theorem dX10_resolvedOut_33 : decode cX10_resolvedOut 33 = .ok (.iload_n 1, 1) := by decide +kernel
theorem dX10_resolvedOut_34 : decode cX10_resolvedOut 34 = .ok (.iconst 3, 1) := by decide +kernel
theorem dX10_resolvedOut_35 : decode cX10_resolvedOut 35 = .ok (.iadd, 1) := by decide +kernel
theorem dX10_resolvedOut_36 : decode cX10_resolvedOut 36 = .ok (.iaload, 1) := by decide +kernel
theorem dX10_resolvedOut_37 : decode cX10_resolvedOut 37 = .ok (.aload_n 0, 1) := by decide +kernel
theorem dX10_resolvedOut_38 : decode cX10_resolvedOut 38 = .ok (.getfield 94, 3) := by decide +kernel
theorem dX10_resolvedOut_41 : decode cX10_resolvedOut 41 = .ok (.iload_n 1, 1) := by decide +kernel
theorem dX10_resolvedOut_42 : decode cX10_resolvedOut 42 = .ok (.iconst 4, 1) := by decide +kernel
theorem dX10_resolvedOut_43 : decode cX10_resolvedOut 43 = .ok (.iadd, 1) := by decide +kernel
theorem dX10_resolvedOut_44 : decode cX10_resolvedOut 44 = .ok (.iaload, 1) := by decide +kernel
theorem dX10_resolvedOut_45 : decode cX10_resolvedOut 45 = .ok (.invokevirtual 282, 3) := by decide +kernel
theorem dX10_resolvedOut_48 : decode cX10_resolvedOut 48 = .ok (.iload_n 2, 1) := by decide +kernel
theorem dX10_resolvedOut_49 : decode cX10_resolvedOut 49 = .ok (.iconst (-1), 1) := by decide +kernel
theorem dX10_resolvedOut_50 : decode cX10_resolvedOut 50 = .ok (.if_icmp .ne 9, 3) := by decide +kernel
theorem dX10_resolvedOut_53 : decode cX10_resolvedOut 53 = .ok (.aload_n 0, 1) := by decide +kernel
theorem dX10_resolvedOut_54 : decode cX10_resolvedOut 54 = .ok (.bipush (-2), 2) := by decide +kernel
theorem dX10_resolvedOut_56 : decode cX10_resolvedOut 56 = .ok (.invokevirtual 279, 3) := by decide +kernel
theorem dX10_resolvedOut_59 : decode cX10_resolvedOut 59 = .ok (.iload_n 2, 1) := by decide +kernel
theorem dX10_resolvedOut_60 : decode cX10_resolvedOut 60 = .ok (.iconst 1, 1) := by decide +kernel
theorem dX10_resolvedOut_61 : decode cX10_resolvedOut 61 = .ok (.if_icmp .eq 18, 3) := by decide +kernel
theorem dX10_resolvedOut_64 : decode cX10_resolvedOut 64 = .ok (.iload_n 2, 1) := by decide +kernel
theorem dX10_resolvedOut_65 : decode cX10_resolvedOut 65 = .ok (.iconst 2, 1) := by decide +kernel
theorem dX10_resolvedOut_66 : decode cX10_resolvedOut 66 = .ok (.if_icmp .eq 13, 3) := by decide +kernel
theorem dX10_resolvedOut_69 : decode cX10_resolvedOut 69 = .ok (.iload_n 2, 1) := by decide +kernel
theorem dX10_resolvedOut_70 : decode cX10_resolvedOut 70 = .ok (.iconst 3, 1) := by decide +kernel
theorem dX10_resolvedOut_71 : decode cX10_resolvedOut 71 = .ok (.if_icmp .eq 8, 3) := by decide +kernel
theorem dX10_resolvedOut_74 : decode cX10_resolvedOut 74 = .ok (.iload_n 2, 1) := by decide +kernel
theorem dX10_resolvedOut_75 : decode cX10_resolvedOut 75 = .ok (.iconst (-1), 1) := by decide +kernel
theorem dX10_resolvedOut_76 : decode cX10_resolvedOut 76 = .ok (.if_icmp .ne 28, 3) := by decide +kernel
theorem dX10_resolvedOut_79 : decode cX10_resolvedOut 79 = .ok (.aload_n 0, 1) := by decide +kernel
theorem dX10_resolvedOut_80 : decode cX10_resolvedOut 80 = .ok (.aload_n 0, 1) := by decide +kernel
theorem dX10_resolvedOut_81 : decode cX10_resolvedOut 81 = .ok (.getfield 85, 3) := by decide +kernel
theorem dX10_resolvedOut_84 : decode cX10_resolvedOut 84 = .ok (.aload_n 0, 1) := by decide +kernel
theorem dX10_resolvedOut_85 : decode cX10_resolvedOut 85 = .ok (.getfield 94, 3) := by decide +kernel
theorem dX10_resolvedOut_88 : decode cX10_resolvedOut 88 = .ok (.iload_n 1, 1) := by decide +kernel
theorem dX10_resolvedOut_89 : decode cX10_resolvedOut 89 = .ok (.iconst 5, 1) := by decide +kernel
theorem dX10_resolvedOut_90 : decode cX10_resolvedOut 90 = .ok (.iadd, 1) := by decide +kernel
theorem dX10_resolvedOut_91 : decode cX10_resolvedOut 91 = .ok (.iaload, 1) := by decide +kernel
theorem dX10_resolvedOut_92 : decode cX10_resolvedOut 92 = .ok (.aload_n 0, 1) := by decide +kernel
theorem dX10_resolvedOut_93 : decode cX10_resolvedOut 93 = .ok (.getfield 94, 3) := by decide +kernel
theorem dX10_resolvedOut_96 : decode cX10_resolvedOut 96 = .ok (.iload_n 1, 1) := by decide +kernel
theorem dX10_resolvedOut_97 : decode cX10_resolvedOut 97 = .ok (.bipush 6, 2) := by decide +kernel
theorem dX10_resolvedOut_99 : decode cX10_resolvedOut 99 = .ok (.iadd, 1) := by decide +kernel
theorem dX10_resolvedOut_100 : decode cX10_resolvedOut 100 = .ok (.iaload, 1) := by decide +kernel
theorem dX10_resolvedOut_101 : decode cX10_resolvedOut 101 = .ok (.invokevirtual 282, 3) := by decide +kernel
theorem dX10_resolvedOut_104 : decode cX10_resolvedOut 104 = .ok (.iload_n 2, 1) := by decide +kernel
theorem dX10_resolvedOut_105 : decode cX10_resolvedOut 105 = .ok (.iconst 3, 1) := by decide +kernel
theorem dX10_resolvedOut_106 : decode cX10_resolvedOut 106 = .ok (.if_icmp .ne 27, 3) := by decide +kernel
theorem dX10_resolvedOut_109 : decode cX10_resolvedOut 109 = .ok (.aload_n 0, 1) := by decide +kernel
theorem dX10_resolvedOut_110 : decode cX10_resolvedOut 110 = .ok (.aload_n 0, 1) := by decide +kernel
theorem dX10_resolvedOut_111 : decode cX10_resolvedOut 111 = .ok (.getfield 82, 3) := by decide +kernel
theorem dX10_resolvedOut_114 : decode cX10_resolvedOut 114 = .ok (.aload_n 0, 1) := by decide +kernel
theorem dX10_resolvedOut_115 : decode cX10_resolvedOut 115 = .ok (.getfield 94, 3) := by decide +kernel
theorem dX10_resolvedOut_118 : decode cX10_resolvedOut 118 = .ok (.iload_n 1, 1) := by decide +kernel
theorem dX10_resolvedOut_119 : decode cX10_resolvedOut 119 = .ok (.iconst 3, 1) := by decide +kernel
theorem dX10_resolvedOut_120 : decode cX10_resolvedOut 120 = .ok (.iadd, 1) := by decide +kernel
theorem dX10_resolvedOut_121 : decode cX10_resolvedOut 121 = .ok (.iaload, 1) := by decide +kernel
theorem dX10_resolvedOut_122 : decode cX10_resolvedOut 122 = .ok (.aload_n 0, 1) := by decide +kernel
theorem dX10_resolvedOut_123 : decode cX10_resolvedOut 123 = .ok (.getfield 94, 3) := by decide +kernel
theorem dX10_resolvedOut_126 : decode cX10_resolvedOut 126 = .ok (.iload_n 1, 1) := by decide +kernel
theorem dX10_resolvedOut_127 : decode cX10_resolvedOut 127 = .ok (.iconst 4, 1) := by decide +kernel
theorem dX10_resolvedOut_128 : decode cX10_resolvedOut 128 = .ok (.iadd, 1) := by decide +kernel
theorem dX10_resolvedOut_129 : decode cX10_resolvedOut 129 = .ok (.iaload, 1) := by decide +kernel
theorem dX10_resolvedOut_130 : decode cX10_resolvedOut 130 = .ok (.invokevirtual 282, 3) := by decide +kernel
theorem dX10_resolvedOut_133 : decode cX10_resolvedOut 133 = .ok (.iload_n 2, 1) := by decide +kernel
theorem dX10_resolvedOut_134 : decode cX10_resolvedOut 134 = .ok (.iconst 4, 1) := by decide +kernel
theorem dX10_resolvedOut_135 : decode cX10_resolvedOut 135 = .ok (.if_icmp .ne 27, 3) := by decide +kernel
theorem dX10_resolvedOut_138 : decode cX10_resolvedOut 138 = .ok (.aload_n 0, 1) := by decide +kernel
theorem dX10_resolvedOut_139 : decode cX10_resolvedOut 139 = .ok (.aload_n 0, 1) := by decide +kernel
theorem dX10_resolvedOut_140 : decode cX10_resolvedOut 140 = .ok (.getfield 79, 3) := by decide +kernel
theorem dX10_resolvedOut_143 : decode cX10_resolvedOut 143 = .ok (.aload_n 0, 1) := by decide +kernel
theorem dX10_resolvedOut_144 : decode cX10_resolvedOut 144 = .ok (.getfield 94, 3) := by decide +kernel
theorem dX10_resolvedOut_147 : decode cX10_resolvedOut 147 = .ok (.iload_n 1, 1) := by decide +kernel
theorem dX10_resolvedOut_148 : decode cX10_resolvedOut 148 = .ok (.iconst 1, 1) := by decide +kernel
theorem dX10_resolvedOut_149 : decode cX10_resolvedOut 149 = .ok (.iadd, 1) := by decide +kernel
theorem dX10_resolvedOut_150 : decode cX10_resolvedOut 150 = .ok (.iaload, 1) := by decide +kernel
theorem dX10_resolvedOut_151 : decode cX10_resolvedOut 151 = .ok (.aload_n 0, 1) := by decide +kernel
theorem dX10_resolvedOut_152 : decode cX10_resolvedOut 152 = .ok (.getfield 94, 3) := by decide +kernel
theorem dX10_resolvedOut_155 : decode cX10_resolvedOut 155 = .ok (.iload_n 1, 1) := by decide +kernel
theorem dX10_resolvedOut_156 : decode cX10_resolvedOut 156 = .ok (.iconst 2, 1) := by decide +kernel
theorem dX10_resolvedOut_157 : decode cX10_resolvedOut 157 = .ok (.iadd, 1) := by decide +kernel
theorem dX10_resolvedOut_158 : decode cX10_resolvedOut 158 = .ok (.iaload, 1) := by decide +kernel
theorem dX10_resolvedOut_159 : decode cX10_resolvedOut 159 = .ok (.invokevirtual 282, 3) := by decide +kernel
theorem dX10_resolvedOut_162 : decode cX10_resolvedOut 162 = .ok (.iload_n 2, 1) := by decide +kernel
theorem dX10_resolvedOut_163 : decode cX10_resolvedOut 163 = .ok (.iconst (-1), 1) := by decide +kernel
theorem dX10_resolvedOut_164 : decode cX10_resolvedOut 164 = .ok (.if_icmp .ne 9, 3) := by decide +kernel
theorem dX10_resolvedOut_167 : decode cX10_resolvedOut 167 = .ok (.aload_n 0, 1) := by decide +kernel
theorem dX10_resolvedOut_168 : decode cX10_resolvedOut 168 = .ok (.bipush (-3), 2) := by decide +kernel
theorem dX10_resolvedOut_170 : decode cX10_resolvedOut 170 = .ok (.invokevirtual 279, 3) := by decide +kernel
theorem dX10_resolvedOut_173 : decode cX10_resolvedOut 173 = .ok (.return_, 1) := by decide +kernel
theorem dX10_tellMerged_0 : decode cX10_tellMerged 0 = .ok (.aload_n 0, 1) := by decide +kernel
theorem dX10_tellMerged_1 : decode cX10_tellMerged 1 = .ok (.iconst 0, 1) := by decide +kernel
theorem dX10_tellMerged_2 : decode cX10_tellMerged 2 = .ok (.putfield 158, 3) := by decide +kernel
theorem dX10_tellMerged_5 : decode cX10_tellMerged 5 = .ok (.iconst 0, 1) := by decide +kernel
theorem dX10_tellMerged_6 : decode cX10_tellMerged 6 = .ok (.istore_n 1, 1) := by decide +kernel
theorem dX10_tellMerged_7 : decode cX10_tellMerged 7 = .ok (.iconst 0, 1) := by decide +kernel
theorem dX10_tellMerged_8 : decode cX10_tellMerged 8 = .ok (.istore_n 2, 1) := by decide +kernel
theorem dX10_tellMerged_9 : decode cX10_tellMerged 9 = .ok (.iload_n 2, 1) := by decide +kernel
theorem dX10_tellMerged_10 : decode cX10_tellMerged 10 = .ok (.aload_n 0, 1) := by decide +kernel
theorem dX10_tellMerged_11 : decode cX10_tellMerged 11 = .ok (.getfield 246, 3) := by decide +kernel
theorem dX10_tellMerged_14 : decode cX10_tellMerged 14 = .ok (.if_icmp .ge 103, 3) := by decide +kernel
theorem dX10_tellMerged_17 : decode cX10_tellMerged 17 = .ok (.bipush 7, 2) := by decide +kernel
theorem dX10_tellMerged_19 : decode cX10_tellMerged 19 = .ok (.iload_n 2, 1) := by decide +kernel
theorem dX10_tellMerged_20 : decode cX10_tellMerged 20 = .ok (.imul, 1) := by decide +kernel
theorem dX10_tellMerged_21 : decode cX10_tellMerged 21 = .ok (.istore_n 3, 1) := by decide +kernel
theorem dX10_tellMerged_22 : decode cX10_tellMerged 22 = .ok (.aload_n 0, 1) := by decide +kernel
theorem dX10_tellMerged_23 : decode cX10_tellMerged 23 = .ok (.getfield 94, 3) := by decide +kernel
theorem dX10_tellMerged_26 : decode cX10_tellMerged 26 = .ok (.iload_n 3, 1) := by decide +kernel
theorem dX10_tellMerged_27 : decode cX10_tellMerged 27 = .ok (.iaload, 1) := by decide +kernel
theorem dX10_tellMerged_28 : decode cX10_tellMerged 28 = .ok (.iconst 4, 1) := by decide +kernel
theorem dX10_tellMerged_29 : decode cX10_tellMerged 29 = .ok (.if_icmp .ne 20, 3) := by decide +kernel
theorem dX10_tellMerged_32 : decode cX10_tellMerged 32 = .ok (.aload_n 0, 1) := by decide +kernel
theorem dX10_tellMerged_33 : decode cX10_tellMerged 33 = .ok (.iload_n 3, 1) := by decide +kernel
theorem dX10_tellMerged_34 : decode cX10_tellMerged 34 = .ok (.aload_n 0, 1) := by decide +kernel
theorem dX10_tellMerged_35 : decode cX10_tellMerged 35 = .ok (.getfield 97, 3) := by decide +kernel
theorem dX10_tellMerged_38 : decode cX10_tellMerged 38 = .ok (.iload_n 1, 1) := by decide +kernel
theorem dX10_tellMerged_39 : decode cX10_tellMerged 39 = .ok (.iaload, 1) := by decide +kernel
theorem dX10_tellMerged_40 : decode cX10_tellMerged 40 = .ok (.invokevirtual 286, 3) := by decide +kernel
theorem dX10_tellMerged_43 : decode cX10_tellMerged 43 = .ok (.iinc 1 1, 3) := by decide +kernel
theorem dX10_tellMerged_46 : decode cX10_tellMerged 46 = .ok (.goto 65, 3) := by decide +kernel
theorem dX10_tellMerged_49 : decode cX10_tellMerged 49 = .ok (.aload_n 0, 1) := by decide +kernel
theorem dX10_tellMerged_50 : decode cX10_tellMerged 50 = .ok (.getfield 94, 3) := by decide +kernel
theorem dX10_tellMerged_53 : decode cX10_tellMerged 53 = .ok (.iload_n 3, 1) := by decide +kernel
theorem dX10_tellMerged_54 : decode cX10_tellMerged 54 = .ok (.iaload, 1) := by decide +kernel
theorem dX10_tellMerged_55 : decode cX10_tellMerged 55 = .ok (.iconst 2, 1) := by decide +kernel
theorem dX10_tellMerged_56 : decode cX10_tellMerged 56 = .ok (.if_icmp .ne 31, 3) := by decide +kernel
theorem dX10_tellMerged_59 : decode cX10_tellMerged 59 = .ok (.aload_n 0, 1) := by decide +kernel
theorem dX10_tellMerged_60 : decode cX10_tellMerged 60 = .ok (.aload_n 0, 1) := by decide +kernel
theorem dX10_tellMerged_61 : decode cX10_tellMerged 61 = .ok (.getfield 85, 3) := by decide +kernel
theorem dX10_tellMerged_64 : decode cX10_tellMerged 64 = .ok (.aload_n 0, 1) := by decide +kernel
theorem dX10_tellMerged_65 : decode cX10_tellMerged 65 = .ok (.getfield 94, 3) := by decide +kernel
theorem dX10_tellMerged_68 : decode cX10_tellMerged 68 = .ok (.iload_n 3, 1) := by decide +kernel
theorem dX10_tellMerged_69 : decode cX10_tellMerged 69 = .ok (.iconst 5, 1) := by decide +kernel
theorem dX10_tellMerged_70 : decode cX10_tellMerged 70 = .ok (.iadd, 1) := by decide +kernel
theorem dX10_tellMerged_71 : decode cX10_tellMerged 71 = .ok (.iaload, 1) := by decide +kernel
theorem dX10_tellMerged_72 : decode cX10_tellMerged 72 = .ok (.aload_n 0, 1) := by decide +kernel
theorem dX10_tellMerged_73 : decode cX10_tellMerged 73 = .ok (.getfield 94, 3) := by decide +kernel
theorem dX10_tellMerged_76 : decode cX10_tellMerged 76 = .ok (.iload_n 3, 1) := by decide +kernel
theorem dX10_tellMerged_77 : decode cX10_tellMerged 77 = .ok (.bipush 6, 2) := by decide +kernel
theorem dX10_tellMerged_79 : decode cX10_tellMerged 79 = .ok (.iadd, 1) := by decide +kernel
theorem dX10_tellMerged_80 : decode cX10_tellMerged 80 = .ok (.iaload, 1) := by decide +kernel
theorem dX10_tellMerged_81 : decode cX10_tellMerged 81 = .ok (.invokevirtual 282, 3) := by decide +kernel
theorem dX10_tellMerged_84 : decode cX10_tellMerged 84 = .ok (.goto 27, 3) := by decide +kernel
theorem dX10_tellMerged_87 : decode cX10_tellMerged 87 = .ok (.aload_n 0, 1) := by decide +kernel
theorem dX10_tellMerged_88 : decode cX10_tellMerged 88 = .ok (.aload_n 0, 1) := by decide +kernel
theorem dX10_tellMerged_89 : decode cX10_tellMerged 89 = .ok (.getfield 82, 3) := by decide +kernel
theorem dX10_tellMerged_92 : decode cX10_tellMerged 92 = .ok (.aload_n 0, 1) := by decide +kernel
theorem dX10_tellMerged_93 : decode cX10_tellMerged 93 = .ok (.getfield 94, 3) := by decide +kernel
theorem dX10_tellMerged_96 : decode cX10_tellMerged 96 = .ok (.iload_n 3, 1) := by decide +kernel
theorem dX10_tellMerged_97 : decode cX10_tellMerged 97 = .ok (.iconst 3, 1) := by decide +kernel
theorem dX10_tellMerged_98 : decode cX10_tellMerged 98 = .ok (.iadd, 1) := by decide +kernel
theorem dX10_tellMerged_99 : decode cX10_tellMerged 99 = .ok (.iaload, 1) := by decide +kernel
theorem dX10_tellMerged_100 : decode cX10_tellMerged 100 = .ok (.aload_n 0, 1) := by decide +kernel
theorem dX10_tellMerged_101 : decode cX10_tellMerged 101 = .ok (.getfield 94, 3) := by decide +kernel
theorem dX10_tellMerged_104 : decode cX10_tellMerged 104 = .ok (.iload_n 3, 1) := by decide +kernel
theorem dX10_tellMerged_105 : decode cX10_tellMerged 105 = .ok (.iconst 4, 1) := by decide +kernel
theorem dX10_tellMerged_106 : decode cX10_tellMerged 106 = .ok (.iadd, 1) := by decide +kernel
theorem dX10_tellMerged_107 : decode cX10_tellMerged 107 = .ok (.iaload, 1) := by decide +kernel
theorem dX10_tellMerged_108 : decode cX10_tellMerged 108 = .ok (.invokevirtual 282, 3) := by decide +kernel
theorem dX10_tellMerged_111 : decode cX10_tellMerged 111 = .ok (.iinc 2 1, 3) := by decide +kernel
theorem dX10_tellMerged_114 : decode cX10_tellMerged 114 = .ok (.goto (-105), 3) := by decide +kernel
theorem dX10_tellMerged_117 : decode cX10_tellMerged 117 = .ok (.return_, 1) := by decide +kernel
theorem dX10_resolve_0 : decode cX10_resolve 0 = .ok (.aload_n 0, 1) := by decide +kernel
theorem dX10_resolve_1 : decode cX10_resolve 1 = .ok (.getfield 264, 3) := by decide +kernel
theorem dX10_resolve_4 : decode cX10_resolve 4 = .ok (.ifCond .ne 9, 3) := by decide +kernel
theorem dX10_resolve_7 : decode cX10_resolve 7 = .ok (.aload_n 0, 1) := by decide +kernel
theorem dX10_resolve_8 : decode cX10_resolve 8 = .ok (.iconst 1, 1) := by decide +kernel
theorem dX10_resolve_9 : decode cX10_resolve 9 = .ok (.invokevirtual 130, 3) := by decide +kernel
theorem dX10_resolve_12 : decode cX10_resolve 12 = .ok (.ireturn, 1) := by decide +kernel
theorem dX10_resolve_13 : decode cX10_resolve 13 = .ok (.iload_n 1, 1) := by decide +kernel
theorem dX10_resolve_14 : decode cX10_resolve 14 = .ok (.iconst 0, 1) := by decide +kernel
theorem dX10_resolve_15 : decode cX10_resolve 15 = .ok (.aload_n 0, 1) := by decide +kernel
theorem dX10_resolve_16 : decode cX10_resolve 16 = .ok (.getfield 249, 3) := by decide +kernel
theorem dX10_resolve_19 : decode cX10_resolve 19 = .ok (.iconst 1, 1) := by decide +kernel
theorem dX10_resolve_20 : decode cX10_resolve 20 = .ok (.isub, 1) := by decide +kernel
theorem dX10_resolve_21 : decode cX10_resolve 21 = .ok (.invokestatic 119, 3) := by decide +kernel
theorem dX10_resolve_24 : decode cX10_resolve 24 = .ok (.ifCond .ne 9, 3) := by decide +kernel
theorem dX10_resolve_27 : decode cX10_resolve 27 = .ok (.aload_n 0, 1) := by decide +kernel
theorem dX10_resolve_28 : decode cX10_resolve 28 = .ok (.iconst 2, 1) := by decide +kernel
theorem dX10_resolve_29 : decode cX10_resolve 29 = .ok (.invokevirtual 130, 3) := by decide +kernel
theorem dX10_resolve_32 : decode cX10_resolve 32 = .ok (.ireturn, 1) := by decide +kernel
theorem dX10_resolve_33 : decode cX10_resolve 33 = .ok (.iload_n 2, 1) := by decide +kernel
theorem dX10_resolve_34 : decode cX10_resolve 34 = .ok (.iconst 0, 1) := by decide +kernel
theorem dX10_resolve_35 : decode cX10_resolve 35 = .ok (.iconst 4, 1) := by decide +kernel
theorem dX10_resolve_36 : decode cX10_resolve 36 = .ok (.invokestatic 119, 3) := by decide +kernel
theorem dX10_resolve_39 : decode cX10_resolve 39 = .ok (.ifCond .ne 9, 3) := by decide +kernel
theorem dX10_resolve_42 : decode cX10_resolve 42 = .ok (.aload_n 0, 1) := by decide +kernel
theorem dX10_resolve_43 : decode cX10_resolve 43 = .ok (.iconst 3, 1) := by decide +kernel
theorem dX10_resolve_44 : decode cX10_resolve 44 = .ok (.invokevirtual 130, 3) := by decide +kernel
theorem dX10_resolve_47 : decode cX10_resolve 47 = .ok (.ireturn, 1) := by decide +kernel
theorem dX10_resolve_48 : decode cX10_resolve 48 = .ok (.aload_n 0, 1) := by decide +kernel
theorem dX10_resolve_49 : decode cX10_resolve 49 = .ok (.getfield 97, 3) := by decide +kernel
theorem dX10_resolve_52 : decode cX10_resolve 52 = .ok (.iload_n 1, 1) := by decide +kernel
theorem dX10_resolve_53 : decode cX10_resolve 53 = .ok (.iload_n 2, 1) := by decide +kernel
theorem dX10_resolve_54 : decode cX10_resolve 54 = .ok (.iastore, 1) := by decide +kernel
theorem dX10_resolve_55 : decode cX10_resolve 55 = .ok (.iload_n 1, 1) := by decide +kernel
theorem dX10_resolve_56 : decode cX10_resolve 56 = .ok (.istore_n 3, 1) := by decide +kernel
theorem dX10_resolve_57 : decode cX10_resolve 57 = .ok (.iconst 0, 1) := by decide +kernel
theorem dX10_resolve_58 : decode cX10_resolve 58 = .ok (.istore 4, 2) := by decide +kernel
theorem dX10_resolve_60 : decode cX10_resolve 60 = .ok (.iload 4, 2) := by decide +kernel
theorem dX10_resolve_62 : decode cX10_resolve 62 = .ok (.aload_n 0, 1) := by decide +kernel
theorem dX10_resolve_63 : decode cX10_resolve 63 = .ok (.getfield 246, 3) := by decide +kernel
theorem dX10_resolve_66 : decode cX10_resolve 66 = .ok (.if_icmp .ge 45, 3) := by decide +kernel
theorem dX10_resolve_69 : decode cX10_resolve 69 = .ok (.aload_n 0, 1) := by decide +kernel
theorem dX10_resolve_70 : decode cX10_resolve 70 = .ok (.getfield 94, 3) := by decide +kernel
theorem dX10_resolve_73 : decode cX10_resolve 73 = .ok (.bipush 7, 2) := by decide +kernel
theorem dX10_resolve_75 : decode cX10_resolve 75 = .ok (.iload 4, 2) := by decide +kernel
theorem dX10_resolve_77 : decode cX10_resolve 77 = .ok (.imul, 1) := by decide +kernel
theorem dX10_resolve_78 : decode cX10_resolve 78 = .ok (.iaload, 1) := by decide +kernel
theorem dX10_resolve_79 : decode cX10_resolve 79 = .ok (.iconst 4, 1) := by decide +kernel
theorem dX10_resolve_80 : decode cX10_resolve 80 = .ok (.if_icmp .ne 25, 3) := by decide +kernel
theorem dX10_resolve_83 : decode cX10_resolve 83 = .ok (.iload_n 3, 1) := by decide +kernel
theorem dX10_resolve_84 : decode cX10_resolve 84 = .ok (.ifCond .ne 18, 3) := by decide +kernel
theorem dX10_resolve_87 : decode cX10_resolve 87 = .ok (.aload_n 0, 1) := by decide +kernel
theorem dX10_resolve_88 : decode cX10_resolve 88 = .ok (.iconst 0, 1) := by decide +kernel
theorem dX10_resolve_89 : decode cX10_resolve 89 = .ok (.putfield 158, 3) := by decide +kernel
theorem dX10_resolve_92 : decode cX10_resolve 92 = .ok (.aload_n 0, 1) := by decide +kernel
theorem dX10_resolve_93 : decode cX10_resolve 93 = .ok (.bipush 7, 2) := by decide +kernel
theorem dX10_resolve_95 : decode cX10_resolve 95 = .ok (.iload 4, 2) := by decide +kernel
theorem dX10_resolve_97 : decode cX10_resolve 97 = .ok (.imul, 1) := by decide +kernel
theorem dX10_resolve_98 : decode cX10_resolve 98 = .ok (.iload_n 2, 1) := by decide +kernel
theorem dX10_resolve_99 : decode cX10_resolve 99 = .ok (.invokevirtual 286, 3) := by decide +kernel
theorem dX10_resolve_102 : decode cX10_resolve 102 = .ok (.iinc 3 (-1), 3) := by decide +kernel
theorem dX10_resolve_105 : decode cX10_resolve 105 = .ok (.iinc 4 1, 3) := by decide +kernel
theorem dX10_resolve_108 : decode cX10_resolve 108 = .ok (.goto (-48), 3) := by decide +kernel
theorem dX10_resolve_111 : decode cX10_resolve 111 = .ok (.aload_n 0, 1) := by decide +kernel
theorem dX10_resolve_112 : decode cX10_resolve 112 = .ok (.aload_n 0, 1) := by decide +kernel
theorem dX10_resolve_113 : decode cX10_resolve 113 = .ok (.getfield 158, 3) := by decide +kernel
theorem dX10_resolve_116 : decode cX10_resolve 116 = .ok (.invokevirtual 138, 3) := by decide +kernel
theorem dX10_resolve_119 : decode cX10_resolve 119 = .ok (.ireturn, 1) := by decide +kernel
theorem dX10_openConflicts_0 : decode cX10_openConflicts 0 = .ok (.iconst 0, 1) := by decide +kernel
theorem dX10_openConflicts_1 : decode cX10_openConflicts 1 = .ok (.istore_n 1, 1) := by decide +kernel
theorem dX10_openConflicts_2 : decode cX10_openConflicts 2 = .ok (.iconst 0, 1) := by decide +kernel
theorem dX10_openConflicts_3 : decode cX10_openConflicts 3 = .ok (.istore_n 2, 1) := by decide +kernel
theorem dX10_openConflicts_4 : decode cX10_openConflicts 4 = .ok (.iload_n 2, 1) := by decide +kernel
theorem dX10_openConflicts_5 : decode cX10_openConflicts 5 = .ok (.aload_n 0, 1) := by decide +kernel
theorem dX10_openConflicts_6 : decode cX10_openConflicts 6 = .ok (.getfield 249, 3) := by decide +kernel
theorem dX10_openConflicts_9 : decode cX10_openConflicts 9 = .ok (.if_icmp .ge 27, 3) := by decide +kernel
theorem dX10_openConflicts_12 : decode cX10_openConflicts 12 = .ok (.iload_n 1, 1) := by decide +kernel
theorem dX10_openConflicts_13 : decode cX10_openConflicts 13 = .ok (.aload_n 0, 1) := by decide +kernel
theorem dX10_openConflicts_14 : decode cX10_openConflicts 14 = .ok (.getfield 97, 3) := by decide +kernel
theorem dX10_openConflicts_17 : decode cX10_openConflicts 17 = .ok (.iload_n 2, 1) := by decide +kernel
theorem dX10_openConflicts_18 : decode cX10_openConflicts 18 = .ok (.iaload, 1) := by decide +kernel
theorem dX10_openConflicts_19 : decode cX10_openConflicts 19 = .ok (.iconst (-1), 1) := by decide +kernel
theorem dX10_openConflicts_20 : decode cX10_openConflicts 20 = .ok (.if_icmp .ne 7, 3) := by decide +kernel
theorem dX10_openConflicts_23 : decode cX10_openConflicts 23 = .ok (.iconst 1, 1) := by decide +kernel
theorem dX10_openConflicts_24 : decode cX10_openConflicts 24 = .ok (.goto 4, 3) := by decide +kernel
theorem dX10_openConflicts_27 : decode cX10_openConflicts 27 = .ok (.iconst 0, 1) := by decide +kernel
theorem dX10_openConflicts_28 : decode cX10_openConflicts 28 = .ok (.iadd, 1) := by decide +kernel
theorem dX10_openConflicts_29 : decode cX10_openConflicts 29 = .ok (.istore_n 1, 1) := by decide +kernel
theorem dX10_openConflicts_30 : decode cX10_openConflicts 30 = .ok (.iinc 2 1, 3) := by decide +kernel
theorem dX10_openConflicts_33 : decode cX10_openConflicts 33 = .ok (.goto (-29), 3) := by decide +kernel
theorem dX10_openConflicts_36 : decode cX10_openConflicts 36 = .ok (.iload_n 1, 1) := by decide +kernel
theorem dX10_openConflicts_37 : decode cX10_openConflicts 37 = .ok (.ireturn, 1) := by decide +kernel
theorem dX10_unresolved_0 : decode cX10_unresolved 0 = .ok (.aload_n 0, 1) := by decide +kernel
theorem dX10_unresolved_1 : decode cX10_unresolved 1 = .ok (.getfield 264, 3) := by decide +kernel
theorem dX10_unresolved_4 : decode cX10_unresolved 4 = .ok (.ifCond .eq 14, 3) := by decide +kernel
theorem dX10_unresolved_7 : decode cX10_unresolved 7 = .ok (.aload_n 0, 1) := by decide +kernel
theorem dX10_unresolved_8 : decode cX10_unresolved 8 = .ok (.aload_n 0, 1) := by decide +kernel
theorem dX10_unresolved_9 : decode cX10_unresolved 9 = .ok (.invokevirtual 290, 3) := by decide +kernel
theorem dX10_unresolved_12 : decode cX10_unresolved 12 = .ok (.invokevirtual 138, 3) := by decide +kernel
theorem dX10_unresolved_15 : decode cX10_unresolved 15 = .ok (.goto 8, 3) := by decide +kernel
theorem dX10_unresolved_18 : decode cX10_unresolved 18 = .ok (.aload_n 0, 1) := by decide +kernel
theorem dX10_unresolved_19 : decode cX10_unresolved 19 = .ok (.iconst 1, 1) := by decide +kernel
theorem dX10_unresolved_20 : decode cX10_unresolved 20 = .ok (.invokevirtual 130, 3) := by decide +kernel
theorem dX10_unresolved_23 : decode cX10_unresolved 23 = .ok (.ireturn, 1) := by decide +kernel
theorem dX10_mergedLength_0 : decode cX10_mergedLength 0 = .ok (.aload_n 0, 1) := by decide +kernel
theorem dX10_mergedLength_1 : decode cX10_mergedLength 1 = .ok (.getfield 264, 3) := by decide +kernel
theorem dX10_mergedLength_4 : decode cX10_mergedLength 4 = .ok (.ifCond .ne 9, 3) := by decide +kernel
theorem dX10_mergedLength_7 : decode cX10_mergedLength 7 = .ok (.aload_n 0, 1) := by decide +kernel
theorem dX10_mergedLength_8 : decode cX10_mergedLength 8 = .ok (.iconst 1, 1) := by decide +kernel
theorem dX10_mergedLength_9 : decode cX10_mergedLength 9 = .ok (.invokevirtual 130, 3) := by decide +kernel
theorem dX10_mergedLength_12 : decode cX10_mergedLength 12 = .ok (.ireturn, 1) := by decide +kernel
theorem dX10_mergedLength_13 : decode cX10_mergedLength 13 = .ok (.aload_n 0, 1) := by decide +kernel
theorem dX10_mergedLength_14 : decode cX10_mergedLength 14 = .ok (.invokevirtual 293, 3) := by decide +kernel
theorem dX10_mergedLength_17 : decode cX10_mergedLength 17 = .ok (.aload_n 0, 1) := by decide +kernel
theorem dX10_mergedLength_18 : decode cX10_mergedLength 18 = .ok (.aload_n 0, 1) := by decide +kernel
theorem dX10_mergedLength_19 : decode cX10_mergedLength 19 = .ok (.getfield 158, 3) := by decide +kernel
theorem dX10_mergedLength_22 : decode cX10_mergedLength 22 = .ok (.invokevirtual 138, 3) := by decide +kernel
theorem dX10_mergedLength_25 : decode cX10_mergedLength 25 = .ok (.ireturn, 1) := by decide +kernel
theorem dX10_merged_0 : decode cX10_merged 0 = .ok (.aload_n 0, 1) := by decide +kernel
theorem dX10_merged_1 : decode cX10_merged 1 = .ok (.getfield 264, 3) := by decide +kernel
theorem dX10_merged_4 : decode cX10_merged 4 = .ok (.ifCond .ne 9, 3) := by decide +kernel
theorem dX10_merged_7 : decode cX10_merged 7 = .ok (.aload_n 0, 1) := by decide +kernel
theorem dX10_merged_8 : decode cX10_merged 8 = .ok (.iconst 1, 1) := by decide +kernel
theorem dX10_merged_9 : decode cX10_merged 9 = .ok (.invokevirtual 130, 3) := by decide +kernel
theorem dX10_merged_12 : decode cX10_merged 12 = .ok (.ireturn, 1) := by decide +kernel
theorem dX10_merged_13 : decode cX10_merged 13 = .ok (.aload_n 0, 1) := by decide +kernel
theorem dX10_merged_14 : decode cX10_merged 14 = .ok (.invokevirtual 293, 3) := by decide +kernel
theorem dX10_merged_17 : decode cX10_merged 17 = .ok (.iload_n 1, 1) := by decide +kernel
theorem dX10_merged_18 : decode cX10_merged 18 = .ok (.iconst 0, 1) := by decide +kernel
theorem dX10_merged_19 : decode cX10_merged 19 = .ok (.aload_n 0, 1) := by decide +kernel
theorem dX10_merged_20 : decode cX10_merged 20 = .ok (.getfield 158, 3) := by decide +kernel
theorem dX10_merged_23 : decode cX10_merged 23 = .ok (.iconst 1, 1) := by decide +kernel
theorem dX10_merged_24 : decode cX10_merged 24 = .ok (.isub, 1) := by decide +kernel
theorem dX10_merged_25 : decode cX10_merged 25 = .ok (.invokestatic 119, 3) := by decide +kernel
theorem dX10_merged_28 : decode cX10_merged 28 = .ok (.ifCond .eq 16, 3) := by decide +kernel
theorem dX10_merged_31 : decode cX10_merged 31 = .ok (.aload_n 0, 1) := by decide +kernel
theorem dX10_merged_32 : decode cX10_merged 32 = .ok (.aload_n 0, 1) := by decide +kernel
theorem dX10_merged_33 : decode cX10_merged 33 = .ok (.getfield 39, 3) := by decide +kernel
theorem dX10_merged_36 : decode cX10_merged 36 = .ok (.iload_n 1, 1) := by decide +kernel
theorem dX10_merged_37 : decode cX10_merged 37 = .ok (.iaload, 1) := by decide +kernel
theorem dX10_merged_38 : decode cX10_merged 38 = .ok (.invokevirtual 138, 3) := by decide +kernel
theorem dX10_merged_41 : decode cX10_merged 41 = .ok (.goto 8, 3) := by decide +kernel
theorem dX10_merged_44 : decode cX10_merged 44 = .ok (.aload_n 0, 1) := by decide +kernel
theorem dX10_merged_45 : decode cX10_merged 45 = .ok (.iconst 2, 1) := by decide +kernel
theorem dX10_merged_46 : decode cX10_merged 46 = .ok (.invokevirtual 130, 3) := by decide +kernel
theorem dX10_merged_49 : decode cX10_merged 49 = .ok (.ireturn, 1) := by decide +kernel
theorem dX10_accept_0 : decode cX10_accept 0 = .ok (.iload_n 1, 1) := by decide +kernel
theorem dX10_accept_1 : decode cX10_accept 1 = .ok (.invokestatic 126, 3) := by decide +kernel
theorem dX10_accept_4 : decode cX10_accept 4 = .ok (.ifCond .ne 9, 3) := by decide +kernel
theorem dX10_accept_7 : decode cX10_accept 7 = .ok (.aload_n 0, 1) := by decide +kernel
theorem dX10_accept_8 : decode cX10_accept 8 = .ok (.iconst 1, 1) := by decide +kernel
theorem dX10_accept_9 : decode cX10_accept 9 = .ok (.invokevirtual 130, 3) := by decide +kernel
theorem dX10_accept_12 : decode cX10_accept 12 = .ok (.ireturn, 1) := by decide +kernel
theorem dX10_accept_13 : decode cX10_accept 13 = .ok (.aload_n 0, 1) := by decide +kernel
theorem dX10_accept_14 : decode cX10_accept 14 = .ok (.getfield 264, 3) := by decide +kernel
theorem dX10_accept_17 : decode cX10_accept 17 = .ok (.ifCond .eq 10, 3) := by decide +kernel
theorem dX10_accept_20 : decode cX10_accept 20 = .ok (.aload_n 0, 1) := by decide +kernel
theorem dX10_accept_21 : decode cX10_accept 21 = .ok (.invokevirtual 290, 3) := by decide +kernel
theorem dX10_accept_24 : decode cX10_accept 24 = .ok (.ifCond .le 9, 3) := by decide +kernel
theorem dX10_accept_27 : decode cX10_accept 27 = .ok (.aload_n 0, 1) := by decide +kernel
theorem dX10_accept_28 : decode cX10_accept 28 = .ok (.iconst 2, 1) := by decide +kernel
theorem dX10_accept_29 : decode cX10_accept 29 = .ok (.invokevirtual 130, 3) := by decide +kernel
theorem dX10_accept_32 : decode cX10_accept 32 = .ok (.ireturn, 1) := by decide +kernel
theorem dX10_accept_33 : decode cX10_accept 33 = .ok (.aload_n 0, 1) := by decide +kernel
theorem dX10_accept_34 : decode cX10_accept 34 = .ok (.invokevirtual 293, 3) := by decide +kernel
theorem dX10_accept_37 : decode cX10_accept 37 = .ok (.aload_n 0, 1) := by decide +kernel
theorem dX10_accept_38 : decode cX10_accept 38 = .ok (.getfield 158, 3) := by decide +kernel
theorem dX10_accept_41 : decode cX10_accept 41 = .ok (.bipush 24, 2) := by decide +kernel
theorem dX10_accept_43 : decode cX10_accept 43 = .ok (.if_icmp .le 9, 3) := by decide +kernel
theorem dX10_accept_46 : decode cX10_accept 46 = .ok (.aload_n 0, 1) := by decide +kernel
theorem dX10_accept_47 : decode cX10_accept 47 = .ok (.iconst 3, 1) := by decide +kernel
theorem dX10_accept_48 : decode cX10_accept 48 = .ok (.invokevirtual 130, 3) := by decide +kernel
theorem dX10_accept_51 : decode cX10_accept 51 = .ok (.ireturn, 1) := by decide +kernel
theorem dX10_accept_52 : decode cX10_accept 52 = .ok (.aload_n 0, 1) := by decide +kernel
theorem dX10_accept_53 : decode cX10_accept 53 = .ok (.iload_n 1, 1) := by decide +kernel
theorem dX10_accept_54 : decode cX10_accept 54 = .ok (.invokevirtual 134, 3) := by decide +kernel
theorem dX10_accept_57 : decode cX10_accept 57 = .ok (.aload_n 0, 1) := by decide +kernel
theorem dX10_accept_58 : decode cX10_accept 58 = .ok (.iload_n 1, 1) := by decide +kernel
theorem dX10_accept_59 : decode cX10_accept 59 = .ok (.aload_n 0, 1) := by decide +kernel
theorem dX10_accept_60 : decode cX10_accept 60 = .ok (.getfield 39, 3) := by decide +kernel
theorem dX10_accept_63 : decode cX10_accept 63 = .ok (.aload_n 0, 1) := by decide +kernel
theorem dX10_accept_64 : decode cX10_accept 64 = .ok (.getfield 158, 3) := by decide +kernel
theorem dX10_accept_67 : decode cX10_accept 67 = .ok (.invokevirtual 141, 3) := by decide +kernel
theorem dX10_accept_70 : decode cX10_accept 70 = .ok (.aload_n 0, 1) := by decide +kernel
theorem dX10_accept_71 : decode cX10_accept 71 = .ok (.aload_n 0, 1) := by decide +kernel
theorem dX10_accept_72 : decode cX10_accept 72 = .ok (.getfield 158, 3) := by decide +kernel
theorem dX10_accept_75 : decode cX10_accept 75 = .ok (.invokevirtual 138, 3) := by decide +kernel
theorem dX10_accept_78 : decode cX10_accept 78 = .ok (.ireturn, 1) := by decide +kernel
theorem dX10_least_0 : decode cX10_least 0 = .ok (.iload_n 0, 1) := by decide +kernel
theorem dX10_least_1 : decode cX10_least 1 = .ok (.iload_n 1, 1) := by decide +kernel
theorem dX10_least_2 : decode cX10_least 2 = .ok (.if_icmp .ge 7, 3) := by decide +kernel
theorem dX10_least_5 : decode cX10_least 5 = .ok (.iload_n 0, 1) := by decide +kernel
theorem dX10_least_6 : decode cX10_least 6 = .ok (.goto 4, 3) := by decide +kernel
theorem dX10_least_9 : decode cX10_least 9 = .ok (.iload_n 1, 1) := by decide +kernel
theorem dX10_least_10 : decode cX10_least 10 = .ok (.ireturn, 1) := by decide +kernel
theorem dX10_makePatch_0 : decode cX10_makePatch 0 = .ok (.iload_n 1, 1) := by decide +kernel
theorem dX10_makePatch_1 : decode cX10_makePatch 1 = .ok (.iconst 0, 1) := by decide +kernel
theorem dX10_makePatch_2 : decode cX10_makePatch 2 = .ok (.iconst 3, 1) := by decide +kernel
theorem dX10_makePatch_3 : decode cX10_makePatch 3 = .ok (.invokestatic 119, 3) := by decide +kernel
theorem dX10_makePatch_6 : decode cX10_makePatch 6 = .ok (.ifCond .ne 9, 3) := by decide +kernel
theorem dX10_makePatch_9 : decode cX10_makePatch 9 = .ok (.aload_n 0, 1) := by decide +kernel
theorem dX10_makePatch_10 : decode cX10_makePatch 10 = .ok (.iconst 1, 1) := by decide +kernel
theorem dX10_makePatch_11 : decode cX10_makePatch 11 = .ok (.invokevirtual 130, 3) := by decide +kernel
theorem dX10_makePatch_14 : decode cX10_makePatch 14 = .ok (.ireturn, 1) := by decide +kernel
theorem dX10_makePatch_15 : decode cX10_makePatch 15 = .ok (.aload_n 0, 1) := by decide +kernel
theorem dX10_makePatch_16 : decode cX10_makePatch 16 = .ok (.getfield 220, 3) := by decide +kernel
theorem dX10_makePatch_19 : decode cX10_makePatch 19 = .ok (.ifCond .ne 9, 3) := by decide +kernel
theorem dX10_makePatch_22 : decode cX10_makePatch 22 = .ok (.aload_n 0, 1) := by decide +kernel
theorem dX10_makePatch_23 : decode cX10_makePatch 23 = .ok (.iconst 2, 1) := by decide +kernel
theorem dX10_makePatch_24 : decode cX10_makePatch 24 = .ok (.invokevirtual 130, 3) := by decide +kernel
theorem dX10_makePatch_27 : decode cX10_makePatch 27 = .ok (.ireturn, 1) := by decide +kernel
theorem dX10_makePatch_28 : decode cX10_makePatch 28 = .ok (.aload_n 0, 1) := by decide +kernel
theorem dX10_makePatch_29 : decode cX10_makePatch 29 = .ok (.iconst 1, 1) := by decide +kernel
theorem dX10_makePatch_30 : decode cX10_makePatch 30 = .ok (.putfield 296, 3) := by decide +kernel
theorem dX10_makePatch_33 : decode cX10_makePatch 33 = .ok (.aload_n 0, 1) := by decide +kernel
theorem dX10_makePatch_34 : decode cX10_makePatch 34 = .ok (.iconst 0, 1) := by decide +kernel
theorem dX10_makePatch_35 : decode cX10_makePatch 35 = .ok (.putfield 299, 3) := by decide +kernel
theorem dX10_makePatch_38 : decode cX10_makePatch 38 = .ok (.aload_n 0, 1) := by decide +kernel
theorem dX10_makePatch_39 : decode cX10_makePatch 39 = .ok (.iconst 0, 1) := by decide +kernel
theorem dX10_makePatch_40 : decode cX10_makePatch 40 = .ok (.putfield 302, 3) := by decide +kernel
theorem dX10_makePatch_43 : decode cX10_makePatch 43 = .ok (.iconst 0, 1) := by decide +kernel
theorem dX10_makePatch_44 : decode cX10_makePatch 44 = .ok (.istore_n 2, 1) := by decide +kernel
theorem dX10_makePatch_45 : decode cX10_makePatch 45 = .ok (.iload_n 2, 1) := by decide +kernel
theorem dX10_makePatch_46 : decode cX10_makePatch 46 = .ok (.bipush 24, 2) := by decide +kernel
theorem dX10_makePatch_48 : decode cX10_makePatch 48 = .ok (.if_icmp .ge 33, 3) := by decide +kernel
theorem dX10_makePatch_51 : decode cX10_makePatch 51 = .ok (.aload_n 0, 1) := by decide +kernel
theorem dX10_makePatch_52 : decode cX10_makePatch 52 = .ok (.getfield 103, 3) := by decide +kernel
theorem dX10_makePatch_55 : decode cX10_makePatch 55 = .ok (.iload_n 2, 1) := by decide +kernel
theorem dX10_makePatch_56 : decode cX10_makePatch 56 = .ok (.aload_n 0, 1) := by decide +kernel
theorem dX10_makePatch_57 : decode cX10_makePatch 57 = .ok (.getfield 57, 3) := by decide +kernel
theorem dX10_makePatch_60 : decode cX10_makePatch 60 = .ok (.iload_n 2, 1) := by decide +kernel
theorem dX10_makePatch_61 : decode cX10_makePatch 61 = .ok (.iaload, 1) := by decide +kernel
theorem dX10_makePatch_62 : decode cX10_makePatch 62 = .ok (.iastore, 1) := by decide +kernel
theorem dX10_makePatch_63 : decode cX10_makePatch 63 = .ok (.aload_n 0, 1) := by decide +kernel
theorem dX10_makePatch_64 : decode cX10_makePatch 64 = .ok (.getfield 106, 3) := by decide +kernel
theorem dX10_makePatch_67 : decode cX10_makePatch 67 = .ok (.iload_n 2, 1) := by decide +kernel
theorem dX10_makePatch_68 : decode cX10_makePatch 68 = .ok (.aload_n 0, 1) := by decide +kernel
theorem dX10_makePatch_69 : decode cX10_makePatch 69 = .ok (.getfield 60, 3) := by decide +kernel
theorem dX10_makePatch_72 : decode cX10_makePatch 72 = .ok (.iload_n 2, 1) := by decide +kernel
theorem dX10_makePatch_73 : decode cX10_makePatch 73 = .ok (.iaload, 1) := by decide +kernel
theorem dX10_makePatch_74 : decode cX10_makePatch 74 = .ok (.iastore, 1) := by decide +kernel
theorem dX10_makePatch_75 : decode cX10_makePatch 75 = .ok (.iinc 2 1, 3) := by decide +kernel
theorem dX10_makePatch_78 : decode cX10_makePatch 78 = .ok (.goto (-33), 3) := by decide +kernel
theorem dX10_makePatch_81 : decode cX10_makePatch 81 = .ok (.iconst 0, 1) := by decide +kernel
theorem dX10_makePatch_82 : decode cX10_makePatch 82 = .ok (.istore_n 2, 1) := by decide +kernel
theorem dX10_makePatch_83 : decode cX10_makePatch 83 = .ok (.iload_n 2, 1) := by decide +kernel
theorem dX10_makePatch_84 : decode cX10_makePatch 84 = .ok (.aload_n 0, 1) := by decide +kernel
theorem dX10_makePatch_85 : decode cX10_makePatch 85 = .ok (.getfield 211, 3) := by decide +kernel
theorem dX10_makePatch_88 : decode cX10_makePatch 88 = .ok (.if_icmp .ge 233, 3) := by decide +kernel
theorem dX10_makePatch_91 : decode cX10_makePatch 91 = .ok (.iload_n 2, 1) := by decide +kernel
theorem dX10_makePatch_92 : decode cX10_makePatch 92 = .ok (.istore_n 3, 1) := by decide +kernel
theorem dX10_makePatch_93 : decode cX10_makePatch 93 = .ok (.iload_n 3, 1) := by decide +kernel
theorem dX10_makePatch_94 : decode cX10_makePatch 94 = .ok (.iconst 1, 1) := by decide +kernel
theorem dX10_makePatch_95 : decode cX10_makePatch 95 = .ok (.iadd, 1) := by decide +kernel
theorem dX10_makePatch_96 : decode cX10_makePatch 96 = .ok (.aload_n 0, 1) := by decide +kernel
theorem dX10_makePatch_97 : decode cX10_makePatch 97 = .ok (.getfield 211, 3) := by decide +kernel
theorem dX10_makePatch_100 : decode cX10_makePatch 100 = .ok (.if_icmp .ge 36, 3) := by decide +kernel
theorem dX10_makePatch_103 : decode cX10_makePatch 103 = .ok (.aload_n 0, 1) := by decide +kernel
theorem dX10_makePatch_104 : decode cX10_makePatch 104 = .ok (.getfield 69, 3) := by decide +kernel
theorem dX10_makePatch_107 : decode cX10_makePatch 107 = .ok (.iconst 4, 1) := by decide +kernel
theorem dX10_makePatch_108 : decode cX10_makePatch 108 = .ok (.iload_n 3, 1) := by decide +kernel
theorem dX10_makePatch_109 : decode cX10_makePatch 109 = .ok (.imul, 1) := by decide +kernel
theorem dX10_makePatch_110 : decode cX10_makePatch 110 = .ok (.iconst 4, 1) := by decide +kernel
theorem dX10_makePatch_111 : decode cX10_makePatch 111 = .ok (.iadd, 1) := by decide +kernel
theorem dX10_makePatch_112 : decode cX10_makePatch 112 = .ok (.iaload, 1) := by decide +kernel
theorem dX10_makePatch_113 : decode cX10_makePatch 113 = .ok (.aload_n 0, 1) := by decide +kernel
theorem dX10_makePatch_114 : decode cX10_makePatch 114 = .ok (.getfield 69, 3) := by decide +kernel
theorem dX10_makePatch_117 : decode cX10_makePatch 117 = .ok (.iconst 4, 1) := by decide +kernel
theorem dX10_makePatch_118 : decode cX10_makePatch 118 = .ok (.iload_n 3, 1) := by decide +kernel
theorem dX10_makePatch_119 : decode cX10_makePatch 119 = .ok (.imul, 1) := by decide +kernel
theorem dX10_makePatch_120 : decode cX10_makePatch 120 = .ok (.iconst 1, 1) := by decide +kernel
theorem dX10_makePatch_121 : decode cX10_makePatch 121 = .ok (.iadd, 1) := by decide +kernel
theorem dX10_makePatch_122 : decode cX10_makePatch 122 = .ok (.iaload, 1) := by decide +kernel
theorem dX10_makePatch_123 : decode cX10_makePatch 123 = .ok (.isub, 1) := by decide +kernel
theorem dX10_makePatch_124 : decode cX10_makePatch 124 = .ok (.iconst 2, 1) := by decide +kernel
theorem dX10_makePatch_125 : decode cX10_makePatch 125 = .ok (.iload_n 1, 1) := by decide +kernel
theorem dX10_makePatch_126 : decode cX10_makePatch 126 = .ok (.imul, 1) := by decide +kernel
theorem dX10_makePatch_127 : decode cX10_makePatch 127 = .ok (.if_icmp .gt 9, 3) := by decide +kernel
theorem dX10_makePatch_130 : decode cX10_makePatch 130 = .ok (.iinc 3 1, 3) := by decide +kernel
theorem dX10_makePatch_133 : decode cX10_makePatch 133 = .ok (.goto (-40), 3) := by decide +kernel
theorem dX10_makePatch_136 : decode cX10_makePatch 136 = .ok (.iload_n 1, 1) := by decide +kernel
theorem dX10_makePatch_137 : decode cX10_makePatch 137 = .ok (.aload_n 0, 1) := by decide +kernel
theorem dX10_makePatch_138 : decode cX10_makePatch 138 = .ok (.getfield 69, 3) := by decide +kernel
theorem dX10_makePatch_141 : decode cX10_makePatch 141 = .ok (.iconst 4, 1) := by decide +kernel
theorem dX10_makePatch_142 : decode cX10_makePatch 142 = .ok (.iload_n 2, 1) := by decide +kernel
theorem dX10_makePatch_143 : decode cX10_makePatch 143 = .ok (.imul, 1) := by decide +kernel
theorem dX10_makePatch_144 : decode cX10_makePatch 144 = .ok (.iaload, 1) := by decide +kernel
theorem dX10_makePatch_145 : decode cX10_makePatch 145 = .ok (.invokestatic 305, 3) := by decide +kernel
theorem dX10_makePatch_148 : decode cX10_makePatch 148 = .ok (.istore 4, 2) := by decide +kernel
theorem dX10_makePatch_150 : decode cX10_makePatch 150 = .ok (.iload_n 1, 1) := by decide +kernel
theorem dX10_makePatch_151 : decode cX10_makePatch 151 = .ok (.aload_n 0, 1) := by decide +kernel
theorem dX10_makePatch_152 : decode cX10_makePatch 152 = .ok (.getfield 214, 3) := by decide +kernel
theorem dX10_makePatch_155 : decode cX10_makePatch 155 = .ok (.aload_n 0, 1) := by decide +kernel
theorem dX10_makePatch_156 : decode cX10_makePatch 156 = .ok (.getfield 69, 3) := by decide +kernel
theorem dX10_makePatch_159 : decode cX10_makePatch 159 = .ok (.iconst 4, 1) := by decide +kernel
theorem dX10_makePatch_160 : decode cX10_makePatch 160 = .ok (.iload_n 3, 1) := by decide +kernel
theorem dX10_makePatch_161 : decode cX10_makePatch 161 = .ok (.imul, 1) := by decide +kernel
theorem dX10_makePatch_162 : decode cX10_makePatch 162 = .ok (.iconst 1, 1) := by decide +kernel
theorem dX10_makePatch_163 : decode cX10_makePatch 163 = .ok (.iadd, 1) := by decide +kernel
theorem dX10_makePatch_164 : decode cX10_makePatch 164 = .ok (.iaload, 1) := by decide +kernel
theorem dX10_makePatch_165 : decode cX10_makePatch 165 = .ok (.isub, 1) := by decide +kernel
theorem dX10_makePatch_166 : decode cX10_makePatch 166 = .ok (.invokestatic 305, 3) := by decide +kernel
theorem dX10_makePatch_169 : decode cX10_makePatch 169 = .ok (.istore 5, 2) := by decide +kernel
theorem dX10_makePatch_171 : decode cX10_makePatch 171 = .ok (.bipush 6, 2) := by decide +kernel
theorem dX10_makePatch_173 : decode cX10_makePatch 173 = .ok (.aload_n 0, 1) := by decide +kernel
theorem dX10_makePatch_174 : decode cX10_makePatch 174 = .ok (.getfield 302, 3) := by decide +kernel
theorem dX10_makePatch_177 : decode cX10_makePatch 177 = .ok (.imul, 1) := by decide +kernel
theorem dX10_makePatch_178 : decode cX10_makePatch 178 = .ok (.istore 6, 2) := by decide +kernel
theorem dX10_makePatch_180 : decode cX10_makePatch 180 = .ok (.aload_n 0, 1) := by decide +kernel
theorem dX10_makePatch_181 : decode cX10_makePatch 181 = .ok (.getfield 100, 3) := by decide +kernel
theorem dX10_makePatch_184 : decode cX10_makePatch 184 = .ok (.iload 6, 2) := by decide +kernel
theorem dX10_makePatch_186 : decode cX10_makePatch 186 = .ok (.aload_n 0, 1) := by decide +kernel
theorem dX10_makePatch_187 : decode cX10_makePatch 187 = .ok (.getfield 69, 3) := by decide +kernel
theorem dX10_makePatch_190 : decode cX10_makePatch 190 = .ok (.iconst 4, 1) := by decide +kernel
theorem dX10_makePatch_191 : decode cX10_makePatch 191 = .ok (.iload_n 2, 1) := by decide +kernel
theorem dX10_makePatch_192 : decode cX10_makePatch 192 = .ok (.imul, 1) := by decide +kernel
theorem dX10_makePatch_193 : decode cX10_makePatch 193 = .ok (.iaload, 1) := by decide +kernel
theorem dX10_makePatch_194 : decode cX10_makePatch 194 = .ok (.iload 4, 2) := by decide +kernel
theorem dX10_makePatch_196 : decode cX10_makePatch 196 = .ok (.isub, 1) := by decide +kernel
theorem dX10_makePatch_197 : decode cX10_makePatch 197 = .ok (.iastore, 1) := by decide +kernel
theorem dX10_makePatch_198 : decode cX10_makePatch 198 = .ok (.aload_n 0, 1) := by decide +kernel
theorem dX10_makePatch_199 : decode cX10_makePatch 199 = .ok (.getfield 100, 3) := by decide +kernel
theorem dX10_makePatch_202 : decode cX10_makePatch 202 = .ok (.iload 6, 2) := by decide +kernel
theorem dX10_makePatch_204 : decode cX10_makePatch 204 = .ok (.iconst 1, 1) := by decide +kernel
theorem dX10_makePatch_205 : decode cX10_makePatch 205 = .ok (.iadd, 1) := by decide +kernel
theorem dX10_makePatch_206 : decode cX10_makePatch 206 = .ok (.aload_n 0, 1) := by decide +kernel
theorem dX10_makePatch_207 : decode cX10_makePatch 207 = .ok (.getfield 69, 3) := by decide +kernel
theorem dX10_makePatch_210 : decode cX10_makePatch 210 = .ok (.iconst 4, 1) := by decide +kernel
theorem dX10_makePatch_211 : decode cX10_makePatch 211 = .ok (.iload_n 3, 1) := by decide +kernel
theorem dX10_makePatch_212 : decode cX10_makePatch 212 = .ok (.imul, 1) := by decide +kernel
theorem dX10_makePatch_213 : decode cX10_makePatch 213 = .ok (.iconst 1, 1) := by decide +kernel
theorem dX10_makePatch_214 : decode cX10_makePatch 214 = .ok (.iadd, 1) := by decide +kernel
theorem dX10_makePatch_215 : decode cX10_makePatch 215 = .ok (.iaload, 1) := by decide +kernel
theorem dX10_makePatch_216 : decode cX10_makePatch 216 = .ok (.iload 5, 2) := by decide +kernel
theorem dX10_makePatch_218 : decode cX10_makePatch 218 = .ok (.iadd, 1) := by decide +kernel
theorem dX10_makePatch_219 : decode cX10_makePatch 219 = .ok (.aload_n 0, 1) := by decide +kernel
theorem dX10_makePatch_220 : decode cX10_makePatch 220 = .ok (.getfield 100, 3) := by decide +kernel
theorem dX10_makePatch_223 : decode cX10_makePatch 223 = .ok (.iload 6, 2) := by decide +kernel
theorem dX10_makePatch_225 : decode cX10_makePatch 225 = .ok (.iaload, 1) := by decide +kernel
theorem dX10_makePatch_226 : decode cX10_makePatch 226 = .ok (.isub, 1) := by decide +kernel
theorem dX10_makePatch_227 : decode cX10_makePatch 227 = .ok (.iastore, 1) := by decide +kernel
theorem dX10_makePatch_228 : decode cX10_makePatch 228 = .ok (.aload_n 0, 1) := by decide +kernel
theorem dX10_makePatch_229 : decode cX10_makePatch 229 = .ok (.getfield 100, 3) := by decide +kernel
theorem dX10_makePatch_232 : decode cX10_makePatch 232 = .ok (.iload 6, 2) := by decide +kernel
theorem dX10_makePatch_234 : decode cX10_makePatch 234 = .ok (.iconst 2, 1) := by decide +kernel
theorem dX10_makePatch_235 : decode cX10_makePatch 235 = .ok (.iadd, 1) := by decide +kernel
theorem dX10_makePatch_236 : decode cX10_makePatch 236 = .ok (.aload_n 0, 1) := by decide +kernel
theorem dX10_makePatch_237 : decode cX10_makePatch 237 = .ok (.getfield 69, 3) := by decide +kernel
theorem dX10_makePatch_240 : decode cX10_makePatch 240 = .ok (.iconst 4, 1) := by decide +kernel
theorem dX10_makePatch_241 : decode cX10_makePatch 241 = .ok (.iload_n 2, 1) := by decide +kernel
theorem dX10_makePatch_242 : decode cX10_makePatch 242 = .ok (.imul, 1) := by decide +kernel
theorem dX10_makePatch_243 : decode cX10_makePatch 243 = .ok (.iconst 2, 1) := by decide +kernel
theorem dX10_makePatch_244 : decode cX10_makePatch 244 = .ok (.iadd, 1) := by decide +kernel
theorem dX10_makePatch_245 : decode cX10_makePatch 245 = .ok (.iaload, 1) := by decide +kernel
theorem dX10_makePatch_246 : decode cX10_makePatch 246 = .ok (.iload 4, 2) := by decide +kernel
theorem dX10_makePatch_248 : decode cX10_makePatch 248 = .ok (.isub, 1) := by decide +kernel
theorem dX10_makePatch_249 : decode cX10_makePatch 249 = .ok (.iastore, 1) := by decide +kernel
theorem dX10_makePatch_250 : decode cX10_makePatch 250 = .ok (.aload_n 0, 1) := by decide +kernel
theorem dX10_makePatch_251 : decode cX10_makePatch 251 = .ok (.getfield 100, 3) := by decide +kernel
theorem dX10_makePatch_254 : decode cX10_makePatch 254 = .ok (.iload 6, 2) := by decide +kernel
theorem dX10_makePatch_256 : decode cX10_makePatch 256 = .ok (.iconst 3, 1) := by decide +kernel
theorem dX10_makePatch_257 : decode cX10_makePatch 257 = .ok (.iadd, 1) := by decide +kernel
theorem dX10_makePatch_258 : decode cX10_makePatch 258 = .ok (.aload_n 0, 1) := by decide +kernel
theorem dX10_makePatch_259 : decode cX10_makePatch 259 = .ok (.getfield 69, 3) := by decide +kernel
theorem dX10_makePatch_262 : decode cX10_makePatch 262 = .ok (.iconst 4, 1) := by decide +kernel
theorem dX10_makePatch_263 : decode cX10_makePatch 263 = .ok (.iload_n 3, 1) := by decide +kernel
theorem dX10_makePatch_264 : decode cX10_makePatch 264 = .ok (.imul, 1) := by decide +kernel
theorem dX10_makePatch_265 : decode cX10_makePatch 265 = .ok (.iconst 3, 1) := by decide +kernel
theorem dX10_makePatch_266 : decode cX10_makePatch 266 = .ok (.iadd, 1) := by decide +kernel
theorem dX10_makePatch_267 : decode cX10_makePatch 267 = .ok (.iaload, 1) := by decide +kernel
theorem dX10_makePatch_268 : decode cX10_makePatch 268 = .ok (.iload 5, 2) := by decide +kernel
theorem dX10_makePatch_270 : decode cX10_makePatch 270 = .ok (.iadd, 1) := by decide +kernel
theorem dX10_makePatch_271 : decode cX10_makePatch 271 = .ok (.aload_n 0, 1) := by decide +kernel
theorem dX10_makePatch_272 : decode cX10_makePatch 272 = .ok (.getfield 100, 3) := by decide +kernel
theorem dX10_makePatch_275 : decode cX10_makePatch 275 = .ok (.iload 6, 2) := by decide +kernel
theorem dX10_makePatch_277 : decode cX10_makePatch 277 = .ok (.iconst 2, 1) := by decide +kernel
theorem dX10_makePatch_278 : decode cX10_makePatch 278 = .ok (.iadd, 1) := by decide +kernel
theorem dX10_makePatch_279 : decode cX10_makePatch 279 = .ok (.iaload, 1) := by decide +kernel
theorem dX10_makePatch_280 : decode cX10_makePatch 280 = .ok (.isub, 1) := by decide +kernel
theorem dX10_makePatch_281 : decode cX10_makePatch 281 = .ok (.iastore, 1) := by decide +kernel
theorem dX10_makePatch_282 : decode cX10_makePatch 282 = .ok (.aload_n 0, 1) := by decide +kernel
theorem dX10_makePatch_283 : decode cX10_makePatch 283 = .ok (.getfield 100, 3) := by decide +kernel
theorem dX10_makePatch_286 : decode cX10_makePatch 286 = .ok (.iload 6, 2) := by decide +kernel
theorem dX10_makePatch_288 : decode cX10_makePatch 288 = .ok (.iconst 4, 1) := by decide +kernel
theorem dX10_makePatch_289 : decode cX10_makePatch 289 = .ok (.iadd, 1) := by decide +kernel
theorem dX10_makePatch_290 : decode cX10_makePatch 290 = .ok (.iload 4, 2) := by decide +kernel
theorem dX10_makePatch_292 : decode cX10_makePatch 292 = .ok (.iastore, 1) := by decide +kernel
theorem dX10_makePatch_293 : decode cX10_makePatch 293 = .ok (.aload_n 0, 1) := by decide +kernel
theorem dX10_makePatch_294 : decode cX10_makePatch 294 = .ok (.getfield 100, 3) := by decide +kernel
theorem dX10_makePatch_297 : decode cX10_makePatch 297 = .ok (.iload 6, 2) := by decide +kernel
theorem dX10_makePatch_299 : decode cX10_makePatch 299 = .ok (.iconst 5, 1) := by decide +kernel
theorem dX10_makePatch_300 : decode cX10_makePatch 300 = .ok (.iadd, 1) := by decide +kernel
theorem dX10_makePatch_301 : decode cX10_makePatch 301 = .ok (.iload 5, 2) := by decide +kernel
theorem dX10_makePatch_303 : decode cX10_makePatch 303 = .ok (.iastore, 1) := by decide +kernel
theorem dX10_makePatch_304 : decode cX10_makePatch 304 = .ok (.aload_n 0, 1) := by decide +kernel
theorem dX10_makePatch_305 : decode cX10_makePatch 305 = .ok (.dup, 1) := by decide +kernel
theorem dX10_makePatch_306 : decode cX10_makePatch 306 = .ok (.getfield 302, 3) := by decide +kernel
theorem dX10_makePatch_309 : decode cX10_makePatch 309 = .ok (.iconst 1, 1) := by decide +kernel
theorem dX10_makePatch_310 : decode cX10_makePatch 310 = .ok (.iadd, 1) := by decide +kernel
theorem dX10_makePatch_311 : decode cX10_makePatch 311 = .ok (.putfield 302, 3) := by decide +kernel
theorem dX10_makePatch_314 : decode cX10_makePatch 314 = .ok (.iload_n 3, 1) := by decide +kernel
theorem dX10_makePatch_315 : decode cX10_makePatch 315 = .ok (.iconst 1, 1) := by decide +kernel
theorem dX10_makePatch_316 : decode cX10_makePatch 316 = .ok (.iadd, 1) := by decide +kernel
theorem dX10_makePatch_317 : decode cX10_makePatch 317 = .ok (.istore_n 2, 1) := by decide +kernel
theorem dX10_makePatch_318 : decode cX10_makePatch 318 = .ok (.goto (-235), 3) := by decide +kernel
theorem dX10_makePatch_321 : decode cX10_makePatch 321 = .ok (.aload_n 0, 1) := by decide +kernel
theorem dX10_makePatch_322 : decode cX10_makePatch 322 = .ok (.aload_n 0, 1) := by decide +kernel
theorem dX10_makePatch_323 : decode cX10_makePatch 323 = .ok (.getfield 302, 3) := by decide +kernel
theorem dX10_makePatch_326 : decode cX10_makePatch 326 = .ok (.invokevirtual 138, 3) := by decide +kernel
theorem dX10_makePatch_329 : decode cX10_makePatch 329 = .ok (.ireturn, 1) := by decide +kernel
theorem dX10_hunk_0 : decode cX10_hunk 0 = .ok (.aload_n 0, 1) := by decide +kernel
theorem dX10_hunk_1 : decode cX10_hunk 1 = .ok (.getfield 296, 3) := by decide +kernel
theorem dX10_hunk_4 : decode cX10_hunk 4 = .ok (.ifCond .ne 9, 3) := by decide +kernel
theorem dX10_hunk_7 : decode cX10_hunk 7 = .ok (.aload_n 0, 1) := by decide +kernel
theorem dX10_hunk_8 : decode cX10_hunk 8 = .ok (.iconst 1, 1) := by decide +kernel
theorem dX10_hunk_9 : decode cX10_hunk 9 = .ok (.invokevirtual 130, 3) := by decide +kernel
theorem dX10_hunk_12 : decode cX10_hunk 12 = .ok (.ireturn, 1) := by decide +kernel
theorem dX10_hunk_13 : decode cX10_hunk 13 = .ok (.iload_n 1, 1) := by decide +kernel
theorem dX10_hunk_14 : decode cX10_hunk 14 = .ok (.iconst 0, 1) := by decide +kernel
theorem dX10_hunk_15 : decode cX10_hunk 15 = .ok (.aload_n 0, 1) := by decide +kernel
theorem dX10_hunk_16 : decode cX10_hunk 16 = .ok (.getfield 302, 3) := by decide +kernel
theorem dX10_hunk_19 : decode cX10_hunk 19 = .ok (.iconst 1, 1) := by decide +kernel
theorem dX10_hunk_20 : decode cX10_hunk 20 = .ok (.isub, 1) := by decide +kernel
theorem dX10_hunk_21 : decode cX10_hunk 21 = .ok (.invokestatic 119, 3) := by decide +kernel
theorem dX10_hunk_24 : decode cX10_hunk 24 = .ok (.ifCond .ne 9, 3) := by decide +kernel
theorem dX10_hunk_27 : decode cX10_hunk 27 = .ok (.aload_n 0, 1) := by decide +kernel
theorem dX10_hunk_28 : decode cX10_hunk 28 = .ok (.iconst 2, 1) := by decide +kernel
theorem dX10_hunk_29 : decode cX10_hunk 29 = .ok (.invokevirtual 130, 3) := by decide +kernel
theorem dX10_hunk_32 : decode cX10_hunk 32 = .ok (.ireturn, 1) := by decide +kernel
theorem dX10_hunk_33 : decode cX10_hunk 33 = .ok (.iload_n 2, 1) := by decide +kernel
theorem dX10_hunk_34 : decode cX10_hunk 34 = .ok (.iconst 0, 1) := by decide +kernel
theorem dX10_hunk_35 : decode cX10_hunk 35 = .ok (.iconst 5, 1) := by decide +kernel
theorem dX10_hunk_36 : decode cX10_hunk 36 = .ok (.invokestatic 119, 3) := by decide +kernel
theorem dX10_hunk_39 : decode cX10_hunk 39 = .ok (.ifCond .eq 21, 3) := by decide +kernel
theorem dX10_hunk_42 : decode cX10_hunk 42 = .ok (.aload_n 0, 1) := by decide +kernel
theorem dX10_hunk_43 : decode cX10_hunk 43 = .ok (.aload_n 0, 1) := by decide +kernel
theorem dX10_hunk_44 : decode cX10_hunk 44 = .ok (.getfield 100, 3) := by decide +kernel
theorem dX10_hunk_47 : decode cX10_hunk 47 = .ok (.bipush 6, 2) := by decide +kernel
theorem dX10_hunk_49 : decode cX10_hunk 49 = .ok (.iload_n 1, 1) := by decide +kernel
theorem dX10_hunk_50 : decode cX10_hunk 50 = .ok (.imul, 1) := by decide +kernel
theorem dX10_hunk_51 : decode cX10_hunk 51 = .ok (.iload_n 2, 1) := by decide +kernel
theorem dX10_hunk_52 : decode cX10_hunk 52 = .ok (.iadd, 1) := by decide +kernel
theorem dX10_hunk_53 : decode cX10_hunk 53 = .ok (.iaload, 1) := by decide +kernel
theorem dX10_hunk_54 : decode cX10_hunk 54 = .ok (.invokevirtual 138, 3) := by decide +kernel
theorem dX10_hunk_57 : decode cX10_hunk 57 = .ok (.goto 8, 3) := by decide +kernel
theorem dX10_hunk_60 : decode cX10_hunk 60 = .ok (.aload_n 0, 1) := by decide +kernel
theorem dX10_hunk_61 : decode cX10_hunk 61 = .ok (.iconst 3, 1) := by decide +kernel
theorem dX10_hunk_62 : decode cX10_hunk 62 = .ok (.invokevirtual 130, 3) := by decide +kernel
theorem dX10_hunk_65 : decode cX10_hunk 65 = .ok (.ireturn, 1) := by decide +kernel
theorem dX10_fits_0 : decode cX10_fits 0 = .ok (.iload_n 2, 1) := by decide +kernel
theorem dX10_fits_1 : decode cX10_fits 1 = .ok (.aload_n 0, 1) := by decide +kernel
theorem dX10_fits_2 : decode cX10_fits 2 = .ok (.getfield 308, 3) := by decide +kernel
theorem dX10_fits_5 : decode cX10_fits 5 = .ok (.if_icmp .lt 20, 3) := by decide +kernel
theorem dX10_fits_8 : decode cX10_fits 8 = .ok (.iload_n 2, 1) := by decide +kernel
theorem dX10_fits_9 : decode cX10_fits 9 = .ok (.iload 5, 2) := by decide +kernel
theorem dX10_fits_11 : decode cX10_fits 11 = .ok (.iadd, 1) := by decide +kernel
theorem dX10_fits_12 : decode cX10_fits 12 = .ok (.aload_n 0, 1) := by decide +kernel
theorem dX10_fits_13 : decode cX10_fits 13 = .ok (.getfield 13, 3) := by decide +kernel
theorem dX10_fits_16 : decode cX10_fits 16 = .ok (.iload_n 1, 1) := by decide +kernel
theorem dX10_fits_17 : decode cX10_fits 17 = .ok (.iaload, 1) := by decide +kernel
theorem dX10_fits_18 : decode cX10_fits 18 = .ok (.if_icmp .gt 7, 3) := by decide +kernel
theorem dX10_fits_21 : decode cX10_fits 21 = .ok (.iconst 1, 1) := by decide +kernel
theorem dX10_fits_22 : decode cX10_fits 22 = .ok (.goto 4, 3) := by decide +kernel
theorem dX10_fits_25 : decode cX10_fits 25 = .ok (.iconst 0, 1) := by decide +kernel
theorem dX10_fits_26 : decode cX10_fits 26 = .ok (.istore 6, 2) := by decide +kernel
theorem dX10_fits_28 : decode cX10_fits 28 = .ok (.iconst 0, 1) := by decide +kernel
theorem dX10_fits_29 : decode cX10_fits 29 = .ok (.istore 7, 2) := by decide +kernel
theorem dX10_fits_31 : decode cX10_fits 31 = .ok (.iload 7, 2) := by decide +kernel
theorem dX10_fits_33 : decode cX10_fits 33 = .ok (.iload 5, 2) := by decide +kernel
theorem dX10_fits_35 : decode cX10_fits 35 = .ok (.if_icmp .ge 45, 3) := by decide +kernel
theorem dX10_fits_38 : decode cX10_fits 38 = .ok (.iload 6, 2) := by decide +kernel
theorem dX10_fits_40 : decode cX10_fits 40 = .ok (.ifCond .eq 40, 3) := by decide +kernel
theorem dX10_fits_43 : decode cX10_fits 43 = .ok (.aload_n 0, 1) := by decide +kernel
theorem dX10_fits_44 : decode cX10_fits 44 = .ok (.getfield 7, 3) := by decide +kernel
theorem dX10_fits_47 : decode cX10_fits 47 = .ok (.bipush 24, 2) := by decide +kernel
theorem dX10_fits_49 : decode cX10_fits 49 = .ok (.iload_n 1, 1) := by decide +kernel
theorem dX10_fits_50 : decode cX10_fits 50 = .ok (.imul, 1) := by decide +kernel
theorem dX10_fits_51 : decode cX10_fits 51 = .ok (.iload_n 2, 1) := by decide +kernel
theorem dX10_fits_52 : decode cX10_fits 52 = .ok (.iadd, 1) := by decide +kernel
theorem dX10_fits_53 : decode cX10_fits 53 = .ok (.iload 7, 2) := by decide +kernel
theorem dX10_fits_55 : decode cX10_fits 55 = .ok (.iadd, 1) := by decide +kernel
theorem dX10_fits_56 : decode cX10_fits 56 = .ok (.iaload, 1) := by decide +kernel
theorem dX10_fits_57 : decode cX10_fits 57 = .ok (.aload_n 3, 1) := by decide +kernel
theorem dX10_fits_58 : decode cX10_fits 58 = .ok (.iload 4, 2) := by decide +kernel
theorem dX10_fits_60 : decode cX10_fits 60 = .ok (.iload 7, 2) := by decide +kernel
theorem dX10_fits_62 : decode cX10_fits 62 = .ok (.iadd, 1) := by decide +kernel
theorem dX10_fits_63 : decode cX10_fits 63 = .ok (.iaload, 1) := by decide +kernel
theorem dX10_fits_64 : decode cX10_fits 64 = .ok (.if_icmp .ne 7, 3) := by decide +kernel
theorem dX10_fits_67 : decode cX10_fits 67 = .ok (.iconst 1, 1) := by decide +kernel
theorem dX10_fits_68 : decode cX10_fits 68 = .ok (.goto 4, 3) := by decide +kernel
theorem dX10_fits_71 : decode cX10_fits 71 = .ok (.iconst 0, 1) := by decide +kernel
theorem dX10_fits_72 : decode cX10_fits 72 = .ok (.istore 6, 2) := by decide +kernel
theorem dX10_fits_74 : decode cX10_fits 74 = .ok (.iinc 7 1, 3) := by decide +kernel
theorem dX10_fits_77 : decode cX10_fits 77 = .ok (.goto (-46), 3) := by decide +kernel
theorem dX10_fits_80 : decode cX10_fits 80 = .ok (.iload 6, 2) := by decide +kernel
theorem dX10_fits_82 : decode cX10_fits 82 = .ok (.ireturn, 1) := by decide +kernel
theorem dX10_goesOutDocument_0 : decode cX10_goesOutDocument 0 = .ok (.iload_n 2, 1) := by decide +kernel
theorem dX10_goesOutDocument_1 : decode cX10_goesOutDocument 1 = .ok (.istore 4, 2) := by decide +kernel
theorem dX10_goesOutDocument_3 : decode cX10_goesOutDocument 3 = .ok (.iload 4, 2) := by decide +kernel
theorem dX10_goesOutDocument_5 : decode cX10_goesOutDocument 5 = .ok (.iload_n 3, 1) := by decide +kernel
theorem dX10_goesOutDocument_6 : decode cX10_goesOutDocument 6 = .ok (.if_icmp .ge 40, 3) := by decide +kernel
theorem dX10_goesOutDocument_9 : decode cX10_goesOutDocument 9 = .ok (.aload_n 0, 1) := by decide +kernel
theorem dX10_goesOutDocument_10 : decode cX10_goesOutDocument 10 = .ok (.getfield 39, 3) := by decide +kernel
theorem dX10_goesOutDocument_13 : decode cX10_goesOutDocument 13 = .ok (.aload_n 0, 1) := by decide +kernel
theorem dX10_goesOutDocument_14 : decode cX10_goesOutDocument 14 = .ok (.getfield 158, 3) := by decide +kernel
theorem dX10_goesOutDocument_17 : decode cX10_goesOutDocument 17 = .ok (.aload_n 0, 1) := by decide +kernel
theorem dX10_goesOutDocument_18 : decode cX10_goesOutDocument 18 = .ok (.getfield 7, 3) := by decide +kernel
theorem dX10_goesOutDocument_21 : decode cX10_goesOutDocument 21 = .ok (.bipush 24, 2) := by decide +kernel
theorem dX10_goesOutDocument_23 : decode cX10_goesOutDocument 23 = .ok (.iload_n 1, 1) := by decide +kernel
theorem dX10_goesOutDocument_24 : decode cX10_goesOutDocument 24 = .ok (.imul, 1) := by decide +kernel
theorem dX10_goesOutDocument_25 : decode cX10_goesOutDocument 25 = .ok (.iload 4, 2) := by decide +kernel
theorem dX10_goesOutDocument_27 : decode cX10_goesOutDocument 27 = .ok (.iadd, 1) := by decide +kernel
theorem dX10_goesOutDocument_28 : decode cX10_goesOutDocument 28 = .ok (.iaload, 1) := by decide +kernel
theorem dX10_goesOutDocument_29 : decode cX10_goesOutDocument 29 = .ok (.iastore, 1) := by decide +kernel
theorem dX10_goesOutDocument_30 : decode cX10_goesOutDocument 30 = .ok (.aload_n 0, 1) := by decide +kernel
theorem dX10_goesOutDocument_31 : decode cX10_goesOutDocument 31 = .ok (.dup, 1) := by decide +kernel
theorem dX10_goesOutDocument_32 : decode cX10_goesOutDocument 32 = .ok (.getfield 158, 3) := by decide +kernel
theorem dX10_goesOutDocument_35 : decode cX10_goesOutDocument 35 = .ok (.iconst 1, 1) := by decide +kernel
theorem dX10_goesOutDocument_36 : decode cX10_goesOutDocument 36 = .ok (.iadd, 1) := by decide +kernel
theorem dX10_goesOutDocument_37 : decode cX10_goesOutDocument 37 = .ok (.putfield 158, 3) := by decide +kernel
theorem dX10_goesOutDocument_40 : decode cX10_goesOutDocument 40 = .ok (.iinc 4 1, 3) := by decide +kernel
theorem dX10_goesOutDocument_43 : decode cX10_goesOutDocument 43 = .ok (.goto (-40), 3) := by decide +kernel
theorem dX10_goesOutDocument_46 : decode cX10_goesOutDocument 46 = .ok (.return_, 1) := by decide +kernel
theorem dX10_applies_0 : decode cX10_applies 0 = .ok (.bipush 6, 2) := by decide +kernel
theorem dX10_applies_2 : decode cX10_applies 2 = .ok (.iload_n 2, 1) := by decide +kernel
theorem dX10_applies_3 : decode cX10_applies 3 = .ok (.imul, 1) := by decide +kernel
theorem dX10_applies_4 : decode cX10_applies 4 = .ok (.istore 5, 2) := by decide +kernel
theorem dX10_applies_6 : decode cX10_applies 6 = .ok (.iload_n 3, 1) := by decide +kernel
theorem dX10_applies_7 : decode cX10_applies 7 = .ok (.aload_n 0, 1) := by decide +kernel
theorem dX10_applies_8 : decode cX10_applies 8 = .ok (.getfield 100, 3) := by decide +kernel
theorem dX10_applies_11 : decode cX10_applies 11 = .ok (.iload 5, 2) := by decide +kernel
theorem dX10_applies_13 : decode cX10_applies 13 = .ok (.iconst 4, 1) := by decide +kernel
theorem dX10_applies_14 : decode cX10_applies 14 = .ok (.iadd, 1) := by decide +kernel
theorem dX10_applies_15 : decode cX10_applies 15 = .ok (.iaload, 1) := by decide +kernel
theorem dX10_applies_16 : decode cX10_applies 16 = .ok (.invokestatic 305, 3) := by decide +kernel
theorem dX10_applies_19 : decode cX10_applies 19 = .ok (.istore 6, 2) := by decide +kernel
theorem dX10_applies_21 : decode cX10_applies 21 = .ok (.iload_n 3, 1) := by decide +kernel
theorem dX10_applies_22 : decode cX10_applies 22 = .ok (.aload_n 0, 1) := by decide +kernel
theorem dX10_applies_23 : decode cX10_applies 23 = .ok (.getfield 100, 3) := by decide +kernel
theorem dX10_applies_26 : decode cX10_applies 26 = .ok (.iload 5, 2) := by decide +kernel
theorem dX10_applies_28 : decode cX10_applies 28 = .ok (.iconst 5, 1) := by decide +kernel
theorem dX10_applies_29 : decode cX10_applies 29 = .ok (.iadd, 1) := by decide +kernel
theorem dX10_applies_30 : decode cX10_applies 30 = .ok (.iaload, 1) := by decide +kernel
theorem dX10_applies_31 : decode cX10_applies 31 = .ok (.invokestatic 305, 3) := by decide +kernel
theorem dX10_applies_34 : decode cX10_applies 34 = .ok (.istore 7, 2) := by decide +kernel
theorem dX10_applies_36 : decode cX10_applies 36 = .ok (.iload 4, 2) := by decide +kernel
theorem dX10_applies_38 : decode cX10_applies 38 = .ok (.ifCond .eq 10, 3) := by decide +kernel
theorem dX10_applies_41 : decode cX10_applies 41 = .ok (.aload_n 0, 1) := by decide +kernel
theorem dX10_applies_42 : decode cX10_applies 42 = .ok (.getfield 106, 3) := by decide +kernel
theorem dX10_applies_45 : decode cX10_applies 45 = .ok (.goto 7, 3) := by decide +kernel
theorem dX10_applies_48 : decode cX10_applies 48 = .ok (.aload_n 0, 1) := by decide +kernel
theorem dX10_applies_49 : decode cX10_applies 49 = .ok (.getfield 103, 3) := by decide +kernel
theorem dX10_applies_52 : decode cX10_applies 52 = .ok (.astore 8, 2) := by decide +kernel
theorem dX10_applies_54 : decode cX10_applies 54 = .ok (.iload 4, 2) := by decide +kernel
theorem dX10_applies_56 : decode cX10_applies 56 = .ok (.ifCond .eq 10, 3) := by decide +kernel
theorem dX10_applies_59 : decode cX10_applies 59 = .ok (.aload_n 0, 1) := by decide +kernel
theorem dX10_applies_60 : decode cX10_applies 60 = .ok (.getfield 103, 3) := by decide +kernel
theorem dX10_applies_63 : decode cX10_applies 63 = .ok (.goto 7, 3) := by decide +kernel
theorem dX10_applies_66 : decode cX10_applies 66 = .ok (.aload_n 0, 1) := by decide +kernel
theorem dX10_applies_67 : decode cX10_applies 67 = .ok (.getfield 106, 3) := by decide +kernel
theorem dX10_applies_70 : decode cX10_applies 70 = .ok (.astore 9, 2) := by decide +kernel
theorem dX10_applies_72 : decode cX10_applies 72 = .ok (.aload_n 0, 1) := by decide +kernel
theorem dX10_applies_73 : decode cX10_applies 73 = .ok (.getfield 100, 3) := by decide +kernel
theorem dX10_applies_76 : decode cX10_applies 76 = .ok (.iload 4, 2) := by decide +kernel
theorem dX10_applies_78 : decode cX10_applies 78 = .ok (.ifCond .eq 10, 3) := by decide +kernel
theorem dX10_applies_81 : decode cX10_applies 81 = .ok (.iload 5, 2) := by decide +kernel
theorem dX10_applies_83 : decode cX10_applies 83 = .ok (.iconst 2, 1) := by decide +kernel
theorem dX10_applies_84 : decode cX10_applies 84 = .ok (.iadd, 1) := by decide +kernel
theorem dX10_applies_85 : decode cX10_applies 85 = .ok (.goto 5, 3) := by decide +kernel
theorem dX10_applies_88 : decode cX10_applies 88 = .ok (.iload 5, 2) := by decide +kernel
theorem dX10_applies_90 : decode cX10_applies 90 = .ok (.iaload, 1) := by decide +kernel
theorem dX10_applies_91 : decode cX10_applies 91 = .ok (.iload 6, 2) := by decide +kernel
theorem dX10_applies_93 : decode cX10_applies 93 = .ok (.iadd, 1) := by decide +kernel
theorem dX10_applies_94 : decode cX10_applies 94 = .ok (.istore 10, 2) := by decide +kernel
theorem dX10_applies_96 : decode cX10_applies 96 = .ok (.aload_n 0, 1) := by decide +kernel
theorem dX10_applies_97 : decode cX10_applies 97 = .ok (.getfield 100, 3) := by decide +kernel
theorem dX10_applies_100 : decode cX10_applies 100 = .ok (.iload 4, 2) := by decide +kernel
theorem dX10_applies_102 : decode cX10_applies 102 = .ok (.ifCond .eq 10, 3) := by decide +kernel
theorem dX10_applies_105 : decode cX10_applies 105 = .ok (.iload 5, 2) := by decide +kernel
theorem dX10_applies_107 : decode cX10_applies 107 = .ok (.iconst 3, 1) := by decide +kernel
theorem dX10_applies_108 : decode cX10_applies 108 = .ok (.iadd, 1) := by decide +kernel
theorem dX10_applies_109 : decode cX10_applies 109 = .ok (.goto 7, 3) := by decide +kernel
theorem dX10_applies_112 : decode cX10_applies 112 = .ok (.iload 5, 2) := by decide +kernel
theorem dX10_applies_114 : decode cX10_applies 114 = .ok (.iconst 1, 1) := by decide +kernel
theorem dX10_applies_115 : decode cX10_applies 115 = .ok (.iadd, 1) := by decide +kernel
theorem dX10_applies_116 : decode cX10_applies 116 = .ok (.iaload, 1) := by decide +kernel
theorem dX10_applies_117 : decode cX10_applies 117 = .ok (.iload 6, 2) := by decide +kernel
theorem dX10_applies_119 : decode cX10_applies 119 = .ok (.isub, 1) := by decide +kernel
theorem dX10_applies_120 : decode cX10_applies 120 = .ok (.iload 7, 2) := by decide +kernel
theorem dX10_applies_122 : decode cX10_applies 122 = .ok (.isub, 1) := by decide +kernel
theorem dX10_applies_123 : decode cX10_applies 123 = .ok (.istore 11, 2) := by decide +kernel
theorem dX10_applies_125 : decode cX10_applies 125 = .ok (.aload_n 0, 1) := by decide +kernel
theorem dX10_applies_126 : decode cX10_applies 126 = .ok (.getfield 100, 3) := by decide +kernel
theorem dX10_applies_129 : decode cX10_applies 129 = .ok (.iload 4, 2) := by decide +kernel
theorem dX10_applies_131 : decode cX10_applies 131 = .ok (.ifCond .eq 8, 3) := by decide +kernel
theorem dX10_applies_134 : decode cX10_applies 134 = .ok (.iload 5, 2) := by decide +kernel
theorem dX10_applies_136 : decode cX10_applies 136 = .ok (.goto 7, 3) := by decide +kernel
theorem dX10_applies_139 : decode cX10_applies 139 = .ok (.iload 5, 2) := by decide +kernel
theorem dX10_applies_141 : decode cX10_applies 141 = .ok (.iconst 2, 1) := by decide +kernel
theorem dX10_applies_142 : decode cX10_applies 142 = .ok (.iadd, 1) := by decide +kernel
theorem dX10_applies_143 : decode cX10_applies 143 = .ok (.iaload, 1) := by decide +kernel
theorem dX10_applies_144 : decode cX10_applies 144 = .ok (.iload 6, 2) := by decide +kernel
theorem dX10_applies_146 : decode cX10_applies 146 = .ok (.iadd, 1) := by decide +kernel
theorem dX10_applies_147 : decode cX10_applies 147 = .ok (.istore 12, 2) := by decide +kernel
theorem dX10_applies_149 : decode cX10_applies 149 = .ok (.aload_n 0, 1) := by decide +kernel
theorem dX10_applies_150 : decode cX10_applies 150 = .ok (.getfield 100, 3) := by decide +kernel
theorem dX10_applies_153 : decode cX10_applies 153 = .ok (.iload 4, 2) := by decide +kernel
theorem dX10_applies_155 : decode cX10_applies 155 = .ok (.ifCond .eq 10, 3) := by decide +kernel
theorem dX10_applies_158 : decode cX10_applies 158 = .ok (.iload 5, 2) := by decide +kernel
theorem dX10_applies_160 : decode cX10_applies 160 = .ok (.iconst 1, 1) := by decide +kernel
theorem dX10_applies_161 : decode cX10_applies 161 = .ok (.iadd, 1) := by decide +kernel
theorem dX10_applies_162 : decode cX10_applies 162 = .ok (.goto 7, 3) := by decide +kernel
theorem dX10_applies_165 : decode cX10_applies 165 = .ok (.iload 5, 2) := by decide +kernel
theorem dX10_applies_167 : decode cX10_applies 167 = .ok (.iconst 3, 1) := by decide +kernel
theorem dX10_applies_168 : decode cX10_applies 168 = .ok (.iadd, 1) := by decide +kernel
theorem dX10_applies_169 : decode cX10_applies 169 = .ok (.iaload, 1) := by decide +kernel
theorem dX10_applies_170 : decode cX10_applies 170 = .ok (.iload 6, 2) := by decide +kernel
theorem dX10_applies_172 : decode cX10_applies 172 = .ok (.isub, 1) := by decide +kernel
theorem dX10_applies_173 : decode cX10_applies 173 = .ok (.iload 7, 2) := by decide +kernel
theorem dX10_applies_175 : decode cX10_applies 175 = .ok (.isub, 1) := by decide +kernel
theorem dX10_applies_176 : decode cX10_applies 176 = .ok (.istore 13, 2) := by decide +kernel
theorem dX10_applies_178 : decode cX10_applies 178 = .ok (.iconst 0, 1) := by decide +kernel
theorem dX10_applies_179 : decode cX10_applies 179 = .ok (.istore 14, 2) := by decide +kernel
theorem dX10_applies_181 : decode cX10_applies 181 = .ok (.iload 14, 2) := by decide +kernel
theorem dX10_applies_183 : decode cX10_applies 183 = .ok (.bipush 20, 2) := by decide +kernel
theorem dX10_applies_185 : decode cX10_applies 185 = .ok (.if_icmp .gt 122, 3) := by decide +kernel
theorem dX10_applies_188 : decode cX10_applies 188 = .ok (.iload 10, 2) := by decide +kernel
theorem dX10_applies_190 : decode cX10_applies 190 = .ok (.aload_n 0, 1) := by decide +kernel
theorem dX10_applies_191 : decode cX10_applies 191 = .ok (.getfield 311, 3) := by decide +kernel
theorem dX10_applies_194 : decode cX10_applies 194 = .ok (.iadd, 1) := by decide +kernel
theorem dX10_applies_195 : decode cX10_applies 195 = .ok (.iload 14, 2) := by decide +kernel
theorem dX10_applies_197 : decode cX10_applies 197 = .ok (.iconst 2, 1) := by decide +kernel
theorem dX10_applies_198 : decode cX10_applies 198 = .ok (.irem, 1) := by decide +kernel
theorem dX10_applies_199 : decode cX10_applies 199 = .ok (.iconst 1, 1) := by decide +kernel
theorem dX10_applies_200 : decode cX10_applies 200 = .ok (.if_icmp .ne 12, 3) := by decide +kernel
theorem dX10_applies_203 : decode cX10_applies 203 = .ok (.iload 14, 2) := by decide +kernel
theorem dX10_applies_205 : decode cX10_applies 205 = .ok (.iconst 1, 1) := by decide +kernel
theorem dX10_applies_206 : decode cX10_applies 206 = .ok (.iadd, 1) := by decide +kernel
theorem dX10_applies_207 : decode cX10_applies 207 = .ok (.iconst 2, 1) := by decide +kernel
theorem dX10_applies_208 : decode cX10_applies 208 = .ok (.idiv, 1) := by decide +kernel
theorem dX10_applies_209 : decode cX10_applies 209 = .ok (.goto 8, 3) := by decide +kernel
theorem dX10_applies_212 : decode cX10_applies 212 = .ok (.iload 14, 2) := by decide +kernel
theorem dX10_applies_214 : decode cX10_applies 214 = .ok (.ineg, 1) := by decide +kernel
theorem dX10_applies_215 : decode cX10_applies 215 = .ok (.iconst 2, 1) := by decide +kernel
theorem dX10_applies_216 : decode cX10_applies 216 = .ok (.idiv, 1) := by decide +kernel
theorem dX10_applies_217 : decode cX10_applies 217 = .ok (.iadd, 1) := by decide +kernel
theorem dX10_applies_218 : decode cX10_applies 218 = .ok (.istore 15, 2) := by decide +kernel
theorem dX10_applies_220 : decode cX10_applies 220 = .ok (.aload_n 0, 1) := by decide +kernel
theorem dX10_applies_221 : decode cX10_applies 221 = .ok (.iload_n 1, 1) := by decide +kernel
theorem dX10_applies_222 : decode cX10_applies 222 = .ok (.iload 15, 2) := by decide +kernel
theorem dX10_applies_224 : decode cX10_applies 224 = .ok (.aload 8, 2) := by decide +kernel
theorem dX10_applies_226 : decode cX10_applies 226 = .ok (.iload 10, 2) := by decide +kernel
theorem dX10_applies_228 : decode cX10_applies 228 = .ok (.iload 11, 2) := by decide +kernel
theorem dX10_applies_230 : decode cX10_applies 230 = .ok (.invokevirtual 314, 3) := by decide +kernel
theorem dX10_applies_233 : decode cX10_applies 233 = .ok (.ifCond .eq 68, 3) := by decide +kernel
theorem dX10_applies_236 : decode cX10_applies 236 = .ok (.aload_n 0, 1) := by decide +kernel
theorem dX10_applies_237 : decode cX10_applies 237 = .ok (.iload_n 1, 1) := by decide +kernel
theorem dX10_applies_238 : decode cX10_applies 238 = .ok (.aload_n 0, 1) := by decide +kernel
theorem dX10_applies_239 : decode cX10_applies 239 = .ok (.getfield 308, 3) := by decide +kernel
theorem dX10_applies_242 : decode cX10_applies 242 = .ok (.iload 15, 2) := by decide +kernel
theorem dX10_applies_244 : decode cX10_applies 244 = .ok (.invokevirtual 318, 3) := by decide +kernel
theorem dX10_applies_247 : decode cX10_applies 247 = .ok (.aload_n 0, 1) := by decide +kernel
theorem dX10_applies_248 : decode cX10_applies 248 = .ok (.aload 9, 2) := by decide +kernel
theorem dX10_applies_250 : decode cX10_applies 250 = .ok (.iload 12, 2) := by decide +kernel
theorem dX10_applies_252 : decode cX10_applies 252 = .ok (.iload 12, 2) := by decide +kernel
theorem dX10_applies_254 : decode cX10_applies 254 = .ok (.iload 13, 2) := by decide +kernel
theorem dX10_applies_256 : decode cX10_applies 256 = .ok (.iadd, 1) := by decide +kernel
theorem dX10_applies_257 : decode cX10_applies 257 = .ok (.invokevirtual 282, 3) := by decide +kernel
theorem dX10_applies_260 : decode cX10_applies 260 = .ok (.aload_n 0, 1) := by decide +kernel
theorem dX10_applies_261 : decode cX10_applies 261 = .ok (.iload 15, 2) := by decide +kernel
theorem dX10_applies_263 : decode cX10_applies 263 = .ok (.iload 11, 2) := by decide +kernel
theorem dX10_applies_265 : decode cX10_applies 265 = .ok (.iadd, 1) := by decide +kernel
theorem dX10_applies_266 : decode cX10_applies 266 = .ok (.putfield 308, 3) := by decide +kernel
theorem dX10_applies_269 : decode cX10_applies 269 = .ok (.aload_n 0, 1) := by decide +kernel
theorem dX10_applies_270 : decode cX10_applies 270 = .ok (.iload 15, 2) := by decide +kernel
theorem dX10_applies_272 : decode cX10_applies 272 = .ok (.iload 10, 2) := by decide +kernel
theorem dX10_applies_274 : decode cX10_applies 274 = .ok (.isub, 1) := by decide +kernel
theorem dX10_applies_275 : decode cX10_applies 275 = .ok (.putfield 311, 3) := by decide +kernel
theorem dX10_applies_278 : decode cX10_applies 278 = .ok (.aload_n 0, 1) := by decide +kernel
theorem dX10_applies_279 : decode cX10_applies 279 = .ok (.getfield 112, 3) := by decide +kernel
theorem dX10_applies_282 : decode cX10_applies 282 = .ok (.iconst 2, 1) := by decide +kernel
theorem dX10_applies_283 : decode cX10_applies 283 = .ok (.iload_n 2, 1) := by decide +kernel
theorem dX10_applies_284 : decode cX10_applies 284 = .ok (.imul, 1) := by decide +kernel
theorem dX10_applies_285 : decode cX10_applies 285 = .ok (.iload 15, 2) := by decide +kernel
theorem dX10_applies_287 : decode cX10_applies 287 = .ok (.iastore, 1) := by decide +kernel
theorem dX10_applies_288 : decode cX10_applies 288 = .ok (.aload_n 0, 1) := by decide +kernel
theorem dX10_applies_289 : decode cX10_applies 289 = .ok (.getfield 112, 3) := by decide +kernel
theorem dX10_applies_292 : decode cX10_applies 292 = .ok (.iconst 2, 1) := by decide +kernel
theorem dX10_applies_293 : decode cX10_applies 293 = .ok (.iload_n 2, 1) := by decide +kernel
theorem dX10_applies_294 : decode cX10_applies 294 = .ok (.imul, 1) := by decide +kernel
theorem dX10_applies_295 : decode cX10_applies 295 = .ok (.iconst 1, 1) := by decide +kernel
theorem dX10_applies_296 : decode cX10_applies 296 = .ok (.iadd, 1) := by decide +kernel
theorem dX10_applies_297 : decode cX10_applies 297 = .ok (.iload_n 3, 1) := by decide +kernel
theorem dX10_applies_298 : decode cX10_applies 298 = .ok (.iastore, 1) := by decide +kernel
theorem dX10_applies_299 : decode cX10_applies 299 = .ok (.iconst 1, 1) := by decide +kernel
theorem dX10_applies_300 : decode cX10_applies 300 = .ok (.ireturn, 1) := by decide +kernel
theorem dX10_applies_301 : decode cX10_applies 301 = .ok (.iinc 14 1, 3) := by decide +kernel
theorem dX10_applies_304 : decode cX10_applies 304 = .ok (.goto (-123), 3) := by decide +kernel
theorem dX10_applies_307 : decode cX10_applies 307 = .ok (.iconst 0, 1) := by decide +kernel
theorem dX10_applies_308 : decode cX10_applies 308 = .ok (.ireturn, 1) := by decide +kernel
theorem dX10_apply_0 : decode cX10_apply 0 = .ok (.iload_n 1, 1) := by decide +kernel
theorem dX10_apply_1 : decode cX10_apply 1 = .ok (.invokestatic 126, 3) := by decide +kernel
theorem dX10_apply_4 : decode cX10_apply 4 = .ok (.ifCond .eq 12, 3) := by decide +kernel
theorem dX10_apply_7 : decode cX10_apply 7 = .ok (.iload_n 2, 1) := by decide +kernel
theorem dX10_apply_8 : decode cX10_apply 8 = .ok (.iconst 0, 1) := by decide +kernel
theorem dX10_apply_9 : decode cX10_apply 9 = .ok (.iconst 2, 1) := by decide +kernel
theorem dX10_apply_10 : decode cX10_apply 10 = .ok (.invokestatic 119, 3) := by decide +kernel
theorem dX10_apply_13 : decode cX10_apply 13 = .ok (.ifCond .ne 9, 3) := by decide +kernel
theorem dX10_apply_16 : decode cX10_apply 16 = .ok (.aload_n 0, 1) := by decide +kernel
theorem dX10_apply_17 : decode cX10_apply 17 = .ok (.iconst 1, 1) := by decide +kernel
theorem dX10_apply_18 : decode cX10_apply 18 = .ok (.invokevirtual 130, 3) := by decide +kernel
theorem dX10_apply_21 : decode cX10_apply 21 = .ok (.ireturn, 1) := by decide +kernel
theorem dX10_apply_22 : decode cX10_apply 22 = .ok (.aload_n 0, 1) := by decide +kernel
theorem dX10_apply_23 : decode cX10_apply 23 = .ok (.getfield 296, 3) := by decide +kernel
theorem dX10_apply_26 : decode cX10_apply 26 = .ok (.ifCond .ne 9, 3) := by decide +kernel
theorem dX10_apply_29 : decode cX10_apply 29 = .ok (.aload_n 0, 1) := by decide +kernel
theorem dX10_apply_30 : decode cX10_apply 30 = .ok (.iconst 2, 1) := by decide +kernel
theorem dX10_apply_31 : decode cX10_apply 31 = .ok (.invokevirtual 130, 3) := by decide +kernel
theorem dX10_apply_34 : decode cX10_apply 34 = .ok (.ireturn, 1) := by decide +kernel
theorem dX10_apply_35 : decode cX10_apply 35 = .ok (.aload_n 0, 1) := by decide +kernel
theorem dX10_apply_36 : decode cX10_apply 36 = .ok (.iconst 0, 1) := by decide +kernel
theorem dX10_apply_37 : decode cX10_apply 37 = .ok (.putfield 308, 3) := by decide +kernel
theorem dX10_apply_40 : decode cX10_apply 40 = .ok (.aload_n 0, 1) := by decide +kernel
theorem dX10_apply_41 : decode cX10_apply 41 = .ok (.iconst 0, 1) := by decide +kernel
theorem dX10_apply_42 : decode cX10_apply 42 = .ok (.putfield 311, 3) := by decide +kernel
theorem dX10_apply_45 : decode cX10_apply 45 = .ok (.aload_n 0, 1) := by decide +kernel
theorem dX10_apply_46 : decode cX10_apply 46 = .ok (.iconst 0, 1) := by decide +kernel
theorem dX10_apply_47 : decode cX10_apply 47 = .ok (.putfield 158, 3) := by decide +kernel
theorem dX10_apply_50 : decode cX10_apply 50 = .ok (.iconst 0, 1) := by decide +kernel
theorem dX10_apply_51 : decode cX10_apply 51 = .ok (.istore 4, 2) := by decide +kernel
theorem dX10_apply_53 : decode cX10_apply 53 = .ok (.iconst 0, 1) := by decide +kernel
theorem dX10_apply_54 : decode cX10_apply 54 = .ok (.istore 5, 2) := by decide +kernel
theorem dX10_apply_56 : decode cX10_apply 56 = .ok (.iload 5, 2) := by decide +kernel
theorem dX10_apply_58 : decode cX10_apply 58 = .ok (.aload_n 0, 1) := by decide +kernel
theorem dX10_apply_59 : decode cX10_apply 59 = .ok (.getfield 302, 3) := by decide +kernel
theorem dX10_apply_62 : decode cX10_apply 62 = .ok (.if_icmp .ge 81, 3) := by decide +kernel
theorem dX10_apply_65 : decode cX10_apply 65 = .ok (.aload_n 0, 1) := by decide +kernel
theorem dX10_apply_66 : decode cX10_apply 66 = .ok (.getfield 112, 3) := by decide +kernel
theorem dX10_apply_69 : decode cX10_apply 69 = .ok (.iconst 2, 1) := by decide +kernel
theorem dX10_apply_70 : decode cX10_apply 70 = .ok (.iload 5, 2) := by decide +kernel
theorem dX10_apply_72 : decode cX10_apply 72 = .ok (.imul, 1) := by decide +kernel
theorem dX10_apply_73 : decode cX10_apply 73 = .ok (.iconst (-1), 1) := by decide +kernel
theorem dX10_apply_74 : decode cX10_apply 74 = .ok (.iastore, 1) := by decide +kernel
theorem dX10_apply_75 : decode cX10_apply 75 = .ok (.aload_n 0, 1) := by decide +kernel
theorem dX10_apply_76 : decode cX10_apply 76 = .ok (.getfield 112, 3) := by decide +kernel
theorem dX10_apply_79 : decode cX10_apply 79 = .ok (.iconst 2, 1) := by decide +kernel
theorem dX10_apply_80 : decode cX10_apply 80 = .ok (.iload 5, 2) := by decide +kernel
theorem dX10_apply_82 : decode cX10_apply 82 = .ok (.imul, 1) := by decide +kernel
theorem dX10_apply_83 : decode cX10_apply 83 = .ok (.iconst 1, 1) := by decide +kernel
theorem dX10_apply_84 : decode cX10_apply 84 = .ok (.iadd, 1) := by decide +kernel
theorem dX10_apply_85 : decode cX10_apply 85 = .ok (.iconst (-1), 1) := by decide +kernel
theorem dX10_apply_86 : decode cX10_apply 86 = .ok (.iastore, 1) := by decide +kernel
theorem dX10_apply_87 : decode cX10_apply 87 = .ok (.iconst 0, 1) := by decide +kernel
theorem dX10_apply_88 : decode cX10_apply 88 = .ok (.istore 6, 2) := by decide +kernel
theorem dX10_apply_90 : decode cX10_apply 90 = .ok (.iconst 0, 1) := by decide +kernel
theorem dX10_apply_91 : decode cX10_apply 91 = .ok (.istore 7, 2) := by decide +kernel
theorem dX10_apply_93 : decode cX10_apply 93 = .ok (.iload 7, 2) := by decide +kernel
theorem dX10_apply_95 : decode cX10_apply 95 = .ok (.iload_n 2, 1) := by decide +kernel
theorem dX10_apply_96 : decode cX10_apply 96 = .ok (.if_icmp .gt 26, 3) := by decide +kernel
theorem dX10_apply_99 : decode cX10_apply 99 = .ok (.iload 6, 2) := by decide +kernel
theorem dX10_apply_101 : decode cX10_apply 101 = .ok (.ifCond .ne 21, 3) := by decide +kernel
theorem dX10_apply_104 : decode cX10_apply 104 = .ok (.aload_n 0, 1) := by decide +kernel
theorem dX10_apply_105 : decode cX10_apply 105 = .ok (.iload_n 1, 1) := by decide +kernel
theorem dX10_apply_106 : decode cX10_apply 106 = .ok (.iload 5, 2) := by decide +kernel
theorem dX10_apply_108 : decode cX10_apply 108 = .ok (.iload 7, 2) := by decide +kernel
theorem dX10_apply_110 : decode cX10_apply 110 = .ok (.iload_n 3, 1) := by decide +kernel
theorem dX10_apply_111 : decode cX10_apply 111 = .ok (.invokevirtual 321, 3) := by decide +kernel
theorem dX10_apply_114 : decode cX10_apply 114 = .ok (.istore 6, 2) := by decide +kernel
theorem dX10_apply_116 : decode cX10_apply 116 = .ok (.iinc 7 1, 3) := by decide +kernel
theorem dX10_apply_119 : decode cX10_apply 119 = .ok (.goto (-26), 3) := by decide +kernel
theorem dX10_apply_122 : decode cX10_apply 122 = .ok (.iload 4, 2) := by decide +kernel
theorem dX10_apply_124 : decode cX10_apply 124 = .ok (.iload 6, 2) := by decide +kernel
theorem dX10_apply_126 : decode cX10_apply 126 = .ok (.ifCond .eq 7, 3) := by decide +kernel
theorem dX10_apply_129 : decode cX10_apply 129 = .ok (.iconst 1, 1) := by decide +kernel
theorem dX10_apply_130 : decode cX10_apply 130 = .ok (.goto 4, 3) := by decide +kernel
theorem dX10_apply_133 : decode cX10_apply 133 = .ok (.iconst 0, 1) := by decide +kernel
theorem dX10_apply_134 : decode cX10_apply 134 = .ok (.iadd, 1) := by decide +kernel
theorem dX10_apply_135 : decode cX10_apply 135 = .ok (.istore 4, 2) := by decide +kernel
theorem dX10_apply_137 : decode cX10_apply 137 = .ok (.iinc 5 1, 3) := by decide +kernel
theorem dX10_apply_140 : decode cX10_apply 140 = .ok (.goto (-84), 3) := by decide +kernel
theorem dX10_apply_143 : decode cX10_apply 143 = .ok (.aload_n 0, 1) := by decide +kernel
theorem dX10_apply_144 : decode cX10_apply 144 = .ok (.iload_n 1, 1) := by decide +kernel
theorem dX10_apply_145 : decode cX10_apply 145 = .ok (.aload_n 0, 1) := by decide +kernel
theorem dX10_apply_146 : decode cX10_apply 146 = .ok (.getfield 308, 3) := by decide +kernel
theorem dX10_apply_149 : decode cX10_apply 149 = .ok (.aload_n 0, 1) := by decide +kernel
theorem dX10_apply_150 : decode cX10_apply 150 = .ok (.getfield 13, 3) := by decide +kernel
theorem dX10_apply_153 : decode cX10_apply 153 = .ok (.iload_n 1, 1) := by decide +kernel
theorem dX10_apply_154 : decode cX10_apply 154 = .ok (.iaload, 1) := by decide +kernel
theorem dX10_apply_155 : decode cX10_apply 155 = .ok (.invokevirtual 318, 3) := by decide +kernel
theorem dX10_apply_158 : decode cX10_apply 158 = .ok (.aload_n 0, 1) := by decide +kernel
theorem dX10_apply_159 : decode cX10_apply 159 = .ok (.getfield 158, 3) := by decide +kernel
theorem dX10_apply_162 : decode cX10_apply 162 = .ok (.bipush 24, 2) := by decide +kernel
theorem dX10_apply_164 : decode cX10_apply 164 = .ok (.if_icmp .le 9, 3) := by decide +kernel
theorem dX10_apply_167 : decode cX10_apply 167 = .ok (.aload_n 0, 1) := by decide +kernel
theorem dX10_apply_168 : decode cX10_apply 168 = .ok (.iconst 3, 1) := by decide +kernel
theorem dX10_apply_169 : decode cX10_apply 169 = .ok (.invokevirtual 130, 3) := by decide +kernel
theorem dX10_apply_172 : decode cX10_apply 172 = .ok (.ireturn, 1) := by decide +kernel
theorem dX10_apply_173 : decode cX10_apply 173 = .ok (.iconst 0, 1) := by decide +kernel
theorem dX10_apply_174 : decode cX10_apply 174 = .ok (.istore 5, 2) := by decide +kernel
theorem dX10_apply_176 : decode cX10_apply 176 = .ok (.iload 5, 2) := by decide +kernel
theorem dX10_apply_178 : decode cX10_apply 178 = .ok (.iconst 2, 1) := by decide +kernel
theorem dX10_apply_179 : decode cX10_apply 179 = .ok (.aload_n 0, 1) := by decide +kernel
theorem dX10_apply_180 : decode cX10_apply 180 = .ok (.getfield 302, 3) := by decide +kernel
theorem dX10_apply_183 : decode cX10_apply 183 = .ok (.imul, 1) := by decide +kernel
theorem dX10_apply_184 : decode cX10_apply 184 = .ok (.if_icmp .ge 23, 3) := by decide +kernel
theorem dX10_apply_187 : decode cX10_apply 187 = .ok (.aload_n 0, 1) := by decide +kernel
theorem dX10_apply_188 : decode cX10_apply 188 = .ok (.getfield 109, 3) := by decide +kernel
theorem dX10_apply_191 : decode cX10_apply 191 = .ok (.iload 5, 2) := by decide +kernel
theorem dX10_apply_193 : decode cX10_apply 193 = .ok (.aload_n 0, 1) := by decide +kernel
theorem dX10_apply_194 : decode cX10_apply 194 = .ok (.getfield 112, 3) := by decide +kernel
theorem dX10_apply_197 : decode cX10_apply 197 = .ok (.iload 5, 2) := by decide +kernel
theorem dX10_apply_199 : decode cX10_apply 199 = .ok (.iaload, 1) := by decide +kernel
theorem dX10_apply_200 : decode cX10_apply 200 = .ok (.iastore, 1) := by decide +kernel
theorem dX10_apply_201 : decode cX10_apply 201 = .ok (.iinc 5 1, 3) := by decide +kernel
theorem dX10_apply_204 : decode cX10_apply 204 = .ok (.goto (-28), 3) := by decide +kernel
theorem dX10_apply_207 : decode cX10_apply 207 = .ok (.aload_n 0, 1) := by decide +kernel
theorem dX10_apply_208 : decode cX10_apply 208 = .ok (.iconst 1, 1) := by decide +kernel
theorem dX10_apply_209 : decode cX10_apply 209 = .ok (.putfield 299, 3) := by decide +kernel
theorem dX10_apply_212 : decode cX10_apply 212 = .ok (.aload_n 0, 1) := by decide +kernel
theorem dX10_apply_213 : decode cX10_apply 213 = .ok (.iload_n 1, 1) := by decide +kernel
theorem dX10_apply_214 : decode cX10_apply 214 = .ok (.invokevirtual 134, 3) := by decide +kernel
theorem dX10_apply_217 : decode cX10_apply 217 = .ok (.aload_n 0, 1) := by decide +kernel
theorem dX10_apply_218 : decode cX10_apply 218 = .ok (.iload_n 1, 1) := by decide +kernel
theorem dX10_apply_219 : decode cX10_apply 219 = .ok (.aload_n 0, 1) := by decide +kernel
theorem dX10_apply_220 : decode cX10_apply 220 = .ok (.getfield 39, 3) := by decide +kernel
theorem dX10_apply_223 : decode cX10_apply 223 = .ok (.aload_n 0, 1) := by decide +kernel
theorem dX10_apply_224 : decode cX10_apply 224 = .ok (.getfield 158, 3) := by decide +kernel
theorem dX10_apply_227 : decode cX10_apply 227 = .ok (.invokevirtual 141, 3) := by decide +kernel
theorem dX10_apply_230 : decode cX10_apply 230 = .ok (.aload_n 0, 1) := by decide +kernel
theorem dX10_apply_231 : decode cX10_apply 231 = .ok (.iload 4, 2) := by decide +kernel
theorem dX10_apply_233 : decode cX10_apply 233 = .ok (.invokevirtual 138, 3) := by decide +kernel
theorem dX10_apply_236 : decode cX10_apply 236 = .ok (.ireturn, 1) := by decide +kernel
theorem dX10_outcome_0 : decode cX10_outcome 0 = .ok (.aload_n 0, 1) := by decide +kernel
theorem dX10_outcome_1 : decode cX10_outcome 1 = .ok (.getfield 299, 3) := by decide +kernel
theorem dX10_outcome_4 : decode cX10_outcome 4 = .ok (.ifCond .eq 17, 3) := by decide +kernel
theorem dX10_outcome_7 : decode cX10_outcome 7 = .ok (.iload_n 1, 1) := by decide +kernel
theorem dX10_outcome_8 : decode cX10_outcome 8 = .ok (.iconst 0, 1) := by decide +kernel
theorem dX10_outcome_9 : decode cX10_outcome 9 = .ok (.aload_n 0, 1) := by decide +kernel
theorem dX10_outcome_10 : decode cX10_outcome 10 = .ok (.getfield 302, 3) := by decide +kernel
theorem dX10_outcome_13 : decode cX10_outcome 13 = .ok (.iconst 1, 1) := by decide +kernel
theorem dX10_outcome_14 : decode cX10_outcome 14 = .ok (.isub, 1) := by decide +kernel
theorem dX10_outcome_15 : decode cX10_outcome 15 = .ok (.invokestatic 119, 3) := by decide +kernel
theorem dX10_outcome_18 : decode cX10_outcome 18 = .ok (.ifCond .ne 9, 3) := by decide +kernel
theorem dX10_outcome_21 : decode cX10_outcome 21 = .ok (.aload_n 0, 1) := by decide +kernel
theorem dX10_outcome_22 : decode cX10_outcome 22 = .ok (.iconst 1, 1) := by decide +kernel
theorem dX10_outcome_23 : decode cX10_outcome 23 = .ok (.invokevirtual 130, 3) := by decide +kernel
theorem dX10_outcome_26 : decode cX10_outcome 26 = .ok (.ireturn, 1) := by decide +kernel
theorem dX10_outcome_27 : decode cX10_outcome 27 = .ok (.iload_n 2, 1) := by decide +kernel
theorem dX10_outcome_28 : decode cX10_outcome 28 = .ok (.iconst 0, 1) := by decide +kernel
theorem dX10_outcome_29 : decode cX10_outcome 29 = .ok (.iconst 1, 1) := by decide +kernel
theorem dX10_outcome_30 : decode cX10_outcome 30 = .ok (.invokestatic 119, 3) := by decide +kernel
theorem dX10_outcome_33 : decode cX10_outcome 33 = .ok (.ifCond .eq 20, 3) := by decide +kernel
theorem dX10_outcome_36 : decode cX10_outcome 36 = .ok (.aload_n 0, 1) := by decide +kernel
theorem dX10_outcome_37 : decode cX10_outcome 37 = .ok (.aload_n 0, 1) := by decide +kernel
theorem dX10_outcome_38 : decode cX10_outcome 38 = .ok (.getfield 109, 3) := by decide +kernel
theorem dX10_outcome_41 : decode cX10_outcome 41 = .ok (.iconst 2, 1) := by decide +kernel
theorem dX10_outcome_42 : decode cX10_outcome 42 = .ok (.iload_n 1, 1) := by decide +kernel
theorem dX10_outcome_43 : decode cX10_outcome 43 = .ok (.imul, 1) := by decide +kernel
theorem dX10_outcome_44 : decode cX10_outcome 44 = .ok (.iload_n 2, 1) := by decide +kernel
theorem dX10_outcome_45 : decode cX10_outcome 45 = .ok (.iadd, 1) := by decide +kernel
theorem dX10_outcome_46 : decode cX10_outcome 46 = .ok (.iaload, 1) := by decide +kernel
theorem dX10_outcome_47 : decode cX10_outcome 47 = .ok (.invokevirtual 138, 3) := by decide +kernel
theorem dX10_outcome_50 : decode cX10_outcome 50 = .ok (.goto 8, 3) := by decide +kernel
theorem dX10_outcome_53 : decode cX10_outcome 53 = .ok (.aload_n 0, 1) := by decide +kernel
theorem dX10_outcome_54 : decode cX10_outcome 54 = .ok (.iconst 2, 1) := by decide +kernel
theorem dX10_outcome_55 : decode cX10_outcome 55 = .ok (.invokevirtual 130, 3) := by decide +kernel
theorem dX10_outcome_58 : decode cX10_outcome 58 = .ok (.ireturn, 1) := by decide +kernel
