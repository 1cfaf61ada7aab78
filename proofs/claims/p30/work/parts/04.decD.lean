theorem dL_cell_0 : decode cL_cell 0 = .ok (.iload_n 1, 1) := by decide +kernel
theorem dL_cell_1 : decode cL_cell 1 = .ok (.aload_n 0, 1) := by decide +kernel
theorem dL_cell_2 : decode cL_cell 2 = .ok (.arraylength, 1) := by decide +kernel
theorem dL_cell_3 : decode cL_cell 3 = .ok (.if_icmp .ge 9, 3) := by decide +kernel
theorem dL_cell_6 : decode cL_cell 6 = .ok (.aload_n 0, 1) := by decide +kernel
theorem dL_cell_7 : decode cL_cell 7 = .ok (.iload_n 1, 1) := by decide +kernel
theorem dL_cell_8 : decode cL_cell 8 = .ok (.iaload, 1) := by decide +kernel
theorem dL_cell_9 : decode cL_cell 9 = .ok (.goto 18, 3) := by decide +kernel
theorem dL_cell_12 : decode cL_cell 12 = .ok (.sipush 7919, 3) := by decide +kernel
theorem dL_cell_15 : decode cL_cell 15 = .ok (.iload_n 1, 1) := by decide +kernel
theorem dL_cell_16 : decode cL_cell 16 = .ok (.sipush 1831, 3) := by decide +kernel
theorem dL_cell_19 : decode cL_cell 19 = .ok (.iadd, 1) := by decide +kernel
theorem dL_cell_20 : decode cL_cell 20 = .ok (.imul, 1) := by decide +kernel
theorem dL_cell_21 : decode cL_cell 21 = .ok (.iload_n 1, 1) := by decide +kernel
theorem dL_cell_22 : decode cL_cell 22 = .ok (.sipush 4357, 3) := by decide +kernel
theorem dL_cell_25 : decode cL_cell 25 = .ok (.iadd, 1) := by decide +kernel
theorem dL_cell_26 : decode cL_cell 26 = .ok (.imul, 1) := by decide +kernel
theorem dL_cell_27 : decode cL_cell 27 = .ok (.ireturn, 1) := by decide +kernel
theorem dL_low_0 : decode cL_low 0 = .ok (.iload_n 0, 1) := by decide +kernel
theorem dL_low_1 : decode cL_low 1 = .ok (.ldc 7, 2) := by decide +kernel
theorem dL_low_3 : decode cL_low 3 = .ok (.iand, 1) := by decide +kernel
theorem dL_low_4 : decode cL_low 4 = .ok (.iload_n 1, 1) := by decide +kernel
theorem dL_low_5 : decode cL_low 5 = .ok (.irem, 1) := by decide +kernel
theorem dL_low_6 : decode cL_low 6 = .ok (.ireturn, 1) := by decide +kernel
theorem dL_does_0 : decode cL_does 0 = .ok (.iload_n 1, 1) := by decide +kernel
theorem dL_does_1 : decode cL_does 1 = .ok (.bipush 12, 2) := by decide +kernel
theorem dL_does_3 : decode cL_does 3 = .ok (.if_icmp .ge 18, 3) := by decide +kernel
theorem dL_does_6 : decode cL_does 6 = .ok (.aload_n 0, 1) := by decide +kernel
theorem dL_does_7 : decode cL_does 7 = .ok (.iload_n 1, 1) := by decide +kernel
theorem dL_does_8 : decode cL_does 8 = .ok (.iload_n 2, 1) := by decide +kernel
theorem dL_does_9 : decode cL_does 9 = .ok (.iload_n 3, 1) := by decide +kernel
theorem dL_does_10 : decode cL_does 10 = .ok (.iload 4, 2) := by decide +kernel
theorem dL_does_12 : decode cL_does 12 = .ok (.iload 5, 2) := by decide +kernel
theorem dL_does_14 : decode cL_does 14 = .ok (.invokestatic 8, 3) := by decide +kernel
theorem dL_does_17 : decode cL_does 17 = .ok (.i2l, 1) := by decide +kernel
theorem dL_does_18 : decode cL_does 18 = .ok (.goto 219, 3) := by decide +kernel
theorem dL_does_21 : decode cL_does 21 = .ok (.iload_n 1, 1) := by decide +kernel
theorem dL_does_22 : decode cL_does 22 = .ok (.bipush 12, 2) := by decide +kernel
theorem dL_does_24 : decode cL_does 24 = .ok (.if_icmp .ne 12, 3) := by decide +kernel
theorem dL_does_27 : decode cL_does 27 = .ok (.aload_n 0, 1) := by decide +kernel
theorem dL_does_28 : decode cL_does 28 = .ok (.iload_n 2, 1) := by decide +kernel
theorem dL_does_29 : decode cL_does 29 = .ok (.iload_n 3, 1) := by decide +kernel
theorem dL_does_30 : decode cL_does 30 = .ok (.invokevirtual 14, 3) := by decide +kernel
theorem dL_does_33 : decode cL_does 33 = .ok (.goto 204, 3) := by decide +kernel
theorem dL_does_36 : decode cL_does 36 = .ok (.iload_n 1, 1) := by decide +kernel
theorem dL_does_37 : decode cL_does 37 = .ok (.bipush 13, 2) := by decide +kernel
theorem dL_does_39 : decode cL_does 39 = .ok (.if_icmp .ne 11, 3) := by decide +kernel
theorem dL_does_42 : decode cL_does 42 = .ok (.aload_n 0, 1) := by decide +kernel
theorem dL_does_43 : decode cL_does 43 = .ok (.iload_n 2, 1) := by decide +kernel
theorem dL_does_44 : decode cL_does 44 = .ok (.invokevirtual 20, 3) := by decide +kernel
theorem dL_does_47 : decode cL_does 47 = .ok (.goto 190, 3) := by decide +kernel
theorem dL_does_50 : decode cL_does 50 = .ok (.iload_n 1, 1) := by decide +kernel
theorem dL_does_51 : decode cL_does 51 = .ok (.bipush 14, 2) := by decide +kernel
theorem dL_does_53 : decode cL_does 53 = .ok (.if_icmp .ne 17, 3) := by decide +kernel
theorem dL_does_56 : decode cL_does 56 = .ok (.aload_n 0, 1) := by decide +kernel
theorem dL_does_57 : decode cL_does 57 = .ok (.iload_n 2, 1) := by decide +kernel
theorem dL_does_58 : decode cL_does 58 = .ok (.iload_n 3, 1) := by decide +kernel
theorem dL_does_59 : decode cL_does 59 = .ok (.iload 4, 2) := by decide +kernel
theorem dL_does_61 : decode cL_does 61 = .ok (.iload 5, 2) := by decide +kernel
theorem dL_does_63 : decode cL_does 63 = .ok (.invokevirtual 24, 3) := by decide +kernel
theorem dL_does_66 : decode cL_does 66 = .ok (.i2l, 1) := by decide +kernel
theorem dL_does_67 : decode cL_does 67 = .ok (.goto 170, 3) := by decide +kernel
theorem dL_does_70 : decode cL_does 70 = .ok (.iload_n 1, 1) := by decide +kernel
theorem dL_does_71 : decode cL_does 71 = .ok (.bipush 15, 2) := by decide +kernel
theorem dL_does_73 : decode cL_does 73 = .ok (.if_icmp .ne 15, 3) := by decide +kernel
theorem dL_does_76 : decode cL_does 76 = .ok (.aload_n 0, 1) := by decide +kernel
theorem dL_does_77 : decode cL_does 77 = .ok (.iload_n 2, 1) := by decide +kernel
theorem dL_does_78 : decode cL_does 78 = .ok (.invokevirtual 28, 3) := by decide +kernel
theorem dL_does_81 : decode cL_does 81 = .ok (.invokestatic 32, 3) := by decide +kernel
theorem dL_does_84 : decode cL_does 84 = .ok (.i2l, 1) := by decide +kernel
theorem dL_does_85 : decode cL_does 85 = .ok (.goto 152, 3) := by decide +kernel
theorem dL_does_88 : decode cL_does 88 = .ok (.iload_n 1, 1) := by decide +kernel
theorem dL_does_89 : decode cL_does 89 = .ok (.bipush 16, 2) := by decide +kernel
theorem dL_does_91 : decode cL_does 91 = .ok (.if_icmp .ne 24, 3) := by decide +kernel
theorem dL_does_94 : decode cL_does 94 = .ok (.aload_n 0, 1) := by decide +kernel
theorem dL_does_95 : decode cL_does 95 = .ok (.iload_n 2, 1) := by decide +kernel
theorem dL_does_96 : decode cL_does 96 = .ok (.iload_n 3, 1) := by decide +kernel
theorem dL_does_97 : decode cL_does 97 = .ok (.iload 4, 2) := by decide +kernel
theorem dL_does_99 : decode cL_does 99 = .ok (.iconst 1, 1) := by decide +kernel
theorem dL_does_100 : decode cL_does 100 = .ok (.if_icmp .ne 7, 3) := by decide +kernel
theorem dL_does_103 : decode cL_does 103 = .ok (.iconst 1, 1) := by decide +kernel
theorem dL_does_104 : decode cL_does 104 = .ok (.goto 4, 3) := by decide +kernel
theorem dL_does_107 : decode cL_does 107 = .ok (.iconst 0, 1) := by decide +kernel
theorem dL_does_108 : decode cL_does 108 = .ok (.invokevirtual 36, 3) := by decide +kernel
theorem dL_does_111 : decode cL_does 111 = .ok (.i2l, 1) := by decide +kernel
theorem dL_does_112 : decode cL_does 112 = .ok (.goto 125, 3) := by decide +kernel
theorem dL_does_115 : decode cL_does 115 = .ok (.iload_n 1, 1) := by decide +kernel
theorem dL_does_116 : decode cL_does 116 = .ok (.bipush 17, 2) := by decide +kernel
theorem dL_does_118 : decode cL_does 118 = .ok (.if_icmp .ne 15, 3) := by decide +kernel
theorem dL_does_121 : decode cL_does 121 = .ok (.aload_n 0, 1) := by decide +kernel
theorem dL_does_122 : decode cL_does 122 = .ok (.iload_n 2, 1) := by decide +kernel
theorem dL_does_123 : decode cL_does 123 = .ok (.invokevirtual 40, 3) := by decide +kernel
theorem dL_does_126 : decode cL_does 126 = .ok (.invokestatic 32, 3) := by decide +kernel
theorem dL_does_129 : decode cL_does 129 = .ok (.i2l, 1) := by decide +kernel
theorem dL_does_130 : decode cL_does 130 = .ok (.goto 107, 3) := by decide +kernel
theorem dL_does_133 : decode cL_does 133 = .ok (.iload_n 1, 1) := by decide +kernel
theorem dL_does_134 : decode cL_does 134 = .ok (.bipush 18, 2) := by decide +kernel
theorem dL_does_136 : decode cL_does 136 = .ok (.if_icmp .ne 15, 3) := by decide +kernel
theorem dL_does_139 : decode cL_does 139 = .ok (.aload_n 0, 1) := by decide +kernel
theorem dL_does_140 : decode cL_does 140 = .ok (.iload_n 2, 1) := by decide +kernel
theorem dL_does_141 : decode cL_does 141 = .ok (.invokevirtual 43, 3) := by decide +kernel
theorem dL_does_144 : decode cL_does 144 = .ok (.invokestatic 32, 3) := by decide +kernel
theorem dL_does_147 : decode cL_does 147 = .ok (.i2l, 1) := by decide +kernel
theorem dL_does_148 : decode cL_does 148 = .ok (.goto 89, 3) := by decide +kernel
theorem dL_does_151 : decode cL_does 151 = .ok (.iload_n 1, 1) := by decide +kernel
theorem dL_does_152 : decode cL_does 152 = .ok (.bipush 19, 2) := by decide +kernel
theorem dL_does_154 : decode cL_does 154 = .ok (.if_icmp .ne 11, 3) := by decide +kernel
theorem dL_does_157 : decode cL_does 157 = .ok (.aload_n 0, 1) := by decide +kernel
theorem dL_does_158 : decode cL_does 158 = .ok (.iload_n 2, 1) := by decide +kernel
theorem dL_does_159 : decode cL_does 159 = .ok (.invokevirtual 46, 3) := by decide +kernel
theorem dL_does_162 : decode cL_does 162 = .ok (.goto 75, 3) := by decide +kernel
theorem dL_does_165 : decode cL_does 165 = .ok (.iload_n 1, 1) := by decide +kernel
theorem dL_does_166 : decode cL_does 166 = .ok (.bipush 20, 2) := by decide +kernel
theorem dL_does_168 : decode cL_does 168 = .ok (.if_icmp .ne 16, 3) := by decide +kernel
theorem dL_does_171 : decode cL_does 171 = .ok (.aload_n 0, 1) := by decide +kernel
theorem dL_does_172 : decode cL_does 172 = .ok (.iload_n 2, 1) := by decide +kernel
theorem dL_does_173 : decode cL_does 173 = .ok (.iload_n 3, 1) := by decide +kernel
theorem dL_does_174 : decode cL_does 174 = .ok (.invokevirtual 49, 3) := by decide +kernel
theorem dL_does_177 : decode cL_does 177 = .ok (.invokestatic 32, 3) := by decide +kernel
theorem dL_does_180 : decode cL_does 180 = .ok (.i2l, 1) := by decide +kernel
theorem dL_does_181 : decode cL_does 181 = .ok (.goto 56, 3) := by decide +kernel
theorem dL_does_184 : decode cL_does 184 = .ok (.iload_n 1, 1) := by decide +kernel
theorem dL_does_185 : decode cL_does 185 = .ok (.bipush 21, 2) := by decide +kernel
theorem dL_does_187 : decode cL_does 187 = .ok (.if_icmp .ne 12, 3) := by decide +kernel
theorem dL_does_190 : decode cL_does 190 = .ok (.aload_n 0, 1) := by decide +kernel
theorem dL_does_191 : decode cL_does 191 = .ok (.iload_n 2, 1) := by decide +kernel
theorem dL_does_192 : decode cL_does 192 = .ok (.iload_n 3, 1) := by decide +kernel
theorem dL_does_193 : decode cL_does 193 = .ok (.invokevirtual 53, 3) := by decide +kernel
theorem dL_does_196 : decode cL_does 196 = .ok (.goto 41, 3) := by decide +kernel
theorem dL_does_199 : decode cL_does 199 = .ok (.iload_n 1, 1) := by decide +kernel
theorem dL_does_200 : decode cL_does 200 = .ok (.bipush 22, 2) := by decide +kernel
theorem dL_does_202 : decode cL_does 202 = .ok (.if_icmp .ne 13, 3) := by decide +kernel
theorem dL_does_205 : decode cL_does 205 = .ok (.aload_n 0, 1) := by decide +kernel
theorem dL_does_206 : decode cL_does 206 = .ok (.iload_n 2, 1) := by decide +kernel
theorem dL_does_207 : decode cL_does 207 = .ok (.iload_n 3, 1) := by decide +kernel
theorem dL_does_208 : decode cL_does 208 = .ok (.invokevirtual 56, 3) := by decide +kernel
theorem dL_does_211 : decode cL_does 211 = .ok (.i2l, 1) := by decide +kernel
theorem dL_does_212 : decode cL_does 212 = .ok (.goto 25, 3) := by decide +kernel
theorem dL_does_215 : decode cL_does 215 = .ok (.iload_n 1, 1) := by decide +kernel
theorem dL_does_216 : decode cL_does 216 = .ok (.bipush 23, 2) := by decide +kernel
theorem dL_does_218 : decode cL_does 218 = .ok (.if_icmp .ne 13, 3) := by decide +kernel
theorem dL_does_221 : decode cL_does 221 = .ok (.aload_n 0, 1) := by decide +kernel
theorem dL_does_222 : decode cL_does 222 = .ok (.iload_n 2, 1) := by decide +kernel
theorem dL_does_223 : decode cL_does 223 = .ok (.iload_n 3, 1) := by decide +kernel
theorem dL_does_224 : decode cL_does 224 = .ok (.invokevirtual 60, 3) := by decide +kernel
theorem dL_does_227 : decode cL_does 227 = .ok (.i2l, 1) := by decide +kernel
theorem dL_does_228 : decode cL_does 228 = .ok (.goto 9, 3) := by decide +kernel
theorem dL_does_231 : decode cL_does 231 = .ok (.aload_n 0, 1) := by decide +kernel
theorem dL_does_232 : decode cL_does 232 = .ok (.iload_n 2, 1) := by decide +kernel
theorem dL_does_233 : decode cL_does 233 = .ok (.invokevirtual 63, 3) := by decide +kernel
theorem dL_does_236 : decode cL_does 236 = .ok (.i2l, 1) := by decide +kernel
theorem dL_does_237 : decode cL_does 237 = .ok (.lreturn, 1) := by decide +kernel
theorem dL_does_238 : decode cL_does 238 = .ok (.astore 6, 2) := by decide +kernel
theorem dL_does_240 : decode cL_does 240 = .ok (.ldc2_w 69, 3) := by decide +kernel
theorem dL_does_243 : decode cL_does 243 = .ok (.lreturn, 1) := by decide +kernel
theorem dL_does_244 : decode cL_does 244 = .ok (.astore 6, 2) := by decide +kernel
theorem dL_does_246 : decode cL_does 246 = .ok (.ldc2_w 69, 3) := by decide +kernel
theorem dL_does_249 : decode cL_does 249 = .ok (.lreturn, 1) := by decide +kernel
theorem dL_does_250 : decode cL_does 250 = .ok (.astore 6, 2) := by decide +kernel
theorem dL_does_252 : decode cL_does 252 = .ok (.ldc2_w 69, 3) := by decide +kernel
theorem dL_does_255 : decode cL_does 255 = .ok (.lreturn, 1) := by decide +kernel
theorem dL_early_0 : decode cL_early 0 = .ok (.iload_n 1, 1) := by decide +kernel
theorem dL_early_1 : decode cL_early 1 = .ok (.ifCond .ne 10, 3) := by decide +kernel
theorem dL_early_4 : decode cL_early 4 = .ok (.aload_n 0, 1) := by decide +kernel
theorem dL_early_5 : decode cL_early 5 = .ok (.invokevirtual 75, 3) := by decide +kernel
theorem dL_early_8 : decode cL_early 8 = .ok (.goto 206, 3) := by decide +kernel
theorem dL_early_11 : decode cL_early 11 = .ok (.iload_n 1, 1) := by decide +kernel
theorem dL_early_12 : decode cL_early 12 = .ok (.iconst 1, 1) := by decide +kernel
theorem dL_early_13 : decode cL_early 13 = .ok (.if_icmp .ne 24, 3) := by decide +kernel
theorem dL_early_16 : decode cL_early 16 = .ok (.aload_n 0, 1) := by decide +kernel
theorem dL_early_17 : decode cL_early 17 = .ok (.iload_n 2, 1) := by decide +kernel
theorem dL_early_18 : decode cL_early 18 = .ok (.iload_n 3, 1) := by decide +kernel
theorem dL_early_19 : decode cL_early 19 = .ok (.iconst 1, 1) := by decide +kernel
theorem dL_early_20 : decode cL_early 20 = .ok (.if_icmp .ne 7, 3) := by decide +kernel
theorem dL_early_23 : decode cL_early 23 = .ok (.iconst 1, 1) := by decide +kernel
theorem dL_early_24 : decode cL_early 24 = .ok (.goto 4, 3) := by decide +kernel
theorem dL_early_27 : decode cL_early 27 = .ok (.iconst 0, 1) := by decide +kernel
theorem dL_early_28 : decode cL_early 28 = .ok (.invokevirtual 79, 3) := by decide +kernel
theorem dL_early_31 : decode cL_early 31 = .ok (.invokestatic 32, 3) := by decide +kernel
theorem dL_early_34 : decode cL_early 34 = .ok (.goto 180, 3) := by decide +kernel
theorem dL_early_37 : decode cL_early 37 = .ok (.iload_n 1, 1) := by decide +kernel
theorem dL_early_38 : decode cL_early 38 = .ok (.iconst 2, 1) := by decide +kernel
theorem dL_early_39 : decode cL_early 39 = .ok (.if_icmp .ne 14, 3) := by decide +kernel
theorem dL_early_42 : decode cL_early 42 = .ok (.aload_n 0, 1) := by decide +kernel
theorem dL_early_43 : decode cL_early 43 = .ok (.iload_n 2, 1) := by decide +kernel
theorem dL_early_44 : decode cL_early 44 = .ok (.iload_n 3, 1) := by decide +kernel
theorem dL_early_45 : decode cL_early 45 = .ok (.iload 4, 2) := by decide +kernel
theorem dL_early_47 : decode cL_early 47 = .ok (.invokevirtual 83, 3) := by decide +kernel
theorem dL_early_50 : decode cL_early 50 = .ok (.goto 164, 3) := by decide +kernel
theorem dL_early_53 : decode cL_early 53 = .ok (.iload_n 1, 1) := by decide +kernel
theorem dL_early_54 : decode cL_early 54 = .ok (.iconst 3, 1) := by decide +kernel
theorem dL_early_55 : decode cL_early 55 = .ok (.if_icmp .ne 12, 3) := by decide +kernel
theorem dL_early_58 : decode cL_early 58 = .ok (.aload_n 0, 1) := by decide +kernel
theorem dL_early_59 : decode cL_early 59 = .ok (.iload_n 2, 1) := by decide +kernel
theorem dL_early_60 : decode cL_early 60 = .ok (.iload_n 3, 1) := by decide +kernel
theorem dL_early_61 : decode cL_early 61 = .ok (.invokevirtual 87, 3) := by decide +kernel
theorem dL_early_64 : decode cL_early 64 = .ok (.goto 150, 3) := by decide +kernel
theorem dL_early_67 : decode cL_early 67 = .ok (.iload_n 1, 1) := by decide +kernel
theorem dL_early_68 : decode cL_early 68 = .ok (.iconst 4, 1) := by decide +kernel
theorem dL_early_69 : decode cL_early 69 = .ok (.if_icmp .ne 14, 3) := by decide +kernel
theorem dL_early_72 : decode cL_early 72 = .ok (.aload_n 0, 1) := by decide +kernel
theorem dL_early_73 : decode cL_early 73 = .ok (.iload_n 2, 1) := by decide +kernel
theorem dL_early_74 : decode cL_early 74 = .ok (.iload_n 3, 1) := by decide +kernel
theorem dL_early_75 : decode cL_early 75 = .ok (.iload 4, 2) := by decide +kernel
theorem dL_early_77 : decode cL_early 77 = .ok (.invokevirtual 90, 3) := by decide +kernel
theorem dL_early_80 : decode cL_early 80 = .ok (.goto 134, 3) := by decide +kernel
theorem dL_early_83 : decode cL_early 83 = .ok (.iload_n 1, 1) := by decide +kernel
theorem dL_early_84 : decode cL_early 84 = .ok (.iconst 5, 1) := by decide +kernel
theorem dL_early_85 : decode cL_early 85 = .ok (.if_icmp .ne 16, 3) := by decide +kernel
theorem dL_early_88 : decode cL_early 88 = .ok (.aload_n 0, 1) := by decide +kernel
theorem dL_early_89 : decode cL_early 89 = .ok (.iload_n 2, 1) := by decide +kernel
theorem dL_early_90 : decode cL_early 90 = .ok (.iload_n 3, 1) := by decide +kernel
theorem dL_early_91 : decode cL_early 91 = .ok (.iload 4, 2) := by decide +kernel
theorem dL_early_93 : decode cL_early 93 = .ok (.iload 5, 2) := by decide +kernel
theorem dL_early_95 : decode cL_early 95 = .ok (.invokevirtual 93, 3) := by decide +kernel
theorem dL_early_98 : decode cL_early 98 = .ok (.goto 116, 3) := by decide +kernel
theorem dL_early_101 : decode cL_early 101 = .ok (.iload_n 1, 1) := by decide +kernel
theorem dL_early_102 : decode cL_early 102 = .ok (.bipush 6, 2) := by decide +kernel
theorem dL_early_104 : decode cL_early 104 = .ok (.if_icmp .ne 27, 3) := by decide +kernel
theorem dL_early_107 : decode cL_early 107 = .ok (.aload_n 0, 1) := by decide +kernel
theorem dL_early_108 : decode cL_early 108 = .ok (.iload 5, 2) := by decide +kernel
theorem dL_early_110 : decode cL_early 110 = .ok (.iconst 1, 1) := by decide +kernel
theorem dL_early_111 : decode cL_early 111 = .ok (.if_icmp .ne 7, 3) := by decide +kernel
theorem dL_early_114 : decode cL_early 114 = .ok (.iconst 1, 1) := by decide +kernel
theorem dL_early_115 : decode cL_early 115 = .ok (.goto 4, 3) := by decide +kernel
theorem dL_early_118 : decode cL_early 118 = .ok (.iconst 0, 1) := by decide +kernel
theorem dL_early_119 : decode cL_early 119 = .ok (.iload_n 2, 1) := by decide +kernel
theorem dL_early_120 : decode cL_early 120 = .ok (.iload_n 3, 1) := by decide +kernel
theorem dL_early_121 : decode cL_early 121 = .ok (.iload 4, 2) := by decide +kernel
theorem dL_early_123 : decode cL_early 123 = .ok (.iconst 1, 1) := by decide +kernel
theorem dL_early_124 : decode cL_early 124 = .ok (.isub, 1) := by decide +kernel
theorem dL_early_125 : decode cL_early 125 = .ok (.invokevirtual 96, 3) := by decide +kernel
theorem dL_early_128 : decode cL_early 128 = .ok (.goto 86, 3) := by decide +kernel
theorem dL_early_131 : decode cL_early 131 = .ok (.iload_n 1, 1) := by decide +kernel
theorem dL_early_132 : decode cL_early 132 = .ok (.bipush 7, 2) := by decide +kernel
theorem dL_early_134 : decode cL_early 134 = .ok (.if_icmp .ne 16, 3) := by decide +kernel
theorem dL_early_137 : decode cL_early 137 = .ok (.aload_n 0, 1) := by decide +kernel
theorem dL_early_138 : decode cL_early 138 = .ok (.iload_n 2, 1) := by decide +kernel
theorem dL_early_139 : decode cL_early 139 = .ok (.iload_n 3, 1) := by decide +kernel
theorem dL_early_140 : decode cL_early 140 = .ok (.iload 4, 2) := by decide +kernel
theorem dL_early_142 : decode cL_early 142 = .ok (.iload 5, 2) := by decide +kernel
theorem dL_early_144 : decode cL_early 144 = .ok (.invokevirtual 100, 3) := by decide +kernel
theorem dL_early_147 : decode cL_early 147 = .ok (.goto 67, 3) := by decide +kernel
theorem dL_early_150 : decode cL_early 150 = .ok (.iload_n 1, 1) := by decide +kernel
theorem dL_early_151 : decode cL_early 151 = .ok (.bipush 8, 2) := by decide +kernel
theorem dL_early_153 : decode cL_early 153 = .ok (.if_icmp .ne 11, 3) := by decide +kernel
theorem dL_early_156 : decode cL_early 156 = .ok (.aload_n 0, 1) := by decide +kernel
theorem dL_early_157 : decode cL_early 157 = .ok (.iload_n 2, 1) := by decide +kernel
theorem dL_early_158 : decode cL_early 158 = .ok (.invokevirtual 103, 3) := by decide +kernel
theorem dL_early_161 : decode cL_early 161 = .ok (.goto 53, 3) := by decide +kernel
theorem dL_early_164 : decode cL_early 164 = .ok (.iload_n 1, 1) := by decide +kernel
theorem dL_early_165 : decode cL_early 165 = .ok (.bipush 9, 2) := by decide +kernel
theorem dL_early_167 : decode cL_early 167 = .ok (.if_icmp .ne 12, 3) := by decide +kernel
theorem dL_early_170 : decode cL_early 170 = .ok (.aload_n 0, 1) := by decide +kernel
theorem dL_early_171 : decode cL_early 171 = .ok (.iload_n 2, 1) := by decide +kernel
theorem dL_early_172 : decode cL_early 172 = .ok (.iload_n 3, 1) := by decide +kernel
theorem dL_early_173 : decode cL_early 173 = .ok (.invokevirtual 106, 3) := by decide +kernel
theorem dL_early_176 : decode cL_early 176 = .ok (.goto 38, 3) := by decide +kernel
theorem dL_early_179 : decode cL_early 179 = .ok (.iload_n 1, 1) := by decide +kernel
theorem dL_early_180 : decode cL_early 180 = .ok (.bipush 10, 2) := by decide +kernel
theorem dL_early_182 : decode cL_early 182 = .ok (.if_icmp .ne 14, 3) := by decide +kernel
theorem dL_early_185 : decode cL_early 185 = .ok (.aload_n 0, 1) := by decide +kernel
theorem dL_early_186 : decode cL_early 186 = .ok (.iload_n 2, 1) := by decide +kernel
theorem dL_early_187 : decode cL_early 187 = .ok (.iload_n 3, 1) := by decide +kernel
theorem dL_early_188 : decode cL_early 188 = .ok (.iload 4, 2) := by decide +kernel
theorem dL_early_190 : decode cL_early 190 = .ok (.invokevirtual 109, 3) := by decide +kernel
theorem dL_early_193 : decode cL_early 193 = .ok (.goto 21, 3) := by decide +kernel
theorem dL_early_196 : decode cL_early 196 = .ok (.aload_n 0, 1) := by decide +kernel
theorem dL_early_197 : decode cL_early 197 = .ok (.iload_n 2, 1) := by decide +kernel
theorem dL_early_198 : decode cL_early 198 = .ok (.iload_n 3, 1) := by decide +kernel
theorem dL_early_199 : decode cL_early 199 = .ok (.iconst 1, 1) := by decide +kernel
theorem dL_early_200 : decode cL_early 200 = .ok (.if_icmp .ne 7, 3) := by decide +kernel
theorem dL_early_203 : decode cL_early 203 = .ok (.iconst 1, 1) := by decide +kernel
theorem dL_early_204 : decode cL_early 204 = .ok (.goto 4, 3) := by decide +kernel
theorem dL_early_207 : decode cL_early 207 = .ok (.iconst 0, 1) := by decide +kernel
theorem dL_early_208 : decode cL_early 208 = .ok (.invokevirtual 112, 3) := by decide +kernel
theorem dL_early_211 : decode cL_early 211 = .ok (.invokestatic 32, 3) := by decide +kernel
theorem dL_early_214 : decode cL_early 214 = .ok (.ireturn, 1) := by decide +kernel
theorem dL_bit_0 : decode cL_bit 0 = .ok (.iload_n 0, 1) := by decide +kernel
theorem dL_bit_1 : decode cL_bit 1 = .ok (.ifCond .eq 7, 3) := by decide +kernel
theorem dL_bit_4 : decode cL_bit 4 = .ok (.iconst 1, 1) := by decide +kernel
theorem dL_bit_5 : decode cL_bit 5 = .ok (.goto 4, 3) := by decide +kernel
theorem dL_bit_8 : decode cL_bit 8 = .ok (.iconst 0, 1) := by decide +kernel
theorem dL_bit_9 : decode cL_bit 9 = .ok (.ireturn, 1) := by decide +kernel
theorem dL_act_0 : decode cL_act 0 = .ok (.iload_n 1, 1) := by decide +kernel
theorem dL_act_1 : decode cL_act 1 = .ok (.bipush 18, 2) := by decide +kernel
theorem dL_act_3 : decode cL_act 3 = .ok (.ishr, 1) := by decide +kernel
theorem dL_act_4 : decode cL_act 4 = .ok (.bipush 7, 2) := by decide +kernel
theorem dL_act_6 : decode cL_act 6 = .ok (.iand, 1) := by decide +kernel
theorem dL_act_7 : decode cL_act 7 = .ok (.bipush 7, 2) := by decide +kernel
theorem dL_act_9 : decode cL_act 9 = .ok (.if_icmp .ne 7, 3) := by decide +kernel
theorem dL_act_12 : decode cL_act 12 = .ok (.iconst 1, 1) := by decide +kernel
theorem dL_act_13 : decode cL_act 13 = .ok (.goto 4, 3) := by decide +kernel
theorem dL_act_16 : decode cL_act 16 = .ok (.iconst 0, 1) := by decide +kernel
theorem dL_act_17 : decode cL_act 17 = .ok (.istore_n 2, 1) := by decide +kernel
theorem dL_act_18 : decode cL_act 18 = .ok (.iload_n 1, 1) := by decide +kernel
theorem dL_act_19 : decode cL_act 19 = .ok (.bipush 70, 2) := by decide +kernel
theorem dL_act_21 : decode cL_act 21 = .ok (.invokestatic 115, 3) := by decide +kernel
theorem dL_act_24 : decode cL_act 24 = .ok (.istore_n 3, 1) := by decide +kernel
theorem dL_act_25 : decode cL_act 25 = .ok (.iload_n 1, 1) := by decide +kernel
theorem dL_act_26 : decode cL_act 26 = .ok (.bipush 6, 2) := by decide +kernel
theorem dL_act_28 : decode cL_act 28 = .ok (.ishr, 1) := by decide +kernel
theorem dL_act_29 : decode cL_act 29 = .ok (.istore 4, 2) := by decide +kernel
theorem dL_act_31 : decode cL_act 31 = .ok (.iload_n 2, 1) := by decide +kernel
theorem dL_act_32 : decode cL_act 32 = .ok (.ifCond .eq 15, 3) := by decide +kernel
theorem dL_act_35 : decode cL_act 35 = .ok (.iload 4, 2) := by decide +kernel
theorem dL_act_37 : decode cL_act 37 = .ok (.bipush 43, 2) := by decide +kernel
theorem dL_act_39 : decode cL_act 39 = .ok (.invokestatic 115, 3) := by decide +kernel
theorem dL_act_42 : decode cL_act 42 = .ok (.iconst 1, 1) := by decide +kernel
theorem dL_act_43 : decode cL_act 43 = .ok (.isub, 1) := by decide +kernel
theorem dL_act_44 : decode cL_act 44 = .ok (.goto 10, 3) := by decide +kernel
theorem dL_act_47 : decode cL_act 47 = .ok (.iload 4, 2) := by decide +kernel
theorem dL_act_49 : decode cL_act 49 = .ok (.bipush 12, 2) := by decide +kernel
theorem dL_act_51 : decode cL_act 51 = .ok (.invokestatic 115, 3) := by decide +kernel
theorem dL_act_54 : decode cL_act 54 = .ok (.istore 5, 2) := by decide +kernel
theorem dL_act_56 : decode cL_act 56 = .ok (.iload_n 2, 1) := by decide +kernel
theorem dL_act_57 : decode cL_act 57 = .ok (.ifCond .eq 17, 3) := by decide +kernel
theorem dL_act_60 : decode cL_act 60 = .ok (.iload 4, 2) := by decide +kernel
theorem dL_act_62 : decode cL_act 62 = .ok (.iconst 3, 1) := by decide +kernel
theorem dL_act_63 : decode cL_act 63 = .ok (.ishr, 1) := by decide +kernel
theorem dL_act_64 : decode cL_act 64 = .ok (.bipush 43, 2) := by decide +kernel
theorem dL_act_66 : decode cL_act 66 = .ok (.invokestatic 115, 3) := by decide +kernel
theorem dL_act_69 : decode cL_act 69 = .ok (.iconst 1, 1) := by decide +kernel
theorem dL_act_70 : decode cL_act 70 = .ok (.isub, 1) := by decide +kernel
theorem dL_act_71 : decode cL_act 71 = .ok (.goto 12, 3) := by decide +kernel
theorem dL_act_74 : decode cL_act 74 = .ok (.iload 4, 2) := by decide +kernel
theorem dL_act_76 : decode cL_act 76 = .ok (.iconst 3, 1) := by decide +kernel
theorem dL_act_77 : decode cL_act 77 = .ok (.ishr, 1) := by decide +kernel
theorem dL_act_78 : decode cL_act 78 = .ok (.bipush 12, 2) := by decide +kernel
theorem dL_act_80 : decode cL_act 80 = .ok (.invokestatic 115, 3) := by decide +kernel
theorem dL_act_83 : decode cL_act 83 = .ok (.istore 6, 2) := by decide +kernel
theorem dL_act_85 : decode cL_act 85 = .ok (.iload_n 2, 1) := by decide +kernel
theorem dL_act_86 : decode cL_act 86 = .ok (.ifCond .eq 17, 3) := by decide +kernel
theorem dL_act_89 : decode cL_act 89 = .ok (.iload 4, 2) := by decide +kernel
theorem dL_act_91 : decode cL_act 91 = .ok (.iconst 2, 1) := by decide +kernel
theorem dL_act_92 : decode cL_act 92 = .ok (.ishr, 1) := by decide +kernel
theorem dL_act_93 : decode cL_act 93 = .ok (.bipush 8, 2) := by decide +kernel
theorem dL_act_95 : decode cL_act 95 = .ok (.invokestatic 115, 3) := by decide +kernel
theorem dL_act_98 : decode cL_act 98 = .ok (.iconst 1, 1) := by decide +kernel
theorem dL_act_99 : decode cL_act 99 = .ok (.isub, 1) := by decide +kernel
theorem dL_act_100 : decode cL_act 100 = .ok (.goto 11, 3) := by decide +kernel
theorem dL_act_103 : decode cL_act 103 = .ok (.iload 4, 2) := by decide +kernel
theorem dL_act_105 : decode cL_act 105 = .ok (.iconst 2, 1) := by decide +kernel
theorem dL_act_106 : decode cL_act 106 = .ok (.ishr, 1) := by decide +kernel
theorem dL_act_107 : decode cL_act 107 = .ok (.iconst 4, 1) := by decide +kernel
theorem dL_act_108 : decode cL_act 108 = .ok (.invokestatic 115, 3) := by decide +kernel
theorem dL_act_111 : decode cL_act 111 = .ok (.istore 7, 2) := by decide +kernel
theorem dL_act_113 : decode cL_act 113 = .ok (.iload_n 2, 1) := by decide +kernel
theorem dL_act_114 : decode cL_act 114 = .ok (.ifCond .eq 17, 3) := by decide +kernel
theorem dL_act_117 : decode cL_act 117 = .ok (.iload 4, 2) := by decide +kernel
theorem dL_act_119 : decode cL_act 119 = .ok (.iconst 2, 1) := by decide +kernel
theorem dL_act_120 : decode cL_act 120 = .ok (.ishr, 1) := by decide +kernel
theorem dL_act_121 : decode cL_act 121 = .ok (.bipush 9, 2) := by decide +kernel
theorem dL_act_123 : decode cL_act 123 = .ok (.invokestatic 115, 3) := by decide +kernel
theorem dL_act_126 : decode cL_act 126 = .ok (.iconst 2, 1) := by decide +kernel
theorem dL_act_127 : decode cL_act 127 = .ok (.isub, 1) := by decide +kernel
theorem dL_act_128 : decode cL_act 128 = .ok (.goto 13, 3) := by decide +kernel
theorem dL_act_131 : decode cL_act 131 = .ok (.iload 4, 2) := by decide +kernel
theorem dL_act_133 : decode cL_act 133 = .ok (.iconst 2, 1) := by decide +kernel
theorem dL_act_134 : decode cL_act 134 = .ok (.ishr, 1) := by decide +kernel
theorem dL_act_135 : decode cL_act 135 = .ok (.iconst 5, 1) := by decide +kernel
theorem dL_act_136 : decode cL_act 136 = .ok (.invokestatic 115, 3) := by decide +kernel
theorem dL_act_139 : decode cL_act 139 = .ok (.iconst 1, 1) := by decide +kernel
theorem dL_act_140 : decode cL_act 140 = .ok (.isub, 1) := by decide +kernel
theorem dL_act_141 : decode cL_act 141 = .ok (.istore 8, 2) := by decide +kernel
theorem dL_act_143 : decode cL_act 143 = .ok (.iload_n 3, 1) := by decide +kernel
theorem dL_act_144 : decode cL_act 144 = .ok (.bipush 8, 2) := by decide +kernel
theorem dL_act_146 : decode cL_act 146 = .ok (.if_icmp .ge 249, 3) := by decide +kernel
theorem dL_act_149 : decode cL_act 149 = .ok (.iload_n 2, 1) := by decide +kernel
theorem dL_act_150 : decode cL_act 150 = .ok (.ifCond .eq 17, 3) := by decide +kernel
theorem dL_act_153 : decode cL_act 153 = .ok (.iload 4, 2) := by decide +kernel
theorem dL_act_155 : decode cL_act 155 = .ok (.iconst 3, 1) := by decide +kernel
theorem dL_act_156 : decode cL_act 156 = .ok (.ishr, 1) := by decide +kernel
theorem dL_act_157 : decode cL_act 157 = .ok (.bipush 9, 2) := by decide +kernel
theorem dL_act_159 : decode cL_act 159 = .ok (.invokestatic 115, 3) := by decide +kernel
theorem dL_act_162 : decode cL_act 162 = .ok (.iconst 1, 1) := by decide +kernel
theorem dL_act_163 : decode cL_act 163 = .ok (.isub, 1) := by decide +kernel
theorem dL_act_164 : decode cL_act 164 = .ok (.goto 12, 3) := by decide +kernel
theorem dL_act_167 : decode cL_act 167 = .ok (.iload 4, 2) := by decide +kernel
theorem dL_act_169 : decode cL_act 169 = .ok (.iconst 3, 1) := by decide +kernel
theorem dL_act_170 : decode cL_act 170 = .ok (.ishr, 1) := by decide +kernel
theorem dL_act_171 : decode cL_act 171 = .ok (.bipush 7, 2) := by decide +kernel
theorem dL_act_173 : decode cL_act 173 = .ok (.invokestatic 115, 3) := by decide +kernel
theorem dL_act_176 : decode cL_act 176 = .ok (.istore 9, 2) := by decide +kernel
theorem dL_act_178 : decode cL_act 178 = .ok (.iload_n 2, 1) := by decide +kernel
theorem dL_act_179 : decode cL_act 179 = .ok (.ifCond .eq 19, 3) := by decide +kernel
theorem dL_act_182 : decode cL_act 182 = .ok (.iload 4, 2) := by decide +kernel
theorem dL_act_184 : decode cL_act 184 = .ok (.bipush 6, 2) := by decide +kernel
theorem dL_act_186 : decode cL_act 186 = .ok (.ishr, 1) := by decide +kernel
theorem dL_act_187 : decode cL_act 187 = .ok (.sipush 130, 3) := by decide +kernel
theorem dL_act_190 : decode cL_act 190 = .ok (.invokestatic 115, 3) := by decide +kernel
theorem dL_act_193 : decode cL_act 193 = .ok (.iconst 2, 1) := by decide +kernel
theorem dL_act_194 : decode cL_act 194 = .ok (.isub, 1) := by decide +kernel
theorem dL_act_195 : decode cL_act 195 = .ok (.goto 106, 3) := by decide +kernel
theorem dL_act_198 : decode cL_act 198 = .ok (.iload 9, 2) := by decide +kernel
theorem dL_act_200 : decode cL_act 200 = .ok (.ifCond .ne 15, 3) := by decide +kernel
theorem dL_act_203 : decode cL_act 203 = .ok (.iload 4, 2) := by decide +kernel
theorem dL_act_205 : decode cL_act 205 = .ok (.bipush 6, 2) := by decide +kernel
theorem dL_act_207 : decode cL_act 207 = .ok (.ishr, 1) := by decide +kernel
theorem dL_act_208 : decode cL_act 208 = .ok (.iconst 3, 1) := by decide +kernel
theorem dL_act_209 : decode cL_act 209 = .ok (.invokestatic 115, 3) := by decide +kernel
theorem dL_act_212 : decode cL_act 212 = .ok (.goto 89, 3) := by decide +kernel
theorem dL_act_215 : decode cL_act 215 = .ok (.iload 9, 2) := by decide +kernel
theorem dL_act_217 : decode cL_act 217 = .ok (.iconst 1, 1) := by decide +kernel
theorem dL_act_218 : decode cL_act 218 = .ok (.if_icmp .ne 15, 3) := by decide +kernel
theorem dL_act_221 : decode cL_act 221 = .ok (.iload 4, 2) := by decide +kernel
theorem dL_act_223 : decode cL_act 223 = .ok (.bipush 6, 2) := by decide +kernel
theorem dL_act_225 : decode cL_act 225 = .ok (.ishr, 1) := by decide +kernel
theorem dL_act_226 : decode cL_act 226 = .ok (.iconst 4, 1) := by decide +kernel
theorem dL_act_227 : decode cL_act 227 = .ok (.invokestatic 115, 3) := by decide +kernel
theorem dL_act_230 : decode cL_act 230 = .ok (.goto 71, 3) := by decide +kernel
theorem dL_act_233 : decode cL_act 233 = .ok (.iload 9, 2) := by decide +kernel
theorem dL_act_235 : decode cL_act 235 = .ok (.iconst 2, 1) := by decide +kernel
theorem dL_act_236 : decode cL_act 236 = .ok (.if_icmp .ne 17, 3) := by decide +kernel
theorem dL_act_239 : decode cL_act 239 = .ok (.iconst 1, 1) := by decide +kernel
theorem dL_act_240 : decode cL_act 240 = .ok (.iload 4, 2) := by decide +kernel
theorem dL_act_242 : decode cL_act 242 = .ok (.bipush 6, 2) := by decide +kernel
theorem dL_act_244 : decode cL_act 244 = .ok (.ishr, 1) := by decide +kernel
theorem dL_act_245 : decode cL_act 245 = .ok (.iconst 4, 1) := by decide +kernel
theorem dL_act_246 : decode cL_act 246 = .ok (.invokestatic 115, 3) := by decide +kernel
theorem dL_act_249 : decode cL_act 249 = .ok (.iadd, 1) := by decide +kernel
theorem dL_act_250 : decode cL_act 250 = .ok (.goto 51, 3) := by decide +kernel
theorem dL_act_253 : decode cL_act 253 = .ok (.iload 9, 2) := by decide +kernel
theorem dL_act_255 : decode cL_act 255 = .ok (.iconst 3, 1) := by decide +kernel
theorem dL_act_256 : decode cL_act 256 = .ok (.if_icmp .ne 16, 3) := by decide +kernel
theorem dL_act_259 : decode cL_act 259 = .ok (.iload 4, 2) := by decide +kernel
theorem dL_act_261 : decode cL_act 261 = .ok (.bipush 6, 2) := by decide +kernel
theorem dL_act_263 : decode cL_act 263 = .ok (.ishr, 1) := by decide +kernel
theorem dL_act_264 : decode cL_act 264 = .ok (.bipush 101, 2) := by decide +kernel
theorem dL_act_266 : decode cL_act 266 = .ok (.invokestatic 115, 3) := by decide +kernel
theorem dL_act_269 : decode cL_act 269 = .ok (.goto 32, 3) := by decide +kernel
theorem dL_act_272 : decode cL_act 272 = .ok (.iload 9, 2) := by decide +kernel
theorem dL_act_274 : decode cL_act 274 = .ok (.bipush 6, 2) := by decide +kernel
theorem dL_act_276 : decode cL_act 276 = .ok (.if_icmp .ne 16, 3) := by decide +kernel
theorem dL_act_279 : decode cL_act 279 = .ok (.iload 4, 2) := by decide +kernel
theorem dL_act_281 : decode cL_act 281 = .ok (.bipush 6, 2) := by decide +kernel
theorem dL_act_283 : decode cL_act 283 = .ok (.ishr, 1) := by decide +kernel
theorem dL_act_284 : decode cL_act 284 = .ok (.bipush 64, 2) := by decide +kernel
theorem dL_act_286 : decode cL_act 286 = .ok (.invokestatic 115, 3) := by decide +kernel
theorem dL_act_289 : decode cL_act 289 = .ok (.goto 12, 3) := by decide +kernel
theorem dL_act_292 : decode cL_act 292 = .ok (.iload 4, 2) := by decide +kernel
theorem dL_act_294 : decode cL_act 294 = .ok (.bipush 6, 2) := by decide +kernel
theorem dL_act_296 : decode cL_act 296 = .ok (.ishr, 1) := by decide +kernel
theorem dL_act_297 : decode cL_act 297 = .ok (.iconst 2, 1) := by decide +kernel
theorem dL_act_298 : decode cL_act 298 = .ok (.invokestatic 115, 3) := by decide +kernel
theorem dL_act_301 : decode cL_act 301 = .ok (.istore 10, 2) := by decide +kernel
theorem dL_act_303 : decode cL_act 303 = .ok (.iload_n 3, 1) := by decide +kernel
theorem dL_act_304 : decode cL_act 304 = .ok (.iconst 5, 1) := by decide +kernel
theorem dL_act_305 : decode cL_act 305 = .ok (.if_icmp .ge 18, 3) := by decide +kernel
theorem dL_act_308 : decode cL_act 308 = .ok (.aload_n 0, 1) := by decide +kernel
theorem dL_act_309 : decode cL_act 309 = .ok (.iconst 2, 1) := by decide +kernel
theorem dL_act_310 : decode cL_act 310 = .ok (.iload 8, 2) := by decide +kernel
theorem dL_act_312 : decode cL_act 312 = .ok (.iload 9, 2) := by decide +kernel
theorem dL_act_314 : decode cL_act 314 = .ok (.iload 10, 2) := by decide +kernel
theorem dL_act_316 : decode cL_act 316 = .ok (.iconst 0, 1) := by decide +kernel
theorem dL_act_317 : decode cL_act 317 = .ok (.invokestatic 118, 3) := by decide +kernel
theorem dL_act_320 : decode cL_act 320 = .ok (.goto 74, 3) := by decide +kernel
theorem dL_act_323 : decode cL_act 323 = .ok (.iload_n 3, 1) := by decide +kernel
theorem dL_act_324 : decode cL_act 324 = .ok (.bipush 7, 2) := by decide +kernel
theorem dL_act_326 : decode cL_act 326 = .ok (.if_icmp .ge 45, 3) := by decide +kernel
theorem dL_act_329 : decode cL_act 329 = .ok (.aload_n 0, 1) := by decide +kernel
theorem dL_act_330 : decode cL_act 330 = .ok (.iconst 3, 1) := by decide +kernel
theorem dL_act_331 : decode cL_act 331 = .ok (.iload 4, 2) := by decide +kernel
theorem dL_act_333 : decode cL_act 333 = .ok (.iload_n 2, 1) := by decide +kernel
theorem dL_act_334 : decode cL_act 334 = .ok (.ifCond .eq 8, 3) := by decide +kernel
theorem dL_act_337 : decode cL_act 337 = .ok (.bipush 6, 2) := by decide +kernel
theorem dL_act_339 : decode cL_act 339 = .ok (.goto 4, 3) := by decide +kernel
theorem dL_act_342 : decode cL_act 342 = .ok (.iconst 4, 1) := by decide +kernel
theorem dL_act_343 : decode cL_act 343 = .ok (.invokestatic 115, 3) := by decide +kernel
theorem dL_act_346 : decode cL_act 346 = .ok (.iload 4, 2) := by decide +kernel
theorem dL_act_348 : decode cL_act 348 = .ok (.iconst 3, 1) := by decide +kernel
theorem dL_act_349 : decode cL_act 349 = .ok (.ishr, 1) := by decide +kernel
theorem dL_act_350 : decode cL_act 350 = .ok (.iload_n 2, 1) := by decide +kernel
theorem dL_act_351 : decode cL_act 351 = .ok (.ifCond .eq 8, 3) := by decide +kernel
theorem dL_act_354 : decode cL_act 354 = .ok (.bipush 6, 2) := by decide +kernel
theorem dL_act_356 : decode cL_act 356 = .ok (.goto 4, 3) := by decide +kernel
theorem dL_act_359 : decode cL_act 359 = .ok (.iconst 4, 1) := by decide +kernel
theorem dL_act_360 : decode cL_act 360 = .ok (.invokestatic 115, 3) := by decide +kernel
theorem dL_act_363 : decode cL_act 363 = .ok (.iconst 0, 1) := by decide +kernel
theorem dL_act_364 : decode cL_act 364 = .ok (.iconst 0, 1) := by decide +kernel
theorem dL_act_365 : decode cL_act 365 = .ok (.invokestatic 118, 3) := by decide +kernel
theorem dL_act_368 : decode cL_act 368 = .ok (.goto 26, 3) := by decide +kernel
theorem dL_act_371 : decode cL_act 371 = .ok (.aload_n 0, 1) := by decide +kernel
theorem dL_act_372 : decode cL_act 372 = .ok (.iconst 1, 1) := by decide +kernel
theorem dL_act_373 : decode cL_act 373 = .ok (.iload 7, 2) := by decide +kernel
theorem dL_act_375 : decode cL_act 375 = .ok (.iload 4, 2) := by decide +kernel
theorem dL_act_377 : decode cL_act 377 = .ok (.iconst 4, 1) := by decide +kernel
theorem dL_act_378 : decode cL_act 378 = .ok (.ishr, 1) := by decide +kernel
theorem dL_act_379 : decode cL_act 379 = .ok (.iconst 3, 1) := by decide +kernel
theorem dL_act_380 : decode cL_act 380 = .ok (.iand, 1) := by decide +kernel
theorem dL_act_381 : decode cL_act 381 = .ok (.ifCond .le 7, 3) := by decide +kernel
theorem dL_act_384 : decode cL_act 384 = .ok (.iconst 1, 1) := by decide +kernel
theorem dL_act_385 : decode cL_act 385 = .ok (.goto 4, 3) := by decide +kernel
theorem dL_act_388 : decode cL_act 388 = .ok (.iconst 0, 1) := by decide +kernel
theorem dL_act_389 : decode cL_act 389 = .ok (.iconst 0, 1) := by decide +kernel
theorem dL_act_390 : decode cL_act 390 = .ok (.iconst 0, 1) := by decide +kernel
theorem dL_act_391 : decode cL_act 391 = .ok (.invokestatic 118, 3) := by decide +kernel
theorem dL_act_394 : decode cL_act 394 = .ok (.lreturn, 1) := by decide +kernel
theorem dL_act_395 : decode cL_act 395 = .ok (.iload_n 3, 1) := by decide +kernel
theorem dL_act_396 : decode cL_act 396 = .ok (.bipush 20, 2) := by decide +kernel
theorem dL_act_398 : decode cL_act 398 = .ok (.if_icmp .ge 120, 3) := by decide +kernel
theorem dL_act_401 : decode cL_act 401 = .ok (.iload 4, 2) := by decide +kernel
theorem dL_act_403 : decode cL_act 403 = .ok (.bipush 9, 2) := by decide +kernel
theorem dL_act_405 : decode cL_act 405 = .ok (.ishr, 1) := by decide +kernel
theorem dL_act_406 : decode cL_act 406 = .ok (.iconst 1, 1) := by decide +kernel
theorem dL_act_407 : decode cL_act 407 = .ok (.iand, 1) := by decide +kernel
theorem dL_act_408 : decode cL_act 408 = .ok (.iconst 1, 1) := by decide +kernel
theorem dL_act_409 : decode cL_act 409 = .ok (.if_icmp .ne 7, 3) := by decide +kernel
theorem dL_act_412 : decode cL_act 412 = .ok (.iconst 1, 1) := by decide +kernel
theorem dL_act_413 : decode cL_act 413 = .ok (.goto 4, 3) := by decide +kernel
theorem dL_act_416 : decode cL_act 416 = .ok (.iconst 0, 1) := by decide +kernel
theorem dL_act_417 : decode cL_act 417 = .ok (.istore 9, 2) := by decide +kernel
theorem dL_act_419 : decode cL_act 419 = .ok (.iload_n 3, 1) := by decide +kernel
theorem dL_act_420 : decode cL_act 420 = .ok (.bipush 12, 2) := by decide +kernel
theorem dL_act_422 : decode cL_act 422 = .ok (.if_icmp .ge 54, 3) := by decide +kernel
theorem dL_act_425 : decode cL_act 425 = .ok (.aload_n 0, 1) := by decide +kernel
theorem dL_act_426 : decode cL_act 426 = .ok (.bipush 6, 2) := by decide +kernel
theorem dL_act_428 : decode cL_act 428 = .ok (.iload 9, 2) := by decide +kernel
theorem dL_act_430 : decode cL_act 430 = .ok (.ifCond .eq 7, 3) := by decide +kernel
theorem dL_act_433 : decode cL_act 433 = .ok (.iconst (-1), 1) := by decide +kernel
theorem dL_act_434 : decode cL_act 434 = .ok (.goto 5, 3) := by decide +kernel
theorem dL_act_437 : decode cL_act 437 = .ok (.iload 5, 2) := by decide +kernel
theorem dL_act_439 : decode cL_act 439 = .ok (.iload 9, 2) := by decide +kernel
theorem dL_act_441 : decode cL_act 441 = .ok (.ifCond .eq 7, 3) := by decide +kernel
theorem dL_act_444 : decode cL_act 444 = .ok (.iconst (-1), 1) := by decide +kernel
theorem dL_act_445 : decode cL_act 445 = .ok (.goto 5, 3) := by decide +kernel
theorem dL_act_448 : decode cL_act 448 = .ok (.iload 6, 2) := by decide +kernel
theorem dL_act_450 : decode cL_act 450 = .ok (.iload 9, 2) := by decide +kernel
theorem dL_act_452 : decode cL_act 452 = .ok (.ifCond .eq 10, 3) := by decide +kernel
theorem dL_act_455 : decode cL_act 455 = .ok (.iload 7, 2) := by decide +kernel
theorem dL_act_457 : decode cL_act 457 = .ok (.iconst 1, 1) := by decide +kernel
theorem dL_act_458 : decode cL_act 458 = .ok (.iadd, 1) := by decide +kernel
theorem dL_act_459 : decode cL_act 459 = .ok (.goto 4, 3) := by decide +kernel
theorem dL_act_462 : decode cL_act 462 = .ok (.iconst 0, 1) := by decide +kernel
theorem dL_act_463 : decode cL_act 463 = .ok (.iload 4, 2) := by decide +kernel
theorem dL_act_465 : decode cL_act 465 = .ok (.bipush 6, 2) := by decide +kernel
theorem dL_act_467 : decode cL_act 467 = .ok (.ishr, 1) := by decide +kernel
theorem dL_act_468 : decode cL_act 468 = .ok (.iconst 1, 1) := by decide +kernel
theorem dL_act_469 : decode cL_act 469 = .ok (.iand, 1) := by decide +kernel
theorem dL_act_470 : decode cL_act 470 = .ok (.invokestatic 118, 3) := by decide +kernel
theorem dL_act_473 : decode cL_act 473 = .ok (.goto 44, 3) := by decide +kernel
theorem dL_act_476 : decode cL_act 476 = .ok (.iload_n 3, 1) := by decide +kernel
theorem dL_act_477 : decode cL_act 477 = .ok (.bipush 18, 2) := by decide +kernel
theorem dL_act_479 : decode cL_act 479 = .ok (.if_icmp .ge 27, 3) := by decide +kernel
theorem dL_act_482 : decode cL_act 482 = .ok (.aload_n 0, 1) := by decide +kernel
theorem dL_act_483 : decode cL_act 483 = .ok (.bipush 7, 2) := by decide +kernel
theorem dL_act_485 : decode cL_act 485 = .ok (.iload 5, 2) := by decide +kernel
theorem dL_act_487 : decode cL_act 487 = .ok (.iload 7, 2) := by decide +kernel
theorem dL_act_489 : decode cL_act 489 = .ok (.iload 6, 2) := by decide +kernel
theorem dL_act_491 : decode cL_act 491 = .ok (.iload 4, 2) := by decide +kernel
theorem dL_act_493 : decode cL_act 493 = .ok (.iconst 5, 1) := by decide +kernel
theorem dL_act_494 : decode cL_act 494 = .ok (.ishr, 1) := by decide +kernel
theorem dL_act_495 : decode cL_act 495 = .ok (.bipush 12, 2) := by decide +kernel
theorem dL_act_497 : decode cL_act 497 = .ok (.invokestatic 115, 3) := by decide +kernel
theorem dL_act_500 : decode cL_act 500 = .ok (.invokestatic 118, 3) := by decide +kernel
theorem dL_act_503 : decode cL_act 503 = .ok (.goto 14, 3) := by decide +kernel
theorem dL_act_506 : decode cL_act 506 = .ok (.aload_n 0, 1) := by decide +kernel
theorem dL_act_507 : decode cL_act 507 = .ok (.bipush 8, 2) := by decide +kernel
theorem dL_act_509 : decode cL_act 509 = .ok (.iload 5, 2) := by decide +kernel
theorem dL_act_511 : decode cL_act 511 = .ok (.iconst 0, 1) := by decide +kernel
theorem dL_act_512 : decode cL_act 512 = .ok (.iconst 0, 1) := by decide +kernel
theorem dL_act_513 : decode cL_act 513 = .ok (.iconst 0, 1) := by decide +kernel
theorem dL_act_514 : decode cL_act 514 = .ok (.invokestatic 118, 3) := by decide +kernel
theorem dL_act_517 : decode cL_act 517 = .ok (.lreturn, 1) := by decide +kernel
theorem dL_act_518 : decode cL_act 518 = .ok (.iload_n 3, 1) := by decide +kernel
theorem dL_act_519 : decode cL_act 519 = .ok (.bipush 40, 2) := by decide +kernel
theorem dL_act_521 : decode cL_act 521 = .ok (.if_icmp .ge 133, 3) := by decide +kernel
theorem dL_act_524 : decode cL_act 524 = .ok (.iload_n 3, 1) := by decide +kernel
theorem dL_act_525 : decode cL_act 525 = .ok (.bipush 26, 2) := by decide +kernel
theorem dL_act_527 : decode cL_act 527 = .ok (.if_icmp .ge 36, 3) := by decide +kernel
theorem dL_act_530 : decode cL_act 530 = .ok (.aload_n 0, 1) := by decide +kernel
theorem dL_act_531 : decode cL_act 531 = .ok (.bipush 10, 2) := by decide +kernel
theorem dL_act_533 : decode cL_act 533 = .ok (.iload 5, 2) := by decide +kernel
theorem dL_act_535 : decode cL_act 535 = .ok (.iload 6, 2) := by decide +kernel
theorem dL_act_537 : decode cL_act 537 = .ok (.iload_n 2, 1) := by decide +kernel
theorem dL_act_538 : decode cL_act 538 = .ok (.ifCond .eq 8, 3) := by decide +kernel
theorem dL_act_541 : decode cL_act 541 = .ok (.iload 4, 2) := by decide +kernel
theorem dL_act_543 : decode cL_act 543 = .ok (.goto 13, 3) := by decide +kernel
theorem dL_act_546 : decode cL_act 546 = .ok (.iload 4, 2) := by decide +kernel
theorem dL_act_548 : decode cL_act 548 = .ok (.iconst 2, 1) := by decide +kernel
theorem dL_act_549 : decode cL_act 549 = .ok (.ishr, 1) := by decide +kernel
theorem dL_act_550 : decode cL_act 550 = .ok (.sipush 3000, 3) := by decide +kernel
theorem dL_act_553 : decode cL_act 553 = .ok (.invokestatic 115, 3) := by decide +kernel
theorem dL_act_556 : decode cL_act 556 = .ok (.iconst 0, 1) := by decide +kernel
theorem dL_act_557 : decode cL_act 557 = .ok (.invokestatic 118, 3) := by decide +kernel
theorem dL_act_560 : decode cL_act 560 = .ok (.goto 93, 3) := by decide +kernel
theorem dL_act_563 : decode cL_act 563 = .ok (.iload_n 3, 1) := by decide +kernel
theorem dL_act_564 : decode cL_act 564 = .ok (.bipush 30, 2) := by decide +kernel
theorem dL_act_566 : decode cL_act 566 = .ok (.if_icmp .ge 36, 3) := by decide +kernel
theorem dL_act_569 : decode cL_act 569 = .ok (.aload_n 0, 1) := by decide +kernel
theorem dL_act_570 : decode cL_act 570 = .ok (.bipush 11, 2) := by decide +kernel
theorem dL_act_572 : decode cL_act 572 = .ok (.iload 4, 2) := by decide +kernel
theorem dL_act_574 : decode cL_act 574 = .ok (.iload_n 2, 1) := by decide +kernel
theorem dL_act_575 : decode cL_act 575 = .ok (.ifCond .eq 8, 3) := by decide +kernel
theorem dL_act_578 : decode cL_act 578 = .ok (.bipush 32, 2) := by decide +kernel
theorem dL_act_580 : decode cL_act 580 = .ok (.goto 5, 3) := by decide +kernel
theorem dL_act_583 : decode cL_act 583 = .ok (.bipush 10, 2) := by decide +kernel
theorem dL_act_585 : decode cL_act 585 = .ok (.invokestatic 115, 3) := by decide +kernel
theorem dL_act_588 : decode cL_act 588 = .ok (.iload 4, 2) := by decide +kernel
theorem dL_act_590 : decode cL_act 590 = .ok (.iconst 4, 1) := by decide +kernel
theorem dL_act_591 : decode cL_act 591 = .ok (.ishr, 1) := by decide +kernel
theorem dL_act_592 : decode cL_act 592 = .ok (.iconst 1, 1) := by decide +kernel
theorem dL_act_593 : decode cL_act 593 = .ok (.iand, 1) := by decide +kernel
theorem dL_act_594 : decode cL_act 594 = .ok (.iconst 0, 1) := by decide +kernel
theorem dL_act_595 : decode cL_act 595 = .ok (.iconst 0, 1) := by decide +kernel
theorem dL_act_596 : decode cL_act 596 = .ok (.invokestatic 118, 3) := by decide +kernel
theorem dL_act_599 : decode cL_act 599 = .ok (.goto 54, 3) := by decide +kernel
theorem dL_act_602 : decode cL_act 602 = .ok (.iload_n 3, 1) := by decide +kernel
theorem dL_act_603 : decode cL_act 603 = .ok (.bipush 38, 2) := by decide +kernel
theorem dL_act_605 : decode cL_act 605 = .ok (.if_icmp .ge 37, 3) := by decide +kernel
theorem dL_act_608 : decode cL_act 608 = .ok (.aload_n 0, 1) := by decide +kernel
theorem dL_act_609 : decode cL_act 609 = .ok (.bipush 12, 2) := by decide +kernel
theorem dL_act_611 : decode cL_act 611 = .ok (.iload 5, 2) := by decide +kernel
theorem dL_act_613 : decode cL_act 613 = .ok (.iload_n 2, 1) := by decide +kernel
theorem dL_act_614 : decode cL_act 614 = .ok (.ifCond .eq 8, 3) := by decide +kernel
theorem dL_act_617 : decode cL_act 617 = .ok (.iload 4, 2) := by decide +kernel
theorem dL_act_619 : decode cL_act 619 = .ok (.goto 15, 3) := by decide +kernel
theorem dL_act_622 : decode cL_act 622 = .ok (.iconst 1, 1) := by decide +kernel
theorem dL_act_623 : decode cL_act 623 = .ok (.iload 4, 2) := by decide +kernel
theorem dL_act_625 : decode cL_act 625 = .ok (.iconst 4, 1) := by decide +kernel
theorem dL_act_626 : decode cL_act 626 = .ok (.ishr, 1) := by decide +kernel
theorem dL_act_627 : decode cL_act 627 = .ok (.sipush 5000, 3) := by decide +kernel
theorem dL_act_630 : decode cL_act 630 = .ok (.invokestatic 115, 3) := by decide +kernel
theorem dL_act_633 : decode cL_act 633 = .ok (.iadd, 1) := by decide +kernel
theorem dL_act_634 : decode cL_act 634 = .ok (.iconst 0, 1) := by decide +kernel
theorem dL_act_635 : decode cL_act 635 = .ok (.iconst 0, 1) := by decide +kernel
theorem dL_act_636 : decode cL_act 636 = .ok (.invokestatic 118, 3) := by decide +kernel
theorem dL_act_639 : decode cL_act 639 = .ok (.goto 14, 3) := by decide +kernel
theorem dL_act_642 : decode cL_act 642 = .ok (.aload_n 0, 1) := by decide +kernel
theorem dL_act_643 : decode cL_act 643 = .ok (.bipush 13, 2) := by decide +kernel
theorem dL_act_645 : decode cL_act 645 = .ok (.iload 5, 2) := by decide +kernel
theorem dL_act_647 : decode cL_act 647 = .ok (.iconst 0, 1) := by decide +kernel
theorem dL_act_648 : decode cL_act 648 = .ok (.iconst 0, 1) := by decide +kernel
theorem dL_act_649 : decode cL_act 649 = .ok (.iconst 0, 1) := by decide +kernel
theorem dL_act_650 : decode cL_act 650 = .ok (.invokestatic 118, 3) := by decide +kernel
theorem dL_act_653 : decode cL_act 653 = .ok (.lreturn, 1) := by decide +kernel
theorem dL_act_654 : decode cL_act 654 = .ok (.iload_n 2, 1) := by decide +kernel
theorem dL_act_655 : decode cL_act 655 = .ok (.ifCond .eq 15, 3) := by decide +kernel
theorem dL_act_658 : decode cL_act 658 = .ok (.iload 4, 2) := by decide +kernel
theorem dL_act_660 : decode cL_act 660 = .ok (.bipush 22, 2) := by decide +kernel
theorem dL_act_662 : decode cL_act 662 = .ok (.invokestatic 115, 3) := by decide +kernel
theorem dL_act_665 : decode cL_act 665 = .ok (.iconst 1, 1) := by decide +kernel
theorem dL_act_666 : decode cL_act 666 = .ok (.isub, 1) := by decide +kernel
theorem dL_act_667 : decode cL_act 667 = .ok (.goto 10, 3) := by decide +kernel
theorem dL_act_670 : decode cL_act 670 = .ok (.iload 4, 2) := by decide +kernel
theorem dL_act_672 : decode cL_act 672 = .ok (.bipush 8, 2) := by decide +kernel
theorem dL_act_674 : decode cL_act 674 = .ok (.invokestatic 115, 3) := by decide +kernel
theorem dL_act_677 : decode cL_act 677 = .ok (.istore 9, 2) := by decide +kernel
theorem dL_act_679 : decode cL_act 679 = .ok (.iload_n 3, 1) := by decide +kernel
theorem dL_act_680 : decode cL_act 680 = .ok (.bipush 60, 2) := by decide +kernel
theorem dL_act_682 : decode cL_act 682 = .ok (.if_icmp .ge 152, 3) := by decide +kernel
theorem dL_act_685 : decode cL_act 685 = .ok (.iload_n 3, 1) := by decide +kernel
theorem dL_act_686 : decode cL_act 686 = .ok (.bipush 44, 2) := by decide +kernel
theorem dL_act_688 : decode cL_act 688 = .ok (.if_icmp .ge 39, 3) := by decide +kernel
theorem dL_act_691 : decode cL_act 691 = .ok (.aload_n 0, 1) := by decide +kernel
theorem dL_act_692 : decode cL_act 692 = .ok (.bipush 14, 2) := by decide +kernel
theorem dL_act_694 : decode cL_act 694 = .ok (.iload 5, 2) := by decide +kernel
theorem dL_act_696 : decode cL_act 696 = .ok (.iload 6, 2) := by decide +kernel
theorem dL_act_698 : decode cL_act 698 = .ok (.iload 8, 2) := by decide +kernel
theorem dL_act_700 : decode cL_act 700 = .ok (.iload_n 2, 1) := by decide +kernel
theorem dL_act_701 : decode cL_act 701 = .ok (.ifCond .eq 8, 3) := by decide +kernel
theorem dL_act_704 : decode cL_act 704 = .ok (.iload 4, 2) := by decide +kernel
theorem dL_act_706 : decode cL_act 706 = .ok (.goto 15, 3) := by decide +kernel
theorem dL_act_709 : decode cL_act 709 = .ok (.iconst 1, 1) := by decide +kernel
theorem dL_act_710 : decode cL_act 710 = .ok (.iload 4, 2) := by decide +kernel
theorem dL_act_712 : decode cL_act 712 = .ok (.iconst 3, 1) := by decide +kernel
theorem dL_act_713 : decode cL_act 713 = .ok (.ishr, 1) := by decide +kernel
theorem dL_act_714 : decode cL_act 714 = .ok (.sipush 2000, 3) := by decide +kernel
theorem dL_act_717 : decode cL_act 717 = .ok (.invokestatic 115, 3) := by decide +kernel
theorem dL_act_720 : decode cL_act 720 = .ok (.iadd, 1) := by decide +kernel
theorem dL_act_721 : decode cL_act 721 = .ok (.invokestatic 118, 3) := by decide +kernel
theorem dL_act_724 : decode cL_act 724 = .ok (.goto 109, 3) := by decide +kernel
theorem dL_act_727 : decode cL_act 727 = .ok (.iload_n 3, 1) := by decide +kernel
theorem dL_act_728 : decode cL_act 728 = .ok (.bipush 46, 2) := by decide +kernel
theorem dL_act_730 : decode cL_act 730 = .ok (.if_icmp .ge 17, 3) := by decide +kernel
theorem dL_act_733 : decode cL_act 733 = .ok (.aload_n 0, 1) := by decide +kernel
theorem dL_act_734 : decode cL_act 734 = .ok (.bipush 15, 2) := by decide +kernel
theorem dL_act_736 : decode cL_act 736 = .ok (.iload 9, 2) := by decide +kernel
theorem dL_act_738 : decode cL_act 738 = .ok (.iconst 0, 1) := by decide +kernel
theorem dL_act_739 : decode cL_act 739 = .ok (.iconst 0, 1) := by decide +kernel
theorem dL_act_740 : decode cL_act 740 = .ok (.iconst 0, 1) := by decide +kernel
theorem dL_act_741 : decode cL_act 741 = .ok (.invokestatic 118, 3) := by decide +kernel
theorem dL_act_744 : decode cL_act 744 = .ok (.goto 89, 3) := by decide +kernel
theorem dL_act_747 : decode cL_act 747 = .ok (.iload_n 3, 1) := by decide +kernel
theorem dL_act_748 : decode cL_act 748 = .ok (.bipush 53, 2) := by decide +kernel
theorem dL_act_750 : decode cL_act 750 = .ok (.if_icmp .ge 32, 3) := by decide +kernel
theorem dL_act_753 : decode cL_act 753 = .ok (.aload_n 0, 1) := by decide +kernel
theorem dL_act_754 : decode cL_act 754 = .ok (.bipush 16, 2) := by decide +kernel
theorem dL_act_756 : decode cL_act 756 = .ok (.iload 9, 2) := by decide +kernel
theorem dL_act_758 : decode cL_act 758 = .ok (.iload 6, 2) := by decide +kernel
theorem dL_act_760 : decode cL_act 760 = .ok (.iload 4, 2) := by decide +kernel
theorem dL_act_762 : decode cL_act 762 = .ok (.bipush 6, 2) := by decide +kernel
theorem dL_act_764 : decode cL_act 764 = .ok (.ishr, 1) := by decide +kernel
theorem dL_act_765 : decode cL_act 765 = .ok (.iconst 3, 1) := by decide +kernel
theorem dL_act_766 : decode cL_act 766 = .ok (.iand, 1) := by decide +kernel
theorem dL_act_767 : decode cL_act 767 = .ok (.ifCond .le 7, 3) := by decide +kernel
theorem dL_act_770 : decode cL_act 770 = .ok (.iconst 1, 1) := by decide +kernel
theorem dL_act_771 : decode cL_act 771 = .ok (.goto 4, 3) := by decide +kernel
theorem dL_act_774 : decode cL_act 774 = .ok (.iconst 0, 1) := by decide +kernel
theorem dL_act_775 : decode cL_act 775 = .ok (.iconst 0, 1) := by decide +kernel
theorem dL_act_776 : decode cL_act 776 = .ok (.invokestatic 118, 3) := by decide +kernel
theorem dL_act_779 : decode cL_act 779 = .ok (.goto 54, 3) := by decide +kernel
theorem dL_act_782 : decode cL_act 782 = .ok (.iload_n 3, 1) := by decide +kernel
theorem dL_act_783 : decode cL_act 783 = .ok (.bipush 56, 2) := by decide +kernel
theorem dL_act_785 : decode cL_act 785 = .ok (.if_icmp .ge 17, 3) := by decide +kernel
theorem dL_act_788 : decode cL_act 788 = .ok (.aload_n 0, 1) := by decide +kernel
theorem dL_act_789 : decode cL_act 789 = .ok (.bipush 17, 2) := by decide +kernel
theorem dL_act_791 : decode cL_act 791 = .ok (.iload 9, 2) := by decide +kernel
theorem dL_act_793 : decode cL_act 793 = .ok (.iconst 0, 1) := by decide +kernel
theorem dL_act_794 : decode cL_act 794 = .ok (.iconst 0, 1) := by decide +kernel
theorem dL_act_795 : decode cL_act 795 = .ok (.iconst 0, 1) := by decide +kernel
theorem dL_act_796 : decode cL_act 796 = .ok (.invokestatic 118, 3) := by decide +kernel
theorem dL_act_799 : decode cL_act 799 = .ok (.goto 34, 3) := by decide +kernel
theorem dL_act_802 : decode cL_act 802 = .ok (.iload_n 3, 1) := by decide +kernel
theorem dL_act_803 : decode cL_act 803 = .ok (.bipush 58, 2) := by decide +kernel
theorem dL_act_805 : decode cL_act 805 = .ok (.if_icmp .ge 17, 3) := by decide +kernel
theorem dL_act_808 : decode cL_act 808 = .ok (.aload_n 0, 1) := by decide +kernel
theorem dL_act_809 : decode cL_act 809 = .ok (.bipush 18, 2) := by decide +kernel
theorem dL_act_811 : decode cL_act 811 = .ok (.iload 9, 2) := by decide +kernel
theorem dL_act_813 : decode cL_act 813 = .ok (.iconst 0, 1) := by decide +kernel
theorem dL_act_814 : decode cL_act 814 = .ok (.iconst 0, 1) := by decide +kernel
theorem dL_act_815 : decode cL_act 815 = .ok (.iconst 0, 1) := by decide +kernel
theorem dL_act_816 : decode cL_act 816 = .ok (.invokestatic 118, 3) := by decide +kernel
theorem dL_act_819 : decode cL_act 819 = .ok (.goto 14, 3) := by decide +kernel
theorem dL_act_822 : decode cL_act 822 = .ok (.aload_n 0, 1) := by decide +kernel
theorem dL_act_823 : decode cL_act 823 = .ok (.bipush 19, 2) := by decide +kernel
theorem dL_act_825 : decode cL_act 825 = .ok (.iload 9, 2) := by decide +kernel
theorem dL_act_827 : decode cL_act 827 = .ok (.iconst 0, 1) := by decide +kernel
theorem dL_act_828 : decode cL_act 828 = .ok (.iconst 0, 1) := by decide +kernel
theorem dL_act_829 : decode cL_act 829 = .ok (.iconst 0, 1) := by decide +kernel
theorem dL_act_830 : decode cL_act 830 = .ok (.invokestatic 118, 3) := by decide +kernel
theorem dL_act_833 : decode cL_act 833 = .ok (.lreturn, 1) := by decide +kernel
theorem dL_act_834 : decode cL_act 834 = .ok (.aload_n 0, 1) := by decide +kernel
theorem dL_act_835 : decode cL_act 835 = .ok (.bipush 24, 2) := by decide +kernel
theorem dL_act_837 : decode cL_act 837 = .ok (.iload_n 2, 1) := by decide +kernel
theorem dL_act_838 : decode cL_act 838 = .ok (.ifCond .eq 14, 3) := by decide +kernel
theorem dL_act_841 : decode cL_act 841 = .ok (.iload 4, 2) := by decide +kernel
theorem dL_act_843 : decode cL_act 843 = .ok (.sipush 2200, 3) := by decide +kernel
theorem dL_act_846 : decode cL_act 846 = .ok (.invokestatic 115, 3) := by decide +kernel
theorem dL_act_849 : decode cL_act 849 = .ok (.goto 35, 3) := by decide +kernel
theorem dL_act_852 : decode cL_act 852 = .ok (.iload 4, 2) := by decide +kernel
theorem dL_act_854 : decode cL_act 854 = .ok (.bipush 8, 2) := by decide +kernel
theorem dL_act_856 : decode cL_act 856 = .ok (.ishr, 1) := by decide +kernel
theorem dL_act_857 : decode cL_act 857 = .ok (.iconst 3, 1) := by decide +kernel
theorem dL_act_858 : decode cL_act 858 = .ok (.iand, 1) := by decide +kernel
theorem dL_act_859 : decode cL_act 859 = .ok (.ifCond .le 15, 3) := by decide +kernel
theorem dL_act_862 : decode cL_act 862 = .ok (.iconst 1, 1) := by decide +kernel
theorem dL_act_863 : decode cL_act 863 = .ok (.iload 4, 2) := by decide +kernel
theorem dL_act_865 : decode cL_act 865 = .ok (.bipush 25, 2) := by decide +kernel
theorem dL_act_867 : decode cL_act 867 = .ok (.invokestatic 115, 3) := by decide +kernel
theorem dL_act_870 : decode cL_act 870 = .ok (.iadd, 1) := by decide +kernel
theorem dL_act_871 : decode cL_act 871 = .ok (.goto 13, 3) := by decide +kernel
theorem dL_act_874 : decode cL_act 874 = .ok (.iconst 1, 1) := by decide +kernel
theorem dL_act_875 : decode cL_act 875 = .ok (.iload 4, 2) := by decide +kernel
theorem dL_act_877 : decode cL_act 877 = .ok (.sipush 400, 3) := by decide +kernel
theorem dL_act_880 : decode cL_act 880 = .ok (.invokestatic 115, 3) := by decide +kernel
theorem dL_act_883 : decode cL_act 883 = .ok (.iadd, 1) := by decide +kernel
theorem dL_act_884 : decode cL_act 884 = .ok (.iconst 0, 1) := by decide +kernel
theorem dL_act_885 : decode cL_act 885 = .ok (.iconst 0, 1) := by decide +kernel
theorem dL_act_886 : decode cL_act 886 = .ok (.iconst 0, 1) := by decide +kernel
theorem dL_act_887 : decode cL_act 887 = .ok (.invokestatic 118, 3) := by decide +kernel
theorem dL_act_890 : decode cL_act 890 = .ok (.lreturn, 1) := by decide +kernel
theorem dL_areAlike_0 : decode cL_areAlike 0 = .ok (.aload_n 0, 1) := by decide +kernel
theorem dL_areAlike_1 : decode cL_areAlike 1 = .ok (.invokevirtual 122, 3) := by decide +kernel
theorem dL_areAlike_4 : decode cL_areAlike 4 = .ok (.aload_n 1, 1) := by decide +kernel
theorem dL_areAlike_5 : decode cL_areAlike 5 = .ok (.invokevirtual 122, 3) := by decide +kernel
theorem dL_areAlike_8 : decode cL_areAlike 8 = .ok (.lcmp, 1) := by decide +kernel
theorem dL_areAlike_9 : decode cL_areAlike 9 = .ok (.ifCond .ne 19, 3) := by decide +kernel
theorem dL_areAlike_12 : decode cL_areAlike 12 = .ok (.aload_n 0, 1) := by decide +kernel
theorem dL_areAlike_13 : decode cL_areAlike 13 = .ok (.invokevirtual 126, 3) := by decide +kernel
theorem dL_areAlike_16 : decode cL_areAlike 16 = .ok (.aload_n 1, 1) := by decide +kernel
theorem dL_areAlike_17 : decode cL_areAlike 17 = .ok (.invokevirtual 126, 3) := by decide +kernel
theorem dL_areAlike_20 : decode cL_areAlike 20 = .ok (.lcmp, 1) := by decide +kernel
theorem dL_areAlike_21 : decode cL_areAlike 21 = .ok (.ifCond .ne 7, 3) := by decide +kernel
theorem dL_areAlike_24 : decode cL_areAlike 24 = .ok (.iconst 1, 1) := by decide +kernel
theorem dL_areAlike_25 : decode cL_areAlike 25 = .ok (.goto 4, 3) := by decide +kernel
theorem dL_areAlike_28 : decode cL_areAlike 28 = .ok (.iconst 0, 1) := by decide +kernel
theorem dL_areAlike_29 : decode cL_areAlike 29 = .ok (.istore 4, 2) := by decide +kernel
theorem dL_areAlike_31 : decode cL_areAlike 31 = .ok (.iconst 0, 1) := by decide +kernel
theorem dL_areAlike_32 : decode cL_areAlike 32 = .ok (.istore 5, 2) := by decide +kernel
theorem dL_areAlike_34 : decode cL_areAlike 34 = .ok (.iload 5, 2) := by decide +kernel
theorem dL_areAlike_36 : decode cL_areAlike 36 = .ok (.bipush 24, 2) := by decide +kernel
theorem dL_areAlike_38 : decode cL_areAlike 38 = .ok (.if_icmp .ge 283, 3) := by decide +kernel
theorem dL_areAlike_41 : decode cL_areAlike 41 = .ok (.iload 4, 2) := by decide +kernel
theorem dL_areAlike_43 : decode cL_areAlike 43 = .ok (.ifCond .eq 278, 3) := by decide +kernel
theorem dL_areAlike_46 : decode cL_areAlike 46 = .ok (.iload_n 3, 1) := by decide +kernel
theorem dL_areAlike_47 : decode cL_areAlike 47 = .ok (.iload 5, 2) := by decide +kernel
theorem dL_areAlike_49 : decode cL_areAlike 49 = .ok (.iadd, 1) := by decide +kernel
theorem dL_areAlike_50 : decode cL_areAlike 50 = .ok (.iload_n 2, 1) := by decide +kernel
theorem dL_areAlike_51 : decode cL_areAlike 51 = .ok (.iconst 1, 1) := by decide +kernel
theorem dL_areAlike_52 : decode cL_areAlike 52 = .ok (.iadd, 1) := by decide +kernel
theorem dL_areAlike_53 : decode cL_areAlike 53 = .ok (.invokestatic 115, 3) := by decide +kernel
theorem dL_areAlike_56 : decode cL_areAlike 56 = .ok (.istore 6, 2) := by decide +kernel
theorem dL_areAlike_58 : decode cL_areAlike 58 = .ok (.aload_n 0, 1) := by decide +kernel
theorem dL_areAlike_59 : decode cL_areAlike 59 = .ok (.bipush 9, 2) := by decide +kernel
theorem dL_areAlike_61 : decode cL_areAlike 61 = .ok (.iload 5, 2) := by decide +kernel
theorem dL_areAlike_63 : decode cL_areAlike 63 = .ok (.iload 6, 2) := by decide +kernel
theorem dL_areAlike_65 : decode cL_areAlike 65 = .ok (.iconst 0, 1) := by decide +kernel
theorem dL_areAlike_66 : decode cL_areAlike 66 = .ok (.iconst 0, 1) := by decide +kernel
theorem dL_areAlike_67 : decode cL_areAlike 67 = .ok (.invokestatic 118, 3) := by decide +kernel
theorem dL_areAlike_70 : decode cL_areAlike 70 = .ok (.aload_n 1, 1) := by decide +kernel
theorem dL_areAlike_71 : decode cL_areAlike 71 = .ok (.bipush 9, 2) := by decide +kernel
theorem dL_areAlike_73 : decode cL_areAlike 73 = .ok (.iload 5, 2) := by decide +kernel
theorem dL_areAlike_75 : decode cL_areAlike 75 = .ok (.iload 6, 2) := by decide +kernel
theorem dL_areAlike_77 : decode cL_areAlike 77 = .ok (.iconst 0, 1) := by decide +kernel
theorem dL_areAlike_78 : decode cL_areAlike 78 = .ok (.iconst 0, 1) := by decide +kernel
theorem dL_areAlike_79 : decode cL_areAlike 79 = .ok (.invokestatic 118, 3) := by decide +kernel
theorem dL_areAlike_82 : decode cL_areAlike 82 = .ok (.lcmp, 1) := by decide +kernel
theorem dL_areAlike_83 : decode cL_areAlike 83 = .ok (.ifCond .ne 49, 3) := by decide +kernel
theorem dL_areAlike_86 : decode cL_areAlike 86 = .ok (.aload_n 0, 1) := by decide +kernel
theorem dL_areAlike_87 : decode cL_areAlike 87 = .ok (.iconst 5, 1) := by decide +kernel
theorem dL_areAlike_88 : decode cL_areAlike 88 = .ok (.iload 5, 2) := by decide +kernel
theorem dL_areAlike_90 : decode cL_areAlike 90 = .ok (.iconst 4, 1) := by decide +kernel
theorem dL_areAlike_91 : decode cL_areAlike 91 = .ok (.irem, 1) := by decide +kernel
theorem dL_areAlike_92 : decode cL_areAlike 92 = .ok (.iload 5, 2) := by decide +kernel
theorem dL_areAlike_94 : decode cL_areAlike 94 = .ok (.iload_n 3, 1) := by decide +kernel
theorem dL_areAlike_95 : decode cL_areAlike 95 = .ok (.bipush 12, 2) := by decide +kernel
theorem dL_areAlike_97 : decode cL_areAlike 97 = .ok (.invokestatic 115, 3) := by decide +kernel
theorem dL_areAlike_100 : decode cL_areAlike 100 = .ok (.iload 6, 2) := by decide +kernel
theorem dL_areAlike_102 : decode cL_areAlike 102 = .ok (.invokestatic 118, 3) := by decide +kernel
theorem dL_areAlike_105 : decode cL_areAlike 105 = .ok (.aload_n 1, 1) := by decide +kernel
theorem dL_areAlike_106 : decode cL_areAlike 106 = .ok (.iconst 5, 1) := by decide +kernel
theorem dL_areAlike_107 : decode cL_areAlike 107 = .ok (.iload 5, 2) := by decide +kernel
theorem dL_areAlike_109 : decode cL_areAlike 109 = .ok (.iconst 4, 1) := by decide +kernel
theorem dL_areAlike_110 : decode cL_areAlike 110 = .ok (.irem, 1) := by decide +kernel
theorem dL_areAlike_111 : decode cL_areAlike 111 = .ok (.iload 5, 2) := by decide +kernel
theorem dL_areAlike_113 : decode cL_areAlike 113 = .ok (.iload_n 3, 1) := by decide +kernel
theorem dL_areAlike_114 : decode cL_areAlike 114 = .ok (.bipush 12, 2) := by decide +kernel
theorem dL_areAlike_116 : decode cL_areAlike 116 = .ok (.invokestatic 115, 3) := by decide +kernel
theorem dL_areAlike_119 : decode cL_areAlike 119 = .ok (.iload 6, 2) := by decide +kernel
theorem dL_areAlike_121 : decode cL_areAlike 121 = .ok (.invokestatic 118, 3) := by decide +kernel
theorem dL_areAlike_124 : decode cL_areAlike 124 = .ok (.lcmp, 1) := by decide +kernel
theorem dL_areAlike_125 : decode cL_areAlike 125 = .ok (.ifCond .ne 7, 3) := by decide +kernel
theorem dL_areAlike_128 : decode cL_areAlike 128 = .ok (.iconst 1, 1) := by decide +kernel
theorem dL_areAlike_129 : decode cL_areAlike 129 = .ok (.goto 4, 3) := by decide +kernel
theorem dL_areAlike_132 : decode cL_areAlike 132 = .ok (.iconst 0, 1) := by decide +kernel
theorem dL_areAlike_133 : decode cL_areAlike 133 = .ok (.istore 4, 2) := by decide +kernel
theorem dL_areAlike_135 : decode cL_areAlike 135 = .ok (.iconst 0, 1) := by decide +kernel
theorem dL_areAlike_136 : decode cL_areAlike 136 = .ok (.istore 7, 2) := by decide +kernel
theorem dL_areAlike_138 : decode cL_areAlike 138 = .ok (.iload 7, 2) := by decide +kernel
theorem dL_areAlike_140 : decode cL_areAlike 140 = .ok (.bipush 6, 2) := by decide +kernel
theorem dL_areAlike_142 : decode cL_areAlike 142 = .ok (.if_icmp .ge 173, 3) := by decide +kernel
theorem dL_areAlike_145 : decode cL_areAlike 145 = .ok (.iload 4, 2) := by decide +kernel
theorem dL_areAlike_147 : decode cL_areAlike 147 = .ok (.ifCond .eq 168, 3) := by decide +kernel
theorem dL_areAlike_150 : decode cL_areAlike 150 = .ok (.aload_n 0, 1) := by decide +kernel
theorem dL_areAlike_151 : decode cL_areAlike 151 = .ok (.bipush 21, 2) := by decide +kernel
theorem dL_areAlike_153 : decode cL_areAlike 153 = .ok (.iload 5, 2) := by decide +kernel
theorem dL_areAlike_155 : decode cL_areAlike 155 = .ok (.iload 7, 2) := by decide +kernel
theorem dL_areAlike_157 : decode cL_areAlike 157 = .ok (.iconst 0, 1) := by decide +kernel
theorem dL_areAlike_158 : decode cL_areAlike 158 = .ok (.iconst 0, 1) := by decide +kernel
theorem dL_areAlike_159 : decode cL_areAlike 159 = .ok (.invokestatic 118, 3) := by decide +kernel
theorem dL_areAlike_162 : decode cL_areAlike 162 = .ok (.aload_n 1, 1) := by decide +kernel
theorem dL_areAlike_163 : decode cL_areAlike 163 = .ok (.bipush 21, 2) := by decide +kernel
theorem dL_areAlike_165 : decode cL_areAlike 165 = .ok (.iload 5, 2) := by decide +kernel
theorem dL_areAlike_167 : decode cL_areAlike 167 = .ok (.iload 7, 2) := by decide +kernel
theorem dL_areAlike_169 : decode cL_areAlike 169 = .ok (.iconst 0, 1) := by decide +kernel
theorem dL_areAlike_170 : decode cL_areAlike 170 = .ok (.iconst 0, 1) := by decide +kernel
theorem dL_areAlike_171 : decode cL_areAlike 171 = .ok (.invokestatic 118, 3) := by decide +kernel
theorem dL_areAlike_174 : decode cL_areAlike 174 = .ok (.lcmp, 1) := by decide +kernel
theorem dL_areAlike_175 : decode cL_areAlike 175 = .ok (.ifCond .ne 131, 3) := by decide +kernel
theorem dL_areAlike_178 : decode cL_areAlike 178 = .ok (.aload_n 0, 1) := by decide +kernel
theorem dL_areAlike_179 : decode cL_areAlike 179 = .ok (.bipush 22, 2) := by decide +kernel
theorem dL_areAlike_181 : decode cL_areAlike 181 = .ok (.iload 5, 2) := by decide +kernel
theorem dL_areAlike_183 : decode cL_areAlike 183 = .ok (.iload 7, 2) := by decide +kernel
theorem dL_areAlike_185 : decode cL_areAlike 185 = .ok (.iconst 0, 1) := by decide +kernel
theorem dL_areAlike_186 : decode cL_areAlike 186 = .ok (.iconst 0, 1) := by decide +kernel
theorem dL_areAlike_187 : decode cL_areAlike 187 = .ok (.invokestatic 118, 3) := by decide +kernel
theorem dL_areAlike_190 : decode cL_areAlike 190 = .ok (.aload_n 1, 1) := by decide +kernel
theorem dL_areAlike_191 : decode cL_areAlike 191 = .ok (.bipush 22, 2) := by decide +kernel
theorem dL_areAlike_193 : decode cL_areAlike 193 = .ok (.iload 5, 2) := by decide +kernel
theorem dL_areAlike_195 : decode cL_areAlike 195 = .ok (.iload 7, 2) := by decide +kernel
theorem dL_areAlike_197 : decode cL_areAlike 197 = .ok (.iconst 0, 1) := by decide +kernel
theorem dL_areAlike_198 : decode cL_areAlike 198 = .ok (.iconst 0, 1) := by decide +kernel
theorem dL_areAlike_199 : decode cL_areAlike 199 = .ok (.invokestatic 118, 3) := by decide +kernel
theorem dL_areAlike_202 : decode cL_areAlike 202 = .ok (.lcmp, 1) := by decide +kernel
theorem dL_areAlike_203 : decode cL_areAlike 203 = .ok (.ifCond .ne 103, 3) := by decide +kernel
theorem dL_areAlike_206 : decode cL_areAlike 206 = .ok (.aload_n 0, 1) := by decide +kernel
theorem dL_areAlike_207 : decode cL_areAlike 207 = .ok (.bipush 23, 2) := by decide +kernel
theorem dL_areAlike_209 : decode cL_areAlike 209 = .ok (.iload 5, 2) := by decide +kernel
theorem dL_areAlike_211 : decode cL_areAlike 211 = .ok (.iload 7, 2) := by decide +kernel
theorem dL_areAlike_213 : decode cL_areAlike 213 = .ok (.iconst 0, 1) := by decide +kernel
theorem dL_areAlike_214 : decode cL_areAlike 214 = .ok (.iconst 0, 1) := by decide +kernel
theorem dL_areAlike_215 : decode cL_areAlike 215 = .ok (.invokestatic 118, 3) := by decide +kernel
theorem dL_areAlike_218 : decode cL_areAlike 218 = .ok (.aload_n 1, 1) := by decide +kernel
theorem dL_areAlike_219 : decode cL_areAlike 219 = .ok (.bipush 23, 2) := by decide +kernel
theorem dL_areAlike_221 : decode cL_areAlike 221 = .ok (.iload 5, 2) := by decide +kernel
theorem dL_areAlike_223 : decode cL_areAlike 223 = .ok (.iload 7, 2) := by decide +kernel
theorem dL_areAlike_225 : decode cL_areAlike 225 = .ok (.iconst 0, 1) := by decide +kernel
theorem dL_areAlike_226 : decode cL_areAlike 226 = .ok (.iconst 0, 1) := by decide +kernel
theorem dL_areAlike_227 : decode cL_areAlike 227 = .ok (.invokestatic 118, 3) := by decide +kernel
theorem dL_areAlike_230 : decode cL_areAlike 230 = .ok (.lcmp, 1) := by decide +kernel
theorem dL_areAlike_231 : decode cL_areAlike 231 = .ok (.ifCond .ne 75, 3) := by decide +kernel
theorem dL_areAlike_234 : decode cL_areAlike 234 = .ok (.aload_n 0, 1) := by decide +kernel
theorem dL_areAlike_235 : decode cL_areAlike 235 = .ok (.bipush 20, 2) := by decide +kernel
theorem dL_areAlike_237 : decode cL_areAlike 237 = .ok (.iload 5, 2) := by decide +kernel
theorem dL_areAlike_239 : decode cL_areAlike 239 = .ok (.iload 7, 2) := by decide +kernel
theorem dL_areAlike_241 : decode cL_areAlike 241 = .ok (.iconst 1, 1) := by decide +kernel
theorem dL_areAlike_242 : decode cL_areAlike 242 = .ok (.isub, 1) := by decide +kernel
theorem dL_areAlike_243 : decode cL_areAlike 243 = .ok (.iconst 0, 1) := by decide +kernel
theorem dL_areAlike_244 : decode cL_areAlike 244 = .ok (.iconst 0, 1) := by decide +kernel
theorem dL_areAlike_245 : decode cL_areAlike 245 = .ok (.invokestatic 118, 3) := by decide +kernel
theorem dL_areAlike_248 : decode cL_areAlike 248 = .ok (.aload_n 1, 1) := by decide +kernel
theorem dL_areAlike_249 : decode cL_areAlike 249 = .ok (.bipush 20, 2) := by decide +kernel
theorem dL_areAlike_251 : decode cL_areAlike 251 = .ok (.iload 5, 2) := by decide +kernel
theorem dL_areAlike_253 : decode cL_areAlike 253 = .ok (.iload 7, 2) := by decide +kernel
theorem dL_areAlike_255 : decode cL_areAlike 255 = .ok (.iconst 1, 1) := by decide +kernel
theorem dL_areAlike_256 : decode cL_areAlike 256 = .ok (.isub, 1) := by decide +kernel
theorem dL_areAlike_257 : decode cL_areAlike 257 = .ok (.iconst 0, 1) := by decide +kernel
theorem dL_areAlike_258 : decode cL_areAlike 258 = .ok (.iconst 0, 1) := by decide +kernel
theorem dL_areAlike_259 : decode cL_areAlike 259 = .ok (.invokestatic 118, 3) := by decide +kernel
theorem dL_areAlike_262 : decode cL_areAlike 262 = .ok (.lcmp, 1) := by decide +kernel
theorem dL_areAlike_263 : decode cL_areAlike 263 = .ok (.ifCond .ne 43, 3) := by decide +kernel
theorem dL_areAlike_266 : decode cL_areAlike 266 = .ok (.aload_n 0, 1) := by decide +kernel
theorem dL_areAlike_267 : decode cL_areAlike 267 = .ok (.iconst 4, 1) := by decide +kernel
theorem dL_areAlike_268 : decode cL_areAlike 268 = .ok (.iload 5, 2) := by decide +kernel
theorem dL_areAlike_270 : decode cL_areAlike 270 = .ok (.iconst 5, 1) := by decide +kernel
theorem dL_areAlike_271 : decode cL_areAlike 271 = .ok (.irem, 1) := by decide +kernel
theorem dL_areAlike_272 : decode cL_areAlike 272 = .ok (.iconst 1, 1) := by decide +kernel
theorem dL_areAlike_273 : decode cL_areAlike 273 = .ok (.isub, 1) := by decide +kernel
theorem dL_areAlike_274 : decode cL_areAlike 274 = .ok (.iload 7, 2) := by decide +kernel
theorem dL_areAlike_276 : decode cL_areAlike 276 = .ok (.iload 6, 2) := by decide +kernel
theorem dL_areAlike_278 : decode cL_areAlike 278 = .ok (.iconst 0, 1) := by decide +kernel
theorem dL_areAlike_279 : decode cL_areAlike 279 = .ok (.invokestatic 118, 3) := by decide +kernel
theorem dL_areAlike_282 : decode cL_areAlike 282 = .ok (.aload_n 1, 1) := by decide +kernel
theorem dL_areAlike_283 : decode cL_areAlike 283 = .ok (.iconst 4, 1) := by decide +kernel
theorem dL_areAlike_284 : decode cL_areAlike 284 = .ok (.iload 5, 2) := by decide +kernel
theorem dL_areAlike_286 : decode cL_areAlike 286 = .ok (.iconst 5, 1) := by decide +kernel
theorem dL_areAlike_287 : decode cL_areAlike 287 = .ok (.irem, 1) := by decide +kernel
theorem dL_areAlike_288 : decode cL_areAlike 288 = .ok (.iconst 1, 1) := by decide +kernel
theorem dL_areAlike_289 : decode cL_areAlike 289 = .ok (.isub, 1) := by decide +kernel
theorem dL_areAlike_290 : decode cL_areAlike 290 = .ok (.iload 7, 2) := by decide +kernel
theorem dL_areAlike_292 : decode cL_areAlike 292 = .ok (.iload 6, 2) := by decide +kernel
theorem dL_areAlike_294 : decode cL_areAlike 294 = .ok (.iconst 0, 1) := by decide +kernel
theorem dL_areAlike_295 : decode cL_areAlike 295 = .ok (.invokestatic 118, 3) := by decide +kernel
theorem dL_areAlike_298 : decode cL_areAlike 298 = .ok (.lcmp, 1) := by decide +kernel
theorem dL_areAlike_299 : decode cL_areAlike 299 = .ok (.ifCond .ne 7, 3) := by decide +kernel
theorem dL_areAlike_302 : decode cL_areAlike 302 = .ok (.iconst 1, 1) := by decide +kernel
theorem dL_areAlike_303 : decode cL_areAlike 303 = .ok (.goto 4, 3) := by decide +kernel
theorem dL_areAlike_306 : decode cL_areAlike 306 = .ok (.iconst 0, 1) := by decide +kernel
theorem dL_areAlike_307 : decode cL_areAlike 307 = .ok (.istore 4, 2) := by decide +kernel
theorem dL_areAlike_309 : decode cL_areAlike 309 = .ok (.iinc 7 1, 3) := by decide +kernel
theorem dL_areAlike_312 : decode cL_areAlike 312 = .ok (.goto (-174), 3) := by decide +kernel
theorem dL_areAlike_315 : decode cL_areAlike 315 = .ok (.iinc 5 1, 3) := by decide +kernel
theorem dL_areAlike_318 : decode cL_areAlike 318 = .ok (.goto (-284), 3) := by decide +kernel
theorem dL_areAlike_321 : decode cL_areAlike 321 = .ok (.iload 4, 2) := by decide +kernel
theorem dL_areAlike_323 : decode cL_areAlike 323 = .ok (.ireturn, 1) := by decide +kernel
theorem dL_areGoods_0 : decode cL_areGoods 0 = .ok (.aload_n 0, 1) := by decide +kernel
theorem dL_areGoods_1 : decode cL_areGoods 1 = .ok (.invokevirtual 126, 3) := by decide +kernel
theorem dL_areGoods_4 : decode cL_areGoods 4 = .ok (.lload_n 1, 1) := by decide +kernel
theorem dL_areGoods_5 : decode cL_areGoods 5 = .ok (.lcmp, 1) := by decide +kernel
theorem dL_areGoods_6 : decode cL_areGoods 6 = .ok (.ifCond .ne 16, 3) := by decide +kernel
theorem dL_areGoods_9 : decode cL_areGoods 9 = .ok (.aload_n 0, 1) := by decide +kernel
theorem dL_areGoods_10 : decode cL_areGoods 10 = .ok (.invokevirtual 122, 3) := by decide +kernel
theorem dL_areGoods_13 : decode cL_areGoods 13 = .ok (.lconst 0, 1) := by decide +kernel
theorem dL_areGoods_14 : decode cL_areGoods 14 = .ok (.lcmp, 1) := by decide +kernel
theorem dL_areGoods_15 : decode cL_areGoods 15 = .ok (.ifCond .lt 7, 3) := by decide +kernel
theorem dL_areGoods_18 : decode cL_areGoods 18 = .ok (.iconst 1, 1) := by decide +kernel
theorem dL_areGoods_19 : decode cL_areGoods 19 = .ok (.goto 4, 3) := by decide +kernel
theorem dL_areGoods_22 : decode cL_areGoods 22 = .ok (.iconst 0, 1) := by decide +kernel
theorem dL_areGoods_23 : decode cL_areGoods 23 = .ok (.istore_n 3, 1) := by decide +kernel
theorem dL_areGoods_24 : decode cL_areGoods 24 = .ok (.aload_n 0, 1) := by decide +kernel
theorem dL_areGoods_25 : decode cL_areGoods 25 = .ok (.invokevirtual 122, 3) := by decide +kernel
theorem dL_areGoods_28 : decode cL_areGoods 28 = .ok (.lstore 4, 2) := by decide +kernel
theorem dL_areGoods_30 : decode cL_areGoods 30 = .ok (.iconst 0, 1) := by decide +kernel
theorem dL_areGoods_31 : decode cL_areGoods 31 = .ok (.istore 6, 2) := by decide +kernel
theorem dL_areGoods_33 : decode cL_areGoods 33 = .ok (.iconst 0, 1) := by decide +kernel
theorem dL_areGoods_34 : decode cL_areGoods 34 = .ok (.istore 7, 2) := by decide +kernel
theorem dL_areGoods_36 : decode cL_areGoods 36 = .ok (.aload_n 0, 1) := by decide +kernel
theorem dL_areGoods_37 : decode cL_areGoods 37 = .ok (.bipush 21, 2) := by decide +kernel
theorem dL_areGoods_39 : decode cL_areGoods 39 = .ok (.iload 7, 2) := by decide +kernel
theorem dL_areGoods_41 : decode cL_areGoods 41 = .ok (.iconst 1, 1) := by decide +kernel
theorem dL_areGoods_42 : decode cL_areGoods 42 = .ok (.iconst 0, 1) := by decide +kernel
theorem dL_areGoods_43 : decode cL_areGoods 43 = .ok (.iconst 0, 1) := by decide +kernel
theorem dL_areGoods_44 : decode cL_areGoods 44 = .ok (.invokestatic 118, 3) := by decide +kernel
theorem dL_areGoods_47 : decode cL_areGoods 47 = .ok (.lconst 0, 1) := by decide +kernel
theorem dL_areGoods_48 : decode cL_areGoods 48 = .ok (.lcmp, 1) := by decide +kernel
theorem dL_areGoods_49 : decode cL_areGoods 49 = .ok (.ifCond .lt 186, 3) := by decide +kernel
theorem dL_areGoods_52 : decode cL_areGoods 52 = .ok (.iload_n 3, 1) := by decide +kernel
theorem dL_areGoods_53 : decode cL_areGoods 53 = .ok (.ifCond .eq 182, 3) := by decide +kernel
theorem dL_areGoods_56 : decode cL_areGoods 56 = .ok (.aload_n 0, 1) := by decide +kernel
theorem dL_areGoods_57 : decode cL_areGoods 57 = .ok (.iload 7, 2) := by decide +kernel
theorem dL_areGoods_59 : decode cL_areGoods 59 = .ok (.iconst 0, 1) := by decide +kernel
theorem dL_areGoods_60 : decode cL_areGoods 60 = .ok (.invokevirtual 53, 3) := by decide +kernel
theorem dL_areGoods_63 : decode cL_areGoods 63 = .ok (.lstore 8, 2) := by decide +kernel
theorem dL_areGoods_65 : decode cL_areGoods 65 = .ok (.aload_n 0, 1) := by decide +kernel
theorem dL_areGoods_66 : decode cL_areGoods 66 = .ok (.iload 7, 2) := by decide +kernel
theorem dL_areGoods_68 : decode cL_areGoods 68 = .ok (.iconst 2, 1) := by decide +kernel
theorem dL_areGoods_69 : decode cL_areGoods 69 = .ok (.invokevirtual 53, 3) := by decide +kernel
theorem dL_areGoods_72 : decode cL_areGoods 72 = .ok (.lstore 10, 2) := by decide +kernel
theorem dL_areGoods_74 : decode cL_areGoods 74 = .ok (.aload_n 0, 1) := by decide +kernel
theorem dL_areGoods_75 : decode cL_areGoods 75 = .ok (.iload 7, 2) := by decide +kernel
theorem dL_areGoods_77 : decode cL_areGoods 77 = .ok (.iconst 4, 1) := by decide +kernel
theorem dL_areGoods_78 : decode cL_areGoods 78 = .ok (.invokevirtual 53, 3) := by decide +kernel
theorem dL_areGoods_81 : decode cL_areGoods 81 = .ok (.lstore 12, 2) := by decide +kernel
theorem dL_areGoods_83 : decode cL_areGoods 83 = .ok (.lload 4, 2) := by decide +kernel
theorem dL_areGoods_85 : decode cL_areGoods 85 = .ok (.lload 8, 2) := by decide +kernel
theorem dL_areGoods_87 : decode cL_areGoods 87 = .ok (.ladd, 1) := by decide +kernel
theorem dL_areGoods_88 : decode cL_areGoods 88 = .ok (.lstore 4, 2) := by decide +kernel
theorem dL_areGoods_90 : decode cL_areGoods 90 = .ok (.iload 6, 2) := by decide +kernel
theorem dL_areGoods_92 : decode cL_areGoods 92 = .ok (.lload 10, 2) := by decide +kernel
theorem dL_areGoods_94 : decode cL_areGoods 94 = .ok (.l2i, 1) := by decide +kernel
theorem dL_areGoods_95 : decode cL_areGoods 95 = .ok (.iadd, 1) := by decide +kernel
theorem dL_areGoods_96 : decode cL_areGoods 96 = .ok (.istore 6, 2) := by decide +kernel
theorem dL_areGoods_98 : decode cL_areGoods 98 = .ok (.lload 8, 2) := by decide +kernel
theorem dL_areGoods_100 : decode cL_areGoods 100 = .ok (.lconst 0, 1) := by decide +kernel
theorem dL_areGoods_101 : decode cL_areGoods 101 = .ok (.lcmp, 1) := by decide +kernel
theorem dL_areGoods_102 : decode cL_areGoods 102 = .ok (.ifCond .lt 125, 3) := by decide +kernel
theorem dL_areGoods_105 : decode cL_areGoods 105 = .ok (.aload_n 0, 1) := by decide +kernel
theorem dL_areGoods_106 : decode cL_areGoods 106 = .ok (.iload 7, 2) := by decide +kernel
theorem dL_areGoods_108 : decode cL_areGoods 108 = .ok (.iconst 1, 1) := by decide +kernel
theorem dL_areGoods_109 : decode cL_areGoods 109 = .ok (.invokevirtual 53, 3) := by decide +kernel
theorem dL_areGoods_112 : decode cL_areGoods 112 = .ok (.lconst 1, 1) := by decide +kernel
theorem dL_areGoods_113 : decode cL_areGoods 113 = .ok (.lcmp, 1) := by decide +kernel
theorem dL_areGoods_114 : decode cL_areGoods 114 = .ok (.ifCond .eq 31, 3) := by decide +kernel
theorem dL_areGoods_117 : decode cL_areGoods 117 = .ok (.lload 8, 2) := by decide +kernel
theorem dL_areGoods_119 : decode cL_areGoods 119 = .ok (.lconst 0, 1) := by decide +kernel
theorem dL_areGoods_120 : decode cL_areGoods 120 = .ok (.lcmp, 1) := by decide +kernel
theorem dL_areGoods_121 : decode cL_areGoods 121 = .ok (.ifCond .ne 106, 3) := by decide +kernel
theorem dL_areGoods_124 : decode cL_areGoods 124 = .ok (.lload 10, 2) := by decide +kernel
theorem dL_areGoods_126 : decode cL_areGoods 126 = .ok (.lconst 0, 1) := by decide +kernel
theorem dL_areGoods_127 : decode cL_areGoods 127 = .ok (.lcmp, 1) := by decide +kernel
theorem dL_areGoods_128 : decode cL_areGoods 128 = .ok (.ifCond .ne 99, 3) := by decide +kernel
theorem dL_areGoods_131 : decode cL_areGoods 131 = .ok (.aload_n 0, 1) := by decide +kernel
theorem dL_areGoods_132 : decode cL_areGoods 132 = .ok (.iload 7, 2) := by decide +kernel
theorem dL_areGoods_134 : decode cL_areGoods 134 = .ok (.iconst 3, 1) := by decide +kernel
theorem dL_areGoods_135 : decode cL_areGoods 135 = .ok (.invokevirtual 53, 3) := by decide +kernel
theorem dL_areGoods_138 : decode cL_areGoods 138 = .ok (.ldc2_w 129, 3) := by decide +kernel
theorem dL_areGoods_141 : decode cL_areGoods 141 = .ok (.lcmp, 1) := by decide +kernel
theorem dL_areGoods_142 : decode cL_areGoods 142 = .ok (.ifCond .ne 85, 3) := by decide +kernel
theorem dL_areGoods_145 : decode cL_areGoods 145 = .ok (.lload 10, 2) := by decide +kernel
theorem dL_areGoods_147 : decode cL_areGoods 147 = .ok (.lconst 0, 1) := by decide +kernel
theorem dL_areGoods_148 : decode cL_areGoods 148 = .ok (.lcmp, 1) := by decide +kernel
theorem dL_areGoods_149 : decode cL_areGoods 149 = .ok (.ifCond .le 7, 3) := by decide +kernel
theorem dL_areGoods_152 : decode cL_areGoods 152 = .ok (.iconst 1, 1) := by decide +kernel
theorem dL_areGoods_153 : decode cL_areGoods 153 = .ok (.goto 4, 3) := by decide +kernel
theorem dL_areGoods_156 : decode cL_areGoods 156 = .ok (.iconst 0, 1) := by decide +kernel
theorem dL_areGoods_157 : decode cL_areGoods 157 = .ok (.lload 12, 2) := by decide +kernel
theorem dL_areGoods_159 : decode cL_areGoods 159 = .ok (.lconst 0, 1) := by decide +kernel
theorem dL_areGoods_160 : decode cL_areGoods 160 = .ok (.lcmp, 1) := by decide +kernel
theorem dL_areGoods_161 : decode cL_areGoods 161 = .ok (.ifCond .lt 7, 3) := by decide +kernel
theorem dL_areGoods_164 : decode cL_areGoods 164 = .ok (.iconst 1, 1) := by decide +kernel
theorem dL_areGoods_165 : decode cL_areGoods 165 = .ok (.goto 4, 3) := by decide +kernel
theorem dL_areGoods_168 : decode cL_areGoods 168 = .ok (.iconst 0, 1) := by decide +kernel
theorem dL_areGoods_169 : decode cL_areGoods 169 = .ok (.if_icmp .ne 58, 3) := by decide +kernel
theorem dL_areGoods_172 : decode cL_areGoods 172 = .ok (.lload 12, 2) := by decide +kernel
theorem dL_areGoods_174 : decode cL_areGoods 174 = .ok (.lconst 0, 1) := by decide +kernel
theorem dL_areGoods_175 : decode cL_areGoods 175 = .ok (.lcmp, 1) := by decide +kernel
theorem dL_areGoods_176 : decode cL_areGoods 176 = .ok (.ifCond .lt 47, 3) := by decide +kernel
theorem dL_areGoods_179 : decode cL_areGoods 179 = .ok (.aload_n 0, 1) := by decide +kernel
theorem dL_areGoods_180 : decode cL_areGoods 180 = .ok (.lload 12, 2) := by decide +kernel
theorem dL_areGoods_182 : decode cL_areGoods 182 = .ok (.l2i, 1) := by decide +kernel
theorem dL_areGoods_183 : decode cL_areGoods 183 = .ok (.iconst 0, 1) := by decide +kernel
theorem dL_areGoods_184 : decode cL_areGoods 184 = .ok (.invokevirtual 56, 3) := by decide +kernel
theorem dL_areGoods_187 : decode cL_areGoods 187 = .ok (.ifCond .ne 40, 3) := by decide +kernel
theorem dL_areGoods_190 : decode cL_areGoods 190 = .ok (.aload_n 0, 1) := by decide +kernel
theorem dL_areGoods_191 : decode cL_areGoods 191 = .ok (.lload 12, 2) := by decide +kernel
theorem dL_areGoods_193 : decode cL_areGoods 193 = .ok (.l2i, 1) := by decide +kernel
theorem dL_areGoods_194 : decode cL_areGoods 194 = .ok (.iconst 1, 1) := by decide +kernel
theorem dL_areGoods_195 : decode cL_areGoods 195 = .ok (.invokevirtual 56, 3) := by decide +kernel
theorem dL_areGoods_198 : decode cL_areGoods 198 = .ok (.iload 7, 2) := by decide +kernel
theorem dL_areGoods_200 : decode cL_areGoods 200 = .ok (.if_icmp .eq 23, 3) := by decide +kernel
theorem dL_areGoods_203 : decode cL_areGoods 203 = .ok (.aload_n 0, 1) := by decide +kernel
theorem dL_areGoods_204 : decode cL_areGoods 204 = .ok (.lload 12, 2) := by decide +kernel
theorem dL_areGoods_206 : decode cL_areGoods 206 = .ok (.l2i, 1) := by decide +kernel
theorem dL_areGoods_207 : decode cL_areGoods 207 = .ok (.iconst 2, 1) := by decide +kernel
theorem dL_areGoods_208 : decode cL_areGoods 208 = .ok (.invokevirtual 56, 3) := by decide +kernel
theorem dL_areGoods_211 : decode cL_areGoods 211 = .ok (.iload 7, 2) := by decide +kernel
theorem dL_areGoods_213 : decode cL_areGoods 213 = .ok (.if_icmp .ne 14, 3) := by decide +kernel
theorem dL_areGoods_216 : decode cL_areGoods 216 = .ok (.lload 10, 2) := by decide +kernel
theorem dL_areGoods_218 : decode cL_areGoods 218 = .ok (.lconst 1, 1) := by decide +kernel
theorem dL_areGoods_219 : decode cL_areGoods 219 = .ok (.lcmp, 1) := by decide +kernel
theorem dL_areGoods_220 : decode cL_areGoods 220 = .ok (.ifCond .ne 7, 3) := by decide +kernel
theorem dL_areGoods_223 : decode cL_areGoods 223 = .ok (.iconst 1, 1) := by decide +kernel
theorem dL_areGoods_224 : decode cL_areGoods 224 = .ok (.goto 4, 3) := by decide +kernel
theorem dL_areGoods_227 : decode cL_areGoods 227 = .ok (.iconst 0, 1) := by decide +kernel
theorem dL_areGoods_228 : decode cL_areGoods 228 = .ok (.istore_n 3, 1) := by decide +kernel
theorem dL_areGoods_229 : decode cL_areGoods 229 = .ok (.iinc 7 1, 3) := by decide +kernel
theorem dL_areGoods_232 : decode cL_areGoods 232 = .ok (.goto (-196), 3) := by decide +kernel
theorem dL_areGoods_235 : decode cL_areGoods 235 = .ok (.iconst 0, 1) := by decide +kernel
theorem dL_areGoods_236 : decode cL_areGoods 236 = .ok (.istore 7, 2) := by decide +kernel
theorem dL_areGoods_238 : decode cL_areGoods 238 = .ok (.aload_n 0, 1) := by decide +kernel
theorem dL_areGoods_239 : decode cL_areGoods 239 = .ok (.bipush 22, 2) := by decide +kernel
theorem dL_areGoods_241 : decode cL_areGoods 241 = .ok (.iload 7, 2) := by decide +kernel
theorem dL_areGoods_243 : decode cL_areGoods 243 = .ok (.iconst 0, 1) := by decide +kernel
theorem dL_areGoods_244 : decode cL_areGoods 244 = .ok (.iconst 0, 1) := by decide +kernel
theorem dL_areGoods_245 : decode cL_areGoods 245 = .ok (.iconst 0, 1) := by decide +kernel
theorem dL_areGoods_246 : decode cL_areGoods 246 = .ok (.invokestatic 118, 3) := by decide +kernel
theorem dL_areGoods_249 : decode cL_areGoods 249 = .ok (.lconst 0, 1) := by decide +kernel
theorem dL_areGoods_250 : decode cL_areGoods 250 = .ok (.lcmp, 1) := by decide +kernel
theorem dL_areGoods_251 : decode cL_areGoods 251 = .ok (.ifCond .lt 74, 3) := by decide +kernel
theorem dL_areGoods_254 : decode cL_areGoods 254 = .ok (.iload_n 3, 1) := by decide +kernel
theorem dL_areGoods_255 : decode cL_areGoods 255 = .ok (.ifCond .eq 70, 3) := by decide +kernel
theorem dL_areGoods_258 : decode cL_areGoods 258 = .ok (.aload_n 0, 1) := by decide +kernel
theorem dL_areGoods_259 : decode cL_areGoods 259 = .ok (.iload 7, 2) := by decide +kernel
theorem dL_areGoods_261 : decode cL_areGoods 261 = .ok (.iconst 0, 1) := by decide +kernel
theorem dL_areGoods_262 : decode cL_areGoods 262 = .ok (.invokevirtual 56, 3) := by decide +kernel
theorem dL_areGoods_265 : decode cL_areGoods 265 = .ok (.istore 8, 2) := by decide +kernel
theorem dL_areGoods_267 : decode cL_areGoods 267 = .ok (.iload 6, 2) := by decide +kernel
theorem dL_areGoods_269 : decode cL_areGoods 269 = .ok (.iload 8, 2) := by decide +kernel
theorem dL_areGoods_271 : decode cL_areGoods 271 = .ok (.ifCond .ne 7, 3) := by decide +kernel
theorem dL_areGoods_274 : decode cL_areGoods 274 = .ok (.iconst 2, 1) := by decide +kernel
theorem dL_areGoods_275 : decode cL_areGoods 275 = .ok (.goto 4, 3) := by decide +kernel
theorem dL_areGoods_278 : decode cL_areGoods 278 = .ok (.iconst 0, 1) := by decide +kernel
theorem dL_areGoods_279 : decode cL_areGoods 279 = .ok (.isub, 1) := by decide +kernel
theorem dL_areGoods_280 : decode cL_areGoods 280 = .ok (.istore 6, 2) := by decide +kernel
theorem dL_areGoods_282 : decode cL_areGoods 282 = .ok (.iload 8, 2) := by decide +kernel
theorem dL_areGoods_284 : decode cL_areGoods 284 = .ok (.iconst 3, 1) := by decide +kernel
theorem dL_areGoods_285 : decode cL_areGoods 285 = .ok (.if_icmp .ge 32, 3) := by decide +kernel
theorem dL_areGoods_288 : decode cL_areGoods 288 = .ok (.aload_n 0, 1) := by decide +kernel
theorem dL_areGoods_289 : decode cL_areGoods 289 = .ok (.iload 7, 2) := by decide +kernel
theorem dL_areGoods_291 : decode cL_areGoods 291 = .ok (.iconst 3, 1) := by decide +kernel
theorem dL_areGoods_292 : decode cL_areGoods 292 = .ok (.invokevirtual 56, 3) := by decide +kernel
theorem dL_areGoods_295 : decode cL_areGoods 295 = .ok (.ifCond .lt 22, 3) := by decide +kernel
theorem dL_areGoods_298 : decode cL_areGoods 298 = .ok (.iload 8, 2) := by decide +kernel
theorem dL_areGoods_300 : decode cL_areGoods 300 = .ok (.ifCond .eq 13, 3) := by decide +kernel
theorem dL_areGoods_303 : decode cL_areGoods 303 = .ok (.aload_n 0, 1) := by decide +kernel
theorem dL_areGoods_304 : decode cL_areGoods 304 = .ok (.iload 7, 2) := by decide +kernel
theorem dL_areGoods_306 : decode cL_areGoods 306 = .ok (.iconst 3, 1) := by decide +kernel
theorem dL_areGoods_307 : decode cL_areGoods 307 = .ok (.invokevirtual 56, 3) := by decide +kernel
theorem dL_areGoods_310 : decode cL_areGoods 310 = .ok (.ifCond .ne 7, 3) := by decide +kernel
theorem dL_areGoods_313 : decode cL_areGoods 313 = .ok (.iconst 1, 1) := by decide +kernel
theorem dL_areGoods_314 : decode cL_areGoods 314 = .ok (.goto 4, 3) := by decide +kernel
theorem dL_areGoods_317 : decode cL_areGoods 317 = .ok (.iconst 0, 1) := by decide +kernel
theorem dL_areGoods_318 : decode cL_areGoods 318 = .ok (.istore_n 3, 1) := by decide +kernel
theorem dL_areGoods_319 : decode cL_areGoods 319 = .ok (.iinc 7 1, 3) := by decide +kernel
theorem dL_areGoods_322 : decode cL_areGoods 322 = .ok (.goto (-84), 3) := by decide +kernel
theorem dL_areGoods_325 : decode cL_areGoods 325 = .ok (.iload_n 3, 1) := by decide +kernel
theorem dL_areGoods_326 : decode cL_areGoods 326 = .ok (.ifCond .eq 19, 3) := by decide +kernel
theorem dL_areGoods_329 : decode cL_areGoods 329 = .ok (.lload 4, 2) := by decide +kernel
theorem dL_areGoods_331 : decode cL_areGoods 331 = .ok (.lload_n 1, 1) := by decide +kernel
theorem dL_areGoods_332 : decode cL_areGoods 332 = .ok (.lcmp, 1) := by decide +kernel
theorem dL_areGoods_333 : decode cL_areGoods 333 = .ok (.ifCond .ne 12, 3) := by decide +kernel
theorem dL_areGoods_336 : decode cL_areGoods 336 = .ok (.iload 6, 2) := by decide +kernel
theorem dL_areGoods_338 : decode cL_areGoods 338 = .ok (.ifCond .ne 7, 3) := by decide +kernel
theorem dL_areGoods_341 : decode cL_areGoods 341 = .ok (.iconst 1, 1) := by decide +kernel
theorem dL_areGoods_342 : decode cL_areGoods 342 = .ok (.goto 4, 3) := by decide +kernel
theorem dL_areGoods_345 : decode cL_areGoods 345 = .ok (.iconst 0, 1) := by decide +kernel
theorem dL_areGoods_346 : decode cL_areGoods 346 = .ok (.ireturn, 1) := by decide +kernel
theorem dL_areSuits_0 : decode cL_areSuits 0 = .ok (.iconst 1, 1) := by decide +kernel
theorem dL_areSuits_1 : decode cL_areSuits 1 = .ok (.istore_n 2, 1) := by decide +kernel
theorem dL_areSuits_2 : decode cL_areSuits 2 = .ok (.iconst 0, 1) := by decide +kernel
theorem dL_areSuits_3 : decode cL_areSuits 3 = .ok (.istore_n 3, 1) := by decide +kernel
theorem dL_areSuits_4 : decode cL_areSuits 4 = .ok (.aload_n 0, 1) := by decide +kernel
theorem dL_areSuits_5 : decode cL_areSuits 5 = .ok (.bipush 23, 2) := by decide +kernel
theorem dL_areSuits_7 : decode cL_areSuits 7 = .ok (.iload_n 3, 1) := by decide +kernel
theorem dL_areSuits_8 : decode cL_areSuits 8 = .ok (.iconst 0, 1) := by decide +kernel
theorem dL_areSuits_9 : decode cL_areSuits 9 = .ok (.iconst 0, 1) := by decide +kernel
theorem dL_areSuits_10 : decode cL_areSuits 10 = .ok (.iconst 0, 1) := by decide +kernel
theorem dL_areSuits_11 : decode cL_areSuits 11 = .ok (.invokestatic 118, 3) := by decide +kernel
theorem dL_areSuits_14 : decode cL_areSuits 14 = .ok (.lconst 0, 1) := by decide +kernel
theorem dL_areSuits_15 : decode cL_areSuits 15 = .ok (.lcmp, 1) := by decide +kernel
theorem dL_areSuits_16 : decode cL_areSuits 16 = .ok (.ifCond .lt 119, 3) := by decide +kernel
theorem dL_areSuits_19 : decode cL_areSuits 19 = .ok (.iload_n 2, 1) := by decide +kernel
theorem dL_areSuits_20 : decode cL_areSuits 20 = .ok (.ifCond .eq 115, 3) := by decide +kernel
theorem dL_areSuits_23 : decode cL_areSuits 23 = .ok (.aload_n 0, 1) := by decide +kernel
theorem dL_areSuits_24 : decode cL_areSuits 24 = .ok (.iload_n 3, 1) := by decide +kernel
theorem dL_areSuits_25 : decode cL_areSuits 25 = .ok (.iconst 0, 1) := by decide +kernel
theorem dL_areSuits_26 : decode cL_areSuits 26 = .ok (.invokevirtual 60, 3) := by decide +kernel
theorem dL_areSuits_29 : decode cL_areSuits 29 = .ok (.istore 4, 2) := by decide +kernel
theorem dL_areSuits_31 : decode cL_areSuits 31 = .ok (.aload_n 0, 1) := by decide +kernel
theorem dL_areSuits_32 : decode cL_areSuits 32 = .ok (.iload_n 3, 1) := by decide +kernel
theorem dL_areSuits_33 : decode cL_areSuits 33 = .ok (.iconst 4, 1) := by decide +kernel
theorem dL_areSuits_34 : decode cL_areSuits 34 = .ok (.invokevirtual 60, 3) := by decide +kernel
theorem dL_areSuits_37 : decode cL_areSuits 37 = .ok (.istore 5, 2) := by decide +kernel
theorem dL_areSuits_39 : decode cL_areSuits 39 = .ok (.iload 5, 2) := by decide +kernel
theorem dL_areSuits_41 : decode cL_areSuits 41 = .ok (.ifCond .lt 7, 3) := by decide +kernel
theorem dL_areSuits_44 : decode cL_areSuits 44 = .ok (.iconst 1, 1) := by decide +kernel
theorem dL_areSuits_45 : decode cL_areSuits 45 = .ok (.goto 4, 3) := by decide +kernel
theorem dL_areSuits_48 : decode cL_areSuits 48 = .ok (.iconst 0, 1) := by decide +kernel
theorem dL_areSuits_49 : decode cL_areSuits 49 = .ok (.iload 4, 2) := by decide +kernel
theorem dL_areSuits_51 : decode cL_areSuits 51 = .ok (.iconst 1, 1) := by decide +kernel
theorem dL_areSuits_52 : decode cL_areSuits 52 = .ok (.if_icmp .le 7, 3) := by decide +kernel
theorem dL_areSuits_55 : decode cL_areSuits 55 = .ok (.iconst 1, 1) := by decide +kernel
theorem dL_areSuits_56 : decode cL_areSuits 56 = .ok (.goto 4, 3) := by decide +kernel
theorem dL_areSuits_59 : decode cL_areSuits 59 = .ok (.iconst 0, 1) := by decide +kernel
theorem dL_areSuits_60 : decode cL_areSuits 60 = .ok (.if_icmp .ne 67, 3) := by decide +kernel
theorem dL_areSuits_63 : decode cL_areSuits 63 = .ok (.iload 5, 2) := by decide +kernel
theorem dL_areSuits_65 : decode cL_areSuits 65 = .ok (.iload_n 1, 1) := by decide +kernel
theorem dL_areSuits_66 : decode cL_areSuits 66 = .ok (.if_icmp .gt 61, 3) := by decide +kernel
theorem dL_areSuits_69 : decode cL_areSuits 69 = .ok (.iload 4, 2) := by decide +kernel
theorem dL_areSuits_71 : decode cL_areSuits 71 = .ok (.iconst 2, 1) := by decide +kernel
theorem dL_areSuits_72 : decode cL_areSuits 72 = .ok (.if_icmp .eq 12, 3) := by decide +kernel
theorem dL_areSuits_75 : decode cL_areSuits 75 = .ok (.aload_n 0, 1) := by decide +kernel
theorem dL_areSuits_76 : decode cL_areSuits 76 = .ok (.iload_n 3, 1) := by decide +kernel
theorem dL_areSuits_77 : decode cL_areSuits 77 = .ok (.iconst 3, 1) := by decide +kernel
theorem dL_areSuits_78 : decode cL_areSuits 78 = .ok (.invokevirtual 60, 3) := by decide +kernel
theorem dL_areSuits_81 : decode cL_areSuits 81 = .ok (.ifCond .ne 46, 3) := by decide +kernel
theorem dL_areSuits_84 : decode cL_areSuits 84 = .ok (.aload_n 0, 1) := by decide +kernel
theorem dL_areSuits_85 : decode cL_areSuits 85 = .ok (.iload_n 3, 1) := by decide +kernel
theorem dL_areSuits_86 : decode cL_areSuits 86 = .ok (.iconst 3, 1) := by decide +kernel
theorem dL_areSuits_87 : decode cL_areSuits 87 = .ok (.invokevirtual 60, 3) := by decide +kernel
theorem dL_areSuits_90 : decode cL_areSuits 90 = .ok (.ifCond .lt 37, 3) := by decide +kernel
theorem dL_areSuits_93 : decode cL_areSuits 93 = .ok (.aload_n 0, 1) := by decide +kernel
theorem dL_areSuits_94 : decode cL_areSuits 94 = .ok (.iload_n 3, 1) := by decide +kernel
theorem dL_areSuits_95 : decode cL_areSuits 95 = .ok (.iconst 2, 1) := by decide +kernel
theorem dL_areSuits_96 : decode cL_areSuits 96 = .ok (.invokevirtual 60, 3) := by decide +kernel
theorem dL_areSuits_99 : decode cL_areSuits 99 = .ok (.iconst 1, 1) := by decide +kernel
theorem dL_areSuits_100 : decode cL_areSuits 100 = .ok (.if_icmp .gt 12, 3) := by decide +kernel
theorem dL_areSuits_103 : decode cL_areSuits 103 = .ok (.aload_n 0, 1) := by decide +kernel
theorem dL_areSuits_104 : decode cL_areSuits 104 = .ok (.iload_n 3, 1) := by decide +kernel
theorem dL_areSuits_105 : decode cL_areSuits 105 = .ok (.iconst (-1), 1) := by decide +kernel
theorem dL_areSuits_106 : decode cL_areSuits 106 = .ok (.invokevirtual 49, 3) := by decide +kernel
theorem dL_areSuits_109 : decode cL_areSuits 109 = .ok (.ifCond .ne 18, 3) := by decide +kernel
theorem dL_areSuits_112 : decode cL_areSuits 112 = .ok (.aload_n 0, 1) := by decide +kernel
theorem dL_areSuits_113 : decode cL_areSuits 113 = .ok (.iload_n 3, 1) := by decide +kernel
theorem dL_areSuits_114 : decode cL_areSuits 114 = .ok (.iconst 2, 1) := by decide +kernel
theorem dL_areSuits_115 : decode cL_areSuits 115 = .ok (.invokevirtual 60, 3) := by decide +kernel
theorem dL_areSuits_118 : decode cL_areSuits 118 = .ok (.bipush 39, 2) := by decide +kernel
theorem dL_areSuits_120 : decode cL_areSuits 120 = .ok (.if_icmp .ge 7, 3) := by decide +kernel
theorem dL_areSuits_123 : decode cL_areSuits 123 = .ok (.iconst 1, 1) := by decide +kernel
theorem dL_areSuits_124 : decode cL_areSuits 124 = .ok (.goto 4, 3) := by decide +kernel
theorem dL_areSuits_127 : decode cL_areSuits 127 = .ok (.iconst 0, 1) := by decide +kernel
theorem dL_areSuits_128 : decode cL_areSuits 128 = .ok (.istore_n 2, 1) := by decide +kernel
theorem dL_areSuits_129 : decode cL_areSuits 129 = .ok (.iinc 3 1, 3) := by decide +kernel
theorem dL_areSuits_132 : decode cL_areSuits 132 = .ok (.goto (-128), 3) := by decide +kernel
theorem dL_areSuits_135 : decode cL_areSuits 135 = .ok (.iload_n 2, 1) := by decide +kernel
theorem dL_areSuits_136 : decode cL_areSuits 136 = .ok (.ireturn, 1) := by decide +kernel
theorem dL_isQuiet_0 : decode cL_isQuiet 0 = .ok (.iload_n 3, 1) := by decide +kernel
theorem dL_isQuiet_1 : decode cL_isQuiet 1 = .ok (.iconst 5, 1) := by decide +kernel
theorem dL_isQuiet_2 : decode cL_isQuiet 2 = .ok (.invokestatic 115, 3) := by decide +kernel
theorem dL_isQuiet_5 : decode cL_isQuiet 5 = .ok (.iconst 1, 1) := by decide +kernel
theorem dL_isQuiet_6 : decode cL_isQuiet 6 = .ok (.isub, 1) := by decide +kernel
theorem dL_isQuiet_7 : decode cL_isQuiet 7 = .ok (.istore 4, 2) := by decide +kernel
theorem dL_isQuiet_9 : decode cL_isQuiet 9 = .ok (.iload_n 3, 1) := by decide +kernel
theorem dL_isQuiet_10 : decode cL_isQuiet 10 = .ok (.iconst 3, 1) := by decide +kernel
theorem dL_isQuiet_11 : decode cL_isQuiet 11 = .ok (.ishr, 1) := by decide +kernel
theorem dL_isQuiet_12 : decode cL_isQuiet 12 = .ok (.bipush 7, 2) := by decide +kernel
theorem dL_isQuiet_14 : decode cL_isQuiet 14 = .ok (.invokestatic 115, 3) := by decide +kernel
theorem dL_isQuiet_17 : decode cL_isQuiet 17 = .ok (.istore 5, 2) := by decide +kernel
theorem dL_isQuiet_19 : decode cL_isQuiet 19 = .ok (.aload_n 0, 1) := by decide +kernel
theorem dL_isQuiet_20 : decode cL_isQuiet 20 = .ok (.iload 4, 2) := by decide +kernel
theorem dL_isQuiet_22 : decode cL_isQuiet 22 = .ok (.iload 5, 2) := by decide +kernel
theorem dL_isQuiet_24 : decode cL_isQuiet 24 = .ok (.iload_n 2, 1) := by decide +kernel
theorem dL_isQuiet_25 : decode cL_isQuiet 25 = .ok (.invokevirtual 90, 3) := by decide +kernel
theorem dL_isQuiet_28 : decode cL_isQuiet 28 = .ok (.istore 6, 2) := by decide +kernel
theorem dL_isQuiet_30 : decode cL_isQuiet 30 = .ok (.iload_n 3, 1) := by decide +kernel
theorem dL_isQuiet_31 : decode cL_isQuiet 31 = .ok (.iconst 2, 1) := by decide +kernel
theorem dL_isQuiet_32 : decode cL_isQuiet 32 = .ok (.ishr, 1) := by decide +kernel
theorem dL_isQuiet_33 : decode cL_isQuiet 33 = .ok (.iconst 4, 1) := by decide +kernel
theorem dL_isQuiet_34 : decode cL_isQuiet 34 = .ok (.invokestatic 115, 3) := by decide +kernel
theorem dL_isQuiet_37 : decode cL_isQuiet 37 = .ok (.istore 7, 2) := by decide +kernel
theorem dL_isQuiet_39 : decode cL_isQuiet 39 = .ok (.iload_n 3, 1) := by decide +kernel
theorem dL_isQuiet_40 : decode cL_isQuiet 40 = .ok (.iconst 4, 1) := by decide +kernel
theorem dL_isQuiet_41 : decode cL_isQuiet 41 = .ok (.ishr, 1) := by decide +kernel
theorem dL_isQuiet_42 : decode cL_isQuiet 42 = .ok (.bipush 8, 2) := by decide +kernel
theorem dL_isQuiet_44 : decode cL_isQuiet 44 = .ok (.invokestatic 115, 3) := by decide +kernel
theorem dL_isQuiet_47 : decode cL_isQuiet 47 = .ok (.istore 8, 2) := by decide +kernel
theorem dL_isQuiet_49 : decode cL_isQuiet 49 = .ok (.aload_n 0, 1) := by decide +kernel
theorem dL_isQuiet_50 : decode cL_isQuiet 50 = .ok (.iload 7, 2) := by decide +kernel
theorem dL_isQuiet_52 : decode cL_isQuiet 52 = .ok (.iload 8, 2) := by decide +kernel
theorem dL_isQuiet_54 : decode cL_isQuiet 54 = .ok (.iload_n 3, 1) := by decide +kernel
theorem dL_isQuiet_55 : decode cL_isQuiet 55 = .ok (.iconst 5, 1) := by decide +kernel
theorem dL_isQuiet_56 : decode cL_isQuiet 56 = .ok (.ishr, 1) := by decide +kernel
theorem dL_isQuiet_57 : decode cL_isQuiet 57 = .ok (.bipush 8, 2) := by decide +kernel
theorem dL_isQuiet_59 : decode cL_isQuiet 59 = .ok (.invokestatic 115, 3) := by decide +kernel
theorem dL_isQuiet_62 : decode cL_isQuiet 62 = .ok (.iload_n 2, 1) := by decide +kernel
theorem dL_isQuiet_63 : decode cL_isQuiet 63 = .ok (.invokevirtual 93, 3) := by decide +kernel
theorem dL_isQuiet_66 : decode cL_isQuiet 66 = .ok (.istore 9, 2) := by decide +kernel
theorem dL_isQuiet_68 : decode cL_isQuiet 68 = .ok (.aload_n 0, 1) := by decide +kernel
theorem dL_isQuiet_69 : decode cL_isQuiet 69 = .ok (.iconst 2, 1) := by decide +kernel
theorem dL_isQuiet_70 : decode cL_isQuiet 70 = .ok (.iload 4, 2) := by decide +kernel
theorem dL_isQuiet_72 : decode cL_isQuiet 72 = .ok (.iload 5, 2) := by decide +kernel
theorem dL_isQuiet_74 : decode cL_isQuiet 74 = .ok (.iload 6, 2) := by decide +kernel
theorem dL_isQuiet_76 : decode cL_isQuiet 76 = .ok (.iconst 0, 1) := by decide +kernel
theorem dL_isQuiet_77 : decode cL_isQuiet 77 = .ok (.invokestatic 118, 3) := by decide +kernel
theorem dL_isQuiet_80 : decode cL_isQuiet 80 = .ok (.lstore 10, 2) := by decide +kernel
theorem dL_isQuiet_82 : decode cL_isQuiet 82 = .ok (.lload 10, 2) := by decide +kernel
theorem dL_isQuiet_84 : decode cL_isQuiet 84 = .ok (.iload 6, 2) := by decide +kernel
theorem dL_isQuiet_86 : decode cL_isQuiet 86 = .ok (.i2l, 1) := by decide +kernel
theorem dL_isQuiet_87 : decode cL_isQuiet 87 = .ok (.lcmp, 1) := by decide +kernel
theorem dL_isQuiet_88 : decode cL_isQuiet 88 = .ok (.ifCond .eq 12, 3) := by decide +kernel
theorem dL_isQuiet_91 : decode cL_isQuiet 91 = .ok (.lload 10, 2) := by decide +kernel
theorem dL_isQuiet_93 : decode cL_isQuiet 93 = .ok (.ldc2_w 69, 3) := by decide +kernel
theorem dL_isQuiet_96 : decode cL_isQuiet 96 = .ok (.lcmp, 1) := by decide +kernel
theorem dL_isQuiet_97 : decode cL_isQuiet 97 = .ok (.ifCond .ne 39, 3) := by decide +kernel
theorem dL_isQuiet_100 : decode cL_isQuiet 100 = .ok (.aload_n 1, 1) := by decide +kernel
theorem dL_isQuiet_101 : decode cL_isQuiet 101 = .ok (.iconst 2, 1) := by decide +kernel
theorem dL_isQuiet_102 : decode cL_isQuiet 102 = .ok (.iload 4, 2) := by decide +kernel
theorem dL_isQuiet_104 : decode cL_isQuiet 104 = .ok (.iload 5, 2) := by decide +kernel
theorem dL_isQuiet_106 : decode cL_isQuiet 106 = .ok (.iload 6, 2) := by decide +kernel
theorem dL_isQuiet_108 : decode cL_isQuiet 108 = .ok (.iconst 0, 1) := by decide +kernel
theorem dL_isQuiet_109 : decode cL_isQuiet 109 = .ok (.invokestatic 118, 3) := by decide +kernel
theorem dL_isQuiet_112 : decode cL_isQuiet 112 = .ok (.lload 10, 2) := by decide +kernel
theorem dL_isQuiet_114 : decode cL_isQuiet 114 = .ok (.lcmp, 1) := by decide +kernel
theorem dL_isQuiet_115 : decode cL_isQuiet 115 = .ok (.ifCond .ne 21, 3) := by decide +kernel
theorem dL_isQuiet_118 : decode cL_isQuiet 118 = .ok (.aload_n 0, 1) := by decide +kernel
theorem dL_isQuiet_119 : decode cL_isQuiet 119 = .ok (.iload 4, 2) := by decide +kernel
theorem dL_isQuiet_121 : decode cL_isQuiet 121 = .ok (.iload 5, 2) := by decide +kernel
theorem dL_isQuiet_123 : decode cL_isQuiet 123 = .ok (.iload_n 2, 1) := by decide +kernel
theorem dL_isQuiet_124 : decode cL_isQuiet 124 = .ok (.invokevirtual 90, 3) := by decide +kernel
theorem dL_isQuiet_127 : decode cL_isQuiet 127 = .ok (.iload 6, 2) := by decide +kernel
theorem dL_isQuiet_129 : decode cL_isQuiet 129 = .ok (.if_icmp .ne 7, 3) := by decide +kernel
theorem dL_isQuiet_132 : decode cL_isQuiet 132 = .ok (.iconst 1, 1) := by decide +kernel
theorem dL_isQuiet_133 : decode cL_isQuiet 133 = .ok (.goto 4, 3) := by decide +kernel
theorem dL_isQuiet_136 : decode cL_isQuiet 136 = .ok (.iconst 0, 1) := by decide +kernel
theorem dL_isQuiet_137 : decode cL_isQuiet 137 = .ok (.istore 12, 2) := by decide +kernel
theorem dL_isQuiet_139 : decode cL_isQuiet 139 = .ok (.iload_n 3, 1) := by decide +kernel
theorem dL_isQuiet_140 : decode cL_isQuiet 140 = .ok (.iconst 3, 1) := by decide +kernel
theorem dL_isQuiet_141 : decode cL_isQuiet 141 = .ok (.ishr, 1) := by decide +kernel
theorem dL_isQuiet_142 : decode cL_isQuiet 142 = .ok (.iconst 4, 1) := by decide +kernel
theorem dL_isQuiet_143 : decode cL_isQuiet 143 = .ok (.invokestatic 115, 3) := by decide +kernel
theorem dL_isQuiet_146 : decode cL_isQuiet 146 = .ok (.istore 13, 2) := by decide +kernel
theorem dL_isQuiet_148 : decode cL_isQuiet 148 = .ok (.aload_n 0, 1) := by decide +kernel
theorem dL_isQuiet_149 : decode cL_isQuiet 149 = .ok (.iload 13, 2) := by decide +kernel
theorem dL_isQuiet_151 : decode cL_isQuiet 151 = .ok (.iconst 1, 1) := by decide +kernel
theorem dL_isQuiet_152 : decode cL_isQuiet 152 = .ok (.invokevirtual 79, 3) := by decide +kernel
theorem dL_isQuiet_155 : decode cL_isQuiet 155 = .ok (.istore 14, 2) := by decide +kernel
theorem dL_isQuiet_157 : decode cL_isQuiet 157 = .ok (.iload 12, 2) := by decide +kernel
theorem dL_isQuiet_159 : decode cL_isQuiet 159 = .ok (.ifCond .eq 88, 3) := by decide +kernel
theorem dL_isQuiet_162 : decode cL_isQuiet 162 = .ok (.aload_n 0, 1) := by decide +kernel
theorem dL_isQuiet_163 : decode cL_isQuiet 163 = .ok (.iload 13, 2) := by decide +kernel
theorem dL_isQuiet_165 : decode cL_isQuiet 165 = .ok (.iload 14, 2) := by decide +kernel
theorem dL_isQuiet_167 : decode cL_isQuiet 167 = .ok (.invokevirtual 79, 3) := by decide +kernel
theorem dL_isQuiet_170 : decode cL_isQuiet 170 = .ok (.ifCond .eq 77, 3) := by decide +kernel
theorem dL_isQuiet_173 : decode cL_isQuiet 173 = .ok (.aload_n 1, 1) := by decide +kernel
theorem dL_isQuiet_174 : decode cL_isQuiet 174 = .ok (.iload 13, 2) := by decide +kernel
theorem dL_isQuiet_176 : decode cL_isQuiet 176 = .ok (.iload 14, 2) := by decide +kernel
theorem dL_isQuiet_178 : decode cL_isQuiet 178 = .ok (.invokevirtual 79, 3) := by decide +kernel
theorem dL_isQuiet_181 : decode cL_isQuiet 181 = .ok (.iload 14, 2) := by decide +kernel
theorem dL_isQuiet_183 : decode cL_isQuiet 183 = .ok (.if_icmp .ne 64, 3) := by decide +kernel
theorem dL_isQuiet_186 : decode cL_isQuiet 186 = .ok (.aload_n 0, 1) := by decide +kernel
theorem dL_isQuiet_187 : decode cL_isQuiet 187 = .ok (.iload 7, 2) := by decide +kernel
theorem dL_isQuiet_189 : decode cL_isQuiet 189 = .ok (.iload 8, 2) := by decide +kernel
theorem dL_isQuiet_191 : decode cL_isQuiet 191 = .ok (.iload_n 3, 1) := by decide +kernel
theorem dL_isQuiet_192 : decode cL_isQuiet 192 = .ok (.iconst 5, 1) := by decide +kernel
theorem dL_isQuiet_193 : decode cL_isQuiet 193 = .ok (.ishr, 1) := by decide +kernel
theorem dL_isQuiet_194 : decode cL_isQuiet 194 = .ok (.bipush 8, 2) := by decide +kernel
theorem dL_isQuiet_196 : decode cL_isQuiet 196 = .ok (.invokestatic 115, 3) := by decide +kernel
theorem dL_isQuiet_199 : decode cL_isQuiet 199 = .ok (.iload_n 2, 1) := by decide +kernel
theorem dL_isQuiet_200 : decode cL_isQuiet 200 = .ok (.invokevirtual 93, 3) := by decide +kernel
theorem dL_isQuiet_203 : decode cL_isQuiet 203 = .ok (.iload 9, 2) := by decide +kernel
theorem dL_isQuiet_205 : decode cL_isQuiet 205 = .ok (.if_icmp .ne 42, 3) := by decide +kernel
theorem dL_isQuiet_208 : decode cL_isQuiet 208 = .ok (.iload 9, 2) := by decide +kernel
theorem dL_isQuiet_210 : decode cL_isQuiet 210 = .ok (.ifCond .lt 33, 3) := by decide +kernel
theorem dL_isQuiet_213 : decode cL_isQuiet 213 = .ok (.aload_n 0, 1) := by decide +kernel
theorem dL_isQuiet_214 : decode cL_isQuiet 214 = .ok (.iload 8, 2) := by decide +kernel
theorem dL_isQuiet_216 : decode cL_isQuiet 216 = .ok (.iload_n 2, 1) := by decide +kernel
theorem dL_isQuiet_217 : decode cL_isQuiet 217 = .ok (.invokevirtual 106, 3) := by decide +kernel
theorem dL_isQuiet_220 : decode cL_isQuiet 220 = .ok (.iload 9, 2) := by decide +kernel
theorem dL_isQuiet_222 : decode cL_isQuiet 222 = .ok (.if_icmp .eq 21, 3) := by decide +kernel
theorem dL_isQuiet_225 : decode cL_isQuiet 225 = .ok (.aload_n 0, 1) := by decide +kernel
theorem dL_isQuiet_226 : decode cL_isQuiet 226 = .ok (.iload_n 3, 1) := by decide +kernel
theorem dL_isQuiet_227 : decode cL_isQuiet 227 = .ok (.iconst 5, 1) := by decide +kernel
theorem dL_isQuiet_228 : decode cL_isQuiet 228 = .ok (.ishr, 1) := by decide +kernel
theorem dL_isQuiet_229 : decode cL_isQuiet 229 = .ok (.bipush 8, 2) := by decide +kernel
theorem dL_isQuiet_231 : decode cL_isQuiet 231 = .ok (.invokestatic 115, 3) := by decide +kernel
theorem dL_isQuiet_234 : decode cL_isQuiet 234 = .ok (.iload_n 2, 1) := by decide +kernel
theorem dL_isQuiet_235 : decode cL_isQuiet 235 = .ok (.invokevirtual 106, 3) := by decide +kernel
theorem dL_isQuiet_238 : decode cL_isQuiet 238 = .ok (.iload 9, 2) := by decide +kernel
theorem dL_isQuiet_240 : decode cL_isQuiet 240 = .ok (.if_icmp .ne 7, 3) := by decide +kernel
theorem dL_isQuiet_243 : decode cL_isQuiet 243 = .ok (.iconst 1, 1) := by decide +kernel
theorem dL_isQuiet_244 : decode cL_isQuiet 244 = .ok (.goto 4, 3) := by decide +kernel
theorem dL_isQuiet_247 : decode cL_isQuiet 247 = .ok (.iconst 0, 1) := by decide +kernel
theorem dL_isQuiet_248 : decode cL_isQuiet 248 = .ok (.ireturn, 1) := by decide +kernel
theorem dL_law_0 : decode cL_law 0 = .ok (.new 15, 3) := by decide +kernel
theorem dL_law_3 : decode cL_law 3 = .ok (.dup, 1) := by decide +kernel
theorem dL_law_4 : decode cL_law 4 = .ok (.invokespecial 131, 3) := by decide +kernel
theorem dL_law_7 : decode cL_law 7 = .ok (.astore_n 1, 1) := by decide +kernel
theorem dL_law_8 : decode cL_law 8 = .ok (.new 15, 3) := by decide +kernel
theorem dL_law_11 : decode cL_law 11 = .ok (.dup, 1) := by decide +kernel
theorem dL_law_12 : decode cL_law 12 = .ok (.invokespecial 131, 3) := by decide +kernel
theorem dL_law_15 : decode cL_law 15 = .ok (.astore_n 2, 1) := by decide +kernel
theorem dL_law_16 : decode cL_law 16 = .ok (.iconst 1, 1) := by decide +kernel
theorem dL_law_17 : decode cL_law 17 = .ok (.istore_n 3, 1) := by decide +kernel
theorem dL_law_18 : decode cL_law 18 = .ok (.iconst 0, 1) := by decide +kernel
theorem dL_law_19 : decode cL_law 19 = .ok (.istore 4, 2) := by decide +kernel
theorem dL_law_21 : decode cL_law 21 = .ok (.iload 4, 2) := by decide +kernel
theorem dL_law_23 : decode cL_law 23 = .ok (.iconst 4, 1) := by decide +kernel
theorem dL_law_24 : decode cL_law 24 = .ok (.if_icmp .ge 37, 3) := by decide +kernel
theorem dL_law_27 : decode cL_law 27 = .ok (.iload_n 3, 1) := by decide +kernel
theorem dL_law_28 : decode cL_law 28 = .ok (.ifCond .eq 33, 3) := by decide +kernel
theorem dL_law_31 : decode cL_law 31 = .ok (.aload_n 1, 1) := by decide +kernel
theorem dL_law_32 : decode cL_law 32 = .ok (.invokevirtual 75, 3) := by decide +kernel
theorem dL_law_35 : decode cL_law 35 = .ok (.iload 4, 2) := by decide +kernel
theorem dL_law_37 : decode cL_law 37 = .ok (.if_icmp .ne 16, 3) := by decide +kernel
theorem dL_law_40 : decode cL_law 40 = .ok (.aload_n 2, 1) := by decide +kernel
theorem dL_law_41 : decode cL_law 41 = .ok (.invokevirtual 75, 3) := by decide +kernel
theorem dL_law_44 : decode cL_law 44 = .ok (.iload 4, 2) := by decide +kernel
theorem dL_law_46 : decode cL_law 46 = .ok (.if_icmp .ne 7, 3) := by decide +kernel
theorem dL_law_49 : decode cL_law 49 = .ok (.iconst 1, 1) := by decide +kernel
theorem dL_law_50 : decode cL_law 50 = .ok (.goto 4, 3) := by decide +kernel
theorem dL_law_53 : decode cL_law 53 = .ok (.iconst 0, 1) := by decide +kernel
theorem dL_law_54 : decode cL_law 54 = .ok (.istore_n 3, 1) := by decide +kernel
theorem dL_law_55 : decode cL_law 55 = .ok (.iinc 4 1, 3) := by decide +kernel
theorem dL_law_58 : decode cL_law 58 = .ok (.goto (-37), 3) := by decide +kernel
theorem dL_law_61 : decode cL_law 61 = .ok (.iconst 0, 1) := by decide +kernel
theorem dL_law_62 : decode cL_law 62 = .ok (.istore 4, 2) := by decide +kernel
theorem dL_law_64 : decode cL_law 64 = .ok (.iload 4, 2) := by decide +kernel
theorem dL_law_66 : decode cL_law 66 = .ok (.bipush 8, 2) := by decide +kernel
theorem dL_law_68 : decode cL_law 68 = .ok (.if_icmp .ge 106, 3) := by decide +kernel
theorem dL_law_71 : decode cL_law 71 = .ok (.iload_n 3, 1) := by decide +kernel
theorem dL_law_72 : decode cL_law 72 = .ok (.ifCond .eq 102, 3) := by decide +kernel
theorem dL_law_75 : decode cL_law 75 = .ok (.iload 4, 2) := by decide +kernel
theorem dL_law_77 : decode cL_law 77 = .ok (.iconst 3, 1) := by decide +kernel
theorem dL_law_78 : decode cL_law 78 = .ok (.if_icmp .ge 7, 3) := by decide +kernel
theorem dL_law_81 : decode cL_law 81 = .ok (.iconst 0, 1) := by decide +kernel
theorem dL_law_82 : decode cL_law 82 = .ok (.goto 26, 3) := by decide +kernel
theorem dL_law_85 : decode cL_law 85 = .ok (.iload 4, 2) := by decide +kernel
theorem dL_law_87 : decode cL_law 87 = .ok (.bipush 6, 2) := by decide +kernel
theorem dL_law_89 : decode cL_law 89 = .ok (.if_icmp .ge 7, 3) := by decide +kernel
theorem dL_law_92 : decode cL_law 92 = .ok (.iconst 1, 1) := by decide +kernel
theorem dL_law_93 : decode cL_law 93 = .ok (.goto 15, 3) := by decide +kernel
theorem dL_law_96 : decode cL_law 96 = .ok (.aload_n 0, 1) := by decide +kernel
theorem dL_law_97 : decode cL_law 97 = .ok (.iconst 0, 1) := by decide +kernel
theorem dL_law_98 : decode cL_law 98 = .ok (.invokestatic 132, 3) := by decide +kernel
theorem dL_law_101 : decode cL_law 101 = .ok (.iload 4, 2) := by decide +kernel
theorem dL_law_103 : decode cL_law 103 = .ok (.ishr, 1) := by decide +kernel
theorem dL_law_104 : decode cL_law 104 = .ok (.iconst 4, 1) := by decide +kernel
theorem dL_law_105 : decode cL_law 105 = .ok (.invokestatic 115, 3) := by decide +kernel
theorem dL_law_108 : decode cL_law 108 = .ok (.istore 5, 2) := by decide +kernel
theorem dL_law_110 : decode cL_law 110 = .ok (.aload_n 1, 1) := by decide +kernel
theorem dL_law_111 : decode cL_law 111 = .ok (.iload 4, 2) := by decide +kernel
theorem dL_law_113 : decode cL_law 113 = .ok (.iconst 2, 1) := by decide +kernel
theorem dL_law_114 : decode cL_law 114 = .ok (.irem, 1) := by decide +kernel
theorem dL_law_115 : decode cL_law 115 = .ok (.iconst 1, 1) := by decide +kernel
theorem dL_law_116 : decode cL_law 116 = .ok (.if_icmp .ne 7, 3) := by decide +kernel
theorem dL_law_119 : decode cL_law 119 = .ok (.iconst 1, 1) := by decide +kernel
theorem dL_law_120 : decode cL_law 120 = .ok (.goto 4, 3) := by decide +kernel
theorem dL_law_123 : decode cL_law 123 = .ok (.iconst 0, 1) := by decide +kernel
theorem dL_law_124 : decode cL_law 124 = .ok (.iconst (-1), 1) := by decide +kernel
theorem dL_law_125 : decode cL_law 125 = .ok (.iconst (-1), 1) := by decide +kernel
theorem dL_law_126 : decode cL_law 126 = .ok (.iload 5, 2) := by decide +kernel
theorem dL_law_128 : decode cL_law 128 = .ok (.invokevirtual 96, 3) := by decide +kernel
theorem dL_law_131 : decode cL_law 131 = .ok (.iload 4, 2) := by decide +kernel
theorem dL_law_133 : decode cL_law 133 = .ok (.if_icmp .ne 33, 3) := by decide +kernel
theorem dL_law_136 : decode cL_law 136 = .ok (.aload_n 2, 1) := by decide +kernel
theorem dL_law_137 : decode cL_law 137 = .ok (.iload 4, 2) := by decide +kernel
theorem dL_law_139 : decode cL_law 139 = .ok (.iconst 2, 1) := by decide +kernel
theorem dL_law_140 : decode cL_law 140 = .ok (.irem, 1) := by decide +kernel
theorem dL_law_141 : decode cL_law 141 = .ok (.iconst 1, 1) := by decide +kernel
theorem dL_law_142 : decode cL_law 142 = .ok (.if_icmp .ne 7, 3) := by decide +kernel
theorem dL_law_145 : decode cL_law 145 = .ok (.iconst 1, 1) := by decide +kernel
theorem dL_law_146 : decode cL_law 146 = .ok (.goto 4, 3) := by decide +kernel
theorem dL_law_149 : decode cL_law 149 = .ok (.iconst 0, 1) := by decide +kernel
theorem dL_law_150 : decode cL_law 150 = .ok (.iconst (-1), 1) := by decide +kernel
theorem dL_law_151 : decode cL_law 151 = .ok (.iconst (-1), 1) := by decide +kernel
theorem dL_law_152 : decode cL_law 152 = .ok (.iload 5, 2) := by decide +kernel
theorem dL_law_154 : decode cL_law 154 = .ok (.invokevirtual 96, 3) := by decide +kernel
theorem dL_law_157 : decode cL_law 157 = .ok (.iload 4, 2) := by decide +kernel
theorem dL_law_159 : decode cL_law 159 = .ok (.if_icmp .ne 7, 3) := by decide +kernel
theorem dL_law_162 : decode cL_law 162 = .ok (.iconst 1, 1) := by decide +kernel
theorem dL_law_163 : decode cL_law 163 = .ok (.goto 4, 3) := by decide +kernel
theorem dL_law_166 : decode cL_law 166 = .ok (.iconst 0, 1) := by decide +kernel
theorem dL_law_167 : decode cL_law 167 = .ok (.istore_n 3, 1) := by decide +kernel
theorem dL_law_168 : decode cL_law 168 = .ok (.iinc 4 1, 3) := by decide +kernel
theorem dL_law_171 : decode cL_law 171 = .ok (.goto (-107), 3) := by decide +kernel
theorem dL_law_174 : decode cL_law 174 = .ok (.iload_n 3, 1) := by decide +kernel
theorem dL_law_175 : decode cL_law 175 = .ok (.ifCond .eq 58, 3) := by decide +kernel
theorem dL_law_178 : decode cL_law 178 = .ok (.aload_n 1, 1) := by decide +kernel
theorem dL_law_179 : decode cL_law 179 = .ok (.sipush 2000, 3) := by decide +kernel
theorem dL_law_182 : decode cL_law 182 = .ok (.invokevirtual 63, 3) := by decide +kernel
theorem dL_law_185 : decode cL_law 185 = .ok (.aload_n 2, 1) := by decide +kernel
theorem dL_law_186 : decode cL_law 186 = .ok (.sipush 2000, 3) := by decide +kernel
theorem dL_law_189 : decode cL_law 189 = .ok (.invokevirtual 63, 3) := by decide +kernel
theorem dL_law_192 : decode cL_law 192 = .ok (.if_icmp .ne 41, 3) := by decide +kernel
theorem dL_law_195 : decode cL_law 195 = .ok (.aload_n 1, 1) := by decide +kernel
theorem dL_law_196 : decode cL_law 196 = .ok (.sipush 2000, 3) := by decide +kernel
theorem dL_law_199 : decode cL_law 199 = .ok (.invokevirtual 63, 3) := by decide +kernel
theorem dL_law_202 : decode cL_law 202 = .ok (.aload_n 2, 1) := by decide +kernel
theorem dL_law_203 : decode cL_law 203 = .ok (.sipush 2000, 3) := by decide +kernel
theorem dL_law_206 : decode cL_law 206 = .ok (.invokevirtual 63, 3) := by decide +kernel
theorem dL_law_209 : decode cL_law 209 = .ok (.if_icmp .ne 24, 3) := by decide +kernel
theorem dL_law_212 : decode cL_law 212 = .ok (.aload_n 1, 1) := by decide +kernel
theorem dL_law_213 : decode cL_law 213 = .ok (.sipush 1000, 3) := by decide +kernel
theorem dL_law_216 : decode cL_law 216 = .ok (.invokevirtual 63, 3) := by decide +kernel
theorem dL_law_219 : decode cL_law 219 = .ok (.aload_n 2, 1) := by decide +kernel
theorem dL_law_220 : decode cL_law 220 = .ok (.sipush 1000, 3) := by decide +kernel
theorem dL_law_223 : decode cL_law 223 = .ok (.invokevirtual 63, 3) := by decide +kernel
theorem dL_law_226 : decode cL_law 226 = .ok (.if_icmp .ne 7, 3) := by decide +kernel
theorem dL_law_229 : decode cL_law 229 = .ok (.iconst 1, 1) := by decide +kernel
theorem dL_law_230 : decode cL_law 230 = .ok (.goto 4, 3) := by decide +kernel
theorem dL_law_233 : decode cL_law 233 = .ok (.iconst 0, 1) := by decide +kernel
theorem dL_law_234 : decode cL_law 234 = .ok (.istore_n 3, 1) := by decide +kernel
theorem dL_law_235 : decode cL_law 235 = .ok (.sipush 5000, 3) := by decide +kernel
theorem dL_law_238 : decode cL_law 238 = .ok (.istore 4, 2) := by decide +kernel
theorem dL_law_240 : decode cL_law 240 = .ok (.lconst 0, 1) := by decide +kernel
theorem dL_law_241 : decode cL_law 241 = .ok (.lstore 5, 2) := by decide +kernel
theorem dL_law_243 : decode cL_law 243 = .ok (.iconst 0, 1) := by decide +kernel
theorem dL_law_244 : decode cL_law 244 = .ok (.istore 7, 2) := by decide +kernel
theorem dL_law_246 : decode cL_law 246 = .ok (.iload 7, 2) := by decide +kernel
theorem dL_law_248 : decode cL_law 248 = .ok (.sipush 160, 3) := by decide +kernel
theorem dL_law_251 : decode cL_law 251 = .ok (.if_icmp .ge 297, 3) := by decide +kernel
theorem dL_law_254 : decode cL_law 254 = .ok (.iload_n 3, 1) := by decide +kernel
theorem dL_law_255 : decode cL_law 255 = .ok (.ifCond .eq 293, 3) := by decide +kernel
theorem dL_law_258 : decode cL_law 258 = .ok (.aload_n 0, 1) := by decide +kernel
theorem dL_law_259 : decode cL_law 259 = .ok (.iconst 1, 1) := by decide +kernel
theorem dL_law_260 : decode cL_law 260 = .ok (.iload 7, 2) := by decide +kernel
theorem dL_law_262 : decode cL_law 262 = .ok (.bipush 60, 2) := by decide +kernel
theorem dL_law_264 : decode cL_law 264 = .ok (.irem, 1) := by decide +kernel
theorem dL_law_265 : decode cL_law 265 = .ok (.iadd, 1) := by decide +kernel
theorem dL_law_266 : decode cL_law 266 = .ok (.invokestatic 132, 3) := by decide +kernel
theorem dL_law_269 : decode cL_law 269 = .ok (.sipush 2099, 3) := by decide +kernel
theorem dL_law_272 : decode cL_law 272 = .ok (.iload 7, 2) := by decide +kernel
theorem dL_law_274 : decode cL_law 274 = .ok (.bipush 60, 2) := by decide +kernel
theorem dL_law_276 : decode cL_law 276 = .ok (.idiv, 1) := by decide +kernel
theorem dL_law_277 : decode cL_law 277 = .ok (.imul, 1) := by decide +kernel
theorem dL_law_278 : decode cL_law 278 = .ok (.iadd, 1) := by decide +kernel
theorem dL_law_279 : decode cL_law 279 = .ok (.istore 8, 2) := by decide +kernel
theorem dL_law_281 : decode cL_law 281 = .ok (.iload 8, 2) := by decide +kernel
theorem dL_law_283 : decode cL_law 283 = .ok (.bipush 70, 2) := by decide +kernel
theorem dL_law_285 : decode cL_law 285 = .ok (.invokestatic 115, 3) := by decide +kernel
theorem dL_law_288 : decode cL_law 288 = .ok (.istore 9, 2) := by decide +kernel
theorem dL_law_290 : decode cL_law 290 = .ok (.iload 9, 2) := by decide +kernel
theorem dL_law_292 : decode cL_law 292 = .ok (.bipush 60, 2) := by decide +kernel
theorem dL_law_294 : decode cL_law 294 = .ok (.if_icmp .lt 11, 3) := by decide +kernel
theorem dL_law_297 : decode cL_law 297 = .ok (.iload 4, 2) := by decide +kernel
theorem dL_law_299 : decode cL_law 299 = .ok (.sipush 25000, 3) := by decide +kernel
theorem dL_law_302 : decode cL_law 302 = .ok (.if_icmp .ge 141, 3) := by decide +kernel
theorem dL_law_305 : decode cL_law 305 = .ok (.aload_n 1, 1) := by decide +kernel
theorem dL_law_306 : decode cL_law 306 = .ok (.invokevirtual 126, 3) := by decide +kernel
theorem dL_law_309 : decode cL_law 309 = .ok (.lstore 10, 2) := by decide +kernel
theorem dL_law_311 : decode cL_law 311 = .ok (.aload_n 1, 1) := by decide +kernel
theorem dL_law_312 : decode cL_law 312 = .ok (.iload 8, 2) := by decide +kernel
theorem dL_law_314 : decode cL_law 314 = .ok (.invokestatic 136, 3) := by decide +kernel
theorem dL_law_317 : decode cL_law 317 = .ok (.lstore 12, 2) := by decide +kernel
theorem dL_law_319 : decode cL_law 319 = .ok (.lload 12, 2) := by decide +kernel
theorem dL_law_321 : decode cL_law 321 = .ok (.ldc2_w 69, 3) := by decide +kernel
theorem dL_law_324 : decode cL_law 324 = .ok (.lcmp, 1) := by decide +kernel
theorem dL_law_325 : decode cL_law 325 = .ok (.ifCond .eq 15, 3) := by decide +kernel
theorem dL_law_328 : decode cL_law 328 = .ok (.aload_n 2, 1) := by decide +kernel
theorem dL_law_329 : decode cL_law 329 = .ok (.iload 8, 2) := by decide +kernel
theorem dL_law_331 : decode cL_law 331 = .ok (.invokestatic 136, 3) := by decide +kernel
theorem dL_law_334 : decode cL_law 334 = .ok (.lload 12, 2) := by decide +kernel
theorem dL_law_336 : decode cL_law 336 = .ok (.lcmp, 1) := by decide +kernel
theorem dL_law_337 : decode cL_law 337 = .ok (.ifCond .ne 7, 3) := by decide +kernel
theorem dL_law_340 : decode cL_law 340 = .ok (.iconst 1, 1) := by decide +kernel
theorem dL_law_341 : decode cL_law 341 = .ok (.goto 4, 3) := by decide +kernel
theorem dL_law_344 : decode cL_law 344 = .ok (.iconst 0, 1) := by decide +kernel
theorem dL_law_345 : decode cL_law 345 = .ok (.istore_n 3, 1) := by decide +kernel
theorem dL_law_346 : decode cL_law 346 = .ok (.iload 9, 2) := by decide +kernel
theorem dL_law_348 : decode cL_law 348 = .ok (.bipush 59, 2) := by decide +kernel
theorem dL_law_350 : decode cL_law 350 = .ok (.if_icmp .le 16, 3) := by decide +kernel
theorem dL_law_353 : decode cL_law 353 = .ok (.lload 12, 2) := by decide +kernel
theorem dL_law_355 : decode cL_law 355 = .ok (.lconst 0, 1) := by decide +kernel
theorem dL_law_356 : decode cL_law 356 = .ok (.lcmp, 1) := by decide +kernel
theorem dL_law_357 : decode cL_law 357 = .ok (.ifCond .le 9, 3) := by decide +kernel
theorem dL_law_360 : decode cL_law 360 = .ok (.lload 12, 2) := by decide +kernel
theorem dL_law_362 : decode cL_law 362 = .ok (.l2i, 1) := by decide +kernel
theorem dL_law_363 : decode cL_law 363 = .ok (.goto 5, 3) := by decide +kernel
theorem dL_law_366 : decode cL_law 366 = .ok (.iload 4, 2) := by decide +kernel
theorem dL_law_368 : decode cL_law 368 = .ok (.istore 4, 2) := by decide +kernel
theorem dL_law_370 : decode cL_law 370 = .ok (.aload_n 1, 1) := by decide +kernel
theorem dL_law_371 : decode cL_law 371 = .ok (.invokevirtual 126, 3) := by decide +kernel
theorem dL_law_374 : decode cL_law 374 = .ok (.lstore 14, 2) := by decide +kernel
theorem dL_law_376 : decode cL_law 376 = .ok (.lload 5, 2) := by decide +kernel
theorem dL_law_378 : decode cL_law 378 = .ok (.iload 9, 2) := by decide +kernel
theorem dL_law_380 : decode cL_law 380 = .ok (.bipush 29, 2) := by decide +kernel
theorem dL_law_382 : decode cL_law 382 = .ok (.if_icmp .le 25, 3) := by decide +kernel
theorem dL_law_385 : decode cL_law 385 = .ok (.iload 9, 2) := by decide +kernel
theorem dL_law_387 : decode cL_law 387 = .ok (.bipush 38, 2) := by decide +kernel
theorem dL_law_389 : decode cL_law 389 = .ok (.if_icmp .ge 18, 3) := by decide +kernel
theorem dL_law_392 : decode cL_law 392 = .ok (.lload 12, 2) := by decide +kernel
theorem dL_law_394 : decode cL_law 394 = .ok (.lconst 0, 1) := by decide +kernel
theorem dL_law_395 : decode cL_law 395 = .ok (.lcmp, 1) := by decide +kernel
theorem dL_law_396 : decode cL_law 396 = .ok (.ifCond .lt 11, 3) := by decide +kernel
theorem dL_law_399 : decode cL_law 399 = .ok (.lload 14, 2) := by decide +kernel
theorem dL_law_401 : decode cL_law 401 = .ok (.lload 10, 2) := by decide +kernel
theorem dL_law_403 : decode cL_law 403 = .ok (.lsub, 1) := by decide +kernel
theorem dL_law_404 : decode cL_law 404 = .ok (.goto 4, 3) := by decide +kernel
theorem dL_law_407 : decode cL_law 407 = .ok (.lconst 0, 1) := by decide +kernel
theorem dL_law_408 : decode cL_law 408 = .ok (.ladd, 1) := by decide +kernel
theorem dL_law_409 : decode cL_law 409 = .ok (.lstore 5, 2) := by decide +kernel
theorem dL_law_411 : decode cL_law 411 = .ok (.iload_n 3, 1) := by decide +kernel
theorem dL_law_412 : decode cL_law 412 = .ok (.ifCond .eq 29, 3) := by decide +kernel
theorem dL_law_415 : decode cL_law 415 = .ok (.iload 9, 2) := by decide +kernel
theorem dL_law_417 : decode cL_law 417 = .ok (.bipush 29, 2) := by decide +kernel
theorem dL_law_419 : decode cL_law 419 = .ok (.if_icmp .le 10, 3) := by decide +kernel
theorem dL_law_422 : decode cL_law 422 = .ok (.iload 9, 2) := by decide +kernel
theorem dL_law_424 : decode cL_law 424 = .ok (.bipush 38, 2) := by decide +kernel
theorem dL_law_426 : decode cL_law 426 = .ok (.if_icmp .lt 11, 3) := by decide +kernel
theorem dL_law_429 : decode cL_law 429 = .ok (.lload 14, 2) := by decide +kernel
theorem dL_law_431 : decode cL_law 431 = .ok (.lload 10, 2) := by decide +kernel
theorem dL_law_433 : decode cL_law 433 = .ok (.lcmp, 1) := by decide +kernel
theorem dL_law_434 : decode cL_law 434 = .ok (.ifCond .ne 7, 3) := by decide +kernel
theorem dL_law_437 : decode cL_law 437 = .ok (.iconst 1, 1) := by decide +kernel
theorem dL_law_438 : decode cL_law 438 = .ok (.goto 4, 3) := by decide +kernel
theorem dL_law_441 : decode cL_law 441 = .ok (.iconst 0, 1) := by decide +kernel
theorem dL_law_442 : decode cL_law 442 = .ok (.istore_n 3, 1) := by decide +kernel
theorem dL_law_443 : decode cL_law 443 = .ok (.iload_n 3, 1) := by decide +kernel
theorem dL_law_444 : decode cL_law 444 = .ok (.ifCond .eq 96, 3) := by decide +kernel
theorem dL_law_447 : decode cL_law 447 = .ok (.iload 7, 2) := by decide +kernel
theorem dL_law_449 : decode cL_law 449 = .ok (.bipush 16, 2) := by decide +kernel
theorem dL_law_451 : decode cL_law 451 = .ok (.irem, 1) := by decide +kernel
theorem dL_law_452 : decode cL_law 452 = .ok (.bipush 15, 2) := by decide +kernel
theorem dL_law_454 : decode cL_law 454 = .ok (.if_icmp .ne 20, 3) := by decide +kernel
theorem dL_law_457 : decode cL_law 457 = .ok (.aload_n 1, 1) := by decide +kernel
theorem dL_law_458 : decode cL_law 458 = .ok (.aload_n 2, 1) := by decide +kernel
theorem dL_law_459 : decode cL_law 459 = .ok (.iload 4, 2) := by decide +kernel
theorem dL_law_461 : decode cL_law 461 = .ok (.iload 8, 2) := by decide +kernel
theorem dL_law_463 : decode cL_law 463 = .ok (.iconst 3, 1) := by decide +kernel
theorem dL_law_464 : decode cL_law 464 = .ok (.ishr, 1) := by decide +kernel
theorem dL_law_465 : decode cL_law 465 = .ok (.ldc 140, 2) := by decide +kernel
theorem dL_law_467 : decode cL_law 467 = .ok (.iand, 1) := by decide +kernel
theorem dL_law_468 : decode cL_law 468 = .ok (.invokestatic 141, 3) := by decide +kernel
theorem dL_law_471 : decode cL_law 471 = .ok (.ifCond .eq 69, 3) := by decide +kernel
theorem dL_law_474 : decode cL_law 474 = .ok (.iload 7, 2) := by decide +kernel
theorem dL_law_476 : decode cL_law 476 = .ok (.iconst 5, 1) := by decide +kernel
theorem dL_law_477 : decode cL_law 477 = .ok (.irem, 1) := by decide +kernel
theorem dL_law_478 : decode cL_law 478 = .ok (.iconst 3, 1) := by decide +kernel
theorem dL_law_479 : decode cL_law 479 = .ok (.if_icmp .ne 12, 3) := by decide +kernel
theorem dL_law_482 : decode cL_law 482 = .ok (.aload_n 1, 1) := by decide +kernel
theorem dL_law_483 : decode cL_law 483 = .ok (.lload 5, 2) := by decide +kernel
theorem dL_law_485 : decode cL_law 485 = .ok (.invokestatic 145, 3) := by decide +kernel
theorem dL_law_488 : decode cL_law 488 = .ok (.ifCond .eq 52, 3) := by decide +kernel
theorem dL_law_491 : decode cL_law 491 = .ok (.iload 7, 2) := by decide +kernel
theorem dL_law_493 : decode cL_law 493 = .ok (.bipush 6, 2) := by decide +kernel
theorem dL_law_495 : decode cL_law 495 = .ok (.irem, 1) := by decide +kernel
theorem dL_law_496 : decode cL_law 496 = .ok (.iconst 4, 1) := by decide +kernel
theorem dL_law_497 : decode cL_law 497 = .ok (.if_icmp .ne 12, 3) := by decide +kernel
theorem dL_law_500 : decode cL_law 500 = .ok (.aload_n 1, 1) := by decide +kernel
theorem dL_law_501 : decode cL_law 501 = .ok (.iload 4, 2) := by decide +kernel
theorem dL_law_503 : decode cL_law 503 = .ok (.invokestatic 149, 3) := by decide +kernel
theorem dL_law_506 : decode cL_law 506 = .ok (.ifCond .eq 34, 3) := by decide +kernel
theorem dL_law_509 : decode cL_law 509 = .ok (.iload 7, 2) := by decide +kernel
theorem dL_law_511 : decode cL_law 511 = .ok (.bipush 9, 2) := by decide +kernel
theorem dL_law_513 : decode cL_law 513 = .ok (.irem, 1) := by decide +kernel
theorem dL_law_514 : decode cL_law 514 = .ok (.bipush 7, 2) := by decide +kernel
theorem dL_law_516 : decode cL_law 516 = .ok (.if_icmp .ne 20, 3) := by decide +kernel
theorem dL_law_519 : decode cL_law 519 = .ok (.aload_n 1, 1) := by decide +kernel
theorem dL_law_520 : decode cL_law 520 = .ok (.aload_n 2, 1) := by decide +kernel
theorem dL_law_521 : decode cL_law 521 = .ok (.iload 4, 2) := by decide +kernel
theorem dL_law_523 : decode cL_law 523 = .ok (.iload 8, 2) := by decide +kernel
theorem dL_law_525 : decode cL_law 525 = .ok (.iconst 4, 1) := by decide +kernel
theorem dL_law_526 : decode cL_law 526 = .ok (.ishr, 1) := by decide +kernel
theorem dL_law_527 : decode cL_law 527 = .ok (.ldc 140, 2) := by decide +kernel
theorem dL_law_529 : decode cL_law 529 = .ok (.iand, 1) := by decide +kernel
theorem dL_law_530 : decode cL_law 530 = .ok (.invokestatic 153, 3) := by decide +kernel
theorem dL_law_533 : decode cL_law 533 = .ok (.ifCond .eq 7, 3) := by decide +kernel
theorem dL_law_536 : decode cL_law 536 = .ok (.iconst 1, 1) := by decide +kernel
theorem dL_law_537 : decode cL_law 537 = .ok (.goto 4, 3) := by decide +kernel
theorem dL_law_540 : decode cL_law 540 = .ok (.iconst 0, 1) := by decide +kernel
theorem dL_law_541 : decode cL_law 541 = .ok (.istore_n 3, 1) := by decide +kernel
theorem dL_law_542 : decode cL_law 542 = .ok (.iinc 7 1, 3) := by decide +kernel
theorem dL_law_545 : decode cL_law 545 = .ok (.goto (-299), 3) := by decide +kernel
theorem dL_law_548 : decode cL_law 548 = .ok (.iload_n 3, 1) := by decide +kernel
theorem dL_law_549 : decode cL_law 549 = .ok (.ifCond .eq 37, 3) := by decide +kernel
theorem dL_law_552 : decode cL_law 552 = .ok (.aload_n 1, 1) := by decide +kernel
theorem dL_law_553 : decode cL_law 553 = .ok (.aload_n 2, 1) := by decide +kernel
theorem dL_law_554 : decode cL_law 554 = .ok (.iload 4, 2) := by decide +kernel
theorem dL_law_556 : decode cL_law 556 = .ok (.bipush 7, 2) := by decide +kernel
theorem dL_law_558 : decode cL_law 558 = .ok (.invokestatic 141, 3) := by decide +kernel
theorem dL_law_561 : decode cL_law 561 = .ok (.ifCond .eq 25, 3) := by decide +kernel
theorem dL_law_564 : decode cL_law 564 = .ok (.aload_n 2, 1) := by decide +kernel
theorem dL_law_565 : decode cL_law 565 = .ok (.lload 5, 2) := by decide +kernel
theorem dL_law_567 : decode cL_law 567 = .ok (.invokestatic 145, 3) := by decide +kernel
theorem dL_law_570 : decode cL_law 570 = .ok (.ifCond .eq 16, 3) := by decide +kernel
theorem dL_law_573 : decode cL_law 573 = .ok (.aload_n 2, 1) := by decide +kernel
theorem dL_law_574 : decode cL_law 574 = .ok (.iload 4, 2) := by decide +kernel
theorem dL_law_576 : decode cL_law 576 = .ok (.invokestatic 149, 3) := by decide +kernel
theorem dL_law_579 : decode cL_law 579 = .ok (.ifCond .eq 7, 3) := by decide +kernel
theorem dL_law_582 : decode cL_law 582 = .ok (.iconst 1, 1) := by decide +kernel
theorem dL_law_583 : decode cL_law 583 = .ok (.goto 4, 3) := by decide +kernel
theorem dL_law_586 : decode cL_law 586 = .ok (.iconst 0, 1) := by decide +kernel
theorem dL_law_587 : decode cL_law 587 = .ok (.ireturn, 1) := by decide +kernel
