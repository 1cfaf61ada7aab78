theorem dX8_init_0 : decode cX8_init 0 = .ok (.aload_n 0, 1) := by decide +kernel
theorem dX8_init_1 : decode cX8_init 1 = .ok (.invokespecial 1, 3) := by decide +kernel
theorem dX8_init_4 : decode cX8_init 4 = .ok (.aload_n 0, 1) := by decide +kernel
theorem dX8_init_5 : decode cX8_init 5 = .ok (.sipush 5628, 3) := by decide +kernel
theorem dX8_init_8 : decode cX8_init 8 = .ok (.newarray .int, 2) := by decide +kernel
theorem dX8_init_10 : decode cX8_init 10 = .ok (.putfield 7, 3) := by decide +kernel
theorem dX8_init_13 : decode cX8_init 13 = .ok (.aload_n 0, 1) := by decide +kernel
theorem dX8_init_14 : decode cX8_init 14 = .ok (.bipush 100, 2) := by decide +kernel
theorem dX8_init_16 : decode cX8_init 16 = .ok (.newarray .int, 2) := by decide +kernel
theorem dX8_init_18 : decode cX8_init 18 = .ok (.putfield 13, 3) := by decide +kernel
theorem dX8_init_21 : decode cX8_init 21 = .ok (.aload_n 0, 1) := by decide +kernel
theorem dX8_init_22 : decode cX8_init 22 = .ok (.bipush 100, 2) := by decide +kernel
theorem dX8_init_24 : decode cX8_init 24 = .ok (.newarray .int, 2) := by decide +kernel
theorem dX8_init_26 : decode cX8_init 26 = .ok (.putfield 16, 3) := by decide +kernel
theorem dX8_init_29 : decode cX8_init 29 = .ok (.aload_n 0, 1) := by decide +kernel
theorem dX8_init_30 : decode cX8_init 30 = .ok (.bipush 100, 2) := by decide +kernel
theorem dX8_init_32 : decode cX8_init 32 = .ok (.newarray .int, 2) := by decide +kernel
theorem dX8_init_34 : decode cX8_init 34 = .ok (.putfield 19, 3) := by decide +kernel
theorem dX8_init_37 : decode cX8_init 37 = .ok (.aload_n 0, 1) := by decide +kernel
theorem dX8_init_38 : decode cX8_init 38 = .ok (.bipush 100, 2) := by decide +kernel
theorem dX8_init_40 : decode cX8_init 40 = .ok (.newarray .int, 2) := by decide +kernel
theorem dX8_init_42 : decode cX8_init 42 = .ok (.putfield 22, 3) := by decide +kernel
theorem dX8_init_45 : decode cX8_init 45 = .ok (.aload_n 0, 1) := by decide +kernel
theorem dX8_init_46 : decode cX8_init 46 = .ok (.bipush 40, 2) := by decide +kernel
theorem dX8_init_48 : decode cX8_init 48 = .ok (.newarray .int, 2) := by decide +kernel
theorem dX8_init_50 : decode cX8_init 50 = .ok (.putfield 25, 3) := by decide +kernel
theorem dX8_init_53 : decode cX8_init 53 = .ok (.aload_n 0, 1) := by decide +kernel
theorem dX8_init_54 : decode cX8_init 54 = .ok (.bipush 40, 2) := by decide +kernel
theorem dX8_init_56 : decode cX8_init 56 = .ok (.newarray .int, 2) := by decide +kernel
theorem dX8_init_58 : decode cX8_init 58 = .ok (.putfield 28, 3) := by decide +kernel
theorem dX8_init_61 : decode cX8_init 61 = .ok (.aload_n 0, 1) := by decide +kernel
theorem dX8_init_62 : decode cX8_init 62 = .ok (.bipush 40, 2) := by decide +kernel
theorem dX8_init_64 : decode cX8_init 64 = .ok (.newarray .int, 2) := by decide +kernel
theorem dX8_init_66 : decode cX8_init 66 = .ok (.putfield 31, 3) := by decide +kernel
theorem dX8_init_69 : decode cX8_init 69 = .ok (.aload_n 0, 1) := by decide +kernel
theorem dX8_init_70 : decode cX8_init 70 = .ok (.bipush 40, 2) := by decide +kernel
theorem dX8_init_72 : decode cX8_init 72 = .ok (.newarray .boolean, 2) := by decide +kernel
theorem dX8_init_74 : decode cX8_init 74 = .ok (.putfield 34, 3) := by decide +kernel
theorem dX8_init_77 : decode cX8_init 77 = .ok (.aload_n 0, 1) := by decide +kernel
theorem dX8_init_78 : decode cX8_init 78 = .ok (.bipush 40, 2) := by decide +kernel
theorem dX8_init_80 : decode cX8_init 80 = .ok (.newarray .int, 2) := by decide +kernel
theorem dX8_init_82 : decode cX8_init 82 = .ok (.putfield 38, 3) := by decide +kernel
theorem dX8_init_85 : decode cX8_init 85 = .ok (.aload_n 0, 1) := by decide +kernel
theorem dX8_init_86 : decode cX8_init 86 = .ok (.bipush 40, 2) := by decide +kernel
theorem dX8_init_88 : decode cX8_init 88 = .ok (.newarray .int, 2) := by decide +kernel
theorem dX8_init_90 : decode cX8_init 90 = .ok (.putfield 41, 3) := by decide +kernel
theorem dX8_init_93 : decode cX8_init 93 = .ok (.aload_n 0, 1) := by decide +kernel
theorem dX8_init_94 : decode cX8_init 94 = .ok (.bipush 40, 2) := by decide +kernel
theorem dX8_init_96 : decode cX8_init 96 = .ok (.newarray .int, 2) := by decide +kernel
theorem dX8_init_98 : decode cX8_init 98 = .ok (.putfield 44, 3) := by decide +kernel
theorem dX8_init_101 : decode cX8_init 101 = .ok (.aload_n 0, 1) := by decide +kernel
theorem dX8_init_102 : decode cX8_init 102 = .ok (.bipush 40, 2) := by decide +kernel
theorem dX8_init_104 : decode cX8_init 104 = .ok (.newarray .boolean, 2) := by decide +kernel
theorem dX8_init_106 : decode cX8_init 106 = .ok (.putfield 47, 3) := by decide +kernel
theorem dX8_init_109 : decode cX8_init 109 = .ok (.aload_n 0, 1) := by decide +kernel
theorem dX8_init_110 : decode cX8_init 110 = .ok (.bipush 40, 2) := by decide +kernel
theorem dX8_init_112 : decode cX8_init 112 = .ok (.newarray .long, 2) := by decide +kernel
theorem dX8_init_114 : decode cX8_init 114 = .ok (.putfield 50, 3) := by decide +kernel
theorem dX8_init_117 : decode cX8_init 117 = .ok (.aload_n 0, 1) := by decide +kernel
theorem dX8_init_118 : decode cX8_init 118 = .ok (.bipush 40, 2) := by decide +kernel
theorem dX8_init_120 : decode cX8_init 120 = .ok (.newarray .int, 2) := by decide +kernel
theorem dX8_init_122 : decode cX8_init 122 = .ok (.putfield 54, 3) := by decide +kernel
theorem dX8_init_125 : decode cX8_init 125 = .ok (.aload_n 0, 1) := by decide +kernel
theorem dX8_init_126 : decode cX8_init 126 = .ok (.ldc 57, 2) := by decide +kernel
theorem dX8_init_128 : decode cX8_init 128 = .ok (.newarray .int, 2) := by decide +kernel
theorem dX8_init_130 : decode cX8_init 130 = .ok (.putfield 58, 3) := by decide +kernel
theorem dX8_init_133 : decode cX8_init 133 = .ok (.aload_n 0, 1) := by decide +kernel
theorem dX8_init_134 : decode cX8_init 134 = .ok (.bipush 40, 2) := by decide +kernel
theorem dX8_init_136 : decode cX8_init 136 = .ok (.newarray .int, 2) := by decide +kernel
theorem dX8_init_138 : decode cX8_init 138 = .ok (.putfield 61, 3) := by decide +kernel
theorem dX8_init_141 : decode cX8_init 141 = .ok (.aload_n 0, 1) := by decide +kernel
theorem dX8_init_142 : decode cX8_init 142 = .ok (.bipush 40, 2) := by decide +kernel
theorem dX8_init_144 : decode cX8_init 144 = .ok (.newarray .int, 2) := by decide +kernel
theorem dX8_init_146 : decode cX8_init 146 = .ok (.putfield 64, 3) := by decide +kernel
theorem dX8_init_149 : decode cX8_init 149 = .ok (.aload_n 0, 1) := by decide +kernel
theorem dX8_init_150 : decode cX8_init 150 = .ok (.bipush 40, 2) := by decide +kernel
theorem dX8_init_152 : decode cX8_init 152 = .ok (.newarray .boolean, 2) := by decide +kernel
theorem dX8_init_154 : decode cX8_init 154 = .ok (.putfield 67, 3) := by decide +kernel
theorem dX8_init_157 : decode cX8_init 157 = .ok (.aload_n 0, 1) := by decide +kernel
theorem dX8_init_158 : decode cX8_init 158 = .ok (.bipush 30, 2) := by decide +kernel
theorem dX8_init_160 : decode cX8_init 160 = .ok (.newarray .int, 2) := by decide +kernel
theorem dX8_init_162 : decode cX8_init 162 = .ok (.putfield 70, 3) := by decide +kernel
theorem dX8_init_165 : decode cX8_init 165 = .ok (.aload_n 0, 1) := by decide +kernel
theorem dX8_init_166 : decode cX8_init 166 = .ok (.bipush 30, 2) := by decide +kernel
theorem dX8_init_168 : decode cX8_init 168 = .ok (.newarray .int, 2) := by decide +kernel
theorem dX8_init_170 : decode cX8_init 170 = .ok (.putfield 73, 3) := by decide +kernel
theorem dX8_init_173 : decode cX8_init 173 = .ok (.aload_n 0, 1) := by decide +kernel
theorem dX8_init_174 : decode cX8_init 174 = .ok (.bipush 30, 2) := by decide +kernel
theorem dX8_init_176 : decode cX8_init 176 = .ok (.newarray .int, 2) := by decide +kernel
theorem dX8_init_178 : decode cX8_init 178 = .ok (.putfield 76, 3) := by decide +kernel
theorem dX8_init_181 : decode cX8_init 181 = .ok (.aload_n 0, 1) := by decide +kernel
theorem dX8_init_182 : decode cX8_init 182 = .ok (.bipush 30, 2) := by decide +kernel
theorem dX8_init_184 : decode cX8_init 184 = .ok (.newarray .int, 2) := by decide +kernel
theorem dX8_init_186 : decode cX8_init 186 = .ok (.putfield 79, 3) := by decide +kernel
theorem dX8_init_189 : decode cX8_init 189 = .ok (.aload_n 0, 1) := by decide +kernel
theorem dX8_init_190 : decode cX8_init 190 = .ok (.bipush 30, 2) := by decide +kernel
theorem dX8_init_192 : decode cX8_init 192 = .ok (.newarray .int, 2) := by decide +kernel
theorem dX8_init_194 : decode cX8_init 194 = .ok (.putfield 82, 3) := by decide +kernel
theorem dX8_init_197 : decode cX8_init 197 = .ok (.aload_n 0, 1) := by decide +kernel
theorem dX8_init_198 : decode cX8_init 198 = .ok (.bipush 30, 2) := by decide +kernel
theorem dX8_init_200 : decode cX8_init 200 = .ok (.newarray .boolean, 2) := by decide +kernel
theorem dX8_init_202 : decode cX8_init 202 = .ok (.putfield 85, 3) := by decide +kernel
theorem dX8_init_205 : decode cX8_init 205 = .ok (.aload_n 0, 1) := by decide +kernel
theorem dX8_init_206 : decode cX8_init 206 = .ok (.bipush 30, 2) := by decide +kernel
theorem dX8_init_208 : decode cX8_init 208 = .ok (.newarray .boolean, 2) := by decide +kernel
theorem dX8_init_210 : decode cX8_init 210 = .ok (.putfield 88, 3) := by decide +kernel
theorem dX8_init_213 : decode cX8_init 213 = .ok (.aload_n 0, 1) := by decide +kernel
theorem dX8_init_214 : decode cX8_init 214 = .ok (.bipush 20, 2) := by decide +kernel
theorem dX8_init_216 : decode cX8_init 216 = .ok (.newarray .int, 2) := by decide +kernel
theorem dX8_init_218 : decode cX8_init 218 = .ok (.putfield 91, 3) := by decide +kernel
theorem dX8_init_221 : decode cX8_init 221 = .ok (.aload_n 0, 1) := by decide +kernel
theorem dX8_init_222 : decode cX8_init 222 = .ok (.bipush 20, 2) := by decide +kernel
theorem dX8_init_224 : decode cX8_init 224 = .ok (.newarray .int, 2) := by decide +kernel
theorem dX8_init_226 : decode cX8_init 226 = .ok (.putfield 94, 3) := by decide +kernel
theorem dX8_init_229 : decode cX8_init 229 = .ok (.aload_n 0, 1) := by decide +kernel
theorem dX8_init_230 : decode cX8_init 230 = .ok (.bipush 20, 2) := by decide +kernel
theorem dX8_init_232 : decode cX8_init 232 = .ok (.newarray .int, 2) := by decide +kernel
theorem dX8_init_234 : decode cX8_init 234 = .ok (.putfield 97, 3) := by decide +kernel
theorem dX8_init_237 : decode cX8_init 237 = .ok (.aload_n 0, 1) := by decide +kernel
theorem dX8_init_238 : decode cX8_init 238 = .ok (.bipush 20, 2) := by decide +kernel
theorem dX8_init_240 : decode cX8_init 240 = .ok (.newarray .int, 2) := by decide +kernel
theorem dX8_init_242 : decode cX8_init 242 = .ok (.putfield 100, 3) := by decide +kernel
theorem dX8_init_245 : decode cX8_init 245 = .ok (.aload_n 0, 1) := by decide +kernel
theorem dX8_init_246 : decode cX8_init 246 = .ok (.bipush 20, 2) := by decide +kernel
theorem dX8_init_248 : decode cX8_init 248 = .ok (.newarray .boolean, 2) := by decide +kernel
theorem dX8_init_250 : decode cX8_init 250 = .ok (.putfield 103, 3) := by decide +kernel
theorem dX8_init_253 : decode cX8_init 253 = .ok (.aload_n 0, 1) := by decide +kernel
theorem dX8_init_254 : decode cX8_init 254 = .ok (.bipush 20, 2) := by decide +kernel
theorem dX8_init_256 : decode cX8_init 256 = .ok (.newarray .int, 2) := by decide +kernel
theorem dX8_init_258 : decode cX8_init 258 = .ok (.putfield 106, 3) := by decide +kernel
theorem dX8_init_261 : decode cX8_init 261 = .ok (.aload_n 0, 1) := by decide +kernel
theorem dX8_init_262 : decode cX8_init 262 = .ok (.bipush 20, 2) := by decide +kernel
theorem dX8_init_264 : decode cX8_init 264 = .ok (.newarray .boolean, 2) := by decide +kernel
theorem dX8_init_266 : decode cX8_init 266 = .ok (.putfield 109, 3) := by decide +kernel
theorem dX8_init_269 : decode cX8_init 269 = .ok (.aload_n 0, 1) := by decide +kernel
theorem dX8_init_270 : decode cX8_init 270 = .ok (.sipush 800, 3) := by decide +kernel
theorem dX8_init_273 : decode cX8_init 273 = .ok (.newarray .int, 2) := by decide +kernel
theorem dX8_init_275 : decode cX8_init 275 = .ok (.putfield 112, 3) := by decide +kernel
theorem dX8_init_278 : decode cX8_init 278 = .ok (.aload_n 0, 1) := by decide +kernel
theorem dX8_init_279 : decode cX8_init 279 = .ok (.bipush 20, 2) := by decide +kernel
theorem dX8_init_281 : decode cX8_init 281 = .ok (.newarray .long, 2) := by decide +kernel
theorem dX8_init_283 : decode cX8_init 283 = .ok (.putfield 115, 3) := by decide +kernel
theorem dX8_init_286 : decode cX8_init 286 = .ok (.aload_n 0, 1) := by decide +kernel
theorem dX8_init_287 : decode cX8_init 287 = .ok (.bipush 20, 2) := by decide +kernel
theorem dX8_init_289 : decode cX8_init 289 = .ok (.newarray .long, 2) := by decide +kernel
theorem dX8_init_291 : decode cX8_init 291 = .ok (.putfield 118, 3) := by decide +kernel
theorem dX8_init_294 : decode cX8_init 294 = .ok (.aload_n 0, 1) := by decide +kernel
theorem dX8_init_295 : decode cX8_init 295 = .ok (.bipush 20, 2) := by decide +kernel
theorem dX8_init_297 : decode cX8_init 297 = .ok (.newarray .int, 2) := by decide +kernel
theorem dX8_init_299 : decode cX8_init 299 = .ok (.putfield 121, 3) := by decide +kernel
theorem dX8_init_302 : decode cX8_init 302 = .ok (.aload_n 0, 1) := by decide +kernel
theorem dX8_init_303 : decode cX8_init 303 = .ok (.bipush 20, 2) := by decide +kernel
theorem dX8_init_305 : decode cX8_init 305 = .ok (.newarray .boolean, 2) := by decide +kernel
theorem dX8_init_307 : decode cX8_init 307 = .ok (.putfield 124, 3) := by decide +kernel
theorem dX8_init_310 : decode cX8_init 310 = .ok (.aload_n 0, 1) := by decide +kernel
theorem dX8_init_311 : decode cX8_init 311 = .ok (.bipush 40, 2) := by decide +kernel
theorem dX8_init_313 : decode cX8_init 313 = .ok (.newarray .boolean, 2) := by decide +kernel
theorem dX8_init_315 : decode cX8_init 315 = .ok (.putfield 127, 3) := by decide +kernel
theorem dX8_init_318 : decode cX8_init 318 = .ok (.return_, 1) := by decide +kernel
theorem dX8_thrown_0 : decode cX8_thrown 0 = .ok (.aload_n 0, 1) := by decide +kernel
theorem dX8_thrown_1 : decode cX8_thrown 1 = .ok (.getfield 130, 3) := by decide +kernel
theorem dX8_thrown_4 : decode cX8_thrown 4 = .ok (.ireturn, 1) := by decide +kernel
theorem dX8_holds_0 : decode cX8_holds 0 = .ok (.aload_n 0, 1) := by decide +kernel
theorem dX8_holds_1 : decode cX8_holds 1 = .ok (.iload_n 1, 1) := by decide +kernel
theorem dX8_holds_2 : decode cX8_holds 2 = .ok (.putfield 130, 3) := by decide +kernel
theorem dX8_holds_5 : decode cX8_holds 5 = .ok (.iload_n 1, 1) := by decide +kernel
theorem dX8_holds_6 : decode cX8_holds 6 = .ok (.ifCond .ne 7, 3) := by decide +kernel
theorem dX8_holds_9 : decode cX8_holds 9 = .ok (.iconst 1, 1) := by decide +kernel
theorem dX8_holds_10 : decode cX8_holds 10 = .ok (.goto 4, 3) := by decide +kernel
theorem dX8_holds_13 : decode cX8_holds 13 = .ok (.iconst 0, 1) := by decide +kernel
theorem dX8_holds_14 : decode cX8_holds 14 = .ok (.ireturn, 1) := by decide +kernel
theorem dX8_in_0 : decode cX8_in 0 = .ok (.iload_n 0, 1) := by decide +kernel
theorem dX8_in_1 : decode cX8_in 1 = .ok (.iload_n 1, 1) := by decide +kernel
theorem dX8_in_2 : decode cX8_in 2 = .ok (.if_icmp .lt 12, 3) := by decide +kernel
theorem dX8_in_5 : decode cX8_in 5 = .ok (.iload_n 0, 1) := by decide +kernel
theorem dX8_in_6 : decode cX8_in 6 = .ok (.iload_n 2, 1) := by decide +kernel
theorem dX8_in_7 : decode cX8_in 7 = .ok (.if_icmp .gt 7, 3) := by decide +kernel
theorem dX8_in_10 : decode cX8_in 10 = .ok (.iconst 1, 1) := by decide +kernel
theorem dX8_in_11 : decode cX8_in 11 = .ok (.goto 4, 3) := by decide +kernel
theorem dX8_in_14 : decode cX8_in 14 = .ok (.iconst 0, 1) := by decide +kernel
theorem dX8_in_15 : decode cX8_in 15 = .ok (.ireturn, 1) := by decide +kernel
theorem dX8_isCommunity_0 : decode cX8_isCommunity 0 = .ok (.iload_n 1, 1) := by decide +kernel
theorem dX8_isCommunity_1 : decode cX8_isCommunity 1 = .ok (.iconst 0, 1) := by decide +kernel
theorem dX8_isCommunity_2 : decode cX8_isCommunity 2 = .ok (.aload_n 0, 1) := by decide +kernel
theorem dX8_isCommunity_3 : decode cX8_isCommunity 3 = .ok (.getfield 134, 3) := by decide +kernel
theorem dX8_isCommunity_6 : decode cX8_isCommunity 6 = .ok (.iconst 1, 1) := by decide +kernel
theorem dX8_isCommunity_7 : decode cX8_isCommunity 7 = .ok (.isub, 1) := by decide +kernel
theorem dX8_isCommunity_8 : decode cX8_isCommunity 8 = .ok (.invokestatic 137, 3) := by decide +kernel
theorem dX8_isCommunity_11 : decode cX8_isCommunity 11 = .ok (.ireturn, 1) := by decide +kernel
theorem dX8_isCourt_0 : decode cX8_isCourt 0 = .ok (.iload_n 1, 1) := by decide +kernel
theorem dX8_isCourt_1 : decode cX8_isCourt 1 = .ok (.iconst (-1), 1) := by decide +kernel
theorem dX8_isCourt_2 : decode cX8_isCourt 2 = .ok (.if_icmp .eq 11, 3) := by decide +kernel
theorem dX8_isCourt_5 : decode cX8_isCourt 5 = .ok (.aload_n 0, 1) := by decide +kernel
theorem dX8_isCourt_6 : decode cX8_isCourt 6 = .ok (.iload_n 1, 1) := by decide +kernel
theorem dX8_isCourt_7 : decode cX8_isCourt 7 = .ok (.invokevirtual 141, 3) := by decide +kernel
theorem dX8_isCourt_10 : decode cX8_isCourt 10 = .ok (.ifCond .eq 7, 3) := by decide +kernel
theorem dX8_isCourt_13 : decode cX8_isCourt 13 = .ok (.iconst 1, 1) := by decide +kernel
theorem dX8_isCourt_14 : decode cX8_isCourt 14 = .ok (.goto 4, 3) := by decide +kernel
theorem dX8_isCourt_17 : decode cX8_isCourt 17 = .ok (.iconst 0, 1) := by decide +kernel
theorem dX8_isCourt_18 : decode cX8_isCourt 18 = .ok (.ireturn, 1) := by decide +kernel
theorem dX8_isPerson_0 : decode cX8_isPerson 0 = .ok (.iload_n 1, 1) := by decide +kernel
theorem dX8_isPerson_1 : decode cX8_isPerson 1 = .ok (.iconst 0, 1) := by decide +kernel
theorem dX8_isPerson_2 : decode cX8_isPerson 2 = .ok (.aload_n 0, 1) := by decide +kernel
theorem dX8_isPerson_3 : decode cX8_isPerson 3 = .ok (.getfield 145, 3) := by decide +kernel
theorem dX8_isPerson_6 : decode cX8_isPerson 6 = .ok (.iconst 1, 1) := by decide +kernel
theorem dX8_isPerson_7 : decode cX8_isPerson 7 = .ok (.isub, 1) := by decide +kernel
theorem dX8_isPerson_8 : decode cX8_isPerson 8 = .ok (.invokestatic 137, 3) := by decide +kernel
theorem dX8_isPerson_11 : decode cX8_isPerson 11 = .ok (.ireturn, 1) := by decide +kernel
theorem dX8_isMarriage_0 : decode cX8_isMarriage 0 = .ok (.iload_n 1, 1) := by decide +kernel
theorem dX8_isMarriage_1 : decode cX8_isMarriage 1 = .ok (.iconst 0, 1) := by decide +kernel
theorem dX8_isMarriage_2 : decode cX8_isMarriage 2 = .ok (.aload_n 0, 1) := by decide +kernel
theorem dX8_isMarriage_3 : decode cX8_isMarriage 3 = .ok (.getfield 148, 3) := by decide +kernel
theorem dX8_isMarriage_6 : decode cX8_isMarriage 6 = .ok (.iconst 1, 1) := by decide +kernel
theorem dX8_isMarriage_7 : decode cX8_isMarriage 7 = .ok (.isub, 1) := by decide +kernel
theorem dX8_isMarriage_8 : decode cX8_isMarriage 8 = .ok (.invokestatic 137, 3) := by decide +kernel
theorem dX8_isMarriage_11 : decode cX8_isMarriage 11 = .ok (.ireturn, 1) := by decide +kernel
theorem dX8_isSuit_0 : decode cX8_isSuit 0 = .ok (.iload_n 1, 1) := by decide +kernel
theorem dX8_isSuit_1 : decode cX8_isSuit 1 = .ok (.iconst 0, 1) := by decide +kernel
theorem dX8_isSuit_2 : decode cX8_isSuit 2 = .ok (.aload_n 0, 1) := by decide +kernel
theorem dX8_isSuit_3 : decode cX8_isSuit 3 = .ok (.getfield 151, 3) := by decide +kernel
theorem dX8_isSuit_6 : decode cX8_isSuit 6 = .ok (.iconst 1, 1) := by decide +kernel
theorem dX8_isSuit_7 : decode cX8_isSuit 7 = .ok (.isub, 1) := by decide +kernel
theorem dX8_isSuit_8 : decode cX8_isSuit 8 = .ok (.invokestatic 137, 3) := by decide +kernel
theorem dX8_isSuit_11 : decode cX8_isSuit 11 = .ok (.ireturn, 1) := by decide +kernel
theorem dX8_isRecognised_0 : decode cX8_isRecognised 0 = .ok (.aload_n 0, 1) := by decide +kernel
theorem dX8_isRecognised_1 : decode cX8_isRecognised 1 = .ok (.getfield 7, 3) := by decide +kernel
theorem dX8_isRecognised_4 : decode cX8_isRecognised 4 = .ok (.sipush 938, 3) := by decide +kernel
theorem dX8_isRecognised_7 : decode cX8_isRecognised 7 = .ok (.iload_n 1, 1) := by decide +kernel
theorem dX8_isRecognised_8 : decode cX8_isRecognised 8 = .ok (.imul, 1) := by decide +kernel
theorem dX8_isRecognised_9 : decode cX8_isRecognised 9 = .ok (.iload_n 2, 1) := by decide +kernel
theorem dX8_isRecognised_10 : decode cX8_isRecognised 10 = .ok (.bipush 32, 2) := by decide +kernel
theorem dX8_isRecognised_12 : decode cX8_isRecognised 12 = .ok (.idiv, 1) := by decide +kernel
theorem dX8_isRecognised_13 : decode cX8_isRecognised 13 = .ok (.iadd, 1) := by decide +kernel
theorem dX8_isRecognised_14 : decode cX8_isRecognised 14 = .ok (.iaload, 1) := by decide +kernel
theorem dX8_isRecognised_15 : decode cX8_isRecognised 15 = .ok (.iload_n 2, 1) := by decide +kernel
theorem dX8_isRecognised_16 : decode cX8_isRecognised 16 = .ok (.bipush 32, 2) := by decide +kernel
theorem dX8_isRecognised_18 : decode cX8_isRecognised 18 = .ok (.irem, 1) := by decide +kernel
theorem dX8_isRecognised_19 : decode cX8_isRecognised 19 = .ok (.ishr, 1) := by decide +kernel
theorem dX8_isRecognised_20 : decode cX8_isRecognised 20 = .ok (.iconst 1, 1) := by decide +kernel
theorem dX8_isRecognised_21 : decode cX8_isRecognised 21 = .ok (.iand, 1) := by decide +kernel
theorem dX8_isRecognised_22 : decode cX8_isRecognised 22 = .ok (.iconst 1, 1) := by decide +kernel
theorem dX8_isRecognised_23 : decode cX8_isRecognised 23 = .ok (.if_icmp .ne 7, 3) := by decide +kernel
theorem dX8_isRecognised_26 : decode cX8_isRecognised 26 = .ok (.iconst 1, 1) := by decide +kernel
theorem dX8_isRecognised_27 : decode cX8_isRecognised 27 = .ok (.goto 4, 3) := by decide +kernel
theorem dX8_isRecognised_30 : decode cX8_isRecognised 30 = .ok (.iconst 0, 1) := by decide +kernel
theorem dX8_isRecognised_31 : decode cX8_isRecognised 31 = .ok (.ireturn, 1) := by decide +kernel
theorem dX8_recognises_0 : decode cX8_recognises 0 = .ok (.aload_n 0, 1) := by decide +kernel
theorem dX8_recognises_1 : decode cX8_recognises 1 = .ok (.getfield 154, 3) := by decide +kernel
theorem dX8_recognises_4 : decode cX8_recognises 4 = .ok (.istore_n 3, 1) := by decide +kernel
theorem dX8_recognises_5 : decode cX8_recognises 5 = .ok (.iload_n 3, 1) := by decide +kernel
theorem dX8_recognises_6 : decode cX8_recognises 6 = .ok (.sipush 30000, 3) := by decide +kernel
theorem dX8_recognises_9 : decode cX8_recognises 9 = .ok (.if_icmp .gt 59, 3) := by decide +kernel
theorem dX8_recognises_12 : decode cX8_recognises 12 = .ok (.sipush 938, 3) := by decide +kernel
theorem dX8_recognises_15 : decode cX8_recognises 15 = .ok (.iload_n 1, 1) := by decide +kernel
theorem dX8_recognises_16 : decode cX8_recognises 16 = .ok (.imul, 1) := by decide +kernel
theorem dX8_recognises_17 : decode cX8_recognises 17 = .ok (.iload_n 3, 1) := by decide +kernel
theorem dX8_recognises_18 : decode cX8_recognises 18 = .ok (.bipush 32, 2) := by decide +kernel
theorem dX8_recognises_20 : decode cX8_recognises 20 = .ok (.idiv, 1) := by decide +kernel
theorem dX8_recognises_21 : decode cX8_recognises 21 = .ok (.iadd, 1) := by decide +kernel
theorem dX8_recognises_22 : decode cX8_recognises 22 = .ok (.istore 4, 2) := by decide +kernel
theorem dX8_recognises_24 : decode cX8_recognises 24 = .ok (.aload_n 0, 1) := by decide +kernel
theorem dX8_recognises_25 : decode cX8_recognises 25 = .ok (.getfield 7, 3) := by decide +kernel
theorem dX8_recognises_28 : decode cX8_recognises 28 = .ok (.iload 4, 2) := by decide +kernel
theorem dX8_recognises_30 : decode cX8_recognises 30 = .ok (.aload_n 0, 1) := by decide +kernel
theorem dX8_recognises_31 : decode cX8_recognises 31 = .ok (.getfield 7, 3) := by decide +kernel
theorem dX8_recognises_34 : decode cX8_recognises 34 = .ok (.iload 4, 2) := by decide +kernel
theorem dX8_recognises_36 : decode cX8_recognises 36 = .ok (.iaload, 1) := by decide +kernel
theorem dX8_recognises_37 : decode cX8_recognises 37 = .ok (.iconst 1, 1) := by decide +kernel
theorem dX8_recognises_38 : decode cX8_recognises 38 = .ok (.iload_n 3, 1) := by decide +kernel
theorem dX8_recognises_39 : decode cX8_recognises 39 = .ok (.bipush 32, 2) := by decide +kernel
theorem dX8_recognises_41 : decode cX8_recognises 41 = .ok (.irem, 1) := by decide +kernel
theorem dX8_recognises_42 : decode cX8_recognises 42 = .ok (.ishl, 1) := by decide +kernel
theorem dX8_recognises_43 : decode cX8_recognises 43 = .ok (.iconst (-1), 1) := by decide +kernel
theorem dX8_recognises_44 : decode cX8_recognises 44 = .ok (.ixor, 1) := by decide +kernel
theorem dX8_recognises_45 : decode cX8_recognises 45 = .ok (.iand, 1) := by decide +kernel
theorem dX8_recognises_46 : decode cX8_recognises 46 = .ok (.iload_n 2, 1) := by decide +kernel
theorem dX8_recognises_47 : decode cX8_recognises 47 = .ok (.ifCond .eq 12, 3) := by decide +kernel
theorem dX8_recognises_50 : decode cX8_recognises 50 = .ok (.iconst 1, 1) := by decide +kernel
theorem dX8_recognises_51 : decode cX8_recognises 51 = .ok (.iload_n 3, 1) := by decide +kernel
theorem dX8_recognises_52 : decode cX8_recognises 52 = .ok (.bipush 32, 2) := by decide +kernel
theorem dX8_recognises_54 : decode cX8_recognises 54 = .ok (.irem, 1) := by decide +kernel
theorem dX8_recognises_55 : decode cX8_recognises 55 = .ok (.ishl, 1) := by decide +kernel
theorem dX8_recognises_56 : decode cX8_recognises 56 = .ok (.goto 4, 3) := by decide +kernel
theorem dX8_recognises_59 : decode cX8_recognises 59 = .ok (.iconst 0, 1) := by decide +kernel
theorem dX8_recognises_60 : decode cX8_recognises 60 = .ok (.ior, 1) := by decide +kernel
theorem dX8_recognises_61 : decode cX8_recognises 61 = .ok (.iastore, 1) := by decide +kernel
theorem dX8_recognises_62 : decode cX8_recognises 62 = .ok (.iinc 3 1, 3) := by decide +kernel
theorem dX8_recognises_65 : decode cX8_recognises 65 = .ok (.goto (-60), 3) := by decide +kernel
theorem dX8_recognises_68 : decode cX8_recognises 68 = .ok (.return_, 1) := by decide +kernel
theorem dX8_community_0 : decode cX8_community 0 = .ok (.aload_n 0, 1) := by decide +kernel
theorem dX8_community_1 : decode cX8_community 1 = .ok (.aload_n 0, 1) := by decide +kernel
theorem dX8_community_2 : decode cX8_community 2 = .ok (.getfield 134, 3) := by decide +kernel
theorem dX8_community_5 : decode cX8_community 5 = .ok (.bipush 6, 2) := by decide +kernel
theorem dX8_community_7 : decode cX8_community 7 = .ok (.if_icmp .ne 7, 3) := by decide +kernel
theorem dX8_community_10 : decode cX8_community 10 = .ok (.iconst 1, 1) := by decide +kernel
theorem dX8_community_11 : decode cX8_community 11 = .ok (.goto 4, 3) := by decide +kernel
theorem dX8_community_14 : decode cX8_community 14 = .ok (.iconst 0, 1) := by decide +kernel
theorem dX8_community_15 : decode cX8_community 15 = .ok (.invokevirtual 157, 3) := by decide +kernel
theorem dX8_community_18 : decode cX8_community 18 = .ok (.ifCond .ne 5, 3) := by decide +kernel
theorem dX8_community_21 : decode cX8_community 21 = .ok (.iconst 0, 1) := by decide +kernel
theorem dX8_community_22 : decode cX8_community 22 = .ok (.ireturn, 1) := by decide +kernel
theorem dX8_community_23 : decode cX8_community 23 = .ok (.aload_n 0, 1) := by decide +kernel
theorem dX8_community_24 : decode cX8_community 24 = .ok (.aload_n 0, 1) := by decide +kernel
theorem dX8_community_25 : decode cX8_community 25 = .ok (.getfield 134, 3) := by decide +kernel
theorem dX8_community_28 : decode cX8_community 28 = .ok (.iconst 1, 1) := by decide +kernel
theorem dX8_community_29 : decode cX8_community 29 = .ok (.invokevirtual 160, 3) := by decide +kernel
theorem dX8_community_32 : decode cX8_community 32 = .ok (.aload_n 0, 1) := by decide +kernel
theorem dX8_community_33 : decode cX8_community 33 = .ok (.dup, 1) := by decide +kernel
theorem dX8_community_34 : decode cX8_community 34 = .ok (.getfield 134, 3) := by decide +kernel
theorem dX8_community_37 : decode cX8_community 37 = .ok (.iconst 1, 1) := by decide +kernel
theorem dX8_community_38 : decode cX8_community 38 = .ok (.iadd, 1) := by decide +kernel
theorem dX8_community_39 : decode cX8_community 39 = .ok (.putfield 134, 3) := by decide +kernel
theorem dX8_community_42 : decode cX8_community 42 = .ok (.aload_n 0, 1) := by decide +kernel
theorem dX8_community_43 : decode cX8_community 43 = .ok (.getfield 134, 3) := by decide +kernel
theorem dX8_community_46 : decode cX8_community 46 = .ok (.iconst 1, 1) := by decide +kernel
theorem dX8_community_47 : decode cX8_community 47 = .ok (.isub, 1) := by decide +kernel
theorem dX8_community_48 : decode cX8_community 48 = .ok (.ireturn, 1) := by decide +kernel
theorem dX8_recognise_0 : decode cX8_recognise 0 = .ok (.aload_n 0, 1) := by decide +kernel
theorem dX8_recognise_1 : decode cX8_recognise 1 = .ok (.aload_n 0, 1) := by decide +kernel
theorem dX8_recognise_2 : decode cX8_recognise 2 = .ok (.iload_n 1, 1) := by decide +kernel
theorem dX8_recognise_3 : decode cX8_recognise 3 = .ok (.invokevirtual 141, 3) := by decide +kernel
theorem dX8_recognise_6 : decode cX8_recognise 6 = .ok (.ifCond .eq 7, 3) := by decide +kernel
theorem dX8_recognise_9 : decode cX8_recognise 9 = .ok (.iconst 0, 1) := by decide +kernel
theorem dX8_recognise_10 : decode cX8_recognise 10 = .ok (.goto 4, 3) := by decide +kernel
theorem dX8_recognise_13 : decode cX8_recognise 13 = .ok (.iconst 1, 1) := by decide +kernel
theorem dX8_recognise_14 : decode cX8_recognise 14 = .ok (.invokevirtual 157, 3) := by decide +kernel
theorem dX8_recognise_17 : decode cX8_recognise 17 = .ok (.ifCond .ne 5, 3) := by decide +kernel
theorem dX8_recognise_20 : decode cX8_recognise 20 = .ok (.iconst 0, 1) := by decide +kernel
theorem dX8_recognise_21 : decode cX8_recognise 21 = .ok (.ireturn, 1) := by decide +kernel
theorem dX8_recognise_22 : decode cX8_recognise 22 = .ok (.aload_n 0, 1) := by decide +kernel
theorem dX8_recognise_23 : decode cX8_recognise 23 = .ok (.iload_n 1, 1) := by decide +kernel
theorem dX8_recognise_24 : decode cX8_recognise 24 = .ok (.aload_n 0, 1) := by decide +kernel
theorem dX8_recognise_25 : decode cX8_recognise 25 = .ok (.getfield 154, 3) := by decide +kernel
theorem dX8_recognise_28 : decode cX8_recognise 28 = .ok (.invokevirtual 164, 3) := by decide +kernel
theorem dX8_recognise_31 : decode cX8_recognise 31 = .ok (.istore_n 3, 1) := by decide +kernel
theorem dX8_recognise_32 : decode cX8_recognise 32 = .ok (.aload_n 0, 1) := by decide +kernel
theorem dX8_recognise_33 : decode cX8_recognise 33 = .ok (.iload_n 1, 1) := by decide +kernel
theorem dX8_recognise_34 : decode cX8_recognise 34 = .ok (.iload_n 2, 1) := by decide +kernel
theorem dX8_recognise_35 : decode cX8_recognise 35 = .ok (.invokevirtual 160, 3) := by decide +kernel
theorem dX8_recognise_38 : decode cX8_recognise 38 = .ok (.iload_n 3, 1) := by decide +kernel
theorem dX8_recognise_39 : decode cX8_recognise 39 = .ok (.ireturn, 1) := by decide +kernel
theorem dX8_isNumber_0 : decode cX8_isNumber 0 = .ok (.iload_n 0, 1) := by decide +kernel
theorem dX8_isNumber_1 : decode cX8_isNumber 1 = .ok (.tableswitch 80 0 6 #[43, 50, 57, 64, 80, 80, 72], 43) := by decide +kernel
theorem dX8_isNumber_44 : decode cX8_isNumber 44 = .ok (.iload_n 1, 1) := by decide +kernel
theorem dX8_isNumber_45 : decode cX8_isNumber 45 = .ok (.iconst 0, 1) := by decide +kernel
theorem dX8_isNumber_46 : decode cX8_isNumber 46 = .ok (.iconst 2, 1) := by decide +kernel
theorem dX8_isNumber_47 : decode cX8_isNumber 47 = .ok (.invokestatic 137, 3) := by decide +kernel
theorem dX8_isNumber_50 : decode cX8_isNumber 50 = .ok (.ireturn, 1) := by decide +kernel
theorem dX8_isNumber_51 : decode cX8_isNumber 51 = .ok (.iload_n 1, 1) := by decide +kernel
theorem dX8_isNumber_52 : decode cX8_isNumber 52 = .ok (.iconst 0, 1) := by decide +kernel
theorem dX8_isNumber_53 : decode cX8_isNumber 53 = .ok (.iconst 3, 1) := by decide +kernel
theorem dX8_isNumber_54 : decode cX8_isNumber 54 = .ok (.invokestatic 137, 3) := by decide +kernel
theorem dX8_isNumber_57 : decode cX8_isNumber 57 = .ok (.ireturn, 1) := by decide +kernel
theorem dX8_isNumber_58 : decode cX8_isNumber 58 = .ok (.iload_n 1, 1) := by decide +kernel
theorem dX8_isNumber_59 : decode cX8_isNumber 59 = .ok (.iconst 1, 1) := by decide +kernel
theorem dX8_isNumber_60 : decode cX8_isNumber 60 = .ok (.iconst 4, 1) := by decide +kernel
theorem dX8_isNumber_61 : decode cX8_isNumber 61 = .ok (.invokestatic 137, 3) := by decide +kernel
theorem dX8_isNumber_64 : decode cX8_isNumber 64 = .ok (.ireturn, 1) := by decide +kernel
theorem dX8_isNumber_65 : decode cX8_isNumber 65 = .ok (.iload_n 1, 1) := by decide +kernel
theorem dX8_isNumber_66 : decode cX8_isNumber 66 = .ok (.iconst 0, 1) := by decide +kernel
theorem dX8_isNumber_67 : decode cX8_isNumber 67 = .ok (.bipush 100, 2) := by decide +kernel
theorem dX8_isNumber_69 : decode cX8_isNumber 69 = .ok (.invokestatic 137, 3) := by decide +kernel
theorem dX8_isNumber_72 : decode cX8_isNumber 72 = .ok (.ireturn, 1) := by decide +kernel
theorem dX8_isNumber_73 : decode cX8_isNumber 73 = .ok (.iload_n 1, 1) := by decide +kernel
theorem dX8_isNumber_74 : decode cX8_isNumber 74 = .ok (.iconst 0, 1) := by decide +kernel
theorem dX8_isNumber_75 : decode cX8_isNumber 75 = .ok (.bipush 63, 2) := by decide +kernel
theorem dX8_isNumber_77 : decode cX8_isNumber 77 = .ok (.invokestatic 137, 3) := by decide +kernel
theorem dX8_isNumber_80 : decode cX8_isNumber 80 = .ok (.ireturn, 1) := by decide +kernel
theorem dX8_isNumber_81 : decode cX8_isNumber 81 = .ok (.iload_n 1, 1) := by decide +kernel
theorem dX8_isNumber_82 : decode cX8_isNumber 82 = .ok (.iconst 0, 1) := by decide +kernel
theorem dX8_isNumber_83 : decode cX8_isNumber 83 = .ok (.iconst 1, 1) := by decide +kernel
theorem dX8_isNumber_84 : decode cX8_isNumber 84 = .ok (.invokestatic 137, 3) := by decide +kernel
theorem dX8_isNumber_87 : decode cX8_isNumber 87 = .ok (.ireturn, 1) := by decide +kernel
theorem dX8_lawOf_0 : decode cX8_lawOf 0 = .ok (.iload_n 2, 1) := by decide +kernel
theorem dX8_lawOf_1 : decode cX8_lawOf 1 = .ok (.iconst 1, 1) := by decide +kernel
theorem dX8_lawOf_2 : decode cX8_lawOf 2 = .ok (.if_icmp .ne 7, 3) := by decide +kernel
theorem dX8_lawOf_5 : decode cX8_lawOf 5 = .ok (.iconst 2, 1) := by decide +kernel
theorem dX8_lawOf_6 : decode cX8_lawOf 6 = .ok (.goto 39, 3) := by decide +kernel
theorem dX8_lawOf_9 : decode cX8_lawOf 9 = .ok (.iload_n 2, 1) := by decide +kernel
theorem dX8_lawOf_10 : decode cX8_lawOf 10 = .ok (.iconst 3, 1) := by decide +kernel
theorem dX8_lawOf_11 : decode cX8_lawOf 11 = .ok (.if_icmp .ne 8, 3) := by decide +kernel
theorem dX8_lawOf_14 : decode cX8_lawOf 14 = .ok (.bipush 25, 2) := by decide +kernel
theorem dX8_lawOf_16 : decode cX8_lawOf 16 = .ok (.goto 29, 3) := by decide +kernel
theorem dX8_lawOf_19 : decode cX8_lawOf 19 = .ok (.iload_n 2, 1) := by decide +kernel
theorem dX8_lawOf_20 : decode cX8_lawOf 20 = .ok (.bipush 6, 2) := by decide +kernel
theorem dX8_lawOf_22 : decode cX8_lawOf 22 = .ok (.if_icmp .ne 8, 3) := by decide +kernel
theorem dX8_lawOf_25 : decode cX8_lawOf 25 = .ok (.bipush 63, 2) := by decide +kernel
theorem dX8_lawOf_27 : decode cX8_lawOf 27 = .ok (.goto 18, 3) := by decide +kernel
theorem dX8_lawOf_30 : decode cX8_lawOf 30 = .ok (.iload_n 2, 1) := by decide +kernel
theorem dX8_lawOf_31 : decode cX8_lawOf 31 = .ok (.iconst 2, 1) := by decide +kernel
theorem dX8_lawOf_32 : decode cX8_lawOf 32 = .ok (.if_icmp .eq 8, 3) := by decide +kernel
theorem dX8_lawOf_35 : decode cX8_lawOf 35 = .ok (.iload_n 2, 1) := by decide +kernel
theorem dX8_lawOf_36 : decode cX8_lawOf 36 = .ok (.iconst 4, 1) := by decide +kernel
theorem dX8_lawOf_37 : decode cX8_lawOf 37 = .ok (.if_icmp .ne 7, 3) := by decide +kernel
theorem dX8_lawOf_40 : decode cX8_lawOf 40 = .ok (.iconst 1, 1) := by decide +kernel
theorem dX8_lawOf_41 : decode cX8_lawOf 41 = .ok (.goto 4, 3) := by decide +kernel
theorem dX8_lawOf_44 : decode cX8_lawOf 44 = .ok (.iconst 0, 1) := by decide +kernel
theorem dX8_lawOf_45 : decode cX8_lawOf 45 = .ok (.istore 4, 2) := by decide +kernel
theorem dX8_lawOf_47 : decode cX8_lawOf 47 = .ok (.iconst 0, 1) := by decide +kernel
theorem dX8_lawOf_48 : decode cX8_lawOf 48 = .ok (.istore 5, 2) := by decide +kernel
theorem dX8_lawOf_50 : decode cX8_lawOf 50 = .ok (.iload 5, 2) := by decide +kernel
theorem dX8_lawOf_52 : decode cX8_lawOf 52 = .ok (.aload_n 0, 1) := by decide +kernel
theorem dX8_lawOf_53 : decode cX8_lawOf 53 = .ok (.getfield 168, 3) := by decide +kernel
theorem dX8_lawOf_56 : decode cX8_lawOf 56 = .ok (.if_icmp .ge 68, 3) := by decide +kernel
theorem dX8_lawOf_59 : decode cX8_lawOf 59 = .ok (.aload_n 0, 1) := by decide +kernel
theorem dX8_lawOf_60 : decode cX8_lawOf 60 = .ok (.getfield 13, 3) := by decide +kernel
theorem dX8_lawOf_63 : decode cX8_lawOf 63 = .ok (.iload 5, 2) := by decide +kernel
theorem dX8_lawOf_65 : decode cX8_lawOf 65 = .ok (.iaload, 1) := by decide +kernel
theorem dX8_lawOf_66 : decode cX8_lawOf 66 = .ok (.iload_n 1, 1) := by decide +kernel
theorem dX8_lawOf_67 : decode cX8_lawOf 67 = .ok (.if_icmp .ne 29, 3) := by decide +kernel
theorem dX8_lawOf_70 : decode cX8_lawOf 70 = .ok (.aload_n 0, 1) := by decide +kernel
theorem dX8_lawOf_71 : decode cX8_lawOf 71 = .ok (.getfield 16, 3) := by decide +kernel
theorem dX8_lawOf_74 : decode cX8_lawOf 74 = .ok (.iload 5, 2) := by decide +kernel
theorem dX8_lawOf_76 : decode cX8_lawOf 76 = .ok (.iaload, 1) := by decide +kernel
theorem dX8_lawOf_77 : decode cX8_lawOf 77 = .ok (.iload_n 2, 1) := by decide +kernel
theorem dX8_lawOf_78 : decode cX8_lawOf 78 = .ok (.if_icmp .ne 18, 3) := by decide +kernel
theorem dX8_lawOf_81 : decode cX8_lawOf 81 = .ok (.aload_n 0, 1) := by decide +kernel
theorem dX8_lawOf_82 : decode cX8_lawOf 82 = .ok (.getfield 22, 3) := by decide +kernel
theorem dX8_lawOf_85 : decode cX8_lawOf 85 = .ok (.iload 5, 2) := by decide +kernel
theorem dX8_lawOf_87 : decode cX8_lawOf 87 = .ok (.iaload, 1) := by decide +kernel
theorem dX8_lawOf_88 : decode cX8_lawOf 88 = .ok (.iload_n 3, 1) := by decide +kernel
theorem dX8_lawOf_89 : decode cX8_lawOf 89 = .ok (.if_icmp .gt 7, 3) := by decide +kernel
theorem dX8_lawOf_92 : decode cX8_lawOf 92 = .ok (.iconst 1, 1) := by decide +kernel
theorem dX8_lawOf_93 : decode cX8_lawOf 93 = .ok (.goto 4, 3) := by decide +kernel
theorem dX8_lawOf_96 : decode cX8_lawOf 96 = .ok (.iconst 0, 1) := by decide +kernel
theorem dX8_lawOf_97 : decode cX8_lawOf 97 = .ok (.istore 6, 2) := by decide +kernel
theorem dX8_lawOf_99 : decode cX8_lawOf 99 = .ok (.iload 6, 2) := by decide +kernel
theorem dX8_lawOf_101 : decode cX8_lawOf 101 = .ok (.ifCond .eq 13, 3) := by decide +kernel
theorem dX8_lawOf_104 : decode cX8_lawOf 104 = .ok (.aload_n 0, 1) := by decide +kernel
theorem dX8_lawOf_105 : decode cX8_lawOf 105 = .ok (.getfield 19, 3) := by decide +kernel
theorem dX8_lawOf_108 : decode cX8_lawOf 108 = .ok (.iload 5, 2) := by decide +kernel
theorem dX8_lawOf_110 : decode cX8_lawOf 110 = .ok (.iaload, 1) := by decide +kernel
theorem dX8_lawOf_111 : decode cX8_lawOf 111 = .ok (.goto 5, 3) := by decide +kernel
theorem dX8_lawOf_114 : decode cX8_lawOf 114 = .ok (.iload 4, 2) := by decide +kernel
theorem dX8_lawOf_116 : decode cX8_lawOf 116 = .ok (.istore 4, 2) := by decide +kernel
theorem dX8_lawOf_118 : decode cX8_lawOf 118 = .ok (.iinc 5 1, 3) := by decide +kernel
theorem dX8_lawOf_121 : decode cX8_lawOf 121 = .ok (.goto (-71), 3) := by decide +kernel
theorem dX8_lawOf_124 : decode cX8_lawOf 124 = .ok (.iload 4, 2) := by decide +kernel
theorem dX8_lawOf_126 : decode cX8_lawOf 126 = .ok (.ireturn, 1) := by decide +kernel
theorem dX8_decree_0 : decode cX8_decree 0 = .ok (.iload_n 2, 1) := by decide +kernel
theorem dX8_decree_1 : decode cX8_decree 1 = .ok (.iconst 0, 1) := by decide +kernel
theorem dX8_decree_2 : decode cX8_decree 2 = .ok (.bipush 6, 2) := by decide +kernel
theorem dX8_decree_4 : decode cX8_decree 4 = .ok (.invokestatic 137, 3) := by decide +kernel
theorem dX8_decree_7 : decode cX8_decree 7 = .ok (.ifCond .eq 15, 3) := by decide +kernel
theorem dX8_decree_10 : decode cX8_decree 10 = .ok (.iload_n 2, 1) := by decide +kernel
theorem dX8_decree_11 : decode cX8_decree 11 = .ok (.iload_n 3, 1) := by decide +kernel
theorem dX8_decree_12 : decode cX8_decree 12 = .ok (.invokestatic 171, 3) := by decide +kernel
theorem dX8_decree_15 : decode cX8_decree 15 = .ok (.ifCond .eq 7, 3) := by decide +kernel
theorem dX8_decree_18 : decode cX8_decree 18 = .ok (.iconst 1, 1) := by decide +kernel
theorem dX8_decree_19 : decode cX8_decree 19 = .ok (.goto 4, 3) := by decide +kernel
theorem dX8_decree_22 : decode cX8_decree 22 = .ok (.iconst 0, 1) := by decide +kernel
theorem dX8_decree_23 : decode cX8_decree 23 = .ok (.istore 4, 2) := by decide +kernel
theorem dX8_decree_25 : decode cX8_decree 25 = .ok (.aload_n 0, 1) := by decide +kernel
theorem dX8_decree_26 : decode cX8_decree 26 = .ok (.aload_n 0, 1) := by decide +kernel
theorem dX8_decree_27 : decode cX8_decree 27 = .ok (.iload_n 1, 1) := by decide +kernel
theorem dX8_decree_28 : decode cX8_decree 28 = .ok (.invokevirtual 174, 3) := by decide +kernel
theorem dX8_decree_31 : decode cX8_decree 31 = .ok (.ifCond .ne 7, 3) := by decide +kernel
theorem dX8_decree_34 : decode cX8_decree 34 = .ok (.iconst 1, 1) := by decide +kernel
theorem dX8_decree_35 : decode cX8_decree 35 = .ok (.goto 26, 3) := by decide +kernel
theorem dX8_decree_38 : decode cX8_decree 38 = .ok (.iload 4, 2) := by decide +kernel
theorem dX8_decree_40 : decode cX8_decree 40 = .ok (.ifCond .ne 7, 3) := by decide +kernel
theorem dX8_decree_43 : decode cX8_decree 43 = .ok (.iconst 2, 1) := by decide +kernel
theorem dX8_decree_44 : decode cX8_decree 44 = .ok (.goto 17, 3) := by decide +kernel
theorem dX8_decree_47 : decode cX8_decree 47 = .ok (.aload_n 0, 1) := by decide +kernel
theorem dX8_decree_48 : decode cX8_decree 48 = .ok (.getfield 168, 3) := by decide +kernel
theorem dX8_decree_51 : decode cX8_decree 51 = .ok (.bipush 100, 2) := by decide +kernel
theorem dX8_decree_53 : decode cX8_decree 53 = .ok (.if_icmp .ne 7, 3) := by decide +kernel
theorem dX8_decree_56 : decode cX8_decree 56 = .ok (.iconst 3, 1) := by decide +kernel
theorem dX8_decree_57 : decode cX8_decree 57 = .ok (.goto 4, 3) := by decide +kernel
theorem dX8_decree_60 : decode cX8_decree 60 = .ok (.iconst 0, 1) := by decide +kernel
theorem dX8_decree_61 : decode cX8_decree 61 = .ok (.invokevirtual 157, 3) := by decide +kernel
theorem dX8_decree_64 : decode cX8_decree 64 = .ok (.ifCond .ne 5, 3) := by decide +kernel
theorem dX8_decree_67 : decode cX8_decree 67 = .ok (.iconst 0, 1) := by decide +kernel
theorem dX8_decree_68 : decode cX8_decree 68 = .ok (.ireturn, 1) := by decide +kernel
theorem dX8_decree_69 : decode cX8_decree 69 = .ok (.aload_n 0, 1) := by decide +kernel
theorem dX8_decree_70 : decode cX8_decree 70 = .ok (.iload_n 1, 1) := by decide +kernel
theorem dX8_decree_71 : decode cX8_decree 71 = .ok (.iload_n 2, 1) := by decide +kernel
theorem dX8_decree_72 : decode cX8_decree 72 = .ok (.aload_n 0, 1) := by decide +kernel
theorem dX8_decree_73 : decode cX8_decree 73 = .ok (.getfield 154, 3) := by decide +kernel
theorem dX8_decree_76 : decode cX8_decree 76 = .ok (.invokevirtual 177, 3) := by decide +kernel
theorem dX8_decree_79 : decode cX8_decree 79 = .ok (.istore 5, 2) := by decide +kernel
theorem dX8_decree_81 : decode cX8_decree 81 = .ok (.aload_n 0, 1) := by decide +kernel
theorem dX8_decree_82 : decode cX8_decree 82 = .ok (.getfield 13, 3) := by decide +kernel
theorem dX8_decree_85 : decode cX8_decree 85 = .ok (.aload_n 0, 1) := by decide +kernel
theorem dX8_decree_86 : decode cX8_decree 86 = .ok (.getfield 168, 3) := by decide +kernel
theorem dX8_decree_89 : decode cX8_decree 89 = .ok (.iload_n 1, 1) := by decide +kernel
theorem dX8_decree_90 : decode cX8_decree 90 = .ok (.iastore, 1) := by decide +kernel
theorem dX8_decree_91 : decode cX8_decree 91 = .ok (.aload_n 0, 1) := by decide +kernel
theorem dX8_decree_92 : decode cX8_decree 92 = .ok (.getfield 16, 3) := by decide +kernel
theorem dX8_decree_95 : decode cX8_decree 95 = .ok (.aload_n 0, 1) := by decide +kernel
theorem dX8_decree_96 : decode cX8_decree 96 = .ok (.getfield 168, 3) := by decide +kernel
theorem dX8_decree_99 : decode cX8_decree 99 = .ok (.iload_n 2, 1) := by decide +kernel
theorem dX8_decree_100 : decode cX8_decree 100 = .ok (.iastore, 1) := by decide +kernel
theorem dX8_decree_101 : decode cX8_decree 101 = .ok (.aload_n 0, 1) := by decide +kernel
theorem dX8_decree_102 : decode cX8_decree 102 = .ok (.getfield 19, 3) := by decide +kernel
theorem dX8_decree_105 : decode cX8_decree 105 = .ok (.aload_n 0, 1) := by decide +kernel
theorem dX8_decree_106 : decode cX8_decree 106 = .ok (.getfield 168, 3) := by decide +kernel
theorem dX8_decree_109 : decode cX8_decree 109 = .ok (.iload_n 3, 1) := by decide +kernel
theorem dX8_decree_110 : decode cX8_decree 110 = .ok (.iastore, 1) := by decide +kernel
theorem dX8_decree_111 : decode cX8_decree 111 = .ok (.aload_n 0, 1) := by decide +kernel
theorem dX8_decree_112 : decode cX8_decree 112 = .ok (.getfield 22, 3) := by decide +kernel
theorem dX8_decree_115 : decode cX8_decree 115 = .ok (.aload_n 0, 1) := by decide +kernel
theorem dX8_decree_116 : decode cX8_decree 116 = .ok (.getfield 168, 3) := by decide +kernel
theorem dX8_decree_119 : decode cX8_decree 119 = .ok (.aload_n 0, 1) := by decide +kernel
theorem dX8_decree_120 : decode cX8_decree 120 = .ok (.getfield 154, 3) := by decide +kernel
theorem dX8_decree_123 : decode cX8_decree 123 = .ok (.iastore, 1) := by decide +kernel
theorem dX8_decree_124 : decode cX8_decree 124 = .ok (.aload_n 0, 1) := by decide +kernel
theorem dX8_decree_125 : decode cX8_decree 125 = .ok (.dup, 1) := by decide +kernel
theorem dX8_decree_126 : decode cX8_decree 126 = .ok (.getfield 168, 3) := by decide +kernel
theorem dX8_decree_129 : decode cX8_decree 129 = .ok (.iconst 1, 1) := by decide +kernel
theorem dX8_decree_130 : decode cX8_decree 130 = .ok (.iadd, 1) := by decide +kernel
theorem dX8_decree_131 : decode cX8_decree 131 = .ok (.putfield 168, 3) := by decide +kernel
theorem dX8_decree_134 : decode cX8_decree 134 = .ok (.iload 5, 2) := by decide +kernel
theorem dX8_decree_136 : decode cX8_decree 136 = .ok (.ireturn, 1) := by decide +kernel
theorem dX8_ruleOn_0 : decode cX8_ruleOn 0 = .ok (.iload_n 1, 1) := by decide +kernel
theorem dX8_ruleOn_1 : decode cX8_ruleOn 1 = .ok (.iconst 3, 1) := by decide +kernel
theorem dX8_ruleOn_2 : decode cX8_ruleOn 2 = .ok (.if_icmp .ne 7, 3) := by decide +kernel
theorem dX8_ruleOn_5 : decode cX8_ruleOn 5 = .ok (.iconst 1, 1) := by decide +kernel
theorem dX8_ruleOn_6 : decode cX8_ruleOn 6 = .ok (.goto 4, 3) := by decide +kernel
theorem dX8_ruleOn_9 : decode cX8_ruleOn 9 = .ok (.iconst 0, 1) := by decide +kernel
theorem dX8_ruleOn_10 : decode cX8_ruleOn 10 = .ok (.istore_n 3, 1) := by decide +kernel
theorem dX8_ruleOn_11 : decode cX8_ruleOn 11 = .ok (.iconst 0, 1) := by decide +kernel
theorem dX8_ruleOn_12 : decode cX8_ruleOn 12 = .ok (.istore 4, 2) := by decide +kernel
theorem dX8_ruleOn_14 : decode cX8_ruleOn 14 = .ok (.iload 4, 2) := by decide +kernel
theorem dX8_ruleOn_16 : decode cX8_ruleOn 16 = .ok (.aload_n 0, 1) := by decide +kernel
theorem dX8_ruleOn_17 : decode cX8_ruleOn 17 = .ok (.getfield 181, 3) := by decide +kernel
theorem dX8_ruleOn_20 : decode cX8_ruleOn 20 = .ok (.if_icmp .ge 43, 3) := by decide +kernel
theorem dX8_ruleOn_23 : decode cX8_ruleOn 23 = .ok (.aload_n 0, 1) := by decide +kernel
theorem dX8_ruleOn_24 : decode cX8_ruleOn 24 = .ok (.getfield 25, 3) := by decide +kernel
theorem dX8_ruleOn_27 : decode cX8_ruleOn 27 = .ok (.iload 4, 2) := by decide +kernel
theorem dX8_ruleOn_29 : decode cX8_ruleOn 29 = .ok (.iaload, 1) := by decide +kernel
theorem dX8_ruleOn_30 : decode cX8_ruleOn 30 = .ok (.iload_n 1, 1) := by decide +kernel
theorem dX8_ruleOn_31 : decode cX8_ruleOn 31 = .ok (.if_icmp .ne 24, 3) := by decide +kernel
theorem dX8_ruleOn_34 : decode cX8_ruleOn 34 = .ok (.aload_n 0, 1) := by decide +kernel
theorem dX8_ruleOn_35 : decode cX8_ruleOn 35 = .ok (.getfield 31, 3) := by decide +kernel
theorem dX8_ruleOn_38 : decode cX8_ruleOn 38 = .ok (.iload 4, 2) := by decide +kernel
theorem dX8_ruleOn_40 : decode cX8_ruleOn 40 = .ok (.iaload, 1) := by decide +kernel
theorem dX8_ruleOn_41 : decode cX8_ruleOn 41 = .ok (.iload_n 2, 1) := by decide +kernel
theorem dX8_ruleOn_42 : decode cX8_ruleOn 42 = .ok (.if_icmp .gt 13, 3) := by decide +kernel
theorem dX8_ruleOn_45 : decode cX8_ruleOn 45 = .ok (.aload_n 0, 1) := by decide +kernel
theorem dX8_ruleOn_46 : decode cX8_ruleOn 46 = .ok (.getfield 28, 3) := by decide +kernel
theorem dX8_ruleOn_49 : decode cX8_ruleOn 49 = .ok (.iload 4, 2) := by decide +kernel
theorem dX8_ruleOn_51 : decode cX8_ruleOn 51 = .ok (.iaload, 1) := by decide +kernel
theorem dX8_ruleOn_52 : decode cX8_ruleOn 52 = .ok (.goto 4, 3) := by decide +kernel
theorem dX8_ruleOn_55 : decode cX8_ruleOn 55 = .ok (.iload_n 3, 1) := by decide +kernel
theorem dX8_ruleOn_56 : decode cX8_ruleOn 56 = .ok (.istore_n 3, 1) := by decide +kernel
theorem dX8_ruleOn_57 : decode cX8_ruleOn 57 = .ok (.iinc 4 1, 3) := by decide +kernel
theorem dX8_ruleOn_60 : decode cX8_ruleOn 60 = .ok (.goto (-46), 3) := by decide +kernel
theorem dX8_ruleOn_63 : decode cX8_ruleOn 63 = .ok (.iload_n 3, 1) := by decide +kernel
theorem dX8_ruleOn_64 : decode cX8_ruleOn 64 = .ok (.ireturn, 1) := by decide +kernel
theorem dX8_rule_0 : decode cX8_rule 0 = .ok (.aload_n 0, 1) := by decide +kernel
theorem dX8_rule_1 : decode cX8_rule 1 = .ok (.iload_n 1, 1) := by decide +kernel
theorem dX8_rule_2 : decode cX8_rule 2 = .ok (.iconst 0, 1) := by decide +kernel
theorem dX8_rule_3 : decode cX8_rule 3 = .ok (.iconst 3, 1) := by decide +kernel
theorem dX8_rule_4 : decode cX8_rule 4 = .ok (.invokestatic 137, 3) := by decide +kernel
theorem dX8_rule_7 : decode cX8_rule 7 = .ok (.ifCond .eq 12, 3) := by decide +kernel
theorem dX8_rule_10 : decode cX8_rule 10 = .ok (.iload_n 2, 1) := by decide +kernel
theorem dX8_rule_11 : decode cX8_rule 11 = .ok (.iconst 0, 1) := by decide +kernel
theorem dX8_rule_12 : decode cX8_rule 12 = .ok (.iconst 3, 1) := by decide +kernel
theorem dX8_rule_13 : decode cX8_rule 13 = .ok (.invokestatic 137, 3) := by decide +kernel
theorem dX8_rule_16 : decode cX8_rule 16 = .ok (.ifCond .ne 7, 3) := by decide +kernel
theorem dX8_rule_19 : decode cX8_rule 19 = .ok (.iconst 1, 1) := by decide +kernel
theorem dX8_rule_20 : decode cX8_rule 20 = .ok (.goto 17, 3) := by decide +kernel
theorem dX8_rule_23 : decode cX8_rule 23 = .ok (.aload_n 0, 1) := by decide +kernel
theorem dX8_rule_24 : decode cX8_rule 24 = .ok (.getfield 181, 3) := by decide +kernel
theorem dX8_rule_27 : decode cX8_rule 27 = .ok (.bipush 40, 2) := by decide +kernel
theorem dX8_rule_29 : decode cX8_rule 29 = .ok (.if_icmp .ne 7, 3) := by decide +kernel
theorem dX8_rule_32 : decode cX8_rule 32 = .ok (.iconst 2, 1) := by decide +kernel
theorem dX8_rule_33 : decode cX8_rule 33 = .ok (.goto 4, 3) := by decide +kernel
theorem dX8_rule_36 : decode cX8_rule 36 = .ok (.iconst 0, 1) := by decide +kernel
theorem dX8_rule_37 : decode cX8_rule 37 = .ok (.invokevirtual 157, 3) := by decide +kernel
theorem dX8_rule_40 : decode cX8_rule 40 = .ok (.ifCond .ne 5, 3) := by decide +kernel
theorem dX8_rule_43 : decode cX8_rule 43 = .ok (.iconst 0, 1) := by decide +kernel
theorem dX8_rule_44 : decode cX8_rule 44 = .ok (.ireturn, 1) := by decide +kernel
theorem dX8_rule_45 : decode cX8_rule 45 = .ok (.aload_n 0, 1) := by decide +kernel
theorem dX8_rule_46 : decode cX8_rule 46 = .ok (.iload_n 1, 1) := by decide +kernel
theorem dX8_rule_47 : decode cX8_rule 47 = .ok (.aload_n 0, 1) := by decide +kernel
theorem dX8_rule_48 : decode cX8_rule 48 = .ok (.getfield 154, 3) := by decide +kernel
theorem dX8_rule_51 : decode cX8_rule 51 = .ok (.invokevirtual 184, 3) := by decide +kernel
theorem dX8_rule_54 : decode cX8_rule 54 = .ok (.istore_n 3, 1) := by decide +kernel
theorem dX8_rule_55 : decode cX8_rule 55 = .ok (.aload_n 0, 1) := by decide +kernel
theorem dX8_rule_56 : decode cX8_rule 56 = .ok (.getfield 25, 3) := by decide +kernel
theorem dX8_rule_59 : decode cX8_rule 59 = .ok (.aload_n 0, 1) := by decide +kernel
theorem dX8_rule_60 : decode cX8_rule 60 = .ok (.getfield 181, 3) := by decide +kernel
theorem dX8_rule_63 : decode cX8_rule 63 = .ok (.iload_n 1, 1) := by decide +kernel
theorem dX8_rule_64 : decode cX8_rule 64 = .ok (.iastore, 1) := by decide +kernel
theorem dX8_rule_65 : decode cX8_rule 65 = .ok (.aload_n 0, 1) := by decide +kernel
theorem dX8_rule_66 : decode cX8_rule 66 = .ok (.getfield 28, 3) := by decide +kernel
theorem dX8_rule_69 : decode cX8_rule 69 = .ok (.aload_n 0, 1) := by decide +kernel
theorem dX8_rule_70 : decode cX8_rule 70 = .ok (.getfield 181, 3) := by decide +kernel
theorem dX8_rule_73 : decode cX8_rule 73 = .ok (.iload_n 2, 1) := by decide +kernel
theorem dX8_rule_74 : decode cX8_rule 74 = .ok (.iastore, 1) := by decide +kernel
theorem dX8_rule_75 : decode cX8_rule 75 = .ok (.aload_n 0, 1) := by decide +kernel
theorem dX8_rule_76 : decode cX8_rule 76 = .ok (.getfield 31, 3) := by decide +kernel
theorem dX8_rule_79 : decode cX8_rule 79 = .ok (.aload_n 0, 1) := by decide +kernel
theorem dX8_rule_80 : decode cX8_rule 80 = .ok (.getfield 181, 3) := by decide +kernel
theorem dX8_rule_83 : decode cX8_rule 83 = .ok (.aload_n 0, 1) := by decide +kernel
theorem dX8_rule_84 : decode cX8_rule 84 = .ok (.getfield 154, 3) := by decide +kernel
theorem dX8_rule_87 : decode cX8_rule 87 = .ok (.iastore, 1) := by decide +kernel
theorem dX8_rule_88 : decode cX8_rule 88 = .ok (.aload_n 0, 1) := by decide +kernel
theorem dX8_rule_89 : decode cX8_rule 89 = .ok (.dup, 1) := by decide +kernel
theorem dX8_rule_90 : decode cX8_rule 90 = .ok (.getfield 181, 3) := by decide +kernel
theorem dX8_rule_93 : decode cX8_rule 93 = .ok (.iconst 1, 1) := by decide +kernel
theorem dX8_rule_94 : decode cX8_rule 94 = .ok (.iadd, 1) := by decide +kernel
theorem dX8_rule_95 : decode cX8_rule 95 = .ok (.putfield 181, 3) := by decide +kernel
theorem dX8_rule_98 : decode cX8_rule 98 = .ok (.iload_n 3, 1) := by decide +kernel
theorem dX8_rule_99 : decode cX8_rule 99 = .ok (.ireturn, 1) := by decide +kernel
theorem dX8_law_0 : decode cX8_law 0 = .ok (.iload_n 2, 1) := by decide +kernel
theorem dX8_law_1 : decode cX8_law 1 = .ok (.iconst 0, 1) := by decide +kernel
theorem dX8_law_2 : decode cX8_law 2 = .ok (.bipush 6, 2) := by decide +kernel
theorem dX8_law_4 : decode cX8_law 4 = .ok (.invokestatic 137, 3) := by decide +kernel
theorem dX8_law_7 : decode cX8_law 7 = .ok (.ifCond .eq 19, 3) := by decide +kernel
theorem dX8_law_10 : decode cX8_law 10 = .ok (.iload_n 3, 1) := by decide +kernel
theorem dX8_law_11 : decode cX8_law 11 = .ok (.iconst 0, 1) := by decide +kernel
theorem dX8_law_12 : decode cX8_law 12 = .ok (.aload_n 0, 1) := by decide +kernel
theorem dX8_law_13 : decode cX8_law 13 = .ok (.getfield 154, 3) := by decide +kernel
theorem dX8_law_16 : decode cX8_law 16 = .ok (.invokestatic 137, 3) := by decide +kernel
theorem dX8_law_19 : decode cX8_law 19 = .ok (.ifCond .eq 7, 3) := by decide +kernel
theorem dX8_law_22 : decode cX8_law 22 = .ok (.iconst 1, 1) := by decide +kernel
theorem dX8_law_23 : decode cX8_law 23 = .ok (.goto 4, 3) := by decide +kernel
theorem dX8_law_26 : decode cX8_law 26 = .ok (.iconst 0, 1) := by decide +kernel
theorem dX8_law_27 : decode cX8_law 27 = .ok (.istore 4, 2) := by decide +kernel
theorem dX8_law_29 : decode cX8_law 29 = .ok (.aload_n 0, 1) := by decide +kernel
theorem dX8_law_30 : decode cX8_law 30 = .ok (.aload_n 0, 1) := by decide +kernel
theorem dX8_law_31 : decode cX8_law 31 = .ok (.iload_n 1, 1) := by decide +kernel
theorem dX8_law_32 : decode cX8_law 32 = .ok (.invokevirtual 174, 3) := by decide +kernel
theorem dX8_law_35 : decode cX8_law 35 = .ok (.ifCond .ne 7, 3) := by decide +kernel
theorem dX8_law_38 : decode cX8_law 38 = .ok (.iconst 1, 1) := by decide +kernel
theorem dX8_law_39 : decode cX8_law 39 = .ok (.goto 13, 3) := by decide +kernel
theorem dX8_law_42 : decode cX8_law 42 = .ok (.iload 4, 2) := by decide +kernel
theorem dX8_law_44 : decode cX8_law 44 = .ok (.ifCond .eq 7, 3) := by decide +kernel
theorem dX8_law_47 : decode cX8_law 47 = .ok (.iconst 0, 1) := by decide +kernel
theorem dX8_law_48 : decode cX8_law 48 = .ok (.goto 4, 3) := by decide +kernel
theorem dX8_law_51 : decode cX8_law 51 = .ok (.iconst 2, 1) := by decide +kernel
theorem dX8_law_52 : decode cX8_law 52 = .ok (.invokevirtual 157, 3) := by decide +kernel
theorem dX8_law_55 : decode cX8_law 55 = .ok (.ifCond .eq 13, 3) := by decide +kernel
theorem dX8_law_58 : decode cX8_law 58 = .ok (.aload_n 0, 1) := by decide +kernel
theorem dX8_law_59 : decode cX8_law 59 = .ok (.iload_n 1, 1) := by decide +kernel
theorem dX8_law_60 : decode cX8_law 60 = .ok (.iload_n 2, 1) := by decide +kernel
theorem dX8_law_61 : decode cX8_law 61 = .ok (.iload_n 3, 1) := by decide +kernel
theorem dX8_law_62 : decode cX8_law 62 = .ok (.invokevirtual 177, 3) := by decide +kernel
theorem dX8_law_65 : decode cX8_law 65 = .ok (.goto 4, 3) := by decide +kernel
theorem dX8_law_68 : decode cX8_law 68 = .ok (.iconst 0, 1) := by decide +kernel
theorem dX8_law_69 : decode cX8_law 69 = .ok (.ireturn, 1) := by decide +kernel
theorem dX8_faithOn_0 : decode cX8_faithOn 0 = .ok (.aload_n 0, 1) := by decide +kernel
theorem dX8_faithOn_1 : decode cX8_faithOn 1 = .ok (.getfield 54, 3) := by decide +kernel
theorem dX8_faithOn_4 : decode cX8_faithOn 4 = .ok (.iload_n 1, 1) := by decide +kernel
theorem dX8_faithOn_5 : decode cX8_faithOn 5 = .ok (.iaload, 1) := by decide +kernel
theorem dX8_faithOn_6 : decode cX8_faithOn 6 = .ok (.iconst 1, 1) := by decide +kernel
theorem dX8_faithOn_7 : decode cX8_faithOn 7 = .ok (.isub, 1) := by decide +kernel
theorem dX8_faithOn_8 : decode cX8_faithOn 8 = .ok (.istore_n 3, 1) := by decide +kernel
theorem dX8_faithOn_9 : decode cX8_faithOn 9 = .ok (.iload_n 3, 1) := by decide +kernel
theorem dX8_faithOn_10 : decode cX8_faithOn 10 = .ok (.ifCond .le 28, 3) := by decide +kernel
theorem dX8_faithOn_13 : decode cX8_faithOn 13 = .ok (.aload_n 0, 1) := by decide +kernel
theorem dX8_faithOn_14 : decode cX8_faithOn 14 = .ok (.getfield 58, 3) := by decide +kernel
theorem dX8_faithOn_17 : decode cX8_faithOn 17 = .ok (.sipush 1024, 3) := by decide +kernel
theorem dX8_faithOn_20 : decode cX8_faithOn 20 = .ok (.iload_n 1, 1) := by decide +kernel
theorem dX8_faithOn_21 : decode cX8_faithOn 21 = .ok (.imul, 1) := by decide +kernel
theorem dX8_faithOn_22 : decode cX8_faithOn 22 = .ok (.iload_n 3, 1) := by decide +kernel
theorem dX8_faithOn_23 : decode cX8_faithOn 23 = .ok (.iadd, 1) := by decide +kernel
theorem dX8_faithOn_24 : decode cX8_faithOn 24 = .ok (.iaload, 1) := by decide +kernel
theorem dX8_faithOn_25 : decode cX8_faithOn 25 = .ok (.bipush 8, 2) := by decide +kernel
theorem dX8_faithOn_27 : decode cX8_faithOn 27 = .ok (.idiv, 1) := by decide +kernel
theorem dX8_faithOn_28 : decode cX8_faithOn 28 = .ok (.iload_n 2, 1) := by decide +kernel
theorem dX8_faithOn_29 : decode cX8_faithOn 29 = .ok (.if_icmp .le 9, 3) := by decide +kernel
theorem dX8_faithOn_32 : decode cX8_faithOn 32 = .ok (.iinc 3 (-1), 3) := by decide +kernel
theorem dX8_faithOn_35 : decode cX8_faithOn 35 = .ok (.goto (-26), 3) := by decide +kernel
theorem dX8_faithOn_38 : decode cX8_faithOn 38 = .ok (.aload_n 0, 1) := by decide +kernel
theorem dX8_faithOn_39 : decode cX8_faithOn 39 = .ok (.getfield 58, 3) := by decide +kernel
theorem dX8_faithOn_42 : decode cX8_faithOn 42 = .ok (.sipush 1024, 3) := by decide +kernel
theorem dX8_faithOn_45 : decode cX8_faithOn 45 = .ok (.iload_n 1, 1) := by decide +kernel
theorem dX8_faithOn_46 : decode cX8_faithOn 46 = .ok (.imul, 1) := by decide +kernel
theorem dX8_faithOn_47 : decode cX8_faithOn 47 = .ok (.iload_n 3, 1) := by decide +kernel
theorem dX8_faithOn_48 : decode cX8_faithOn 48 = .ok (.iadd, 1) := by decide +kernel
theorem dX8_faithOn_49 : decode cX8_faithOn 49 = .ok (.iaload, 1) := by decide +kernel
theorem dX8_faithOn_50 : decode cX8_faithOn 50 = .ok (.bipush 8, 2) := by decide +kernel
theorem dX8_faithOn_52 : decode cX8_faithOn 52 = .ok (.irem, 1) := by decide +kernel
theorem dX8_faithOn_53 : decode cX8_faithOn 53 = .ok (.ireturn, 1) := by decide +kernel
theorem dX8_courtOn_0 : decode cX8_courtOn 0 = .ok (.aload_n 0, 1) := by decide +kernel
theorem dX8_courtOn_1 : decode cX8_courtOn 1 = .ok (.iload_n 1, 1) := by decide +kernel
theorem dX8_courtOn_2 : decode cX8_courtOn 2 = .ok (.iload 4, 2) := by decide +kernel
theorem dX8_courtOn_4 : decode cX8_courtOn 4 = .ok (.invokevirtual 184, 3) := by decide +kernel
theorem dX8_courtOn_7 : decode cX8_courtOn 7 = .ok (.istore 5, 2) := by decide +kernel
theorem dX8_courtOn_9 : decode cX8_courtOn 9 = .ok (.aload_n 0, 1) := by decide +kernel
theorem dX8_courtOn_10 : decode cX8_courtOn 10 = .ok (.iload_n 2, 1) := by decide +kernel
theorem dX8_courtOn_11 : decode cX8_courtOn 11 = .ok (.iload 4, 2) := by decide +kernel
theorem dX8_courtOn_13 : decode cX8_courtOn 13 = .ok (.invokevirtual 188, 3) := by decide +kernel
theorem dX8_courtOn_16 : decode cX8_courtOn 16 = .ok (.istore 6, 2) := by decide +kernel
theorem dX8_courtOn_18 : decode cX8_courtOn 18 = .ok (.aload_n 0, 1) := by decide +kernel
theorem dX8_courtOn_19 : decode cX8_courtOn 19 = .ok (.iload_n 3, 1) := by decide +kernel
theorem dX8_courtOn_20 : decode cX8_courtOn 20 = .ok (.iload 4, 2) := by decide +kernel
theorem dX8_courtOn_22 : decode cX8_courtOn 22 = .ok (.invokevirtual 188, 3) := by decide +kernel
theorem dX8_courtOn_25 : decode cX8_courtOn 25 = .ok (.istore 7, 2) := by decide +kernel
theorem dX8_courtOn_27 : decode cX8_courtOn 27 = .ok (.iload 5, 2) := by decide +kernel
theorem dX8_courtOn_29 : decode cX8_courtOn 29 = .ok (.iconst 3, 1) := by decide +kernel
theorem dX8_courtOn_30 : decode cX8_courtOn 30 = .ok (.if_icmp .ne 7, 3) := by decide +kernel
theorem dX8_courtOn_33 : decode cX8_courtOn 33 = .ok (.iconst (-1), 1) := by decide +kernel
theorem dX8_courtOn_34 : decode cX8_courtOn 34 = .ok (.goto 37, 3) := by decide +kernel
theorem dX8_courtOn_37 : decode cX8_courtOn 37 = .ok (.iload 5, 2) := by decide +kernel
theorem dX8_courtOn_39 : decode cX8_courtOn 39 = .ok (.ifCond .ne 8, 3) := by decide +kernel
theorem dX8_courtOn_42 : decode cX8_courtOn 42 = .ok (.iload 6, 2) := by decide +kernel
theorem dX8_courtOn_44 : decode cX8_courtOn 44 = .ok (.goto 27, 3) := by decide +kernel
theorem dX8_courtOn_47 : decode cX8_courtOn 47 = .ok (.iload 5, 2) := by decide +kernel
theorem dX8_courtOn_49 : decode cX8_courtOn 49 = .ok (.iconst 1, 1) := by decide +kernel
theorem dX8_courtOn_50 : decode cX8_courtOn 50 = .ok (.if_icmp .ne 8, 3) := by decide +kernel
theorem dX8_courtOn_53 : decode cX8_courtOn 53 = .ok (.iload 7, 2) := by decide +kernel
theorem dX8_courtOn_55 : decode cX8_courtOn 55 = .ok (.goto 16, 3) := by decide +kernel
theorem dX8_courtOn_58 : decode cX8_courtOn 58 = .ok (.iload 6, 2) := by decide +kernel
theorem dX8_courtOn_60 : decode cX8_courtOn 60 = .ok (.iload 7, 2) := by decide +kernel
theorem dX8_courtOn_62 : decode cX8_courtOn 62 = .ok (.if_icmp .ne 8, 3) := by decide +kernel
theorem dX8_courtOn_65 : decode cX8_courtOn 65 = .ok (.iload 6, 2) := by decide +kernel
theorem dX8_courtOn_67 : decode cX8_courtOn 67 = .ok (.goto 4, 3) := by decide +kernel
theorem dX8_courtOn_70 : decode cX8_courtOn 70 = .ok (.iconst (-1), 1) := by decide +kernel
theorem dX8_courtOn_71 : decode cX8_courtOn 71 = .ok (.istore 8, 2) := by decide +kernel
theorem dX8_courtOn_73 : decode cX8_courtOn 73 = .ok (.iload 8, 2) := by decide +kernel
theorem dX8_courtOn_75 : decode cX8_courtOn 75 = .ok (.iconst (-1), 1) := by decide +kernel
theorem dX8_courtOn_76 : decode cX8_courtOn 76 = .ok (.if_icmp .eq 19, 3) := by decide +kernel
theorem dX8_courtOn_79 : decode cX8_courtOn 79 = .ok (.aload_n 0, 1) := by decide +kernel
theorem dX8_courtOn_80 : decode cX8_courtOn 80 = .ok (.iload 8, 2) := by decide +kernel
theorem dX8_courtOn_82 : decode cX8_courtOn 82 = .ok (.iload 4, 2) := by decide +kernel
theorem dX8_courtOn_84 : decode cX8_courtOn 84 = .ok (.invokevirtual 164, 3) := by decide +kernel
theorem dX8_courtOn_87 : decode cX8_courtOn 87 = .ok (.ifCond .eq 8, 3) := by decide +kernel
theorem dX8_courtOn_90 : decode cX8_courtOn 90 = .ok (.iload 8, 2) := by decide +kernel
theorem dX8_courtOn_92 : decode cX8_courtOn 92 = .ok (.goto 4, 3) := by decide +kernel
theorem dX8_courtOn_95 : decode cX8_courtOn 95 = .ok (.iconst (-1), 1) := by decide +kernel
theorem dX8_courtOn_96 : decode cX8_courtOn 96 = .ok (.ireturn, 1) := by decide +kernel
theorem dX8_court_0 : decode cX8_court 0 = .ok (.aload_n 0, 1) := by decide +kernel
theorem dX8_court_1 : decode cX8_court 1 = .ok (.iload_n 2, 1) := by decide +kernel
theorem dX8_court_2 : decode cX8_court 2 = .ok (.invokevirtual 191, 3) := by decide +kernel
theorem dX8_court_5 : decode cX8_court 5 = .ok (.ifCond .eq 15, 3) := by decide +kernel
theorem dX8_court_8 : decode cX8_court 8 = .ok (.aload_n 0, 1) := by decide +kernel
theorem dX8_court_9 : decode cX8_court 9 = .ok (.iload_n 3, 1) := by decide +kernel
theorem dX8_court_10 : decode cX8_court 10 = .ok (.invokevirtual 191, 3) := by decide +kernel
theorem dX8_court_13 : decode cX8_court 13 = .ok (.ifCond .eq 7, 3) := by decide +kernel
theorem dX8_court_16 : decode cX8_court 16 = .ok (.iconst 1, 1) := by decide +kernel
theorem dX8_court_17 : decode cX8_court 17 = .ok (.goto 4, 3) := by decide +kernel
theorem dX8_court_20 : decode cX8_court 20 = .ok (.iconst 0, 1) := by decide +kernel
theorem dX8_court_21 : decode cX8_court 21 = .ok (.istore 5, 2) := by decide +kernel
theorem dX8_court_23 : decode cX8_court 23 = .ok (.iload 5, 2) := by decide +kernel
theorem dX8_court_25 : decode cX8_court 25 = .ok (.ifCond .eq 52, 3) := by decide +kernel
theorem dX8_court_28 : decode cX8_court 28 = .ok (.iload_n 1, 1) := by decide +kernel
theorem dX8_court_29 : decode cX8_court 29 = .ok (.iconst 0, 1) := by decide +kernel
theorem dX8_court_30 : decode cX8_court 30 = .ok (.iconst 3, 1) := by decide +kernel
theorem dX8_court_31 : decode cX8_court 31 = .ok (.invokestatic 137, 3) := by decide +kernel
theorem dX8_court_34 : decode cX8_court 34 = .ok (.ifCond .eq 43, 3) := by decide +kernel
theorem dX8_court_37 : decode cX8_court 37 = .ok (.iload 4, 2) := by decide +kernel
theorem dX8_court_39 : decode cX8_court 39 = .ok (.aload_n 0, 1) := by decide +kernel
theorem dX8_court_40 : decode cX8_court 40 = .ok (.getfield 44, 3) := by decide +kernel
theorem dX8_court_43 : decode cX8_court 43 = .ok (.iload_n 2, 1) := by decide +kernel
theorem dX8_court_44 : decode cX8_court 44 = .ok (.iaload, 1) := by decide +kernel
theorem dX8_court_45 : decode cX8_court 45 = .ok (.aload_n 0, 1) := by decide +kernel
theorem dX8_court_46 : decode cX8_court 46 = .ok (.getfield 154, 3) := by decide +kernel
theorem dX8_court_49 : decode cX8_court 49 = .ok (.invokestatic 137, 3) := by decide +kernel
theorem dX8_court_52 : decode cX8_court 52 = .ok (.ifCond .eq 25, 3) := by decide +kernel
theorem dX8_court_55 : decode cX8_court 55 = .ok (.iload 4, 2) := by decide +kernel
theorem dX8_court_57 : decode cX8_court 57 = .ok (.aload_n 0, 1) := by decide +kernel
theorem dX8_court_58 : decode cX8_court 58 = .ok (.getfield 44, 3) := by decide +kernel
theorem dX8_court_61 : decode cX8_court 61 = .ok (.iload_n 3, 1) := by decide +kernel
theorem dX8_court_62 : decode cX8_court 62 = .ok (.iaload, 1) := by decide +kernel
theorem dX8_court_63 : decode cX8_court 63 = .ok (.aload_n 0, 1) := by decide +kernel
theorem dX8_court_64 : decode cX8_court 64 = .ok (.getfield 154, 3) := by decide +kernel
theorem dX8_court_67 : decode cX8_court 67 = .ok (.invokestatic 137, 3) := by decide +kernel
theorem dX8_court_70 : decode cX8_court 70 = .ok (.ifCond .eq 7, 3) := by decide +kernel
theorem dX8_court_73 : decode cX8_court 73 = .ok (.iconst 1, 1) := by decide +kernel
theorem dX8_court_74 : decode cX8_court 74 = .ok (.goto 4, 3) := by decide +kernel
theorem dX8_court_77 : decode cX8_court 77 = .ok (.iconst 0, 1) := by decide +kernel
theorem dX8_court_78 : decode cX8_court 78 = .ok (.istore 6, 2) := by decide +kernel
theorem dX8_court_80 : decode cX8_court 80 = .ok (.aload_n 0, 1) := by decide +kernel
theorem dX8_court_81 : decode cX8_court 81 = .ok (.iload 5, 2) := by decide +kernel
theorem dX8_court_83 : decode cX8_court 83 = .ok (.ifCond .ne 7, 3) := by decide +kernel
theorem dX8_court_86 : decode cX8_court 86 = .ok (.iconst 1, 1) := by decide +kernel
theorem dX8_court_87 : decode cX8_court 87 = .ok (.goto 13, 3) := by decide +kernel
theorem dX8_court_90 : decode cX8_court 90 = .ok (.iload 6, 2) := by decide +kernel
theorem dX8_court_92 : decode cX8_court 92 = .ok (.ifCond .eq 7, 3) := by decide +kernel
theorem dX8_court_95 : decode cX8_court 95 = .ok (.iconst 0, 1) := by decide +kernel
theorem dX8_court_96 : decode cX8_court 96 = .ok (.goto 4, 3) := by decide +kernel
theorem dX8_court_99 : decode cX8_court 99 = .ok (.iconst 2, 1) := by decide +kernel
theorem dX8_court_100 : decode cX8_court 100 = .ok (.invokevirtual 157, 3) := by decide +kernel
theorem dX8_court_103 : decode cX8_court 103 = .ok (.ifCond .eq 15, 3) := by decide +kernel
theorem dX8_court_106 : decode cX8_court 106 = .ok (.aload_n 0, 1) := by decide +kernel
theorem dX8_court_107 : decode cX8_court 107 = .ok (.iload_n 1, 1) := by decide +kernel
theorem dX8_court_108 : decode cX8_court 108 = .ok (.iload_n 2, 1) := by decide +kernel
theorem dX8_court_109 : decode cX8_court 109 = .ok (.iload_n 3, 1) := by decide +kernel
theorem dX8_court_110 : decode cX8_court 110 = .ok (.iload 4, 2) := by decide +kernel
theorem dX8_court_112 : decode cX8_court 112 = .ok (.invokevirtual 194, 3) := by decide +kernel
theorem dX8_court_115 : decode cX8_court 115 = .ok (.goto 4, 3) := by decide +kernel
theorem dX8_court_118 : decode cX8_court 118 = .ok (.iconst 0, 1) := by decide +kernel
theorem dX8_court_119 : decode cX8_court 119 = .ok (.ireturn, 1) := by decide +kernel
theorem dX8_takes_0 : decode cX8_takes 0 = .ok (.aload_n 0, 1) := by decide +kernel
theorem dX8_takes_1 : decode cX8_takes 1 = .ok (.getfield 58, 3) := by decide +kernel
theorem dX8_takes_4 : decode cX8_takes 4 = .ok (.sipush 1024, 3) := by decide +kernel
theorem dX8_takes_7 : decode cX8_takes 7 = .ok (.iload_n 1, 1) := by decide +kernel
theorem dX8_takes_8 : decode cX8_takes 8 = .ok (.imul, 1) := by decide +kernel
theorem dX8_takes_9 : decode cX8_takes 9 = .ok (.aload_n 0, 1) := by decide +kernel
theorem dX8_takes_10 : decode cX8_takes 10 = .ok (.getfield 54, 3) := by decide +kernel
theorem dX8_takes_13 : decode cX8_takes 13 = .ok (.iload_n 1, 1) := by decide +kernel
theorem dX8_takes_14 : decode cX8_takes 14 = .ok (.iaload, 1) := by decide +kernel
theorem dX8_takes_15 : decode cX8_takes 15 = .ok (.iadd, 1) := by decide +kernel
theorem dX8_takes_16 : decode cX8_takes 16 = .ok (.bipush 8, 2) := by decide +kernel
theorem dX8_takes_18 : decode cX8_takes 18 = .ok (.aload_n 0, 1) := by decide +kernel
theorem dX8_takes_19 : decode cX8_takes 19 = .ok (.getfield 154, 3) := by decide +kernel
theorem dX8_takes_22 : decode cX8_takes 22 = .ok (.imul, 1) := by decide +kernel
theorem dX8_takes_23 : decode cX8_takes 23 = .ok (.iload_n 2, 1) := by decide +kernel
theorem dX8_takes_24 : decode cX8_takes 24 = .ok (.iadd, 1) := by decide +kernel
theorem dX8_takes_25 : decode cX8_takes 25 = .ok (.iastore, 1) := by decide +kernel
theorem dX8_takes_26 : decode cX8_takes 26 = .ok (.aload_n 0, 1) := by decide +kernel
theorem dX8_takes_27 : decode cX8_takes 27 = .ok (.getfield 54, 3) := by decide +kernel
theorem dX8_takes_30 : decode cX8_takes 30 = .ok (.iload_n 1, 1) := by decide +kernel
theorem dX8_takes_31 : decode cX8_takes 31 = .ok (.dup2, 1) := by decide +kernel
theorem dX8_takes_32 : decode cX8_takes 32 = .ok (.iaload, 1) := by decide +kernel
theorem dX8_takes_33 : decode cX8_takes 33 = .ok (.iconst 1, 1) := by decide +kernel
theorem dX8_takes_34 : decode cX8_takes 34 = .ok (.iadd, 1) := by decide +kernel
theorem dX8_takes_35 : decode cX8_takes 35 = .ok (.iastore, 1) := by decide +kernel
theorem dX8_takes_36 : decode cX8_takes 36 = .ok (.return_, 1) := by decide +kernel
theorem dX8_person_0 : decode cX8_person 0 = .ok (.iload_n 2, 1) := by decide +kernel
theorem dX8_person_1 : decode cX8_person 1 = .ok (.iconst (-1), 1) := by decide +kernel
theorem dX8_person_2 : decode cX8_person 2 = .ok (.if_icmp .eq 11, 3) := by decide +kernel
theorem dX8_person_5 : decode cX8_person 5 = .ok (.aload_n 0, 1) := by decide +kernel
theorem dX8_person_6 : decode cX8_person 6 = .ok (.iload_n 2, 1) := by decide +kernel
theorem dX8_person_7 : decode cX8_person 7 = .ok (.invokevirtual 191, 3) := by decide +kernel
theorem dX8_person_10 : decode cX8_person 10 = .ok (.ifCond .eq 29, 3) := by decide +kernel
theorem dX8_person_13 : decode cX8_person 13 = .ok (.iload_n 3, 1) := by decide +kernel
theorem dX8_person_14 : decode cX8_person 14 = .ok (.iconst (-1), 1) := by decide +kernel
theorem dX8_person_15 : decode cX8_person 15 = .ok (.if_icmp .eq 11, 3) := by decide +kernel
theorem dX8_person_18 : decode cX8_person 18 = .ok (.aload_n 0, 1) := by decide +kernel
theorem dX8_person_19 : decode cX8_person 19 = .ok (.iload_n 3, 1) := by decide +kernel
theorem dX8_person_20 : decode cX8_person 20 = .ok (.invokevirtual 191, 3) := by decide +kernel
theorem dX8_person_23 : decode cX8_person 23 = .ok (.ifCond .eq 16, 3) := by decide +kernel
theorem dX8_person_26 : decode cX8_person 26 = .ok (.aload_n 0, 1) := by decide +kernel
theorem dX8_person_27 : decode cX8_person 27 = .ok (.iload 4, 2) := by decide +kernel
theorem dX8_person_29 : decode cX8_person 29 = .ok (.invokevirtual 174, 3) := by decide +kernel
theorem dX8_person_32 : decode cX8_person 32 = .ok (.ifCond .eq 7, 3) := by decide +kernel
theorem dX8_person_35 : decode cX8_person 35 = .ok (.iconst 1, 1) := by decide +kernel
theorem dX8_person_36 : decode cX8_person 36 = .ok (.goto 4, 3) := by decide +kernel
theorem dX8_person_39 : decode cX8_person 39 = .ok (.iconst 0, 1) := by decide +kernel
theorem dX8_person_40 : decode cX8_person 40 = .ok (.istore 5, 2) := by decide +kernel
theorem dX8_person_42 : decode cX8_person 42 = .ok (.iload_n 2, 1) := by decide +kernel
theorem dX8_person_43 : decode cX8_person 43 = .ok (.iconst (-1), 1) := by decide +kernel
theorem dX8_person_44 : decode cX8_person 44 = .ok (.if_icmp .ne 12, 3) := by decide +kernel
theorem dX8_person_47 : decode cX8_person 47 = .ok (.iload_n 3, 1) := by decide +kernel
theorem dX8_person_48 : decode cX8_person 48 = .ok (.iconst (-1), 1) := by decide +kernel
theorem dX8_person_49 : decode cX8_person 49 = .ok (.if_icmp .ne 7, 3) := by decide +kernel
theorem dX8_person_52 : decode cX8_person 52 = .ok (.iconst 1, 1) := by decide +kernel
theorem dX8_person_53 : decode cX8_person 53 = .ok (.goto 4, 3) := by decide +kernel
theorem dX8_person_56 : decode cX8_person 56 = .ok (.iconst 0, 1) := by decide +kernel
theorem dX8_person_57 : decode cX8_person 57 = .ok (.istore 6, 2) := by decide +kernel
theorem dX8_person_59 : decode cX8_person 59 = .ok (.iload 5, 2) := by decide +kernel
theorem dX8_person_61 : decode cX8_person 61 = .ok (.ifCond .eq 51, 3) := by decide +kernel
theorem dX8_person_64 : decode cX8_person 64 = .ok (.iload_n 2, 1) := by decide +kernel
theorem dX8_person_65 : decode cX8_person 65 = .ok (.iconst (-1), 1) := by decide +kernel
theorem dX8_person_66 : decode cX8_person 66 = .ok (.if_icmp .eq 12, 3) := by decide +kernel
theorem dX8_person_69 : decode cX8_person 69 = .ok (.aload_n 0, 1) := by decide +kernel
theorem dX8_person_70 : decode cX8_person 70 = .ok (.getfield 34, 3) := by decide +kernel
theorem dX8_person_73 : decode cX8_person 73 = .ok (.iload_n 2, 1) := by decide +kernel
theorem dX8_person_74 : decode cX8_person 74 = .ok (.baload, 1) := by decide +kernel
theorem dX8_person_75 : decode cX8_person 75 = .ok (.ifCond .ne 37, 3) := by decide +kernel
theorem dX8_person_78 : decode cX8_person 78 = .ok (.iload_n 3, 1) := by decide +kernel
theorem dX8_person_79 : decode cX8_person 79 = .ok (.iconst (-1), 1) := by decide +kernel
theorem dX8_person_80 : decode cX8_person 80 = .ok (.if_icmp .eq 12, 3) := by decide +kernel
theorem dX8_person_83 : decode cX8_person 83 = .ok (.aload_n 0, 1) := by decide +kernel
theorem dX8_person_84 : decode cX8_person 84 = .ok (.getfield 34, 3) := by decide +kernel
theorem dX8_person_87 : decode cX8_person 87 = .ok (.iload_n 3, 1) := by decide +kernel
theorem dX8_person_88 : decode cX8_person 88 = .ok (.baload, 1) := by decide +kernel
theorem dX8_person_89 : decode cX8_person 89 = .ok (.ifCond .eq 23, 3) := by decide +kernel
theorem dX8_person_92 : decode cX8_person 92 = .ok (.iload 6, 2) := by decide +kernel
theorem dX8_person_94 : decode cX8_person 94 = .ok (.iload 4, 2) := by decide +kernel
theorem dX8_person_96 : decode cX8_person 96 = .ok (.iconst (-1), 1) := by decide +kernel
theorem dX8_person_97 : decode cX8_person 97 = .ok (.if_icmp .eq 7, 3) := by decide +kernel
theorem dX8_person_100 : decode cX8_person 100 = .ok (.iconst 1, 1) := by decide +kernel
theorem dX8_person_101 : decode cX8_person 101 = .ok (.goto 4, 3) := by decide +kernel
theorem dX8_person_104 : decode cX8_person 104 = .ok (.iconst 0, 1) := by decide +kernel
theorem dX8_person_105 : decode cX8_person 105 = .ok (.if_icmp .ne 7, 3) := by decide +kernel
theorem dX8_person_108 : decode cX8_person 108 = .ok (.iconst 1, 1) := by decide +kernel
theorem dX8_person_109 : decode cX8_person 109 = .ok (.goto 4, 3) := by decide +kernel
theorem dX8_person_112 : decode cX8_person 112 = .ok (.iconst 0, 1) := by decide +kernel
theorem dX8_person_113 : decode cX8_person 113 = .ok (.istore 7, 2) := by decide +kernel
theorem dX8_person_115 : decode cX8_person 115 = .ok (.aload_n 0, 1) := by decide +kernel
theorem dX8_person_116 : decode cX8_person 116 = .ok (.iload 5, 2) := by decide +kernel
theorem dX8_person_118 : decode cX8_person 118 = .ok (.ifCond .ne 7, 3) := by decide +kernel
theorem dX8_person_121 : decode cX8_person 121 = .ok (.iconst 1, 1) := by decide +kernel
theorem dX8_person_122 : decode cX8_person 122 = .ok (.goto 26, 3) := by decide +kernel
theorem dX8_person_125 : decode cX8_person 125 = .ok (.iload 7, 2) := by decide +kernel
theorem dX8_person_127 : decode cX8_person 127 = .ok (.ifCond .ne 7, 3) := by decide +kernel
theorem dX8_person_130 : decode cX8_person 130 = .ok (.iconst 2, 1) := by decide +kernel
theorem dX8_person_131 : decode cX8_person 131 = .ok (.goto 17, 3) := by decide +kernel
theorem dX8_person_134 : decode cX8_person 134 = .ok (.aload_n 0, 1) := by decide +kernel
theorem dX8_person_135 : decode cX8_person 135 = .ok (.getfield 145, 3) := by decide +kernel
theorem dX8_person_138 : decode cX8_person 138 = .ok (.bipush 40, 2) := by decide +kernel
theorem dX8_person_140 : decode cX8_person 140 = .ok (.if_icmp .ne 7, 3) := by decide +kernel
theorem dX8_person_143 : decode cX8_person 143 = .ok (.iconst 3, 1) := by decide +kernel
theorem dX8_person_144 : decode cX8_person 144 = .ok (.goto 4, 3) := by decide +kernel
theorem dX8_person_147 : decode cX8_person 147 = .ok (.iconst 0, 1) := by decide +kernel
theorem dX8_person_148 : decode cX8_person 148 = .ok (.invokevirtual 157, 3) := by decide +kernel
theorem dX8_person_151 : decode cX8_person 151 = .ok (.ifCond .ne 5, 3) := by decide +kernel
theorem dX8_person_154 : decode cX8_person 154 = .ok (.iconst 0, 1) := by decide +kernel
theorem dX8_person_155 : decode cX8_person 155 = .ok (.ireturn, 1) := by decide +kernel
theorem dX8_person_156 : decode cX8_person 156 = .ok (.aload_n 0, 1) := by decide +kernel
theorem dX8_person_157 : decode cX8_person 157 = .ok (.getfield 34, 3) := by decide +kernel
theorem dX8_person_160 : decode cX8_person 160 = .ok (.aload_n 0, 1) := by decide +kernel
theorem dX8_person_161 : decode cX8_person 161 = .ok (.getfield 145, 3) := by decide +kernel
theorem dX8_person_164 : decode cX8_person 164 = .ok (.iload_n 1, 1) := by decide +kernel
theorem dX8_person_165 : decode cX8_person 165 = .ok (.bastore, 1) := by decide +kernel
theorem dX8_person_166 : decode cX8_person 166 = .ok (.aload_n 0, 1) := by decide +kernel
theorem dX8_person_167 : decode cX8_person 167 = .ok (.getfield 38, 3) := by decide +kernel
theorem dX8_person_170 : decode cX8_person 170 = .ok (.aload_n 0, 1) := by decide +kernel
theorem dX8_person_171 : decode cX8_person 171 = .ok (.getfield 145, 3) := by decide +kernel
theorem dX8_person_174 : decode cX8_person 174 = .ok (.iload_n 2, 1) := by decide +kernel
theorem dX8_person_175 : decode cX8_person 175 = .ok (.iastore, 1) := by decide +kernel
theorem dX8_person_176 : decode cX8_person 176 = .ok (.aload_n 0, 1) := by decide +kernel
theorem dX8_person_177 : decode cX8_person 177 = .ok (.getfield 41, 3) := by decide +kernel
theorem dX8_person_180 : decode cX8_person 180 = .ok (.aload_n 0, 1) := by decide +kernel
theorem dX8_person_181 : decode cX8_person 181 = .ok (.getfield 145, 3) := by decide +kernel
theorem dX8_person_184 : decode cX8_person 184 = .ok (.iload_n 3, 1) := by decide +kernel
theorem dX8_person_185 : decode cX8_person 185 = .ok (.iastore, 1) := by decide +kernel
theorem dX8_person_186 : decode cX8_person 186 = .ok (.aload_n 0, 1) := by decide +kernel
theorem dX8_person_187 : decode cX8_person 187 = .ok (.getfield 44, 3) := by decide +kernel
theorem dX8_person_190 : decode cX8_person 190 = .ok (.aload_n 0, 1) := by decide +kernel
theorem dX8_person_191 : decode cX8_person 191 = .ok (.getfield 145, 3) := by decide +kernel
theorem dX8_person_194 : decode cX8_person 194 = .ok (.aload_n 0, 1) := by decide +kernel
theorem dX8_person_195 : decode cX8_person 195 = .ok (.getfield 154, 3) := by decide +kernel
theorem dX8_person_198 : decode cX8_person 198 = .ok (.iastore, 1) := by decide +kernel
theorem dX8_person_199 : decode cX8_person 199 = .ok (.aload_n 0, 1) := by decide +kernel
theorem dX8_person_200 : decode cX8_person 200 = .ok (.getfield 61, 3) := by decide +kernel
theorem dX8_person_203 : decode cX8_person 203 = .ok (.aload_n 0, 1) := by decide +kernel
theorem dX8_person_204 : decode cX8_person 204 = .ok (.getfield 145, 3) := by decide +kernel
theorem dX8_person_207 : decode cX8_person 207 = .ok (.iconst (-1), 1) := by decide +kernel
theorem dX8_person_208 : decode cX8_person 208 = .ok (.iastore, 1) := by decide +kernel
theorem dX8_person_209 : decode cX8_person 209 = .ok (.aload_n 0, 1) := by decide +kernel
theorem dX8_person_210 : decode cX8_person 210 = .ok (.getfield 64, 3) := by decide +kernel
theorem dX8_person_213 : decode cX8_person 213 = .ok (.aload_n 0, 1) := by decide +kernel
theorem dX8_person_214 : decode cX8_person 214 = .ok (.getfield 145, 3) := by decide +kernel
theorem dX8_person_217 : decode cX8_person 217 = .ok (.iconst (-1), 1) := by decide +kernel
theorem dX8_person_218 : decode cX8_person 218 = .ok (.iastore, 1) := by decide +kernel
theorem dX8_person_219 : decode cX8_person 219 = .ok (.aload_n 0, 1) := by decide +kernel
theorem dX8_person_220 : decode cX8_person 220 = .ok (.aload_n 0, 1) := by decide +kernel
theorem dX8_person_221 : decode cX8_person 221 = .ok (.getfield 145, 3) := by decide +kernel
theorem dX8_person_224 : decode cX8_person 224 = .ok (.iload 6, 2) := by decide +kernel
theorem dX8_person_226 : decode cX8_person 226 = .ok (.ifCond .eq 8, 3) := by decide +kernel
theorem dX8_person_229 : decode cX8_person 229 = .ok (.iload 4, 2) := by decide +kernel
theorem dX8_person_231 : decode cX8_person 231 = .ok (.goto 21, 3) := by decide +kernel
theorem dX8_person_234 : decode cX8_person 234 = .ok (.aload_n 0, 1) := by decide +kernel
theorem dX8_person_235 : decode cX8_person 235 = .ok (.iload_n 3, 1) := by decide +kernel
theorem dX8_person_236 : decode cX8_person 236 = .ok (.iconst (-1), 1) := by decide +kernel
theorem dX8_person_237 : decode cX8_person 237 = .ok (.if_icmp .eq 7, 3) := by decide +kernel
theorem dX8_person_240 : decode cX8_person 240 = .ok (.iload_n 3, 1) := by decide +kernel
theorem dX8_person_241 : decode cX8_person 241 = .ok (.goto 4, 3) := by decide +kernel
theorem dX8_person_244 : decode cX8_person 244 = .ok (.iload_n 2, 1) := by decide +kernel
theorem dX8_person_245 : decode cX8_person 245 = .ok (.aload_n 0, 1) := by decide +kernel
theorem dX8_person_246 : decode cX8_person 246 = .ok (.getfield 154, 3) := by decide +kernel
theorem dX8_person_249 : decode cX8_person 249 = .ok (.invokevirtual 188, 3) := by decide +kernel
theorem dX8_person_252 : decode cX8_person 252 = .ok (.invokevirtual 198, 3) := by decide +kernel
theorem dX8_person_255 : decode cX8_person 255 = .ok (.aload_n 0, 1) := by decide +kernel
theorem dX8_person_256 : decode cX8_person 256 = .ok (.dup, 1) := by decide +kernel
theorem dX8_person_257 : decode cX8_person 257 = .ok (.getfield 145, 3) := by decide +kernel
theorem dX8_person_260 : decode cX8_person 260 = .ok (.iconst 1, 1) := by decide +kernel
theorem dX8_person_261 : decode cX8_person 261 = .ok (.iadd, 1) := by decide +kernel
theorem dX8_person_262 : decode cX8_person 262 = .ok (.putfield 145, 3) := by decide +kernel
theorem dX8_person_265 : decode cX8_person 265 = .ok (.aload_n 0, 1) := by decide +kernel
theorem dX8_person_266 : decode cX8_person 266 = .ok (.getfield 145, 3) := by decide +kernel
theorem dX8_person_269 : decode cX8_person 269 = .ok (.iconst 1, 1) := by decide +kernel
theorem dX8_person_270 : decode cX8_person 270 = .ok (.isub, 1) := by decide +kernel
theorem dX8_person_271 : decode cX8_person 271 = .ok (.ireturn, 1) := by decide +kernel
theorem dX8_isMinor_0 : decode cX8_isMinor 0 = .ok (.aload_n 0, 1) := by decide +kernel
theorem dX8_isMinor_1 : decode cX8_isMinor 1 = .ok (.getfield 154, 3) := by decide +kernel
theorem dX8_isMinor_4 : decode cX8_isMinor 4 = .ok (.aload_n 0, 1) := by decide +kernel
theorem dX8_isMinor_5 : decode cX8_isMinor 5 = .ok (.getfield 44, 3) := by decide +kernel
theorem dX8_isMinor_8 : decode cX8_isMinor 8 = .ok (.iload_n 1, 1) := by decide +kernel
theorem dX8_isMinor_9 : decode cX8_isMinor 9 = .ok (.iaload, 1) := by decide +kernel
theorem dX8_isMinor_10 : decode cX8_isMinor 10 = .ok (.isub, 1) := by decide +kernel
theorem dX8_isMinor_11 : decode cX8_isMinor 11 = .ok (.sipush 5000, 3) := by decide +kernel
theorem dX8_isMinor_14 : decode cX8_isMinor 14 = .ok (.if_icmp .ge 7, 3) := by decide +kernel
theorem dX8_isMinor_17 : decode cX8_isMinor 17 = .ok (.iconst 1, 1) := by decide +kernel
theorem dX8_isMinor_18 : decode cX8_isMinor 18 = .ok (.goto 4, 3) := by decide +kernel
theorem dX8_isMinor_21 : decode cX8_isMinor 21 = .ok (.iconst 0, 1) := by decide +kernel
theorem dX8_isMinor_22 : decode cX8_isMinor 22 = .ok (.ireturn, 1) := by decide +kernel
theorem dX8_isGrown_0 : decode cX8_isGrown 0 = .ok (.aload_n 0, 1) := by decide +kernel
theorem dX8_isGrown_1 : decode cX8_isGrown 1 = .ok (.getfield 47, 3) := by decide +kernel
theorem dX8_isGrown_4 : decode cX8_isGrown 4 = .ok (.iload_n 1, 1) := by decide +kernel
theorem dX8_isGrown_5 : decode cX8_isGrown 5 = .ok (.baload, 1) := by decide +kernel
theorem dX8_isGrown_6 : decode cX8_isGrown 6 = .ok (.ifCond .ne 15, 3) := by decide +kernel
theorem dX8_isGrown_9 : decode cX8_isGrown 9 = .ok (.aload_n 0, 1) := by decide +kernel
theorem dX8_isGrown_10 : decode cX8_isGrown 10 = .ok (.iload_n 1, 1) := by decide +kernel
theorem dX8_isGrown_11 : decode cX8_isGrown 11 = .ok (.invokevirtual 202, 3) := by decide +kernel
theorem dX8_isGrown_14 : decode cX8_isGrown 14 = .ok (.ifCond .ne 7, 3) := by decide +kernel
theorem dX8_isGrown_17 : decode cX8_isGrown 17 = .ok (.iconst 1, 1) := by decide +kernel
theorem dX8_isGrown_18 : decode cX8_isGrown 18 = .ok (.goto 4, 3) := by decide +kernel
theorem dX8_isGrown_21 : decode cX8_isGrown 21 = .ok (.iconst 0, 1) := by decide +kernel
theorem dX8_isGrown_22 : decode cX8_isGrown 22 = .ok (.ireturn, 1) := by decide +kernel
theorem dX8_canWitness_0 : decode cX8_canWitness 0 = .ok (.aload_n 0, 1) := by decide +kernel
theorem dX8_canWitness_1 : decode cX8_canWitness 1 = .ok (.iload_n 1, 1) := by decide +kernel
theorem dX8_canWitness_2 : decode cX8_canWitness 2 = .ok (.invokevirtual 205, 3) := by decide +kernel
theorem dX8_canWitness_5 : decode cX8_canWitness 5 = .ok (.ifCond .eq 20, 3) := by decide +kernel
theorem dX8_canWitness_8 : decode cX8_canWitness 8 = .ok (.aload_n 0, 1) := by decide +kernel
theorem dX8_canWitness_9 : decode cX8_canWitness 9 = .ok (.iload_n 1, 1) := by decide +kernel
theorem dX8_canWitness_10 : decode cX8_canWitness 10 = .ok (.aload_n 0, 1) := by decide +kernel
theorem dX8_canWitness_11 : decode cX8_canWitness 11 = .ok (.getfield 154, 3) := by decide +kernel
theorem dX8_canWitness_14 : decode cX8_canWitness 14 = .ok (.invokevirtual 188, 3) := by decide +kernel
theorem dX8_canWitness_17 : decode cX8_canWitness 17 = .ok (.iload_n 2, 1) := by decide +kernel
theorem dX8_canWitness_18 : decode cX8_canWitness 18 = .ok (.if_icmp .ne 7, 3) := by decide +kernel
theorem dX8_canWitness_21 : decode cX8_canWitness 21 = .ok (.iconst 1, 1) := by decide +kernel
theorem dX8_canWitness_22 : decode cX8_canWitness 22 = .ok (.goto 4, 3) := by decide +kernel
theorem dX8_canWitness_25 : decode cX8_canWitness 25 = .ok (.iconst 0, 1) := by decide +kernel
theorem dX8_canWitness_26 : decode cX8_canWitness 26 = .ok (.ireturn, 1) := by decide +kernel
theorem dX8_turn_0 : decode cX8_turn 0 = .ok (.aload_n 0, 1) := by decide +kernel
theorem dX8_turn_1 : decode cX8_turn 1 = .ok (.iload_n 1, 1) := by decide +kernel
theorem dX8_turn_2 : decode cX8_turn 2 = .ok (.invokevirtual 191, 3) := by decide +kernel
theorem dX8_turn_5 : decode cX8_turn 5 = .ok (.ifCond .eq 32, 3) := by decide +kernel
theorem dX8_turn_8 : decode cX8_turn 8 = .ok (.aload_n 0, 1) := by decide +kernel
theorem dX8_turn_9 : decode cX8_turn 9 = .ok (.iload_n 2, 1) := by decide +kernel
theorem dX8_turn_10 : decode cX8_turn 10 = .ok (.invokevirtual 141, 3) := by decide +kernel
theorem dX8_turn_13 : decode cX8_turn 13 = .ok (.ifCond .eq 24, 3) := by decide +kernel
theorem dX8_turn_16 : decode cX8_turn 16 = .ok (.aload_n 0, 1) := by decide +kernel
theorem dX8_turn_17 : decode cX8_turn 17 = .ok (.iload_n 3, 1) := by decide +kernel
theorem dX8_turn_18 : decode cX8_turn 18 = .ok (.invokevirtual 191, 3) := by decide +kernel
theorem dX8_turn_21 : decode cX8_turn 21 = .ok (.ifCond .eq 16, 3) := by decide +kernel
theorem dX8_turn_24 : decode cX8_turn 24 = .ok (.aload_n 0, 1) := by decide +kernel
theorem dX8_turn_25 : decode cX8_turn 25 = .ok (.iload 4, 2) := by decide +kernel
theorem dX8_turn_27 : decode cX8_turn 27 = .ok (.invokevirtual 191, 3) := by decide +kernel
theorem dX8_turn_30 : decode cX8_turn 30 = .ok (.ifCond .eq 7, 3) := by decide +kernel
theorem dX8_turn_33 : decode cX8_turn 33 = .ok (.iconst 1, 1) := by decide +kernel
theorem dX8_turn_34 : decode cX8_turn 34 = .ok (.goto 4, 3) := by decide +kernel
theorem dX8_turn_37 : decode cX8_turn 37 = .ok (.iconst 0, 1) := by decide +kernel
theorem dX8_turn_38 : decode cX8_turn 38 = .ok (.istore 5, 2) := by decide +kernel
theorem dX8_turn_40 : decode cX8_turn 40 = .ok (.iload_n 3, 1) := by decide +kernel
theorem dX8_turn_41 : decode cX8_turn 41 = .ok (.iload 4, 2) := by decide +kernel
theorem dX8_turn_43 : decode cX8_turn 43 = .ok (.if_icmp .eq 18, 3) := by decide +kernel
theorem dX8_turn_46 : decode cX8_turn 46 = .ok (.iload_n 3, 1) := by decide +kernel
theorem dX8_turn_47 : decode cX8_turn 47 = .ok (.iload_n 1, 1) := by decide +kernel
theorem dX8_turn_48 : decode cX8_turn 48 = .ok (.if_icmp .eq 13, 3) := by decide +kernel
theorem dX8_turn_51 : decode cX8_turn 51 = .ok (.iload 4, 2) := by decide +kernel
theorem dX8_turn_53 : decode cX8_turn 53 = .ok (.iload_n 1, 1) := by decide +kernel
theorem dX8_turn_54 : decode cX8_turn 54 = .ok (.if_icmp .eq 7, 3) := by decide +kernel
theorem dX8_turn_57 : decode cX8_turn 57 = .ok (.iconst 1, 1) := by decide +kernel
theorem dX8_turn_58 : decode cX8_turn 58 = .ok (.goto 4, 3) := by decide +kernel
theorem dX8_turn_61 : decode cX8_turn 61 = .ok (.iconst 0, 1) := by decide +kernel
theorem dX8_turn_62 : decode cX8_turn 62 = .ok (.istore 6, 2) := by decide +kernel
theorem dX8_turn_64 : decode cX8_turn 64 = .ok (.aload_n 0, 1) := by decide +kernel
theorem dX8_turn_65 : decode cX8_turn 65 = .ok (.iload 5, 2) := by decide +kernel
theorem dX8_turn_67 : decode cX8_turn 67 = .ok (.ifCond .ne 7, 3) := by decide +kernel
theorem dX8_turn_70 : decode cX8_turn 70 = .ok (.iconst 1, 1) := by decide +kernel
theorem dX8_turn_71 : decode cX8_turn 71 = .ok (.goto 13, 3) := by decide +kernel
theorem dX8_turn_74 : decode cX8_turn 74 = .ok (.iload 6, 2) := by decide +kernel
theorem dX8_turn_76 : decode cX8_turn 76 = .ok (.ifCond .eq 7, 3) := by decide +kernel
theorem dX8_turn_79 : decode cX8_turn 79 = .ok (.iconst 0, 1) := by decide +kernel
theorem dX8_turn_80 : decode cX8_turn 80 = .ok (.goto 4, 3) := by decide +kernel
theorem dX8_turn_83 : decode cX8_turn 83 = .ok (.iconst 2, 1) := by decide +kernel
theorem dX8_turn_84 : decode cX8_turn 84 = .ok (.invokevirtual 157, 3) := by decide +kernel
theorem dX8_turn_87 : decode cX8_turn 87 = .ok (.ifCond .ne 5, 3) := by decide +kernel
theorem dX8_turn_90 : decode cX8_turn 90 = .ok (.iconst 0, 1) := by decide +kernel
theorem dX8_turn_91 : decode cX8_turn 91 = .ok (.ireturn, 1) := by decide +kernel
theorem dX8_turn_92 : decode cX8_turn 92 = .ok (.aload_n 0, 1) := by decide +kernel
theorem dX8_turn_93 : decode cX8_turn 93 = .ok (.iload_n 1, 1) := by decide +kernel
theorem dX8_turn_94 : decode cX8_turn 94 = .ok (.invokevirtual 205, 3) := by decide +kernel
theorem dX8_turn_97 : decode cX8_turn 97 = .ok (.ifCond .eq 30, 3) := by decide +kernel
theorem dX8_turn_100 : decode cX8_turn 100 = .ok (.aload_n 0, 1) := by decide +kernel
theorem dX8_turn_101 : decode cX8_turn 101 = .ok (.iload_n 1, 1) := by decide +kernel
theorem dX8_turn_102 : decode cX8_turn 102 = .ok (.aload_n 0, 1) := by decide +kernel
theorem dX8_turn_103 : decode cX8_turn 103 = .ok (.getfield 154, 3) := by decide +kernel
theorem dX8_turn_106 : decode cX8_turn 106 = .ok (.invokevirtual 188, 3) := by decide +kernel
theorem dX8_turn_109 : decode cX8_turn 109 = .ok (.iload_n 2, 1) := by decide +kernel
theorem dX8_turn_110 : decode cX8_turn 110 = .ok (.if_icmp .eq 17, 3) := by decide +kernel
theorem dX8_turn_113 : decode cX8_turn 113 = .ok (.aload_n 0, 1) := by decide +kernel
theorem dX8_turn_114 : decode cX8_turn 114 = .ok (.getfield 61, 3) := by decide +kernel
theorem dX8_turn_117 : decode cX8_turn 117 = .ok (.iload_n 1, 1) := by decide +kernel
theorem dX8_turn_118 : decode cX8_turn 118 = .ok (.iaload, 1) := by decide +kernel
theorem dX8_turn_119 : decode cX8_turn 119 = .ok (.iconst (-1), 1) := by decide +kernel
theorem dX8_turn_120 : decode cX8_turn 120 = .ok (.if_icmp .ne 7, 3) := by decide +kernel
theorem dX8_turn_123 : decode cX8_turn 123 = .ok (.iconst 1, 1) := by decide +kernel
theorem dX8_turn_124 : decode cX8_turn 124 = .ok (.goto 4, 3) := by decide +kernel
theorem dX8_turn_127 : decode cX8_turn 127 = .ok (.iconst 0, 1) := by decide +kernel
theorem dX8_turn_128 : decode cX8_turn 128 = .ok (.istore 7, 2) := by decide +kernel
theorem dX8_turn_130 : decode cX8_turn 130 = .ok (.aload_n 0, 1) := by decide +kernel
theorem dX8_turn_131 : decode cX8_turn 131 = .ok (.iload 7, 2) := by decide +kernel
theorem dX8_turn_133 : decode cX8_turn 133 = .ok (.ifCond .eq 26, 3) := by decide +kernel
theorem dX8_turn_136 : decode cX8_turn 136 = .ok (.aload_n 0, 1) := by decide +kernel
theorem dX8_turn_137 : decode cX8_turn 137 = .ok (.iload_n 3, 1) := by decide +kernel
theorem dX8_turn_138 : decode cX8_turn 138 = .ok (.iload_n 2, 1) := by decide +kernel
theorem dX8_turn_139 : decode cX8_turn 139 = .ok (.invokevirtual 208, 3) := by decide +kernel
theorem dX8_turn_142 : decode cX8_turn 142 = .ok (.ifCond .eq 17, 3) := by decide +kernel
theorem dX8_turn_145 : decode cX8_turn 145 = .ok (.aload_n 0, 1) := by decide +kernel
theorem dX8_turn_146 : decode cX8_turn 146 = .ok (.iload 4, 2) := by decide +kernel
theorem dX8_turn_148 : decode cX8_turn 148 = .ok (.iload_n 2, 1) := by decide +kernel
theorem dX8_turn_149 : decode cX8_turn 149 = .ok (.invokevirtual 208, 3) := by decide +kernel
theorem dX8_turn_152 : decode cX8_turn 152 = .ok (.ifCond .eq 7, 3) := by decide +kernel
theorem dX8_turn_155 : decode cX8_turn 155 = .ok (.iconst 0, 1) := by decide +kernel
theorem dX8_turn_156 : decode cX8_turn 156 = .ok (.goto 4, 3) := by decide +kernel
theorem dX8_turn_159 : decode cX8_turn 159 = .ok (.iconst 3, 1) := by decide +kernel
theorem dX8_turn_160 : decode cX8_turn 160 = .ok (.invokevirtual 157, 3) := by decide +kernel
theorem dX8_turn_163 : decode cX8_turn 163 = .ok (.ifCond .ne 5, 3) := by decide +kernel
theorem dX8_turn_166 : decode cX8_turn 166 = .ok (.iconst 0, 1) := by decide +kernel
theorem dX8_turn_167 : decode cX8_turn 167 = .ok (.ireturn, 1) := by decide +kernel
theorem dX8_turn_168 : decode cX8_turn 168 = .ok (.aload_n 0, 1) := by decide +kernel
theorem dX8_turn_169 : decode cX8_turn 169 = .ok (.getfield 61, 3) := by decide +kernel
theorem dX8_turn_172 : decode cX8_turn 172 = .ok (.iload_n 1, 1) := by decide +kernel
theorem dX8_turn_173 : decode cX8_turn 173 = .ok (.iload_n 2, 1) := by decide +kernel
theorem dX8_turn_174 : decode cX8_turn 174 = .ok (.iastore, 1) := by decide +kernel
theorem dX8_turn_175 : decode cX8_turn 175 = .ok (.aload_n 0, 1) := by decide +kernel
theorem dX8_turn_176 : decode cX8_turn 176 = .ok (.getfield 64, 3) := by decide +kernel
theorem dX8_turn_179 : decode cX8_turn 179 = .ok (.iload_n 1, 1) := by decide +kernel
theorem dX8_turn_180 : decode cX8_turn 180 = .ok (.aload_n 0, 1) := by decide +kernel
theorem dX8_turn_181 : decode cX8_turn 181 = .ok (.getfield 154, 3) := by decide +kernel
theorem dX8_turn_184 : decode cX8_turn 184 = .ok (.bipush 30, 2) := by decide +kernel
theorem dX8_turn_186 : decode cX8_turn 186 = .ok (.iadd, 1) := by decide +kernel
theorem dX8_turn_187 : decode cX8_turn 187 = .ok (.iastore, 1) := by decide +kernel
theorem dX8_turn_188 : decode cX8_turn 188 = .ok (.aload_n 0, 1) := by decide +kernel
theorem dX8_turn_189 : decode cX8_turn 189 = .ok (.getfield 154, 3) := by decide +kernel
theorem dX8_turn_192 : decode cX8_turn 192 = .ok (.bipush 30, 2) := by decide +kernel
theorem dX8_turn_194 : decode cX8_turn 194 = .ok (.iadd, 1) := by decide +kernel
theorem dX8_turn_195 : decode cX8_turn 195 = .ok (.ireturn, 1) := by decide +kernel
theorem dX8_stays_0 : decode cX8_stays 0 = .ok (.aload_n 0, 1) := by decide +kernel
theorem dX8_stays_1 : decode cX8_stays 1 = .ok (.getfield 61, 3) := by decide +kernel
theorem dX8_stays_4 : decode cX8_stays 4 = .ok (.iload_n 1, 1) := by decide +kernel
theorem dX8_stays_5 : decode cX8_stays 5 = .ok (.iconst (-1), 1) := by decide +kernel
theorem dX8_stays_6 : decode cX8_stays 6 = .ok (.iastore, 1) := by decide +kernel
theorem dX8_stays_7 : decode cX8_stays 7 = .ok (.aload_n 0, 1) := by decide +kernel
theorem dX8_stays_8 : decode cX8_stays 8 = .ok (.getfield 64, 3) := by decide +kernel
theorem dX8_stays_11 : decode cX8_stays 11 = .ok (.iload_n 1, 1) := by decide +kernel
theorem dX8_stays_12 : decode cX8_stays 12 = .ok (.iconst (-1), 1) := by decide +kernel
theorem dX8_stays_13 : decode cX8_stays 13 = .ok (.iastore, 1) := by decide +kernel
theorem dX8_stays_14 : decode cX8_stays 14 = .ok (.return_, 1) := by decide +kernel
theorem dX8_recant_0 : decode cX8_recant 0 = .ok (.aload_n 0, 1) := by decide +kernel
theorem dX8_recant_1 : decode cX8_recant 1 = .ok (.iload_n 1, 1) := by decide +kernel
theorem dX8_recant_2 : decode cX8_recant 2 = .ok (.invokevirtual 191, 3) := by decide +kernel
theorem dX8_recant_5 : decode cX8_recant 5 = .ok (.istore_n 2, 1) := by decide +kernel
theorem dX8_recant_6 : decode cX8_recant 6 = .ok (.aload_n 0, 1) := by decide +kernel
theorem dX8_recant_7 : decode cX8_recant 7 = .ok (.iload_n 2, 1) := by decide +kernel
theorem dX8_recant_8 : decode cX8_recant 8 = .ok (.ifCond .ne 7, 3) := by decide +kernel
theorem dX8_recant_11 : decode cX8_recant 11 = .ok (.iconst 1, 1) := by decide +kernel
theorem dX8_recant_12 : decode cX8_recant 12 = .ok (.goto 18, 3) := by decide +kernel
theorem dX8_recant_15 : decode cX8_recant 15 = .ok (.aload_n 0, 1) := by decide +kernel
theorem dX8_recant_16 : decode cX8_recant 16 = .ok (.getfield 61, 3) := by decide +kernel
theorem dX8_recant_19 : decode cX8_recant 19 = .ok (.iload_n 1, 1) := by decide +kernel
theorem dX8_recant_20 : decode cX8_recant 20 = .ok (.iaload, 1) := by decide +kernel
theorem dX8_recant_21 : decode cX8_recant 21 = .ok (.iconst (-1), 1) := by decide +kernel
theorem dX8_recant_22 : decode cX8_recant 22 = .ok (.if_icmp .ne 7, 3) := by decide +kernel
theorem dX8_recant_25 : decode cX8_recant 25 = .ok (.iconst 2, 1) := by decide +kernel
theorem dX8_recant_26 : decode cX8_recant 26 = .ok (.goto 4, 3) := by decide +kernel
theorem dX8_recant_29 : decode cX8_recant 29 = .ok (.iconst 0, 1) := by decide +kernel
theorem dX8_recant_30 : decode cX8_recant 30 = .ok (.invokevirtual 157, 3) := by decide +kernel
theorem dX8_recant_33 : decode cX8_recant 33 = .ok (.ifCond .ne 5, 3) := by decide +kernel
theorem dX8_recant_36 : decode cX8_recant 36 = .ok (.iconst 0, 1) := by decide +kernel
theorem dX8_recant_37 : decode cX8_recant 37 = .ok (.ireturn, 1) := by decide +kernel
theorem dX8_recant_38 : decode cX8_recant 38 = .ok (.aload_n 0, 1) := by decide +kernel
theorem dX8_recant_39 : decode cX8_recant 39 = .ok (.getfield 61, 3) := by decide +kernel
theorem dX8_recant_42 : decode cX8_recant 42 = .ok (.iload_n 1, 1) := by decide +kernel
theorem dX8_recant_43 : decode cX8_recant 43 = .ok (.iaload, 1) := by decide +kernel
theorem dX8_recant_44 : decode cX8_recant 44 = .ok (.istore_n 3, 1) := by decide +kernel
theorem dX8_recant_45 : decode cX8_recant 45 = .ok (.aload_n 0, 1) := by decide +kernel
theorem dX8_recant_46 : decode cX8_recant 46 = .ok (.iload_n 1, 1) := by decide +kernel
theorem dX8_recant_47 : decode cX8_recant 47 = .ok (.invokevirtual 211, 3) := by decide +kernel
theorem dX8_recant_50 : decode cX8_recant 50 = .ok (.iload_n 3, 1) := by decide +kernel
theorem dX8_recant_51 : decode cX8_recant 51 = .ok (.ireturn, 1) := by decide +kernel
theorem dX8_faith_0 : decode cX8_faith 0 = .ok (.aload_n 0, 1) := by decide +kernel
theorem dX8_faith_1 : decode cX8_faith 1 = .ok (.iload_n 1, 1) := by decide +kernel
theorem dX8_faith_2 : decode cX8_faith 2 = .ok (.invokevirtual 191, 3) := by decide +kernel
theorem dX8_faith_5 : decode cX8_faith 5 = .ok (.istore_n 3, 1) := by decide +kernel
theorem dX8_faith_6 : decode cX8_faith 6 = .ok (.aload_n 0, 1) := by decide +kernel
theorem dX8_faith_7 : decode cX8_faith 7 = .ok (.iload_n 3, 1) := by decide +kernel
theorem dX8_faith_8 : decode cX8_faith 8 = .ok (.ifCond .ne 7, 3) := by decide +kernel
theorem dX8_faith_11 : decode cX8_faith 11 = .ok (.iconst 1, 1) := by decide +kernel
theorem dX8_faith_12 : decode cX8_faith 12 = .ok (.goto 25, 3) := by decide +kernel
theorem dX8_faith_15 : decode cX8_faith 15 = .ok (.iload_n 2, 1) := by decide +kernel
theorem dX8_faith_16 : decode cX8_faith 16 = .ok (.aload_n 0, 1) := by decide +kernel
theorem dX8_faith_17 : decode cX8_faith 17 = .ok (.getfield 44, 3) := by decide +kernel
theorem dX8_faith_20 : decode cX8_faith 20 = .ok (.iload_n 1, 1) := by decide +kernel
theorem dX8_faith_21 : decode cX8_faith 21 = .ok (.iaload, 1) := by decide +kernel
theorem dX8_faith_22 : decode cX8_faith 22 = .ok (.aload_n 0, 1) := by decide +kernel
theorem dX8_faith_23 : decode cX8_faith 23 = .ok (.getfield 154, 3) := by decide +kernel
theorem dX8_faith_26 : decode cX8_faith 26 = .ok (.invokestatic 137, 3) := by decide +kernel
theorem dX8_faith_29 : decode cX8_faith 29 = .ok (.ifCond .eq 7, 3) := by decide +kernel
theorem dX8_faith_32 : decode cX8_faith 32 = .ok (.iconst 0, 1) := by decide +kernel
theorem dX8_faith_33 : decode cX8_faith 33 = .ok (.goto 4, 3) := by decide +kernel
theorem dX8_faith_36 : decode cX8_faith 36 = .ok (.iconst 2, 1) := by decide +kernel
theorem dX8_faith_37 : decode cX8_faith 37 = .ok (.invokevirtual 157, 3) := by decide +kernel
theorem dX8_faith_40 : decode cX8_faith 40 = .ok (.ifCond .eq 12, 3) := by decide +kernel
theorem dX8_faith_43 : decode cX8_faith 43 = .ok (.aload_n 0, 1) := by decide +kernel
theorem dX8_faith_44 : decode cX8_faith 44 = .ok (.iload_n 1, 1) := by decide +kernel
theorem dX8_faith_45 : decode cX8_faith 45 = .ok (.iload_n 2, 1) := by decide +kernel
theorem dX8_faith_46 : decode cX8_faith 46 = .ok (.invokevirtual 188, 3) := by decide +kernel
theorem dX8_faith_49 : decode cX8_faith 49 = .ok (.goto 4, 3) := by decide +kernel
theorem dX8_faith_52 : decode cX8_faith 52 = .ok (.iconst 0, 1) := by decide +kernel
theorem dX8_faith_53 : decode cX8_faith 53 = .ok (.ireturn, 1) := by decide +kernel
theorem dX8_follows_0 : decode cX8_follows 0 = .ok (.aload_n 0, 1) := by decide +kernel
theorem dX8_follows_1 : decode cX8_follows 1 = .ok (.getfield 41, 3) := by decide +kernel
theorem dX8_follows_4 : decode cX8_follows 4 = .ok (.iload_n 1, 1) := by decide +kernel
theorem dX8_follows_5 : decode cX8_follows 5 = .ok (.iaload, 1) := by decide +kernel
theorem dX8_follows_6 : decode cX8_follows 6 = .ok (.iconst (-1), 1) := by decide +kernel
theorem dX8_follows_7 : decode cX8_follows 7 = .ok (.if_icmp .eq 12, 3) := by decide +kernel
theorem dX8_follows_10 : decode cX8_follows 10 = .ok (.aload_n 0, 1) := by decide +kernel
theorem dX8_follows_11 : decode cX8_follows 11 = .ok (.getfield 41, 3) := by decide +kernel
theorem dX8_follows_14 : decode cX8_follows 14 = .ok (.iload_n 1, 1) := by decide +kernel
theorem dX8_follows_15 : decode cX8_follows 15 = .ok (.iaload, 1) := by decide +kernel
theorem dX8_follows_16 : decode cX8_follows 16 = .ok (.goto 9, 3) := by decide +kernel
theorem dX8_follows_19 : decode cX8_follows 19 = .ok (.aload_n 0, 1) := by decide +kernel
theorem dX8_follows_20 : decode cX8_follows 20 = .ok (.getfield 38, 3) := by decide +kernel
theorem dX8_follows_23 : decode cX8_follows 23 = .ok (.iload_n 1, 1) := by decide +kernel
theorem dX8_follows_24 : decode cX8_follows 24 = .ok (.iaload, 1) := by decide +kernel
theorem dX8_follows_25 : decode cX8_follows 25 = .ok (.istore_n 3, 1) := by decide +kernel
theorem dX8_follows_26 : decode cX8_follows 26 = .ok (.iload_n 3, 1) := by decide +kernel
theorem dX8_follows_27 : decode cX8_follows 27 = .ok (.iconst (-1), 1) := by decide +kernel
theorem dX8_follows_28 : decode cX8_follows 28 = .ok (.if_icmp .eq 46, 3) := by decide +kernel
theorem dX8_follows_31 : decode cX8_follows 31 = .ok (.aload_n 0, 1) := by decide +kernel
theorem dX8_follows_32 : decode cX8_follows 32 = .ok (.getfield 67, 3) := by decide +kernel
theorem dX8_follows_35 : decode cX8_follows 35 = .ok (.iload_n 3, 1) := by decide +kernel
theorem dX8_follows_36 : decode cX8_follows 36 = .ok (.baload, 1) := by decide +kernel
theorem dX8_follows_37 : decode cX8_follows 37 = .ok (.ifCond .eq 37, 3) := by decide +kernel
theorem dX8_follows_40 : decode cX8_follows 40 = .ok (.aload_n 0, 1) := by decide +kernel
theorem dX8_follows_41 : decode cX8_follows 41 = .ok (.getfield 47, 3) := by decide +kernel
theorem dX8_follows_44 : decode cX8_follows 44 = .ok (.iload_n 1, 1) := by decide +kernel
theorem dX8_follows_45 : decode cX8_follows 45 = .ok (.baload, 1) := by decide +kernel
theorem dX8_follows_46 : decode cX8_follows 46 = .ok (.ifCond .ne 28, 3) := by decide +kernel
theorem dX8_follows_49 : decode cX8_follows 49 = .ok (.aload_n 0, 1) := by decide +kernel
theorem dX8_follows_50 : decode cX8_follows 50 = .ok (.iload_n 1, 1) := by decide +kernel
theorem dX8_follows_51 : decode cX8_follows 51 = .ok (.invokevirtual 202, 3) := by decide +kernel
theorem dX8_follows_54 : decode cX8_follows 54 = .ok (.ifCond .eq 20, 3) := by decide +kernel
theorem dX8_follows_57 : decode cX8_follows 57 = .ok (.aload_n 0, 1) := by decide +kernel
theorem dX8_follows_58 : decode cX8_follows 58 = .ok (.iload_n 1, 1) := by decide +kernel
theorem dX8_follows_59 : decode cX8_follows 59 = .ok (.aload_n 0, 1) := by decide +kernel
theorem dX8_follows_60 : decode cX8_follows 60 = .ok (.getfield 154, 3) := by decide +kernel
theorem dX8_follows_63 : decode cX8_follows 63 = .ok (.invokevirtual 188, 3) := by decide +kernel
theorem dX8_follows_66 : decode cX8_follows 66 = .ok (.iload_n 2, 1) := by decide +kernel
theorem dX8_follows_67 : decode cX8_follows 67 = .ok (.if_icmp .eq 7, 3) := by decide +kernel
theorem dX8_follows_70 : decode cX8_follows 70 = .ok (.iconst 1, 1) := by decide +kernel
theorem dX8_follows_71 : decode cX8_follows 71 = .ok (.goto 4, 3) := by decide +kernel
theorem dX8_follows_74 : decode cX8_follows 74 = .ok (.iconst 0, 1) := by decide +kernel
theorem dX8_follows_75 : decode cX8_follows 75 = .ok (.ireturn, 1) := by decide +kernel
theorem dX8_turns_0 : decode cX8_turns 0 = .ok (.aload_n 0, 1) := by decide +kernel
theorem dX8_turns_1 : decode cX8_turns 1 = .ok (.getfield 61, 3) := by decide +kernel
theorem dX8_turns_4 : decode cX8_turns 4 = .ok (.iload_n 1, 1) := by decide +kernel
theorem dX8_turns_5 : decode cX8_turns 5 = .ok (.iaload, 1) := by decide +kernel
theorem dX8_turns_6 : decode cX8_turns 6 = .ok (.istore_n 2, 1) := by decide +kernel
theorem dX8_turns_7 : decode cX8_turns 7 = .ok (.sipush 1024, 3) := by decide +kernel
theorem dX8_turns_10 : decode cX8_turns 10 = .ok (.iload_n 1, 1) := by decide +kernel
theorem dX8_turns_11 : decode cX8_turns 11 = .ok (.imul, 1) := by decide +kernel
theorem dX8_turns_12 : decode cX8_turns 12 = .ok (.aload_n 0, 1) := by decide +kernel
theorem dX8_turns_13 : decode cX8_turns 13 = .ok (.getfield 54, 3) := by decide +kernel
theorem dX8_turns_16 : decode cX8_turns 16 = .ok (.iload_n 1, 1) := by decide +kernel
theorem dX8_turns_17 : decode cX8_turns 17 = .ok (.iaload, 1) := by decide +kernel
theorem dX8_turns_18 : decode cX8_turns 18 = .ok (.iadd, 1) := by decide +kernel
theorem dX8_turns_19 : decode cX8_turns 19 = .ok (.istore_n 3, 1) := by decide +kernel
theorem dX8_turns_20 : decode cX8_turns 20 = .ok (.aload_n 0, 1) := by decide +kernel
theorem dX8_turns_21 : decode cX8_turns 21 = .ok (.iload_n 1, 1) := by decide +kernel
theorem dX8_turns_22 : decode cX8_turns 22 = .ok (.invokevirtual 211, 3) := by decide +kernel
theorem dX8_turns_25 : decode cX8_turns 25 = .ok (.aload_n 0, 1) := by decide +kernel
theorem dX8_turns_26 : decode cX8_turns 26 = .ok (.getfield 54, 3) := by decide +kernel
theorem dX8_turns_29 : decode cX8_turns 29 = .ok (.iload_n 1, 1) := by decide +kernel
theorem dX8_turns_30 : decode cX8_turns 30 = .ok (.iaload, 1) := by decide +kernel
theorem dX8_turns_31 : decode cX8_turns 31 = .ok (.iconst 1, 1) := by decide +kernel
theorem dX8_turns_32 : decode cX8_turns 32 = .ok (.if_icmp .le 52, 3) := by decide +kernel
theorem dX8_turns_35 : decode cX8_turns 35 = .ok (.aload_n 0, 1) := by decide +kernel
theorem dX8_turns_36 : decode cX8_turns 36 = .ok (.getfield 58, 3) := by decide +kernel
theorem dX8_turns_39 : decode cX8_turns 39 = .ok (.iload_n 3, 1) := by decide +kernel
theorem dX8_turns_40 : decode cX8_turns 40 = .ok (.iconst 2, 1) := by decide +kernel
theorem dX8_turns_41 : decode cX8_turns 41 = .ok (.isub, 1) := by decide +kernel
theorem dX8_turns_42 : decode cX8_turns 42 = .ok (.iaload, 1) := by decide +kernel
theorem dX8_turns_43 : decode cX8_turns 43 = .ok (.bipush 8, 2) := by decide +kernel
theorem dX8_turns_45 : decode cX8_turns 45 = .ok (.irem, 1) := by decide +kernel
theorem dX8_turns_46 : decode cX8_turns 46 = .ok (.iload_n 2, 1) := by decide +kernel
theorem dX8_turns_47 : decode cX8_turns 47 = .ok (.if_icmp .ne 37, 3) := by decide +kernel
theorem dX8_turns_50 : decode cX8_turns 50 = .ok (.aload_n 0, 1) := by decide +kernel
theorem dX8_turns_51 : decode cX8_turns 51 = .ok (.getfield 154, 3) := by decide +kernel
theorem dX8_turns_54 : decode cX8_turns 54 = .ok (.aload_n 0, 1) := by decide +kernel
theorem dX8_turns_55 : decode cX8_turns 55 = .ok (.getfield 58, 3) := by decide +kernel
theorem dX8_turns_58 : decode cX8_turns 58 = .ok (.iload_n 3, 1) := by decide +kernel
theorem dX8_turns_59 : decode cX8_turns 59 = .ok (.iconst 1, 1) := by decide +kernel
theorem dX8_turns_60 : decode cX8_turns 60 = .ok (.isub, 1) := by decide +kernel
theorem dX8_turns_61 : decode cX8_turns 61 = .ok (.iaload, 1) := by decide +kernel
theorem dX8_turns_62 : decode cX8_turns 62 = .ok (.bipush 8, 2) := by decide +kernel
theorem dX8_turns_64 : decode cX8_turns 64 = .ok (.idiv, 1) := by decide +kernel
theorem dX8_turns_65 : decode cX8_turns 65 = .ok (.isub, 1) := by decide +kernel
theorem dX8_turns_66 : decode cX8_turns 66 = .ok (.bipush 100, 2) := by decide +kernel
theorem dX8_turns_68 : decode cX8_turns 68 = .ok (.if_icmp .ge 16, 3) := by decide +kernel
theorem dX8_turns_71 : decode cX8_turns 71 = .ok (.aload_n 0, 1) := by decide +kernel
theorem dX8_turns_72 : decode cX8_turns 72 = .ok (.getfield 54, 3) := by decide +kernel
theorem dX8_turns_75 : decode cX8_turns 75 = .ok (.iload_n 1, 1) := by decide +kernel
theorem dX8_turns_76 : decode cX8_turns 76 = .ok (.dup2, 1) := by decide +kernel
theorem dX8_turns_77 : decode cX8_turns 77 = .ok (.iaload, 1) := by decide +kernel
theorem dX8_turns_78 : decode cX8_turns 78 = .ok (.iconst 1, 1) := by decide +kernel
theorem dX8_turns_79 : decode cX8_turns 79 = .ok (.isub, 1) := by decide +kernel
theorem dX8_turns_80 : decode cX8_turns 80 = .ok (.iastore, 1) := by decide +kernel
theorem dX8_turns_81 : decode cX8_turns 81 = .ok (.goto 9, 3) := by decide +kernel
theorem dX8_turns_84 : decode cX8_turns 84 = .ok (.aload_n 0, 1) := by decide +kernel
theorem dX8_turns_85 : decode cX8_turns 85 = .ok (.iload_n 1, 1) := by decide +kernel
theorem dX8_turns_86 : decode cX8_turns 86 = .ok (.iload_n 2, 1) := by decide +kernel
theorem dX8_turns_87 : decode cX8_turns 87 = .ok (.invokevirtual 198, 3) := by decide +kernel
theorem dX8_turns_90 : decode cX8_turns 90 = .ok (.iconst 0, 1) := by decide +kernel
theorem dX8_turns_91 : decode cX8_turns 91 = .ok (.istore 4, 2) := by decide +kernel
theorem dX8_turns_93 : decode cX8_turns 93 = .ok (.iload 4, 2) := by decide +kernel
theorem dX8_turns_95 : decode cX8_turns 95 = .ok (.aload_n 0, 1) := by decide +kernel
theorem dX8_turns_96 : decode cX8_turns 96 = .ok (.getfield 145, 3) := by decide +kernel
theorem dX8_turns_99 : decode cX8_turns 99 = .ok (.if_icmp .ge 58, 3) := by decide +kernel
theorem dX8_turns_102 : decode cX8_turns 102 = .ok (.aload_n 0, 1) := by decide +kernel
theorem dX8_turns_103 : decode cX8_turns 103 = .ok (.getfield 67, 3) := by decide +kernel
theorem dX8_turns_106 : decode cX8_turns 106 = .ok (.iload 4, 2) := by decide +kernel
theorem dX8_turns_108 : decode cX8_turns 108 = .ok (.iload 4, 2) := by decide +kernel
theorem dX8_turns_110 : decode cX8_turns 110 = .ok (.iload_n 1, 1) := by decide +kernel
theorem dX8_turns_111 : decode cX8_turns 111 = .ok (.if_icmp .ne 7, 3) := by decide +kernel
theorem dX8_turns_114 : decode cX8_turns 114 = .ok (.iconst 1, 1) := by decide +kernel
theorem dX8_turns_115 : decode cX8_turns 115 = .ok (.goto 4, 3) := by decide +kernel
theorem dX8_turns_118 : decode cX8_turns 118 = .ok (.iconst 0, 1) := by decide +kernel
theorem dX8_turns_119 : decode cX8_turns 119 = .ok (.bastore, 1) := by decide +kernel
theorem dX8_turns_120 : decode cX8_turns 120 = .ok (.iload 4, 2) := by decide +kernel
theorem dX8_turns_122 : decode cX8_turns 122 = .ok (.iload_n 1, 1) := by decide +kernel
theorem dX8_turns_123 : decode cX8_turns 123 = .ok (.if_icmp .eq 28, 3) := by decide +kernel
theorem dX8_turns_126 : decode cX8_turns 126 = .ok (.aload_n 0, 1) := by decide +kernel
theorem dX8_turns_127 : decode cX8_turns 127 = .ok (.iload 4, 2) := by decide +kernel
theorem dX8_turns_129 : decode cX8_turns 129 = .ok (.iload_n 2, 1) := by decide +kernel
theorem dX8_turns_130 : decode cX8_turns 130 = .ok (.invokevirtual 215, 3) := by decide +kernel
theorem dX8_turns_133 : decode cX8_turns 133 = .ok (.ifCond .eq 18, 3) := by decide +kernel
theorem dX8_turns_136 : decode cX8_turns 136 = .ok (.aload_n 0, 1) := by decide +kernel
theorem dX8_turns_137 : decode cX8_turns 137 = .ok (.getfield 67, 3) := by decide +kernel
theorem dX8_turns_140 : decode cX8_turns 140 = .ok (.iload 4, 2) := by decide +kernel
theorem dX8_turns_142 : decode cX8_turns 142 = .ok (.iconst 1, 1) := by decide +kernel
theorem dX8_turns_143 : decode cX8_turns 143 = .ok (.bastore, 1) := by decide +kernel
theorem dX8_turns_144 : decode cX8_turns 144 = .ok (.aload_n 0, 1) := by decide +kernel
theorem dX8_turns_145 : decode cX8_turns 145 = .ok (.iload 4, 2) := by decide +kernel
theorem dX8_turns_147 : decode cX8_turns 147 = .ok (.iload_n 2, 1) := by decide +kernel
theorem dX8_turns_148 : decode cX8_turns 148 = .ok (.invokevirtual 198, 3) := by decide +kernel
theorem dX8_turns_151 : decode cX8_turns 151 = .ok (.iinc 4 1, 3) := by decide +kernel
theorem dX8_turns_154 : decode cX8_turns 154 = .ok (.goto (-61), 3) := by decide +kernel
theorem dX8_turns_157 : decode cX8_turns 157 = .ok (.return_, 1) := by decide +kernel
theorem dX8_lasting_0 : decode cX8_lasting 0 = .ok (.iconst 0, 1) := by decide +kernel
theorem dX8_lasting_1 : decode cX8_lasting 1 = .ok (.istore_n 2, 1) := by decide +kernel
theorem dX8_lasting_2 : decode cX8_lasting 2 = .ok (.iconst 0, 1) := by decide +kernel
theorem dX8_lasting_3 : decode cX8_lasting 3 = .ok (.istore_n 3, 1) := by decide +kernel
theorem dX8_lasting_4 : decode cX8_lasting 4 = .ok (.iload_n 3, 1) := by decide +kernel
theorem dX8_lasting_5 : decode cX8_lasting 5 = .ok (.aload_n 0, 1) := by decide +kernel
theorem dX8_lasting_6 : decode cX8_lasting 6 = .ok (.getfield 148, 3) := by decide +kernel
theorem dX8_lasting_9 : decode cX8_lasting 9 = .ok (.if_icmp .ge 46, 3) := by decide +kernel
theorem dX8_lasting_12 : decode cX8_lasting 12 = .ok (.iload_n 2, 1) := by decide +kernel
theorem dX8_lasting_13 : decode cX8_lasting 13 = .ok (.aload_n 0, 1) := by decide +kernel
theorem dX8_lasting_14 : decode cX8_lasting 14 = .ok (.getfield 76, 3) := by decide +kernel
theorem dX8_lasting_17 : decode cX8_lasting 17 = .ok (.iload_n 3, 1) := by decide +kernel
theorem dX8_lasting_18 : decode cX8_lasting 18 = .ok (.iaload, 1) := by decide +kernel
theorem dX8_lasting_19 : decode cX8_lasting 19 = .ok (.ifCond .ne 27, 3) := by decide +kernel
theorem dX8_lasting_22 : decode cX8_lasting 22 = .ok (.aload_n 0, 1) := by decide +kernel
theorem dX8_lasting_23 : decode cX8_lasting 23 = .ok (.getfield 70, 3) := by decide +kernel
theorem dX8_lasting_26 : decode cX8_lasting 26 = .ok (.iload_n 3, 1) := by decide +kernel
theorem dX8_lasting_27 : decode cX8_lasting 27 = .ok (.iaload, 1) := by decide +kernel
theorem dX8_lasting_28 : decode cX8_lasting 28 = .ok (.iload_n 1, 1) := by decide +kernel
theorem dX8_lasting_29 : decode cX8_lasting 29 = .ok (.if_icmp .eq 13, 3) := by decide +kernel
theorem dX8_lasting_32 : decode cX8_lasting 32 = .ok (.aload_n 0, 1) := by decide +kernel
theorem dX8_lasting_33 : decode cX8_lasting 33 = .ok (.getfield 73, 3) := by decide +kernel
theorem dX8_lasting_36 : decode cX8_lasting 36 = .ok (.iload_n 3, 1) := by decide +kernel
theorem dX8_lasting_37 : decode cX8_lasting 37 = .ok (.iaload, 1) := by decide +kernel
theorem dX8_lasting_38 : decode cX8_lasting 38 = .ok (.iload_n 1, 1) := by decide +kernel
theorem dX8_lasting_39 : decode cX8_lasting 39 = .ok (.if_icmp .ne 7, 3) := by decide +kernel
theorem dX8_lasting_42 : decode cX8_lasting 42 = .ok (.iconst 1, 1) := by decide +kernel
theorem dX8_lasting_43 : decode cX8_lasting 43 = .ok (.goto 4, 3) := by decide +kernel
theorem dX8_lasting_46 : decode cX8_lasting 46 = .ok (.iconst 0, 1) := by decide +kernel
theorem dX8_lasting_47 : decode cX8_lasting 47 = .ok (.iadd, 1) := by decide +kernel
theorem dX8_lasting_48 : decode cX8_lasting 48 = .ok (.istore_n 2, 1) := by decide +kernel
theorem dX8_lasting_49 : decode cX8_lasting 49 = .ok (.iinc 3 1, 3) := by decide +kernel
theorem dX8_lasting_52 : decode cX8_lasting 52 = .ok (.goto (-48), 3) := by decide +kernel
theorem dX8_lasting_55 : decode cX8_lasting 55 = .ok (.iload_n 2, 1) := by decide +kernel
theorem dX8_lasting_56 : decode cX8_lasting 56 = .ok (.ireturn, 1) := by decide +kernel
theorem dX8_canMarry_0 : decode cX8_canMarry 0 = .ok (.aload_n 0, 1) := by decide +kernel
theorem dX8_canMarry_1 : decode cX8_canMarry 1 = .ok (.iload_n 1, 1) := by decide +kernel
theorem dX8_canMarry_2 : decode cX8_canMarry 2 = .ok (.invokevirtual 205, 3) := by decide +kernel
theorem dX8_canMarry_5 : decode cX8_canMarry 5 = .ok (.ifCond .eq 20, 3) := by decide +kernel
theorem dX8_canMarry_8 : decode cX8_canMarry 8 = .ok (.aload_n 0, 1) := by decide +kernel
theorem dX8_canMarry_9 : decode cX8_canMarry 9 = .ok (.iload_n 2, 1) := by decide +kernel
theorem dX8_canMarry_10 : decode cX8_canMarry 10 = .ok (.invokevirtual 205, 3) := by decide +kernel
theorem dX8_canMarry_13 : decode cX8_canMarry 13 = .ok (.ifCond .eq 12, 3) := by decide +kernel
theorem dX8_canMarry_16 : decode cX8_canMarry 16 = .ok (.aload_n 0, 1) := by decide +kernel
theorem dX8_canMarry_17 : decode cX8_canMarry 17 = .ok (.getfield 148, 3) := by decide +kernel
theorem dX8_canMarry_20 : decode cX8_canMarry 20 = .ok (.bipush 30, 2) := by decide +kernel
theorem dX8_canMarry_22 : decode cX8_canMarry 22 = .ok (.if_icmp .ne 5, 3) := by decide +kernel
theorem dX8_canMarry_25 : decode cX8_canMarry 25 = .ok (.iconst 0, 1) := by decide +kernel
theorem dX8_canMarry_26 : decode cX8_canMarry 26 = .ok (.ireturn, 1) := by decide +kernel
theorem dX8_canMarry_27 : decode cX8_canMarry 27 = .ok (.aload_n 0, 1) := by decide +kernel
theorem dX8_canMarry_28 : decode cX8_canMarry 28 = .ok (.iconst 0, 1) := by decide +kernel
theorem dX8_canMarry_29 : decode cX8_canMarry 29 = .ok (.iload_n 1, 1) := by decide +kernel
theorem dX8_canMarry_30 : decode cX8_canMarry 30 = .ok (.iload_n 2, 1) := by decide +kernel
theorem dX8_canMarry_31 : decode cX8_canMarry 31 = .ok (.aload_n 0, 1) := by decide +kernel
theorem dX8_canMarry_32 : decode cX8_canMarry 32 = .ok (.getfield 154, 3) := by decide +kernel
theorem dX8_canMarry_35 : decode cX8_canMarry 35 = .ok (.invokevirtual 194, 3) := by decide +kernel
theorem dX8_canMarry_38 : decode cX8_canMarry 38 = .ok (.istore_n 3, 1) := by decide +kernel
theorem dX8_canMarry_39 : decode cX8_canMarry 39 = .ok (.aload_n 0, 1) := by decide +kernel
theorem dX8_canMarry_40 : decode cX8_canMarry 40 = .ok (.iload_n 1, 1) := by decide +kernel
theorem dX8_canMarry_41 : decode cX8_canMarry 41 = .ok (.aload_n 0, 1) := by decide +kernel
theorem dX8_canMarry_42 : decode cX8_canMarry 42 = .ok (.getfield 154, 3) := by decide +kernel
theorem dX8_canMarry_45 : decode cX8_canMarry 45 = .ok (.invokevirtual 188, 3) := by decide +kernel
theorem dX8_canMarry_48 : decode cX8_canMarry 48 = .ok (.aload_n 0, 1) := by decide +kernel
theorem dX8_canMarry_49 : decode cX8_canMarry 49 = .ok (.iload_n 2, 1) := by decide +kernel
theorem dX8_canMarry_50 : decode cX8_canMarry 50 = .ok (.aload_n 0, 1) := by decide +kernel
theorem dX8_canMarry_51 : decode cX8_canMarry 51 = .ok (.getfield 154, 3) := by decide +kernel
theorem dX8_canMarry_54 : decode cX8_canMarry 54 = .ok (.invokevirtual 188, 3) := by decide +kernel
theorem dX8_canMarry_57 : decode cX8_canMarry 57 = .ok (.if_icmp .ne 7, 3) := by decide +kernel
theorem dX8_canMarry_60 : decode cX8_canMarry 60 = .ok (.iconst 1, 1) := by decide +kernel
theorem dX8_canMarry_61 : decode cX8_canMarry 61 = .ok (.goto 4, 3) := by decide +kernel
theorem dX8_canMarry_64 : decode cX8_canMarry 64 = .ok (.iconst 0, 1) := by decide +kernel
theorem dX8_canMarry_65 : decode cX8_canMarry 65 = .ok (.istore 4, 2) := by decide +kernel
theorem dX8_canMarry_67 : decode cX8_canMarry 67 = .ok (.aload_n 0, 1) := by decide +kernel
theorem dX8_canMarry_68 : decode cX8_canMarry 68 = .ok (.iload_n 2, 1) := by decide +kernel
theorem dX8_canMarry_69 : decode cX8_canMarry 69 = .ok (.invokevirtual 218, 3) := by decide +kernel
theorem dX8_canMarry_72 : decode cX8_canMarry 72 = .ok (.ifCond .ne 44, 3) := by decide +kernel
theorem dX8_canMarry_75 : decode cX8_canMarry 75 = .ok (.aload_n 0, 1) := by decide +kernel
theorem dX8_canMarry_76 : decode cX8_canMarry 76 = .ok (.iload_n 1, 1) := by decide +kernel
theorem dX8_canMarry_77 : decode cX8_canMarry 77 = .ok (.invokevirtual 218, 3) := by decide +kernel
theorem dX8_canMarry_80 : decode cX8_canMarry 80 = .ok (.aload_n 0, 1) := by decide +kernel
theorem dX8_canMarry_81 : decode cX8_canMarry 81 = .ok (.iload_n 3, 1) := by decide +kernel
theorem dX8_canMarry_82 : decode cX8_canMarry 82 = .ok (.iconst 2, 1) := by decide +kernel
theorem dX8_canMarry_83 : decode cX8_canMarry 83 = .ok (.aload_n 0, 1) := by decide +kernel
theorem dX8_canMarry_84 : decode cX8_canMarry 84 = .ok (.getfield 154, 3) := by decide +kernel
theorem dX8_canMarry_87 : decode cX8_canMarry 87 = .ok (.invokevirtual 177, 3) := by decide +kernel
theorem dX8_canMarry_90 : decode cX8_canMarry 90 = .ok (.if_icmp .ge 26, 3) := by decide +kernel
theorem dX8_canMarry_93 : decode cX8_canMarry 93 = .ok (.iload 4, 2) := by decide +kernel
theorem dX8_canMarry_95 : decode cX8_canMarry 95 = .ok (.ifCond .ne 17, 3) := by decide +kernel
theorem dX8_canMarry_98 : decode cX8_canMarry 98 = .ok (.aload_n 0, 1) := by decide +kernel
theorem dX8_canMarry_99 : decode cX8_canMarry 99 = .ok (.iload_n 3, 1) := by decide +kernel
theorem dX8_canMarry_100 : decode cX8_canMarry 100 = .ok (.iconst 4, 1) := by decide +kernel
theorem dX8_canMarry_101 : decode cX8_canMarry 101 = .ok (.aload_n 0, 1) := by decide +kernel
theorem dX8_canMarry_102 : decode cX8_canMarry 102 = .ok (.getfield 154, 3) := by decide +kernel
theorem dX8_canMarry_105 : decode cX8_canMarry 105 = .ok (.invokevirtual 177, 3) := by decide +kernel
theorem dX8_canMarry_108 : decode cX8_canMarry 108 = .ok (.iconst 1, 1) := by decide +kernel
theorem dX8_canMarry_109 : decode cX8_canMarry 109 = .ok (.if_icmp .ne 7, 3) := by decide +kernel
theorem dX8_canMarry_112 : decode cX8_canMarry 112 = .ok (.iconst 1, 1) := by decide +kernel
theorem dX8_canMarry_113 : decode cX8_canMarry 113 = .ok (.goto 4, 3) := by decide +kernel
theorem dX8_canMarry_116 : decode cX8_canMarry 116 = .ok (.iconst 0, 1) := by decide +kernel
theorem dX8_canMarry_117 : decode cX8_canMarry 117 = .ok (.ireturn, 1) := by decide +kernel
theorem dX8_marry_0 : decode cX8_marry 0 = .ok (.aload_n 0, 1) := by decide +kernel
theorem dX8_marry_1 : decode cX8_marry 1 = .ok (.iload_n 1, 1) := by decide +kernel
theorem dX8_marry_2 : decode cX8_marry 2 = .ok (.invokevirtual 191, 3) := by decide +kernel
theorem dX8_marry_5 : decode cX8_marry 5 = .ok (.ifCond .eq 15, 3) := by decide +kernel
theorem dX8_marry_8 : decode cX8_marry 8 = .ok (.aload_n 0, 1) := by decide +kernel
theorem dX8_marry_9 : decode cX8_marry 9 = .ok (.iload_n 2, 1) := by decide +kernel
theorem dX8_marry_10 : decode cX8_marry 10 = .ok (.invokevirtual 191, 3) := by decide +kernel
theorem dX8_marry_13 : decode cX8_marry 13 = .ok (.ifCond .eq 7, 3) := by decide +kernel
theorem dX8_marry_16 : decode cX8_marry 16 = .ok (.iconst 1, 1) := by decide +kernel
theorem dX8_marry_17 : decode cX8_marry 17 = .ok (.goto 4, 3) := by decide +kernel
theorem dX8_marry_20 : decode cX8_marry 20 = .ok (.iconst 0, 1) := by decide +kernel
theorem dX8_marry_21 : decode cX8_marry 21 = .ok (.istore 4, 2) := by decide +kernel
theorem dX8_marry_23 : decode cX8_marry 23 = .ok (.iload 4, 2) := by decide +kernel
theorem dX8_marry_25 : decode cX8_marry 25 = .ok (.ifCond .eq 35, 3) := by decide +kernel
theorem dX8_marry_28 : decode cX8_marry 28 = .ok (.aload_n 0, 1) := by decide +kernel
theorem dX8_marry_29 : decode cX8_marry 29 = .ok (.getfield 34, 3) := by decide +kernel
theorem dX8_marry_32 : decode cX8_marry 32 = .ok (.iload_n 1, 1) := by decide +kernel
theorem dX8_marry_33 : decode cX8_marry 33 = .ok (.baload, 1) := by decide +kernel
theorem dX8_marry_34 : decode cX8_marry 34 = .ok (.ifCond .eq 26, 3) := by decide +kernel
theorem dX8_marry_37 : decode cX8_marry 37 = .ok (.aload_n 0, 1) := by decide +kernel
theorem dX8_marry_38 : decode cX8_marry 38 = .ok (.getfield 34, 3) := by decide +kernel
theorem dX8_marry_41 : decode cX8_marry 41 = .ok (.iload_n 2, 1) := by decide +kernel
theorem dX8_marry_42 : decode cX8_marry 42 = .ok (.baload, 1) := by decide +kernel
theorem dX8_marry_43 : decode cX8_marry 43 = .ok (.ifCond .ne 17, 3) := by decide +kernel
theorem dX8_marry_46 : decode cX8_marry 46 = .ok (.iload_n 3, 1) := by decide +kernel
theorem dX8_marry_47 : decode cX8_marry 47 = .ok (.iconst 0, 1) := by decide +kernel
theorem dX8_marry_48 : decode cX8_marry 48 = .ok (.ldc 222, 2) := by decide +kernel
theorem dX8_marry_50 : decode cX8_marry 50 = .ok (.invokestatic 137, 3) := by decide +kernel
theorem dX8_marry_53 : decode cX8_marry 53 = .ok (.ifCond .eq 7, 3) := by decide +kernel
theorem dX8_marry_56 : decode cX8_marry 56 = .ok (.iconst 1, 1) := by decide +kernel
theorem dX8_marry_57 : decode cX8_marry 57 = .ok (.goto 4, 3) := by decide +kernel
theorem dX8_marry_60 : decode cX8_marry 60 = .ok (.iconst 0, 1) := by decide +kernel
theorem dX8_marry_61 : decode cX8_marry 61 = .ok (.istore 5, 2) := by decide +kernel
theorem dX8_marry_63 : decode cX8_marry 63 = .ok (.aload_n 0, 1) := by decide +kernel
theorem dX8_marry_64 : decode cX8_marry 64 = .ok (.iload 4, 2) := by decide +kernel
theorem dX8_marry_66 : decode cX8_marry 66 = .ok (.ifCond .ne 7, 3) := by decide +kernel
theorem dX8_marry_69 : decode cX8_marry 69 = .ok (.iconst 1, 1) := by decide +kernel
theorem dX8_marry_70 : decode cX8_marry 70 = .ok (.goto 26, 3) := by decide +kernel
theorem dX8_marry_73 : decode cX8_marry 73 = .ok (.iload 5, 2) := by decide +kernel
theorem dX8_marry_75 : decode cX8_marry 75 = .ok (.ifCond .ne 7, 3) := by decide +kernel
theorem dX8_marry_78 : decode cX8_marry 78 = .ok (.iconst 2, 1) := by decide +kernel
theorem dX8_marry_79 : decode cX8_marry 79 = .ok (.goto 17, 3) := by decide +kernel
theorem dX8_marry_82 : decode cX8_marry 82 = .ok (.aload_n 0, 1) := by decide +kernel
theorem dX8_marry_83 : decode cX8_marry 83 = .ok (.iload_n 1, 1) := by decide +kernel
theorem dX8_marry_84 : decode cX8_marry 84 = .ok (.iload_n 2, 1) := by decide +kernel
theorem dX8_marry_85 : decode cX8_marry 85 = .ok (.invokevirtual 223, 3) := by decide +kernel
theorem dX8_marry_88 : decode cX8_marry 88 = .ok (.ifCond .eq 7, 3) := by decide +kernel
theorem dX8_marry_91 : decode cX8_marry 91 = .ok (.iconst 0, 1) := by decide +kernel
theorem dX8_marry_92 : decode cX8_marry 92 = .ok (.goto 4, 3) := by decide +kernel
theorem dX8_marry_95 : decode cX8_marry 95 = .ok (.iconst 3, 1) := by decide +kernel
theorem dX8_marry_96 : decode cX8_marry 96 = .ok (.invokevirtual 157, 3) := by decide +kernel
theorem dX8_marry_99 : decode cX8_marry 99 = .ok (.ifCond .ne 5, 3) := by decide +kernel
theorem dX8_marry_102 : decode cX8_marry 102 = .ok (.iconst 0, 1) := by decide +kernel
theorem dX8_marry_103 : decode cX8_marry 103 = .ok (.ireturn, 1) := by decide +kernel
theorem dX8_marry_104 : decode cX8_marry 104 = .ok (.aload_n 0, 1) := by decide +kernel
theorem dX8_marry_105 : decode cX8_marry 105 = .ok (.getfield 70, 3) := by decide +kernel
theorem dX8_marry_108 : decode cX8_marry 108 = .ok (.aload_n 0, 1) := by decide +kernel
theorem dX8_marry_109 : decode cX8_marry 109 = .ok (.getfield 148, 3) := by decide +kernel
theorem dX8_marry_112 : decode cX8_marry 112 = .ok (.iload_n 1, 1) := by decide +kernel
theorem dX8_marry_113 : decode cX8_marry 113 = .ok (.iastore, 1) := by decide +kernel
theorem dX8_marry_114 : decode cX8_marry 114 = .ok (.aload_n 0, 1) := by decide +kernel
theorem dX8_marry_115 : decode cX8_marry 115 = .ok (.getfield 73, 3) := by decide +kernel
theorem dX8_marry_118 : decode cX8_marry 118 = .ok (.aload_n 0, 1) := by decide +kernel
theorem dX8_marry_119 : decode cX8_marry 119 = .ok (.getfield 148, 3) := by decide +kernel
theorem dX8_marry_122 : decode cX8_marry 122 = .ok (.iload_n 2, 1) := by decide +kernel
theorem dX8_marry_123 : decode cX8_marry 123 = .ok (.iastore, 1) := by decide +kernel
theorem dX8_marry_124 : decode cX8_marry 124 = .ok (.aload_n 0, 1) := by decide +kernel
theorem dX8_marry_125 : decode cX8_marry 125 = .ok (.getfield 79, 3) := by decide +kernel
theorem dX8_marry_128 : decode cX8_marry 128 = .ok (.aload_n 0, 1) := by decide +kernel
theorem dX8_marry_129 : decode cX8_marry 129 = .ok (.getfield 148, 3) := by decide +kernel
theorem dX8_marry_132 : decode cX8_marry 132 = .ok (.iload_n 3, 1) := by decide +kernel
theorem dX8_marry_133 : decode cX8_marry 133 = .ok (.iastore, 1) := by decide +kernel
theorem dX8_marry_134 : decode cX8_marry 134 = .ok (.aload_n 0, 1) := by decide +kernel
theorem dX8_marry_135 : decode cX8_marry 135 = .ok (.getfield 82, 3) := by decide +kernel
theorem dX8_marry_138 : decode cX8_marry 138 = .ok (.aload_n 0, 1) := by decide +kernel
theorem dX8_marry_139 : decode cX8_marry 139 = .ok (.getfield 148, 3) := by decide +kernel
theorem dX8_marry_142 : decode cX8_marry 142 = .ok (.aload_n 0, 1) := by decide +kernel
theorem dX8_marry_143 : decode cX8_marry 143 = .ok (.iconst 0, 1) := by decide +kernel
theorem dX8_marry_144 : decode cX8_marry 144 = .ok (.iload_n 1, 1) := by decide +kernel
theorem dX8_marry_145 : decode cX8_marry 145 = .ok (.iload_n 2, 1) := by decide +kernel
theorem dX8_marry_146 : decode cX8_marry 146 = .ok (.aload_n 0, 1) := by decide +kernel
theorem dX8_marry_147 : decode cX8_marry 147 = .ok (.getfield 154, 3) := by decide +kernel
theorem dX8_marry_150 : decode cX8_marry 150 = .ok (.invokevirtual 194, 3) := by decide +kernel
theorem dX8_marry_153 : decode cX8_marry 153 = .ok (.iastore, 1) := by decide +kernel
theorem dX8_marry_154 : decode cX8_marry 154 = .ok (.aload_n 0, 1) := by decide +kernel
theorem dX8_marry_155 : decode cX8_marry 155 = .ok (.dup, 1) := by decide +kernel
theorem dX8_marry_156 : decode cX8_marry 156 = .ok (.getfield 148, 3) := by decide +kernel
theorem dX8_marry_159 : decode cX8_marry 159 = .ok (.iconst 1, 1) := by decide +kernel
theorem dX8_marry_160 : decode cX8_marry 160 = .ok (.iadd, 1) := by decide +kernel
theorem dX8_marry_161 : decode cX8_marry 161 = .ok (.putfield 148, 3) := by decide +kernel
theorem dX8_marry_164 : decode cX8_marry 164 = .ok (.aload_n 0, 1) := by decide +kernel
theorem dX8_marry_165 : decode cX8_marry 165 = .ok (.getfield 148, 3) := by decide +kernel
theorem dX8_marry_168 : decode cX8_marry 168 = .ok (.iconst 1, 1) := by decide +kernel
theorem dX8_marry_169 : decode cX8_marry 169 = .ok (.isub, 1) := by decide +kernel
theorem dX8_marry_170 : decode cX8_marry 170 = .ok (.ireturn, 1) := by decide +kernel
theorem dX8_paysDower_0 : decode cX8_paysDower 0 = .ok (.aload_n 0, 1) := by decide +kernel
theorem dX8_paysDower_1 : decode cX8_paysDower 1 = .ok (.getfield 70, 3) := by decide +kernel
theorem dX8_paysDower_4 : decode cX8_paysDower 4 = .ok (.iload_n 1, 1) := by decide +kernel
theorem dX8_paysDower_5 : decode cX8_paysDower 5 = .ok (.iaload, 1) := by decide +kernel
theorem dX8_paysDower_6 : decode cX8_paysDower 6 = .ok (.istore_n 2, 1) := by decide +kernel
theorem dX8_paysDower_7 : decode cX8_paysDower 7 = .ok (.aload_n 0, 1) := by decide +kernel
theorem dX8_paysDower_8 : decode cX8_paysDower 8 = .ok (.getfield 50, 3) := by decide +kernel
theorem dX8_paysDower_11 : decode cX8_paysDower 11 = .ok (.iload_n 2, 1) := by decide +kernel
theorem dX8_paysDower_12 : decode cX8_paysDower 12 = .ok (.laload, 1) := by decide +kernel
theorem dX8_paysDower_13 : decode cX8_paysDower 13 = .ok (.aload_n 0, 1) := by decide +kernel
theorem dX8_paysDower_14 : decode cX8_paysDower 14 = .ok (.getfield 79, 3) := by decide +kernel
theorem dX8_paysDower_17 : decode cX8_paysDower 17 = .ok (.iload_n 1, 1) := by decide +kernel
theorem dX8_paysDower_18 : decode cX8_paysDower 18 = .ok (.iaload, 1) := by decide +kernel
theorem dX8_paysDower_19 : decode cX8_paysDower 19 = .ok (.i2l, 1) := by decide +kernel
theorem dX8_paysDower_20 : decode cX8_paysDower 20 = .ok (.lcmp, 1) := by decide +kernel
theorem dX8_paysDower_21 : decode cX8_paysDower 21 = .ok (.ifCond .ge 12, 3) := by decide +kernel
theorem dX8_paysDower_24 : decode cX8_paysDower 24 = .ok (.aload_n 0, 1) := by decide +kernel
theorem dX8_paysDower_25 : decode cX8_paysDower 25 = .ok (.getfield 50, 3) := by decide +kernel
theorem dX8_paysDower_28 : decode cX8_paysDower 28 = .ok (.iload_n 2, 1) := by decide +kernel
theorem dX8_paysDower_29 : decode cX8_paysDower 29 = .ok (.laload, 1) := by decide +kernel
theorem dX8_paysDower_30 : decode cX8_paysDower 30 = .ok (.goto 10, 3) := by decide +kernel
theorem dX8_paysDower_33 : decode cX8_paysDower 33 = .ok (.aload_n 0, 1) := by decide +kernel
theorem dX8_paysDower_34 : decode cX8_paysDower 34 = .ok (.getfield 79, 3) := by decide +kernel
theorem dX8_paysDower_37 : decode cX8_paysDower 37 = .ok (.iload_n 1, 1) := by decide +kernel
theorem dX8_paysDower_38 : decode cX8_paysDower 38 = .ok (.iaload, 1) := by decide +kernel
theorem dX8_paysDower_39 : decode cX8_paysDower 39 = .ok (.i2l, 1) := by decide +kernel
theorem dX8_paysDower_40 : decode cX8_paysDower 40 = .ok (.lstore_n 3, 1) := by decide +kernel
theorem dX8_paysDower_41 : decode cX8_paysDower 41 = .ok (.aload_n 0, 1) := by decide +kernel
theorem dX8_paysDower_42 : decode cX8_paysDower 42 = .ok (.getfield 50, 3) := by decide +kernel
theorem dX8_paysDower_45 : decode cX8_paysDower 45 = .ok (.iload_n 2, 1) := by decide +kernel
theorem dX8_paysDower_46 : decode cX8_paysDower 46 = .ok (.dup2, 1) := by decide +kernel
theorem dX8_paysDower_47 : decode cX8_paysDower 47 = .ok (.laload, 1) := by decide +kernel
theorem dX8_paysDower_48 : decode cX8_paysDower 48 = .ok (.lload_n 3, 1) := by decide +kernel
theorem dX8_paysDower_49 : decode cX8_paysDower 49 = .ok (.lsub, 1) := by decide +kernel
theorem dX8_paysDower_50 : decode cX8_paysDower 50 = .ok (.lastore, 1) := by decide +kernel
theorem dX8_paysDower_51 : decode cX8_paysDower 51 = .ok (.aload_n 0, 1) := by decide +kernel
theorem dX8_paysDower_52 : decode cX8_paysDower 52 = .ok (.getfield 50, 3) := by decide +kernel
theorem dX8_paysDower_55 : decode cX8_paysDower 55 = .ok (.aload_n 0, 1) := by decide +kernel
theorem dX8_paysDower_56 : decode cX8_paysDower 56 = .ok (.getfield 73, 3) := by decide +kernel
theorem dX8_paysDower_59 : decode cX8_paysDower 59 = .ok (.iload_n 1, 1) := by decide +kernel
theorem dX8_paysDower_60 : decode cX8_paysDower 60 = .ok (.iaload, 1) := by decide +kernel
theorem dX8_paysDower_61 : decode cX8_paysDower 61 = .ok (.dup2, 1) := by decide +kernel
theorem dX8_paysDower_62 : decode cX8_paysDower 62 = .ok (.laload, 1) := by decide +kernel
theorem dX8_paysDower_63 : decode cX8_paysDower 63 = .ok (.lload_n 3, 1) := by decide +kernel
theorem dX8_paysDower_64 : decode cX8_paysDower 64 = .ok (.ladd, 1) := by decide +kernel
theorem dX8_paysDower_65 : decode cX8_paysDower 65 = .ok (.lastore, 1) := by decide +kernel
theorem dX8_paysDower_66 : decode cX8_paysDower 66 = .ok (.aload_n 0, 1) := by decide +kernel
theorem dX8_paysDower_67 : decode cX8_paysDower 67 = .ok (.getfield 79, 3) := by decide +kernel
theorem dX8_paysDower_70 : decode cX8_paysDower 70 = .ok (.iload_n 1, 1) := by decide +kernel
theorem dX8_paysDower_71 : decode cX8_paysDower 71 = .ok (.iconst 0, 1) := by decide +kernel
theorem dX8_paysDower_72 : decode cX8_paysDower 72 = .ok (.iastore, 1) := by decide +kernel
theorem dX8_paysDower_73 : decode cX8_paysDower 73 = .ok (.return_, 1) := by decide +kernel
theorem dX8_divorce_0 : decode cX8_divorce 0 = .ok (.aload_n 0, 1) := by decide +kernel
theorem dX8_divorce_1 : decode cX8_divorce 1 = .ok (.iload_n 1, 1) := by decide +kernel
theorem dX8_divorce_2 : decode cX8_divorce 2 = .ok (.invokevirtual 226, 3) := by decide +kernel
theorem dX8_divorce_5 : decode cX8_divorce 5 = .ok (.istore_n 3, 1) := by decide +kernel
theorem dX8_divorce_6 : decode cX8_divorce 6 = .ok (.aload_n 0, 1) := by decide +kernel
theorem dX8_divorce_7 : decode cX8_divorce 7 = .ok (.iload_n 3, 1) := by decide +kernel
theorem dX8_divorce_8 : decode cX8_divorce 8 = .ok (.ifCond .ne 7, 3) := by decide +kernel
theorem dX8_divorce_11 : decode cX8_divorce 11 = .ok (.iconst 1, 1) := by decide +kernel
theorem dX8_divorce_12 : decode cX8_divorce 12 = .ok (.goto 17, 3) := by decide +kernel
theorem dX8_divorce_15 : decode cX8_divorce 15 = .ok (.aload_n 0, 1) := by decide +kernel
theorem dX8_divorce_16 : decode cX8_divorce 16 = .ok (.getfield 76, 3) := by decide +kernel
theorem dX8_divorce_19 : decode cX8_divorce 19 = .ok (.iload_n 1, 1) := by decide +kernel
theorem dX8_divorce_20 : decode cX8_divorce 20 = .ok (.iaload, 1) := by decide +kernel
theorem dX8_divorce_21 : decode cX8_divorce 21 = .ok (.ifCond .eq 7, 3) := by decide +kernel
theorem dX8_divorce_24 : decode cX8_divorce 24 = .ok (.iconst 2, 1) := by decide +kernel
theorem dX8_divorce_25 : decode cX8_divorce 25 = .ok (.goto 4, 3) := by decide +kernel
theorem dX8_divorce_28 : decode cX8_divorce 28 = .ok (.iconst 0, 1) := by decide +kernel
theorem dX8_divorce_29 : decode cX8_divorce 29 = .ok (.invokevirtual 157, 3) := by decide +kernel
theorem dX8_divorce_32 : decode cX8_divorce 32 = .ok (.ifCond .ne 5, 3) := by decide +kernel
theorem dX8_divorce_35 : decode cX8_divorce 35 = .ok (.iconst 0, 1) := by decide +kernel
theorem dX8_divorce_36 : decode cX8_divorce 36 = .ok (.ireturn, 1) := by decide +kernel
theorem dX8_divorce_37 : decode cX8_divorce 37 = .ok (.aload_n 0, 1) := by decide +kernel
theorem dX8_divorce_38 : decode cX8_divorce 38 = .ok (.iconst 1, 1) := by decide +kernel
theorem dX8_divorce_39 : decode cX8_divorce 39 = .ok (.aload_n 0, 1) := by decide +kernel
theorem dX8_divorce_40 : decode cX8_divorce 40 = .ok (.getfield 70, 3) := by decide +kernel
theorem dX8_divorce_43 : decode cX8_divorce 43 = .ok (.iload_n 1, 1) := by decide +kernel
theorem dX8_divorce_44 : decode cX8_divorce 44 = .ok (.iaload, 1) := by decide +kernel
theorem dX8_divorce_45 : decode cX8_divorce 45 = .ok (.aload_n 0, 1) := by decide +kernel
theorem dX8_divorce_46 : decode cX8_divorce 46 = .ok (.getfield 73, 3) := by decide +kernel
theorem dX8_divorce_49 : decode cX8_divorce 49 = .ok (.iload_n 1, 1) := by decide +kernel
theorem dX8_divorce_50 : decode cX8_divorce 50 = .ok (.iaload, 1) := by decide +kernel
theorem dX8_divorce_51 : decode cX8_divorce 51 = .ok (.aload_n 0, 1) := by decide +kernel
theorem dX8_divorce_52 : decode cX8_divorce 52 = .ok (.getfield 154, 3) := by decide +kernel
theorem dX8_divorce_55 : decode cX8_divorce 55 = .ok (.invokevirtual 194, 3) := by decide +kernel
theorem dX8_divorce_58 : decode cX8_divorce 58 = .ok (.istore 4, 2) := by decide +kernel
theorem dX8_divorce_60 : decode cX8_divorce 60 = .ok (.aload_n 0, 1) := by decide +kernel
theorem dX8_divorce_61 : decode cX8_divorce 61 = .ok (.iload 4, 2) := by decide +kernel
theorem dX8_divorce_63 : decode cX8_divorce 63 = .ok (.iconst 1, 1) := by decide +kernel
theorem dX8_divorce_64 : decode cX8_divorce 64 = .ok (.aload_n 0, 1) := by decide +kernel
theorem dX8_divorce_65 : decode cX8_divorce 65 = .ok (.getfield 154, 3) := by decide +kernel
theorem dX8_divorce_68 : decode cX8_divorce 68 = .ok (.invokevirtual 177, 3) := by decide +kernel
theorem dX8_divorce_71 : decode cX8_divorce 71 = .ok (.istore 5, 2) := by decide +kernel
theorem dX8_divorce_73 : decode cX8_divorce 73 = .ok (.iload_n 2, 1) := by decide +kernel
theorem dX8_divorce_74 : decode cX8_divorce 74 = .ok (.ifCond .eq 12, 3) := by decide +kernel
theorem dX8_divorce_77 : decode cX8_divorce 77 = .ok (.aload_n 0, 1) := by decide +kernel
theorem dX8_divorce_78 : decode cX8_divorce 78 = .ok (.getfield 88, 3) := by decide +kernel
theorem dX8_divorce_81 : decode cX8_divorce 81 = .ok (.iload_n 1, 1) := by decide +kernel
theorem dX8_divorce_82 : decode cX8_divorce 82 = .ok (.baload, 1) := by decide +kernel
theorem dX8_divorce_83 : decode cX8_divorce 83 = .ok (.goto 9, 3) := by decide +kernel
theorem dX8_divorce_86 : decode cX8_divorce 86 = .ok (.aload_n 0, 1) := by decide +kernel
theorem dX8_divorce_87 : decode cX8_divorce 87 = .ok (.getfield 85, 3) := by decide +kernel
theorem dX8_divorce_90 : decode cX8_divorce 90 = .ok (.iload_n 1, 1) := by decide +kernel
theorem dX8_divorce_91 : decode cX8_divorce 91 = .ok (.baload, 1) := by decide +kernel
theorem dX8_divorce_92 : decode cX8_divorce 92 = .ok (.istore 6, 2) := by decide +kernel
theorem dX8_divorce_94 : decode cX8_divorce 94 = .ok (.aload_n 0, 1) := by decide +kernel
theorem dX8_divorce_95 : decode cX8_divorce 95 = .ok (.getfield 85, 3) := by decide +kernel
theorem dX8_divorce_98 : decode cX8_divorce 98 = .ok (.iload_n 1, 1) := by decide +kernel
theorem dX8_divorce_99 : decode cX8_divorce 99 = .ok (.aload_n 0, 1) := by decide +kernel
theorem dX8_divorce_100 : decode cX8_divorce 100 = .ok (.getfield 85, 3) := by decide +kernel
theorem dX8_divorce_103 : decode cX8_divorce 103 = .ok (.iload_n 1, 1) := by decide +kernel
theorem dX8_divorce_104 : decode cX8_divorce 104 = .ok (.baload, 1) := by decide +kernel
theorem dX8_divorce_105 : decode cX8_divorce 105 = .ok (.ifCond .ne 7, 3) := by decide +kernel
theorem dX8_divorce_108 : decode cX8_divorce 108 = .ok (.iload_n 2, 1) := by decide +kernel
theorem dX8_divorce_109 : decode cX8_divorce 109 = .ok (.ifCond .eq 7, 3) := by decide +kernel
theorem dX8_divorce_112 : decode cX8_divorce 112 = .ok (.iconst 1, 1) := by decide +kernel
theorem dX8_divorce_113 : decode cX8_divorce 113 = .ok (.goto 4, 3) := by decide +kernel
theorem dX8_divorce_116 : decode cX8_divorce 116 = .ok (.iconst 0, 1) := by decide +kernel
theorem dX8_divorce_117 : decode cX8_divorce 117 = .ok (.bastore, 1) := by decide +kernel
theorem dX8_divorce_118 : decode cX8_divorce 118 = .ok (.aload_n 0, 1) := by decide +kernel
theorem dX8_divorce_119 : decode cX8_divorce 119 = .ok (.getfield 88, 3) := by decide +kernel
theorem dX8_divorce_122 : decode cX8_divorce 122 = .ok (.iload_n 1, 1) := by decide +kernel
theorem dX8_divorce_123 : decode cX8_divorce 123 = .ok (.aload_n 0, 1) := by decide +kernel
theorem dX8_divorce_124 : decode cX8_divorce 124 = .ok (.getfield 88, 3) := by decide +kernel
theorem dX8_divorce_127 : decode cX8_divorce 127 = .ok (.iload_n 1, 1) := by decide +kernel
theorem dX8_divorce_128 : decode cX8_divorce 128 = .ok (.baload, 1) := by decide +kernel
theorem dX8_divorce_129 : decode cX8_divorce 129 = .ok (.ifCond .ne 7, 3) := by decide +kernel
theorem dX8_divorce_132 : decode cX8_divorce 132 = .ok (.iload_n 2, 1) := by decide +kernel
theorem dX8_divorce_133 : decode cX8_divorce 133 = .ok (.ifCond .ne 7, 3) := by decide +kernel
theorem dX8_divorce_136 : decode cX8_divorce 136 = .ok (.iconst 1, 1) := by decide +kernel
theorem dX8_divorce_137 : decode cX8_divorce 137 = .ok (.goto 4, 3) := by decide +kernel
theorem dX8_divorce_140 : decode cX8_divorce 140 = .ok (.iconst 0, 1) := by decide +kernel
theorem dX8_divorce_141 : decode cX8_divorce 141 = .ok (.bastore, 1) := by decide +kernel
theorem dX8_divorce_142 : decode cX8_divorce 142 = .ok (.iload 5, 2) := by decide +kernel
theorem dX8_divorce_144 : decode cX8_divorce 144 = .ok (.iconst 1, 1) := by decide +kernel
theorem dX8_divorce_145 : decode cX8_divorce 145 = .ok (.if_icmp .eq 23, 3) := by decide +kernel
theorem dX8_divorce_148 : decode cX8_divorce 148 = .ok (.iload 5, 2) := by decide +kernel
theorem dX8_divorce_150 : decode cX8_divorce 150 = .ok (.ifCond .ne 7, 3) := by decide +kernel
theorem dX8_divorce_153 : decode cX8_divorce 153 = .ok (.iload_n 2, 1) := by decide +kernel
theorem dX8_divorce_154 : decode cX8_divorce 154 = .ok (.ifCond .ne 14, 3) := by decide +kernel
theorem dX8_divorce_157 : decode cX8_divorce 157 = .ok (.iload 5, 2) := by decide +kernel
theorem dX8_divorce_159 : decode cX8_divorce 159 = .ok (.iconst 2, 1) := by decide +kernel
theorem dX8_divorce_160 : decode cX8_divorce 160 = .ok (.if_icmp .ne 12, 3) := by decide +kernel
theorem dX8_divorce_163 : decode cX8_divorce 163 = .ok (.iload 6, 2) := by decide +kernel
theorem dX8_divorce_165 : decode cX8_divorce 165 = .ok (.ifCond .eq 7, 3) := by decide +kernel
theorem dX8_divorce_168 : decode cX8_divorce 168 = .ok (.iconst 1, 1) := by decide +kernel
theorem dX8_divorce_169 : decode cX8_divorce 169 = .ok (.goto 4, 3) := by decide +kernel
theorem dX8_divorce_172 : decode cX8_divorce 172 = .ok (.iconst 0, 1) := by decide +kernel
theorem dX8_divorce_173 : decode cX8_divorce 173 = .ok (.istore 7, 2) := by decide +kernel
theorem dX8_divorce_175 : decode cX8_divorce 175 = .ok (.iload 7, 2) := by decide +kernel
theorem dX8_divorce_177 : decode cX8_divorce 177 = .ok (.ifCond .eq 15, 3) := by decide +kernel
theorem dX8_divorce_180 : decode cX8_divorce 180 = .ok (.aload_n 0, 1) := by decide +kernel
theorem dX8_divorce_181 : decode cX8_divorce 181 = .ok (.getfield 76, 3) := by decide +kernel
theorem dX8_divorce_184 : decode cX8_divorce 184 = .ok (.iload_n 1, 1) := by decide +kernel
theorem dX8_divorce_185 : decode cX8_divorce 185 = .ok (.iconst 1, 1) := by decide +kernel
theorem dX8_divorce_186 : decode cX8_divorce 186 = .ok (.iastore, 1) := by decide +kernel
theorem dX8_divorce_187 : decode cX8_divorce 187 = .ok (.aload_n 0, 1) := by decide +kernel
theorem dX8_divorce_188 : decode cX8_divorce 188 = .ok (.iload_n 1, 1) := by decide +kernel
theorem dX8_divorce_189 : decode cX8_divorce 189 = .ok (.invokevirtual 229, 3) := by decide +kernel
theorem dX8_divorce_192 : decode cX8_divorce 192 = .ok (.iload 7, 2) := by decide +kernel
theorem dX8_divorce_194 : decode cX8_divorce 194 = .ok (.ireturn, 1) := by decide +kernel
theorem dX8_goods_0 : decode cX8_goods 0 = .ok (.aload_n 0, 1) := by decide +kernel
theorem dX8_goods_1 : decode cX8_goods 1 = .ok (.iload_n 1, 1) := by decide +kernel
theorem dX8_goods_2 : decode cX8_goods 2 = .ok (.invokevirtual 191, 3) := by decide +kernel
theorem dX8_goods_5 : decode cX8_goods 5 = .ok (.istore_n 3, 1) := by decide +kernel
theorem dX8_goods_6 : decode cX8_goods 6 = .ok (.aload_n 0, 1) := by decide +kernel
theorem dX8_goods_7 : decode cX8_goods 7 = .ok (.iload_n 3, 1) := by decide +kernel
theorem dX8_goods_8 : decode cX8_goods 8 = .ok (.ifCond .ne 7, 3) := by decide +kernel
theorem dX8_goods_11 : decode cX8_goods 11 = .ok (.iconst 1, 1) := by decide +kernel
theorem dX8_goods_12 : decode cX8_goods 12 = .ok (.goto 31, 3) := by decide +kernel
theorem dX8_goods_15 : decode cX8_goods 15 = .ok (.iload_n 2, 1) := by decide +kernel
theorem dX8_goods_16 : decode cX8_goods 16 = .ok (.iconst 1, 1) := by decide +kernel
theorem dX8_goods_17 : decode cX8_goods 17 = .ok (.ldc 222, 2) := by decide +kernel
theorem dX8_goods_19 : decode cX8_goods 19 = .ok (.invokestatic 137, 3) := by decide +kernel
theorem dX8_goods_22 : decode cX8_goods 22 = .ok (.ifCond .ne 7, 3) := by decide +kernel
theorem dX8_goods_25 : decode cX8_goods 25 = .ok (.iconst 2, 1) := by decide +kernel
theorem dX8_goods_26 : decode cX8_goods 26 = .ok (.goto 17, 3) := by decide +kernel
theorem dX8_goods_29 : decode cX8_goods 29 = .ok (.aload_n 0, 1) := by decide +kernel
theorem dX8_goods_30 : decode cX8_goods 30 = .ok (.getfield 47, 3) := by decide +kernel
theorem dX8_goods_33 : decode cX8_goods 33 = .ok (.iload_n 1, 1) := by decide +kernel
theorem dX8_goods_34 : decode cX8_goods 34 = .ok (.baload, 1) := by decide +kernel
theorem dX8_goods_35 : decode cX8_goods 35 = .ok (.ifCond .eq 7, 3) := by decide +kernel
theorem dX8_goods_38 : decode cX8_goods 38 = .ok (.iconst 3, 1) := by decide +kernel
theorem dX8_goods_39 : decode cX8_goods 39 = .ok (.goto 4, 3) := by decide +kernel
theorem dX8_goods_42 : decode cX8_goods 42 = .ok (.iconst 0, 1) := by decide +kernel
theorem dX8_goods_43 : decode cX8_goods 43 = .ok (.invokevirtual 157, 3) := by decide +kernel
theorem dX8_goods_46 : decode cX8_goods 46 = .ok (.ifCond .ne 5, 3) := by decide +kernel
theorem dX8_goods_49 : decode cX8_goods 49 = .ok (.lconst 0, 1) := by decide +kernel
theorem dX8_goods_50 : decode cX8_goods 50 = .ok (.lreturn, 1) := by decide +kernel
theorem dX8_goods_51 : decode cX8_goods 51 = .ok (.aload_n 0, 1) := by decide +kernel
theorem dX8_goods_52 : decode cX8_goods 52 = .ok (.getfield 50, 3) := by decide +kernel
theorem dX8_goods_55 : decode cX8_goods 55 = .ok (.iload_n 1, 1) := by decide +kernel
theorem dX8_goods_56 : decode cX8_goods 56 = .ok (.dup2, 1) := by decide +kernel
theorem dX8_goods_57 : decode cX8_goods 57 = .ok (.laload, 1) := by decide +kernel
theorem dX8_goods_58 : decode cX8_goods 58 = .ok (.iload_n 2, 1) := by decide +kernel
theorem dX8_goods_59 : decode cX8_goods 59 = .ok (.i2l, 1) := by decide +kernel
theorem dX8_goods_60 : decode cX8_goods 60 = .ok (.ladd, 1) := by decide +kernel
theorem dX8_goods_61 : decode cX8_goods 61 = .ok (.lastore, 1) := by decide +kernel
theorem dX8_goods_62 : decode cX8_goods 62 = .ok (.aload_n 0, 1) := by decide +kernel
theorem dX8_goods_63 : decode cX8_goods 63 = .ok (.getfield 50, 3) := by decide +kernel
theorem dX8_goods_66 : decode cX8_goods 66 = .ok (.iload_n 1, 1) := by decide +kernel
theorem dX8_goods_67 : decode cX8_goods 67 = .ok (.laload, 1) := by decide +kernel
theorem dX8_goods_68 : decode cX8_goods 68 = .ok (.lreturn, 1) := by decide +kernel
theorem dX8_isChild_0 : decode cX8_isChild 0 = .ok (.aload_n 0, 1) := by decide +kernel
theorem dX8_isChild_1 : decode cX8_isChild 1 = .ok (.getfield 38, 3) := by decide +kernel
theorem dX8_isChild_4 : decode cX8_isChild 4 = .ok (.iload_n 1, 1) := by decide +kernel
theorem dX8_isChild_5 : decode cX8_isChild 5 = .ok (.iaload, 1) := by decide +kernel
theorem dX8_isChild_6 : decode cX8_isChild 6 = .ok (.iload_n 2, 1) := by decide +kernel
theorem dX8_isChild_7 : decode cX8_isChild 7 = .ok (.if_icmp .eq 13, 3) := by decide +kernel
theorem dX8_isChild_10 : decode cX8_isChild 10 = .ok (.aload_n 0, 1) := by decide +kernel
theorem dX8_isChild_11 : decode cX8_isChild 11 = .ok (.getfield 41, 3) := by decide +kernel
theorem dX8_isChild_14 : decode cX8_isChild 14 = .ok (.iload_n 1, 1) := by decide +kernel
theorem dX8_isChild_15 : decode cX8_isChild 15 = .ok (.iaload, 1) := by decide +kernel
theorem dX8_isChild_16 : decode cX8_isChild 16 = .ok (.iload_n 2, 1) := by decide +kernel
theorem dX8_isChild_17 : decode cX8_isChild 17 = .ok (.if_icmp .ne 7, 3) := by decide +kernel
theorem dX8_isChild_20 : decode cX8_isChild 20 = .ok (.iconst 1, 1) := by decide +kernel
theorem dX8_isChild_21 : decode cX8_isChild 21 = .ok (.goto 4, 3) := by decide +kernel
theorem dX8_isChild_24 : decode cX8_isChild 24 = .ok (.iconst 0, 1) := by decide +kernel
theorem dX8_isChild_25 : decode cX8_isChild 25 = .ok (.ireturn, 1) := by decide +kernel
theorem dX8_units_0 : decode cX8_units 0 = .ok (.iconst 0, 1) := by decide +kernel
theorem dX8_units_1 : decode cX8_units 1 = .ok (.istore_n 2, 1) := by decide +kernel
theorem dX8_units_2 : decode cX8_units 2 = .ok (.iconst 0, 1) := by decide +kernel
theorem dX8_units_3 : decode cX8_units 3 = .ok (.istore_n 3, 1) := by decide +kernel
theorem dX8_units_4 : decode cX8_units 4 = .ok (.iload_n 3, 1) := by decide +kernel
theorem dX8_units_5 : decode cX8_units 5 = .ok (.aload_n 0, 1) := by decide +kernel
theorem dX8_units_6 : decode cX8_units 6 = .ok (.getfield 145, 3) := by decide +kernel
theorem dX8_units_9 : decode cX8_units 9 = .ok (.if_icmp .ge 39, 3) := by decide +kernel
theorem dX8_units_12 : decode cX8_units 12 = .ok (.iload_n 2, 1) := by decide +kernel
theorem dX8_units_13 : decode cX8_units 13 = .ok (.aload_n 0, 1) := by decide +kernel
theorem dX8_units_14 : decode cX8_units 14 = .ok (.getfield 127, 3) := by decide +kernel
theorem dX8_units_17 : decode cX8_units 17 = .ok (.iload_n 3, 1) := by decide +kernel
theorem dX8_units_18 : decode cX8_units 18 = .ok (.baload, 1) := by decide +kernel
theorem dX8_units_19 : decode cX8_units 19 = .ok (.ifCond .ne 7, 3) := by decide +kernel
theorem dX8_units_22 : decode cX8_units 22 = .ok (.iconst 0, 1) := by decide +kernel
theorem dX8_units_23 : decode cX8_units 23 = .ok (.goto 17, 3) := by decide +kernel
theorem dX8_units_26 : decode cX8_units 26 = .ok (.aload_n 0, 1) := by decide +kernel
theorem dX8_units_27 : decode cX8_units 27 = .ok (.getfield 34, 3) := by decide +kernel
theorem dX8_units_30 : decode cX8_units 30 = .ok (.iload_n 3, 1) := by decide +kernel
theorem dX8_units_31 : decode cX8_units 31 = .ok (.baload, 1) := by decide +kernel
theorem dX8_units_32 : decode cX8_units 32 = .ok (.ifCond .eq 7, 3) := by decide +kernel
theorem dX8_units_35 : decode cX8_units 35 = .ok (.iload_n 1, 1) := by decide +kernel
theorem dX8_units_36 : decode cX8_units 36 = .ok (.goto 4, 3) := by decide +kernel
theorem dX8_units_39 : decode cX8_units 39 = .ok (.iconst 1, 1) := by decide +kernel
theorem dX8_units_40 : decode cX8_units 40 = .ok (.iadd, 1) := by decide +kernel
theorem dX8_units_41 : decode cX8_units 41 = .ok (.istore_n 2, 1) := by decide +kernel
theorem dX8_units_42 : decode cX8_units 42 = .ok (.iinc 3 1, 3) := by decide +kernel
theorem dX8_units_45 : decode cX8_units 45 = .ok (.goto (-41), 3) := by decide +kernel
theorem dX8_units_48 : decode cX8_units 48 = .ok (.iload_n 2, 1) := by decide +kernel
theorem dX8_units_49 : decode cX8_units 49 = .ok (.ireturn, 1) := by decide +kernel
theorem dX8_gives_0 : decode cX8_gives 0 = .ok (.lload_n 1, 1) := by decide +kernel
theorem dX8_gives_1 : decode cX8_gives 1 = .ok (.aload_n 0, 1) := by decide +kernel
theorem dX8_gives_2 : decode cX8_gives 2 = .ok (.iload_n 3, 1) := by decide +kernel
theorem dX8_gives_3 : decode cX8_gives 3 = .ok (.invokevirtual 232, 3) := by decide +kernel
theorem dX8_gives_6 : decode cX8_gives 6 = .ok (.i2l, 1) := by decide +kernel
theorem dX8_gives_7 : decode cX8_gives 7 = .ok (.ldiv, 1) := by decide +kernel
theorem dX8_gives_8 : decode cX8_gives 8 = .ok (.lstore 4, 2) := by decide +kernel
theorem dX8_gives_10 : decode cX8_gives 10 = .ok (.lload_n 1, 1) := by decide +kernel
theorem dX8_gives_11 : decode cX8_gives 11 = .ok (.lload 4, 2) := by decide +kernel
theorem dX8_gives_13 : decode cX8_gives 13 = .ok (.aload_n 0, 1) := by decide +kernel
theorem dX8_gives_14 : decode cX8_gives 14 = .ok (.iload_n 3, 1) := by decide +kernel
theorem dX8_gives_15 : decode cX8_gives 15 = .ok (.invokevirtual 232, 3) := by decide +kernel
theorem dX8_gives_18 : decode cX8_gives 18 = .ok (.i2l, 1) := by decide +kernel
theorem dX8_gives_19 : decode cX8_gives 19 = .ok (.lmul, 1) := by decide +kernel
theorem dX8_gives_20 : decode cX8_gives 20 = .ok (.lsub, 1) := by decide +kernel
theorem dX8_gives_21 : decode cX8_gives 21 = .ok (.lstore 6, 2) := by decide +kernel
theorem dX8_gives_23 : decode cX8_gives 23 = .ok (.iconst 0, 1) := by decide +kernel
theorem dX8_gives_24 : decode cX8_gives 24 = .ok (.istore 8, 2) := by decide +kernel
theorem dX8_gives_26 : decode cX8_gives 26 = .ok (.iload 8, 2) := by decide +kernel
theorem dX8_gives_28 : decode cX8_gives 28 = .ok (.aload_n 0, 1) := by decide +kernel
theorem dX8_gives_29 : decode cX8_gives 29 = .ok (.getfield 145, 3) := by decide +kernel
theorem dX8_gives_32 : decode cX8_gives 32 = .ok (.if_icmp .ge 55, 3) := by decide +kernel
theorem dX8_gives_35 : decode cX8_gives 35 = .ok (.aload_n 0, 1) := by decide +kernel
theorem dX8_gives_36 : decode cX8_gives 36 = .ok (.getfield 127, 3) := by decide +kernel
theorem dX8_gives_39 : decode cX8_gives 39 = .ok (.iload 8, 2) := by decide +kernel
theorem dX8_gives_41 : decode cX8_gives 41 = .ok (.baload, 1) := by decide +kernel
theorem dX8_gives_42 : decode cX8_gives 42 = .ok (.ifCond .eq 39, 3) := by decide +kernel
theorem dX8_gives_45 : decode cX8_gives 45 = .ok (.aload_n 0, 1) := by decide +kernel
theorem dX8_gives_46 : decode cX8_gives 46 = .ok (.getfield 50, 3) := by decide +kernel
theorem dX8_gives_49 : decode cX8_gives 49 = .ok (.iload 8, 2) := by decide +kernel
theorem dX8_gives_51 : decode cX8_gives 51 = .ok (.dup2, 1) := by decide +kernel
theorem dX8_gives_52 : decode cX8_gives 52 = .ok (.laload, 1) := by decide +kernel
theorem dX8_gives_53 : decode cX8_gives 53 = .ok (.aload_n 0, 1) := by decide +kernel
theorem dX8_gives_54 : decode cX8_gives 54 = .ok (.getfield 34, 3) := by decide +kernel
theorem dX8_gives_57 : decode cX8_gives 57 = .ok (.iload 8, 2) := by decide +kernel
theorem dX8_gives_59 : decode cX8_gives 59 = .ok (.baload, 1) := by decide +kernel
theorem dX8_gives_60 : decode cX8_gives 60 = .ok (.ifCond .eq 11, 3) := by decide +kernel
theorem dX8_gives_63 : decode cX8_gives 63 = .ok (.iload_n 3, 1) := by decide +kernel
theorem dX8_gives_64 : decode cX8_gives 64 = .ok (.i2l, 1) := by decide +kernel
theorem dX8_gives_65 : decode cX8_gives 65 = .ok (.lload 4, 2) := by decide +kernel
theorem dX8_gives_67 : decode cX8_gives 67 = .ok (.lmul, 1) := by decide +kernel
theorem dX8_gives_68 : decode cX8_gives 68 = .ok (.goto 5, 3) := by decide +kernel
theorem dX8_gives_71 : decode cX8_gives 71 = .ok (.lload 4, 2) := by decide +kernel
theorem dX8_gives_73 : decode cX8_gives 73 = .ok (.lload 6, 2) := by decide +kernel
theorem dX8_gives_75 : decode cX8_gives 75 = .ok (.ladd, 1) := by decide +kernel
theorem dX8_gives_76 : decode cX8_gives 76 = .ok (.ladd, 1) := by decide +kernel
theorem dX8_gives_77 : decode cX8_gives 77 = .ok (.lastore, 1) := by decide +kernel
theorem dX8_gives_78 : decode cX8_gives 78 = .ok (.lconst 0, 1) := by decide +kernel
theorem dX8_gives_79 : decode cX8_gives 79 = .ok (.lstore 6, 2) := by decide +kernel
theorem dX8_gives_81 : decode cX8_gives 81 = .ok (.iinc 8 1, 3) := by decide +kernel
theorem dX8_gives_84 : decode cX8_gives 84 = .ok (.goto (-58), 3) := by decide +kernel
theorem dX8_gives_87 : decode cX8_gives 87 = .ok (.return_, 1) := by decide +kernel
theorem dX8_lowestThatGets_0 : decode cX8_lowestThatGets 0 = .ok (.iconst (-1), 1) := by decide +kernel
theorem dX8_lowestThatGets_1 : decode cX8_lowestThatGets 1 = .ok (.istore_n 1, 1) := by decide +kernel
theorem dX8_lowestThatGets_2 : decode cX8_lowestThatGets 2 = .ok (.aload_n 0, 1) := by decide +kernel
theorem dX8_lowestThatGets_3 : decode cX8_lowestThatGets 3 = .ok (.getfield 145, 3) := by decide +kernel
theorem dX8_lowestThatGets_6 : decode cX8_lowestThatGets 6 = .ok (.iconst 1, 1) := by decide +kernel
theorem dX8_lowestThatGets_7 : decode cX8_lowestThatGets 7 = .ok (.isub, 1) := by decide +kernel
theorem dX8_lowestThatGets_8 : decode cX8_lowestThatGets 8 = .ok (.istore_n 2, 1) := by decide +kernel
theorem dX8_lowestThatGets_9 : decode cX8_lowestThatGets 9 = .ok (.iload_n 2, 1) := by decide +kernel
theorem dX8_lowestThatGets_10 : decode cX8_lowestThatGets 10 = .ok (.ifCond .lt 24, 3) := by decide +kernel
theorem dX8_lowestThatGets_13 : decode cX8_lowestThatGets 13 = .ok (.aload_n 0, 1) := by decide +kernel
theorem dX8_lowestThatGets_14 : decode cX8_lowestThatGets 14 = .ok (.getfield 127, 3) := by decide +kernel
theorem dX8_lowestThatGets_17 : decode cX8_lowestThatGets 17 = .ok (.iload_n 2, 1) := by decide +kernel
theorem dX8_lowestThatGets_18 : decode cX8_lowestThatGets 18 = .ok (.baload, 1) := by decide +kernel
theorem dX8_lowestThatGets_19 : decode cX8_lowestThatGets 19 = .ok (.ifCond .eq 7, 3) := by decide +kernel
theorem dX8_lowestThatGets_22 : decode cX8_lowestThatGets 22 = .ok (.iload_n 2, 1) := by decide +kernel
theorem dX8_lowestThatGets_23 : decode cX8_lowestThatGets 23 = .ok (.goto 4, 3) := by decide +kernel
theorem dX8_lowestThatGets_26 : decode cX8_lowestThatGets 26 = .ok (.iload_n 1, 1) := by decide +kernel
theorem dX8_lowestThatGets_27 : decode cX8_lowestThatGets 27 = .ok (.istore_n 1, 1) := by decide +kernel
theorem dX8_lowestThatGets_28 : decode cX8_lowestThatGets 28 = .ok (.iinc 2 (-1), 3) := by decide +kernel
theorem dX8_lowestThatGets_31 : decode cX8_lowestThatGets 31 = .ok (.goto (-22), 3) := by decide +kernel
theorem dX8_lowestThatGets_34 : decode cX8_lowestThatGets 34 = .ok (.iload_n 1, 1) := by decide +kernel
theorem dX8_lowestThatGets_35 : decode cX8_lowestThatGets 35 = .ok (.ireturn, 1) := by decide +kernel
theorem dX8_isBarred_0 : decode cX8_isBarred 0 = .ok (.iload_n 3, 1) := by decide +kernel
theorem dX8_isBarred_1 : decode cX8_isBarred 1 = .ok (.ifCond .eq 28, 3) := by decide +kernel
theorem dX8_isBarred_4 : decode cX8_isBarred 4 = .ok (.aload_n 0, 1) := by decide +kernel
theorem dX8_isBarred_5 : decode cX8_isBarred 5 = .ok (.iload_n 1, 1) := by decide +kernel
theorem dX8_isBarred_6 : decode cX8_isBarred 6 = .ok (.aload_n 0, 1) := by decide +kernel
theorem dX8_isBarred_7 : decode cX8_isBarred 7 = .ok (.getfield 154, 3) := by decide +kernel
theorem dX8_isBarred_10 : decode cX8_isBarred 10 = .ok (.invokevirtual 188, 3) := by decide +kernel
theorem dX8_isBarred_13 : decode cX8_isBarred 13 = .ok (.aload_n 0, 1) := by decide +kernel
theorem dX8_isBarred_14 : decode cX8_isBarred 14 = .ok (.iload_n 2, 1) := by decide +kernel
theorem dX8_isBarred_15 : decode cX8_isBarred 15 = .ok (.aload_n 0, 1) := by decide +kernel
theorem dX8_isBarred_16 : decode cX8_isBarred 16 = .ok (.getfield 154, 3) := by decide +kernel
theorem dX8_isBarred_19 : decode cX8_isBarred 19 = .ok (.invokevirtual 188, 3) := by decide +kernel
theorem dX8_isBarred_22 : decode cX8_isBarred 22 = .ok (.if_icmp .eq 7, 3) := by decide +kernel
theorem dX8_isBarred_25 : decode cX8_isBarred 25 = .ok (.iconst 1, 1) := by decide +kernel
theorem dX8_isBarred_26 : decode cX8_isBarred 26 = .ok (.goto 4, 3) := by decide +kernel
theorem dX8_isBarred_29 : decode cX8_isBarred 29 = .ok (.iconst 0, 1) := by decide +kernel
theorem dX8_isBarred_30 : decode cX8_isBarred 30 = .ok (.ireturn, 1) := by decide +kernel
theorem dX8_findsWidows_0 : decode cX8_findsWidows 0 = .ok (.iconst 0, 1) := by decide +kernel
theorem dX8_findsWidows_1 : decode cX8_findsWidows 1 = .ok (.istore_n 3, 1) := by decide +kernel
theorem dX8_findsWidows_2 : decode cX8_findsWidows 2 = .ok (.iload_n 3, 1) := by decide +kernel
theorem dX8_findsWidows_3 : decode cX8_findsWidows 3 = .ok (.aload_n 0, 1) := by decide +kernel
theorem dX8_findsWidows_4 : decode cX8_findsWidows 4 = .ok (.getfield 145, 3) := by decide +kernel
theorem dX8_findsWidows_7 : decode cX8_findsWidows 7 = .ok (.if_icmp .ge 16, 3) := by decide +kernel
theorem dX8_findsWidows_10 : decode cX8_findsWidows 10 = .ok (.aload_n 0, 1) := by decide +kernel
theorem dX8_findsWidows_11 : decode cX8_findsWidows 11 = .ok (.getfield 127, 3) := by decide +kernel
theorem dX8_findsWidows_14 : decode cX8_findsWidows 14 = .ok (.iload_n 3, 1) := by decide +kernel
theorem dX8_findsWidows_15 : decode cX8_findsWidows 15 = .ok (.iconst 0, 1) := by decide +kernel
theorem dX8_findsWidows_16 : decode cX8_findsWidows 16 = .ok (.bastore, 1) := by decide +kernel
theorem dX8_findsWidows_17 : decode cX8_findsWidows 17 = .ok (.iinc 3 1, 3) := by decide +kernel
theorem dX8_findsWidows_20 : decode cX8_findsWidows 20 = .ok (.goto (-18), 3) := by decide +kernel
theorem dX8_findsWidows_23 : decode cX8_findsWidows 23 = .ok (.iconst 0, 1) := by decide +kernel
theorem dX8_findsWidows_24 : decode cX8_findsWidows 24 = .ok (.istore_n 3, 1) := by decide +kernel
theorem dX8_findsWidows_25 : decode cX8_findsWidows 25 = .ok (.iload_n 3, 1) := by decide +kernel
theorem dX8_findsWidows_26 : decode cX8_findsWidows 26 = .ok (.aload_n 0, 1) := by decide +kernel
theorem dX8_findsWidows_27 : decode cX8_findsWidows 27 = .ok (.getfield 148, 3) := by decide +kernel
theorem dX8_findsWidows_30 : decode cX8_findsWidows 30 = .ok (.if_icmp .ge 110, 3) := by decide +kernel
theorem dX8_findsWidows_33 : decode cX8_findsWidows 33 = .ok (.aload_n 0, 1) := by decide +kernel
theorem dX8_findsWidows_34 : decode cX8_findsWidows 34 = .ok (.getfield 70, 3) := by decide +kernel
theorem dX8_findsWidows_37 : decode cX8_findsWidows 37 = .ok (.iload_n 3, 1) := by decide +kernel
theorem dX8_findsWidows_38 : decode cX8_findsWidows 38 = .ok (.iaload, 1) := by decide +kernel
theorem dX8_findsWidows_39 : decode cX8_findsWidows 39 = .ok (.iload_n 1, 1) := by decide +kernel
theorem dX8_findsWidows_40 : decode cX8_findsWidows 40 = .ok (.if_icmp .ne 12, 3) := by decide +kernel
theorem dX8_findsWidows_43 : decode cX8_findsWidows 43 = .ok (.aload_n 0, 1) := by decide +kernel
theorem dX8_findsWidows_44 : decode cX8_findsWidows 44 = .ok (.getfield 73, 3) := by decide +kernel
theorem dX8_findsWidows_47 : decode cX8_findsWidows 47 = .ok (.iload_n 3, 1) := by decide +kernel
theorem dX8_findsWidows_48 : decode cX8_findsWidows 48 = .ok (.iaload, 1) := by decide +kernel
theorem dX8_findsWidows_49 : decode cX8_findsWidows 49 = .ok (.goto 9, 3) := by decide +kernel
theorem dX8_findsWidows_52 : decode cX8_findsWidows 52 = .ok (.aload_n 0, 1) := by decide +kernel
theorem dX8_findsWidows_53 : decode cX8_findsWidows 53 = .ok (.getfield 70, 3) := by decide +kernel
theorem dX8_findsWidows_56 : decode cX8_findsWidows 56 = .ok (.iload_n 3, 1) := by decide +kernel
theorem dX8_findsWidows_57 : decode cX8_findsWidows 57 = .ok (.iaload, 1) := by decide +kernel
theorem dX8_findsWidows_58 : decode cX8_findsWidows 58 = .ok (.istore 4, 2) := by decide +kernel
theorem dX8_findsWidows_60 : decode cX8_findsWidows 60 = .ok (.aload_n 0, 1) := by decide +kernel
theorem dX8_findsWidows_61 : decode cX8_findsWidows 61 = .ok (.getfield 76, 3) := by decide +kernel
theorem dX8_findsWidows_64 : decode cX8_findsWidows 64 = .ok (.iload_n 3, 1) := by decide +kernel
theorem dX8_findsWidows_65 : decode cX8_findsWidows 65 = .ok (.iaload, 1) := by decide +kernel
theorem dX8_findsWidows_66 : decode cX8_findsWidows 66 = .ok (.ifCond .ne 38, 3) := by decide +kernel
theorem dX8_findsWidows_69 : decode cX8_findsWidows 69 = .ok (.aload_n 0, 1) := by decide +kernel
theorem dX8_findsWidows_70 : decode cX8_findsWidows 70 = .ok (.getfield 70, 3) := by decide +kernel
theorem dX8_findsWidows_73 : decode cX8_findsWidows 73 = .ok (.iload_n 3, 1) := by decide +kernel
theorem dX8_findsWidows_74 : decode cX8_findsWidows 74 = .ok (.iaload, 1) := by decide +kernel
theorem dX8_findsWidows_75 : decode cX8_findsWidows 75 = .ok (.iload_n 1, 1) := by decide +kernel
theorem dX8_findsWidows_76 : decode cX8_findsWidows 76 = .ok (.if_icmp .eq 13, 3) := by decide +kernel
theorem dX8_findsWidows_79 : decode cX8_findsWidows 79 = .ok (.aload_n 0, 1) := by decide +kernel
theorem dX8_findsWidows_80 : decode cX8_findsWidows 80 = .ok (.getfield 73, 3) := by decide +kernel
theorem dX8_findsWidows_83 : decode cX8_findsWidows 83 = .ok (.iload_n 3, 1) := by decide +kernel
theorem dX8_findsWidows_84 : decode cX8_findsWidows 84 = .ok (.iaload, 1) := by decide +kernel
theorem dX8_findsWidows_85 : decode cX8_findsWidows 85 = .ok (.iload_n 1, 1) := by decide +kernel
theorem dX8_findsWidows_86 : decode cX8_findsWidows 86 = .ok (.if_icmp .ne 18, 3) := by decide +kernel
theorem dX8_findsWidows_89 : decode cX8_findsWidows 89 = .ok (.aload_n 0, 1) := by decide +kernel
theorem dX8_findsWidows_90 : decode cX8_findsWidows 90 = .ok (.iload 4, 2) := by decide +kernel
theorem dX8_findsWidows_92 : decode cX8_findsWidows 92 = .ok (.iload_n 1, 1) := by decide +kernel
theorem dX8_findsWidows_93 : decode cX8_findsWidows 93 = .ok (.iload_n 2, 1) := by decide +kernel
theorem dX8_findsWidows_94 : decode cX8_findsWidows 94 = .ok (.invokevirtual 235, 3) := by decide +kernel
theorem dX8_findsWidows_97 : decode cX8_findsWidows 97 = .ok (.ifCond .ne 7, 3) := by decide +kernel
theorem dX8_findsWidows_100 : decode cX8_findsWidows 100 = .ok (.iconst 1, 1) := by decide +kernel
theorem dX8_findsWidows_101 : decode cX8_findsWidows 101 = .ok (.goto 4, 3) := by decide +kernel
theorem dX8_findsWidows_104 : decode cX8_findsWidows 104 = .ok (.iconst 0, 1) := by decide +kernel
theorem dX8_findsWidows_105 : decode cX8_findsWidows 105 = .ok (.istore 5, 2) := by decide +kernel
theorem dX8_findsWidows_107 : decode cX8_findsWidows 107 = .ok (.aload_n 0, 1) := by decide +kernel
theorem dX8_findsWidows_108 : decode cX8_findsWidows 108 = .ok (.getfield 127, 3) := by decide +kernel
theorem dX8_findsWidows_111 : decode cX8_findsWidows 111 = .ok (.iload 4, 2) := by decide +kernel
theorem dX8_findsWidows_113 : decode cX8_findsWidows 113 = .ok (.aload_n 0, 1) := by decide +kernel
theorem dX8_findsWidows_114 : decode cX8_findsWidows 114 = .ok (.getfield 127, 3) := by decide +kernel
theorem dX8_findsWidows_117 : decode cX8_findsWidows 117 = .ok (.iload 4, 2) := by decide +kernel
theorem dX8_findsWidows_119 : decode cX8_findsWidows 119 = .ok (.baload, 1) := by decide +kernel
theorem dX8_findsWidows_120 : decode cX8_findsWidows 120 = .ok (.ifCond .ne 8, 3) := by decide +kernel
theorem dX8_findsWidows_123 : decode cX8_findsWidows 123 = .ok (.iload 5, 2) := by decide +kernel
theorem dX8_findsWidows_125 : decode cX8_findsWidows 125 = .ok (.ifCond .eq 7, 3) := by decide +kernel
theorem dX8_findsWidows_128 : decode cX8_findsWidows 128 = .ok (.iconst 1, 1) := by decide +kernel
theorem dX8_findsWidows_129 : decode cX8_findsWidows 129 = .ok (.goto 4, 3) := by decide +kernel
theorem dX8_findsWidows_132 : decode cX8_findsWidows 132 = .ok (.iconst 0, 1) := by decide +kernel
theorem dX8_findsWidows_133 : decode cX8_findsWidows 133 = .ok (.bastore, 1) := by decide +kernel
theorem dX8_findsWidows_134 : decode cX8_findsWidows 134 = .ok (.iinc 3 1, 3) := by decide +kernel
theorem dX8_findsWidows_137 : decode cX8_findsWidows 137 = .ok (.goto (-112), 3) := by decide +kernel
theorem dX8_findsWidows_140 : decode cX8_findsWidows 140 = .ok (.return_, 1) := by decide +kernel
theorem dX8_dies_0 : decode cX8_dies 0 = .ok (.aload_n 0, 1) := by decide +kernel
theorem dX8_dies_1 : decode cX8_dies 1 = .ok (.iload_n 1, 1) := by decide +kernel
theorem dX8_dies_2 : decode cX8_dies 2 = .ok (.invokevirtual 191, 3) := by decide +kernel
theorem dX8_dies_5 : decode cX8_dies 5 = .ok (.istore_n 2, 1) := by decide +kernel
theorem dX8_dies_6 : decode cX8_dies 6 = .ok (.aload_n 0, 1) := by decide +kernel
theorem dX8_dies_7 : decode cX8_dies 7 = .ok (.iload_n 2, 1) := by decide +kernel
theorem dX8_dies_8 : decode cX8_dies 8 = .ok (.ifCond .ne 7, 3) := by decide +kernel
theorem dX8_dies_11 : decode cX8_dies 11 = .ok (.iconst 1, 1) := by decide +kernel
theorem dX8_dies_12 : decode cX8_dies 12 = .ok (.goto 17, 3) := by decide +kernel
theorem dX8_dies_15 : decode cX8_dies 15 = .ok (.aload_n 0, 1) := by decide +kernel
theorem dX8_dies_16 : decode cX8_dies 16 = .ok (.getfield 47, 3) := by decide +kernel
theorem dX8_dies_19 : decode cX8_dies 19 = .ok (.iload_n 1, 1) := by decide +kernel
theorem dX8_dies_20 : decode cX8_dies 20 = .ok (.baload, 1) := by decide +kernel
theorem dX8_dies_21 : decode cX8_dies 21 = .ok (.ifCond .eq 7, 3) := by decide +kernel
theorem dX8_dies_24 : decode cX8_dies 24 = .ok (.iconst 2, 1) := by decide +kernel
theorem dX8_dies_25 : decode cX8_dies 25 = .ok (.goto 4, 3) := by decide +kernel
theorem dX8_dies_28 : decode cX8_dies 28 = .ok (.iconst 0, 1) := by decide +kernel
theorem dX8_dies_29 : decode cX8_dies 29 = .ok (.invokevirtual 157, 3) := by decide +kernel
theorem dX8_dies_32 : decode cX8_dies 32 = .ok (.ifCond .ne 5, 3) := by decide +kernel
theorem dX8_dies_35 : decode cX8_dies 35 = .ok (.lconst 0, 1) := by decide +kernel
theorem dX8_dies_36 : decode cX8_dies 36 = .ok (.lreturn, 1) := by decide +kernel
theorem dX8_dies_37 : decode cX8_dies 37 = .ok (.aload_n 0, 1) := by decide +kernel
theorem dX8_dies_38 : decode cX8_dies 38 = .ok (.iconst 2, 1) := by decide +kernel
theorem dX8_dies_39 : decode cX8_dies 39 = .ok (.iload_n 1, 1) := by decide +kernel
theorem dX8_dies_40 : decode cX8_dies 40 = .ok (.iload_n 1, 1) := by decide +kernel
theorem dX8_dies_41 : decode cX8_dies 41 = .ok (.aload_n 0, 1) := by decide +kernel
theorem dX8_dies_42 : decode cX8_dies 42 = .ok (.getfield 154, 3) := by decide +kernel
theorem dX8_dies_45 : decode cX8_dies 45 = .ok (.invokevirtual 194, 3) := by decide +kernel
theorem dX8_dies_48 : decode cX8_dies 48 = .ok (.istore_n 3, 1) := by decide +kernel
theorem dX8_dies_49 : decode cX8_dies 49 = .ok (.aload_n 0, 1) := by decide +kernel
theorem dX8_dies_50 : decode cX8_dies 50 = .ok (.iload_n 3, 1) := by decide +kernel
theorem dX8_dies_51 : decode cX8_dies 51 = .ok (.iconst 5, 1) := by decide +kernel
theorem dX8_dies_52 : decode cX8_dies 52 = .ok (.aload_n 0, 1) := by decide +kernel
theorem dX8_dies_53 : decode cX8_dies 53 = .ok (.getfield 154, 3) := by decide +kernel
theorem dX8_dies_56 : decode cX8_dies 56 = .ok (.invokevirtual 177, 3) := by decide +kernel
theorem dX8_dies_59 : decode cX8_dies 59 = .ok (.iconst 1, 1) := by decide +kernel
theorem dX8_dies_60 : decode cX8_dies 60 = .ok (.if_icmp .ne 7, 3) := by decide +kernel
theorem dX8_dies_63 : decode cX8_dies 63 = .ok (.iconst 1, 1) := by decide +kernel
theorem dX8_dies_64 : decode cX8_dies 64 = .ok (.goto 4, 3) := by decide +kernel
theorem dX8_dies_67 : decode cX8_dies 67 = .ok (.iconst 0, 1) := by decide +kernel
theorem dX8_dies_68 : decode cX8_dies 68 = .ok (.istore 4, 2) := by decide +kernel
theorem dX8_dies_70 : decode cX8_dies 70 = .ok (.aload_n 0, 1) := by decide +kernel
theorem dX8_dies_71 : decode cX8_dies 71 = .ok (.iload_n 3, 1) := by decide +kernel
theorem dX8_dies_72 : decode cX8_dies 72 = .ok (.iconst 0, 1) := by decide +kernel
theorem dX8_dies_73 : decode cX8_dies 73 = .ok (.aload_n 0, 1) := by decide +kernel
theorem dX8_dies_74 : decode cX8_dies 74 = .ok (.getfield 154, 3) := by decide +kernel
theorem dX8_dies_77 : decode cX8_dies 77 = .ok (.invokevirtual 177, 3) := by decide +kernel
theorem dX8_dies_80 : decode cX8_dies 80 = .ok (.istore 5, 2) := by decide +kernel
theorem dX8_dies_82 : decode cX8_dies 82 = .ok (.aload_n 0, 1) := by decide +kernel
theorem dX8_dies_83 : decode cX8_dies 83 = .ok (.getfield 47, 3) := by decide +kernel
theorem dX8_dies_86 : decode cX8_dies 86 = .ok (.iload_n 1, 1) := by decide +kernel
theorem dX8_dies_87 : decode cX8_dies 87 = .ok (.iconst 1, 1) := by decide +kernel
theorem dX8_dies_88 : decode cX8_dies 88 = .ok (.bastore, 1) := by decide +kernel
theorem dX8_dies_89 : decode cX8_dies 89 = .ok (.aload_n 0, 1) := by decide +kernel
theorem dX8_dies_90 : decode cX8_dies 90 = .ok (.iload_n 1, 1) := by decide +kernel
theorem dX8_dies_91 : decode cX8_dies 91 = .ok (.invokevirtual 211, 3) := by decide +kernel
theorem dX8_dies_94 : decode cX8_dies 94 = .ok (.aload_n 0, 1) := by decide +kernel
theorem dX8_dies_95 : decode cX8_dies 95 = .ok (.iload_n 1, 1) := by decide +kernel
theorem dX8_dies_96 : decode cX8_dies 96 = .ok (.iload 4, 2) := by decide +kernel
theorem dX8_dies_98 : decode cX8_dies 98 = .ok (.invokevirtual 239, 3) := by decide +kernel
theorem dX8_dies_101 : decode cX8_dies 101 = .ok (.iconst 0, 1) := by decide +kernel
theorem dX8_dies_102 : decode cX8_dies 102 = .ok (.istore 6, 2) := by decide +kernel
theorem dX8_dies_104 : decode cX8_dies 104 = .ok (.iload 6, 2) := by decide +kernel
theorem dX8_dies_106 : decode cX8_dies 106 = .ok (.aload_n 0, 1) := by decide +kernel
theorem dX8_dies_107 : decode cX8_dies 107 = .ok (.getfield 148, 3) := by decide +kernel
theorem dX8_dies_110 : decode cX8_dies 110 = .ok (.if_icmp .ge 74, 3) := by decide +kernel
theorem dX8_dies_113 : decode cX8_dies 113 = .ok (.aload_n 0, 1) := by decide +kernel
theorem dX8_dies_114 : decode cX8_dies 114 = .ok (.getfield 76, 3) := by decide +kernel
theorem dX8_dies_117 : decode cX8_dies 117 = .ok (.iload 6, 2) := by decide +kernel
theorem dX8_dies_119 : decode cX8_dies 119 = .ok (.iaload, 1) := by decide +kernel
theorem dX8_dies_120 : decode cX8_dies 120 = .ok (.ifCond .ne 58, 3) := by decide +kernel
theorem dX8_dies_123 : decode cX8_dies 123 = .ok (.aload_n 0, 1) := by decide +kernel
theorem dX8_dies_124 : decode cX8_dies 124 = .ok (.getfield 70, 3) := by decide +kernel
theorem dX8_dies_127 : decode cX8_dies 127 = .ok (.iload 6, 2) := by decide +kernel
theorem dX8_dies_129 : decode cX8_dies 129 = .ok (.iaload, 1) := by decide +kernel
theorem dX8_dies_130 : decode cX8_dies 130 = .ok (.iload_n 1, 1) := by decide +kernel
theorem dX8_dies_131 : decode cX8_dies 131 = .ok (.if_icmp .eq 14, 3) := by decide +kernel
theorem dX8_dies_134 : decode cX8_dies 134 = .ok (.aload_n 0, 1) := by decide +kernel
theorem dX8_dies_135 : decode cX8_dies 135 = .ok (.getfield 73, 3) := by decide +kernel
theorem dX8_dies_138 : decode cX8_dies 138 = .ok (.iload 6, 2) := by decide +kernel
theorem dX8_dies_140 : decode cX8_dies 140 = .ok (.iaload, 1) := by decide +kernel
theorem dX8_dies_141 : decode cX8_dies 141 = .ok (.iload_n 1, 1) := by decide +kernel
theorem dX8_dies_142 : decode cX8_dies 142 = .ok (.if_icmp .ne 36, 3) := by decide +kernel
theorem dX8_dies_145 : decode cX8_dies 145 = .ok (.aload_n 0, 1) := by decide +kernel
theorem dX8_dies_146 : decode cX8_dies 146 = .ok (.getfield 76, 3) := by decide +kernel
theorem dX8_dies_149 : decode cX8_dies 149 = .ok (.iload 6, 2) := by decide +kernel
theorem dX8_dies_151 : decode cX8_dies 151 = .ok (.iconst 2, 1) := by decide +kernel
theorem dX8_dies_152 : decode cX8_dies 152 = .ok (.iastore, 1) := by decide +kernel
theorem dX8_dies_153 : decode cX8_dies 153 = .ok (.aload_n 0, 1) := by decide +kernel
theorem dX8_dies_154 : decode cX8_dies 154 = .ok (.getfield 70, 3) := by decide +kernel
theorem dX8_dies_157 : decode cX8_dies 157 = .ok (.iload 6, 2) := by decide +kernel
theorem dX8_dies_159 : decode cX8_dies 159 = .ok (.iaload, 1) := by decide +kernel
theorem dX8_dies_160 : decode cX8_dies 160 = .ok (.iload_n 1, 1) := by decide +kernel
theorem dX8_dies_161 : decode cX8_dies 161 = .ok (.if_icmp .ne 9, 3) := by decide +kernel
theorem dX8_dies_164 : decode cX8_dies 164 = .ok (.aload_n 0, 1) := by decide +kernel
theorem dX8_dies_165 : decode cX8_dies 165 = .ok (.iload 6, 2) := by decide +kernel
theorem dX8_dies_167 : decode cX8_dies 167 = .ok (.invokevirtual 229, 3) := by decide +kernel
theorem dX8_dies_170 : decode cX8_dies 170 = .ok (.aload_n 0, 1) := by decide +kernel
theorem dX8_dies_171 : decode cX8_dies 171 = .ok (.getfield 79, 3) := by decide +kernel
theorem dX8_dies_174 : decode cX8_dies 174 = .ok (.iload 6, 2) := by decide +kernel
theorem dX8_dies_176 : decode cX8_dies 176 = .ok (.iconst 0, 1) := by decide +kernel
theorem dX8_dies_177 : decode cX8_dies 177 = .ok (.iastore, 1) := by decide +kernel
theorem dX8_dies_178 : decode cX8_dies 178 = .ok (.iinc 6 1, 3) := by decide +kernel
theorem dX8_dies_181 : decode cX8_dies 181 = .ok (.goto (-77), 3) := by decide +kernel
theorem dX8_dies_184 : decode cX8_dies 184 = .ok (.aload_n 0, 1) := by decide +kernel
theorem dX8_dies_185 : decode cX8_dies 185 = .ok (.getfield 50, 3) := by decide +kernel
theorem dX8_dies_188 : decode cX8_dies 188 = .ok (.iload_n 1, 1) := by decide +kernel
theorem dX8_dies_189 : decode cX8_dies 189 = .ok (.laload, 1) := by decide +kernel
theorem dX8_dies_190 : decode cX8_dies 190 = .ok (.lstore 6, 2) := by decide +kernel
theorem dX8_dies_192 : decode cX8_dies 192 = .ok (.aload_n 0, 1) := by decide +kernel
theorem dX8_dies_193 : decode cX8_dies 193 = .ok (.getfield 50, 3) := by decide +kernel
theorem dX8_dies_196 : decode cX8_dies 196 = .ok (.iload_n 1, 1) := by decide +kernel
theorem dX8_dies_197 : decode cX8_dies 197 = .ok (.lconst 0, 1) := by decide +kernel
theorem dX8_dies_198 : decode cX8_dies 198 = .ok (.lastore, 1) := by decide +kernel
theorem dX8_dies_199 : decode cX8_dies 199 = .ok (.aload_n 0, 1) := by decide +kernel
theorem dX8_dies_200 : decode cX8_dies 200 = .ok (.iconst 1, 1) := by decide +kernel
theorem dX8_dies_201 : decode cX8_dies 201 = .ok (.invokevirtual 232, 3) := by decide +kernel
theorem dX8_dies_204 : decode cX8_dies 204 = .ok (.ifCond .le 37, 3) := by decide +kernel
theorem dX8_dies_207 : decode cX8_dies 207 = .ok (.lload 6, 2) := by decide +kernel
theorem dX8_dies_209 : decode cX8_dies 209 = .ok (.aload_n 0, 1) := by decide +kernel
theorem dX8_dies_210 : decode cX8_dies 210 = .ok (.iload_n 3, 1) := by decide +kernel
theorem dX8_dies_211 : decode cX8_dies 211 = .ok (.iconst 3, 1) := by decide +kernel
theorem dX8_dies_212 : decode cX8_dies 212 = .ok (.aload_n 0, 1) := by decide +kernel
theorem dX8_dies_213 : decode cX8_dies 213 = .ok (.getfield 154, 3) := by decide +kernel
theorem dX8_dies_216 : decode cX8_dies 216 = .ok (.invokevirtual 177, 3) := by decide +kernel
theorem dX8_dies_219 : decode cX8_dies 219 = .ok (.i2l, 1) := by decide +kernel
theorem dX8_dies_220 : decode cX8_dies 220 = .ok (.lmul, 1) := by decide +kernel
theorem dX8_dies_221 : decode cX8_dies 221 = .ok (.ldc2_w 242, 3) := by decide +kernel
theorem dX8_dies_224 : decode cX8_dies 224 = .ok (.ldiv, 1) := by decide +kernel
theorem dX8_dies_225 : decode cX8_dies 225 = .ok (.lstore 8, 2) := by decide +kernel
theorem dX8_dies_227 : decode cX8_dies 227 = .ok (.aload_n 0, 1) := by decide +kernel
theorem dX8_dies_228 : decode cX8_dies 228 = .ok (.lload 8, 2) := by decide +kernel
theorem dX8_dies_230 : decode cX8_dies 230 = .ok (.iconst 1, 1) := by decide +kernel
theorem dX8_dies_231 : decode cX8_dies 231 = .ok (.invokevirtual 244, 3) := by decide +kernel
theorem dX8_dies_234 : decode cX8_dies 234 = .ok (.lload 6, 2) := by decide +kernel
theorem dX8_dies_236 : decode cX8_dies 236 = .ok (.lload 8, 2) := by decide +kernel
theorem dX8_dies_238 : decode cX8_dies 238 = .ok (.lsub, 1) := by decide +kernel
theorem dX8_dies_239 : decode cX8_dies 239 = .ok (.lstore 6, 2) := by decide +kernel
theorem dX8_dies_241 : decode cX8_dies 241 = .ok (.iconst 0, 1) := by decide +kernel
theorem dX8_dies_242 : decode cX8_dies 242 = .ok (.istore 8, 2) := by decide +kernel
theorem dX8_dies_244 : decode cX8_dies 244 = .ok (.iload 8, 2) := by decide +kernel
theorem dX8_dies_246 : decode cX8_dies 246 = .ok (.aload_n 0, 1) := by decide +kernel
theorem dX8_dies_247 : decode cX8_dies 247 = .ok (.getfield 145, 3) := by decide +kernel
theorem dX8_dies_250 : decode cX8_dies 250 = .ok (.if_icmp .ge 53, 3) := by decide +kernel
theorem dX8_dies_253 : decode cX8_dies 253 = .ok (.aload_n 0, 1) := by decide +kernel
theorem dX8_dies_254 : decode cX8_dies 254 = .ok (.getfield 127, 3) := by decide +kernel
theorem dX8_dies_257 : decode cX8_dies 257 = .ok (.iload 8, 2) := by decide +kernel
theorem dX8_dies_259 : decode cX8_dies 259 = .ok (.aload_n 0, 1) := by decide +kernel
theorem dX8_dies_260 : decode cX8_dies 260 = .ok (.iload 8, 2) := by decide +kernel
theorem dX8_dies_262 : decode cX8_dies 262 = .ok (.iload_n 1, 1) := by decide +kernel
theorem dX8_dies_263 : decode cX8_dies 263 = .ok (.invokevirtual 248, 3) := by decide +kernel
theorem dX8_dies_266 : decode cX8_dies 266 = .ok (.ifCond .eq 29, 3) := by decide +kernel
theorem dX8_dies_269 : decode cX8_dies 269 = .ok (.aload_n 0, 1) := by decide +kernel
theorem dX8_dies_270 : decode cX8_dies 270 = .ok (.getfield 47, 3) := by decide +kernel
theorem dX8_dies_273 : decode cX8_dies 273 = .ok (.iload 8, 2) := by decide +kernel
theorem dX8_dies_275 : decode cX8_dies 275 = .ok (.baload, 1) := by decide +kernel
theorem dX8_dies_276 : decode cX8_dies 276 = .ok (.ifCond .ne 19, 3) := by decide +kernel
theorem dX8_dies_279 : decode cX8_dies 279 = .ok (.aload_n 0, 1) := by decide +kernel
theorem dX8_dies_280 : decode cX8_dies 280 = .ok (.iload 8, 2) := by decide +kernel
theorem dX8_dies_282 : decode cX8_dies 282 = .ok (.iload_n 1, 1) := by decide +kernel
theorem dX8_dies_283 : decode cX8_dies 283 = .ok (.iload 4, 2) := by decide +kernel
theorem dX8_dies_285 : decode cX8_dies 285 = .ok (.invokevirtual 235, 3) := by decide +kernel
theorem dX8_dies_288 : decode cX8_dies 288 = .ok (.ifCond .ne 7, 3) := by decide +kernel
theorem dX8_dies_291 : decode cX8_dies 291 = .ok (.iconst 1, 1) := by decide +kernel
theorem dX8_dies_292 : decode cX8_dies 292 = .ok (.goto 4, 3) := by decide +kernel
theorem dX8_dies_295 : decode cX8_dies 295 = .ok (.iconst 0, 1) := by decide +kernel
theorem dX8_dies_296 : decode cX8_dies 296 = .ok (.bastore, 1) := by decide +kernel
theorem dX8_dies_297 : decode cX8_dies 297 = .ok (.iinc 8 1, 3) := by decide +kernel
theorem dX8_dies_300 : decode cX8_dies 300 = .ok (.goto (-56), 3) := by decide +kernel
theorem dX8_dies_303 : decode cX8_dies 303 = .ok (.aload_n 0, 1) := by decide +kernel
theorem dX8_dies_304 : decode cX8_dies 304 = .ok (.invokevirtual 251, 3) := by decide +kernel
theorem dX8_dies_307 : decode cX8_dies 307 = .ok (.istore 8, 2) := by decide +kernel
theorem dX8_dies_309 : decode cX8_dies 309 = .ok (.iload 8, 2) := by decide +kernel
theorem dX8_dies_311 : decode cX8_dies 311 = .ok (.iconst (-1), 1) := by decide +kernel
theorem dX8_dies_312 : decode cX8_dies 312 = .ok (.if_icmp .ne 17, 3) := by decide +kernel
theorem dX8_dies_315 : decode cX8_dies 315 = .ok (.aload_n 0, 1) := by decide +kernel
theorem dX8_dies_316 : decode cX8_dies 316 = .ok (.dup, 1) := by decide +kernel
theorem dX8_dies_317 : decode cX8_dies 317 = .ok (.getfield 255, 3) := by decide +kernel
theorem dX8_dies_320 : decode cX8_dies 320 = .ok (.lload 6, 2) := by decide +kernel
theorem dX8_dies_322 : decode cX8_dies 322 = .ok (.ladd, 1) := by decide +kernel
theorem dX8_dies_323 : decode cX8_dies 323 = .ok (.putfield 255, 3) := by decide +kernel
theorem dX8_dies_326 : decode cX8_dies 326 = .ok (.lload 6, 2) := by decide +kernel
theorem dX8_dies_328 : decode cX8_dies 328 = .ok (.lreturn, 1) := by decide +kernel
theorem dX8_dies_329 : decode cX8_dies 329 = .ok (.iconst 0, 1) := by decide +kernel
theorem dX8_dies_330 : decode cX8_dies 330 = .ok (.istore 9, 2) := by decide +kernel
theorem dX8_dies_332 : decode cX8_dies 332 = .ok (.iload 9, 2) := by decide +kernel
theorem dX8_dies_334 : decode cX8_dies 334 = .ok (.aload_n 0, 1) := by decide +kernel
theorem dX8_dies_335 : decode cX8_dies 335 = .ok (.getfield 145, 3) := by decide +kernel
theorem dX8_dies_338 : decode cX8_dies 338 = .ok (.if_icmp .ge 34, 3) := by decide +kernel
theorem dX8_dies_341 : decode cX8_dies 341 = .ok (.iload 5, 2) := by decide +kernel
theorem dX8_dies_343 : decode cX8_dies 343 = .ok (.iconst 2, 1) := by decide +kernel
theorem dX8_dies_344 : decode cX8_dies 344 = .ok (.if_icmp .ne 28, 3) := by decide +kernel
theorem dX8_dies_347 : decode cX8_dies 347 = .ok (.aload_n 0, 1) := by decide +kernel
theorem dX8_dies_348 : decode cX8_dies 348 = .ok (.getfield 127, 3) := by decide +kernel
theorem dX8_dies_351 : decode cX8_dies 351 = .ok (.iload 9, 2) := by decide +kernel
theorem dX8_dies_353 : decode cX8_dies 353 = .ok (.iload 9, 2) := by decide +kernel
theorem dX8_dies_355 : decode cX8_dies 355 = .ok (.iload 8, 2) := by decide +kernel
theorem dX8_dies_357 : decode cX8_dies 357 = .ok (.if_icmp .ne 7, 3) := by decide +kernel
theorem dX8_dies_360 : decode cX8_dies 360 = .ok (.iconst 1, 1) := by decide +kernel
theorem dX8_dies_361 : decode cX8_dies 361 = .ok (.goto 4, 3) := by decide +kernel
theorem dX8_dies_364 : decode cX8_dies 364 = .ok (.iconst 0, 1) := by decide +kernel
theorem dX8_dies_365 : decode cX8_dies 365 = .ok (.bastore, 1) := by decide +kernel
theorem dX8_dies_366 : decode cX8_dies 366 = .ok (.iinc 9 1, 3) := by decide +kernel
theorem dX8_dies_369 : decode cX8_dies 369 = .ok (.goto (-37), 3) := by decide +kernel
theorem dX8_dies_372 : decode cX8_dies 372 = .ok (.aload_n 0, 1) := by decide +kernel
theorem dX8_dies_373 : decode cX8_dies 373 = .ok (.lload 6, 2) := by decide +kernel
theorem dX8_dies_375 : decode cX8_dies 375 = .ok (.iload 5, 2) := by decide +kernel
theorem dX8_dies_377 : decode cX8_dies 377 = .ok (.iconst 1, 1) := by decide +kernel
theorem dX8_dies_378 : decode cX8_dies 378 = .ok (.if_icmp .ne 7, 3) := by decide +kernel
theorem dX8_dies_381 : decode cX8_dies 381 = .ok (.iconst 2, 1) := by decide +kernel
theorem dX8_dies_382 : decode cX8_dies 382 = .ok (.goto 4, 3) := by decide +kernel
theorem dX8_dies_385 : decode cX8_dies 385 = .ok (.iconst 1, 1) := by decide +kernel
theorem dX8_dies_386 : decode cX8_dies 386 = .ok (.invokevirtual 244, 3) := by decide +kernel
theorem dX8_dies_389 : decode cX8_dies 389 = .ok (.lconst 0, 1) := by decide +kernel
theorem dX8_dies_390 : decode cX8_dies 390 = .ok (.lreturn, 1) := by decide +kernel
theorem dX8_sue_0 : decode cX8_sue 0 = .ok (.aload_n 0, 1) := by decide +kernel
theorem dX8_sue_1 : decode cX8_sue 1 = .ok (.iload_n 1, 1) := by decide +kernel
theorem dX8_sue_2 : decode cX8_sue 2 = .ok (.invokevirtual 191, 3) := by decide +kernel
theorem dX8_sue_5 : decode cX8_sue 5 = .ok (.ifCond .eq 23, 3) := by decide +kernel
theorem dX8_sue_8 : decode cX8_sue 8 = .ok (.aload_n 0, 1) := by decide +kernel
theorem dX8_sue_9 : decode cX8_sue 9 = .ok (.iload_n 2, 1) := by decide +kernel
theorem dX8_sue_10 : decode cX8_sue 10 = .ok (.invokevirtual 191, 3) := by decide +kernel
theorem dX8_sue_13 : decode cX8_sue 13 = .ok (.ifCond .eq 15, 3) := by decide +kernel
theorem dX8_sue_16 : decode cX8_sue 16 = .ok (.aload_n 0, 1) := by decide +kernel
theorem dX8_sue_17 : decode cX8_sue 17 = .ok (.iload_n 3, 1) := by decide +kernel
theorem dX8_sue_18 : decode cX8_sue 18 = .ok (.invokevirtual 174, 3) := by decide +kernel
theorem dX8_sue_21 : decode cX8_sue 21 = .ok (.ifCond .eq 7, 3) := by decide +kernel
theorem dX8_sue_24 : decode cX8_sue 24 = .ok (.iconst 1, 1) := by decide +kernel
theorem dX8_sue_25 : decode cX8_sue 25 = .ok (.goto 4, 3) := by decide +kernel
theorem dX8_sue_28 : decode cX8_sue 28 = .ok (.iconst 0, 1) := by decide +kernel
theorem dX8_sue_29 : decode cX8_sue 29 = .ok (.istore 5, 2) := by decide +kernel
theorem dX8_sue_31 : decode cX8_sue 31 = .ok (.iload_n 1, 1) := by decide +kernel
theorem dX8_sue_32 : decode cX8_sue 32 = .ok (.iload_n 2, 1) := by decide +kernel
theorem dX8_sue_33 : decode cX8_sue 33 = .ok (.if_icmp .eq 18, 3) := by decide +kernel
theorem dX8_sue_36 : decode cX8_sue 36 = .ok (.iload 4, 2) := by decide +kernel
theorem dX8_sue_38 : decode cX8_sue 38 = .ok (.iconst 1, 1) := by decide +kernel
theorem dX8_sue_39 : decode cX8_sue 39 = .ok (.ldc 222, 2) := by decide +kernel
theorem dX8_sue_41 : decode cX8_sue 41 = .ok (.invokestatic 137, 3) := by decide +kernel
theorem dX8_sue_44 : decode cX8_sue 44 = .ok (.ifCond .eq 7, 3) := by decide +kernel
theorem dX8_sue_47 : decode cX8_sue 47 = .ok (.iconst 1, 1) := by decide +kernel
theorem dX8_sue_48 : decode cX8_sue 48 = .ok (.goto 4, 3) := by decide +kernel
theorem dX8_sue_51 : decode cX8_sue 51 = .ok (.iconst 0, 1) := by decide +kernel
theorem dX8_sue_52 : decode cX8_sue 52 = .ok (.istore 6, 2) := by decide +kernel
theorem dX8_sue_54 : decode cX8_sue 54 = .ok (.aload_n 0, 1) := by decide +kernel
theorem dX8_sue_55 : decode cX8_sue 55 = .ok (.iload 5, 2) := by decide +kernel
theorem dX8_sue_57 : decode cX8_sue 57 = .ok (.ifCond .ne 7, 3) := by decide +kernel
theorem dX8_sue_60 : decode cX8_sue 60 = .ok (.iconst 1, 1) := by decide +kernel
theorem dX8_sue_61 : decode cX8_sue 61 = .ok (.goto 44, 3) := by decide +kernel
theorem dX8_sue_64 : decode cX8_sue 64 = .ok (.iload 6, 2) := by decide +kernel
theorem dX8_sue_66 : decode cX8_sue 66 = .ok (.ifCond .ne 7, 3) := by decide +kernel
theorem dX8_sue_69 : decode cX8_sue 69 = .ok (.iconst 2, 1) := by decide +kernel
theorem dX8_sue_70 : decode cX8_sue 70 = .ok (.goto 35, 3) := by decide +kernel
theorem dX8_sue_73 : decode cX8_sue 73 = .ok (.aload_n 0, 1) := by decide +kernel
theorem dX8_sue_74 : decode cX8_sue 74 = .ok (.getfield 47, 3) := by decide +kernel
theorem dX8_sue_77 : decode cX8_sue 77 = .ok (.iload_n 1, 1) := by decide +kernel
theorem dX8_sue_78 : decode cX8_sue 78 = .ok (.baload, 1) := by decide +kernel
theorem dX8_sue_79 : decode cX8_sue 79 = .ok (.ifCond .ne 21, 3) := by decide +kernel
theorem dX8_sue_82 : decode cX8_sue 82 = .ok (.aload_n 0, 1) := by decide +kernel
theorem dX8_sue_83 : decode cX8_sue 83 = .ok (.getfield 47, 3) := by decide +kernel
theorem dX8_sue_86 : decode cX8_sue 86 = .ok (.iload_n 2, 1) := by decide +kernel
theorem dX8_sue_87 : decode cX8_sue 87 = .ok (.baload, 1) := by decide +kernel
theorem dX8_sue_88 : decode cX8_sue 88 = .ok (.ifCond .ne 12, 3) := by decide +kernel
theorem dX8_sue_91 : decode cX8_sue 91 = .ok (.aload_n 0, 1) := by decide +kernel
theorem dX8_sue_92 : decode cX8_sue 92 = .ok (.getfield 151, 3) := by decide +kernel
theorem dX8_sue_95 : decode cX8_sue 95 = .ok (.bipush 20, 2) := by decide +kernel
theorem dX8_sue_97 : decode cX8_sue 97 = .ok (.if_icmp .ne 7, 3) := by decide +kernel
theorem dX8_sue_100 : decode cX8_sue 100 = .ok (.iconst 3, 1) := by decide +kernel
theorem dX8_sue_101 : decode cX8_sue 101 = .ok (.goto 4, 3) := by decide +kernel
theorem dX8_sue_104 : decode cX8_sue 104 = .ok (.iconst 0, 1) := by decide +kernel
theorem dX8_sue_105 : decode cX8_sue 105 = .ok (.invokevirtual 157, 3) := by decide +kernel
theorem dX8_sue_108 : decode cX8_sue 108 = .ok (.ifCond .ne 5, 3) := by decide +kernel
theorem dX8_sue_111 : decode cX8_sue 111 = .ok (.iconst 0, 1) := by decide +kernel
theorem dX8_sue_112 : decode cX8_sue 112 = .ok (.ireturn, 1) := by decide +kernel
theorem dX8_sue_113 : decode cX8_sue 113 = .ok (.iconst 0, 1) := by decide +kernel
theorem dX8_sue_114 : decode cX8_sue 114 = .ok (.istore 7, 2) := by decide +kernel
theorem dX8_sue_116 : decode cX8_sue 116 = .ok (.iconst 0, 1) := by decide +kernel
theorem dX8_sue_117 : decode cX8_sue 117 = .ok (.istore 8, 2) := by decide +kernel
theorem dX8_sue_119 : decode cX8_sue 119 = .ok (.iload 8, 2) := by decide +kernel
theorem dX8_sue_121 : decode cX8_sue 121 = .ok (.aload_n 0, 1) := by decide +kernel
theorem dX8_sue_122 : decode cX8_sue 122 = .ok (.getfield 151, 3) := by decide +kernel
theorem dX8_sue_125 : decode cX8_sue 125 = .ok (.if_icmp .ge 87, 3) := by decide +kernel
theorem dX8_sue_128 : decode cX8_sue 128 = .ok (.aload_n 0, 1) := by decide +kernel
theorem dX8_sue_129 : decode cX8_sue 129 = .ok (.getfield 91, 3) := by decide +kernel
theorem dX8_sue_132 : decode cX8_sue 132 = .ok (.iload 8, 2) := by decide +kernel
theorem dX8_sue_134 : decode cX8_sue 134 = .ok (.iaload, 1) := by decide +kernel
theorem dX8_sue_135 : decode cX8_sue 135 = .ok (.iload_n 1, 1) := by decide +kernel
theorem dX8_sue_136 : decode cX8_sue 136 = .ok (.if_icmp .ne 14, 3) := by decide +kernel
theorem dX8_sue_139 : decode cX8_sue 139 = .ok (.aload_n 0, 1) := by decide +kernel
theorem dX8_sue_140 : decode cX8_sue 140 = .ok (.getfield 94, 3) := by decide +kernel
theorem dX8_sue_143 : decode cX8_sue 143 = .ok (.iload 8, 2) := by decide +kernel
theorem dX8_sue_145 : decode cX8_sue 145 = .ok (.iaload, 1) := by decide +kernel
theorem dX8_sue_146 : decode cX8_sue 146 = .ok (.iload_n 2, 1) := by decide +kernel
theorem dX8_sue_147 : decode cX8_sue 147 = .ok (.if_icmp .eq 25, 3) := by decide +kernel
theorem dX8_sue_150 : decode cX8_sue 150 = .ok (.aload_n 0, 1) := by decide +kernel
theorem dX8_sue_151 : decode cX8_sue 151 = .ok (.getfield 91, 3) := by decide +kernel
theorem dX8_sue_154 : decode cX8_sue 154 = .ok (.iload 8, 2) := by decide +kernel
theorem dX8_sue_156 : decode cX8_sue 156 = .ok (.iaload, 1) := by decide +kernel
theorem dX8_sue_157 : decode cX8_sue 157 = .ok (.iload_n 2, 1) := by decide +kernel
theorem dX8_sue_158 : decode cX8_sue 158 = .ok (.if_icmp .ne 18, 3) := by decide +kernel
theorem dX8_sue_161 : decode cX8_sue 161 = .ok (.aload_n 0, 1) := by decide +kernel
theorem dX8_sue_162 : decode cX8_sue 162 = .ok (.getfield 94, 3) := by decide +kernel
theorem dX8_sue_165 : decode cX8_sue 165 = .ok (.iload 8, 2) := by decide +kernel
theorem dX8_sue_167 : decode cX8_sue 167 = .ok (.iaload, 1) := by decide +kernel
theorem dX8_sue_168 : decode cX8_sue 168 = .ok (.iload_n 1, 1) := by decide +kernel
theorem dX8_sue_169 : decode cX8_sue 169 = .ok (.if_icmp .ne 7, 3) := by decide +kernel
theorem dX8_sue_172 : decode cX8_sue 172 = .ok (.iconst 1, 1) := by decide +kernel
theorem dX8_sue_173 : decode cX8_sue 173 = .ok (.goto 4, 3) := by decide +kernel
theorem dX8_sue_176 : decode cX8_sue 176 = .ok (.iconst 0, 1) := by decide +kernel
theorem dX8_sue_177 : decode cX8_sue 177 = .ok (.istore 9, 2) := by decide +kernel
theorem dX8_sue_179 : decode cX8_sue 179 = .ok (.iload 7, 2) := by decide +kernel
theorem dX8_sue_181 : decode cX8_sue 181 = .ok (.ifCond .ne 18, 3) := by decide +kernel
theorem dX8_sue_184 : decode cX8_sue 184 = .ok (.iload 9, 2) := by decide +kernel
theorem dX8_sue_186 : decode cX8_sue 186 = .ok (.ifCond .eq 17, 3) := by decide +kernel
theorem dX8_sue_189 : decode cX8_sue 189 = .ok (.aload_n 0, 1) := by decide +kernel
theorem dX8_sue_190 : decode cX8_sue 190 = .ok (.getfield 106, 3) := by decide +kernel
theorem dX8_sue_193 : decode cX8_sue 193 = .ok (.iload 8, 2) := by decide +kernel
theorem dX8_sue_195 : decode cX8_sue 195 = .ok (.iaload, 1) := by decide +kernel
theorem dX8_sue_196 : decode cX8_sue 196 = .ok (.ifCond .ne 7, 3) := by decide +kernel
theorem dX8_sue_199 : decode cX8_sue 199 = .ok (.iconst 1, 1) := by decide +kernel
theorem dX8_sue_200 : decode cX8_sue 200 = .ok (.goto 4, 3) := by decide +kernel
theorem dX8_sue_203 : decode cX8_sue 203 = .ok (.iconst 0, 1) := by decide +kernel
theorem dX8_sue_204 : decode cX8_sue 204 = .ok (.istore 7, 2) := by decide +kernel
theorem dX8_sue_206 : decode cX8_sue 206 = .ok (.iinc 8 1, 3) := by decide +kernel
theorem dX8_sue_209 : decode cX8_sue 209 = .ok (.goto (-90), 3) := by decide +kernel
theorem dX8_sue_212 : decode cX8_sue 212 = .ok (.aload_n 0, 1) := by decide +kernel
theorem dX8_sue_213 : decode cX8_sue 213 = .ok (.getfield 91, 3) := by decide +kernel
theorem dX8_sue_216 : decode cX8_sue 216 = .ok (.aload_n 0, 1) := by decide +kernel
theorem dX8_sue_217 : decode cX8_sue 217 = .ok (.getfield 151, 3) := by decide +kernel
theorem dX8_sue_220 : decode cX8_sue 220 = .ok (.iload_n 1, 1) := by decide +kernel
theorem dX8_sue_221 : decode cX8_sue 221 = .ok (.iastore, 1) := by decide +kernel
theorem dX8_sue_222 : decode cX8_sue 222 = .ok (.aload_n 0, 1) := by decide +kernel
theorem dX8_sue_223 : decode cX8_sue 223 = .ok (.getfield 94, 3) := by decide +kernel
theorem dX8_sue_226 : decode cX8_sue 226 = .ok (.aload_n 0, 1) := by decide +kernel
theorem dX8_sue_227 : decode cX8_sue 227 = .ok (.getfield 151, 3) := by decide +kernel
theorem dX8_sue_230 : decode cX8_sue 230 = .ok (.iload_n 2, 1) := by decide +kernel
theorem dX8_sue_231 : decode cX8_sue 231 = .ok (.iastore, 1) := by decide +kernel
theorem dX8_sue_232 : decode cX8_sue 232 = .ok (.aload_n 0, 1) := by decide +kernel
theorem dX8_sue_233 : decode cX8_sue 233 = .ok (.getfield 97, 3) := by decide +kernel
theorem dX8_sue_236 : decode cX8_sue 236 = .ok (.aload_n 0, 1) := by decide +kernel
theorem dX8_sue_237 : decode cX8_sue 237 = .ok (.getfield 151, 3) := by decide +kernel
theorem dX8_sue_240 : decode cX8_sue 240 = .ok (.iload_n 3, 1) := by decide +kernel
theorem dX8_sue_241 : decode cX8_sue 241 = .ok (.iastore, 1) := by decide +kernel
theorem dX8_sue_242 : decode cX8_sue 242 = .ok (.aload_n 0, 1) := by decide +kernel
theorem dX8_sue_243 : decode cX8_sue 243 = .ok (.getfield 100, 3) := by decide +kernel
theorem dX8_sue_246 : decode cX8_sue 246 = .ok (.aload_n 0, 1) := by decide +kernel
theorem dX8_sue_247 : decode cX8_sue 247 = .ok (.getfield 151, 3) := by decide +kernel
theorem dX8_sue_250 : decode cX8_sue 250 = .ok (.iload 4, 2) := by decide +kernel
theorem dX8_sue_252 : decode cX8_sue 252 = .ok (.iastore, 1) := by decide +kernel
theorem dX8_sue_253 : decode cX8_sue 253 = .ok (.aload_n 0, 1) := by decide +kernel
theorem dX8_sue_254 : decode cX8_sue 254 = .ok (.getfield 103, 3) := by decide +kernel
theorem dX8_sue_257 : decode cX8_sue 257 = .ok (.aload_n 0, 1) := by decide +kernel
theorem dX8_sue_258 : decode cX8_sue 258 = .ok (.getfield 151, 3) := by decide +kernel
theorem dX8_sue_261 : decode cX8_sue 261 = .ok (.aload_n 0, 1) := by decide +kernel
theorem dX8_sue_262 : decode cX8_sue 262 = .ok (.iconst 3, 1) := by decide +kernel
theorem dX8_sue_263 : decode cX8_sue 263 = .ok (.iload_n 1, 1) := by decide +kernel
theorem dX8_sue_264 : decode cX8_sue 264 = .ok (.iload_n 2, 1) := by decide +kernel
theorem dX8_sue_265 : decode cX8_sue 265 = .ok (.aload_n 0, 1) := by decide +kernel
theorem dX8_sue_266 : decode cX8_sue 266 = .ok (.getfield 154, 3) := by decide +kernel
theorem dX8_sue_269 : decode cX8_sue 269 = .ok (.invokevirtual 194, 3) := by decide +kernel
theorem dX8_sue_272 : decode cX8_sue 272 = .ok (.iload_n 3, 1) := by decide +kernel
theorem dX8_sue_273 : decode cX8_sue 273 = .ok (.if_icmp .ne 7, 3) := by decide +kernel
theorem dX8_sue_276 : decode cX8_sue 276 = .ok (.iconst 1, 1) := by decide +kernel
theorem dX8_sue_277 : decode cX8_sue 277 = .ok (.goto 4, 3) := by decide +kernel
theorem dX8_sue_280 : decode cX8_sue 280 = .ok (.iconst 0, 1) := by decide +kernel
theorem dX8_sue_281 : decode cX8_sue 281 = .ok (.bastore, 1) := by decide +kernel
theorem dX8_sue_282 : decode cX8_sue 282 = .ok (.aload_n 0, 1) := by decide +kernel
theorem dX8_sue_283 : decode cX8_sue 283 = .ok (.getfield 106, 3) := by decide +kernel
theorem dX8_sue_286 : decode cX8_sue 286 = .ok (.aload_n 0, 1) := by decide +kernel
theorem dX8_sue_287 : decode cX8_sue 287 = .ok (.getfield 151, 3) := by decide +kernel
theorem dX8_sue_290 : decode cX8_sue 290 = .ok (.iload 7, 2) := by decide +kernel
theorem dX8_sue_292 : decode cX8_sue 292 = .ok (.ifCond .eq 7, 3) := by decide +kernel
theorem dX8_sue_295 : decode cX8_sue 295 = .ok (.iconst 1, 1) := by decide +kernel
theorem dX8_sue_296 : decode cX8_sue 296 = .ok (.goto 4, 3) := by decide +kernel
theorem dX8_sue_299 : decode cX8_sue 299 = .ok (.iconst 0, 1) := by decide +kernel
theorem dX8_sue_300 : decode cX8_sue 300 = .ok (.iastore, 1) := by decide +kernel
theorem dX8_sue_301 : decode cX8_sue 301 = .ok (.aload_n 0, 1) := by decide +kernel
theorem dX8_sue_302 : decode cX8_sue 302 = .ok (.getfield 121, 3) := by decide +kernel
theorem dX8_sue_305 : decode cX8_sue 305 = .ok (.aload_n 0, 1) := by decide +kernel
theorem dX8_sue_306 : decode cX8_sue 306 = .ok (.getfield 151, 3) := by decide +kernel
theorem dX8_sue_309 : decode cX8_sue 309 = .ok (.iconst (-1), 1) := by decide +kernel
theorem dX8_sue_310 : decode cX8_sue 310 = .ok (.iastore, 1) := by decide +kernel
theorem dX8_sue_311 : decode cX8_sue 311 = .ok (.aload_n 0, 1) := by decide +kernel
theorem dX8_sue_312 : decode cX8_sue 312 = .ok (.dup, 1) := by decide +kernel
theorem dX8_sue_313 : decode cX8_sue 313 = .ok (.getfield 151, 3) := by decide +kernel
theorem dX8_sue_316 : decode cX8_sue 316 = .ok (.iconst 1, 1) := by decide +kernel
theorem dX8_sue_317 : decode cX8_sue 317 = .ok (.iadd, 1) := by decide +kernel
theorem dX8_sue_318 : decode cX8_sue 318 = .ok (.putfield 151, 3) := by decide +kernel
theorem dX8_sue_321 : decode cX8_sue 321 = .ok (.aload_n 0, 1) := by decide +kernel
theorem dX8_sue_322 : decode cX8_sue 322 = .ok (.getfield 151, 3) := by decide +kernel
theorem dX8_sue_325 : decode cX8_sue 325 = .ok (.iconst 1, 1) := by decide +kernel
theorem dX8_sue_326 : decode cX8_sue 326 = .ok (.isub, 1) := by decide +kernel
theorem dX8_sue_327 : decode cX8_sue 327 = .ok (.ireturn, 1) := by decide +kernel
theorem dX8_canJudge_0 : decode cX8_canJudge 0 = .ok (.aload_n 0, 1) := by decide +kernel
theorem dX8_canJudge_1 : decode cX8_canJudge 1 = .ok (.getfield 109, 3) := by decide +kernel
theorem dX8_canJudge_4 : decode cX8_canJudge 4 = .ok (.iload_n 1, 1) := by decide +kernel
theorem dX8_canJudge_5 : decode cX8_canJudge 5 = .ok (.baload, 1) := by decide +kernel
theorem dX8_canJudge_6 : decode cX8_canJudge 6 = .ok (.ifCond .ne 12, 3) := by decide +kernel
theorem dX8_canJudge_9 : decode cX8_canJudge 9 = .ok (.aload_n 0, 1) := by decide +kernel
theorem dX8_canJudge_10 : decode cX8_canJudge 10 = .ok (.getfield 103, 3) := by decide +kernel
theorem dX8_canJudge_13 : decode cX8_canJudge 13 = .ok (.iload_n 1, 1) := by decide +kernel
theorem dX8_canJudge_14 : decode cX8_canJudge 14 = .ok (.baload, 1) := by decide +kernel
theorem dX8_canJudge_15 : decode cX8_canJudge 15 = .ok (.ifCond .eq 7, 3) := by decide +kernel
theorem dX8_canJudge_18 : decode cX8_canJudge 18 = .ok (.iconst 1, 1) := by decide +kernel
theorem dX8_canJudge_19 : decode cX8_canJudge 19 = .ok (.goto 4, 3) := by decide +kernel
theorem dX8_canJudge_22 : decode cX8_canJudge 22 = .ok (.iconst 0, 1) := by decide +kernel
theorem dX8_canJudge_23 : decode cX8_canJudge 23 = .ok (.ireturn, 1) := by decide +kernel
theorem dX8_appear_0 : decode cX8_appear 0 = .ok (.aload_n 0, 1) := by decide +kernel
theorem dX8_appear_1 : decode cX8_appear 1 = .ok (.iload_n 1, 1) := by decide +kernel
theorem dX8_appear_2 : decode cX8_appear 2 = .ok (.invokevirtual 259, 3) := by decide +kernel
theorem dX8_appear_5 : decode cX8_appear 5 = .ok (.istore_n 2, 1) := by decide +kernel
theorem dX8_appear_6 : decode cX8_appear 6 = .ok (.aload_n 0, 1) := by decide +kernel
theorem dX8_appear_7 : decode cX8_appear 7 = .ok (.iload_n 2, 1) := by decide +kernel
theorem dX8_appear_8 : decode cX8_appear 8 = .ok (.ifCond .ne 7, 3) := by decide +kernel
theorem dX8_appear_11 : decode cX8_appear 11 = .ok (.iconst 1, 1) := by decide +kernel
theorem dX8_appear_12 : decode cX8_appear 12 = .ok (.goto 31, 3) := by decide +kernel
theorem dX8_appear_15 : decode cX8_appear 15 = .ok (.aload_n 0, 1) := by decide +kernel
theorem dX8_appear_16 : decode cX8_appear 16 = .ok (.getfield 106, 3) := by decide +kernel
theorem dX8_appear_19 : decode cX8_appear 19 = .ok (.iload_n 1, 1) := by decide +kernel
theorem dX8_appear_20 : decode cX8_appear 20 = .ok (.iaload, 1) := by decide +kernel
theorem dX8_appear_21 : decode cX8_appear 21 = .ok (.ifCond .ne 17, 3) := by decide +kernel
theorem dX8_appear_24 : decode cX8_appear 24 = .ok (.aload_n 0, 1) := by decide +kernel
theorem dX8_appear_25 : decode cX8_appear 25 = .ok (.getfield 47, 3) := by decide +kernel
theorem dX8_appear_28 : decode cX8_appear 28 = .ok (.aload_n 0, 1) := by decide +kernel
theorem dX8_appear_29 : decode cX8_appear 29 = .ok (.getfield 94, 3) := by decide +kernel
theorem dX8_appear_32 : decode cX8_appear 32 = .ok (.iload_n 1, 1) := by decide +kernel
theorem dX8_appear_33 : decode cX8_appear 33 = .ok (.iaload, 1) := by decide +kernel
theorem dX8_appear_34 : decode cX8_appear 34 = .ok (.baload, 1) := by decide +kernel
theorem dX8_appear_35 : decode cX8_appear 35 = .ok (.ifCond .eq 7, 3) := by decide +kernel
theorem dX8_appear_38 : decode cX8_appear 38 = .ok (.iconst 2, 1) := by decide +kernel
theorem dX8_appear_39 : decode cX8_appear 39 = .ok (.goto 4, 3) := by decide +kernel
theorem dX8_appear_42 : decode cX8_appear 42 = .ok (.iconst 0, 1) := by decide +kernel
theorem dX8_appear_43 : decode cX8_appear 43 = .ok (.invokevirtual 157, 3) := by decide +kernel
theorem dX8_appear_46 : decode cX8_appear 46 = .ok (.ifCond .ne 5, 3) := by decide +kernel
theorem dX8_appear_49 : decode cX8_appear 49 = .ok (.iconst 0, 1) := by decide +kernel
theorem dX8_appear_50 : decode cX8_appear 50 = .ok (.ireturn, 1) := by decide +kernel
theorem dX8_appear_51 : decode cX8_appear 51 = .ok (.aload_n 0, 1) := by decide +kernel
theorem dX8_appear_52 : decode cX8_appear 52 = .ok (.iload_n 1, 1) := by decide +kernel
theorem dX8_appear_53 : decode cX8_appear 53 = .ok (.invokevirtual 262, 3) := by decide +kernel
theorem dX8_appear_56 : decode cX8_appear 56 = .ok (.istore_n 3, 1) := by decide +kernel
theorem dX8_appear_57 : decode cX8_appear 57 = .ok (.aload_n 0, 1) := by decide +kernel
theorem dX8_appear_58 : decode cX8_appear 58 = .ok (.getfield 109, 3) := by decide +kernel
theorem dX8_appear_61 : decode cX8_appear 61 = .ok (.iload_n 1, 1) := by decide +kernel
theorem dX8_appear_62 : decode cX8_appear 62 = .ok (.iconst 1, 1) := by decide +kernel
theorem dX8_appear_63 : decode cX8_appear 63 = .ok (.bastore, 1) := by decide +kernel
theorem dX8_appear_64 : decode cX8_appear 64 = .ok (.iload_n 3, 1) := by decide +kernel
theorem dX8_appear_65 : decode cX8_appear 65 = .ok (.ifCond .ne 7, 3) := by decide +kernel
theorem dX8_appear_68 : decode cX8_appear 68 = .ok (.iconst 1, 1) := by decide +kernel
theorem dX8_appear_69 : decode cX8_appear 69 = .ok (.goto 4, 3) := by decide +kernel
theorem dX8_appear_72 : decode cX8_appear 72 = .ok (.iconst 0, 1) := by decide +kernel
theorem dX8_appear_73 : decode cX8_appear 73 = .ok (.ireturn, 1) := by decide +kernel
theorem dX8_heard_0 : decode cX8_heard 0 = .ok (.iconst 0, 1) := by decide +kernel
theorem dX8_heard_1 : decode cX8_heard 1 = .ok (.istore_n 2, 1) := by decide +kernel
theorem dX8_heard_2 : decode cX8_heard 2 = .ok (.bipush 40, 2) := by decide +kernel
theorem dX8_heard_4 : decode cX8_heard 4 = .ok (.iload_n 1, 1) := by decide +kernel
theorem dX8_heard_5 : decode cX8_heard 5 = .ok (.imul, 1) := by decide +kernel
theorem dX8_heard_6 : decode cX8_heard 6 = .ok (.istore_n 3, 1) := by decide +kernel
theorem dX8_heard_7 : decode cX8_heard 7 = .ok (.iload_n 3, 1) := by decide +kernel
theorem dX8_heard_8 : decode cX8_heard 8 = .ok (.bipush 40, 2) := by decide +kernel
theorem dX8_heard_10 : decode cX8_heard 10 = .ok (.iload_n 1, 1) := by decide +kernel
theorem dX8_heard_11 : decode cX8_heard 11 = .ok (.iconst 1, 1) := by decide +kernel
theorem dX8_heard_12 : decode cX8_heard 12 = .ok (.iadd, 1) := by decide +kernel
theorem dX8_heard_13 : decode cX8_heard 13 = .ok (.imul, 1) := by decide +kernel
theorem dX8_heard_14 : decode cX8_heard 14 = .ok (.if_icmp .ge 26, 3) := by decide +kernel
theorem dX8_heard_17 : decode cX8_heard 17 = .ok (.iload_n 2, 1) := by decide +kernel
theorem dX8_heard_18 : decode cX8_heard 18 = .ok (.aload_n 0, 1) := by decide +kernel
theorem dX8_heard_19 : decode cX8_heard 19 = .ok (.getfield 112, 3) := by decide +kernel
theorem dX8_heard_22 : decode cX8_heard 22 = .ok (.iload_n 3, 1) := by decide +kernel
theorem dX8_heard_23 : decode cX8_heard 23 = .ok (.iaload, 1) := by decide +kernel
theorem dX8_heard_24 : decode cX8_heard 24 = .ok (.ifCond .eq 7, 3) := by decide +kernel
theorem dX8_heard_27 : decode cX8_heard 27 = .ok (.iconst 1, 1) := by decide +kernel
theorem dX8_heard_28 : decode cX8_heard 28 = .ok (.goto 4, 3) := by decide +kernel
theorem dX8_heard_31 : decode cX8_heard 31 = .ok (.iconst 0, 1) := by decide +kernel
theorem dX8_heard_32 : decode cX8_heard 32 = .ok (.iadd, 1) := by decide +kernel
theorem dX8_heard_33 : decode cX8_heard 33 = .ok (.istore_n 2, 1) := by decide +kernel
theorem dX8_heard_34 : decode cX8_heard 34 = .ok (.iinc 3 1, 3) := by decide +kernel
theorem dX8_heard_37 : decode cX8_heard 37 = .ok (.goto (-30), 3) := by decide +kernel
theorem dX8_heard_40 : decode cX8_heard 40 = .ok (.iload_n 2, 1) := by decide +kernel
theorem dX8_heard_41 : decode cX8_heard 41 = .ok (.ireturn, 1) := by decide +kernel
theorem dX8_canTestify_0 : decode cX8_canTestify 0 = .ok (.aload_n 0, 1) := by decide +kernel
theorem dX8_canTestify_1 : decode cX8_canTestify 1 = .ok (.getfield 106, 3) := by decide +kernel
theorem dX8_canTestify_4 : decode cX8_canTestify 4 = .ok (.iload_n 1, 1) := by decide +kernel
theorem dX8_canTestify_5 : decode cX8_canTestify 5 = .ok (.iaload, 1) := by decide +kernel
theorem dX8_canTestify_6 : decode cX8_canTestify 6 = .ok (.ifCond .ne 49, 3) := by decide +kernel
theorem dX8_canTestify_9 : decode cX8_canTestify 9 = .ok (.aload_n 0, 1) := by decide +kernel
theorem dX8_canTestify_10 : decode cX8_canTestify 10 = .ok (.iload_n 2, 1) := by decide +kernel
theorem dX8_canTestify_11 : decode cX8_canTestify 11 = .ok (.invokevirtual 205, 3) := by decide +kernel
theorem dX8_canTestify_14 : decode cX8_canTestify 14 = .ok (.ifCond .eq 41, 3) := by decide +kernel
theorem dX8_canTestify_17 : decode cX8_canTestify 17 = .ok (.aload_n 0, 1) := by decide +kernel
theorem dX8_canTestify_18 : decode cX8_canTestify 18 = .ok (.getfield 91, 3) := by decide +kernel
theorem dX8_canTestify_21 : decode cX8_canTestify 21 = .ok (.iload_n 1, 1) := by decide +kernel
theorem dX8_canTestify_22 : decode cX8_canTestify 22 = .ok (.iaload, 1) := by decide +kernel
theorem dX8_canTestify_23 : decode cX8_canTestify 23 = .ok (.iload_n 2, 1) := by decide +kernel
theorem dX8_canTestify_24 : decode cX8_canTestify 24 = .ok (.if_icmp .eq 31, 3) := by decide +kernel
theorem dX8_canTestify_27 : decode cX8_canTestify 27 = .ok (.aload_n 0, 1) := by decide +kernel
theorem dX8_canTestify_28 : decode cX8_canTestify 28 = .ok (.getfield 94, 3) := by decide +kernel
theorem dX8_canTestify_31 : decode cX8_canTestify 31 = .ok (.iload_n 1, 1) := by decide +kernel
theorem dX8_canTestify_32 : decode cX8_canTestify 32 = .ok (.iaload, 1) := by decide +kernel
theorem dX8_canTestify_33 : decode cX8_canTestify 33 = .ok (.iload_n 2, 1) := by decide +kernel
theorem dX8_canTestify_34 : decode cX8_canTestify 34 = .ok (.if_icmp .eq 21, 3) := by decide +kernel
theorem dX8_canTestify_37 : decode cX8_canTestify 37 = .ok (.aload_n 0, 1) := by decide +kernel
theorem dX8_canTestify_38 : decode cX8_canTestify 38 = .ok (.getfield 112, 3) := by decide +kernel
theorem dX8_canTestify_41 : decode cX8_canTestify 41 = .ok (.bipush 40, 2) := by decide +kernel
theorem dX8_canTestify_43 : decode cX8_canTestify 43 = .ok (.iload_n 1, 1) := by decide +kernel
theorem dX8_canTestify_44 : decode cX8_canTestify 44 = .ok (.imul, 1) := by decide +kernel
theorem dX8_canTestify_45 : decode cX8_canTestify 45 = .ok (.iload_n 2, 1) := by decide +kernel
theorem dX8_canTestify_46 : decode cX8_canTestify 46 = .ok (.iadd, 1) := by decide +kernel
theorem dX8_canTestify_47 : decode cX8_canTestify 47 = .ok (.iaload, 1) := by decide +kernel
theorem dX8_canTestify_48 : decode cX8_canTestify 48 = .ok (.ifCond .ne 7, 3) := by decide +kernel
theorem dX8_canTestify_51 : decode cX8_canTestify 51 = .ok (.iconst 1, 1) := by decide +kernel
theorem dX8_canTestify_52 : decode cX8_canTestify 52 = .ok (.goto 4, 3) := by decide +kernel
theorem dX8_canTestify_55 : decode cX8_canTestify 55 = .ok (.iconst 0, 1) := by decide +kernel
theorem dX8_canTestify_56 : decode cX8_canTestify 56 = .ok (.ireturn, 1) := by decide +kernel
theorem dX8_testify_0 : decode cX8_testify 0 = .ok (.aload_n 0, 1) := by decide +kernel
theorem dX8_testify_1 : decode cX8_testify 1 = .ok (.iload_n 1, 1) := by decide +kernel
theorem dX8_testify_2 : decode cX8_testify 2 = .ok (.invokevirtual 259, 3) := by decide +kernel
theorem dX8_testify_5 : decode cX8_testify 5 = .ok (.ifCond .eq 15, 3) := by decide +kernel
theorem dX8_testify_8 : decode cX8_testify 8 = .ok (.aload_n 0, 1) := by decide +kernel
theorem dX8_testify_9 : decode cX8_testify 9 = .ok (.iload_n 2, 1) := by decide +kernel
theorem dX8_testify_10 : decode cX8_testify 10 = .ok (.invokevirtual 191, 3) := by decide +kernel
theorem dX8_testify_13 : decode cX8_testify 13 = .ok (.ifCond .eq 7, 3) := by decide +kernel
theorem dX8_testify_16 : decode cX8_testify 16 = .ok (.iconst 1, 1) := by decide +kernel
theorem dX8_testify_17 : decode cX8_testify 17 = .ok (.goto 4, 3) := by decide +kernel
theorem dX8_testify_20 : decode cX8_testify 20 = .ok (.iconst 0, 1) := by decide +kernel
theorem dX8_testify_21 : decode cX8_testify 21 = .ok (.istore 4, 2) := by decide +kernel
theorem dX8_testify_23 : decode cX8_testify 23 = .ok (.aload_n 0, 1) := by decide +kernel
theorem dX8_testify_24 : decode cX8_testify 24 = .ok (.iload 4, 2) := by decide +kernel
theorem dX8_testify_26 : decode cX8_testify 26 = .ok (.ifCond .ne 7, 3) := by decide +kernel
theorem dX8_testify_29 : decode cX8_testify 29 = .ok (.iconst 1, 1) := by decide +kernel
theorem dX8_testify_30 : decode cX8_testify 30 = .ok (.goto 17, 3) := by decide +kernel
theorem dX8_testify_33 : decode cX8_testify 33 = .ok (.aload_n 0, 1) := by decide +kernel
theorem dX8_testify_34 : decode cX8_testify 34 = .ok (.iload_n 1, 1) := by decide +kernel
theorem dX8_testify_35 : decode cX8_testify 35 = .ok (.iload_n 2, 1) := by decide +kernel
theorem dX8_testify_36 : decode cX8_testify 36 = .ok (.invokevirtual 265, 3) := by decide +kernel
theorem dX8_testify_39 : decode cX8_testify 39 = .ok (.ifCond .eq 7, 3) := by decide +kernel
theorem dX8_testify_42 : decode cX8_testify 42 = .ok (.iconst 0, 1) := by decide +kernel
theorem dX8_testify_43 : decode cX8_testify 43 = .ok (.goto 4, 3) := by decide +kernel
theorem dX8_testify_46 : decode cX8_testify 46 = .ok (.iconst 2, 1) := by decide +kernel
theorem dX8_testify_47 : decode cX8_testify 47 = .ok (.invokevirtual 157, 3) := by decide +kernel
theorem dX8_testify_50 : decode cX8_testify 50 = .ok (.ifCond .ne 5, 3) := by decide +kernel
theorem dX8_testify_53 : decode cX8_testify 53 = .ok (.iconst 0, 1) := by decide +kernel
theorem dX8_testify_54 : decode cX8_testify 54 = .ok (.ireturn, 1) := by decide +kernel
theorem dX8_testify_55 : decode cX8_testify 55 = .ok (.aload_n 0, 1) := by decide +kernel
theorem dX8_testify_56 : decode cX8_testify 56 = .ok (.getfield 112, 3) := by decide +kernel
theorem dX8_testify_59 : decode cX8_testify 59 = .ok (.bipush 40, 2) := by decide +kernel
theorem dX8_testify_61 : decode cX8_testify 61 = .ok (.iload_n 1, 1) := by decide +kernel
theorem dX8_testify_62 : decode cX8_testify 62 = .ok (.imul, 1) := by decide +kernel
theorem dX8_testify_63 : decode cX8_testify 63 = .ok (.iload_n 2, 1) := by decide +kernel
theorem dX8_testify_64 : decode cX8_testify 64 = .ok (.iadd, 1) := by decide +kernel
theorem dX8_testify_65 : decode cX8_testify 65 = .ok (.iload_n 3, 1) := by decide +kernel
theorem dX8_testify_66 : decode cX8_testify 66 = .ok (.ifCond .eq 7, 3) := by decide +kernel
theorem dX8_testify_69 : decode cX8_testify 69 = .ok (.iconst 1, 1) := by decide +kernel
theorem dX8_testify_70 : decode cX8_testify 70 = .ok (.goto 4, 3) := by decide +kernel
theorem dX8_testify_73 : decode cX8_testify 73 = .ok (.iconst 2, 1) := by decide +kernel
theorem dX8_testify_74 : decode cX8_testify 74 = .ok (.iastore, 1) := by decide +kernel
theorem dX8_testify_75 : decode cX8_testify 75 = .ok (.aload_n 0, 1) := by decide +kernel
theorem dX8_testify_76 : decode cX8_testify 76 = .ok (.iload_n 1, 1) := by decide +kernel
theorem dX8_testify_77 : decode cX8_testify 77 = .ok (.invokevirtual 268, 3) := by decide +kernel
theorem dX8_testify_80 : decode cX8_testify 80 = .ok (.ireturn, 1) := by decide +kernel
theorem dX8_isWonAt_0 : decode cX8_isWonAt 0 = .ok (.aload_n 0, 1) := by decide +kernel
theorem dX8_isWonAt_1 : decode cX8_isWonAt 1 = .ok (.iload_n 2, 1) := by decide +kernel
theorem dX8_isWonAt_2 : decode cX8_isWonAt 2 = .ok (.bipush 6, 2) := by decide +kernel
theorem dX8_isWonAt_4 : decode cX8_isWonAt 4 = .ok (.aload_n 0, 1) := by decide +kernel
theorem dX8_isWonAt_5 : decode cX8_isWonAt 5 = .ok (.getfield 154, 3) := by decide +kernel
theorem dX8_isWonAt_8 : decode cX8_isWonAt 8 = .ok (.invokevirtual 177, 3) := by decide +kernel
theorem dX8_isWonAt_11 : decode cX8_isWonAt 11 = .ok (.istore_n 3, 1) := by decide +kernel
theorem dX8_isWonAt_12 : decode cX8_isWonAt 12 = .ok (.iconst 0, 1) := by decide +kernel
theorem dX8_isWonAt_13 : decode cX8_isWonAt 13 = .ok (.istore 4, 2) := by decide +kernel
theorem dX8_isWonAt_15 : decode cX8_isWonAt 15 = .ok (.iconst 0, 1) := by decide +kernel
theorem dX8_isWonAt_16 : decode cX8_isWonAt 16 = .ok (.istore 5, 2) := by decide +kernel
theorem dX8_isWonAt_18 : decode cX8_isWonAt 18 = .ok (.iconst 0, 1) := by decide +kernel
theorem dX8_isWonAt_19 : decode cX8_isWonAt 19 = .ok (.istore 6, 2) := by decide +kernel
theorem dX8_isWonAt_21 : decode cX8_isWonAt 21 = .ok (.iload 6, 2) := by decide +kernel
theorem dX8_isWonAt_23 : decode cX8_isWonAt 23 = .ok (.aload_n 0, 1) := by decide +kernel
theorem dX8_isWonAt_24 : decode cX8_isWonAt 24 = .ok (.getfield 145, 3) := by decide +kernel
theorem dX8_isWonAt_27 : decode cX8_isWonAt 27 = .ok (.if_icmp .ge 91, 3) := by decide +kernel
theorem dX8_isWonAt_30 : decode cX8_isWonAt 30 = .ok (.aload_n 0, 1) := by decide +kernel
theorem dX8_isWonAt_31 : decode cX8_isWonAt 31 = .ok (.getfield 112, 3) := by decide +kernel
theorem dX8_isWonAt_34 : decode cX8_isWonAt 34 = .ok (.bipush 40, 2) := by decide +kernel
theorem dX8_isWonAt_36 : decode cX8_isWonAt 36 = .ok (.iload_n 1, 1) := by decide +kernel
theorem dX8_isWonAt_37 : decode cX8_isWonAt 37 = .ok (.imul, 1) := by decide +kernel
theorem dX8_isWonAt_38 : decode cX8_isWonAt 38 = .ok (.iload 6, 2) := by decide +kernel
theorem dX8_isWonAt_40 : decode cX8_isWonAt 40 = .ok (.iadd, 1) := by decide +kernel
theorem dX8_isWonAt_41 : decode cX8_isWonAt 41 = .ok (.iaload, 1) := by decide +kernel
theorem dX8_isWonAt_42 : decode cX8_isWonAt 42 = .ok (.istore 7, 2) := by decide +kernel
theorem dX8_isWonAt_44 : decode cX8_isWonAt 44 = .ok (.iload 7, 2) := by decide +kernel
theorem dX8_isWonAt_46 : decode cX8_isWonAt 46 = .ok (.ifCond .ne 7, 3) := by decide +kernel
theorem dX8_isWonAt_49 : decode cX8_isWonAt 49 = .ok (.iconst 0, 1) := by decide +kernel
theorem dX8_isWonAt_50 : decode cX8_isWonAt 50 = .ok (.goto 26, 3) := by decide +kernel
theorem dX8_isWonAt_53 : decode cX8_isWonAt 53 = .ok (.iload_n 3, 1) := by decide +kernel
theorem dX8_isWonAt_54 : decode cX8_isWonAt 54 = .ok (.aload_n 0, 1) := by decide +kernel
theorem dX8_isWonAt_55 : decode cX8_isWonAt 55 = .ok (.iload 6, 2) := by decide +kernel
theorem dX8_isWonAt_57 : decode cX8_isWonAt 57 = .ok (.aload_n 0, 1) := by decide +kernel
theorem dX8_isWonAt_58 : decode cX8_isWonAt 58 = .ok (.getfield 154, 3) := by decide +kernel
theorem dX8_isWonAt_61 : decode cX8_isWonAt 61 = .ok (.invokevirtual 188, 3) := by decide +kernel
theorem dX8_isWonAt_64 : decode cX8_isWonAt 64 = .ok (.ishr, 1) := by decide +kernel
theorem dX8_isWonAt_65 : decode cX8_isWonAt 65 = .ok (.iconst 1, 1) := by decide +kernel
theorem dX8_isWonAt_66 : decode cX8_isWonAt 66 = .ok (.iand, 1) := by decide +kernel
theorem dX8_isWonAt_67 : decode cX8_isWonAt 67 = .ok (.iconst 1, 1) := by decide +kernel
theorem dX8_isWonAt_68 : decode cX8_isWonAt 68 = .ok (.if_icmp .ne 7, 3) := by decide +kernel
theorem dX8_isWonAt_71 : decode cX8_isWonAt 71 = .ok (.iconst 2, 1) := by decide +kernel
theorem dX8_isWonAt_72 : decode cX8_isWonAt 72 = .ok (.goto 4, 3) := by decide +kernel
theorem dX8_isWonAt_75 : decode cX8_isWonAt 75 = .ok (.iconst 1, 1) := by decide +kernel
theorem dX8_isWonAt_76 : decode cX8_isWonAt 76 = .ok (.istore 8, 2) := by decide +kernel
theorem dX8_isWonAt_78 : decode cX8_isWonAt 78 = .ok (.iload 4, 2) := by decide +kernel
theorem dX8_isWonAt_80 : decode cX8_isWonAt 80 = .ok (.iload 7, 2) := by decide +kernel
theorem dX8_isWonAt_82 : decode cX8_isWonAt 82 = .ok (.iconst 1, 1) := by decide +kernel
theorem dX8_isWonAt_83 : decode cX8_isWonAt 83 = .ok (.if_icmp .ne 8, 3) := by decide +kernel
theorem dX8_isWonAt_86 : decode cX8_isWonAt 86 = .ok (.iload 8, 2) := by decide +kernel
theorem dX8_isWonAt_88 : decode cX8_isWonAt 88 = .ok (.goto 4, 3) := by decide +kernel
theorem dX8_isWonAt_91 : decode cX8_isWonAt 91 = .ok (.iconst 0, 1) := by decide +kernel
theorem dX8_isWonAt_92 : decode cX8_isWonAt 92 = .ok (.iadd, 1) := by decide +kernel
theorem dX8_isWonAt_93 : decode cX8_isWonAt 93 = .ok (.istore 4, 2) := by decide +kernel
theorem dX8_isWonAt_95 : decode cX8_isWonAt 95 = .ok (.iload 5, 2) := by decide +kernel
theorem dX8_isWonAt_97 : decode cX8_isWonAt 97 = .ok (.iload 7, 2) := by decide +kernel
theorem dX8_isWonAt_99 : decode cX8_isWonAt 99 = .ok (.iconst 2, 1) := by decide +kernel
theorem dX8_isWonAt_100 : decode cX8_isWonAt 100 = .ok (.if_icmp .ne 8, 3) := by decide +kernel
theorem dX8_isWonAt_103 : decode cX8_isWonAt 103 = .ok (.iload 8, 2) := by decide +kernel
theorem dX8_isWonAt_105 : decode cX8_isWonAt 105 = .ok (.goto 4, 3) := by decide +kernel
theorem dX8_isWonAt_108 : decode cX8_isWonAt 108 = .ok (.iconst 0, 1) := by decide +kernel
theorem dX8_isWonAt_109 : decode cX8_isWonAt 109 = .ok (.iadd, 1) := by decide +kernel
theorem dX8_isWonAt_110 : decode cX8_isWonAt 110 = .ok (.istore 5, 2) := by decide +kernel
theorem dX8_isWonAt_112 : decode cX8_isWonAt 112 = .ok (.iinc 6 1, 3) := by decide +kernel
theorem dX8_isWonAt_115 : decode cX8_isWonAt 115 = .ok (.goto (-94), 3) := by decide +kernel
theorem dX8_isWonAt_118 : decode cX8_isWonAt 118 = .ok (.iload 4, 2) := by decide +kernel
theorem dX8_isWonAt_120 : decode cX8_isWonAt 120 = .ok (.iload 5, 2) := by decide +kernel
theorem dX8_isWonAt_122 : decode cX8_isWonAt 122 = .ok (.if_icmp .le 13, 3) := by decide +kernel
theorem dX8_isWonAt_125 : decode cX8_isWonAt 125 = .ok (.iload 4, 2) := by decide +kernel
theorem dX8_isWonAt_127 : decode cX8_isWonAt 127 = .ok (.iconst 4, 1) := by decide +kernel
theorem dX8_isWonAt_128 : decode cX8_isWonAt 128 = .ok (.if_icmp .lt 7, 3) := by decide +kernel
theorem dX8_isWonAt_131 : decode cX8_isWonAt 131 = .ok (.iconst 1, 1) := by decide +kernel
theorem dX8_isWonAt_132 : decode cX8_isWonAt 132 = .ok (.goto 4, 3) := by decide +kernel
theorem dX8_isWonAt_135 : decode cX8_isWonAt 135 = .ok (.iconst 0, 1) := by decide +kernel
theorem dX8_isWonAt_136 : decode cX8_isWonAt 136 = .ok (.ireturn, 1) := by decide +kernel
theorem dX8_judge_0 : decode cX8_judge 0 = .ok (.aload_n 0, 1) := by decide +kernel
theorem dX8_judge_1 : decode cX8_judge 1 = .ok (.iload_n 1, 1) := by decide +kernel
theorem dX8_judge_2 : decode cX8_judge 2 = .ok (.invokevirtual 259, 3) := by decide +kernel
theorem dX8_judge_5 : decode cX8_judge 5 = .ok (.istore_n 2, 1) := by decide +kernel
theorem dX8_judge_6 : decode cX8_judge 6 = .ok (.aload_n 0, 1) := by decide +kernel
theorem dX8_judge_7 : decode cX8_judge 7 = .ok (.iload_n 2, 1) := by decide +kernel
theorem dX8_judge_8 : decode cX8_judge 8 = .ok (.ifCond .ne 7, 3) := by decide +kernel
theorem dX8_judge_11 : decode cX8_judge 11 = .ok (.iconst 1, 1) := by decide +kernel
theorem dX8_judge_12 : decode cX8_judge 12 = .ok (.goto 25, 3) := by decide +kernel
theorem dX8_judge_15 : decode cX8_judge 15 = .ok (.aload_n 0, 1) := by decide +kernel
theorem dX8_judge_16 : decode cX8_judge 16 = .ok (.getfield 106, 3) := by decide +kernel
theorem dX8_judge_19 : decode cX8_judge 19 = .ok (.iload_n 1, 1) := by decide +kernel
theorem dX8_judge_20 : decode cX8_judge 20 = .ok (.iaload, 1) := by decide +kernel
theorem dX8_judge_21 : decode cX8_judge 21 = .ok (.ifCond .ne 11, 3) := by decide +kernel
theorem dX8_judge_24 : decode cX8_judge 24 = .ok (.aload_n 0, 1) := by decide +kernel
theorem dX8_judge_25 : decode cX8_judge 25 = .ok (.iload_n 1, 1) := by decide +kernel
theorem dX8_judge_26 : decode cX8_judge 26 = .ok (.invokevirtual 262, 3) := by decide +kernel
theorem dX8_judge_29 : decode cX8_judge 29 = .ok (.ifCond .ne 7, 3) := by decide +kernel
theorem dX8_judge_32 : decode cX8_judge 32 = .ok (.iconst 2, 1) := by decide +kernel
theorem dX8_judge_33 : decode cX8_judge 33 = .ok (.goto 4, 3) := by decide +kernel
theorem dX8_judge_36 : decode cX8_judge 36 = .ok (.iconst 0, 1) := by decide +kernel
theorem dX8_judge_37 : decode cX8_judge 37 = .ok (.invokevirtual 157, 3) := by decide +kernel
theorem dX8_judge_40 : decode cX8_judge 40 = .ok (.ifCond .ne 5, 3) := by decide +kernel
theorem dX8_judge_43 : decode cX8_judge 43 = .ok (.iconst 0, 1) := by decide +kernel
theorem dX8_judge_44 : decode cX8_judge 44 = .ok (.ireturn, 1) := by decide +kernel
theorem dX8_judge_45 : decode cX8_judge 45 = .ok (.aload_n 0, 1) := by decide +kernel
theorem dX8_judge_46 : decode cX8_judge 46 = .ok (.iload_n 1, 1) := by decide +kernel
theorem dX8_judge_47 : decode cX8_judge 47 = .ok (.aload_n 0, 1) := by decide +kernel
theorem dX8_judge_48 : decode cX8_judge 48 = .ok (.getfield 97, 3) := by decide +kernel
theorem dX8_judge_51 : decode cX8_judge 51 = .ok (.iload_n 1, 1) := by decide +kernel
theorem dX8_judge_52 : decode cX8_judge 52 = .ok (.iaload, 1) := by decide +kernel
theorem dX8_judge_53 : decode cX8_judge 53 = .ok (.invokevirtual 271, 3) := by decide +kernel
theorem dX8_judge_56 : decode cX8_judge 56 = .ok (.istore_n 3, 1) := by decide +kernel
theorem dX8_judge_57 : decode cX8_judge 57 = .ok (.aload_n 0, 1) := by decide +kernel
theorem dX8_judge_58 : decode cX8_judge 58 = .ok (.getfield 106, 3) := by decide +kernel
theorem dX8_judge_61 : decode cX8_judge 61 = .ok (.iload_n 1, 1) := by decide +kernel
theorem dX8_judge_62 : decode cX8_judge 62 = .ok (.iload_n 3, 1) := by decide +kernel
theorem dX8_judge_63 : decode cX8_judge 63 = .ok (.ifCond .eq 7, 3) := by decide +kernel
theorem dX8_judge_66 : decode cX8_judge 66 = .ok (.iconst 2, 1) := by decide +kernel
theorem dX8_judge_67 : decode cX8_judge 67 = .ok (.goto 4, 3) := by decide +kernel
theorem dX8_judge_70 : decode cX8_judge 70 = .ok (.iconst 3, 1) := by decide +kernel
theorem dX8_judge_71 : decode cX8_judge 71 = .ok (.iastore, 1) := by decide +kernel
theorem dX8_judge_72 : decode cX8_judge 72 = .ok (.aload_n 0, 1) := by decide +kernel
theorem dX8_judge_73 : decode cX8_judge 73 = .ok (.getfield 115, 3) := by decide +kernel
theorem dX8_judge_76 : decode cX8_judge 76 = .ok (.iload_n 1, 1) := by decide +kernel
theorem dX8_judge_77 : decode cX8_judge 77 = .ok (.iload_n 3, 1) := by decide +kernel
theorem dX8_judge_78 : decode cX8_judge 78 = .ok (.ifCond .eq 13, 3) := by decide +kernel
theorem dX8_judge_81 : decode cX8_judge 81 = .ok (.aload_n 0, 1) := by decide +kernel
theorem dX8_judge_82 : decode cX8_judge 82 = .ok (.getfield 100, 3) := by decide +kernel
theorem dX8_judge_85 : decode cX8_judge 85 = .ok (.iload_n 1, 1) := by decide +kernel
theorem dX8_judge_86 : decode cX8_judge 86 = .ok (.iaload, 1) := by decide +kernel
theorem dX8_judge_87 : decode cX8_judge 87 = .ok (.i2l, 1) := by decide +kernel
theorem dX8_judge_88 : decode cX8_judge 88 = .ok (.goto 4, 3) := by decide +kernel
theorem dX8_judge_91 : decode cX8_judge 91 = .ok (.lconst 0, 1) := by decide +kernel
theorem dX8_judge_92 : decode cX8_judge 92 = .ok (.lastore, 1) := by decide +kernel
theorem dX8_judge_93 : decode cX8_judge 93 = .ok (.aload_n 0, 1) := by decide +kernel
theorem dX8_judge_94 : decode cX8_judge 94 = .ok (.getfield 121, 3) := by decide +kernel
theorem dX8_judge_97 : decode cX8_judge 97 = .ok (.iload_n 1, 1) := by decide +kernel
theorem dX8_judge_98 : decode cX8_judge 98 = .ok (.aload_n 0, 1) := by decide +kernel
theorem dX8_judge_99 : decode cX8_judge 99 = .ok (.getfield 154, 3) := by decide +kernel
theorem dX8_judge_102 : decode cX8_judge 102 = .ok (.iastore, 1) := by decide +kernel
theorem dX8_judge_103 : decode cX8_judge 103 = .ok (.iload_n 3, 1) := by decide +kernel
theorem dX8_judge_104 : decode cX8_judge 104 = .ok (.ireturn, 1) := by decide +kernel
theorem dX8_bothLive_0 : decode cX8_bothLive 0 = .ok (.aload_n 0, 1) := by decide +kernel
theorem dX8_bothLive_1 : decode cX8_bothLive 1 = .ok (.getfield 47, 3) := by decide +kernel
theorem dX8_bothLive_4 : decode cX8_bothLive 4 = .ok (.aload_n 0, 1) := by decide +kernel
theorem dX8_bothLive_5 : decode cX8_bothLive 5 = .ok (.getfield 91, 3) := by decide +kernel
theorem dX8_bothLive_8 : decode cX8_bothLive 8 = .ok (.iload_n 1, 1) := by decide +kernel
theorem dX8_bothLive_9 : decode cX8_bothLive 9 = .ok (.iaload, 1) := by decide +kernel
theorem dX8_bothLive_10 : decode cX8_bothLive 10 = .ok (.baload, 1) := by decide +kernel
theorem dX8_bothLive_11 : decode cX8_bothLive 11 = .ok (.ifCond .ne 21, 3) := by decide +kernel
theorem dX8_bothLive_14 : decode cX8_bothLive 14 = .ok (.aload_n 0, 1) := by decide +kernel
theorem dX8_bothLive_15 : decode cX8_bothLive 15 = .ok (.getfield 47, 3) := by decide +kernel
theorem dX8_bothLive_18 : decode cX8_bothLive 18 = .ok (.aload_n 0, 1) := by decide +kernel
theorem dX8_bothLive_19 : decode cX8_bothLive 19 = .ok (.getfield 94, 3) := by decide +kernel
theorem dX8_bothLive_22 : decode cX8_bothLive 22 = .ok (.iload_n 1, 1) := by decide +kernel
theorem dX8_bothLive_23 : decode cX8_bothLive 23 = .ok (.iaload, 1) := by decide +kernel
theorem dX8_bothLive_24 : decode cX8_bothLive 24 = .ok (.baload, 1) := by decide +kernel
theorem dX8_bothLive_25 : decode cX8_bothLive 25 = .ok (.ifCond .ne 7, 3) := by decide +kernel
theorem dX8_bothLive_28 : decode cX8_bothLive 28 = .ok (.iconst 1, 1) := by decide +kernel
theorem dX8_bothLive_29 : decode cX8_bothLive 29 = .ok (.goto 4, 3) := by decide +kernel
theorem dX8_bothLive_32 : decode cX8_bothLive 32 = .ok (.iconst 0, 1) := by decide +kernel
theorem dX8_bothLive_33 : decode cX8_bothLive 33 = .ok (.ireturn, 1) := by decide +kernel
theorem dX8_canAppeal_0 : decode cX8_canAppeal 0 = .ok (.aload_n 0, 1) := by decide +kernel
theorem dX8_canAppeal_1 : decode cX8_canAppeal 1 = .ok (.getfield 106, 3) := by decide +kernel
theorem dX8_canAppeal_4 : decode cX8_canAppeal 4 = .ok (.iload_n 1, 1) := by decide +kernel
theorem dX8_canAppeal_5 : decode cX8_canAppeal 5 = .ok (.iaload, 1) := by decide +kernel
theorem dX8_canAppeal_6 : decode cX8_canAppeal 6 = .ok (.iconst 2, 1) := by decide +kernel
theorem dX8_canAppeal_7 : decode cX8_canAppeal 7 = .ok (.if_icmp .lt 42, 3) := by decide +kernel
theorem dX8_canAppeal_10 : decode cX8_canAppeal 10 = .ok (.aload_n 0, 1) := by decide +kernel
theorem dX8_canAppeal_11 : decode cX8_canAppeal 11 = .ok (.getfield 97, 3) := by decide +kernel
theorem dX8_canAppeal_14 : decode cX8_canAppeal 14 = .ok (.iload_n 1, 1) := by decide +kernel
theorem dX8_canAppeal_15 : decode cX8_canAppeal 15 = .ok (.iaload, 1) := by decide +kernel
theorem dX8_canAppeal_16 : decode cX8_canAppeal 16 = .ok (.iconst (-1), 1) := by decide +kernel
theorem dX8_canAppeal_17 : decode cX8_canAppeal 17 = .ok (.if_icmp .eq 32, 3) := by decide +kernel
theorem dX8_canAppeal_20 : decode cX8_canAppeal 20 = .ok (.aload_n 0, 1) := by decide +kernel
theorem dX8_canAppeal_21 : decode cX8_canAppeal 21 = .ok (.getfield 124, 3) := by decide +kernel
theorem dX8_canAppeal_24 : decode cX8_canAppeal 24 = .ok (.iload_n 1, 1) := by decide +kernel
theorem dX8_canAppeal_25 : decode cX8_canAppeal 25 = .ok (.baload, 1) := by decide +kernel
theorem dX8_canAppeal_26 : decode cX8_canAppeal 26 = .ok (.ifCond .ne 23, 3) := by decide +kernel
theorem dX8_canAppeal_29 : decode cX8_canAppeal 29 = .ok (.aload_n 0, 1) := by decide +kernel
theorem dX8_canAppeal_30 : decode cX8_canAppeal 30 = .ok (.getfield 154, 3) := by decide +kernel
theorem dX8_canAppeal_33 : decode cX8_canAppeal 33 = .ok (.aload_n 0, 1) := by decide +kernel
theorem dX8_canAppeal_34 : decode cX8_canAppeal 34 = .ok (.getfield 121, 3) := by decide +kernel
theorem dX8_canAppeal_37 : decode cX8_canAppeal 37 = .ok (.iload_n 1, 1) := by decide +kernel
theorem dX8_canAppeal_38 : decode cX8_canAppeal 38 = .ok (.iaload, 1) := by decide +kernel
theorem dX8_canAppeal_39 : decode cX8_canAppeal 39 = .ok (.isub, 1) := by decide +kernel
theorem dX8_canAppeal_40 : decode cX8_canAppeal 40 = .ok (.bipush 60, 2) := by decide +kernel
theorem dX8_canAppeal_42 : decode cX8_canAppeal 42 = .ok (.if_icmp .gt 7, 3) := by decide +kernel
theorem dX8_canAppeal_45 : decode cX8_canAppeal 45 = .ok (.iconst 1, 1) := by decide +kernel
theorem dX8_canAppeal_46 : decode cX8_canAppeal 46 = .ok (.goto 4, 3) := by decide +kernel
theorem dX8_canAppeal_49 : decode cX8_canAppeal 49 = .ok (.iconst 0, 1) := by decide +kernel
theorem dX8_canAppeal_50 : decode cX8_canAppeal 50 = .ok (.ireturn, 1) := by decide +kernel
theorem dX8_goesBack_0 : decode cX8_goesBack 0 = .ok (.aload_n 0, 1) := by decide +kernel
theorem dX8_goesBack_1 : decode cX8_goesBack 1 = .ok (.getfield 50, 3) := by decide +kernel
theorem dX8_goesBack_4 : decode cX8_goesBack 4 = .ok (.aload_n 0, 1) := by decide +kernel
theorem dX8_goesBack_5 : decode cX8_goesBack 5 = .ok (.getfield 91, 3) := by decide +kernel
theorem dX8_goesBack_8 : decode cX8_goesBack 8 = .ok (.iload_n 1, 1) := by decide +kernel
theorem dX8_goesBack_9 : decode cX8_goesBack 9 = .ok (.iaload, 1) := by decide +kernel
theorem dX8_goesBack_10 : decode cX8_goesBack 10 = .ok (.laload, 1) := by decide +kernel
theorem dX8_goesBack_11 : decode cX8_goesBack 11 = .ok (.lstore_n 2, 1) := by decide +kernel
theorem dX8_goesBack_12 : decode cX8_goesBack 12 = .ok (.aload_n 0, 1) := by decide +kernel
theorem dX8_goesBack_13 : decode cX8_goesBack 13 = .ok (.iload_n 1, 1) := by decide +kernel
theorem dX8_goesBack_14 : decode cX8_goesBack 14 = .ok (.invokevirtual 274, 3) := by decide +kernel
theorem dX8_goesBack_17 : decode cX8_goesBack 17 = .ok (.ifCond .ne 7, 3) := by decide +kernel
theorem dX8_goesBack_20 : decode cX8_goesBack 20 = .ok (.lconst 0, 1) := by decide +kernel
theorem dX8_goesBack_21 : decode cX8_goesBack 21 = .ok (.goto 24, 3) := by decide +kernel
theorem dX8_goesBack_24 : decode cX8_goesBack 24 = .ok (.lload_n 2, 1) := by decide +kernel
theorem dX8_goesBack_25 : decode cX8_goesBack 25 = .ok (.aload_n 0, 1) := by decide +kernel
theorem dX8_goesBack_26 : decode cX8_goesBack 26 = .ok (.getfield 118, 3) := by decide +kernel
theorem dX8_goesBack_29 : decode cX8_goesBack 29 = .ok (.iload_n 1, 1) := by decide +kernel
theorem dX8_goesBack_30 : decode cX8_goesBack 30 = .ok (.laload, 1) := by decide +kernel
theorem dX8_goesBack_31 : decode cX8_goesBack 31 = .ok (.lcmp, 1) := by decide +kernel
theorem dX8_goesBack_32 : decode cX8_goesBack 32 = .ok (.ifCond .ge 7, 3) := by decide +kernel
theorem dX8_goesBack_35 : decode cX8_goesBack 35 = .ok (.lload_n 2, 1) := by decide +kernel
theorem dX8_goesBack_36 : decode cX8_goesBack 36 = .ok (.goto 9, 3) := by decide +kernel
theorem dX8_goesBack_39 : decode cX8_goesBack 39 = .ok (.aload_n 0, 1) := by decide +kernel
theorem dX8_goesBack_40 : decode cX8_goesBack 40 = .ok (.getfield 118, 3) := by decide +kernel
theorem dX8_goesBack_43 : decode cX8_goesBack 43 = .ok (.iload_n 1, 1) := by decide +kernel
theorem dX8_goesBack_44 : decode cX8_goesBack 44 = .ok (.laload, 1) := by decide +kernel
theorem dX8_goesBack_45 : decode cX8_goesBack 45 = .ok (.lstore 4, 2) := by decide +kernel
theorem dX8_goesBack_47 : decode cX8_goesBack 47 = .ok (.aload_n 0, 1) := by decide +kernel
theorem dX8_goesBack_48 : decode cX8_goesBack 48 = .ok (.getfield 50, 3) := by decide +kernel
theorem dX8_goesBack_51 : decode cX8_goesBack 51 = .ok (.aload_n 0, 1) := by decide +kernel
theorem dX8_goesBack_52 : decode cX8_goesBack 52 = .ok (.getfield 91, 3) := by decide +kernel
theorem dX8_goesBack_55 : decode cX8_goesBack 55 = .ok (.iload_n 1, 1) := by decide +kernel
theorem dX8_goesBack_56 : decode cX8_goesBack 56 = .ok (.iaload, 1) := by decide +kernel
theorem dX8_goesBack_57 : decode cX8_goesBack 57 = .ok (.dup2, 1) := by decide +kernel
theorem dX8_goesBack_58 : decode cX8_goesBack 58 = .ok (.laload, 1) := by decide +kernel
theorem dX8_goesBack_59 : decode cX8_goesBack 59 = .ok (.lload 4, 2) := by decide +kernel
theorem dX8_goesBack_61 : decode cX8_goesBack 61 = .ok (.lsub, 1) := by decide +kernel
theorem dX8_goesBack_62 : decode cX8_goesBack 62 = .ok (.lastore, 1) := by decide +kernel
theorem dX8_goesBack_63 : decode cX8_goesBack 63 = .ok (.aload_n 0, 1) := by decide +kernel
theorem dX8_goesBack_64 : decode cX8_goesBack 64 = .ok (.getfield 50, 3) := by decide +kernel
theorem dX8_goesBack_67 : decode cX8_goesBack 67 = .ok (.aload_n 0, 1) := by decide +kernel
theorem dX8_goesBack_68 : decode cX8_goesBack 68 = .ok (.getfield 94, 3) := by decide +kernel
theorem dX8_goesBack_71 : decode cX8_goesBack 71 = .ok (.iload_n 1, 1) := by decide +kernel
theorem dX8_goesBack_72 : decode cX8_goesBack 72 = .ok (.iaload, 1) := by decide +kernel
theorem dX8_goesBack_73 : decode cX8_goesBack 73 = .ok (.dup2, 1) := by decide +kernel
theorem dX8_goesBack_74 : decode cX8_goesBack 74 = .ok (.laload, 1) := by decide +kernel
theorem dX8_goesBack_75 : decode cX8_goesBack 75 = .ok (.lload 4, 2) := by decide +kernel
theorem dX8_goesBack_77 : decode cX8_goesBack 77 = .ok (.ladd, 1) := by decide +kernel
theorem dX8_goesBack_78 : decode cX8_goesBack 78 = .ok (.lastore, 1) := by decide +kernel
theorem dX8_goesBack_79 : decode cX8_goesBack 79 = .ok (.aload_n 0, 1) := by decide +kernel
theorem dX8_goesBack_80 : decode cX8_goesBack 80 = .ok (.getfield 118, 3) := by decide +kernel
theorem dX8_goesBack_83 : decode cX8_goesBack 83 = .ok (.iload_n 1, 1) := by decide +kernel
theorem dX8_goesBack_84 : decode cX8_goesBack 84 = .ok (.lconst 0, 1) := by decide +kernel
theorem dX8_goesBack_85 : decode cX8_goesBack 85 = .ok (.lastore, 1) := by decide +kernel
theorem dX8_goesBack_86 : decode cX8_goesBack 86 = .ok (.aload_n 0, 1) := by decide +kernel
theorem dX8_goesBack_87 : decode cX8_goesBack 87 = .ok (.getfield 115, 3) := by decide +kernel
theorem dX8_goesBack_90 : decode cX8_goesBack 90 = .ok (.iload_n 1, 1) := by decide +kernel
theorem dX8_goesBack_91 : decode cX8_goesBack 91 = .ok (.lconst 0, 1) := by decide +kernel
theorem dX8_goesBack_92 : decode cX8_goesBack 92 = .ok (.lastore, 1) := by decide +kernel
theorem dX8_goesBack_93 : decode cX8_goesBack 93 = .ok (.return_, 1) := by decide +kernel
theorem dX8_appeal_0 : decode cX8_appeal 0 = .ok (.aload_n 0, 1) := by decide +kernel
theorem dX8_appeal_1 : decode cX8_appeal 1 = .ok (.iload_n 1, 1) := by decide +kernel
theorem dX8_appeal_2 : decode cX8_appeal 2 = .ok (.invokevirtual 259, 3) := by decide +kernel
theorem dX8_appeal_5 : decode cX8_appeal 5 = .ok (.istore_n 2, 1) := by decide +kernel
theorem dX8_appeal_6 : decode cX8_appeal 6 = .ok (.aload_n 0, 1) := by decide +kernel
theorem dX8_appeal_7 : decode cX8_appeal 7 = .ok (.iload_n 2, 1) := by decide +kernel
theorem dX8_appeal_8 : decode cX8_appeal 8 = .ok (.ifCond .ne 7, 3) := by decide +kernel
theorem dX8_appeal_11 : decode cX8_appeal 11 = .ok (.iconst 1, 1) := by decide +kernel
theorem dX8_appeal_12 : decode cX8_appeal 12 = .ok (.goto 16, 3) := by decide +kernel
theorem dX8_appeal_15 : decode cX8_appeal 15 = .ok (.aload_n 0, 1) := by decide +kernel
theorem dX8_appeal_16 : decode cX8_appeal 16 = .ok (.iload_n 1, 1) := by decide +kernel
theorem dX8_appeal_17 : decode cX8_appeal 17 = .ok (.invokevirtual 277, 3) := by decide +kernel
theorem dX8_appeal_20 : decode cX8_appeal 20 = .ok (.ifCond .eq 7, 3) := by decide +kernel
theorem dX8_appeal_23 : decode cX8_appeal 23 = .ok (.iconst 0, 1) := by decide +kernel
theorem dX8_appeal_24 : decode cX8_appeal 24 = .ok (.goto 4, 3) := by decide +kernel
theorem dX8_appeal_27 : decode cX8_appeal 27 = .ok (.iconst 2, 1) := by decide +kernel
theorem dX8_appeal_28 : decode cX8_appeal 28 = .ok (.invokevirtual 157, 3) := by decide +kernel
theorem dX8_appeal_31 : decode cX8_appeal 31 = .ok (.ifCond .ne 5, 3) := by decide +kernel
theorem dX8_appeal_34 : decode cX8_appeal 34 = .ok (.iconst 0, 1) := by decide +kernel
theorem dX8_appeal_35 : decode cX8_appeal 35 = .ok (.ireturn, 1) := by decide +kernel
theorem dX8_appeal_36 : decode cX8_appeal 36 = .ok (.aload_n 0, 1) := by decide +kernel
theorem dX8_appeal_37 : decode cX8_appeal 37 = .ok (.iload_n 1, 1) := by decide +kernel
theorem dX8_appeal_38 : decode cX8_appeal 38 = .ok (.iconst (-1), 1) := by decide +kernel
theorem dX8_appeal_39 : decode cX8_appeal 39 = .ok (.invokevirtual 271, 3) := by decide +kernel
theorem dX8_appeal_42 : decode cX8_appeal 42 = .ok (.istore_n 3, 1) := by decide +kernel
theorem dX8_appeal_43 : decode cX8_appeal 43 = .ok (.aload_n 0, 1) := by decide +kernel
theorem dX8_appeal_44 : decode cX8_appeal 44 = .ok (.getfield 106, 3) := by decide +kernel
theorem dX8_appeal_47 : decode cX8_appeal 47 = .ok (.iload_n 1, 1) := by decide +kernel
theorem dX8_appeal_48 : decode cX8_appeal 48 = .ok (.iaload, 1) := by decide +kernel
theorem dX8_appeal_49 : decode cX8_appeal 49 = .ok (.iconst 2, 1) := by decide +kernel
theorem dX8_appeal_50 : decode cX8_appeal 50 = .ok (.if_icmp .ne 12, 3) := by decide +kernel
theorem dX8_appeal_53 : decode cX8_appeal 53 = .ok (.iload_n 3, 1) := by decide +kernel
theorem dX8_appeal_54 : decode cX8_appeal 54 = .ok (.ifCond .ne 8, 3) := by decide +kernel
theorem dX8_appeal_57 : decode cX8_appeal 57 = .ok (.aload_n 0, 1) := by decide +kernel
theorem dX8_appeal_58 : decode cX8_appeal 58 = .ok (.iload_n 1, 1) := by decide +kernel
theorem dX8_appeal_59 : decode cX8_appeal 59 = .ok (.invokevirtual 280, 3) := by decide +kernel
theorem dX8_appeal_62 : decode cX8_appeal 62 = .ok (.aload_n 0, 1) := by decide +kernel
theorem dX8_appeal_63 : decode cX8_appeal 63 = .ok (.getfield 115, 3) := by decide +kernel
theorem dX8_appeal_66 : decode cX8_appeal 66 = .ok (.iload_n 1, 1) := by decide +kernel
theorem dX8_appeal_67 : decode cX8_appeal 67 = .ok (.aload_n 0, 1) := by decide +kernel
theorem dX8_appeal_68 : decode cX8_appeal 68 = .ok (.getfield 106, 3) := by decide +kernel
theorem dX8_appeal_71 : decode cX8_appeal 71 = .ok (.iload_n 1, 1) := by decide +kernel
theorem dX8_appeal_72 : decode cX8_appeal 72 = .ok (.iaload, 1) := by decide +kernel
theorem dX8_appeal_73 : decode cX8_appeal 73 = .ok (.iconst 3, 1) := by decide +kernel
theorem dX8_appeal_74 : decode cX8_appeal 74 = .ok (.if_icmp .ne 17, 3) := by decide +kernel
theorem dX8_appeal_77 : decode cX8_appeal 77 = .ok (.iload_n 3, 1) := by decide +kernel
theorem dX8_appeal_78 : decode cX8_appeal 78 = .ok (.ifCond .eq 13, 3) := by decide +kernel
theorem dX8_appeal_81 : decode cX8_appeal 81 = .ok (.aload_n 0, 1) := by decide +kernel
theorem dX8_appeal_82 : decode cX8_appeal 82 = .ok (.getfield 100, 3) := by decide +kernel
theorem dX8_appeal_85 : decode cX8_appeal 85 = .ok (.iload_n 1, 1) := by decide +kernel
theorem dX8_appeal_86 : decode cX8_appeal 86 = .ok (.iaload, 1) := by decide +kernel
theorem dX8_appeal_87 : decode cX8_appeal 87 = .ok (.i2l, 1) := by decide +kernel
theorem dX8_appeal_88 : decode cX8_appeal 88 = .ok (.goto 9, 3) := by decide +kernel
theorem dX8_appeal_91 : decode cX8_appeal 91 = .ok (.aload_n 0, 1) := by decide +kernel
theorem dX8_appeal_92 : decode cX8_appeal 92 = .ok (.getfield 115, 3) := by decide +kernel
theorem dX8_appeal_95 : decode cX8_appeal 95 = .ok (.iload_n 1, 1) := by decide +kernel
theorem dX8_appeal_96 : decode cX8_appeal 96 = .ok (.laload, 1) := by decide +kernel
theorem dX8_appeal_97 : decode cX8_appeal 97 = .ok (.lastore, 1) := by decide +kernel
theorem dX8_appeal_98 : decode cX8_appeal 98 = .ok (.aload_n 0, 1) := by decide +kernel
theorem dX8_appeal_99 : decode cX8_appeal 99 = .ok (.getfield 106, 3) := by decide +kernel
theorem dX8_appeal_102 : decode cX8_appeal 102 = .ok (.iload_n 1, 1) := by decide +kernel
theorem dX8_appeal_103 : decode cX8_appeal 103 = .ok (.iload_n 3, 1) := by decide +kernel
theorem dX8_appeal_104 : decode cX8_appeal 104 = .ok (.ifCond .eq 7, 3) := by decide +kernel
theorem dX8_appeal_107 : decode cX8_appeal 107 = .ok (.iconst 2, 1) := by decide +kernel
theorem dX8_appeal_108 : decode cX8_appeal 108 = .ok (.goto 4, 3) := by decide +kernel
theorem dX8_appeal_111 : decode cX8_appeal 111 = .ok (.iconst 3, 1) := by decide +kernel
theorem dX8_appeal_112 : decode cX8_appeal 112 = .ok (.iastore, 1) := by decide +kernel
theorem dX8_appeal_113 : decode cX8_appeal 113 = .ok (.aload_n 0, 1) := by decide +kernel
theorem dX8_appeal_114 : decode cX8_appeal 114 = .ok (.getfield 124, 3) := by decide +kernel
theorem dX8_appeal_117 : decode cX8_appeal 117 = .ok (.iload_n 1, 1) := by decide +kernel
theorem dX8_appeal_118 : decode cX8_appeal 118 = .ok (.iconst 1, 1) := by decide +kernel
theorem dX8_appeal_119 : decode cX8_appeal 119 = .ok (.bastore, 1) := by decide +kernel
theorem dX8_appeal_120 : decode cX8_appeal 120 = .ok (.aload_n 0, 1) := by decide +kernel
theorem dX8_appeal_121 : decode cX8_appeal 121 = .ok (.getfield 121, 3) := by decide +kernel
theorem dX8_appeal_124 : decode cX8_appeal 124 = .ok (.iload_n 1, 1) := by decide +kernel
theorem dX8_appeal_125 : decode cX8_appeal 125 = .ok (.aload_n 0, 1) := by decide +kernel
theorem dX8_appeal_126 : decode cX8_appeal 126 = .ok (.getfield 154, 3) := by decide +kernel
theorem dX8_appeal_129 : decode cX8_appeal 129 = .ok (.iastore, 1) := by decide +kernel
theorem dX8_appeal_130 : decode cX8_appeal 130 = .ok (.iload_n 3, 1) := by decide +kernel
theorem dX8_appeal_131 : decode cX8_appeal 131 = .ok (.ireturn, 1) := by decide +kernel
theorem dX8_execute_0 : decode cX8_execute 0 = .ok (.aload_n 0, 1) := by decide +kernel
theorem dX8_execute_1 : decode cX8_execute 1 = .ok (.iload_n 1, 1) := by decide +kernel
theorem dX8_execute_2 : decode cX8_execute 2 = .ok (.invokevirtual 259, 3) := by decide +kernel
theorem dX8_execute_5 : decode cX8_execute 5 = .ok (.istore_n 2, 1) := by decide +kernel
theorem dX8_execute_6 : decode cX8_execute 6 = .ok (.aload_n 0, 1) := by decide +kernel
theorem dX8_execute_7 : decode cX8_execute 7 = .ok (.iload_n 2, 1) := by decide +kernel
theorem dX8_execute_8 : decode cX8_execute 8 = .ok (.ifCond .ne 7, 3) := by decide +kernel
theorem dX8_execute_11 : decode cX8_execute 11 = .ok (.iconst 1, 1) := by decide +kernel
theorem dX8_execute_12 : decode cX8_execute 12 = .ok (.goto 37, 3) := by decide +kernel
theorem dX8_execute_15 : decode cX8_execute 15 = .ok (.aload_n 0, 1) := by decide +kernel
theorem dX8_execute_16 : decode cX8_execute 16 = .ok (.getfield 106, 3) := by decide +kernel
theorem dX8_execute_19 : decode cX8_execute 19 = .ok (.iload_n 1, 1) := by decide +kernel
theorem dX8_execute_20 : decode cX8_execute 20 = .ok (.iaload, 1) := by decide +kernel
theorem dX8_execute_21 : decode cX8_execute 21 = .ok (.iconst 2, 1) := by decide +kernel
theorem dX8_execute_22 : decode cX8_execute 22 = .ok (.if_icmp .ne 22, 3) := by decide +kernel
theorem dX8_execute_25 : decode cX8_execute 25 = .ok (.aload_n 0, 1) := by decide +kernel
theorem dX8_execute_26 : decode cX8_execute 26 = .ok (.getfield 115, 3) := by decide +kernel
theorem dX8_execute_29 : decode cX8_execute 29 = .ok (.iload_n 1, 1) := by decide +kernel
theorem dX8_execute_30 : decode cX8_execute 30 = .ok (.laload, 1) := by decide +kernel
theorem dX8_execute_31 : decode cX8_execute 31 = .ok (.lconst 0, 1) := by decide +kernel
theorem dX8_execute_32 : decode cX8_execute 32 = .ok (.lcmp, 1) := by decide +kernel
theorem dX8_execute_33 : decode cX8_execute 33 = .ok (.ifCond .eq 11, 3) := by decide +kernel
theorem dX8_execute_36 : decode cX8_execute 36 = .ok (.aload_n 0, 1) := by decide +kernel
theorem dX8_execute_37 : decode cX8_execute 37 = .ok (.iload_n 1, 1) := by decide +kernel
theorem dX8_execute_38 : decode cX8_execute 38 = .ok (.invokevirtual 274, 3) := by decide +kernel
theorem dX8_execute_41 : decode cX8_execute 41 = .ok (.ifCond .ne 7, 3) := by decide +kernel
theorem dX8_execute_44 : decode cX8_execute 44 = .ok (.iconst 2, 1) := by decide +kernel
theorem dX8_execute_45 : decode cX8_execute 45 = .ok (.goto 4, 3) := by decide +kernel
theorem dX8_execute_48 : decode cX8_execute 48 = .ok (.iconst 0, 1) := by decide +kernel
theorem dX8_execute_49 : decode cX8_execute 49 = .ok (.invokevirtual 157, 3) := by decide +kernel
theorem dX8_execute_52 : decode cX8_execute 52 = .ok (.ifCond .ne 5, 3) := by decide +kernel
theorem dX8_execute_55 : decode cX8_execute 55 = .ok (.lconst 0, 1) := by decide +kernel
theorem dX8_execute_56 : decode cX8_execute 56 = .ok (.lreturn, 1) := by decide +kernel
theorem dX8_execute_57 : decode cX8_execute 57 = .ok (.aload_n 0, 1) := by decide +kernel
theorem dX8_execute_58 : decode cX8_execute 58 = .ok (.getfield 50, 3) := by decide +kernel
theorem dX8_execute_61 : decode cX8_execute 61 = .ok (.aload_n 0, 1) := by decide +kernel
theorem dX8_execute_62 : decode cX8_execute 62 = .ok (.getfield 94, 3) := by decide +kernel
theorem dX8_execute_65 : decode cX8_execute 65 = .ok (.iload_n 1, 1) := by decide +kernel
theorem dX8_execute_66 : decode cX8_execute 66 = .ok (.iaload, 1) := by decide +kernel
theorem dX8_execute_67 : decode cX8_execute 67 = .ok (.laload, 1) := by decide +kernel
theorem dX8_execute_68 : decode cX8_execute 68 = .ok (.lstore_n 3, 1) := by decide +kernel
theorem dX8_execute_69 : decode cX8_execute 69 = .ok (.lload_n 3, 1) := by decide +kernel
theorem dX8_execute_70 : decode cX8_execute 70 = .ok (.aload_n 0, 1) := by decide +kernel
theorem dX8_execute_71 : decode cX8_execute 71 = .ok (.getfield 115, 3) := by decide +kernel
theorem dX8_execute_74 : decode cX8_execute 74 = .ok (.iload_n 1, 1) := by decide +kernel
theorem dX8_execute_75 : decode cX8_execute 75 = .ok (.laload, 1) := by decide +kernel
theorem dX8_execute_76 : decode cX8_execute 76 = .ok (.lcmp, 1) := by decide +kernel
theorem dX8_execute_77 : decode cX8_execute 77 = .ok (.ifCond .ge 7, 3) := by decide +kernel
theorem dX8_execute_80 : decode cX8_execute 80 = .ok (.lload_n 3, 1) := by decide +kernel
theorem dX8_execute_81 : decode cX8_execute 81 = .ok (.goto 9, 3) := by decide +kernel
theorem dX8_execute_84 : decode cX8_execute 84 = .ok (.aload_n 0, 1) := by decide +kernel
theorem dX8_execute_85 : decode cX8_execute 85 = .ok (.getfield 115, 3) := by decide +kernel
theorem dX8_execute_88 : decode cX8_execute 88 = .ok (.iload_n 1, 1) := by decide +kernel
theorem dX8_execute_89 : decode cX8_execute 89 = .ok (.laload, 1) := by decide +kernel
theorem dX8_execute_90 : decode cX8_execute 90 = .ok (.lstore 5, 2) := by decide +kernel
theorem dX8_execute_92 : decode cX8_execute 92 = .ok (.aload_n 0, 1) := by decide +kernel
theorem dX8_execute_93 : decode cX8_execute 93 = .ok (.getfield 50, 3) := by decide +kernel
theorem dX8_execute_96 : decode cX8_execute 96 = .ok (.aload_n 0, 1) := by decide +kernel
theorem dX8_execute_97 : decode cX8_execute 97 = .ok (.getfield 94, 3) := by decide +kernel
theorem dX8_execute_100 : decode cX8_execute 100 = .ok (.iload_n 1, 1) := by decide +kernel
theorem dX8_execute_101 : decode cX8_execute 101 = .ok (.iaload, 1) := by decide +kernel
theorem dX8_execute_102 : decode cX8_execute 102 = .ok (.dup2, 1) := by decide +kernel
theorem dX8_execute_103 : decode cX8_execute 103 = .ok (.laload, 1) := by decide +kernel
theorem dX8_execute_104 : decode cX8_execute 104 = .ok (.lload 5, 2) := by decide +kernel
theorem dX8_execute_106 : decode cX8_execute 106 = .ok (.lsub, 1) := by decide +kernel
theorem dX8_execute_107 : decode cX8_execute 107 = .ok (.lastore, 1) := by decide +kernel
theorem dX8_execute_108 : decode cX8_execute 108 = .ok (.aload_n 0, 1) := by decide +kernel
theorem dX8_execute_109 : decode cX8_execute 109 = .ok (.getfield 50, 3) := by decide +kernel
theorem dX8_execute_112 : decode cX8_execute 112 = .ok (.aload_n 0, 1) := by decide +kernel
theorem dX8_execute_113 : decode cX8_execute 113 = .ok (.getfield 91, 3) := by decide +kernel
theorem dX8_execute_116 : decode cX8_execute 116 = .ok (.iload_n 1, 1) := by decide +kernel
theorem dX8_execute_117 : decode cX8_execute 117 = .ok (.iaload, 1) := by decide +kernel
theorem dX8_execute_118 : decode cX8_execute 118 = .ok (.dup2, 1) := by decide +kernel
theorem dX8_execute_119 : decode cX8_execute 119 = .ok (.laload, 1) := by decide +kernel
theorem dX8_execute_120 : decode cX8_execute 120 = .ok (.lload 5, 2) := by decide +kernel
theorem dX8_execute_122 : decode cX8_execute 122 = .ok (.ladd, 1) := by decide +kernel
theorem dX8_execute_123 : decode cX8_execute 123 = .ok (.lastore, 1) := by decide +kernel
theorem dX8_execute_124 : decode cX8_execute 124 = .ok (.aload_n 0, 1) := by decide +kernel
theorem dX8_execute_125 : decode cX8_execute 125 = .ok (.getfield 115, 3) := by decide +kernel
theorem dX8_execute_128 : decode cX8_execute 128 = .ok (.iload_n 1, 1) := by decide +kernel
theorem dX8_execute_129 : decode cX8_execute 129 = .ok (.dup2, 1) := by decide +kernel
theorem dX8_execute_130 : decode cX8_execute 130 = .ok (.laload, 1) := by decide +kernel
theorem dX8_execute_131 : decode cX8_execute 131 = .ok (.lload 5, 2) := by decide +kernel
theorem dX8_execute_133 : decode cX8_execute 133 = .ok (.lsub, 1) := by decide +kernel
theorem dX8_execute_134 : decode cX8_execute 134 = .ok (.lastore, 1) := by decide +kernel
theorem dX8_execute_135 : decode cX8_execute 135 = .ok (.aload_n 0, 1) := by decide +kernel
theorem dX8_execute_136 : decode cX8_execute 136 = .ok (.getfield 118, 3) := by decide +kernel
theorem dX8_execute_139 : decode cX8_execute 139 = .ok (.iload_n 1, 1) := by decide +kernel
theorem dX8_execute_140 : decode cX8_execute 140 = .ok (.dup2, 1) := by decide +kernel
theorem dX8_execute_141 : decode cX8_execute 141 = .ok (.laload, 1) := by decide +kernel
theorem dX8_execute_142 : decode cX8_execute 142 = .ok (.lload 5, 2) := by decide +kernel
theorem dX8_execute_144 : decode cX8_execute 144 = .ok (.ladd, 1) := by decide +kernel
theorem dX8_execute_145 : decode cX8_execute 145 = .ok (.lastore, 1) := by decide +kernel
theorem dX8_execute_146 : decode cX8_execute 146 = .ok (.lload 5, 2) := by decide +kernel
theorem dX8_execute_148 : decode cX8_execute 148 = .ok (.lreturn, 1) := by decide +kernel
theorem dX8_wins_0 : decode cX8_wins 0 = .ok (.aload_n 0, 1) := by decide +kernel
theorem dX8_wins_1 : decode cX8_wins 1 = .ok (.aload_n 0, 1) := by decide +kernel
theorem dX8_wins_2 : decode cX8_wins 2 = .ok (.iload_n 1, 1) := by decide +kernel
theorem dX8_wins_3 : decode cX8_wins 3 = .ok (.invokevirtual 259, 3) := by decide +kernel
theorem dX8_wins_6 : decode cX8_wins 6 = .ok (.ifCond .eq 15, 3) := by decide +kernel
theorem dX8_wins_9 : decode cX8_wins 9 = .ok (.aload_n 0, 1) := by decide +kernel
theorem dX8_wins_10 : decode cX8_wins 10 = .ok (.iload_n 2, 1) := by decide +kernel
theorem dX8_wins_11 : decode cX8_wins 11 = .ok (.invokevirtual 174, 3) := by decide +kernel
theorem dX8_wins_14 : decode cX8_wins 14 = .ok (.ifCond .eq 7, 3) := by decide +kernel
theorem dX8_wins_17 : decode cX8_wins 17 = .ok (.iconst 0, 1) := by decide +kernel
theorem dX8_wins_18 : decode cX8_wins 18 = .ok (.goto 4, 3) := by decide +kernel
theorem dX8_wins_21 : decode cX8_wins 21 = .ok (.iconst 1, 1) := by decide +kernel
theorem dX8_wins_22 : decode cX8_wins 22 = .ok (.invokevirtual 157, 3) := by decide +kernel
theorem dX8_wins_25 : decode cX8_wins 25 = .ok (.ifCond .eq 16, 3) := by decide +kernel
theorem dX8_wins_28 : decode cX8_wins 28 = .ok (.aload_n 0, 1) := by decide +kernel
theorem dX8_wins_29 : decode cX8_wins 29 = .ok (.iload_n 1, 1) := by decide +kernel
theorem dX8_wins_30 : decode cX8_wins 30 = .ok (.iload_n 2, 1) := by decide +kernel
theorem dX8_wins_31 : decode cX8_wins 31 = .ok (.invokevirtual 271, 3) := by decide +kernel
theorem dX8_wins_34 : decode cX8_wins 34 = .ok (.ifCond .eq 7, 3) := by decide +kernel
theorem dX8_wins_37 : decode cX8_wins 37 = .ok (.iconst 1, 1) := by decide +kernel
theorem dX8_wins_38 : decode cX8_wins 38 = .ok (.goto 4, 3) := by decide +kernel
theorem dX8_wins_41 : decode cX8_wins 41 = .ok (.iconst 0, 1) := by decide +kernel
theorem dX8_wins_42 : decode cX8_wins 42 = .ok (.ireturn, 1) := by decide +kernel
theorem dX8_lowestMarriage_0 : decode cX8_lowestMarriage 0 = .ok (.iconst (-1), 1) := by decide +kernel
theorem dX8_lowestMarriage_1 : decode cX8_lowestMarriage 1 = .ok (.istore_n 2, 1) := by decide +kernel
theorem dX8_lowestMarriage_2 : decode cX8_lowestMarriage 2 = .ok (.aload_n 0, 1) := by decide +kernel
theorem dX8_lowestMarriage_3 : decode cX8_lowestMarriage 3 = .ok (.getfield 148, 3) := by decide +kernel
theorem dX8_lowestMarriage_6 : decode cX8_lowestMarriage 6 = .ok (.iconst 1, 1) := by decide +kernel
theorem dX8_lowestMarriage_7 : decode cX8_lowestMarriage 7 = .ok (.isub, 1) := by decide +kernel
theorem dX8_lowestMarriage_8 : decode cX8_lowestMarriage 8 = .ok (.istore_n 3, 1) := by decide +kernel
theorem dX8_lowestMarriage_9 : decode cX8_lowestMarriage 9 = .ok (.iload_n 3, 1) := by decide +kernel
theorem dX8_lowestMarriage_10 : decode cX8_lowestMarriage 10 = .ok (.ifCond .lt 44, 3) := by decide +kernel
theorem dX8_lowestMarriage_13 : decode cX8_lowestMarriage 13 = .ok (.aload_n 0, 1) := by decide +kernel
theorem dX8_lowestMarriage_14 : decode cX8_lowestMarriage 14 = .ok (.getfield 76, 3) := by decide +kernel
theorem dX8_lowestMarriage_17 : decode cX8_lowestMarriage 17 = .ok (.iload_n 3, 1) := by decide +kernel
theorem dX8_lowestMarriage_18 : decode cX8_lowestMarriage 18 = .ok (.iaload, 1) := by decide +kernel
theorem dX8_lowestMarriage_19 : decode cX8_lowestMarriage 19 = .ok (.ifCond .ne 27, 3) := by decide +kernel
theorem dX8_lowestMarriage_22 : decode cX8_lowestMarriage 22 = .ok (.aload_n 0, 1) := by decide +kernel
theorem dX8_lowestMarriage_23 : decode cX8_lowestMarriage 23 = .ok (.getfield 70, 3) := by decide +kernel
theorem dX8_lowestMarriage_26 : decode cX8_lowestMarriage 26 = .ok (.iload_n 3, 1) := by decide +kernel
theorem dX8_lowestMarriage_27 : decode cX8_lowestMarriage 27 = .ok (.iaload, 1) := by decide +kernel
theorem dX8_lowestMarriage_28 : decode cX8_lowestMarriage 28 = .ok (.iload_n 1, 1) := by decide +kernel
theorem dX8_lowestMarriage_29 : decode cX8_lowestMarriage 29 = .ok (.if_icmp .eq 13, 3) := by decide +kernel
theorem dX8_lowestMarriage_32 : decode cX8_lowestMarriage 32 = .ok (.aload_n 0, 1) := by decide +kernel
theorem dX8_lowestMarriage_33 : decode cX8_lowestMarriage 33 = .ok (.getfield 73, 3) := by decide +kernel
theorem dX8_lowestMarriage_36 : decode cX8_lowestMarriage 36 = .ok (.iload_n 3, 1) := by decide +kernel
theorem dX8_lowestMarriage_37 : decode cX8_lowestMarriage 37 = .ok (.iaload, 1) := by decide +kernel
theorem dX8_lowestMarriage_38 : decode cX8_lowestMarriage 38 = .ok (.iload_n 1, 1) := by decide +kernel
theorem dX8_lowestMarriage_39 : decode cX8_lowestMarriage 39 = .ok (.if_icmp .ne 7, 3) := by decide +kernel
theorem dX8_lowestMarriage_42 : decode cX8_lowestMarriage 42 = .ok (.iload_n 3, 1) := by decide +kernel
theorem dX8_lowestMarriage_43 : decode cX8_lowestMarriage 43 = .ok (.goto 4, 3) := by decide +kernel
theorem dX8_lowestMarriage_46 : decode cX8_lowestMarriage 46 = .ok (.iload_n 2, 1) := by decide +kernel
theorem dX8_lowestMarriage_47 : decode cX8_lowestMarriage 47 = .ok (.istore_n 2, 1) := by decide +kernel
theorem dX8_lowestMarriage_48 : decode cX8_lowestMarriage 48 = .ok (.iinc 3 (-1), 3) := by decide +kernel
theorem dX8_lowestMarriage_51 : decode cX8_lowestMarriage 51 = .ok (.goto (-42), 3) := by decide +kernel
theorem dX8_lowestMarriage_54 : decode cX8_lowestMarriage 54 = .ok (.iload_n 2, 1) := by decide +kernel
theorem dX8_lowestMarriage_55 : decode cX8_lowestMarriage 55 = .ok (.ireturn, 1) := by decide +kernel
theorem dX8_children_0 : decode cX8_children 0 = .ok (.iconst 0, 1) := by decide +kernel
theorem dX8_children_1 : decode cX8_children 1 = .ok (.istore_n 2, 1) := by decide +kernel
theorem dX8_children_2 : decode cX8_children 2 = .ok (.iconst 0, 1) := by decide +kernel
theorem dX8_children_3 : decode cX8_children 3 = .ok (.istore_n 3, 1) := by decide +kernel
theorem dX8_children_4 : decode cX8_children 4 = .ok (.iload_n 3, 1) := by decide +kernel
theorem dX8_children_5 : decode cX8_children 5 = .ok (.aload_n 0, 1) := by decide +kernel
theorem dX8_children_6 : decode cX8_children 6 = .ok (.getfield 145, 3) := by decide +kernel
theorem dX8_children_9 : decode cX8_children 9 = .ok (.if_icmp .ge 35, 3) := by decide +kernel
theorem dX8_children_12 : decode cX8_children 12 = .ok (.iload_n 2, 1) := by decide +kernel
theorem dX8_children_13 : decode cX8_children 13 = .ok (.aload_n 0, 1) := by decide +kernel
theorem dX8_children_14 : decode cX8_children 14 = .ok (.iload_n 3, 1) := by decide +kernel
theorem dX8_children_15 : decode cX8_children 15 = .ok (.iload_n 1, 1) := by decide +kernel
theorem dX8_children_16 : decode cX8_children 16 = .ok (.invokevirtual 248, 3) := by decide +kernel
theorem dX8_children_19 : decode cX8_children 19 = .ok (.ifCond .eq 16, 3) := by decide +kernel
theorem dX8_children_22 : decode cX8_children 22 = .ok (.aload_n 0, 1) := by decide +kernel
theorem dX8_children_23 : decode cX8_children 23 = .ok (.getfield 47, 3) := by decide +kernel
theorem dX8_children_26 : decode cX8_children 26 = .ok (.iload_n 3, 1) := by decide +kernel
theorem dX8_children_27 : decode cX8_children 27 = .ok (.baload, 1) := by decide +kernel
theorem dX8_children_28 : decode cX8_children 28 = .ok (.ifCond .ne 7, 3) := by decide +kernel
theorem dX8_children_31 : decode cX8_children 31 = .ok (.iconst 1, 1) := by decide +kernel
theorem dX8_children_32 : decode cX8_children 32 = .ok (.goto 4, 3) := by decide +kernel
theorem dX8_children_35 : decode cX8_children 35 = .ok (.iconst 0, 1) := by decide +kernel
theorem dX8_children_36 : decode cX8_children 36 = .ok (.iadd, 1) := by decide +kernel
theorem dX8_children_37 : decode cX8_children 37 = .ok (.istore_n 2, 1) := by decide +kernel
theorem dX8_children_38 : decode cX8_children 38 = .ok (.iinc 3 1, 3) := by decide +kernel
theorem dX8_children_41 : decode cX8_children 41 = .ok (.goto (-37), 3) := by decide +kernel
theorem dX8_children_44 : decode cX8_children 44 = .ok (.iload_n 2, 1) := by decide +kernel
theorem dX8_children_45 : decode cX8_children 45 = .ok (.ireturn, 1) := by decide +kernel
theorem dX8_ofPerson_0 : decode cX8_ofPerson 0 = .ok (.aload_n 0, 1) := by decide +kernel
theorem dX8_ofPerson_1 : decode cX8_ofPerson 1 = .ok (.aload_n 0, 1) := by decide +kernel
theorem dX8_ofPerson_2 : decode cX8_ofPerson 2 = .ok (.iload_n 1, 1) := by decide +kernel
theorem dX8_ofPerson_3 : decode cX8_ofPerson 3 = .ok (.invokevirtual 191, 3) := by decide +kernel
theorem dX8_ofPerson_6 : decode cX8_ofPerson 6 = .ok (.ifCond .ne 7, 3) := by decide +kernel
theorem dX8_ofPerson_9 : decode cX8_ofPerson 9 = .ok (.iconst 1, 1) := by decide +kernel
theorem dX8_ofPerson_10 : decode cX8_ofPerson 10 = .ok (.goto 17, 3) := by decide +kernel
theorem dX8_ofPerson_13 : decode cX8_ofPerson 13 = .ok (.iload_n 2, 1) := by decide +kernel
theorem dX8_ofPerson_14 : decode cX8_ofPerson 14 = .ok (.iconst 0, 1) := by decide +kernel
theorem dX8_ofPerson_15 : decode cX8_ofPerson 15 = .ok (.iconst 5, 1) := by decide +kernel
theorem dX8_ofPerson_16 : decode cX8_ofPerson 16 = .ok (.invokestatic 137, 3) := by decide +kernel
theorem dX8_ofPerson_19 : decode cX8_ofPerson 19 = .ok (.ifCond .eq 7, 3) := by decide +kernel
theorem dX8_ofPerson_22 : decode cX8_ofPerson 22 = .ok (.iconst 0, 1) := by decide +kernel
theorem dX8_ofPerson_23 : decode cX8_ofPerson 23 = .ok (.goto 4, 3) := by decide +kernel
theorem dX8_ofPerson_26 : decode cX8_ofPerson 26 = .ok (.iconst 2, 1) := by decide +kernel
theorem dX8_ofPerson_27 : decode cX8_ofPerson 27 = .ok (.invokevirtual 157, 3) := by decide +kernel
theorem dX8_ofPerson_30 : decode cX8_ofPerson 30 = .ok (.ifCond .ne 5, 3) := by decide +kernel
theorem dX8_ofPerson_33 : decode cX8_ofPerson 33 = .ok (.lconst 0, 1) := by decide +kernel
theorem dX8_ofPerson_34 : decode cX8_ofPerson 34 = .ok (.lreturn, 1) := by decide +kernel
theorem dX8_ofPerson_35 : decode cX8_ofPerson 35 = .ok (.iload_n 2, 1) := by decide +kernel
theorem dX8_ofPerson_36 : decode cX8_ofPerson 36 = .ok (.ifCond .ne 10, 3) := by decide +kernel
theorem dX8_ofPerson_39 : decode cX8_ofPerson 39 = .ok (.aload_n 0, 1) := by decide +kernel
theorem dX8_ofPerson_40 : decode cX8_ofPerson 40 = .ok (.getfield 50, 3) := by decide +kernel
theorem dX8_ofPerson_43 : decode cX8_ofPerson 43 = .ok (.iload_n 1, 1) := by decide +kernel
theorem dX8_ofPerson_44 : decode cX8_ofPerson 44 = .ok (.laload, 1) := by decide +kernel
theorem dX8_ofPerson_45 : decode cX8_ofPerson 45 = .ok (.lreturn, 1) := by decide +kernel
theorem dX8_ofPerson_46 : decode cX8_ofPerson 46 = .ok (.iload_n 2, 1) := by decide +kernel
theorem dX8_ofPerson_47 : decode cX8_ofPerson 47 = .ok (.iconst 1, 1) := by decide +kernel
theorem dX8_ofPerson_48 : decode cX8_ofPerson 48 = .ok (.if_icmp .ne 20, 3) := by decide +kernel
theorem dX8_ofPerson_51 : decode cX8_ofPerson 51 = .ok (.aload_n 0, 1) := by decide +kernel
theorem dX8_ofPerson_52 : decode cX8_ofPerson 52 = .ok (.getfield 47, 3) := by decide +kernel
theorem dX8_ofPerson_55 : decode cX8_ofPerson 55 = .ok (.iload_n 1, 1) := by decide +kernel
theorem dX8_ofPerson_56 : decode cX8_ofPerson 56 = .ok (.baload, 1) := by decide +kernel
theorem dX8_ofPerson_57 : decode cX8_ofPerson 57 = .ok (.ifCond .eq 7, 3) := by decide +kernel
theorem dX8_ofPerson_60 : decode cX8_ofPerson 60 = .ok (.lconst 0, 1) := by decide +kernel
theorem dX8_ofPerson_61 : decode cX8_ofPerson 61 = .ok (.goto 56, 3) := by decide +kernel
theorem dX8_ofPerson_64 : decode cX8_ofPerson 64 = .ok (.lconst 1, 1) := by decide +kernel
theorem dX8_ofPerson_65 : decode cX8_ofPerson 65 = .ok (.goto 52, 3) := by decide +kernel
theorem dX8_ofPerson_68 : decode cX8_ofPerson 68 = .ok (.iload_n 2, 1) := by decide +kernel
theorem dX8_ofPerson_69 : decode cX8_ofPerson 69 = .ok (.iconst 2, 1) := by decide +kernel
theorem dX8_ofPerson_70 : decode cX8_ofPerson 70 = .ok (.if_icmp .ne 12, 3) := by decide +kernel
theorem dX8_ofPerson_73 : decode cX8_ofPerson 73 = .ok (.aload_n 0, 1) := by decide +kernel
theorem dX8_ofPerson_74 : decode cX8_ofPerson 74 = .ok (.iload_n 1, 1) := by decide +kernel
theorem dX8_ofPerson_75 : decode cX8_ofPerson 75 = .ok (.invokevirtual 218, 3) := by decide +kernel
theorem dX8_ofPerson_78 : decode cX8_ofPerson 78 = .ok (.i2l, 1) := by decide +kernel
theorem dX8_ofPerson_79 : decode cX8_ofPerson 79 = .ok (.goto 38, 3) := by decide +kernel
theorem dX8_ofPerson_82 : decode cX8_ofPerson 82 = .ok (.iload_n 2, 1) := by decide +kernel
theorem dX8_ofPerson_83 : decode cX8_ofPerson 83 = .ok (.iconst 3, 1) := by decide +kernel
theorem dX8_ofPerson_84 : decode cX8_ofPerson 84 = .ok (.if_icmp .ne 13, 3) := by decide +kernel
theorem dX8_ofPerson_87 : decode cX8_ofPerson 87 = .ok (.aload_n 0, 1) := by decide +kernel
theorem dX8_ofPerson_88 : decode cX8_ofPerson 88 = .ok (.getfield 64, 3) := by decide +kernel
theorem dX8_ofPerson_91 : decode cX8_ofPerson 91 = .ok (.iload_n 1, 1) := by decide +kernel
theorem dX8_ofPerson_92 : decode cX8_ofPerson 92 = .ok (.iaload, 1) := by decide +kernel
theorem dX8_ofPerson_93 : decode cX8_ofPerson 93 = .ok (.i2l, 1) := by decide +kernel
theorem dX8_ofPerson_94 : decode cX8_ofPerson 94 = .ok (.goto 23, 3) := by decide +kernel
theorem dX8_ofPerson_97 : decode cX8_ofPerson 97 = .ok (.iload_n 2, 1) := by decide +kernel
theorem dX8_ofPerson_98 : decode cX8_ofPerson 98 = .ok (.iconst 4, 1) := by decide +kernel
theorem dX8_ofPerson_99 : decode cX8_ofPerson 99 = .ok (.if_icmp .ne 12, 3) := by decide +kernel
theorem dX8_ofPerson_102 : decode cX8_ofPerson 102 = .ok (.aload_n 0, 1) := by decide +kernel
theorem dX8_ofPerson_103 : decode cX8_ofPerson 103 = .ok (.iload_n 1, 1) := by decide +kernel
theorem dX8_ofPerson_104 : decode cX8_ofPerson 104 = .ok (.invokevirtual 283, 3) := by decide +kernel
theorem dX8_ofPerson_107 : decode cX8_ofPerson 107 = .ok (.i2l, 1) := by decide +kernel
theorem dX8_ofPerson_108 : decode cX8_ofPerson 108 = .ok (.goto 9, 3) := by decide +kernel
theorem dX8_ofPerson_111 : decode cX8_ofPerson 111 = .ok (.aload_n 0, 1) := by decide +kernel
theorem dX8_ofPerson_112 : decode cX8_ofPerson 112 = .ok (.iload_n 1, 1) := by decide +kernel
theorem dX8_ofPerson_113 : decode cX8_ofPerson 113 = .ok (.invokevirtual 286, 3) := by decide +kernel
theorem dX8_ofPerson_116 : decode cX8_ofPerson 116 = .ok (.i2l, 1) := by decide +kernel
theorem dX8_ofPerson_117 : decode cX8_ofPerson 117 = .ok (.lreturn, 1) := by decide +kernel
theorem dX8_ofMarriage_0 : decode cX8_ofMarriage 0 = .ok (.aload_n 0, 1) := by decide +kernel
theorem dX8_ofMarriage_1 : decode cX8_ofMarriage 1 = .ok (.aload_n 0, 1) := by decide +kernel
theorem dX8_ofMarriage_2 : decode cX8_ofMarriage 2 = .ok (.iload_n 1, 1) := by decide +kernel
theorem dX8_ofMarriage_3 : decode cX8_ofMarriage 3 = .ok (.invokevirtual 226, 3) := by decide +kernel
theorem dX8_ofMarriage_6 : decode cX8_ofMarriage 6 = .ok (.ifCond .ne 7, 3) := by decide +kernel
theorem dX8_ofMarriage_9 : decode cX8_ofMarriage 9 = .ok (.iconst 1, 1) := by decide +kernel
theorem dX8_ofMarriage_10 : decode cX8_ofMarriage 10 = .ok (.goto 17, 3) := by decide +kernel
theorem dX8_ofMarriage_13 : decode cX8_ofMarriage 13 = .ok (.iload_n 2, 1) := by decide +kernel
theorem dX8_ofMarriage_14 : decode cX8_ofMarriage 14 = .ok (.iconst 0, 1) := by decide +kernel
theorem dX8_ofMarriage_15 : decode cX8_ofMarriage 15 = .ok (.iconst 4, 1) := by decide +kernel
theorem dX8_ofMarriage_16 : decode cX8_ofMarriage 16 = .ok (.invokestatic 137, 3) := by decide +kernel
theorem dX8_ofMarriage_19 : decode cX8_ofMarriage 19 = .ok (.ifCond .eq 7, 3) := by decide +kernel
theorem dX8_ofMarriage_22 : decode cX8_ofMarriage 22 = .ok (.iconst 0, 1) := by decide +kernel
theorem dX8_ofMarriage_23 : decode cX8_ofMarriage 23 = .ok (.goto 4, 3) := by decide +kernel
theorem dX8_ofMarriage_26 : decode cX8_ofMarriage 26 = .ok (.iconst 2, 1) := by decide +kernel
theorem dX8_ofMarriage_27 : decode cX8_ofMarriage 27 = .ok (.invokevirtual 157, 3) := by decide +kernel
theorem dX8_ofMarriage_30 : decode cX8_ofMarriage 30 = .ok (.ifCond .ne 5, 3) := by decide +kernel
theorem dX8_ofMarriage_33 : decode cX8_ofMarriage 33 = .ok (.iconst 0, 1) := by decide +kernel
theorem dX8_ofMarriage_34 : decode cX8_ofMarriage 34 = .ok (.ireturn, 1) := by decide +kernel
theorem dX8_ofMarriage_35 : decode cX8_ofMarriage 35 = .ok (.iload_n 2, 1) := by decide +kernel
theorem dX8_ofMarriage_36 : decode cX8_ofMarriage 36 = .ok (.iconst 2, 1) := by decide +kernel
theorem dX8_ofMarriage_37 : decode cX8_ofMarriage 37 = .ok (.if_icmp .ge 23, 3) := by decide +kernel
theorem dX8_ofMarriage_40 : decode cX8_ofMarriage 40 = .ok (.iload_n 2, 1) := by decide +kernel
theorem dX8_ofMarriage_41 : decode cX8_ofMarriage 41 = .ok (.ifCond .ne 12, 3) := by decide +kernel
theorem dX8_ofMarriage_44 : decode cX8_ofMarriage 44 = .ok (.aload_n 0, 1) := by decide +kernel
theorem dX8_ofMarriage_45 : decode cX8_ofMarriage 45 = .ok (.getfield 76, 3) := by decide +kernel
theorem dX8_ofMarriage_48 : decode cX8_ofMarriage 48 = .ok (.iload_n 1, 1) := by decide +kernel
theorem dX8_ofMarriage_49 : decode cX8_ofMarriage 49 = .ok (.iaload, 1) := by decide +kernel
theorem dX8_ofMarriage_50 : decode cX8_ofMarriage 50 = .ok (.goto 9, 3) := by decide +kernel
theorem dX8_ofMarriage_53 : decode cX8_ofMarriage 53 = .ok (.aload_n 0, 1) := by decide +kernel
theorem dX8_ofMarriage_54 : decode cX8_ofMarriage 54 = .ok (.getfield 70, 3) := by decide +kernel
theorem dX8_ofMarriage_57 : decode cX8_ofMarriage 57 = .ok (.iload_n 1, 1) := by decide +kernel
theorem dX8_ofMarriage_58 : decode cX8_ofMarriage 58 = .ok (.iaload, 1) := by decide +kernel
theorem dX8_ofMarriage_59 : decode cX8_ofMarriage 59 = .ok (.ireturn, 1) := by decide +kernel
theorem dX8_ofMarriage_60 : decode cX8_ofMarriage 60 = .ok (.iload_n 2, 1) := by decide +kernel
theorem dX8_ofMarriage_61 : decode cX8_ofMarriage 61 = .ok (.iconst 2, 1) := by decide +kernel
theorem dX8_ofMarriage_62 : decode cX8_ofMarriage 62 = .ok (.if_icmp .ne 12, 3) := by decide +kernel
theorem dX8_ofMarriage_65 : decode cX8_ofMarriage 65 = .ok (.aload_n 0, 1) := by decide +kernel
theorem dX8_ofMarriage_66 : decode cX8_ofMarriage 66 = .ok (.getfield 73, 3) := by decide +kernel
theorem dX8_ofMarriage_69 : decode cX8_ofMarriage 69 = .ok (.iload_n 1, 1) := by decide +kernel
theorem dX8_ofMarriage_70 : decode cX8_ofMarriage 70 = .ok (.iaload, 1) := by decide +kernel
theorem dX8_ofMarriage_71 : decode cX8_ofMarriage 71 = .ok (.goto 23, 3) := by decide +kernel
theorem dX8_ofMarriage_74 : decode cX8_ofMarriage 74 = .ok (.iload_n 2, 1) := by decide +kernel
theorem dX8_ofMarriage_75 : decode cX8_ofMarriage 75 = .ok (.iconst 3, 1) := by decide +kernel
theorem dX8_ofMarriage_76 : decode cX8_ofMarriage 76 = .ok (.if_icmp .ne 12, 3) := by decide +kernel
theorem dX8_ofMarriage_79 : decode cX8_ofMarriage 79 = .ok (.aload_n 0, 1) := by decide +kernel
theorem dX8_ofMarriage_80 : decode cX8_ofMarriage 80 = .ok (.getfield 79, 3) := by decide +kernel
theorem dX8_ofMarriage_83 : decode cX8_ofMarriage 83 = .ok (.iload_n 1, 1) := by decide +kernel
theorem dX8_ofMarriage_84 : decode cX8_ofMarriage 84 = .ok (.iaload, 1) := by decide +kernel
theorem dX8_ofMarriage_85 : decode cX8_ofMarriage 85 = .ok (.goto 9, 3) := by decide +kernel
theorem dX8_ofMarriage_88 : decode cX8_ofMarriage 88 = .ok (.aload_n 0, 1) := by decide +kernel
theorem dX8_ofMarriage_89 : decode cX8_ofMarriage 89 = .ok (.getfield 82, 3) := by decide +kernel
theorem dX8_ofMarriage_92 : decode cX8_ofMarriage 92 = .ok (.iload_n 1, 1) := by decide +kernel
theorem dX8_ofMarriage_93 : decode cX8_ofMarriage 93 = .ok (.iaload, 1) := by decide +kernel
theorem dX8_ofMarriage_94 : decode cX8_ofMarriage 94 = .ok (.ireturn, 1) := by decide +kernel
theorem dX8_ofSuit_0 : decode cX8_ofSuit 0 = .ok (.aload_n 0, 1) := by decide +kernel
theorem dX8_ofSuit_1 : decode cX8_ofSuit 1 = .ok (.aload_n 0, 1) := by decide +kernel
theorem dX8_ofSuit_2 : decode cX8_ofSuit 2 = .ok (.iload_n 1, 1) := by decide +kernel
theorem dX8_ofSuit_3 : decode cX8_ofSuit 3 = .ok (.invokevirtual 259, 3) := by decide +kernel
theorem dX8_ofSuit_6 : decode cX8_ofSuit 6 = .ok (.ifCond .ne 7, 3) := by decide +kernel
theorem dX8_ofSuit_9 : decode cX8_ofSuit 9 = .ok (.iconst 1, 1) := by decide +kernel
theorem dX8_ofSuit_10 : decode cX8_ofSuit 10 = .ok (.goto 17, 3) := by decide +kernel
theorem dX8_ofSuit_13 : decode cX8_ofSuit 13 = .ok (.iload_n 2, 1) := by decide +kernel
theorem dX8_ofSuit_14 : decode cX8_ofSuit 14 = .ok (.iconst 0, 1) := by decide +kernel
theorem dX8_ofSuit_15 : decode cX8_ofSuit 15 = .ok (.iconst 4, 1) := by decide +kernel
theorem dX8_ofSuit_16 : decode cX8_ofSuit 16 = .ok (.invokestatic 137, 3) := by decide +kernel
theorem dX8_ofSuit_19 : decode cX8_ofSuit 19 = .ok (.ifCond .eq 7, 3) := by decide +kernel
theorem dX8_ofSuit_22 : decode cX8_ofSuit 22 = .ok (.iconst 0, 1) := by decide +kernel
theorem dX8_ofSuit_23 : decode cX8_ofSuit 23 = .ok (.goto 4, 3) := by decide +kernel
theorem dX8_ofSuit_26 : decode cX8_ofSuit 26 = .ok (.iconst 2, 1) := by decide +kernel
theorem dX8_ofSuit_27 : decode cX8_ofSuit 27 = .ok (.invokevirtual 157, 3) := by decide +kernel
theorem dX8_ofSuit_30 : decode cX8_ofSuit 30 = .ok (.ifCond .ne 5, 3) := by decide +kernel
theorem dX8_ofSuit_33 : decode cX8_ofSuit 33 = .ok (.iconst 0, 1) := by decide +kernel
theorem dX8_ofSuit_34 : decode cX8_ofSuit 34 = .ok (.ireturn, 1) := by decide +kernel
theorem dX8_ofSuit_35 : decode cX8_ofSuit 35 = .ok (.iload_n 2, 1) := by decide +kernel
theorem dX8_ofSuit_36 : decode cX8_ofSuit 36 = .ok (.iconst 2, 1) := by decide +kernel
theorem dX8_ofSuit_37 : decode cX8_ofSuit 37 = .ok (.if_icmp .ge 23, 3) := by decide +kernel
theorem dX8_ofSuit_40 : decode cX8_ofSuit 40 = .ok (.iload_n 2, 1) := by decide +kernel
theorem dX8_ofSuit_41 : decode cX8_ofSuit 41 = .ok (.ifCond .ne 12, 3) := by decide +kernel
theorem dX8_ofSuit_44 : decode cX8_ofSuit 44 = .ok (.aload_n 0, 1) := by decide +kernel
theorem dX8_ofSuit_45 : decode cX8_ofSuit 45 = .ok (.getfield 106, 3) := by decide +kernel
theorem dX8_ofSuit_48 : decode cX8_ofSuit 48 = .ok (.iload_n 1, 1) := by decide +kernel
theorem dX8_ofSuit_49 : decode cX8_ofSuit 49 = .ok (.iaload, 1) := by decide +kernel
theorem dX8_ofSuit_50 : decode cX8_ofSuit 50 = .ok (.goto 9, 3) := by decide +kernel
theorem dX8_ofSuit_53 : decode cX8_ofSuit 53 = .ok (.aload_n 0, 1) := by decide +kernel
theorem dX8_ofSuit_54 : decode cX8_ofSuit 54 = .ok (.getfield 97, 3) := by decide +kernel
theorem dX8_ofSuit_57 : decode cX8_ofSuit 57 = .ok (.iload_n 1, 1) := by decide +kernel
theorem dX8_ofSuit_58 : decode cX8_ofSuit 58 = .ok (.iaload, 1) := by decide +kernel
theorem dX8_ofSuit_59 : decode cX8_ofSuit 59 = .ok (.ireturn, 1) := by decide +kernel
theorem dX8_ofSuit_60 : decode cX8_ofSuit 60 = .ok (.iload_n 2, 1) := by decide +kernel
theorem dX8_ofSuit_61 : decode cX8_ofSuit 61 = .ok (.iconst 2, 1) := by decide +kernel
theorem dX8_ofSuit_62 : decode cX8_ofSuit 62 = .ok (.if_icmp .ne 11, 3) := by decide +kernel
theorem dX8_ofSuit_65 : decode cX8_ofSuit 65 = .ok (.aload_n 0, 1) := by decide +kernel
theorem dX8_ofSuit_66 : decode cX8_ofSuit 66 = .ok (.iload_n 1, 1) := by decide +kernel
theorem dX8_ofSuit_67 : decode cX8_ofSuit 67 = .ok (.invokevirtual 268, 3) := by decide +kernel
theorem dX8_ofSuit_70 : decode cX8_ofSuit 70 = .ok (.goto 24, 3) := by decide +kernel
theorem dX8_ofSuit_73 : decode cX8_ofSuit 73 = .ok (.iload_n 2, 1) := by decide +kernel
theorem dX8_ofSuit_74 : decode cX8_ofSuit 74 = .ok (.iconst 3, 1) := by decide +kernel
theorem dX8_ofSuit_75 : decode cX8_ofSuit 75 = .ok (.if_icmp .ne 13, 3) := by decide +kernel
theorem dX8_ofSuit_78 : decode cX8_ofSuit 78 = .ok (.aload_n 0, 1) := by decide +kernel
theorem dX8_ofSuit_79 : decode cX8_ofSuit 79 = .ok (.getfield 115, 3) := by decide +kernel
theorem dX8_ofSuit_82 : decode cX8_ofSuit 82 = .ok (.iload_n 1, 1) := by decide +kernel
theorem dX8_ofSuit_83 : decode cX8_ofSuit 83 = .ok (.laload, 1) := by decide +kernel
theorem dX8_ofSuit_84 : decode cX8_ofSuit 84 = .ok (.l2i, 1) := by decide +kernel
theorem dX8_ofSuit_85 : decode cX8_ofSuit 85 = .ok (.goto 9, 3) := by decide +kernel
theorem dX8_ofSuit_88 : decode cX8_ofSuit 88 = .ok (.aload_n 0, 1) := by decide +kernel
theorem dX8_ofSuit_89 : decode cX8_ofSuit 89 = .ok (.getfield 121, 3) := by decide +kernel
theorem dX8_ofSuit_92 : decode cX8_ofSuit 92 = .ok (.iload_n 1, 1) := by decide +kernel
theorem dX8_ofSuit_93 : decode cX8_ofSuit 93 = .ok (.iaload, 1) := by decide +kernel
theorem dX8_ofSuit_94 : decode cX8_ofSuit 94 = .ok (.ireturn, 1) := by decide +kernel
theorem dX8_treasury_0 : decode cX8_treasury 0 = .ok (.aload_n 0, 1) := by decide +kernel
theorem dX8_treasury_1 : decode cX8_treasury 1 = .ok (.iconst 0, 1) := by decide +kernel
theorem dX8_treasury_2 : decode cX8_treasury 2 = .ok (.putfield 130, 3) := by decide +kernel
theorem dX8_treasury_5 : decode cX8_treasury 5 = .ok (.aload_n 0, 1) := by decide +kernel
theorem dX8_treasury_6 : decode cX8_treasury 6 = .ok (.getfield 255, 3) := by decide +kernel
theorem dX8_treasury_9 : decode cX8_treasury 9 = .ok (.lreturn, 1) := by decide +kernel
theorem dX8_all_0 : decode cX8_all 0 = .ok (.aload_n 0, 1) := by decide +kernel
theorem dX8_all_1 : decode cX8_all 1 = .ok (.iconst 0, 1) := by decide +kernel
theorem dX8_all_2 : decode cX8_all 2 = .ok (.putfield 130, 3) := by decide +kernel
theorem dX8_all_5 : decode cX8_all 5 = .ok (.aload_n 0, 1) := by decide +kernel
theorem dX8_all_6 : decode cX8_all 6 = .ok (.getfield 255, 3) := by decide +kernel
theorem dX8_all_9 : decode cX8_all 9 = .ok (.lstore_n 1, 1) := by decide +kernel
theorem dX8_all_10 : decode cX8_all 10 = .ok (.iconst 0, 1) := by decide +kernel
theorem dX8_all_11 : decode cX8_all 11 = .ok (.istore_n 3, 1) := by decide +kernel
theorem dX8_all_12 : decode cX8_all 12 = .ok (.iload_n 3, 1) := by decide +kernel
theorem dX8_all_13 : decode cX8_all 13 = .ok (.aload_n 0, 1) := by decide +kernel
theorem dX8_all_14 : decode cX8_all 14 = .ok (.getfield 145, 3) := by decide +kernel
theorem dX8_all_17 : decode cX8_all 17 = .ok (.if_icmp .ge 18, 3) := by decide +kernel
theorem dX8_all_20 : decode cX8_all 20 = .ok (.lload_n 1, 1) := by decide +kernel
theorem dX8_all_21 : decode cX8_all 21 = .ok (.aload_n 0, 1) := by decide +kernel
theorem dX8_all_22 : decode cX8_all 22 = .ok (.getfield 50, 3) := by decide +kernel
theorem dX8_all_25 : decode cX8_all 25 = .ok (.iload_n 3, 1) := by decide +kernel
theorem dX8_all_26 : decode cX8_all 26 = .ok (.laload, 1) := by decide +kernel
theorem dX8_all_27 : decode cX8_all 27 = .ok (.ladd, 1) := by decide +kernel
theorem dX8_all_28 : decode cX8_all 28 = .ok (.lstore_n 1, 1) := by decide +kernel
theorem dX8_all_29 : decode cX8_all 29 = .ok (.iinc 3 1, 3) := by decide +kernel
theorem dX8_all_32 : decode cX8_all 32 = .ok (.goto (-20), 3) := by decide +kernel
theorem dX8_all_35 : decode cX8_all 35 = .ok (.lload_n 1, 1) := by decide +kernel
theorem dX8_all_36 : decode cX8_all 36 = .ok (.lreturn, 1) := by decide +kernel
theorem dX8_pass_0 : decode cX8_pass 0 = .ok (.aload_n 0, 1) := by decide +kernel
theorem dX8_pass_1 : decode cX8_pass 1 = .ok (.iload_n 1, 1) := by decide +kernel
theorem dX8_pass_2 : decode cX8_pass 2 = .ok (.iconst 1, 1) := by decide +kernel
theorem dX8_pass_3 : decode cX8_pass 3 = .ok (.sipush 2000, 3) := by decide +kernel
theorem dX8_pass_6 : decode cX8_pass 6 = .ok (.invokestatic 137, 3) := by decide +kernel
theorem dX8_pass_9 : decode cX8_pass 9 = .ok (.ifCond .ne 7, 3) := by decide +kernel
theorem dX8_pass_12 : decode cX8_pass 12 = .ok (.iconst 1, 1) := by decide +kernel
theorem dX8_pass_13 : decode cX8_pass 13 = .ok (.goto 20, 3) := by decide +kernel
theorem dX8_pass_16 : decode cX8_pass 16 = .ok (.aload_n 0, 1) := by decide +kernel
theorem dX8_pass_17 : decode cX8_pass 17 = .ok (.getfield 154, 3) := by decide +kernel
theorem dX8_pass_20 : decode cX8_pass 20 = .ok (.iload_n 1, 1) := by decide +kernel
theorem dX8_pass_21 : decode cX8_pass 21 = .ok (.iadd, 1) := by decide +kernel
theorem dX8_pass_22 : decode cX8_pass 22 = .ok (.sipush 30000, 3) := by decide +kernel
theorem dX8_pass_25 : decode cX8_pass 25 = .ok (.if_icmp .le 7, 3) := by decide +kernel
theorem dX8_pass_28 : decode cX8_pass 28 = .ok (.iconst 2, 1) := by decide +kernel
theorem dX8_pass_29 : decode cX8_pass 29 = .ok (.goto 4, 3) := by decide +kernel
theorem dX8_pass_32 : decode cX8_pass 32 = .ok (.iconst 0, 1) := by decide +kernel
theorem dX8_pass_33 : decode cX8_pass 33 = .ok (.invokevirtual 157, 3) := by decide +kernel
theorem dX8_pass_36 : decode cX8_pass 36 = .ok (.ifCond .ne 5, 3) := by decide +kernel
theorem dX8_pass_39 : decode cX8_pass 39 = .ok (.iconst 0, 1) := by decide +kernel
theorem dX8_pass_40 : decode cX8_pass 40 = .ok (.ireturn, 1) := by decide +kernel
theorem dX8_pass_41 : decode cX8_pass 41 = .ok (.iconst 0, 1) := by decide +kernel
theorem dX8_pass_42 : decode cX8_pass 42 = .ok (.istore_n 2, 1) := by decide +kernel
theorem dX8_pass_43 : decode cX8_pass 43 = .ok (.iload_n 2, 1) := by decide +kernel
theorem dX8_pass_44 : decode cX8_pass 44 = .ok (.iload_n 1, 1) := by decide +kernel
theorem dX8_pass_45 : decode cX8_pass 45 = .ok (.if_icmp .ge 53, 3) := by decide +kernel
theorem dX8_pass_48 : decode cX8_pass 48 = .ok (.aload_n 0, 1) := by decide +kernel
theorem dX8_pass_49 : decode cX8_pass 49 = .ok (.dup, 1) := by decide +kernel
theorem dX8_pass_50 : decode cX8_pass 50 = .ok (.getfield 154, 3) := by decide +kernel
theorem dX8_pass_53 : decode cX8_pass 53 = .ok (.iconst 1, 1) := by decide +kernel
theorem dX8_pass_54 : decode cX8_pass 54 = .ok (.iadd, 1) := by decide +kernel
theorem dX8_pass_55 : decode cX8_pass 55 = .ok (.putfield 154, 3) := by decide +kernel
theorem dX8_pass_58 : decode cX8_pass 58 = .ok (.iconst 0, 1) := by decide +kernel
theorem dX8_pass_59 : decode cX8_pass 59 = .ok (.istore_n 3, 1) := by decide +kernel
theorem dX8_pass_60 : decode cX8_pass 60 = .ok (.iload_n 3, 1) := by decide +kernel
theorem dX8_pass_61 : decode cX8_pass 61 = .ok (.aload_n 0, 1) := by decide +kernel
theorem dX8_pass_62 : decode cX8_pass 62 = .ok (.getfield 145, 3) := by decide +kernel
theorem dX8_pass_65 : decode cX8_pass 65 = .ok (.if_icmp .ge 27, 3) := by decide +kernel
theorem dX8_pass_68 : decode cX8_pass 68 = .ok (.aload_n 0, 1) := by decide +kernel
theorem dX8_pass_69 : decode cX8_pass 69 = .ok (.getfield 64, 3) := by decide +kernel
theorem dX8_pass_72 : decode cX8_pass 72 = .ok (.iload_n 3, 1) := by decide +kernel
theorem dX8_pass_73 : decode cX8_pass 73 = .ok (.iaload, 1) := by decide +kernel
theorem dX8_pass_74 : decode cX8_pass 74 = .ok (.aload_n 0, 1) := by decide +kernel
theorem dX8_pass_75 : decode cX8_pass 75 = .ok (.getfield 154, 3) := by decide +kernel
theorem dX8_pass_78 : decode cX8_pass 78 = .ok (.if_icmp .ne 8, 3) := by decide +kernel
theorem dX8_pass_81 : decode cX8_pass 81 = .ok (.aload_n 0, 1) := by decide +kernel
theorem dX8_pass_82 : decode cX8_pass 82 = .ok (.iload_n 3, 1) := by decide +kernel
theorem dX8_pass_83 : decode cX8_pass 83 = .ok (.invokevirtual 289, 3) := by decide +kernel
theorem dX8_pass_86 : decode cX8_pass 86 = .ok (.iinc 3 1, 3) := by decide +kernel
theorem dX8_pass_89 : decode cX8_pass 89 = .ok (.goto (-29), 3) := by decide +kernel
theorem dX8_pass_92 : decode cX8_pass 92 = .ok (.iinc 2 1, 3) := by decide +kernel
theorem dX8_pass_95 : decode cX8_pass 95 = .ok (.goto (-52), 3) := by decide +kernel
theorem dX8_pass_98 : decode cX8_pass 98 = .ok (.aload_n 0, 1) := by decide +kernel
theorem dX8_pass_99 : decode cX8_pass 99 = .ok (.getfield 154, 3) := by decide +kernel
theorem dX8_pass_102 : decode cX8_pass 102 = .ok (.ireturn, 1) := by decide +kernel
