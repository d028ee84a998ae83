/-! decode rows -/
theorem dX12_init_0 : decode cX12_init 0 = .ok (.aload_n 0, 1) := by decide +kernel
theorem dX12_init_1 : decode cX12_init 1 = .ok (.invokespecial 1, 3) := by decide +kernel
theorem dX12_init_4 : decode cX12_init 4 = .ok (.aload_n 0, 1) := by decide +kernel
theorem dX12_init_5 : decode cX12_init 5 = .ok (.sipush 2400, 3) := by decide +kernel
theorem dX12_init_8 : decode cX12_init 8 = .ok (.newarray .byte, 2) := by decide +kernel
theorem dX12_init_10 : decode cX12_init 10 = .ok (.putfield 7, 3) := by decide +kernel
theorem dX12_init_13 : decode cX12_init 13 = .ok (.aload_n 0, 1) := by decide +kernel
theorem dX12_init_14 : decode cX12_init 14 = .ok (.iconst 4, 1) := by decide +kernel
theorem dX12_init_15 : decode cX12_init 15 = .ok (.newarray .int, 2) := by decide +kernel
theorem dX12_init_17 : decode cX12_init 17 = .ok (.putfield 13, 3) := by decide +kernel
theorem dX12_init_20 : decode cX12_init 20 = .ok (.aload_n 0, 1) := by decide +kernel
theorem dX12_init_21 : decode cX12_init 21 = .ok (.iconst 4, 1) := by decide +kernel
theorem dX12_init_22 : decode cX12_init 22 = .ok (.newarray .int, 2) := by decide +kernel
theorem dX12_init_24 : decode cX12_init 24 = .ok (.putfield 17, 3) := by decide +kernel
theorem dX12_init_27 : decode cX12_init 27 = .ok (.aload_n 0, 1) := by decide +kernel
theorem dX12_init_28 : decode cX12_init 28 = .ok (.iconst 4, 1) := by decide +kernel
theorem dX12_init_29 : decode cX12_init 29 = .ok (.newarray .int, 2) := by decide +kernel
theorem dX12_init_31 : decode cX12_init 31 = .ok (.putfield 20, 3) := by decide +kernel
theorem dX12_init_34 : decode cX12_init 34 = .ok (.aload_n 0, 1) := by decide +kernel
theorem dX12_init_35 : decode cX12_init 35 = .ok (.bipush 16, 2) := by decide +kernel
theorem dX12_init_37 : decode cX12_init 37 = .ok (.newarray .int, 2) := by decide +kernel
theorem dX12_init_39 : decode cX12_init 39 = .ok (.putfield 23, 3) := by decide +kernel
theorem dX12_init_42 : decode cX12_init 42 = .ok (.aload_n 0, 1) := by decide +kernel
theorem dX12_init_43 : decode cX12_init 43 = .ok (.bipush 104, 2) := by decide +kernel
theorem dX12_init_45 : decode cX12_init 45 = .ok (.newarray .int, 2) := by decide +kernel
theorem dX12_init_47 : decode cX12_init 47 = .ok (.putfield 26, 3) := by decide +kernel
theorem dX12_init_50 : decode cX12_init 50 = .ok (.aload_n 0, 1) := by decide +kernel
theorem dX12_init_51 : decode cX12_init 51 = .ok (.sipush 1072, 3) := by decide +kernel
theorem dX12_init_54 : decode cX12_init 54 = .ok (.newarray .int, 2) := by decide +kernel
theorem dX12_init_56 : decode cX12_init 56 = .ok (.putfield 29, 3) := by decide +kernel
theorem dX12_init_59 : decode cX12_init 59 = .ok (.aload_n 0, 1) := by decide +kernel
theorem dX12_init_60 : decode cX12_init 60 = .ok (.sipush 968, 3) := by decide +kernel
theorem dX12_init_63 : decode cX12_init 63 = .ok (.newarray .int, 2) := by decide +kernel
theorem dX12_init_65 : decode cX12_init 65 = .ok (.putfield 32, 3) := by decide +kernel
theorem dX12_init_68 : decode cX12_init 68 = .ok (.aload_n 0, 1) := by decide +kernel
theorem dX12_init_69 : decode cX12_init 69 = .ok (.sipush 136, 3) := by decide +kernel
theorem dX12_init_72 : decode cX12_init 72 = .ok (.newarray .int, 2) := by decide +kernel
theorem dX12_init_74 : decode cX12_init 74 = .ok (.putfield 35, 3) := by decide +kernel
theorem dX12_init_77 : decode cX12_init 77 = .ok (.aload_n 0, 1) := by decide +kernel
theorem dX12_init_78 : decode cX12_init 78 = .ok (.sipush 134, 3) := by decide +kernel
theorem dX12_init_81 : decode cX12_init 81 = .ok (.newarray .int, 2) := by decide +kernel
theorem dX12_init_83 : decode cX12_init 83 = .ok (.putfield 38, 3) := by decide +kernel
theorem dX12_init_86 : decode cX12_init 86 = .ok (.aload_n 0, 1) := by decide +kernel
theorem dX12_init_87 : decode cX12_init 87 = .ok (.iconst 3, 1) := by decide +kernel
theorem dX12_init_88 : decode cX12_init 88 = .ok (.newarray .int, 2) := by decide +kernel
theorem dX12_init_90 : decode cX12_init 90 = .ok (.putfield 41, 3) := by decide +kernel
theorem dX12_init_93 : decode cX12_init 93 = .ok (.aload_n 0, 1) := by decide +kernel
theorem dX12_init_94 : decode cX12_init 94 = .ok (.bipush 10, 2) := by decide +kernel
theorem dX12_init_96 : decode cX12_init 96 = .ok (.newarray .int, 2) := by decide +kernel
theorem dX12_init_98 : decode cX12_init 98 = .ok (.putfield 44, 3) := by decide +kernel
theorem dX12_init_101 : decode cX12_init 101 = .ok (.aload_n 0, 1) := by decide +kernel
theorem dX12_init_102 : decode cX12_init 102 = .ok (.bipush 10, 2) := by decide +kernel
theorem dX12_init_104 : decode cX12_init 104 = .ok (.newarray .int, 2) := by decide +kernel
theorem dX12_init_106 : decode cX12_init 106 = .ok (.putfield 47, 3) := by decide +kernel
theorem dX12_init_109 : decode cX12_init 109 = .ok (.aload_n 0, 1) := by decide +kernel
theorem dX12_init_110 : decode cX12_init 110 = .ok (.bipush 10, 2) := by decide +kernel
theorem dX12_init_112 : decode cX12_init 112 = .ok (.newarray .int, 2) := by decide +kernel
theorem dX12_init_114 : decode cX12_init 114 = .ok (.putfield 50, 3) := by decide +kernel
theorem dX12_init_117 : decode cX12_init 117 = .ok (.aload_n 0, 1) := by decide +kernel
theorem dX12_init_118 : decode cX12_init 118 = .ok (.bipush 10, 2) := by decide +kernel
theorem dX12_init_120 : decode cX12_init 120 = .ok (.newarray .int, 2) := by decide +kernel
theorem dX12_init_122 : decode cX12_init 122 = .ok (.putfield 53, 3) := by decide +kernel
theorem dX12_init_125 : decode cX12_init 125 = .ok (.aload_n 0, 1) := by decide +kernel
theorem dX12_init_126 : decode cX12_init 126 = .ok (.bipush 10, 2) := by decide +kernel
theorem dX12_init_128 : decode cX12_init 128 = .ok (.newarray .int, 2) := by decide +kernel
theorem dX12_init_130 : decode cX12_init 130 = .ok (.putfield 56, 3) := by decide +kernel
theorem dX12_init_133 : decode cX12_init 133 = .ok (.aload_n 0, 1) := by decide +kernel
theorem dX12_init_134 : decode cX12_init 134 = .ok (.iconst 4, 1) := by decide +kernel
theorem dX12_init_135 : decode cX12_init 135 = .ok (.newarray .int, 2) := by decide +kernel
theorem dX12_init_137 : decode cX12_init 137 = .ok (.putfield 59, 3) := by decide +kernel
theorem dX12_init_140 : decode cX12_init 140 = .ok (.aload_n 0, 1) := by decide +kernel
theorem dX12_init_141 : decode cX12_init 141 = .ok (.iconst 4, 1) := by decide +kernel
theorem dX12_init_142 : decode cX12_init 142 = .ok (.newarray .int, 2) := by decide +kernel
theorem dX12_init_144 : decode cX12_init 144 = .ok (.putfield 62, 3) := by decide +kernel
theorem dX12_init_147 : decode cX12_init 147 = .ok (.aload_n 0, 1) := by decide +kernel
theorem dX12_init_148 : decode cX12_init 148 = .ok (.iconst 4, 1) := by decide +kernel
theorem dX12_init_149 : decode cX12_init 149 = .ok (.newarray .int, 2) := by decide +kernel
theorem dX12_init_151 : decode cX12_init 151 = .ok (.putfield 65, 3) := by decide +kernel
theorem dX12_init_154 : decode cX12_init 154 = .ok (.aload_n 0, 1) := by decide +kernel
theorem dX12_init_155 : decode cX12_init 155 = .ok (.iconst 4, 1) := by decide +kernel
theorem dX12_init_156 : decode cX12_init 156 = .ok (.newarray .int, 2) := by decide +kernel
theorem dX12_init_158 : decode cX12_init 158 = .ok (.putfield 68, 3) := by decide +kernel
theorem dX12_init_161 : decode cX12_init 161 = .ok (.aload_n 0, 1) := by decide +kernel
theorem dX12_init_162 : decode cX12_init 162 = .ok (.iconst 4, 1) := by decide +kernel
theorem dX12_init_163 : decode cX12_init 163 = .ok (.newarray .int, 2) := by decide +kernel
theorem dX12_init_165 : decode cX12_init 165 = .ok (.putfield 71, 3) := by decide +kernel
theorem dX12_init_168 : decode cX12_init 168 = .ok (.aload_n 0, 1) := by decide +kernel
theorem dX12_init_169 : decode cX12_init 169 = .ok (.iconst 4, 1) := by decide +kernel
theorem dX12_init_170 : decode cX12_init 170 = .ok (.newarray .int, 2) := by decide +kernel
theorem dX12_init_172 : decode cX12_init 172 = .ok (.putfield 74, 3) := by decide +kernel
theorem dX12_init_175 : decode cX12_init 175 = .ok (.aload_n 0, 1) := by decide +kernel
theorem dX12_init_176 : decode cX12_init 176 = .ok (.bipush 40, 2) := by decide +kernel
theorem dX12_init_178 : decode cX12_init 178 = .ok (.newarray .int, 2) := by decide +kernel
theorem dX12_init_180 : decode cX12_init 180 = .ok (.putfield 77, 3) := by decide +kernel
theorem dX12_init_183 : decode cX12_init 183 = .ok (.aload_n 0, 1) := by decide +kernel
theorem dX12_init_184 : decode cX12_init 184 = .ok (.bipush 40, 2) := by decide +kernel
theorem dX12_init_186 : decode cX12_init 186 = .ok (.newarray .int, 2) := by decide +kernel
theorem dX12_init_188 : decode cX12_init 188 = .ok (.putfield 80, 3) := by decide +kernel
theorem dX12_init_191 : decode cX12_init 191 = .ok (.aload_n 0, 1) := by decide +kernel
theorem dX12_init_192 : decode cX12_init 192 = .ok (.bipush 40, 2) := by decide +kernel
theorem dX12_init_194 : decode cX12_init 194 = .ok (.newarray .int, 2) := by decide +kernel
theorem dX12_init_196 : decode cX12_init 196 = .ok (.putfield 83, 3) := by decide +kernel
theorem dX12_init_199 : decode cX12_init 199 = .ok (.aload_n 0, 1) := by decide +kernel
theorem dX12_init_200 : decode cX12_init 200 = .ok (.bipush 64, 2) := by decide +kernel
theorem dX12_init_202 : decode cX12_init 202 = .ok (.newarray .int, 2) := by decide +kernel
theorem dX12_init_204 : decode cX12_init 204 = .ok (.putfield 86, 3) := by decide +kernel
theorem dX12_init_207 : decode cX12_init 207 = .ok (.aload_n 0, 1) := by decide +kernel
theorem dX12_init_208 : decode cX12_init 208 = .ok (.bipush 64, 2) := by decide +kernel
theorem dX12_init_210 : decode cX12_init 210 = .ok (.newarray .int, 2) := by decide +kernel
theorem dX12_init_212 : decode cX12_init 212 = .ok (.putfield 89, 3) := by decide +kernel
theorem dX12_init_215 : decode cX12_init 215 = .ok (.aload_n 0, 1) := by decide +kernel
theorem dX12_init_216 : decode cX12_init 216 = .ok (.bipush 64, 2) := by decide +kernel
theorem dX12_init_218 : decode cX12_init 218 = .ok (.newarray .int, 2) := by decide +kernel
theorem dX12_init_220 : decode cX12_init 220 = .ok (.putfield 92, 3) := by decide +kernel
theorem dX12_init_223 : decode cX12_init 223 = .ok (.aload_n 0, 1) := by decide +kernel
theorem dX12_init_224 : decode cX12_init 224 = .ok (.bipush 64, 2) := by decide +kernel
theorem dX12_init_226 : decode cX12_init 226 = .ok (.newarray .int, 2) := by decide +kernel
theorem dX12_init_228 : decode cX12_init 228 = .ok (.putfield 95, 3) := by decide +kernel
theorem dX12_init_231 : decode cX12_init 231 = .ok (.aload_n 0, 1) := by decide +kernel
theorem dX12_init_232 : decode cX12_init 232 = .ok (.bipush 64, 2) := by decide +kernel
theorem dX12_init_234 : decode cX12_init 234 = .ok (.newarray .int, 2) := by decide +kernel
theorem dX12_init_236 : decode cX12_init 236 = .ok (.putfield 98, 3) := by decide +kernel
theorem dX12_init_239 : decode cX12_init 239 = .ok (.aload_n 0, 1) := by decide +kernel
theorem dX12_init_240 : decode cX12_init 240 = .ok (.bipush 64, 2) := by decide +kernel
theorem dX12_init_242 : decode cX12_init 242 = .ok (.newarray .int, 2) := by decide +kernel
theorem dX12_init_244 : decode cX12_init 244 = .ok (.putfield 101, 3) := by decide +kernel
theorem dX12_init_247 : decode cX12_init 247 = .ok (.aload_n 0, 1) := by decide +kernel
theorem dX12_init_248 : decode cX12_init 248 = .ok (.bipush 64, 2) := by decide +kernel
theorem dX12_init_250 : decode cX12_init 250 = .ok (.newarray .int, 2) := by decide +kernel
theorem dX12_init_252 : decode cX12_init 252 = .ok (.putfield 104, 3) := by decide +kernel
theorem dX12_init_255 : decode cX12_init 255 = .ok (.aload_n 0, 1) := by decide +kernel
theorem dX12_init_256 : decode cX12_init 256 = .ok (.bipush 64, 2) := by decide +kernel
theorem dX12_init_258 : decode cX12_init 258 = .ok (.newarray .int, 2) := by decide +kernel
theorem dX12_init_260 : decode cX12_init 260 = .ok (.putfield 107, 3) := by decide +kernel
theorem dX12_init_263 : decode cX12_init 263 = .ok (.aload_n 0, 1) := by decide +kernel
theorem dX12_init_264 : decode cX12_init 264 = .ok (.sipush 640, 3) := by decide +kernel
theorem dX12_init_267 : decode cX12_init 267 = .ok (.newarray .int, 2) := by decide +kernel
theorem dX12_init_269 : decode cX12_init 269 = .ok (.putfield 110, 3) := by decide +kernel
theorem dX12_init_272 : decode cX12_init 272 = .ok (.aload_n 0, 1) := by decide +kernel
theorem dX12_init_273 : decode cX12_init 273 = .ok (.bipush 7, 2) := by decide +kernel
theorem dX12_init_275 : decode cX12_init 275 = .ok (.newarray .int, 2) := by decide +kernel
theorem dX12_init_277 : decode cX12_init 277 = .ok (.putfield 113, 3) := by decide +kernel
theorem dX12_init_280 : decode cX12_init 280 = .ok (.aload_n 0, 1) := by decide +kernel
theorem dX12_init_281 : decode cX12_init 281 = .ok (.bipush 10, 2) := by decide +kernel
theorem dX12_init_283 : decode cX12_init 283 = .ok (.newarray .int, 2) := by decide +kernel
theorem dX12_init_285 : decode cX12_init 285 = .ok (.putfield 116, 3) := by decide +kernel
theorem dX12_init_288 : decode cX12_init 288 = .ok (.aload_n 0, 1) := by decide +kernel
theorem dX12_init_289 : decode cX12_init 289 = .ok (.bipush 10, 2) := by decide +kernel
theorem dX12_init_291 : decode cX12_init 291 = .ok (.newarray .int, 2) := by decide +kernel
theorem dX12_init_293 : decode cX12_init 293 = .ok (.putfield 119, 3) := by decide +kernel
theorem dX12_init_296 : decode cX12_init 296 = .ok (.aload_n 0, 1) := by decide +kernel
theorem dX12_init_297 : decode cX12_init 297 = .ok (.bipush 10, 2) := by decide +kernel
theorem dX12_init_299 : decode cX12_init 299 = .ok (.newarray .int, 2) := by decide +kernel
theorem dX12_init_301 : decode cX12_init 301 = .ok (.putfield 122, 3) := by decide +kernel
theorem dX12_init_304 : decode cX12_init 304 = .ok (.aload_n 0, 1) := by decide +kernel
theorem dX12_init_305 : decode cX12_init 305 = .ok (.bipush 64, 2) := by decide +kernel
theorem dX12_init_307 : decode cX12_init 307 = .ok (.newarray .int, 2) := by decide +kernel
theorem dX12_init_309 : decode cX12_init 309 = .ok (.putfield 125, 3) := by decide +kernel
theorem dX12_init_312 : decode cX12_init 312 = .ok (.aload_n 0, 1) := by decide +kernel
theorem dX12_init_313 : decode cX12_init 313 = .ok (.bipush 10, 2) := by decide +kernel
theorem dX12_init_315 : decode cX12_init 315 = .ok (.newarray .int, 2) := by decide +kernel
theorem dX12_init_317 : decode cX12_init 317 = .ok (.putfield 128, 3) := by decide +kernel
theorem dX12_init_320 : decode cX12_init 320 = .ok (.aload_n 0, 1) := by decide +kernel
theorem dX12_init_321 : decode cX12_init 321 = .ok (.bipush 6, 2) := by decide +kernel
theorem dX12_init_323 : decode cX12_init 323 = .ok (.newarray .int, 2) := by decide +kernel
theorem dX12_init_325 : decode cX12_init 325 = .ok (.putfield 131, 3) := by decide +kernel
theorem dX12_init_328 : decode cX12_init 328 = .ok (.aload_n 0, 1) := by decide +kernel
theorem dX12_init_329 : decode cX12_init 329 = .ok (.bipush 6, 2) := by decide +kernel
theorem dX12_init_331 : decode cX12_init 331 = .ok (.newarray .int, 2) := by decide +kernel
theorem dX12_init_333 : decode cX12_init 333 = .ok (.putfield 134, 3) := by decide +kernel
theorem dX12_init_336 : decode cX12_init 336 = .ok (.aload_n 0, 1) := by decide +kernel
theorem dX12_init_337 : decode cX12_init 337 = .ok (.sipush 1010, 3) := by decide +kernel
theorem dX12_init_340 : decode cX12_init 340 = .ok (.newarray .int, 2) := by decide +kernel
theorem dX12_init_342 : decode cX12_init 342 = .ok (.putfield 137, 3) := by decide +kernel
theorem dX12_init_345 : decode cX12_init 345 = .ok (.aload_n 0, 1) := by decide +kernel
theorem dX12_init_346 : decode cX12_init 346 = .ok (.iconst 3, 1) := by decide +kernel
theorem dX12_init_347 : decode cX12_init 347 = .ok (.newarray .boolean, 2) := by decide +kernel
theorem dX12_init_349 : decode cX12_init 349 = .ok (.putfield 140, 3) := by decide +kernel
theorem dX12_init_352 : decode cX12_init 352 = .ok (.aload_n 0, 1) := by decide +kernel
theorem dX12_init_353 : decode cX12_init 353 = .ok (.getfield 20, 3) := by decide +kernel
theorem dX12_init_356 : decode cX12_init 356 = .ok (.iconst 0, 1) := by decide +kernel
theorem dX12_init_357 : decode cX12_init 357 = .ok (.iconst (-1), 1) := by decide +kernel
theorem dX12_init_358 : decode cX12_init 358 = .ok (.iastore, 1) := by decide +kernel
theorem dX12_init_359 : decode cX12_init 359 = .ok (.return_, 1) := by decide +kernel
theorem dX12_in_0 : decode cX12_in 0 = .ok (.iload_n 0, 1) := by decide +kernel
theorem dX12_in_1 : decode cX12_in 1 = .ok (.iload_n 1, 1) := by decide +kernel
theorem dX12_in_2 : decode cX12_in 2 = .ok (.if_icmp .lt 12, 3) := by decide +kernel
theorem dX12_in_5 : decode cX12_in 5 = .ok (.iload_n 0, 1) := by decide +kernel
theorem dX12_in_6 : decode cX12_in 6 = .ok (.iload_n 2, 1) := by decide +kernel
theorem dX12_in_7 : decode cX12_in 7 = .ok (.if_icmp .gt 7, 3) := by decide +kernel
theorem dX12_in_10 : decode cX12_in 10 = .ok (.iconst 1, 1) := by decide +kernel
theorem dX12_in_11 : decode cX12_in 11 = .ok (.goto 4, 3) := by decide +kernel
theorem dX12_in_14 : decode cX12_in 14 = .ok (.iconst 0, 1) := by decide +kernel
theorem dX12_in_15 : decode cX12_in 15 = .ok (.ireturn, 1) := by decide +kernel
theorem dX12_has_0 : decode cX12_has 0 = .ok (.iload_n 0, 1) := by decide +kernel
theorem dX12_has_1 : decode cX12_has 1 = .ok (.iload_n 1, 1) := by decide +kernel
theorem dX12_has_2 : decode cX12_has 2 = .ok (.ishr, 1) := by decide +kernel
theorem dX12_has_3 : decode cX12_has 3 = .ok (.iconst 1, 1) := by decide +kernel
theorem dX12_has_4 : decode cX12_has 4 = .ok (.iand, 1) := by decide +kernel
theorem dX12_has_5 : decode cX12_has 5 = .ok (.iconst 1, 1) := by decide +kernel
theorem dX12_has_6 : decode cX12_has 6 = .ok (.if_icmp .ne 7, 3) := by decide +kernel
theorem dX12_has_9 : decode cX12_has 9 = .ok (.iconst 1, 1) := by decide +kernel
theorem dX12_has_10 : decode cX12_has 10 = .ok (.goto 4, 3) := by decide +kernel
theorem dX12_has_13 : decode cX12_has 13 = .ok (.iconst 0, 1) := by decide +kernel
theorem dX12_has_14 : decode cX12_has 14 = .ok (.ireturn, 1) := by decide +kernel
theorem dX12_greater_0 : decode cX12_greater 0 = .ok (.iload_n 0, 1) := by decide +kernel
theorem dX12_greater_1 : decode cX12_greater 1 = .ok (.iload_n 1, 1) := by decide +kernel
theorem dX12_greater_2 : decode cX12_greater 2 = .ok (.if_icmp .le 7, 3) := by decide +kernel
theorem dX12_greater_5 : decode cX12_greater 5 = .ok (.iload_n 0, 1) := by decide +kernel
theorem dX12_greater_6 : decode cX12_greater 6 = .ok (.goto 4, 3) := by decide +kernel
theorem dX12_greater_9 : decode cX12_greater 9 = .ok (.iload_n 1, 1) := by decide +kernel
theorem dX12_greater_10 : decode cX12_greater 10 = .ok (.ireturn, 1) := by decide +kernel
theorem dX12_lesser_0 : decode cX12_lesser 0 = .ok (.iload_n 0, 1) := by decide +kernel
theorem dX12_lesser_1 : decode cX12_lesser 1 = .ok (.iload_n 1, 1) := by decide +kernel
theorem dX12_lesser_2 : decode cX12_lesser 2 = .ok (.if_icmp .ge 7, 3) := by decide +kernel
theorem dX12_lesser_5 : decode cX12_lesser 5 = .ok (.iload_n 0, 1) := by decide +kernel
theorem dX12_lesser_6 : decode cX12_lesser 6 = .ok (.goto 4, 3) := by decide +kernel
theorem dX12_lesser_9 : decode cX12_lesser 9 = .ok (.iload_n 1, 1) := by decide +kernel
theorem dX12_lesser_10 : decode cX12_lesser 10 = .ok (.ireturn, 1) := by decide +kernel
theorem dX12_ones_0 : decode cX12_ones 0 = .ok (.iconst 0, 1) := by decide +kernel
theorem dX12_ones_1 : decode cX12_ones 1 = .ok (.istore_n 1, 1) := by decide +kernel
theorem dX12_ones_2 : decode cX12_ones 2 = .ok (.iconst 0, 1) := by decide +kernel
theorem dX12_ones_3 : decode cX12_ones 3 = .ok (.istore_n 2, 1) := by decide +kernel
theorem dX12_ones_4 : decode cX12_ones 4 = .ok (.iload_n 2, 1) := by decide +kernel
theorem dX12_ones_5 : decode cX12_ones 5 = .ok (.bipush 10, 2) := by decide +kernel
theorem dX12_ones_7 : decode cX12_ones 7 = .ok (.if_icmp .ge 25, 3) := by decide +kernel
theorem dX12_ones_10 : decode cX12_ones 10 = .ok (.iload_n 1, 1) := by decide +kernel
theorem dX12_ones_11 : decode cX12_ones 11 = .ok (.iload_n 0, 1) := by decide +kernel
theorem dX12_ones_12 : decode cX12_ones 12 = .ok (.iload_n 2, 1) := by decide +kernel
theorem dX12_ones_13 : decode cX12_ones 13 = .ok (.invokestatic 148, 3) := by decide +kernel
theorem dX12_ones_16 : decode cX12_ones 16 = .ok (.ifCond .eq 7, 3) := by decide +kernel
theorem dX12_ones_19 : decode cX12_ones 19 = .ok (.iconst 1, 1) := by decide +kernel
theorem dX12_ones_20 : decode cX12_ones 20 = .ok (.goto 4, 3) := by decide +kernel
theorem dX12_ones_23 : decode cX12_ones 23 = .ok (.iconst 0, 1) := by decide +kernel
theorem dX12_ones_24 : decode cX12_ones 24 = .ok (.iadd, 1) := by decide +kernel
theorem dX12_ones_25 : decode cX12_ones 25 = .ok (.istore_n 1, 1) := by decide +kernel
theorem dX12_ones_26 : decode cX12_ones 26 = .ok (.iinc 2 1, 3) := by decide +kernel
theorem dX12_ones_29 : decode cX12_ones 29 = .ok (.goto (-25), 3) := by decide +kernel
theorem dX12_ones_32 : decode cX12_ones 32 = .ok (.iload_n 1, 1) := by decide +kernel
theorem dX12_ones_33 : decode cX12_ones 33 = .ok (.ireturn, 1) := by decide +kernel
theorem dX12_copyRow_0 : decode cX12_copyRow 0 = .ok (.iconst 0, 1) := by decide +kernel
theorem dX12_copyRow_1 : decode cX12_copyRow 1 = .ok (.istore 4, 2) := by decide +kernel
theorem dX12_copyRow_3 : decode cX12_copyRow 3 = .ok (.iload 4, 2) := by decide +kernel
theorem dX12_copyRow_5 : decode cX12_copyRow 5 = .ok (.iload_n 1, 1) := by decide +kernel
theorem dX12_copyRow_6 : decode cX12_copyRow 6 = .ok (.if_icmp .ge 25, 3) := by decide +kernel
theorem dX12_copyRow_9 : decode cX12_copyRow 9 = .ok (.aload_n 0, 1) := by decide +kernel
theorem dX12_copyRow_10 : decode cX12_copyRow 10 = .ok (.iload_n 1, 1) := by decide +kernel
theorem dX12_copyRow_11 : decode cX12_copyRow 11 = .ok (.iload_n 3, 1) := by decide +kernel
theorem dX12_copyRow_12 : decode cX12_copyRow 12 = .ok (.imul, 1) := by decide +kernel
theorem dX12_copyRow_13 : decode cX12_copyRow 13 = .ok (.iload 4, 2) := by decide +kernel
theorem dX12_copyRow_15 : decode cX12_copyRow 15 = .ok (.iadd, 1) := by decide +kernel
theorem dX12_copyRow_16 : decode cX12_copyRow 16 = .ok (.aload_n 0, 1) := by decide +kernel
theorem dX12_copyRow_17 : decode cX12_copyRow 17 = .ok (.iload_n 1, 1) := by decide +kernel
theorem dX12_copyRow_18 : decode cX12_copyRow 18 = .ok (.iload_n 2, 1) := by decide +kernel
theorem dX12_copyRow_19 : decode cX12_copyRow 19 = .ok (.imul, 1) := by decide +kernel
theorem dX12_copyRow_20 : decode cX12_copyRow 20 = .ok (.iload 4, 2) := by decide +kernel
theorem dX12_copyRow_22 : decode cX12_copyRow 22 = .ok (.iadd, 1) := by decide +kernel
theorem dX12_copyRow_23 : decode cX12_copyRow 23 = .ok (.iaload, 1) := by decide +kernel
theorem dX12_copyRow_24 : decode cX12_copyRow 24 = .ok (.iastore, 1) := by decide +kernel
theorem dX12_copyRow_25 : decode cX12_copyRow 25 = .ok (.iinc 4 1, 3) := by decide +kernel
theorem dX12_copyRow_28 : decode cX12_copyRow 28 = .ok (.goto (-25), 3) := by decide +kernel
theorem dX12_copyRow_31 : decode cX12_copyRow 31 = .ok (.return_, 1) := by decide +kernel
theorem dX12_copyAll_0 : decode cX12_copyAll 0 = .ok (.iconst 0, 1) := by decide +kernel
theorem dX12_copyAll_1 : decode cX12_copyAll 1 = .ok (.istore_n 3, 1) := by decide +kernel
theorem dX12_copyAll_2 : decode cX12_copyAll 2 = .ok (.iload_n 3, 1) := by decide +kernel
theorem dX12_copyAll_3 : decode cX12_copyAll 3 = .ok (.sipush 600, 3) := by decide +kernel
theorem dX12_copyAll_6 : decode cX12_copyAll 6 = .ok (.if_icmp .ge 33, 3) := by decide +kernel
theorem dX12_copyAll_9 : decode cX12_copyAll 9 = .ok (.aload_n 0, 1) := by decide +kernel
theorem dX12_copyAll_10 : decode cX12_copyAll 10 = .ok (.getfield 7, 3) := by decide +kernel
theorem dX12_copyAll_13 : decode cX12_copyAll 13 = .ok (.sipush 600, 3) := by decide +kernel
theorem dX12_copyAll_16 : decode cX12_copyAll 16 = .ok (.iload_n 2, 1) := by decide +kernel
theorem dX12_copyAll_17 : decode cX12_copyAll 17 = .ok (.imul, 1) := by decide +kernel
theorem dX12_copyAll_18 : decode cX12_copyAll 18 = .ok (.iload_n 3, 1) := by decide +kernel
theorem dX12_copyAll_19 : decode cX12_copyAll 19 = .ok (.iadd, 1) := by decide +kernel
theorem dX12_copyAll_20 : decode cX12_copyAll 20 = .ok (.aload_n 0, 1) := by decide +kernel
theorem dX12_copyAll_21 : decode cX12_copyAll 21 = .ok (.getfield 7, 3) := by decide +kernel
theorem dX12_copyAll_24 : decode cX12_copyAll 24 = .ok (.sipush 600, 3) := by decide +kernel
theorem dX12_copyAll_27 : decode cX12_copyAll 27 = .ok (.iload_n 1, 1) := by decide +kernel
theorem dX12_copyAll_28 : decode cX12_copyAll 28 = .ok (.imul, 1) := by decide +kernel
theorem dX12_copyAll_29 : decode cX12_copyAll 29 = .ok (.iload_n 3, 1) := by decide +kernel
theorem dX12_copyAll_30 : decode cX12_copyAll 30 = .ok (.iadd, 1) := by decide +kernel
theorem dX12_copyAll_31 : decode cX12_copyAll 31 = .ok (.baload, 1) := by decide +kernel
theorem dX12_copyAll_32 : decode cX12_copyAll 32 = .ok (.bastore, 1) := by decide +kernel
theorem dX12_copyAll_33 : decode cX12_copyAll 33 = .ok (.iinc 3 1, 3) := by decide +kernel
theorem dX12_copyAll_36 : decode cX12_copyAll 36 = .ok (.goto (-34), 3) := by decide +kernel
theorem dX12_copyAll_39 : decode cX12_copyAll 39 = .ok (.aload_n 0, 1) := by decide +kernel
theorem dX12_copyAll_40 : decode cX12_copyAll 40 = .ok (.getfield 13, 3) := by decide +kernel
theorem dX12_copyAll_43 : decode cX12_copyAll 43 = .ok (.iconst 1, 1) := by decide +kernel
theorem dX12_copyAll_44 : decode cX12_copyAll 44 = .ok (.iload_n 1, 1) := by decide +kernel
theorem dX12_copyAll_45 : decode cX12_copyAll 45 = .ok (.iload_n 2, 1) := by decide +kernel
theorem dX12_copyAll_46 : decode cX12_copyAll 46 = .ok (.invokestatic 152, 3) := by decide +kernel
theorem dX12_copyAll_49 : decode cX12_copyAll 49 = .ok (.aload_n 0, 1) := by decide +kernel
theorem dX12_copyAll_50 : decode cX12_copyAll 50 = .ok (.getfield 17, 3) := by decide +kernel
theorem dX12_copyAll_53 : decode cX12_copyAll 53 = .ok (.iconst 1, 1) := by decide +kernel
theorem dX12_copyAll_54 : decode cX12_copyAll 54 = .ok (.iload_n 1, 1) := by decide +kernel
theorem dX12_copyAll_55 : decode cX12_copyAll 55 = .ok (.iload_n 2, 1) := by decide +kernel
theorem dX12_copyAll_56 : decode cX12_copyAll 56 = .ok (.invokestatic 152, 3) := by decide +kernel
theorem dX12_copyAll_59 : decode cX12_copyAll 59 = .ok (.aload_n 0, 1) := by decide +kernel
theorem dX12_copyAll_60 : decode cX12_copyAll 60 = .ok (.getfield 20, 3) := by decide +kernel
theorem dX12_copyAll_63 : decode cX12_copyAll 63 = .ok (.iconst 1, 1) := by decide +kernel
theorem dX12_copyAll_64 : decode cX12_copyAll 64 = .ok (.iload_n 1, 1) := by decide +kernel
theorem dX12_copyAll_65 : decode cX12_copyAll 65 = .ok (.iload_n 2, 1) := by decide +kernel
theorem dX12_copyAll_66 : decode cX12_copyAll 66 = .ok (.invokestatic 152, 3) := by decide +kernel
theorem dX12_copyAll_69 : decode cX12_copyAll 69 = .ok (.aload_n 0, 1) := by decide +kernel
theorem dX12_copyAll_70 : decode cX12_copyAll 70 = .ok (.getfield 23, 3) := by decide +kernel
theorem dX12_copyAll_73 : decode cX12_copyAll 73 = .ok (.iconst 4, 1) := by decide +kernel
theorem dX12_copyAll_74 : decode cX12_copyAll 74 = .ok (.iload_n 1, 1) := by decide +kernel
theorem dX12_copyAll_75 : decode cX12_copyAll 75 = .ok (.iload_n 2, 1) := by decide +kernel
theorem dX12_copyAll_76 : decode cX12_copyAll 76 = .ok (.invokestatic 152, 3) := by decide +kernel
theorem dX12_copyAll_79 : decode cX12_copyAll 79 = .ok (.aload_n 0, 1) := by decide +kernel
theorem dX12_copyAll_80 : decode cX12_copyAll 80 = .ok (.getfield 26, 3) := by decide +kernel
theorem dX12_copyAll_83 : decode cX12_copyAll 83 = .ok (.bipush 26, 2) := by decide +kernel
theorem dX12_copyAll_85 : decode cX12_copyAll 85 = .ok (.iload_n 1, 1) := by decide +kernel
theorem dX12_copyAll_86 : decode cX12_copyAll 86 = .ok (.iload_n 2, 1) := by decide +kernel
theorem dX12_copyAll_87 : decode cX12_copyAll 87 = .ok (.invokestatic 152, 3) := by decide +kernel
theorem dX12_copyAll_90 : decode cX12_copyAll 90 = .ok (.aload_n 0, 1) := by decide +kernel
theorem dX12_copyAll_91 : decode cX12_copyAll 91 = .ok (.getfield 29, 3) := by decide +kernel
theorem dX12_copyAll_94 : decode cX12_copyAll 94 = .ok (.sipush 268, 3) := by decide +kernel
theorem dX12_copyAll_97 : decode cX12_copyAll 97 = .ok (.iload_n 1, 1) := by decide +kernel
theorem dX12_copyAll_98 : decode cX12_copyAll 98 = .ok (.iload_n 2, 1) := by decide +kernel
theorem dX12_copyAll_99 : decode cX12_copyAll 99 = .ok (.invokestatic 152, 3) := by decide +kernel
theorem dX12_copyAll_102 : decode cX12_copyAll 102 = .ok (.aload_n 0, 1) := by decide +kernel
theorem dX12_copyAll_103 : decode cX12_copyAll 103 = .ok (.getfield 32, 3) := by decide +kernel
theorem dX12_copyAll_106 : decode cX12_copyAll 106 = .ok (.sipush 242, 3) := by decide +kernel
theorem dX12_copyAll_109 : decode cX12_copyAll 109 = .ok (.iload_n 1, 1) := by decide +kernel
theorem dX12_copyAll_110 : decode cX12_copyAll 110 = .ok (.iload_n 2, 1) := by decide +kernel
theorem dX12_copyAll_111 : decode cX12_copyAll 111 = .ok (.invokestatic 152, 3) := by decide +kernel
theorem dX12_copyAll_114 : decode cX12_copyAll 114 = .ok (.aload_n 0, 1) := by decide +kernel
theorem dX12_copyAll_115 : decode cX12_copyAll 115 = .ok (.getfield 35, 3) := by decide +kernel
theorem dX12_copyAll_118 : decode cX12_copyAll 118 = .ok (.bipush 34, 2) := by decide +kernel
theorem dX12_copyAll_120 : decode cX12_copyAll 120 = .ok (.iload_n 1, 1) := by decide +kernel
theorem dX12_copyAll_121 : decode cX12_copyAll 121 = .ok (.iload_n 2, 1) := by decide +kernel
theorem dX12_copyAll_122 : decode cX12_copyAll 122 = .ok (.invokestatic 152, 3) := by decide +kernel
theorem dX12_copyAll_125 : decode cX12_copyAll 125 = .ok (.return_, 1) := by decide +kernel
theorem dX12_is_0 : decode cX12_is 0 = .ok (.iload_n 2, 1) := by decide +kernel
theorem dX12_is_1 : decode cX12_is 1 = .ok (.iconst 0, 1) := by decide +kernel
theorem dX12_is_2 : decode cX12_is 2 = .ok (.aload_n 0, 1) := by decide +kernel
theorem dX12_is_3 : decode cX12_is 3 = .ok (.getfield 23, 3) := by decide +kernel
theorem dX12_is_6 : decode cX12_is 6 = .ok (.iload_n 1, 1) := by decide +kernel
theorem dX12_is_7 : decode cX12_is 7 = .ok (.iaload, 1) := by decide +kernel
theorem dX12_is_8 : decode cX12_is 8 = .ok (.iconst 1, 1) := by decide +kernel
theorem dX12_is_9 : decode cX12_is 9 = .ok (.isub, 1) := by decide +kernel
theorem dX12_is_10 : decode cX12_is 10 = .ok (.invokestatic 156, 3) := by decide +kernel
theorem dX12_is_13 : decode cX12_is 13 = .ok (.ireturn, 1) := by decide +kernel
theorem dX12_feed_0 : decode cX12_feed 0 = .ok (.aload_n 0, 1) := by decide +kernel
theorem dX12_feed_1 : decode cX12_feed 1 = .ok (.iconst 0, 1) := by decide +kernel
theorem dX12_feed_2 : decode cX12_feed 2 = .ok (.putfield 144, 3) := by decide +kernel
theorem dX12_feed_5 : decode cX12_feed 5 = .ok (.aload_n 0, 1) := by decide +kernel
theorem dX12_feed_6 : decode cX12_feed 6 = .ok (.getfield 13, 3) := by decide +kernel
theorem dX12_feed_9 : decode cX12_feed 9 = .ok (.iconst 0, 1) := by decide +kernel
theorem dX12_feed_10 : decode cX12_feed 10 = .ok (.iaload, 1) := by decide +kernel
theorem dX12_feed_11 : decode cX12_feed 11 = .ok (.bipush 20, 2) := by decide +kernel
theorem dX12_feed_13 : decode cX12_feed 13 = .ok (.iadd, 1) := by decide +kernel
theorem dX12_feed_14 : decode cX12_feed 14 = .ok (.sipush 600, 3) := by decide +kernel
theorem dX12_feed_17 : decode cX12_feed 17 = .ok (.if_icmp .le 5, 3) := by decide +kernel
theorem dX12_feed_20 : decode cX12_feed 20 = .ok (.iconst (-1), 1) := by decide +kernel
theorem dX12_feed_21 : decode cX12_feed 21 = .ok (.ireturn, 1) := by decide +kernel
theorem dX12_feed_22 : decode cX12_feed 22 = .ok (.aload_n 0, 1) := by decide +kernel
theorem dX12_feed_23 : decode cX12_feed 23 = .ok (.iload_n 1, 1) := by decide +kernel
theorem dX12_feed_24 : decode cX12_feed 24 = .ok (.invokevirtual 160, 3) := by decide +kernel
theorem dX12_feed_27 : decode cX12_feed 27 = .ok (.aload_n 0, 1) := by decide +kernel
theorem dX12_feed_28 : decode cX12_feed 28 = .ok (.iload_n 2, 1) := by decide +kernel
theorem dX12_feed_29 : decode cX12_feed 29 = .ok (.invokevirtual 160, 3) := by decide +kernel
theorem dX12_feed_32 : decode cX12_feed 32 = .ok (.aload_n 0, 1) := by decide +kernel
theorem dX12_feed_33 : decode cX12_feed 33 = .ok (.iload_n 3, 1) := by decide +kernel
theorem dX12_feed_34 : decode cX12_feed 34 = .ok (.invokevirtual 160, 3) := by decide +kernel
theorem dX12_feed_37 : decode cX12_feed 37 = .ok (.aload_n 0, 1) := by decide +kernel
theorem dX12_feed_38 : decode cX12_feed 38 = .ok (.iload 4, 2) := by decide +kernel
theorem dX12_feed_40 : decode cX12_feed 40 = .ok (.invokevirtual 160, 3) := by decide +kernel
theorem dX12_feed_43 : decode cX12_feed 43 = .ok (.aload_n 0, 1) := by decide +kernel
theorem dX12_feed_44 : decode cX12_feed 44 = .ok (.iload 5, 2) := by decide +kernel
theorem dX12_feed_46 : decode cX12_feed 46 = .ok (.invokevirtual 160, 3) := by decide +kernel
theorem dX12_feed_49 : decode cX12_feed 49 = .ok (.aload_n 0, 1) := by decide +kernel
theorem dX12_feed_50 : decode cX12_feed 50 = .ok (.getfield 13, 3) := by decide +kernel
theorem dX12_feed_53 : decode cX12_feed 53 = .ok (.iconst 0, 1) := by decide +kernel
theorem dX12_feed_54 : decode cX12_feed 54 = .ok (.iaload, 1) := by decide +kernel
theorem dX12_feed_55 : decode cX12_feed 55 = .ok (.ireturn, 1) := by decide +kernel
theorem dX12_four_0 : decode cX12_four 0 = .ok (.bipush 24, 2) := by decide +kernel
theorem dX12_four_2 : decode cX12_four 2 = .ok (.istore_n 2, 1) := by decide +kernel
theorem dX12_four_3 : decode cX12_four 3 = .ok (.iload_n 2, 1) := by decide +kernel
theorem dX12_four_4 : decode cX12_four 4 = .ok (.ifCond .lt 34, 3) := by decide +kernel
theorem dX12_four_7 : decode cX12_four 7 = .ok (.aload_n 0, 1) := by decide +kernel
theorem dX12_four_8 : decode cX12_four 8 = .ok (.getfield 7, 3) := by decide +kernel
theorem dX12_four_11 : decode cX12_four 11 = .ok (.aload_n 0, 1) := by decide +kernel
theorem dX12_four_12 : decode cX12_four 12 = .ok (.getfield 13, 3) := by decide +kernel
theorem dX12_four_15 : decode cX12_four 15 = .ok (.iconst 0, 1) := by decide +kernel
theorem dX12_four_16 : decode cX12_four 16 = .ok (.iaload, 1) := by decide +kernel
theorem dX12_four_17 : decode cX12_four 17 = .ok (.iload_n 1, 1) := by decide +kernel
theorem dX12_four_18 : decode cX12_four 18 = .ok (.iload_n 2, 1) := by decide +kernel
theorem dX12_four_19 : decode cX12_four 19 = .ok (.ishr, 1) := by decide +kernel
theorem dX12_four_20 : decode cX12_four 20 = .ok (.i2b, 1) := by decide +kernel
theorem dX12_four_21 : decode cX12_four 21 = .ok (.bastore, 1) := by decide +kernel
theorem dX12_four_22 : decode cX12_four 22 = .ok (.aload_n 0, 1) := by decide +kernel
theorem dX12_four_23 : decode cX12_four 23 = .ok (.getfield 13, 3) := by decide +kernel
theorem dX12_four_26 : decode cX12_four 26 = .ok (.iconst 0, 1) := by decide +kernel
theorem dX12_four_27 : decode cX12_four 27 = .ok (.dup2, 1) := by decide +kernel
theorem dX12_four_28 : decode cX12_four 28 = .ok (.iaload, 1) := by decide +kernel
theorem dX12_four_29 : decode cX12_four 29 = .ok (.iconst 1, 1) := by decide +kernel
theorem dX12_four_30 : decode cX12_four 30 = .ok (.iadd, 1) := by decide +kernel
theorem dX12_four_31 : decode cX12_four 31 = .ok (.iastore, 1) := by decide +kernel
theorem dX12_four_32 : decode cX12_four 32 = .ok (.iinc 2 (-8), 3) := by decide +kernel
theorem dX12_four_35 : decode cX12_four 35 = .ok (.goto (-32), 3) := by decide +kernel
theorem dX12_four_38 : decode cX12_four 38 = .ok (.return_, 1) := by decide +kernel
theorem dX12_end_0 : decode cX12_end 0 = .ok (.aload_n 0, 1) := by decide +kernel
theorem dX12_end_1 : decode cX12_end 1 = .ok (.iconst 0, 1) := by decide +kernel
theorem dX12_end_2 : decode cX12_end 2 = .ok (.putfield 144, 3) := by decide +kernel
theorem dX12_end_5 : decode cX12_end 5 = .ok (.iload_n 1, 1) := by decide +kernel
theorem dX12_end_6 : decode cX12_end 6 = .ok (.iconst 0, 1) := by decide +kernel
theorem dX12_end_7 : decode cX12_end 7 = .ok (.aload_n 0, 1) := by decide +kernel
theorem dX12_end_8 : decode cX12_end 8 = .ok (.getfield 13, 3) := by decide +kernel
theorem dX12_end_11 : decode cX12_end 11 = .ok (.iconst 0, 1) := by decide +kernel
theorem dX12_end_12 : decode cX12_end 12 = .ok (.iaload, 1) := by decide +kernel
theorem dX12_end_13 : decode cX12_end 13 = .ok (.invokestatic 156, 3) := by decide +kernel
theorem dX12_end_16 : decode cX12_end 16 = .ok (.ifCond .ne 5, 3) := by decide +kernel
theorem dX12_end_19 : decode cX12_end 19 = .ok (.iconst (-1), 1) := by decide +kernel
theorem dX12_end_20 : decode cX12_end 20 = .ok (.ireturn, 1) := by decide +kernel
theorem dX12_end_21 : decode cX12_end 21 = .ok (.aload_n 0, 1) := by decide +kernel
theorem dX12_end_22 : decode cX12_end 22 = .ok (.getfield 13, 3) := by decide +kernel
theorem dX12_end_25 : decode cX12_end 25 = .ok (.iconst 0, 1) := by decide +kernel
theorem dX12_end_26 : decode cX12_end 26 = .ok (.iload_n 1, 1) := by decide +kernel
theorem dX12_end_27 : decode cX12_end 27 = .ok (.iastore, 1) := by decide +kernel
theorem dX12_end_28 : decode cX12_end 28 = .ok (.iload_n 1, 1) := by decide +kernel
theorem dX12_end_29 : decode cX12_end 29 = .ok (.ireturn, 1) := by decide +kernel
theorem dX12_see_0 : decode cX12_see 0 = .ok (.aload_n 0, 1) := by decide +kernel
theorem dX12_see_1 : decode cX12_see 1 = .ok (.getfield 164, 3) := by decide +kernel
theorem dX12_see_4 : decode cX12_see 4 = .ok (.aload_n 0, 1) := by decide +kernel
theorem dX12_see_5 : decode cX12_see 5 = .ok (.getfield 167, 3) := by decide +kernel
theorem dX12_see_8 : decode cX12_see 8 = .ok (.if_icmp .ge 19, 3) := by decide +kernel
theorem dX12_see_11 : decode cX12_see 11 = .ok (.aload_n 0, 1) := by decide +kernel
theorem dX12_see_12 : decode cX12_see 12 = .ok (.getfield 7, 3) := by decide +kernel
theorem dX12_see_15 : decode cX12_see 15 = .ok (.aload_n 0, 1) := by decide +kernel
theorem dX12_see_16 : decode cX12_see 16 = .ok (.getfield 164, 3) := by decide +kernel
theorem dX12_see_19 : decode cX12_see 19 = .ok (.baload, 1) := by decide +kernel
theorem dX12_see_20 : decode cX12_see 20 = .ok (.sipush 255, 3) := by decide +kernel
theorem dX12_see_23 : decode cX12_see 23 = .ok (.iand, 1) := by decide +kernel
theorem dX12_see_24 : decode cX12_see 24 = .ok (.goto 4, 3) := by decide +kernel
theorem dX12_see_27 : decode cX12_see 27 = .ok (.iconst (-1), 1) := by decide +kernel
theorem dX12_see_28 : decode cX12_see 28 = .ok (.ireturn, 1) := by decide +kernel
theorem dX12_token_0 : decode cX12_token 0 = .ok (.aload_n 0, 1) := by decide +kernel
theorem dX12_token_1 : decode cX12_token 1 = .ok (.invokevirtual 170, 3) := by decide +kernel
theorem dX12_token_4 : decode cX12_token 4 = .ok (.bipush 10, 2) := by decide +kernel
theorem dX12_token_6 : decode cX12_token 6 = .ok (.if_icmp .eq 12, 3) := by decide +kernel
theorem dX12_token_9 : decode cX12_token 9 = .ok (.aload_n 0, 1) := by decide +kernel
theorem dX12_token_10 : decode cX12_token 10 = .ok (.invokevirtual 170, 3) := by decide +kernel
theorem dX12_token_13 : decode cX12_token 13 = .ok (.bipush 32, 2) := by decide +kernel
theorem dX12_token_15 : decode cX12_token 15 = .ok (.if_icmp .ne 16, 3) := by decide +kernel
theorem dX12_token_18 : decode cX12_token 18 = .ok (.aload_n 0, 1) := by decide +kernel
theorem dX12_token_19 : decode cX12_token 19 = .ok (.dup, 1) := by decide +kernel
theorem dX12_token_20 : decode cX12_token 20 = .ok (.getfield 164, 3) := by decide +kernel
theorem dX12_token_23 : decode cX12_token 23 = .ok (.iconst 1, 1) := by decide +kernel
theorem dX12_token_24 : decode cX12_token 24 = .ok (.iadd, 1) := by decide +kernel
theorem dX12_token_25 : decode cX12_token 25 = .ok (.putfield 164, 3) := by decide +kernel
theorem dX12_token_28 : decode cX12_token 28 = .ok (.goto (-28), 3) := by decide +kernel
theorem dX12_token_31 : decode cX12_token 31 = .ok (.aload_n 0, 1) := by decide +kernel
theorem dX12_token_32 : decode cX12_token 32 = .ok (.aload_n 0, 1) := by decide +kernel
theorem dX12_token_33 : decode cX12_token 33 = .ok (.getfield 164, 3) := by decide +kernel
theorem dX12_token_36 : decode cX12_token 36 = .ok (.putfield 174, 3) := by decide +kernel
theorem dX12_token_39 : decode cX12_token 39 = .ok (.aload_n 0, 1) := by decide +kernel
theorem dX12_token_40 : decode cX12_token 40 = .ok (.invokevirtual 170, 3) := by decide +kernel
theorem dX12_token_43 : decode cX12_token 43 = .ok (.istore_n 1, 1) := by decide +kernel
theorem dX12_token_44 : decode cX12_token 44 = .ok (.aload_n 0, 1) := by decide +kernel
theorem dX12_token_45 : decode cX12_token 45 = .ok (.lconst 0, 1) := by decide +kernel
theorem dX12_token_46 : decode cX12_token 46 = .ok (.putfield 177, 3) := by decide +kernel
theorem dX12_token_49 : decode cX12_token 49 = .ok (.iconst 0, 1) := by decide +kernel
theorem dX12_token_50 : decode cX12_token 50 = .ok (.istore_n 2, 1) := by decide +kernel
theorem dX12_token_51 : decode cX12_token 51 = .ok (.iload_n 1, 1) := by decide +kernel
theorem dX12_token_52 : decode cX12_token 52 = .ok (.ifCond .ge 11, 3) := by decide +kernel
theorem dX12_token_55 : decode cX12_token 55 = .ok (.aload_n 0, 1) := by decide +kernel
theorem dX12_token_56 : decode cX12_token 56 = .ok (.iconst 0, 1) := by decide +kernel
theorem dX12_token_57 : decode cX12_token 57 = .ok (.putfield 181, 3) := by decide +kernel
theorem dX12_token_60 : decode cX12_token 60 = .ok (.goto 206, 3) := by decide +kernel
theorem dX12_token_63 : decode cX12_token 63 = .ok (.iload_n 1, 1) := by decide +kernel
theorem dX12_token_64 : decode cX12_token 64 = .ok (.bipush 97, 2) := by decide +kernel
theorem dX12_token_66 : decode cX12_token 66 = .ok (.bipush 122, 2) := by decide +kernel
theorem dX12_token_68 : decode cX12_token 68 = .ok (.invokestatic 156, 3) := by decide +kernel
theorem dX12_token_71 : decode cX12_token 71 = .ok (.ifCond .eq 76, 3) := by decide +kernel
theorem dX12_token_74 : decode cX12_token 74 = .ok (.aload_n 0, 1) := by decide +kernel
theorem dX12_token_75 : decode cX12_token 75 = .ok (.invokevirtual 170, 3) := by decide +kernel
theorem dX12_token_78 : decode cX12_token 78 = .ok (.bipush 97, 2) := by decide +kernel
theorem dX12_token_80 : decode cX12_token 80 = .ok (.bipush 122, 2) := by decide +kernel
theorem dX12_token_82 : decode cX12_token 82 = .ok (.invokestatic 156, 3) := by decide +kernel
theorem dX12_token_85 : decode cX12_token 85 = .ok (.ifCond .eq 36, 3) := by decide +kernel
theorem dX12_token_88 : decode cX12_token 88 = .ok (.aload_n 0, 1) := by decide +kernel
theorem dX12_token_89 : decode cX12_token 89 = .ok (.aload_n 0, 1) := by decide +kernel
theorem dX12_token_90 : decode cX12_token 90 = .ok (.getfield 177, 3) := by decide +kernel
theorem dX12_token_93 : decode cX12_token 93 = .ok (.bipush 8, 2) := by decide +kernel
theorem dX12_token_95 : decode cX12_token 95 = .ok (.lshl, 1) := by decide +kernel
theorem dX12_token_96 : decode cX12_token 96 = .ok (.aload_n 0, 1) := by decide +kernel
theorem dX12_token_97 : decode cX12_token 97 = .ok (.invokevirtual 170, 3) := by decide +kernel
theorem dX12_token_100 : decode cX12_token 100 = .ok (.i2l, 1) := by decide +kernel
theorem dX12_token_101 : decode cX12_token 101 = .ok (.lor, 1) := by decide +kernel
theorem dX12_token_102 : decode cX12_token 102 = .ok (.putfield 177, 3) := by decide +kernel
theorem dX12_token_105 : decode cX12_token 105 = .ok (.aload_n 0, 1) := by decide +kernel
theorem dX12_token_106 : decode cX12_token 106 = .ok (.dup, 1) := by decide +kernel
theorem dX12_token_107 : decode cX12_token 107 = .ok (.getfield 164, 3) := by decide +kernel
theorem dX12_token_110 : decode cX12_token 110 = .ok (.iconst 1, 1) := by decide +kernel
theorem dX12_token_111 : decode cX12_token 111 = .ok (.iadd, 1) := by decide +kernel
theorem dX12_token_112 : decode cX12_token 112 = .ok (.putfield 164, 3) := by decide +kernel
theorem dX12_token_115 : decode cX12_token 115 = .ok (.iinc 2 1, 3) := by decide +kernel
theorem dX12_token_118 : decode cX12_token 118 = .ok (.goto (-44), 3) := by decide +kernel
theorem dX12_token_121 : decode cX12_token 121 = .ok (.aload_n 0, 1) := by decide +kernel
theorem dX12_token_122 : decode cX12_token 122 = .ok (.iload_n 2, 1) := by decide +kernel
theorem dX12_token_123 : decode cX12_token 123 = .ok (.bipush 8, 2) := by decide +kernel
theorem dX12_token_125 : decode cX12_token 125 = .ok (.if_icmp .le 7, 3) := by decide +kernel
theorem dX12_token_128 : decode cX12_token 128 = .ok (.lconst 0, 1) := by decide +kernel
theorem dX12_token_129 : decode cX12_token 129 = .ok (.goto 7, 3) := by decide +kernel
theorem dX12_token_132 : decode cX12_token 132 = .ok (.aload_n 0, 1) := by decide +kernel
theorem dX12_token_133 : decode cX12_token 133 = .ok (.getfield 177, 3) := by decide +kernel
theorem dX12_token_136 : decode cX12_token 136 = .ok (.putfield 177, 3) := by decide +kernel
theorem dX12_token_139 : decode cX12_token 139 = .ok (.aload_n 0, 1) := by decide +kernel
theorem dX12_token_140 : decode cX12_token 140 = .ok (.iconst 2, 1) := by decide +kernel
theorem dX12_token_141 : decode cX12_token 141 = .ok (.putfield 181, 3) := by decide +kernel
theorem dX12_token_144 : decode cX12_token 144 = .ok (.goto 122, 3) := by decide +kernel
theorem dX12_token_147 : decode cX12_token 147 = .ok (.iload_n 1, 1) := by decide +kernel
theorem dX12_token_148 : decode cX12_token 148 = .ok (.bipush 48, 2) := by decide +kernel
theorem dX12_token_150 : decode cX12_token 150 = .ok (.bipush 57, 2) := by decide +kernel
theorem dX12_token_152 : decode cX12_token 152 = .ok (.invokestatic 156, 3) := by decide +kernel
theorem dX12_token_155 : decode cX12_token 155 = .ok (.ifCond .eq 86, 3) := by decide +kernel
theorem dX12_token_158 : decode cX12_token 158 = .ok (.aload_n 0, 1) := by decide +kernel
theorem dX12_token_159 : decode cX12_token 159 = .ok (.iconst 0, 1) := by decide +kernel
theorem dX12_token_160 : decode cX12_token 160 = .ok (.putfield 184, 3) := by decide +kernel
theorem dX12_token_163 : decode cX12_token 163 = .ok (.aload_n 0, 1) := by decide +kernel
theorem dX12_token_164 : decode cX12_token 164 = .ok (.invokevirtual 170, 3) := by decide +kernel
theorem dX12_token_167 : decode cX12_token 167 = .ok (.bipush 48, 2) := by decide +kernel
theorem dX12_token_169 : decode cX12_token 169 = .ok (.bipush 57, 2) := by decide +kernel
theorem dX12_token_171 : decode cX12_token 171 = .ok (.invokestatic 156, 3) := by decide +kernel
theorem dX12_token_174 : decode cX12_token 174 = .ok (.ifCond .eq 50, 3) := by decide +kernel
theorem dX12_token_177 : decode cX12_token 177 = .ok (.aload_n 0, 1) := by decide +kernel
theorem dX12_token_178 : decode cX12_token 178 = .ok (.iload_n 2, 1) := by decide +kernel
theorem dX12_token_179 : decode cX12_token 179 = .ok (.iconst 2, 1) := by decide +kernel
theorem dX12_token_180 : decode cX12_token 180 = .ok (.if_icmp .ge 21, 3) := by decide +kernel
theorem dX12_token_183 : decode cX12_token 183 = .ok (.bipush 10, 2) := by decide +kernel
theorem dX12_token_185 : decode cX12_token 185 = .ok (.aload_n 0, 1) := by decide +kernel
theorem dX12_token_186 : decode cX12_token 186 = .ok (.getfield 184, 3) := by decide +kernel
theorem dX12_token_189 : decode cX12_token 189 = .ok (.imul, 1) := by decide +kernel
theorem dX12_token_190 : decode cX12_token 190 = .ok (.aload_n 0, 1) := by decide +kernel
theorem dX12_token_191 : decode cX12_token 191 = .ok (.invokevirtual 170, 3) := by decide +kernel
theorem dX12_token_194 : decode cX12_token 194 = .ok (.iadd, 1) := by decide +kernel
theorem dX12_token_195 : decode cX12_token 195 = .ok (.bipush 48, 2) := by decide +kernel
theorem dX12_token_197 : decode cX12_token 197 = .ok (.isub, 1) := by decide +kernel
theorem dX12_token_198 : decode cX12_token 198 = .ok (.goto 7, 3) := by decide +kernel
theorem dX12_token_201 : decode cX12_token 201 = .ok (.aload_n 0, 1) := by decide +kernel
theorem dX12_token_202 : decode cX12_token 202 = .ok (.getfield 184, 3) := by decide +kernel
theorem dX12_token_205 : decode cX12_token 205 = .ok (.putfield 184, 3) := by decide +kernel
theorem dX12_token_208 : decode cX12_token 208 = .ok (.aload_n 0, 1) := by decide +kernel
theorem dX12_token_209 : decode cX12_token 209 = .ok (.dup, 1) := by decide +kernel
theorem dX12_token_210 : decode cX12_token 210 = .ok (.getfield 164, 3) := by decide +kernel
theorem dX12_token_213 : decode cX12_token 213 = .ok (.iconst 1, 1) := by decide +kernel
theorem dX12_token_214 : decode cX12_token 214 = .ok (.iadd, 1) := by decide +kernel
theorem dX12_token_215 : decode cX12_token 215 = .ok (.putfield 164, 3) := by decide +kernel
theorem dX12_token_218 : decode cX12_token 218 = .ok (.iinc 2 1, 3) := by decide +kernel
theorem dX12_token_221 : decode cX12_token 221 = .ok (.goto (-58), 3) := by decide +kernel
theorem dX12_token_224 : decode cX12_token 224 = .ok (.aload_n 0, 1) := by decide +kernel
theorem dX12_token_225 : decode cX12_token 225 = .ok (.iload_n 2, 1) := by decide +kernel
theorem dX12_token_226 : decode cX12_token 226 = .ok (.iconst 2, 1) := by decide +kernel
theorem dX12_token_227 : decode cX12_token 227 = .ok (.if_icmp .le 7, 3) := by decide +kernel
theorem dX12_token_230 : decode cX12_token 230 = .ok (.iconst 1, 1) := by decide +kernel
theorem dX12_token_231 : decode cX12_token 231 = .ok (.goto 4, 3) := by decide +kernel
theorem dX12_token_234 : decode cX12_token 234 = .ok (.iconst 3, 1) := by decide +kernel
theorem dX12_token_235 : decode cX12_token 235 = .ok (.putfield 181, 3) := by decide +kernel
theorem dX12_token_238 : decode cX12_token 238 = .ok (.goto 28, 3) := by decide +kernel
theorem dX12_token_241 : decode cX12_token 241 = .ok (.aload_n 0, 1) := by decide +kernel
theorem dX12_token_242 : decode cX12_token 242 = .ok (.dup, 1) := by decide +kernel
theorem dX12_token_243 : decode cX12_token 243 = .ok (.getfield 164, 3) := by decide +kernel
theorem dX12_token_246 : decode cX12_token 246 = .ok (.iconst 1, 1) := by decide +kernel
theorem dX12_token_247 : decode cX12_token 247 = .ok (.iadd, 1) := by decide +kernel
theorem dX12_token_248 : decode cX12_token 248 = .ok (.putfield 164, 3) := by decide +kernel
theorem dX12_token_251 : decode cX12_token 251 = .ok (.aload_n 0, 1) := by decide +kernel
theorem dX12_token_252 : decode cX12_token 252 = .ok (.iload_n 1, 1) := by decide +kernel
theorem dX12_token_253 : decode cX12_token 253 = .ok (.bipush 59, 2) := by decide +kernel
theorem dX12_token_255 : decode cX12_token 255 = .ok (.if_icmp .ne 7, 3) := by decide +kernel
theorem dX12_token_258 : decode cX12_token 258 = .ok (.iconst 4, 1) := by decide +kernel
theorem dX12_token_259 : decode cX12_token 259 = .ok (.goto 4, 3) := by decide +kernel
theorem dX12_token_262 : decode cX12_token 262 = .ok (.iconst 1, 1) := by decide +kernel
theorem dX12_token_263 : decode cX12_token 263 = .ok (.putfield 181, 3) := by decide +kernel
theorem dX12_token_266 : decode cX12_token 266 = .ok (.return_, 1) := by decide +kernel
theorem dX12_fails_0 : decode cX12_fails 0 = .ok (.aload_n 0, 1) := by decide +kernel
theorem dX12_fails_1 : decode cX12_fails 1 = .ok (.aload_n 0, 1) := by decide +kernel
theorem dX12_fails_2 : decode cX12_fails 2 = .ok (.getfield 174, 3) := by decide +kernel
theorem dX12_fails_5 : decode cX12_fails 5 = .ok (.putfield 187, 3) := by decide +kernel
theorem dX12_fails_8 : decode cX12_fails 8 = .ok (.iconst 0, 1) := by decide +kernel
theorem dX12_fails_9 : decode cX12_fails 9 = .ok (.ireturn, 1) := by decide +kernel
theorem dX12_addsFault_0 : decode cX12_addsFault 0 = .ok (.aload_n 0, 1) := by decide +kernel
theorem dX12_addsFault_1 : decode cX12_addsFault 1 = .ok (.getfield 190, 3) := by decide +kernel
theorem dX12_addsFault_4 : decode cX12_addsFault 4 = .ok (.ifCond .eq 27, 3) := by decide +kernel
theorem dX12_addsFault_7 : decode cX12_addsFault 7 = .ok (.iload_n 2, 1) := by decide +kernel
theorem dX12_addsFault_8 : decode cX12_addsFault 8 = .ok (.aload_n 0, 1) := by decide +kernel
theorem dX12_addsFault_9 : decode cX12_addsFault 9 = .ok (.getfield 193, 3) := by decide +kernel
theorem dX12_addsFault_12 : decode cX12_addsFault 12 = .ok (.if_icmp .lt 19, 3) := by decide +kernel
theorem dX12_addsFault_15 : decode cX12_addsFault 15 = .ok (.iload_n 2, 1) := by decide +kernel
theorem dX12_addsFault_16 : decode cX12_addsFault 16 = .ok (.aload_n 0, 1) := by decide +kernel
theorem dX12_addsFault_17 : decode cX12_addsFault 17 = .ok (.getfield 193, 3) := by decide +kernel
theorem dX12_addsFault_20 : decode cX12_addsFault 20 = .ok (.if_icmp .ne 21, 3) := by decide +kernel
theorem dX12_addsFault_23 : decode cX12_addsFault 23 = .ok (.iload_n 1, 1) := by decide +kernel
theorem dX12_addsFault_24 : decode cX12_addsFault 24 = .ok (.aload_n 0, 1) := by decide +kernel
theorem dX12_addsFault_25 : decode cX12_addsFault 25 = .ok (.getfield 190, 3) := by decide +kernel
theorem dX12_addsFault_28 : decode cX12_addsFault 28 = .ok (.if_icmp .ge 13, 3) := by decide +kernel
theorem dX12_addsFault_31 : decode cX12_addsFault 31 = .ok (.aload_n 0, 1) := by decide +kernel
theorem dX12_addsFault_32 : decode cX12_addsFault 32 = .ok (.iload_n 1, 1) := by decide +kernel
theorem dX12_addsFault_33 : decode cX12_addsFault 33 = .ok (.putfield 190, 3) := by decide +kernel
theorem dX12_addsFault_36 : decode cX12_addsFault 36 = .ok (.aload_n 0, 1) := by decide +kernel
theorem dX12_addsFault_37 : decode cX12_addsFault 37 = .ok (.iload_n 2, 1) := by decide +kernel
theorem dX12_addsFault_38 : decode cX12_addsFault 38 = .ok (.putfield 193, 3) := by decide +kernel
theorem dX12_addsFault_41 : decode cX12_addsFault 41 = .ok (.return_, 1) := by decide +kernel
theorem dX12_take_0 : decode cX12_take 0 = .ok (.aload_n 0, 1) := by decide +kernel
theorem dX12_take_1 : decode cX12_take 1 = .ok (.getfield 181, 3) := by decide +kernel
theorem dX12_take_4 : decode cX12_take 4 = .ok (.iconst 3, 1) := by decide +kernel
theorem dX12_take_5 : decode cX12_take 5 = .ok (.if_icmp .eq 8, 3) := by decide +kernel
theorem dX12_take_8 : decode cX12_take 8 = .ok (.aload_n 0, 1) := by decide +kernel
theorem dX12_take_9 : decode cX12_take 9 = .ok (.invokevirtual 196, 3) := by decide +kernel
theorem dX12_take_12 : decode cX12_take 12 = .ok (.ireturn, 1) := by decide +kernel
theorem dX12_take_13 : decode cX12_take 13 = .ok (.aload_n 0, 1) := by decide +kernel
theorem dX12_take_14 : decode cX12_take 14 = .ok (.getfield 41, 3) := by decide +kernel
theorem dX12_take_17 : decode cX12_take 17 = .ok (.iload_n 1, 1) := by decide +kernel
theorem dX12_take_18 : decode cX12_take 18 = .ok (.aload_n 0, 1) := by decide +kernel
theorem dX12_take_19 : decode cX12_take 19 = .ok (.getfield 184, 3) := by decide +kernel
theorem dX12_take_22 : decode cX12_take 22 = .ok (.iastore, 1) := by decide +kernel
theorem dX12_take_23 : decode cX12_take 23 = .ok (.aload_n 0, 1) := by decide +kernel
theorem dX12_take_24 : decode cX12_take 24 = .ok (.getfield 184, 3) := by decide +kernel
theorem dX12_take_27 : decode cX12_take 27 = .ok (.iload_n 2, 1) := by decide +kernel
theorem dX12_take_28 : decode cX12_take 28 = .ok (.iload_n 3, 1) := by decide +kernel
theorem dX12_take_29 : decode cX12_take 29 = .ok (.invokestatic 156, 3) := by decide +kernel
theorem dX12_take_32 : decode cX12_take 32 = .ok (.ifCond .ne 17, 3) := by decide +kernel
theorem dX12_take_35 : decode cX12_take 35 = .ok (.aload_n 0, 1) := by decide +kernel
theorem dX12_take_36 : decode cX12_take 36 = .ok (.iconst 2, 1) := by decide +kernel
theorem dX12_take_37 : decode cX12_take 37 = .ok (.aload_n 0, 1) := by decide +kernel
theorem dX12_take_38 : decode cX12_take 38 = .ok (.getfield 174, 3) := by decide +kernel
theorem dX12_take_41 : decode cX12_take 41 = .ok (.invokevirtual 200, 3) := by decide +kernel
theorem dX12_take_44 : decode cX12_take 44 = .ok (.aload_n 0, 1) := by decide +kernel
theorem dX12_take_45 : decode cX12_take 45 = .ok (.iconst 0, 1) := by decide +kernel
theorem dX12_take_46 : decode cX12_take 46 = .ok (.putfield 204, 3) := by decide +kernel
theorem dX12_take_49 : decode cX12_take 49 = .ok (.aload_n 0, 1) := by decide +kernel
theorem dX12_take_50 : decode cX12_take 50 = .ok (.invokevirtual 208, 3) := by decide +kernel
theorem dX12_take_53 : decode cX12_take 53 = .ok (.iconst 1, 1) := by decide +kernel
theorem dX12_take_54 : decode cX12_take 54 = .ok (.ireturn, 1) := by decide +kernel
theorem dX12_full_0 : decode cX12_full 0 = .ok (.aload_n 0, 1) := by decide +kernel
theorem dX12_full_1 : decode cX12_full 1 = .ok (.getfield 38, 3) := by decide +kernel
theorem dX12_full_4 : decode cX12_full 4 = .ok (.iload_n 1, 1) := by decide +kernel
theorem dX12_full_5 : decode cX12_full 5 = .ok (.iaload, 1) := by decide +kernel
theorem dX12_full_6 : decode cX12_full 6 = .ok (.iload_n 2, 1) := by decide +kernel
theorem dX12_full_7 : decode cX12_full 7 = .ok (.if_icmp .lt 9, 3) := by decide +kernel
theorem dX12_full_10 : decode cX12_full 10 = .ok (.aload_n 0, 1) := by decide +kernel
theorem dX12_full_11 : decode cX12_full 11 = .ok (.iconst 3, 1) := by decide +kernel
theorem dX12_full_12 : decode cX12_full 12 = .ok (.iload_n 3, 1) := by decide +kernel
theorem dX12_full_13 : decode cX12_full 13 = .ok (.invokevirtual 200, 3) := by decide +kernel
theorem dX12_full_16 : decode cX12_full 16 = .ok (.return_, 1) := by decide +kernel
theorem dX12_storeLine_0 : decode cX12_storeLine 0 = .ok (.lload_n 1, 1) := by decide +kernel
theorem dX12_storeLine_1 : decode cX12_storeLine 1 = .ok (.ldc2_w 211, 3) := by decide +kernel
theorem dX12_storeLine_4 : decode cX12_storeLine 4 = .ok (.lcmp, 1) := by decide +kernel
theorem dX12_storeLine_5 : decode cX12_storeLine 5 = .ok (.ifCond .eq 24, 3) := by decide +kernel
theorem dX12_storeLine_8 : decode cX12_storeLine 8 = .ok (.lload_n 1, 1) := by decide +kernel
theorem dX12_storeLine_9 : decode cX12_storeLine 9 = .ok (.ldc2_w 213, 3) := by decide +kernel
theorem dX12_storeLine_12 : decode cX12_storeLine 12 = .ok (.lcmp, 1) := by decide +kernel
theorem dX12_storeLine_13 : decode cX12_storeLine 13 = .ok (.ifCond .eq 16, 3) := by decide +kernel
theorem dX12_storeLine_16 : decode cX12_storeLine 16 = .ok (.lload_n 1, 1) := by decide +kernel
theorem dX12_storeLine_17 : decode cX12_storeLine 17 = .ok (.ldc2_w 215, 3) := by decide +kernel
theorem dX12_storeLine_20 : decode cX12_storeLine 20 = .ok (.lcmp, 1) := by decide +kernel
theorem dX12_storeLine_21 : decode cX12_storeLine 21 = .ok (.ifCond .eq 8, 3) := by decide +kernel
theorem dX12_storeLine_24 : decode cX12_storeLine 24 = .ok (.aload_n 0, 1) := by decide +kernel
theorem dX12_storeLine_25 : decode cX12_storeLine 25 = .ok (.invokevirtual 196, 3) := by decide +kernel
theorem dX12_storeLine_28 : decode cX12_storeLine 28 = .ok (.ireturn, 1) := by decide +kernel
theorem dX12_storeLine_29 : decode cX12_storeLine 29 = .ok (.aload_n 0, 1) := by decide +kernel
theorem dX12_storeLine_30 : decode cX12_storeLine 30 = .ok (.invokevirtual 208, 3) := by decide +kernel
theorem dX12_storeLine_33 : decode cX12_storeLine 33 = .ok (.lload_n 1, 1) := by decide +kernel
theorem dX12_storeLine_34 : decode cX12_storeLine 34 = .ok (.ldc2_w 215, 3) := by decide +kernel
theorem dX12_storeLine_37 : decode cX12_storeLine 37 = .ok (.lcmp, 1) := by decide +kernel
theorem dX12_storeLine_38 : decode cX12_storeLine 38 = .ok (.ifCond .ne 72, 3) := by decide +kernel
theorem dX12_storeLine_41 : decode cX12_storeLine 41 = .ok (.aload_n 0, 1) := by decide +kernel
theorem dX12_storeLine_42 : decode cX12_storeLine 42 = .ok (.iconst 0, 1) := by decide +kernel
theorem dX12_storeLine_43 : decode cX12_storeLine 43 = .ok (.iconst 0, 1) := by decide +kernel
theorem dX12_storeLine_44 : decode cX12_storeLine 44 = .ok (.bipush 9, 2) := by decide +kernel
theorem dX12_storeLine_46 : decode cX12_storeLine 46 = .ok (.invokevirtual 217, 3) := by decide +kernel
theorem dX12_storeLine_49 : decode cX12_storeLine 49 = .ok (.ifCond .eq 14, 3) := by decide +kernel
theorem dX12_storeLine_52 : decode cX12_storeLine 52 = .ok (.aload_n 0, 1) := by decide +kernel
theorem dX12_storeLine_53 : decode cX12_storeLine 53 = .ok (.iconst 1, 1) := by decide +kernel
theorem dX12_storeLine_54 : decode cX12_storeLine 54 = .ok (.iconst 0, 1) := by decide +kernel
theorem dX12_storeLine_55 : decode cX12_storeLine 55 = .ok (.bipush 99, 2) := by decide +kernel
theorem dX12_storeLine_57 : decode cX12_storeLine 57 = .ok (.invokevirtual 217, 3) := by decide +kernel
theorem dX12_storeLine_60 : decode cX12_storeLine 60 = .ok (.ifCond .ne 5, 3) := by decide +kernel
theorem dX12_storeLine_63 : decode cX12_storeLine 63 = .ok (.iconst 0, 1) := by decide +kernel
theorem dX12_storeLine_64 : decode cX12_storeLine 64 = .ok (.ireturn, 1) := by decide +kernel
theorem dX12_storeLine_65 : decode cX12_storeLine 65 = .ok (.aload_n 0, 1) := by decide +kernel
theorem dX12_storeLine_66 : decode cX12_storeLine 66 = .ok (.getfield 204, 3) := by decide +kernel
theorem dX12_storeLine_69 : decode cX12_storeLine 69 = .ok (.ifCond .eq 39, 3) := by decide +kernel
theorem dX12_storeLine_72 : decode cX12_storeLine 72 = .ok (.aload_n 0, 1) := by decide +kernel
theorem dX12_storeLine_73 : decode cX12_storeLine 73 = .ok (.getfield 38, 3) := by decide +kernel
theorem dX12_storeLine_76 : decode cX12_storeLine 76 = .ok (.iconst 2, 1) := by decide +kernel
theorem dX12_storeLine_77 : decode cX12_storeLine 77 = .ok (.dup2, 1) := by decide +kernel
theorem dX12_storeLine_78 : decode cX12_storeLine 78 = .ok (.iaload, 1) := by decide +kernel
theorem dX12_storeLine_79 : decode cX12_storeLine 79 = .ok (.iconst 1, 1) := by decide +kernel
theorem dX12_storeLine_80 : decode cX12_storeLine 80 = .ok (.aload_n 0, 1) := by decide +kernel
theorem dX12_storeLine_81 : decode cX12_storeLine 81 = .ok (.getfield 41, 3) := by decide +kernel
theorem dX12_storeLine_84 : decode cX12_storeLine 84 = .ok (.iconst 0, 1) := by decide +kernel
theorem dX12_storeLine_85 : decode cX12_storeLine 85 = .ok (.iaload, 1) := by decide +kernel
theorem dX12_storeLine_86 : decode cX12_storeLine 86 = .ok (.ishl, 1) := by decide +kernel
theorem dX12_storeLine_87 : decode cX12_storeLine 87 = .ok (.ior, 1) := by decide +kernel
theorem dX12_storeLine_88 : decode cX12_storeLine 88 = .ok (.iastore, 1) := by decide +kernel
theorem dX12_storeLine_89 : decode cX12_storeLine 89 = .ok (.aload_n 0, 1) := by decide +kernel
theorem dX12_storeLine_90 : decode cX12_storeLine 90 = .ok (.getfield 38, 3) := by decide +kernel
theorem dX12_storeLine_93 : decode cX12_storeLine 93 = .ok (.iconst 3, 1) := by decide +kernel
theorem dX12_storeLine_94 : decode cX12_storeLine 94 = .ok (.aload_n 0, 1) := by decide +kernel
theorem dX12_storeLine_95 : decode cX12_storeLine 95 = .ok (.getfield 41, 3) := by decide +kernel
theorem dX12_storeLine_98 : decode cX12_storeLine 98 = .ok (.iconst 0, 1) := by decide +kernel
theorem dX12_storeLine_99 : decode cX12_storeLine 99 = .ok (.iaload, 1) := by decide +kernel
theorem dX12_storeLine_100 : decode cX12_storeLine 100 = .ok (.iadd, 1) := by decide +kernel
theorem dX12_storeLine_101 : decode cX12_storeLine 101 = .ok (.aload_n 0, 1) := by decide +kernel
theorem dX12_storeLine_102 : decode cX12_storeLine 102 = .ok (.getfield 41, 3) := by decide +kernel
theorem dX12_storeLine_105 : decode cX12_storeLine 105 = .ok (.iconst 1, 1) := by decide +kernel
theorem dX12_storeLine_106 : decode cX12_storeLine 106 = .ok (.iaload, 1) := by decide +kernel
theorem dX12_storeLine_107 : decode cX12_storeLine 107 = .ok (.iastore, 1) := by decide +kernel
theorem dX12_storeLine_108 : decode cX12_storeLine 108 = .ok (.iconst 1, 1) := by decide +kernel
theorem dX12_storeLine_109 : decode cX12_storeLine 109 = .ok (.ireturn, 1) := by decide +kernel
theorem dX12_storeLine_110 : decode cX12_storeLine 110 = .ok (.aload_n 0, 1) := by decide +kernel
theorem dX12_storeLine_111 : decode cX12_storeLine 111 = .ok (.iconst 0, 1) := by decide +kernel
theorem dX12_storeLine_112 : decode cX12_storeLine 112 = .ok (.iconst 1, 1) := by decide +kernel
theorem dX12_storeLine_113 : decode cX12_storeLine 113 = .ok (.lload_n 1, 1) := by decide +kernel
theorem dX12_storeLine_114 : decode cX12_storeLine 114 = .ok (.ldc2_w 211, 3) := by decide +kernel
theorem dX12_storeLine_117 : decode cX12_storeLine 117 = .ok (.lcmp, 1) := by decide +kernel
theorem dX12_storeLine_118 : decode cX12_storeLine 118 = .ok (.ifCond .ne 7, 3) := by decide +kernel
theorem dX12_storeLine_121 : decode cX12_storeLine 121 = .ok (.iconst 5, 1) := by decide +kernel
theorem dX12_storeLine_122 : decode cX12_storeLine 122 = .ok (.goto 4, 3) := by decide +kernel
theorem dX12_storeLine_125 : decode cX12_storeLine 125 = .ok (.iconst 4, 1) := by decide +kernel
theorem dX12_storeLine_126 : decode cX12_storeLine 126 = .ok (.invokevirtual 217, 3) := by decide +kernel
theorem dX12_storeLine_129 : decode cX12_storeLine 129 = .ok (.ifCond .ne 5, 3) := by decide +kernel
theorem dX12_storeLine_132 : decode cX12_storeLine 132 = .ok (.iconst 0, 1) := by decide +kernel
theorem dX12_storeLine_133 : decode cX12_storeLine 133 = .ok (.ireturn, 1) := by decide +kernel
theorem dX12_storeLine_134 : decode cX12_storeLine 134 = .ok (.lload_n 1, 1) := by decide +kernel
theorem dX12_storeLine_135 : decode cX12_storeLine 135 = .ok (.ldc2_w 211, 3) := by decide +kernel
theorem dX12_storeLine_138 : decode cX12_storeLine 138 = .ok (.lcmp, 1) := by decide +kernel
theorem dX12_storeLine_139 : decode cX12_storeLine 139 = .ok (.ifCond .ne 7, 3) := by decide +kernel
theorem dX12_storeLine_142 : decode cX12_storeLine 142 = .ok (.iconst 0, 1) := by decide +kernel
theorem dX12_storeLine_143 : decode cX12_storeLine 143 = .ok (.goto 4, 3) := by decide +kernel
theorem dX12_storeLine_146 : decode cX12_storeLine 146 = .ok (.iconst 1, 1) := by decide +kernel
theorem dX12_storeLine_147 : decode cX12_storeLine 147 = .ok (.istore_n 3, 1) := by decide +kernel
theorem dX12_storeLine_148 : decode cX12_storeLine 148 = .ok (.aload_n 0, 1) := by decide +kernel
theorem dX12_storeLine_149 : decode cX12_storeLine 149 = .ok (.getfield 38, 3) := by decide +kernel
theorem dX12_storeLine_152 : decode cX12_storeLine 152 = .ok (.iload_n 3, 1) := by decide +kernel
theorem dX12_storeLine_153 : decode cX12_storeLine 153 = .ok (.aload_n 0, 1) := by decide +kernel
theorem dX12_storeLine_154 : decode cX12_storeLine 154 = .ok (.getfield 204, 3) := by decide +kernel
theorem dX12_storeLine_157 : decode cX12_storeLine 157 = .ok (.ifCond .eq 12, 3) := by decide +kernel
theorem dX12_storeLine_160 : decode cX12_storeLine 160 = .ok (.aload_n 0, 1) := by decide +kernel
theorem dX12_storeLine_161 : decode cX12_storeLine 161 = .ok (.getfield 41, 3) := by decide +kernel
theorem dX12_storeLine_164 : decode cX12_storeLine 164 = .ok (.iconst 0, 1) := by decide +kernel
theorem dX12_storeLine_165 : decode cX12_storeLine 165 = .ok (.iaload, 1) := by decide +kernel
theorem dX12_storeLine_166 : decode cX12_storeLine 166 = .ok (.goto 9, 3) := by decide +kernel
theorem dX12_storeLine_169 : decode cX12_storeLine 169 = .ok (.aload_n 0, 1) := by decide +kernel
theorem dX12_storeLine_170 : decode cX12_storeLine 170 = .ok (.getfield 38, 3) := by decide +kernel
theorem dX12_storeLine_173 : decode cX12_storeLine 173 = .ok (.iload_n 3, 1) := by decide +kernel
theorem dX12_storeLine_174 : decode cX12_storeLine 174 = .ok (.iaload, 1) := by decide +kernel
theorem dX12_storeLine_175 : decode cX12_storeLine 175 = .ok (.iastore, 1) := by decide +kernel
theorem dX12_storeLine_176 : decode cX12_storeLine 176 = .ok (.iconst 1, 1) := by decide +kernel
theorem dX12_storeLine_177 : decode cX12_storeLine 177 = .ok (.ireturn, 1) := by decide +kernel
theorem dX12_stepBy_0 : decode cX12_stepBy 0 = .ok (.lload_n 1, 1) := by decide +kernel
theorem dX12_stepBy_1 : decode cX12_stepBy 1 = .ok (.ldc2_w 220, 3) := by decide +kernel
theorem dX12_stepBy_4 : decode cX12_stepBy 4 = .ok (.lcmp, 1) := by decide +kernel
theorem dX12_stepBy_5 : decode cX12_stepBy 5 = .ok (.ifCond .ne 7, 3) := by decide +kernel
theorem dX12_stepBy_8 : decode cX12_stepBy 8 = .ok (.iconst 0, 1) := by decide +kernel
theorem dX12_stepBy_9 : decode cX12_stepBy 9 = .ok (.goto 64, 3) := by decide +kernel
theorem dX12_stepBy_12 : decode cX12_stepBy 12 = .ok (.lload_n 1, 1) := by decide +kernel
theorem dX12_stepBy_13 : decode cX12_stepBy 13 = .ok (.ldc2_w 222, 3) := by decide +kernel
theorem dX12_stepBy_16 : decode cX12_stepBy 16 = .ok (.lcmp, 1) := by decide +kernel
theorem dX12_stepBy_17 : decode cX12_stepBy 17 = .ok (.ifCond .ne 7, 3) := by decide +kernel
theorem dX12_stepBy_20 : decode cX12_stepBy 20 = .ok (.iconst 1, 1) := by decide +kernel
theorem dX12_stepBy_21 : decode cX12_stepBy 21 = .ok (.goto 52, 3) := by decide +kernel
theorem dX12_stepBy_24 : decode cX12_stepBy 24 = .ok (.lload_n 1, 1) := by decide +kernel
theorem dX12_stepBy_25 : decode cX12_stepBy 25 = .ok (.ldc2_w 224, 3) := by decide +kernel
theorem dX12_stepBy_28 : decode cX12_stepBy 28 = .ok (.lcmp, 1) := by decide +kernel
theorem dX12_stepBy_29 : decode cX12_stepBy 29 = .ok (.ifCond .ne 7, 3) := by decide +kernel
theorem dX12_stepBy_32 : decode cX12_stepBy 32 = .ok (.iconst 2, 1) := by decide +kernel
theorem dX12_stepBy_33 : decode cX12_stepBy 33 = .ok (.goto 40, 3) := by decide +kernel
theorem dX12_stepBy_36 : decode cX12_stepBy 36 = .ok (.lload_n 1, 1) := by decide +kernel
theorem dX12_stepBy_37 : decode cX12_stepBy 37 = .ok (.ldc2_w 226, 3) := by decide +kernel
theorem dX12_stepBy_40 : decode cX12_stepBy 40 = .ok (.lcmp, 1) := by decide +kernel
theorem dX12_stepBy_41 : decode cX12_stepBy 41 = .ok (.ifCond .ne 7, 3) := by decide +kernel
theorem dX12_stepBy_44 : decode cX12_stepBy 44 = .ok (.iconst 3, 1) := by decide +kernel
theorem dX12_stepBy_45 : decode cX12_stepBy 45 = .ok (.goto 28, 3) := by decide +kernel
theorem dX12_stepBy_48 : decode cX12_stepBy 48 = .ok (.lload_n 1, 1) := by decide +kernel
theorem dX12_stepBy_49 : decode cX12_stepBy 49 = .ok (.ldc2_w 228, 3) := by decide +kernel
theorem dX12_stepBy_52 : decode cX12_stepBy 52 = .ok (.lcmp, 1) := by decide +kernel
theorem dX12_stepBy_53 : decode cX12_stepBy 53 = .ok (.ifCond .ne 7, 3) := by decide +kernel
theorem dX12_stepBy_56 : decode cX12_stepBy 56 = .ok (.iconst 4, 1) := by decide +kernel
theorem dX12_stepBy_57 : decode cX12_stepBy 57 = .ok (.goto 16, 3) := by decide +kernel
theorem dX12_stepBy_60 : decode cX12_stepBy 60 = .ok (.lload_n 1, 1) := by decide +kernel
theorem dX12_stepBy_61 : decode cX12_stepBy 61 = .ok (.ldc2_w 230, 3) := by decide +kernel
theorem dX12_stepBy_64 : decode cX12_stepBy 64 = .ok (.lcmp, 1) := by decide +kernel
theorem dX12_stepBy_65 : decode cX12_stepBy 65 = .ok (.ifCond .ne 7, 3) := by decide +kernel
theorem dX12_stepBy_68 : decode cX12_stepBy 68 = .ok (.iconst 5, 1) := by decide +kernel
theorem dX12_stepBy_69 : decode cX12_stepBy 69 = .ok (.goto 4, 3) := by decide +kernel
theorem dX12_stepBy_72 : decode cX12_stepBy 72 = .ok (.iconst (-1), 1) := by decide +kernel
theorem dX12_stepBy_73 : decode cX12_stepBy 73 = .ok (.ireturn, 1) := by decide +kernel
theorem dX12_taskLine_0 : decode cX12_taskLine 0 = .ok (.aload_n 0, 1) := by decide +kernel
theorem dX12_taskLine_1 : decode cX12_taskLine 1 = .ok (.iconst 0, 1) := by decide +kernel
theorem dX12_taskLine_2 : decode cX12_taskLine 2 = .ok (.bipush 7, 2) := by decide +kernel
theorem dX12_taskLine_4 : decode cX12_taskLine 4 = .ok (.iload_n 1, 1) := by decide +kernel
theorem dX12_taskLine_5 : decode cX12_taskLine 5 = .ok (.invokevirtual 232, 3) := by decide +kernel
theorem dX12_taskLine_8 : decode cX12_taskLine 8 = .ok (.aload_n 0, 1) := by decide +kernel
theorem dX12_taskLine_9 : decode cX12_taskLine 9 = .ok (.invokevirtual 208, 3) := by decide +kernel
theorem dX12_taskLine_12 : decode cX12_taskLine 12 = .ok (.aload_n 0, 1) := by decide +kernel
theorem dX12_taskLine_13 : decode cX12_taskLine 13 = .ok (.aload_n 0, 1) := by decide +kernel
theorem dX12_taskLine_14 : decode cX12_taskLine 14 = .ok (.getfield 38, 3) := by decide +kernel
theorem dX12_taskLine_17 : decode cX12_taskLine 17 = .ok (.iconst 0, 1) := by decide +kernel
theorem dX12_taskLine_18 : decode cX12_taskLine 18 = .ok (.iaload, 1) := by decide +kernel
theorem dX12_taskLine_19 : decode cX12_taskLine 19 = .ok (.iconst 1, 1) := by decide +kernel
theorem dX12_taskLine_20 : decode cX12_taskLine 20 = .ok (.iadd, 1) := by decide +kernel
theorem dX12_taskLine_21 : decode cX12_taskLine 21 = .ok (.putfield 236, 3) := by decide +kernel
theorem dX12_taskLine_24 : decode cX12_taskLine 24 = .ok (.aload_n 0, 1) := by decide +kernel
theorem dX12_taskLine_25 : decode cX12_taskLine 25 = .ok (.getfield 38, 3) := by decide +kernel
theorem dX12_taskLine_28 : decode cX12_taskLine 28 = .ok (.iconst 0, 1) := by decide +kernel
theorem dX12_taskLine_29 : decode cX12_taskLine 29 = .ok (.bipush 7, 2) := by decide +kernel
theorem dX12_taskLine_31 : decode cX12_taskLine 31 = .ok (.aload_n 0, 1) := by decide +kernel
theorem dX12_taskLine_32 : decode cX12_taskLine 32 = .ok (.getfield 236, 3) := by decide +kernel
theorem dX12_taskLine_35 : decode cX12_taskLine 35 = .ok (.invokestatic 239, 3) := by decide +kernel
theorem dX12_taskLine_38 : decode cX12_taskLine 38 = .ok (.iastore, 1) := by decide +kernel
theorem dX12_taskLine_39 : decode cX12_taskLine 39 = .ok (.iconst 1, 1) := by decide +kernel
theorem dX12_taskLine_40 : decode cX12_taskLine 40 = .ok (.ireturn, 1) := by decide +kernel
theorem dX12_stepLine_0 : decode cX12_stepLine 0 = .ok (.aload_n 0, 1) := by decide +kernel
theorem dX12_stepLine_1 : decode cX12_stepLine 1 = .ok (.getfield 236, 3) := by decide +kernel
theorem dX12_stepLine_4 : decode cX12_stepLine 4 = .ok (.iconst 1, 1) := by decide +kernel
theorem dX12_stepLine_5 : decode cX12_stepLine 5 = .ok (.isub, 1) := by decide +kernel
theorem dX12_stepLine_6 : decode cX12_stepLine 6 = .ok (.istore_n 3, 1) := by decide +kernel
theorem dX12_stepLine_7 : decode cX12_stepLine 7 = .ok (.iconst 1, 1) := by decide +kernel
theorem dX12_stepLine_8 : decode cX12_stepLine 8 = .ok (.bipush 19, 2) := by decide +kernel
theorem dX12_stepLine_10 : decode cX12_stepLine 10 = .ok (.iload_n 3, 1) := by decide +kernel
theorem dX12_stepLine_11 : decode cX12_stepLine 11 = .ok (.imul, 1) := by decide +kernel
theorem dX12_stepLine_12 : decode cX12_stepLine 12 = .ok (.iadd, 1) := by decide +kernel
theorem dX12_stepLine_13 : decode cX12_stepLine 13 = .ok (.istore 4, 2) := by decide +kernel
theorem dX12_stepLine_15 : decode cX12_stepLine 15 = .ok (.iload_n 3, 1) := by decide +kernel
theorem dX12_stepLine_16 : decode cX12_stepLine 16 = .ok (.ifCond .lt 21, 3) := by decide +kernel
theorem dX12_stepLine_19 : decode cX12_stepLine 19 = .ok (.iload_n 3, 1) := by decide +kernel
theorem dX12_stepLine_20 : decode cX12_stepLine 20 = .ok (.bipush 7, 2) := by decide +kernel
theorem dX12_stepLine_22 : decode cX12_stepLine 22 = .ok (.if_icmp .ge 21, 3) := by decide +kernel
theorem dX12_stepLine_25 : decode cX12_stepLine 25 = .ok (.aload_n 0, 1) := by decide +kernel
theorem dX12_stepLine_26 : decode cX12_stepLine 26 = .ok (.getfield 38, 3) := by decide +kernel
theorem dX12_stepLine_29 : decode cX12_stepLine 29 = .ok (.iload 4, 2) := by decide +kernel
theorem dX12_stepLine_31 : decode cX12_stepLine 31 = .ok (.iaload, 1) := by decide +kernel
theorem dX12_stepLine_32 : decode cX12_stepLine 32 = .ok (.bipush 6, 2) := by decide +kernel
theorem dX12_stepLine_34 : decode cX12_stepLine 34 = .ok (.if_icmp .ne 9, 3) := by decide +kernel
theorem dX12_stepLine_37 : decode cX12_stepLine 37 = .ok (.aload_n 0, 1) := by decide +kernel
theorem dX12_stepLine_38 : decode cX12_stepLine 38 = .ok (.iconst 3, 1) := by decide +kernel
theorem dX12_stepLine_39 : decode cX12_stepLine 39 = .ok (.iload_n 2, 1) := by decide +kernel
theorem dX12_stepLine_40 : decode cX12_stepLine 40 = .ok (.invokevirtual 200, 3) := by decide +kernel
theorem dX12_stepLine_43 : decode cX12_stepLine 43 = .ok (.aload_n 0, 1) := by decide +kernel
theorem dX12_stepLine_44 : decode cX12_stepLine 44 = .ok (.invokevirtual 208, 3) := by decide +kernel
theorem dX12_stepLine_47 : decode cX12_stepLine 47 = .ok (.aload_n 0, 1) := by decide +kernel
theorem dX12_stepLine_48 : decode cX12_stepLine 48 = .ok (.getfield 41, 3) := by decide +kernel
theorem dX12_stepLine_51 : decode cX12_stepLine 51 = .ok (.iconst 1, 1) := by decide +kernel
theorem dX12_stepLine_52 : decode cX12_stepLine 52 = .ok (.iconst (-1), 1) := by decide +kernel
theorem dX12_stepLine_53 : decode cX12_stepLine 53 = .ok (.iastore, 1) := by decide +kernel
theorem dX12_stepLine_54 : decode cX12_stepLine 54 = .ok (.aload_n 0, 1) := by decide +kernel
theorem dX12_stepLine_55 : decode cX12_stepLine 55 = .ok (.iconst 0, 1) := by decide +kernel
theorem dX12_stepLine_56 : decode cX12_stepLine 56 = .ok (.iconst 0, 1) := by decide +kernel
theorem dX12_stepLine_57 : decode cX12_stepLine 57 = .ok (.bipush 9, 2) := by decide +kernel
theorem dX12_stepLine_59 : decode cX12_stepLine 59 = .ok (.invokevirtual 217, 3) := by decide +kernel
theorem dX12_stepLine_62 : decode cX12_stepLine 62 = .ok (.ifCond .ne 5, 3) := by decide +kernel
theorem dX12_stepLine_65 : decode cX12_stepLine 65 = .ok (.iconst 0, 1) := by decide +kernel
theorem dX12_stepLine_66 : decode cX12_stepLine 66 = .ok (.ireturn, 1) := by decide +kernel
theorem dX12_stepLine_67 : decode cX12_stepLine 67 = .ok (.iload_n 1, 1) := by decide +kernel
theorem dX12_stepLine_68 : decode cX12_stepLine 68 = .ok (.iconst 3, 1) := by decide +kernel
theorem dX12_stepLine_69 : decode cX12_stepLine 69 = .ok (.if_icmp .lt 40, 3) := by decide +kernel
theorem dX12_stepLine_72 : decode cX12_stepLine 72 = .ok (.aload_n 0, 1) := by decide +kernel
theorem dX12_stepLine_73 : decode cX12_stepLine 73 = .ok (.iconst 1, 1) := by decide +kernel
theorem dX12_stepLine_74 : decode cX12_stepLine 74 = .ok (.iload_n 1, 1) := by decide +kernel
theorem dX12_stepLine_75 : decode cX12_stepLine 75 = .ok (.iconst 5, 1) := by decide +kernel
theorem dX12_stepLine_76 : decode cX12_stepLine 76 = .ok (.if_icmp .ne 12, 3) := by decide +kernel
theorem dX12_stepLine_79 : decode cX12_stepLine 79 = .ok (.aload_n 0, 1) := by decide +kernel
theorem dX12_stepLine_80 : decode cX12_stepLine 80 = .ok (.getfield 41, 3) := by decide +kernel
theorem dX12_stepLine_83 : decode cX12_stepLine 83 = .ok (.iconst 0, 1) := by decide +kernel
theorem dX12_stepLine_84 : decode cX12_stepLine 84 = .ok (.iaload, 1) := by decide +kernel
theorem dX12_stepLine_85 : decode cX12_stepLine 85 = .ok (.goto 4, 3) := by decide +kernel
theorem dX12_stepLine_88 : decode cX12_stepLine 88 = .ok (.iconst 0, 1) := by decide +kernel
theorem dX12_stepLine_89 : decode cX12_stepLine 89 = .ok (.iload_n 1, 1) := by decide +kernel
theorem dX12_stepLine_90 : decode cX12_stepLine 90 = .ok (.iconst 5, 1) := by decide +kernel
theorem dX12_stepLine_91 : decode cX12_stepLine 91 = .ok (.if_icmp .ne 8, 3) := by decide +kernel
theorem dX12_stepLine_94 : decode cX12_stepLine 94 = .ok (.bipush 9, 2) := by decide +kernel
theorem dX12_stepLine_96 : decode cX12_stepLine 96 = .ok (.goto 5, 3) := by decide +kernel
theorem dX12_stepLine_99 : decode cX12_stepLine 99 = .ok (.bipush 99, 2) := by decide +kernel
theorem dX12_stepLine_101 : decode cX12_stepLine 101 = .ok (.invokevirtual 217, 3) := by decide +kernel
theorem dX12_stepLine_104 : decode cX12_stepLine 104 = .ok (.ifCond .ne 5, 3) := by decide +kernel
theorem dX12_stepLine_107 : decode cX12_stepLine 107 = .ok (.iconst 0, 1) := by decide +kernel
theorem dX12_stepLine_108 : decode cX12_stepLine 108 = .ok (.ireturn, 1) := by decide +kernel
theorem dX12_stepLine_109 : decode cX12_stepLine 109 = .ok (.iload_n 3, 1) := by decide +kernel
theorem dX12_stepLine_110 : decode cX12_stepLine 110 = .ok (.iconst 0, 1) := by decide +kernel
theorem dX12_stepLine_111 : decode cX12_stepLine 111 = .ok (.bipush 6, 2) := by decide +kernel
theorem dX12_stepLine_113 : decode cX12_stepLine 113 = .ok (.invokestatic 156, 3) := by decide +kernel
theorem dX12_stepLine_116 : decode cX12_stepLine 116 = .ok (.ifCond .eq 90, 3) := by decide +kernel
theorem dX12_stepLine_119 : decode cX12_stepLine 119 = .ok (.aload_n 0, 1) := by decide +kernel
theorem dX12_stepLine_120 : decode cX12_stepLine 120 = .ok (.getfield 38, 3) := by decide +kernel
theorem dX12_stepLine_123 : decode cX12_stepLine 123 = .ok (.iload 4, 2) := by decide +kernel
theorem dX12_stepLine_125 : decode cX12_stepLine 125 = .ok (.iaload, 1) := by decide +kernel
theorem dX12_stepLine_126 : decode cX12_stepLine 126 = .ok (.istore 5, 2) := by decide +kernel
theorem dX12_stepLine_128 : decode cX12_stepLine 128 = .ok (.iload 5, 2) := by decide +kernel
theorem dX12_stepLine_130 : decode cX12_stepLine 130 = .ok (.bipush 6, 2) := by decide +kernel
theorem dX12_stepLine_132 : decode cX12_stepLine 132 = .ok (.if_icmp .ge 58, 3) := by decide +kernel
theorem dX12_stepLine_135 : decode cX12_stepLine 135 = .ok (.aload_n 0, 1) := by decide +kernel
theorem dX12_stepLine_136 : decode cX12_stepLine 136 = .ok (.getfield 38, 3) := by decide +kernel
theorem dX12_stepLine_139 : decode cX12_stepLine 139 = .ok (.iload 4, 2) := by decide +kernel
theorem dX12_stepLine_141 : decode cX12_stepLine 141 = .ok (.iconst 1, 1) := by decide +kernel
theorem dX12_stepLine_142 : decode cX12_stepLine 142 = .ok (.iadd, 1) := by decide +kernel
theorem dX12_stepLine_143 : decode cX12_stepLine 143 = .ok (.iconst 3, 1) := by decide +kernel
theorem dX12_stepLine_144 : decode cX12_stepLine 144 = .ok (.iload 5, 2) := by decide +kernel
theorem dX12_stepLine_146 : decode cX12_stepLine 146 = .ok (.imul, 1) := by decide +kernel
theorem dX12_stepLine_147 : decode cX12_stepLine 147 = .ok (.iadd, 1) := by decide +kernel
theorem dX12_stepLine_148 : decode cX12_stepLine 148 = .ok (.iload_n 1, 1) := by decide +kernel
theorem dX12_stepLine_149 : decode cX12_stepLine 149 = .ok (.iastore, 1) := by decide +kernel
theorem dX12_stepLine_150 : decode cX12_stepLine 150 = .ok (.aload_n 0, 1) := by decide +kernel
theorem dX12_stepLine_151 : decode cX12_stepLine 151 = .ok (.getfield 38, 3) := by decide +kernel
theorem dX12_stepLine_154 : decode cX12_stepLine 154 = .ok (.iload 4, 2) := by decide +kernel
theorem dX12_stepLine_156 : decode cX12_stepLine 156 = .ok (.iconst 2, 1) := by decide +kernel
theorem dX12_stepLine_157 : decode cX12_stepLine 157 = .ok (.iadd, 1) := by decide +kernel
theorem dX12_stepLine_158 : decode cX12_stepLine 158 = .ok (.iconst 3, 1) := by decide +kernel
theorem dX12_stepLine_159 : decode cX12_stepLine 159 = .ok (.iload 5, 2) := by decide +kernel
theorem dX12_stepLine_161 : decode cX12_stepLine 161 = .ok (.imul, 1) := by decide +kernel
theorem dX12_stepLine_162 : decode cX12_stepLine 162 = .ok (.iadd, 1) := by decide +kernel
theorem dX12_stepLine_163 : decode cX12_stepLine 163 = .ok (.aload_n 0, 1) := by decide +kernel
theorem dX12_stepLine_164 : decode cX12_stepLine 164 = .ok (.getfield 41, 3) := by decide +kernel
theorem dX12_stepLine_167 : decode cX12_stepLine 167 = .ok (.iconst 0, 1) := by decide +kernel
theorem dX12_stepLine_168 : decode cX12_stepLine 168 = .ok (.iaload, 1) := by decide +kernel
theorem dX12_stepLine_169 : decode cX12_stepLine 169 = .ok (.iastore, 1) := by decide +kernel
theorem dX12_stepLine_170 : decode cX12_stepLine 170 = .ok (.aload_n 0, 1) := by decide +kernel
theorem dX12_stepLine_171 : decode cX12_stepLine 171 = .ok (.getfield 38, 3) := by decide +kernel
theorem dX12_stepLine_174 : decode cX12_stepLine 174 = .ok (.iload 4, 2) := by decide +kernel
theorem dX12_stepLine_176 : decode cX12_stepLine 176 = .ok (.iconst 3, 1) := by decide +kernel
theorem dX12_stepLine_177 : decode cX12_stepLine 177 = .ok (.iadd, 1) := by decide +kernel
theorem dX12_stepLine_178 : decode cX12_stepLine 178 = .ok (.iconst 3, 1) := by decide +kernel
theorem dX12_stepLine_179 : decode cX12_stepLine 179 = .ok (.iload 5, 2) := by decide +kernel
theorem dX12_stepLine_181 : decode cX12_stepLine 181 = .ok (.imul, 1) := by decide +kernel
theorem dX12_stepLine_182 : decode cX12_stepLine 182 = .ok (.iadd, 1) := by decide +kernel
theorem dX12_stepLine_183 : decode cX12_stepLine 183 = .ok (.aload_n 0, 1) := by decide +kernel
theorem dX12_stepLine_184 : decode cX12_stepLine 184 = .ok (.getfield 41, 3) := by decide +kernel
theorem dX12_stepLine_187 : decode cX12_stepLine 187 = .ok (.iconst 1, 1) := by decide +kernel
theorem dX12_stepLine_188 : decode cX12_stepLine 188 = .ok (.iaload, 1) := by decide +kernel
theorem dX12_stepLine_189 : decode cX12_stepLine 189 = .ok (.iastore, 1) := by decide +kernel
theorem dX12_stepLine_190 : decode cX12_stepLine 190 = .ok (.aload_n 0, 1) := by decide +kernel
theorem dX12_stepLine_191 : decode cX12_stepLine 191 = .ok (.getfield 38, 3) := by decide +kernel
theorem dX12_stepLine_194 : decode cX12_stepLine 194 = .ok (.iload 4, 2) := by decide +kernel
theorem dX12_stepLine_196 : decode cX12_stepLine 196 = .ok (.bipush 6, 2) := by decide +kernel
theorem dX12_stepLine_198 : decode cX12_stepLine 198 = .ok (.iload 5, 2) := by decide +kernel
theorem dX12_stepLine_200 : decode cX12_stepLine 200 = .ok (.iconst 1, 1) := by decide +kernel
theorem dX12_stepLine_201 : decode cX12_stepLine 201 = .ok (.iadd, 1) := by decide +kernel
theorem dX12_stepLine_202 : decode cX12_stepLine 202 = .ok (.invokestatic 239, 3) := by decide +kernel
theorem dX12_stepLine_205 : decode cX12_stepLine 205 = .ok (.iastore, 1) := by decide +kernel
theorem dX12_stepLine_206 : decode cX12_stepLine 206 = .ok (.iconst 1, 1) := by decide +kernel
theorem dX12_stepLine_207 : decode cX12_stepLine 207 = .ok (.ireturn, 1) := by decide +kernel
theorem dX12_bookLine_0 : decode cX12_bookLine 0 = .ok (.aload_n 0, 1) := by decide +kernel
theorem dX12_bookLine_1 : decode cX12_bookLine 1 = .ok (.lload_n 1, 1) := by decide +kernel
theorem dX12_bookLine_2 : decode cX12_bookLine 2 = .ok (.invokevirtual 243, 3) := by decide +kernel
theorem dX12_bookLine_5 : decode cX12_bookLine 5 = .ok (.istore 4, 2) := by decide +kernel
theorem dX12_bookLine_7 : decode cX12_bookLine 7 = .ok (.lload_n 1, 1) := by decide +kernel
theorem dX12_bookLine_8 : decode cX12_bookLine 8 = .ok (.ldc2_w 247, 3) := by decide +kernel
theorem dX12_bookLine_11 : decode cX12_bookLine 11 = .ok (.lcmp, 1) := by decide +kernel
theorem dX12_bookLine_12 : decode cX12_bookLine 12 = .ok (.ifCond .ne 11, 3) := by decide +kernel
theorem dX12_bookLine_15 : decode cX12_bookLine 15 = .ok (.aload_n 0, 1) := by decide +kernel
theorem dX12_bookLine_16 : decode cX12_bookLine 16 = .ok (.iload_n 3, 1) := by decide +kernel
theorem dX12_bookLine_17 : decode cX12_bookLine 17 = .ok (.invokevirtual 249, 3) := by decide +kernel
theorem dX12_bookLine_20 : decode cX12_bookLine 20 = .ok (.goto 23, 3) := by decide +kernel
theorem dX12_bookLine_23 : decode cX12_bookLine 23 = .ok (.iload 4, 2) := by decide +kernel
theorem dX12_bookLine_25 : decode cX12_bookLine 25 = .ok (.iconst (-1), 1) := by decide +kernel
theorem dX12_bookLine_26 : decode cX12_bookLine 26 = .ok (.if_icmp .ne 10, 3) := by decide +kernel
theorem dX12_bookLine_29 : decode cX12_bookLine 29 = .ok (.aload_n 0, 1) := by decide +kernel
theorem dX12_bookLine_30 : decode cX12_bookLine 30 = .ok (.invokevirtual 196, 3) := by decide +kernel
theorem dX12_bookLine_33 : decode cX12_bookLine 33 = .ok (.goto 10, 3) := by decide +kernel
theorem dX12_bookLine_36 : decode cX12_bookLine 36 = .ok (.aload_n 0, 1) := by decide +kernel
theorem dX12_bookLine_37 : decode cX12_bookLine 37 = .ok (.iload 4, 2) := by decide +kernel
theorem dX12_bookLine_39 : decode cX12_bookLine 39 = .ok (.iload_n 3, 1) := by decide +kernel
theorem dX12_bookLine_40 : decode cX12_bookLine 40 = .ok (.invokevirtual 253, 3) := by decide +kernel
theorem dX12_bookLine_43 : decode cX12_bookLine 43 = .ok (.ireturn, 1) := by decide +kernel
theorem dX12_deedBy_0 : decode cX12_deedBy 0 = .ok (.lload_n 1, 1) := by decide +kernel
theorem dX12_deedBy_1 : decode cX12_deedBy 1 = .ok (.ldc2_w 256, 3) := by decide +kernel
theorem dX12_deedBy_4 : decode cX12_deedBy 4 = .ok (.lcmp, 1) := by decide +kernel
theorem dX12_deedBy_5 : decode cX12_deedBy 5 = .ok (.ifCond .ne 7, 3) := by decide +kernel
theorem dX12_deedBy_8 : decode cX12_deedBy 8 = .ok (.iconst 0, 1) := by decide +kernel
theorem dX12_deedBy_9 : decode cX12_deedBy 9 = .ok (.goto 77, 3) := by decide +kernel
theorem dX12_deedBy_12 : decode cX12_deedBy 12 = .ok (.lload_n 1, 1) := by decide +kernel
theorem dX12_deedBy_13 : decode cX12_deedBy 13 = .ok (.ldc2_w 258, 3) := by decide +kernel
theorem dX12_deedBy_16 : decode cX12_deedBy 16 = .ok (.lcmp, 1) := by decide +kernel
theorem dX12_deedBy_17 : decode cX12_deedBy 17 = .ok (.ifCond .ne 7, 3) := by decide +kernel
theorem dX12_deedBy_20 : decode cX12_deedBy 20 = .ok (.iconst 1, 1) := by decide +kernel
theorem dX12_deedBy_21 : decode cX12_deedBy 21 = .ok (.goto 65, 3) := by decide +kernel
theorem dX12_deedBy_24 : decode cX12_deedBy 24 = .ok (.lload_n 1, 1) := by decide +kernel
theorem dX12_deedBy_25 : decode cX12_deedBy 25 = .ok (.ldc2_w 260, 3) := by decide +kernel
theorem dX12_deedBy_28 : decode cX12_deedBy 28 = .ok (.lcmp, 1) := by decide +kernel
theorem dX12_deedBy_29 : decode cX12_deedBy 29 = .ok (.ifCond .ne 7, 3) := by decide +kernel
theorem dX12_deedBy_32 : decode cX12_deedBy 32 = .ok (.iconst 2, 1) := by decide +kernel
theorem dX12_deedBy_33 : decode cX12_deedBy 33 = .ok (.goto 53, 3) := by decide +kernel
theorem dX12_deedBy_36 : decode cX12_deedBy 36 = .ok (.lload_n 1, 1) := by decide +kernel
theorem dX12_deedBy_37 : decode cX12_deedBy 37 = .ok (.ldc2_w 262, 3) := by decide +kernel
theorem dX12_deedBy_40 : decode cX12_deedBy 40 = .ok (.lcmp, 1) := by decide +kernel
theorem dX12_deedBy_41 : decode cX12_deedBy 41 = .ok (.ifCond .ne 7, 3) := by decide +kernel
theorem dX12_deedBy_44 : decode cX12_deedBy 44 = .ok (.iconst 3, 1) := by decide +kernel
theorem dX12_deedBy_45 : decode cX12_deedBy 45 = .ok (.goto 41, 3) := by decide +kernel
theorem dX12_deedBy_48 : decode cX12_deedBy 48 = .ok (.lload_n 1, 1) := by decide +kernel
theorem dX12_deedBy_49 : decode cX12_deedBy 49 = .ok (.ldc2_w 264, 3) := by decide +kernel
theorem dX12_deedBy_52 : decode cX12_deedBy 52 = .ok (.lcmp, 1) := by decide +kernel
theorem dX12_deedBy_53 : decode cX12_deedBy 53 = .ok (.ifCond .ne 7, 3) := by decide +kernel
theorem dX12_deedBy_56 : decode cX12_deedBy 56 = .ok (.iconst 4, 1) := by decide +kernel
theorem dX12_deedBy_57 : decode cX12_deedBy 57 = .ok (.goto 29, 3) := by decide +kernel
theorem dX12_deedBy_60 : decode cX12_deedBy 60 = .ok (.lload_n 1, 1) := by decide +kernel
theorem dX12_deedBy_61 : decode cX12_deedBy 61 = .ok (.ldc2_w 266, 3) := by decide +kernel
theorem dX12_deedBy_64 : decode cX12_deedBy 64 = .ok (.lcmp, 1) := by decide +kernel
theorem dX12_deedBy_65 : decode cX12_deedBy 65 = .ok (.ifCond .ne 7, 3) := by decide +kernel
theorem dX12_deedBy_68 : decode cX12_deedBy 68 = .ok (.iconst 5, 1) := by decide +kernel
theorem dX12_deedBy_69 : decode cX12_deedBy 69 = .ok (.goto 17, 3) := by decide +kernel
theorem dX12_deedBy_72 : decode cX12_deedBy 72 = .ok (.lload_n 1, 1) := by decide +kernel
theorem dX12_deedBy_73 : decode cX12_deedBy 73 = .ok (.ldc2_w 268, 3) := by decide +kernel
theorem dX12_deedBy_76 : decode cX12_deedBy 76 = .ok (.lcmp, 1) := by decide +kernel
theorem dX12_deedBy_77 : decode cX12_deedBy 77 = .ok (.ifCond .ne 8, 3) := by decide +kernel
theorem dX12_deedBy_80 : decode cX12_deedBy 80 = .ok (.bipush 6, 2) := by decide +kernel
theorem dX12_deedBy_82 : decode cX12_deedBy 82 = .ok (.goto 4, 3) := by decide +kernel
theorem dX12_deedBy_85 : decode cX12_deedBy 85 = .ok (.iconst (-1), 1) := by decide +kernel
theorem dX12_deedBy_86 : decode cX12_deedBy 86 = .ok (.ireturn, 1) := by decide +kernel
theorem dX12_keepRow_0 : decode cX12_keepRow 0 = .ok (.aload_n 0, 1) := by decide +kernel
theorem dX12_keepRow_1 : decode cX12_keepRow 1 = .ok (.getfield 38, 3) := by decide +kernel
theorem dX12_keepRow_4 : decode cX12_keepRow 4 = .ok (.iconst 0, 1) := by decide +kernel
theorem dX12_keepRow_5 : decode cX12_keepRow 5 = .ok (.iaload, 1) := by decide +kernel
theorem dX12_keepRow_6 : decode cX12_keepRow 6 = .ok (.istore_n 3, 1) := by decide +kernel
theorem dX12_keepRow_7 : decode cX12_keepRow 7 = .ok (.iconst 0, 1) := by decide +kernel
theorem dX12_keepRow_8 : decode cX12_keepRow 8 = .ok (.istore 4, 2) := by decide +kernel
theorem dX12_keepRow_10 : decode cX12_keepRow 10 = .ok (.iload 4, 2) := by decide +kernel
theorem dX12_keepRow_12 : decode cX12_keepRow 12 = .ok (.iload_n 1, 1) := by decide +kernel
theorem dX12_keepRow_13 : decode cX12_keepRow 13 = .ok (.if_icmp .ge 34, 3) := by decide +kernel
theorem dX12_keepRow_16 : decode cX12_keepRow 16 = .ok (.iload_n 3, 1) := by decide +kernel
theorem dX12_keepRow_17 : decode cX12_keepRow 17 = .ok (.iload_n 2, 1) := by decide +kernel
theorem dX12_keepRow_18 : decode cX12_keepRow 18 = .ok (.if_icmp .ge 29, 3) := by decide +kernel
theorem dX12_keepRow_21 : decode cX12_keepRow 21 = .ok (.aload_n 0, 1) := by decide +kernel
theorem dX12_keepRow_22 : decode cX12_keepRow 22 = .ok (.getfield 38, 3) := by decide +kernel
theorem dX12_keepRow_25 : decode cX12_keepRow 25 = .ok (.iconst 1, 1) := by decide +kernel
theorem dX12_keepRow_26 : decode cX12_keepRow 26 = .ok (.iload_n 1, 1) := by decide +kernel
theorem dX12_keepRow_27 : decode cX12_keepRow 27 = .ok (.iload_n 3, 1) := by decide +kernel
theorem dX12_keepRow_28 : decode cX12_keepRow 28 = .ok (.imul, 1) := by decide +kernel
theorem dX12_keepRow_29 : decode cX12_keepRow 29 = .ok (.iadd, 1) := by decide +kernel
theorem dX12_keepRow_30 : decode cX12_keepRow 30 = .ok (.iload 4, 2) := by decide +kernel
theorem dX12_keepRow_32 : decode cX12_keepRow 32 = .ok (.iadd, 1) := by decide +kernel
theorem dX12_keepRow_33 : decode cX12_keepRow 33 = .ok (.aload_n 0, 1) := by decide +kernel
theorem dX12_keepRow_34 : decode cX12_keepRow 34 = .ok (.getfield 41, 3) := by decide +kernel
theorem dX12_keepRow_37 : decode cX12_keepRow 37 = .ok (.iload 4, 2) := by decide +kernel
theorem dX12_keepRow_39 : decode cX12_keepRow 39 = .ok (.iaload, 1) := by decide +kernel
theorem dX12_keepRow_40 : decode cX12_keepRow 40 = .ok (.iastore, 1) := by decide +kernel
theorem dX12_keepRow_41 : decode cX12_keepRow 41 = .ok (.iinc 4 1, 3) := by decide +kernel
theorem dX12_keepRow_44 : decode cX12_keepRow 44 = .ok (.goto (-34), 3) := by decide +kernel
theorem dX12_keepRow_47 : decode cX12_keepRow 47 = .ok (.aload_n 0, 1) := by decide +kernel
theorem dX12_keepRow_48 : decode cX12_keepRow 48 = .ok (.getfield 38, 3) := by decide +kernel
theorem dX12_keepRow_51 : decode cX12_keepRow 51 = .ok (.iconst 0, 1) := by decide +kernel
theorem dX12_keepRow_52 : decode cX12_keepRow 52 = .ok (.iload_n 2, 1) := by decide +kernel
theorem dX12_keepRow_53 : decode cX12_keepRow 53 = .ok (.iload_n 3, 1) := by decide +kernel
theorem dX12_keepRow_54 : decode cX12_keepRow 54 = .ok (.iconst 1, 1) := by decide +kernel
theorem dX12_keepRow_55 : decode cX12_keepRow 55 = .ok (.iadd, 1) := by decide +kernel
theorem dX12_keepRow_56 : decode cX12_keepRow 56 = .ok (.invokestatic 239, 3) := by decide +kernel
theorem dX12_keepRow_59 : decode cX12_keepRow 59 = .ok (.iastore, 1) := by decide +kernel
theorem dX12_keepRow_60 : decode cX12_keepRow 60 = .ok (.return_, 1) := by decide +kernel
theorem dX12_planLine_0 : decode cX12_planLine 0 = .ok (.aload_n 0, 1) := by decide +kernel
theorem dX12_planLine_1 : decode cX12_planLine 1 = .ok (.lload_n 1, 1) := by decide +kernel
theorem dX12_planLine_2 : decode cX12_planLine 2 = .ok (.invokevirtual 270, 3) := by decide +kernel
theorem dX12_planLine_5 : decode cX12_planLine 5 = .ok (.istore 4, 2) := by decide +kernel
theorem dX12_planLine_7 : decode cX12_planLine 7 = .ok (.iload 4, 2) := by decide +kernel
theorem dX12_planLine_9 : decode cX12_planLine 9 = .ok (.iconst (-1), 1) := by decide +kernel
theorem dX12_planLine_10 : decode cX12_planLine 10 = .ok (.if_icmp .ne 8, 3) := by decide +kernel
theorem dX12_planLine_13 : decode cX12_planLine 13 = .ok (.aload_n 0, 1) := by decide +kernel
theorem dX12_planLine_14 : decode cX12_planLine 14 = .ok (.invokevirtual 196, 3) := by decide +kernel
theorem dX12_planLine_17 : decode cX12_planLine 17 = .ok (.ireturn, 1) := by decide +kernel
theorem dX12_planLine_18 : decode cX12_planLine 18 = .ok (.aload_n 0, 1) := by decide +kernel
theorem dX12_planLine_19 : decode cX12_planLine 19 = .ok (.iconst 0, 1) := by decide +kernel
theorem dX12_planLine_20 : decode cX12_planLine 20 = .ok (.bipush 40, 2) := by decide +kernel
theorem dX12_planLine_22 : decode cX12_planLine 22 = .ok (.iload_n 3, 1) := by decide +kernel
theorem dX12_planLine_23 : decode cX12_planLine 23 = .ok (.invokevirtual 232, 3) := by decide +kernel
theorem dX12_planLine_26 : decode cX12_planLine 26 = .ok (.aload_n 0, 1) := by decide +kernel
theorem dX12_planLine_27 : decode cX12_planLine 27 = .ok (.invokevirtual 208, 3) := by decide +kernel
theorem dX12_planLine_30 : decode cX12_planLine 30 = .ok (.aload_n 0, 1) := by decide +kernel
theorem dX12_planLine_31 : decode cX12_planLine 31 = .ok (.getfield 41, 3) := by decide +kernel
theorem dX12_planLine_34 : decode cX12_planLine 34 = .ok (.iconst 1, 1) := by decide +kernel
theorem dX12_planLine_35 : decode cX12_planLine 35 = .ok (.iconst (-1), 1) := by decide +kernel
theorem dX12_planLine_36 : decode cX12_planLine 36 = .ok (.iastore, 1) := by decide +kernel
theorem dX12_planLine_37 : decode cX12_planLine 37 = .ok (.aload_n 0, 1) := by decide +kernel
theorem dX12_planLine_38 : decode cX12_planLine 38 = .ok (.getfield 41, 3) := by decide +kernel
theorem dX12_planLine_41 : decode cX12_planLine 41 = .ok (.iconst 2, 1) := by decide +kernel
theorem dX12_planLine_42 : decode cX12_planLine 42 = .ok (.iconst (-1), 1) := by decide +kernel
theorem dX12_planLine_43 : decode cX12_planLine 43 = .ok (.iastore, 1) := by decide +kernel
theorem dX12_planLine_44 : decode cX12_planLine 44 = .ok (.iload 4, 2) := by decide +kernel
theorem dX12_planLine_46 : decode cX12_planLine 46 = .ok (.iconst 1, 1) := by decide +kernel
theorem dX12_planLine_47 : decode cX12_planLine 47 = .ok (.if_icmp .le 13, 3) := by decide +kernel
theorem dX12_planLine_50 : decode cX12_planLine 50 = .ok (.aload_n 0, 1) := by decide +kernel
theorem dX12_planLine_51 : decode cX12_planLine 51 = .ok (.iconst 1, 1) := by decide +kernel
theorem dX12_planLine_52 : decode cX12_planLine 52 = .ok (.iconst 0, 1) := by decide +kernel
theorem dX12_planLine_53 : decode cX12_planLine 53 = .ok (.iconst 3, 1) := by decide +kernel
theorem dX12_planLine_54 : decode cX12_planLine 54 = .ok (.invokevirtual 217, 3) := by decide +kernel
theorem dX12_planLine_57 : decode cX12_planLine 57 = .ok (.ifCond .eq 21, 3) := by decide +kernel
theorem dX12_planLine_60 : decode cX12_planLine 60 = .ok (.iload 4, 2) := by decide +kernel
theorem dX12_planLine_62 : decode cX12_planLine 62 = .ok (.bipush 6, 2) := by decide +kernel
theorem dX12_planLine_64 : decode cX12_planLine 64 = .ok (.if_icmp .ne 16, 3) := by decide +kernel
theorem dX12_planLine_67 : decode cX12_planLine 67 = .ok (.aload_n 0, 1) := by decide +kernel
theorem dX12_planLine_68 : decode cX12_planLine 68 = .ok (.iconst 2, 1) := by decide +kernel
theorem dX12_planLine_69 : decode cX12_planLine 69 = .ok (.iconst 0, 1) := by decide +kernel
theorem dX12_planLine_70 : decode cX12_planLine 70 = .ok (.bipush 6, 2) := by decide +kernel
theorem dX12_planLine_72 : decode cX12_planLine 72 = .ok (.invokevirtual 217, 3) := by decide +kernel
theorem dX12_planLine_75 : decode cX12_planLine 75 = .ok (.ifCond .ne 5, 3) := by decide +kernel
theorem dX12_planLine_78 : decode cX12_planLine 78 = .ok (.iconst 0, 1) := by decide +kernel
theorem dX12_planLine_79 : decode cX12_planLine 79 = .ok (.ireturn, 1) := by decide +kernel
theorem dX12_planLine_80 : decode cX12_planLine 80 = .ok (.aload_n 0, 1) := by decide +kernel
theorem dX12_planLine_81 : decode cX12_planLine 81 = .ok (.getfield 41, 3) := by decide +kernel
theorem dX12_planLine_84 : decode cX12_planLine 84 = .ok (.iconst 0, 1) := by decide +kernel
theorem dX12_planLine_85 : decode cX12_planLine 85 = .ok (.iload 4, 2) := by decide +kernel
theorem dX12_planLine_87 : decode cX12_planLine 87 = .ok (.iastore, 1) := by decide +kernel
theorem dX12_planLine_88 : decode cX12_planLine 88 = .ok (.aload_n 0, 1) := by decide +kernel
theorem dX12_planLine_89 : decode cX12_planLine 89 = .ok (.iconst 3, 1) := by decide +kernel
theorem dX12_planLine_90 : decode cX12_planLine 90 = .ok (.bipush 40, 2) := by decide +kernel
theorem dX12_planLine_92 : decode cX12_planLine 92 = .ok (.invokevirtual 273, 3) := by decide +kernel
theorem dX12_planLine_95 : decode cX12_planLine 95 = .ok (.iconst 1, 1) := by decide +kernel
theorem dX12_planLine_96 : decode cX12_planLine 96 = .ok (.ireturn, 1) := by decide +kernel
theorem dX12_diaryLine_0 : decode cX12_diaryLine 0 = .ok (.lload_n 1, 1) := by decide +kernel
theorem dX12_diaryLine_1 : decode cX12_diaryLine 1 = .ok (.ldc2_w 276, 3) := by decide +kernel
theorem dX12_diaryLine_4 : decode cX12_diaryLine 4 = .ok (.lcmp, 1) := by decide +kernel
theorem dX12_diaryLine_5 : decode cX12_diaryLine 5 = .ok (.ifCond .eq 16, 3) := by decide +kernel
theorem dX12_diaryLine_8 : decode cX12_diaryLine 8 = .ok (.lload_n 1, 1) := by decide +kernel
theorem dX12_diaryLine_9 : decode cX12_diaryLine 9 = .ok (.ldc2_w 278, 3) := by decide +kernel
theorem dX12_diaryLine_12 : decode cX12_diaryLine 12 = .ok (.lcmp, 1) := by decide +kernel
theorem dX12_diaryLine_13 : decode cX12_diaryLine 13 = .ok (.ifCond .eq 8, 3) := by decide +kernel
theorem dX12_diaryLine_16 : decode cX12_diaryLine 16 = .ok (.aload_n 0, 1) := by decide +kernel
theorem dX12_diaryLine_17 : decode cX12_diaryLine 17 = .ok (.invokevirtual 196, 3) := by decide +kernel
theorem dX12_diaryLine_20 : decode cX12_diaryLine 20 = .ok (.ireturn, 1) := by decide +kernel
theorem dX12_diaryLine_21 : decode cX12_diaryLine 21 = .ok (.aload_n 0, 1) := by decide +kernel
theorem dX12_diaryLine_22 : decode cX12_diaryLine 22 = .ok (.iconst 0, 1) := by decide +kernel
theorem dX12_diaryLine_23 : decode cX12_diaryLine 23 = .ok (.bipush 8, 2) := by decide +kernel
theorem dX12_diaryLine_25 : decode cX12_diaryLine 25 = .ok (.iload_n 3, 1) := by decide +kernel
theorem dX12_diaryLine_26 : decode cX12_diaryLine 26 = .ok (.invokevirtual 232, 3) := by decide +kernel
theorem dX12_diaryLine_29 : decode cX12_diaryLine 29 = .ok (.aload_n 0, 1) := by decide +kernel
theorem dX12_diaryLine_30 : decode cX12_diaryLine 30 = .ok (.invokevirtual 208, 3) := by decide +kernel
theorem dX12_diaryLine_33 : decode cX12_diaryLine 33 = .ok (.aload_n 0, 1) := by decide +kernel
theorem dX12_diaryLine_34 : decode cX12_diaryLine 34 = .ok (.getfield 41, 3) := by decide +kernel
theorem dX12_diaryLine_37 : decode cX12_diaryLine 37 = .ok (.iconst 1, 1) := by decide +kernel
theorem dX12_diaryLine_38 : decode cX12_diaryLine 38 = .ok (.iconst (-1), 1) := by decide +kernel
theorem dX12_diaryLine_39 : decode cX12_diaryLine 39 = .ok (.iastore, 1) := by decide +kernel
theorem dX12_diaryLine_40 : decode cX12_diaryLine 40 = .ok (.aload_n 0, 1) := by decide +kernel
theorem dX12_diaryLine_41 : decode cX12_diaryLine 41 = .ok (.iconst 0, 1) := by decide +kernel
theorem dX12_diaryLine_42 : decode cX12_diaryLine 42 = .ok (.iconst 0, 1) := by decide +kernel
theorem dX12_diaryLine_43 : decode cX12_diaryLine 43 = .ok (.bipush 9, 2) := by decide +kernel
theorem dX12_diaryLine_45 : decode cX12_diaryLine 45 = .ok (.invokevirtual 217, 3) := by decide +kernel
theorem dX12_diaryLine_48 : decode cX12_diaryLine 48 = .ok (.ifCond .eq 22, 3) := by decide +kernel
theorem dX12_diaryLine_51 : decode cX12_diaryLine 51 = .ok (.lload_n 1, 1) := by decide +kernel
theorem dX12_diaryLine_52 : decode cX12_diaryLine 52 = .ok (.ldc2_w 276, 3) := by decide +kernel
theorem dX12_diaryLine_55 : decode cX12_diaryLine 55 = .ok (.lcmp, 1) := by decide +kernel
theorem dX12_diaryLine_56 : decode cX12_diaryLine 56 = .ok (.ifCond .ne 16, 3) := by decide +kernel
theorem dX12_diaryLine_59 : decode cX12_diaryLine 59 = .ok (.aload_n 0, 1) := by decide +kernel
theorem dX12_diaryLine_60 : decode cX12_diaryLine 60 = .ok (.iconst 1, 1) := by decide +kernel
theorem dX12_diaryLine_61 : decode cX12_diaryLine 61 = .ok (.iconst 0, 1) := by decide +kernel
theorem dX12_diaryLine_62 : decode cX12_diaryLine 62 = .ok (.bipush 99, 2) := by decide +kernel
theorem dX12_diaryLine_64 : decode cX12_diaryLine 64 = .ok (.invokevirtual 217, 3) := by decide +kernel
theorem dX12_diaryLine_67 : decode cX12_diaryLine 67 = .ok (.ifCond .ne 5, 3) := by decide +kernel
theorem dX12_diaryLine_70 : decode cX12_diaryLine 70 = .ok (.iconst 0, 1) := by decide +kernel
theorem dX12_diaryLine_71 : decode cX12_diaryLine 71 = .ok (.ireturn, 1) := by decide +kernel
theorem dX12_diaryLine_72 : decode cX12_diaryLine 72 = .ok (.aload_n 0, 1) := by decide +kernel
theorem dX12_diaryLine_73 : decode cX12_diaryLine 73 = .ok (.iconst 2, 1) := by decide +kernel
theorem dX12_diaryLine_74 : decode cX12_diaryLine 74 = .ok (.bipush 8, 2) := by decide +kernel
theorem dX12_diaryLine_76 : decode cX12_diaryLine 76 = .ok (.invokevirtual 273, 3) := by decide +kernel
theorem dX12_diaryLine_79 : decode cX12_diaryLine 79 = .ok (.iconst 1, 1) := by decide +kernel
theorem dX12_diaryLine_80 : decode cX12_diaryLine 80 = .ok (.ireturn, 1) := by decide +kernel
theorem dX12_lineOf_0 : decode cX12_lineOf 0 = .ok (.iload_n 1, 1) := by decide +kernel
theorem dX12_lineOf_1 : decode cX12_lineOf 1 = .ok (.ifCond .ne 11, 3) := by decide +kernel
theorem dX12_lineOf_4 : decode cX12_lineOf 4 = .ok (.aload_n 0, 1) := by decide +kernel
theorem dX12_lineOf_5 : decode cX12_lineOf 5 = .ok (.lload_n 2, 1) := by decide +kernel
theorem dX12_lineOf_6 : decode cX12_lineOf 6 = .ok (.invokevirtual 280, 3) := by decide +kernel
theorem dX12_lineOf_9 : decode cX12_lineOf 9 = .ok (.goto 40, 3) := by decide +kernel
theorem dX12_lineOf_12 : decode cX12_lineOf 12 = .ok (.iload_n 1, 1) := by decide +kernel
theorem dX12_lineOf_13 : decode cX12_lineOf 13 = .ok (.iconst 1, 1) := by decide +kernel
theorem dX12_lineOf_14 : decode cX12_lineOf 14 = .ok (.if_icmp .ne 13, 3) := by decide +kernel
theorem dX12_lineOf_17 : decode cX12_lineOf 17 = .ok (.aload_n 0, 1) := by decide +kernel
theorem dX12_lineOf_18 : decode cX12_lineOf 18 = .ok (.lload_n 2, 1) := by decide +kernel
theorem dX12_lineOf_19 : decode cX12_lineOf 19 = .ok (.iload 4, 2) := by decide +kernel
theorem dX12_lineOf_21 : decode cX12_lineOf 21 = .ok (.invokevirtual 284, 3) := by decide +kernel
theorem dX12_lineOf_24 : decode cX12_lineOf 24 = .ok (.goto 25, 3) := by decide +kernel
theorem dX12_lineOf_27 : decode cX12_lineOf 27 = .ok (.iload_n 1, 1) := by decide +kernel
theorem dX12_lineOf_28 : decode cX12_lineOf 28 = .ok (.iconst 2, 1) := by decide +kernel
theorem dX12_lineOf_29 : decode cX12_lineOf 29 = .ok (.if_icmp .ne 13, 3) := by decide +kernel
theorem dX12_lineOf_32 : decode cX12_lineOf 32 = .ok (.aload_n 0, 1) := by decide +kernel
theorem dX12_lineOf_33 : decode cX12_lineOf 33 = .ok (.lload_n 2, 1) := by decide +kernel
theorem dX12_lineOf_34 : decode cX12_lineOf 34 = .ok (.iload 4, 2) := by decide +kernel
theorem dX12_lineOf_36 : decode cX12_lineOf 36 = .ok (.invokevirtual 288, 3) := by decide +kernel
theorem dX12_lineOf_39 : decode cX12_lineOf 39 = .ok (.goto 10, 3) := by decide +kernel
theorem dX12_lineOf_42 : decode cX12_lineOf 42 = .ok (.aload_n 0, 1) := by decide +kernel
theorem dX12_lineOf_43 : decode cX12_lineOf 43 = .ok (.lload_n 2, 1) := by decide +kernel
theorem dX12_lineOf_44 : decode cX12_lineOf 44 = .ok (.iload 4, 2) := by decide +kernel
theorem dX12_lineOf_46 : decode cX12_lineOf 46 = .ok (.invokevirtual 291, 3) := by decide +kernel
theorem dX12_lineOf_49 : decode cX12_lineOf 49 = .ok (.ireturn, 1) := by decide +kernel
theorem dX12_allLines_0 : decode cX12_allLines 0 = .ok (.iconst 1, 1) := by decide +kernel
theorem dX12_allLines_1 : decode cX12_allLines 1 = .ok (.istore_n 2, 1) := by decide +kernel
theorem dX12_allLines_2 : decode cX12_allLines 2 = .ok (.iload_n 2, 1) := by decide +kernel
theorem dX12_allLines_3 : decode cX12_allLines 3 = .ok (.ifCond .eq 75, 3) := by decide +kernel
theorem dX12_allLines_6 : decode cX12_allLines 6 = .ok (.aload_n 0, 1) := by decide +kernel
theorem dX12_allLines_7 : decode cX12_allLines 7 = .ok (.getfield 181, 3) := by decide +kernel
theorem dX12_allLines_10 : decode cX12_allLines 10 = .ok (.ifCond .eq 68, 3) := by decide +kernel
theorem dX12_allLines_13 : decode cX12_allLines 13 = .ok (.aload_n 0, 1) := by decide +kernel
theorem dX12_allLines_14 : decode cX12_allLines 14 = .ok (.getfield 174, 3) := by decide +kernel
theorem dX12_allLines_17 : decode cX12_allLines 17 = .ok (.istore_n 3, 1) := by decide +kernel
theorem dX12_allLines_18 : decode cX12_allLines 18 = .ok (.aload_n 0, 1) := by decide +kernel
theorem dX12_allLines_19 : decode cX12_allLines 19 = .ok (.getfield 181, 3) := by decide +kernel
theorem dX12_allLines_22 : decode cX12_allLines 22 = .ok (.iconst 2, 1) := by decide +kernel
theorem dX12_allLines_23 : decode cX12_allLines 23 = .ok (.if_icmp .ne 10, 3) := by decide +kernel
theorem dX12_allLines_26 : decode cX12_allLines 26 = .ok (.aload_n 0, 1) := by decide +kernel
theorem dX12_allLines_27 : decode cX12_allLines 27 = .ok (.getfield 177, 3) := by decide +kernel
theorem dX12_allLines_30 : decode cX12_allLines 30 = .ok (.goto 4, 3) := by decide +kernel
theorem dX12_allLines_33 : decode cX12_allLines 33 = .ok (.lconst 0, 1) := by decide +kernel
theorem dX12_allLines_34 : decode cX12_allLines 34 = .ok (.lstore 4, 2) := by decide +kernel
theorem dX12_allLines_36 : decode cX12_allLines 36 = .ok (.aload_n 0, 1) := by decide +kernel
theorem dX12_allLines_37 : decode cX12_allLines 37 = .ok (.iconst 1, 1) := by decide +kernel
theorem dX12_allLines_38 : decode cX12_allLines 38 = .ok (.putfield 204, 3) := by decide +kernel
theorem dX12_allLines_41 : decode cX12_allLines 41 = .ok (.aload_n 0, 1) := by decide +kernel
theorem dX12_allLines_42 : decode cX12_allLines 42 = .ok (.iload_n 1, 1) := by decide +kernel
theorem dX12_allLines_43 : decode cX12_allLines 43 = .ok (.lload 4, 2) := by decide +kernel
theorem dX12_allLines_45 : decode cX12_allLines 45 = .ok (.iload_n 3, 1) := by decide +kernel
theorem dX12_allLines_46 : decode cX12_allLines 46 = .ok (.invokevirtual 294, 3) := by decide +kernel
theorem dX12_allLines_49 : decode cX12_allLines 49 = .ok (.istore_n 2, 1) := by decide +kernel
theorem dX12_allLines_50 : decode cX12_allLines 50 = .ok (.iload_n 2, 1) := by decide +kernel
theorem dX12_allLines_51 : decode cX12_allLines 51 = .ok (.ifCond .eq 16, 3) := by decide +kernel
theorem dX12_allLines_54 : decode cX12_allLines 54 = .ok (.aload_n 0, 1) := by decide +kernel
theorem dX12_allLines_55 : decode cX12_allLines 55 = .ok (.getfield 181, 3) := by decide +kernel
theorem dX12_allLines_58 : decode cX12_allLines 58 = .ok (.iconst 4, 1) := by decide +kernel
theorem dX12_allLines_59 : decode cX12_allLines 59 = .ok (.if_icmp .eq 8, 3) := by decide +kernel
theorem dX12_allLines_62 : decode cX12_allLines 62 = .ok (.aload_n 0, 1) := by decide +kernel
theorem dX12_allLines_63 : decode cX12_allLines 63 = .ok (.invokevirtual 196, 3) := by decide +kernel
theorem dX12_allLines_66 : decode cX12_allLines 66 = .ok (.istore_n 2, 1) := by decide +kernel
theorem dX12_allLines_67 : decode cX12_allLines 67 = .ok (.iload_n 2, 1) := by decide +kernel
theorem dX12_allLines_68 : decode cX12_allLines 68 = .ok (.ifCond .eq 7, 3) := by decide +kernel
theorem dX12_allLines_71 : decode cX12_allLines 71 = .ok (.aload_n 0, 1) := by decide +kernel
theorem dX12_allLines_72 : decode cX12_allLines 72 = .ok (.invokevirtual 208, 3) := by decide +kernel
theorem dX12_allLines_75 : decode cX12_allLines 75 = .ok (.goto (-73), 3) := by decide +kernel
theorem dX12_allLines_78 : decode cX12_allLines 78 = .ok (.iload_n 2, 1) := by decide +kernel
theorem dX12_allLines_79 : decode cX12_allLines 79 = .ok (.ireturn, 1) := by decide +kernel
theorem dX12_readText_0 : decode cX12_readText 0 = .ok (.iconst 0, 1) := by decide +kernel
theorem dX12_readText_1 : decode cX12_readText 1 = .ok (.istore_n 2, 1) := by decide +kernel
theorem dX12_readText_2 : decode cX12_readText 2 = .ok (.iload_n 2, 1) := by decide +kernel
theorem dX12_readText_3 : decode cX12_readText 3 = .ok (.sipush 134, 3) := by decide +kernel
theorem dX12_readText_6 : decode cX12_readText 6 = .ok (.if_icmp .ge 29, 3) := by decide +kernel
theorem dX12_readText_9 : decode cX12_readText 9 = .ok (.aload_n 0, 1) := by decide +kernel
theorem dX12_readText_10 : decode cX12_readText 10 = .ok (.getfield 38, 3) := by decide +kernel
theorem dX12_readText_13 : decode cX12_readText 13 = .ok (.iload_n 2, 1) := by decide +kernel
theorem dX12_readText_14 : decode cX12_readText 14 = .ok (.iload_n 1, 1) := by decide +kernel
theorem dX12_readText_15 : decode cX12_readText 15 = .ok (.ifCond .ne 12, 3) := by decide +kernel
theorem dX12_readText_18 : decode cX12_readText 18 = .ok (.iload_n 2, 1) := by decide +kernel
theorem dX12_readText_19 : decode cX12_readText 19 = .ok (.iconst 2, 1) := by decide +kernel
theorem dX12_readText_20 : decode cX12_readText 20 = .ok (.if_icmp .ge 7, 3) := by decide +kernel
theorem dX12_readText_23 : decode cX12_readText 23 = .ok (.iconst 2, 1) := by decide +kernel
theorem dX12_readText_24 : decode cX12_readText 24 = .ok (.goto 4, 3) := by decide +kernel
theorem dX12_readText_27 : decode cX12_readText 27 = .ok (.iconst 0, 1) := by decide +kernel
theorem dX12_readText_28 : decode cX12_readText 28 = .ok (.iastore, 1) := by decide +kernel
theorem dX12_readText_29 : decode cX12_readText 29 = .ok (.iinc 2 1, 3) := by decide +kernel
theorem dX12_readText_32 : decode cX12_readText 32 = .ok (.goto (-30), 3) := by decide +kernel
theorem dX12_readText_35 : decode cX12_readText 35 = .ok (.aload_n 0, 1) := by decide +kernel
theorem dX12_readText_36 : decode cX12_readText 36 = .ok (.iconst 0, 1) := by decide +kernel
theorem dX12_readText_37 : decode cX12_readText 37 = .ok (.putfield 236, 3) := by decide +kernel
theorem dX12_readText_40 : decode cX12_readText 40 = .ok (.aload_n 0, 1) := by decide +kernel
theorem dX12_readText_41 : decode cX12_readText 41 = .ok (.iconst 0, 1) := by decide +kernel
theorem dX12_readText_42 : decode cX12_readText 42 = .ok (.putfield 164, 3) := by decide +kernel
theorem dX12_readText_45 : decode cX12_readText 45 = .ok (.aload_n 0, 1) := by decide +kernel
theorem dX12_readText_46 : decode cX12_readText 46 = .ok (.iconst 0, 1) := by decide +kernel
theorem dX12_readText_47 : decode cX12_readText 47 = .ok (.putfield 190, 3) := by decide +kernel
theorem dX12_readText_50 : decode cX12_readText 50 = .ok (.aload_n 0, 1) := by decide +kernel
theorem dX12_readText_51 : decode cX12_readText 51 = .ok (.invokevirtual 208, 3) := by decide +kernel
theorem dX12_readText_54 : decode cX12_readText 54 = .ok (.aload_n 0, 1) := by decide +kernel
theorem dX12_readText_55 : decode cX12_readText 55 = .ok (.iload_n 1, 1) := by decide +kernel
theorem dX12_readText_56 : decode cX12_readText 56 = .ok (.invokevirtual 298, 3) := by decide +kernel
theorem dX12_readText_59 : decode cX12_readText 59 = .ok (.istore_n 2, 1) := by decide +kernel
theorem dX12_readText_60 : decode cX12_readText 60 = .ok (.aload_n 0, 1) := by decide +kernel
theorem dX12_readText_61 : decode cX12_readText 61 = .ok (.getfield 17, 3) := by decide +kernel
theorem dX12_readText_64 : decode cX12_readText 64 = .ok (.iconst 0, 1) := by decide +kernel
theorem dX12_readText_65 : decode cX12_readText 65 = .ok (.iload_n 2, 1) := by decide +kernel
theorem dX12_readText_66 : decode cX12_readText 66 = .ok (.ifCond .eq 10, 3) := by decide +kernel
theorem dX12_readText_69 : decode cX12_readText 69 = .ok (.aload_n 0, 1) := by decide +kernel
theorem dX12_readText_70 : decode cX12_readText 70 = .ok (.getfield 190, 3) := by decide +kernel
theorem dX12_readText_73 : decode cX12_readText 73 = .ok (.goto 4, 3) := by decide +kernel
theorem dX12_readText_76 : decode cX12_readText 76 = .ok (.iconst 1, 1) := by decide +kernel
theorem dX12_readText_77 : decode cX12_readText 77 = .ok (.iastore, 1) := by decide +kernel
theorem dX12_readText_78 : decode cX12_readText 78 = .ok (.aload_n 0, 1) := by decide +kernel
theorem dX12_readText_79 : decode cX12_readText 79 = .ok (.getfield 20, 3) := by decide +kernel
theorem dX12_readText_82 : decode cX12_readText 82 = .ok (.iconst 0, 1) := by decide +kernel
theorem dX12_readText_83 : decode cX12_readText 83 = .ok (.iload_n 2, 1) := by decide +kernel
theorem dX12_readText_84 : decode cX12_readText 84 = .ok (.ifCond .ne 10, 3) := by decide +kernel
theorem dX12_readText_87 : decode cX12_readText 87 = .ok (.aload_n 0, 1) := by decide +kernel
theorem dX12_readText_88 : decode cX12_readText 88 = .ok (.getfield 187, 3) := by decide +kernel
theorem dX12_readText_91 : decode cX12_readText 91 = .ok (.goto 18, 3) := by decide +kernel
theorem dX12_readText_94 : decode cX12_readText 94 = .ok (.aload_n 0, 1) := by decide +kernel
theorem dX12_readText_95 : decode cX12_readText 95 = .ok (.getfield 190, 3) := by decide +kernel
theorem dX12_readText_98 : decode cX12_readText 98 = .ok (.ifCond .le 10, 3) := by decide +kernel
theorem dX12_readText_101 : decode cX12_readText 101 = .ok (.aload_n 0, 1) := by decide +kernel
theorem dX12_readText_102 : decode cX12_readText 102 = .ok (.getfield 193, 3) := by decide +kernel
theorem dX12_readText_105 : decode cX12_readText 105 = .ok (.goto 4, 3) := by decide +kernel
theorem dX12_readText_108 : decode cX12_readText 108 = .ok (.iconst (-1), 1) := by decide +kernel
theorem dX12_readText_109 : decode cX12_readText 109 = .ok (.iastore, 1) := by decide +kernel
theorem dX12_readText_110 : decode cX12_readText 110 = .ok (.aload_n 0, 1) := by decide +kernel
theorem dX12_readText_111 : decode cX12_readText 111 = .ok (.getfield 17, 3) := by decide +kernel
theorem dX12_readText_114 : decode cX12_readText 114 = .ok (.iconst 0, 1) := by decide +kernel
theorem dX12_readText_115 : decode cX12_readText 115 = .ok (.iaload, 1) := by decide +kernel
theorem dX12_readText_116 : decode cX12_readText 116 = .ok (.ifCond .ne 7, 3) := by decide +kernel
theorem dX12_readText_119 : decode cX12_readText 119 = .ok (.iconst 1, 1) := by decide +kernel
theorem dX12_readText_120 : decode cX12_readText 120 = .ok (.goto 4, 3) := by decide +kernel
theorem dX12_readText_123 : decode cX12_readText 123 = .ok (.iconst 0, 1) := by decide +kernel
theorem dX12_readText_124 : decode cX12_readText 124 = .ok (.ireturn, 1) := by decide +kernel
theorem dX12_keep_0 : decode cX12_keep 0 = .ok (.iconst 0, 1) := by decide +kernel
theorem dX12_keep_1 : decode cX12_keep 1 = .ok (.istore 4, 2) := by decide +kernel
theorem dX12_keep_3 : decode cX12_keep 3 = .ok (.iload 4, 2) := by decide +kernel
theorem dX12_keep_5 : decode cX12_keep 5 = .ok (.iload_n 2, 1) := by decide +kernel
theorem dX12_keep_6 : decode cX12_keep 6 = .ok (.if_icmp .ge 24, 3) := by decide +kernel
theorem dX12_keep_9 : decode cX12_keep 9 = .ok (.aload_n 1, 1) := by decide +kernel
theorem dX12_keep_10 : decode cX12_keep 10 = .ok (.iload_n 2, 1) := by decide +kernel
theorem dX12_keep_11 : decode cX12_keep 11 = .ok (.iload_n 3, 1) := by decide +kernel
theorem dX12_keep_12 : decode cX12_keep 12 = .ok (.imul, 1) := by decide +kernel
theorem dX12_keep_13 : decode cX12_keep 13 = .ok (.iload 4, 2) := by decide +kernel
theorem dX12_keep_15 : decode cX12_keep 15 = .ok (.iadd, 1) := by decide +kernel
theorem dX12_keep_16 : decode cX12_keep 16 = .ok (.aload_n 0, 1) := by decide +kernel
theorem dX12_keep_17 : decode cX12_keep 17 = .ok (.getfield 38, 3) := by decide +kernel
theorem dX12_keep_20 : decode cX12_keep 20 = .ok (.iload 4, 2) := by decide +kernel
theorem dX12_keep_22 : decode cX12_keep 22 = .ok (.iaload, 1) := by decide +kernel
theorem dX12_keep_23 : decode cX12_keep 23 = .ok (.iastore, 1) := by decide +kernel
theorem dX12_keep_24 : decode cX12_keep 24 = .ok (.iinc 4 1, 3) := by decide +kernel
theorem dX12_keep_27 : decode cX12_keep 27 = .ok (.goto (-24), 3) := by decide +kernel
theorem dX12_keep_30 : decode cX12_keep 30 = .ok (.return_, 1) := by decide +kernel
theorem dX12_keepOf_0 : decode cX12_keepOf 0 = .ok (.iload_n 1, 1) := by decide +kernel
theorem dX12_keepOf_1 : decode cX12_keepOf 1 = .ok (.ifCond .ne 17, 3) := by decide +kernel
theorem dX12_keepOf_4 : decode cX12_keepOf 4 = .ok (.aload_n 0, 1) := by decide +kernel
theorem dX12_keepOf_5 : decode cX12_keepOf 5 = .ok (.aload_n 0, 1) := by decide +kernel
theorem dX12_keepOf_6 : decode cX12_keepOf 6 = .ok (.getfield 26, 3) := by decide +kernel
theorem dX12_keepOf_9 : decode cX12_keepOf 9 = .ok (.bipush 13, 2) := by decide +kernel
theorem dX12_keepOf_11 : decode cX12_keepOf 11 = .ok (.iload_n 2, 1) := by decide +kernel
theorem dX12_keepOf_12 : decode cX12_keepOf 12 = .ok (.invokevirtual 301, 3) := by decide +kernel
theorem dX12_keepOf_15 : decode cX12_keepOf 15 = .ok (.goto 53, 3) := by decide +kernel
theorem dX12_keepOf_18 : decode cX12_keepOf 18 = .ok (.iload_n 1, 1) := by decide +kernel
theorem dX12_keepOf_19 : decode cX12_keepOf 19 = .ok (.iconst 1, 1) := by decide +kernel
theorem dX12_keepOf_20 : decode cX12_keepOf 20 = .ok (.if_icmp .ne 18, 3) := by decide +kernel
theorem dX12_keepOf_23 : decode cX12_keepOf 23 = .ok (.aload_n 0, 1) := by decide +kernel
theorem dX12_keepOf_24 : decode cX12_keepOf 24 = .ok (.aload_n 0, 1) := by decide +kernel
theorem dX12_keepOf_25 : decode cX12_keepOf 25 = .ok (.getfield 29, 3) := by decide +kernel
theorem dX12_keepOf_28 : decode cX12_keepOf 28 = .ok (.sipush 134, 3) := by decide +kernel
theorem dX12_keepOf_31 : decode cX12_keepOf 31 = .ok (.iload_n 2, 1) := by decide +kernel
theorem dX12_keepOf_32 : decode cX12_keepOf 32 = .ok (.invokevirtual 301, 3) := by decide +kernel
theorem dX12_keepOf_35 : decode cX12_keepOf 35 = .ok (.goto 33, 3) := by decide +kernel
theorem dX12_keepOf_38 : decode cX12_keepOf 38 = .ok (.iload_n 1, 1) := by decide +kernel
theorem dX12_keepOf_39 : decode cX12_keepOf 39 = .ok (.iconst 2, 1) := by decide +kernel
theorem dX12_keepOf_40 : decode cX12_keepOf 40 = .ok (.if_icmp .ne 17, 3) := by decide +kernel
theorem dX12_keepOf_43 : decode cX12_keepOf 43 = .ok (.aload_n 0, 1) := by decide +kernel
theorem dX12_keepOf_44 : decode cX12_keepOf 44 = .ok (.aload_n 0, 1) := by decide +kernel
theorem dX12_keepOf_45 : decode cX12_keepOf 45 = .ok (.getfield 32, 3) := by decide +kernel
theorem dX12_keepOf_48 : decode cX12_keepOf 48 = .ok (.bipush 121, 2) := by decide +kernel
theorem dX12_keepOf_50 : decode cX12_keepOf 50 = .ok (.iload_n 2, 1) := by decide +kernel
theorem dX12_keepOf_51 : decode cX12_keepOf 51 = .ok (.invokevirtual 301, 3) := by decide +kernel
theorem dX12_keepOf_54 : decode cX12_keepOf 54 = .ok (.goto 14, 3) := by decide +kernel
theorem dX12_keepOf_57 : decode cX12_keepOf 57 = .ok (.aload_n 0, 1) := by decide +kernel
theorem dX12_keepOf_58 : decode cX12_keepOf 58 = .ok (.aload_n 0, 1) := by decide +kernel
theorem dX12_keepOf_59 : decode cX12_keepOf 59 = .ok (.getfield 35, 3) := by decide +kernel
theorem dX12_keepOf_62 : decode cX12_keepOf 62 = .ok (.bipush 17, 2) := by decide +kernel
theorem dX12_keepOf_64 : decode cX12_keepOf 64 = .ok (.iload_n 2, 1) := by decide +kernel
theorem dX12_keepOf_65 : decode cX12_keepOf 65 = .ok (.invokevirtual 301, 3) := by decide +kernel
theorem dX12_keepOf_68 : decode cX12_keepOf 68 = .ok (.return_, 1) := by decide +kernel
theorem dX12_text_0 : decode cX12_text 0 = .ok (.aload_n 0, 1) := by decide +kernel
theorem dX12_text_1 : decode cX12_text 1 = .ok (.iconst 0, 1) := by decide +kernel
theorem dX12_text_2 : decode cX12_text 2 = .ok (.putfield 144, 3) := by decide +kernel
theorem dX12_text_5 : decode cX12_text 5 = .ok (.aload_n 0, 1) := by decide +kernel
theorem dX12_text_6 : decode cX12_text 6 = .ok (.aload_n 0, 1) := by decide +kernel
theorem dX12_text_7 : decode cX12_text 7 = .ok (.getfield 13, 3) := by decide +kernel
theorem dX12_text_10 : decode cX12_text 10 = .ok (.iconst 0, 1) := by decide +kernel
theorem dX12_text_11 : decode cX12_text 11 = .ok (.iaload, 1) := by decide +kernel
theorem dX12_text_12 : decode cX12_text 12 = .ok (.putfield 167, 3) := by decide +kernel
theorem dX12_text_15 : decode cX12_text 15 = .ok (.aload_n 0, 1) := by decide +kernel
theorem dX12_text_16 : decode cX12_text 16 = .ok (.getfield 13, 3) := by decide +kernel
theorem dX12_text_19 : decode cX12_text 19 = .ok (.iconst 0, 1) := by decide +kernel
theorem dX12_text_20 : decode cX12_text 20 = .ok (.iconst 0, 1) := by decide +kernel
theorem dX12_text_21 : decode cX12_text 21 = .ok (.iastore, 1) := by decide +kernel
theorem dX12_text_22 : decode cX12_text 22 = .ok (.aload_n 0, 1) := by decide +kernel
theorem dX12_text_23 : decode cX12_text 23 = .ok (.getfield 17, 3) := by decide +kernel
theorem dX12_text_26 : decode cX12_text 26 = .ok (.iconst 0, 1) := by decide +kernel
theorem dX12_text_27 : decode cX12_text 27 = .ok (.iconst 0, 1) := by decide +kernel
theorem dX12_text_28 : decode cX12_text 28 = .ok (.iastore, 1) := by decide +kernel
theorem dX12_text_29 : decode cX12_text 29 = .ok (.aload_n 0, 1) := by decide +kernel
theorem dX12_text_30 : decode cX12_text 30 = .ok (.getfield 20, 3) := by decide +kernel
theorem dX12_text_33 : decode cX12_text 33 = .ok (.iconst 0, 1) := by decide +kernel
theorem dX12_text_34 : decode cX12_text 34 = .ok (.iconst (-1), 1) := by decide +kernel
theorem dX12_text_35 : decode cX12_text 35 = .ok (.iastore, 1) := by decide +kernel
theorem dX12_text_36 : decode cX12_text 36 = .ok (.iload_n 1, 1) := by decide +kernel
theorem dX12_text_37 : decode cX12_text 37 = .ok (.iconst 0, 1) := by decide +kernel
theorem dX12_text_38 : decode cX12_text 38 = .ok (.iconst 3, 1) := by decide +kernel
theorem dX12_text_39 : decode cX12_text 39 = .ok (.invokestatic 156, 3) := by decide +kernel
theorem dX12_text_42 : decode cX12_text 42 = .ok (.ifCond .eq 30, 3) := by decide +kernel
theorem dX12_text_45 : decode cX12_text 45 = .ok (.iload_n 2, 1) := by decide +kernel
theorem dX12_text_46 : decode cX12_text 46 = .ok (.iconst (-1), 1) := by decide +kernel
theorem dX12_text_47 : decode cX12_text 47 = .ok (.if_icmp .ne 16, 3) := by decide +kernel
theorem dX12_text_50 : decode cX12_text 50 = .ok (.aload_n 0, 1) := by decide +kernel
theorem dX12_text_51 : decode cX12_text 51 = .ok (.getfield 23, 3) := by decide +kernel
theorem dX12_text_54 : decode cX12_text 54 = .ok (.iload_n 1, 1) := by decide +kernel
theorem dX12_text_55 : decode cX12_text 55 = .ok (.iaload, 1) := by decide +kernel
theorem dX12_text_56 : decode cX12_text 56 = .ok (.iconst 2, 1) := by decide +kernel
theorem dX12_text_57 : decode cX12_text 57 = .ok (.if_icmp .ne 18, 3) := by decide +kernel
theorem dX12_text_60 : decode cX12_text 60 = .ok (.goto 12, 3) := by decide +kernel
theorem dX12_text_63 : decode cX12_text 63 = .ok (.aload_n 0, 1) := by decide +kernel
theorem dX12_text_64 : decode cX12_text 64 = .ok (.iload_n 1, 1) := by decide +kernel
theorem dX12_text_65 : decode cX12_text 65 = .ok (.iload_n 2, 1) := by decide +kernel
theorem dX12_text_66 : decode cX12_text 66 = .ok (.invokevirtual 305, 3) := by decide +kernel
theorem dX12_text_69 : decode cX12_text 69 = .ok (.ifCond .ne 6, 3) := by decide +kernel
theorem dX12_text_72 : decode cX12_text 72 = .ok (.bipush (-2), 2) := by decide +kernel
theorem dX12_text_74 : decode cX12_text 74 = .ok (.ireturn, 1) := by decide +kernel
theorem dX12_text_75 : decode cX12_text 75 = .ok (.aload_n 0, 1) := by decide +kernel
theorem dX12_text_76 : decode cX12_text 76 = .ok (.iload_n 1, 1) := by decide +kernel
theorem dX12_text_77 : decode cX12_text 77 = .ok (.invokevirtual 308, 3) := by decide +kernel
theorem dX12_text_80 : decode cX12_text 80 = .ok (.ifCond .ne 5, 3) := by decide +kernel
theorem dX12_text_83 : decode cX12_text 83 = .ok (.iconst (-1), 1) := by decide +kernel
theorem dX12_text_84 : decode cX12_text 84 = .ok (.ireturn, 1) := by decide +kernel
theorem dX12_text_85 : decode cX12_text 85 = .ok (.iload_n 2, 1) := by decide +kernel
theorem dX12_text_86 : decode cX12_text 86 = .ok (.iconst (-1), 1) := by decide +kernel
theorem dX12_text_87 : decode cX12_text 87 = .ok (.if_icmp .ne 12, 3) := by decide +kernel
theorem dX12_text_90 : decode cX12_text 90 = .ok (.aload_n 0, 1) := by decide +kernel
theorem dX12_text_91 : decode cX12_text 91 = .ok (.getfield 23, 3) := by decide +kernel
theorem dX12_text_94 : decode cX12_text 94 = .ok (.iload_n 1, 1) := by decide +kernel
theorem dX12_text_95 : decode cX12_text 95 = .ok (.iaload, 1) := by decide +kernel
theorem dX12_text_96 : decode cX12_text 96 = .ok (.goto 4, 3) := by decide +kernel
theorem dX12_text_99 : decode cX12_text 99 = .ok (.iload_n 2, 1) := by decide +kernel
theorem dX12_text_100 : decode cX12_text 100 = .ok (.istore_n 3, 1) := by decide +kernel
theorem dX12_text_101 : decode cX12_text 101 = .ok (.aload_n 0, 1) := by decide +kernel
theorem dX12_text_102 : decode cX12_text 102 = .ok (.getfield 23, 3) := by decide +kernel
theorem dX12_text_105 : decode cX12_text 105 = .ok (.iload_n 1, 1) := by decide +kernel
theorem dX12_text_106 : decode cX12_text 106 = .ok (.dup2, 1) := by decide +kernel
theorem dX12_text_107 : decode cX12_text 107 = .ok (.iaload, 1) := by decide +kernel
theorem dX12_text_108 : decode cX12_text 108 = .ok (.iload_n 2, 1) := by decide +kernel
theorem dX12_text_109 : decode cX12_text 109 = .ok (.iconst (-1), 1) := by decide +kernel
theorem dX12_text_110 : decode cX12_text 110 = .ok (.if_icmp .ne 7, 3) := by decide +kernel
theorem dX12_text_113 : decode cX12_text 113 = .ok (.iconst 1, 1) := by decide +kernel
theorem dX12_text_114 : decode cX12_text 114 = .ok (.goto 4, 3) := by decide +kernel
theorem dX12_text_117 : decode cX12_text 117 = .ok (.iconst 0, 1) := by decide +kernel
theorem dX12_text_118 : decode cX12_text 118 = .ok (.iadd, 1) := by decide +kernel
theorem dX12_text_119 : decode cX12_text 119 = .ok (.iastore, 1) := by decide +kernel
theorem dX12_text_120 : decode cX12_text 120 = .ok (.aload_n 0, 1) := by decide +kernel
theorem dX12_text_121 : decode cX12_text 121 = .ok (.iload_n 1, 1) := by decide +kernel
theorem dX12_text_122 : decode cX12_text 122 = .ok (.iload_n 3, 1) := by decide +kernel
theorem dX12_text_123 : decode cX12_text 123 = .ok (.invokevirtual 311, 3) := by decide +kernel
theorem dX12_text_126 : decode cX12_text 126 = .ok (.iload_n 3, 1) := by decide +kernel
theorem dX12_text_127 : decode cX12_text 127 = .ok (.ireturn, 1) := by decide +kernel
theorem dX12_fault_0 : decode cX12_fault 0 = .ok (.aload_n 0, 1) := by decide +kernel
theorem dX12_fault_1 : decode cX12_fault 1 = .ok (.iconst 0, 1) := by decide +kernel
theorem dX12_fault_2 : decode cX12_fault 2 = .ok (.putfield 144, 3) := by decide +kernel
theorem dX12_fault_5 : decode cX12_fault 5 = .ok (.iload_n 1, 1) := by decide +kernel
theorem dX12_fault_6 : decode cX12_fault 6 = .ok (.ifCond .ne 12, 3) := by decide +kernel
theorem dX12_fault_9 : decode cX12_fault 9 = .ok (.aload_n 0, 1) := by decide +kernel
theorem dX12_fault_10 : decode cX12_fault 10 = .ok (.getfield 17, 3) := by decide +kernel
theorem dX12_fault_13 : decode cX12_fault 13 = .ok (.iconst 0, 1) := by decide +kernel
theorem dX12_fault_14 : decode cX12_fault 14 = .ok (.iaload, 1) := by decide +kernel
theorem dX12_fault_15 : decode cX12_fault 15 = .ok (.goto 18, 3) := by decide +kernel
theorem dX12_fault_18 : decode cX12_fault 18 = .ok (.iload_n 1, 1) := by decide +kernel
theorem dX12_fault_19 : decode cX12_fault 19 = .ok (.iconst 1, 1) := by decide +kernel
theorem dX12_fault_20 : decode cX12_fault 20 = .ok (.if_icmp .ne 12, 3) := by decide +kernel
theorem dX12_fault_23 : decode cX12_fault 23 = .ok (.aload_n 0, 1) := by decide +kernel
theorem dX12_fault_24 : decode cX12_fault 24 = .ok (.getfield 20, 3) := by decide +kernel
theorem dX12_fault_27 : decode cX12_fault 27 = .ok (.iconst 0, 1) := by decide +kernel
theorem dX12_fault_28 : decode cX12_fault 28 = .ok (.iaload, 1) := by decide +kernel
theorem dX12_fault_29 : decode cX12_fault 29 = .ok (.goto 4, 3) := by decide +kernel
theorem dX12_fault_32 : decode cX12_fault 32 = .ok (.iconst (-1), 1) := by decide +kernel
theorem dX12_fault_33 : decode cX12_fault 33 = .ok (.ireturn, 1) := by decide +kernel
theorem dX12_ofStore_0 : decode cX12_ofStore 0 = .ok (.aload_n 0, 1) := by decide +kernel
theorem dX12_ofStore_1 : decode cX12_ofStore 1 = .ok (.getfield 26, 3) := by decide +kernel
theorem dX12_ofStore_4 : decode cX12_ofStore 4 = .ok (.bipush 13, 2) := by decide +kernel
theorem dX12_ofStore_6 : decode cX12_ofStore 6 = .ok (.aload_n 0, 1) := by decide +kernel
theorem dX12_ofStore_7 : decode cX12_ofStore 7 = .ok (.getfield 314, 3) := by decide +kernel
theorem dX12_ofStore_10 : decode cX12_ofStore 10 = .ok (.imul, 1) := by decide +kernel
theorem dX12_ofStore_11 : decode cX12_ofStore 11 = .ok (.iload_n 1, 1) := by decide +kernel
theorem dX12_ofStore_12 : decode cX12_ofStore 12 = .ok (.iadd, 1) := by decide +kernel
theorem dX12_ofStore_13 : decode cX12_ofStore 13 = .ok (.iaload, 1) := by decide +kernel
theorem dX12_ofStore_14 : decode cX12_ofStore 14 = .ok (.ireturn, 1) := by decide +kernel
theorem dX12_ofTask_0 : decode cX12_ofTask 0 = .ok (.aload_n 0, 1) := by decide +kernel
theorem dX12_ofTask_1 : decode cX12_ofTask 1 = .ok (.getfield 29, 3) := by decide +kernel
theorem dX12_ofTask_4 : decode cX12_ofTask 4 = .ok (.sipush 134, 3) := by decide +kernel
theorem dX12_ofTask_7 : decode cX12_ofTask 7 = .ok (.aload_n 0, 1) := by decide +kernel
theorem dX12_ofTask_8 : decode cX12_ofTask 8 = .ok (.getfield 317, 3) := by decide +kernel
theorem dX12_ofTask_11 : decode cX12_ofTask 11 = .ok (.imul, 1) := by decide +kernel
theorem dX12_ofTask_12 : decode cX12_ofTask 12 = .ok (.iconst 1, 1) := by decide +kernel
theorem dX12_ofTask_13 : decode cX12_ofTask 13 = .ok (.iadd, 1) := by decide +kernel
theorem dX12_ofTask_14 : decode cX12_ofTask 14 = .ok (.bipush 19, 2) := by decide +kernel
theorem dX12_ofTask_16 : decode cX12_ofTask 16 = .ok (.iload_n 1, 1) := by decide +kernel
theorem dX12_ofTask_17 : decode cX12_ofTask 17 = .ok (.imul, 1) := by decide +kernel
theorem dX12_ofTask_18 : decode cX12_ofTask 18 = .ok (.iadd, 1) := by decide +kernel
theorem dX12_ofTask_19 : decode cX12_ofTask 19 = .ok (.iload_n 2, 1) := by decide +kernel
theorem dX12_ofTask_20 : decode cX12_ofTask 20 = .ok (.iadd, 1) := by decide +kernel
theorem dX12_ofTask_21 : decode cX12_ofTask 21 = .ok (.iaload, 1) := by decide +kernel
theorem dX12_ofTask_22 : decode cX12_ofTask 22 = .ok (.ireturn, 1) := by decide +kernel
theorem dX12_stepsOf_0 : decode cX12_stepsOf 0 = .ok (.aload_n 0, 1) := by decide +kernel
theorem dX12_stepsOf_1 : decode cX12_stepsOf 1 = .ok (.iload_n 1, 1) := by decide +kernel
theorem dX12_stepsOf_2 : decode cX12_stepsOf 2 = .ok (.iconst 0, 1) := by decide +kernel
theorem dX12_stepsOf_3 : decode cX12_stepsOf 3 = .ok (.invokevirtual 320, 3) := by decide +kernel
theorem dX12_stepsOf_6 : decode cX12_stepsOf 6 = .ok (.ireturn, 1) := by decide +kernel
theorem dX12_hasBook_0 : decode cX12_hasBook 0 = .ok (.aload_n 0, 1) := by decide +kernel
theorem dX12_hasBook_1 : decode cX12_hasBook 1 = .ok (.iload_n 1, 1) := by decide +kernel
theorem dX12_hasBook_2 : decode cX12_hasBook 2 = .ok (.putfield 317, 3) := by decide +kernel
theorem dX12_hasBook_5 : decode cX12_hasBook 5 = .ok (.aload_n 0, 1) := by decide +kernel
theorem dX12_hasBook_6 : decode cX12_hasBook 6 = .ok (.iconst 1, 1) := by decide +kernel
theorem dX12_hasBook_7 : decode cX12_hasBook 7 = .ok (.iload_n 1, 1) := by decide +kernel
theorem dX12_hasBook_8 : decode cX12_hasBook 8 = .ok (.invokevirtual 305, 3) := by decide +kernel
theorem dX12_hasBook_11 : decode cX12_hasBook 11 = .ok (.ifCond .ne 5, 3) := by decide +kernel
theorem dX12_hasBook_14 : decode cX12_hasBook 14 = .ok (.iconst 0, 1) := by decide +kernel
theorem dX12_hasBook_15 : decode cX12_hasBook 15 = .ok (.ireturn, 1) := by decide +kernel
theorem dX12_hasBook_16 : decode cX12_hasBook 16 = .ok (.aload_n 0, 1) := by decide +kernel
theorem dX12_hasBook_17 : decode cX12_hasBook 17 = .ok (.aload_n 0, 1) := by decide +kernel
theorem dX12_hasBook_18 : decode cX12_hasBook 18 = .ok (.getfield 29, 3) := by decide +kernel
theorem dX12_hasBook_21 : decode cX12_hasBook 21 = .ok (.sipush 134, 3) := by decide +kernel
theorem dX12_hasBook_24 : decode cX12_hasBook 24 = .ok (.iload_n 1, 1) := by decide +kernel
theorem dX12_hasBook_25 : decode cX12_hasBook 25 = .ok (.imul, 1) := by decide +kernel
theorem dX12_hasBook_26 : decode cX12_hasBook 26 = .ok (.iaload, 1) := by decide +kernel
theorem dX12_hasBook_27 : decode cX12_hasBook 27 = .ok (.putfield 323, 3) := by decide +kernel
theorem dX12_hasBook_30 : decode cX12_hasBook 30 = .ok (.iconst 1, 1) := by decide +kernel
theorem dX12_hasBook_31 : decode cX12_hasBook 31 = .ok (.ireturn, 1) := by decide +kernel
theorem dX12_isTask_0 : decode cX12_isTask 0 = .ok (.iload_n 1, 1) := by decide +kernel
theorem dX12_isTask_1 : decode cX12_isTask 1 = .ok (.iconst 0, 1) := by decide +kernel
theorem dX12_isTask_2 : decode cX12_isTask 2 = .ok (.aload_n 0, 1) := by decide +kernel
theorem dX12_isTask_3 : decode cX12_isTask 3 = .ok (.getfield 323, 3) := by decide +kernel
theorem dX12_isTask_6 : decode cX12_isTask 6 = .ok (.iconst 1, 1) := by decide +kernel
theorem dX12_isTask_7 : decode cX12_isTask 7 = .ok (.isub, 1) := by decide +kernel
theorem dX12_isTask_8 : decode cX12_isTask 8 = .ok (.invokestatic 156, 3) := by decide +kernel
theorem dX12_isTask_11 : decode cX12_isTask 11 = .ok (.ireturn, 1) := by decide +kernel
theorem dX12_isWorker_0 : decode cX12_isWorker 0 = .ok (.iload_n 1, 1) := by decide +kernel
theorem dX12_isWorker_1 : decode cX12_isWorker 1 = .ok (.iconst 0, 1) := by decide +kernel
theorem dX12_isWorker_2 : decode cX12_isWorker 2 = .ok (.aload_n 0, 1) := by decide +kernel
theorem dX12_isWorker_3 : decode cX12_isWorker 3 = .ok (.getfield 326, 3) := by decide +kernel
theorem dX12_isWorker_6 : decode cX12_isWorker 6 = .ok (.iconst 1, 1) := by decide +kernel
theorem dX12_isWorker_7 : decode cX12_isWorker 7 = .ok (.isub, 1) := by decide +kernel
theorem dX12_isWorker_8 : decode cX12_isWorker 8 = .ok (.invokestatic 156, 3) := by decide +kernel
theorem dX12_isWorker_11 : decode cX12_isWorker 11 = .ok (.ireturn, 1) := by decide +kernel
theorem dX12_nodeOf_0 : decode cX12_nodeOf 0 = .ok (.iload_n 1, 1) := by decide +kernel
theorem dX12_nodeOf_1 : decode cX12_nodeOf 1 = .ok (.aload_n 0, 1) := by decide +kernel
theorem dX12_nodeOf_2 : decode cX12_nodeOf 2 = .ok (.getfield 329, 3) := by decide +kernel
theorem dX12_nodeOf_5 : decode cX12_nodeOf 5 = .ok (.idiv, 1) := by decide +kernel
theorem dX12_nodeOf_6 : decode cX12_nodeOf 6 = .ok (.ireturn, 1) := by decide +kernel
theorem dX12_keysAsTold_0 : decode cX12_keysAsTold 0 = .ok (.aload_n 0, 1) := by decide +kernel
theorem dX12_keysAsTold_1 : decode cX12_keysAsTold 1 = .ok (.aload_n 0, 1) := by decide +kernel
theorem dX12_keysAsTold_2 : decode cX12_keysAsTold 2 = .ok (.iconst 2, 1) := by decide +kernel
theorem dX12_keysAsTold_3 : decode cX12_keysAsTold 3 = .ok (.invokevirtual 332, 3) := by decide +kernel
theorem dX12_keysAsTold_6 : decode cX12_keysAsTold 6 = .ok (.putfield 336, 3) := by decide +kernel
theorem dX12_keysAsTold_9 : decode cX12_keysAsTold 9 = .ok (.iconst 0, 1) := by decide +kernel
theorem dX12_keysAsTold_10 : decode cX12_keysAsTold 10 = .ok (.istore_n 1, 1) := by decide +kernel
theorem dX12_keysAsTold_11 : decode cX12_keysAsTold 11 = .ok (.iload_n 1, 1) := by decide +kernel
theorem dX12_keysAsTold_12 : decode cX12_keysAsTold 12 = .ok (.bipush 10, 2) := by decide +kernel
theorem dX12_keysAsTold_14 : decode cX12_keysAsTold 14 = .ok (.if_icmp .ge 36, 3) := by decide +kernel
theorem dX12_keysAsTold_17 : decode cX12_keysAsTold 17 = .ok (.aload_n 0, 1) := by decide +kernel
theorem dX12_keysAsTold_18 : decode cX12_keysAsTold 18 = .ok (.getfield 44, 3) := by decide +kernel
theorem dX12_keysAsTold_21 : decode cX12_keysAsTold 21 = .ok (.iload_n 1, 1) := by decide +kernel
theorem dX12_keysAsTold_22 : decode cX12_keysAsTold 22 = .ok (.aload_n 0, 1) := by decide +kernel
theorem dX12_keysAsTold_23 : decode cX12_keysAsTold 23 = .ok (.iconst 3, 1) := by decide +kernel
theorem dX12_keysAsTold_24 : decode cX12_keysAsTold 24 = .ok (.iload_n 1, 1) := by decide +kernel
theorem dX12_keysAsTold_25 : decode cX12_keysAsTold 25 = .ok (.iadd, 1) := by decide +kernel
theorem dX12_keysAsTold_26 : decode cX12_keysAsTold 26 = .ok (.invokevirtual 332, 3) := by decide +kernel
theorem dX12_keysAsTold_29 : decode cX12_keysAsTold 29 = .ok (.iastore, 1) := by decide +kernel
theorem dX12_keysAsTold_30 : decode cX12_keysAsTold 30 = .ok (.aload_n 0, 1) := by decide +kernel
theorem dX12_keysAsTold_31 : decode cX12_keysAsTold 31 = .ok (.getfield 47, 3) := by decide +kernel
theorem dX12_keysAsTold_34 : decode cX12_keysAsTold 34 = .ok (.iload_n 1, 1) := by decide +kernel
theorem dX12_keysAsTold_35 : decode cX12_keysAsTold 35 = .ok (.iconst 0, 1) := by decide +kernel
theorem dX12_keysAsTold_36 : decode cX12_keysAsTold 36 = .ok (.iastore, 1) := by decide +kernel
theorem dX12_keysAsTold_37 : decode cX12_keysAsTold 37 = .ok (.aload_n 0, 1) := by decide +kernel
theorem dX12_keysAsTold_38 : decode cX12_keysAsTold 38 = .ok (.getfield 50, 3) := by decide +kernel
theorem dX12_keysAsTold_41 : decode cX12_keysAsTold 41 = .ok (.iload_n 1, 1) := by decide +kernel
theorem dX12_keysAsTold_42 : decode cX12_keysAsTold 42 = .ok (.iconst 0, 1) := by decide +kernel
theorem dX12_keysAsTold_43 : decode cX12_keysAsTold 43 = .ok (.iastore, 1) := by decide +kernel
theorem dX12_keysAsTold_44 : decode cX12_keysAsTold 44 = .ok (.iinc 1 1, 3) := by decide +kernel
theorem dX12_keysAsTold_47 : decode cX12_keysAsTold 47 = .ok (.goto (-36), 3) := by decide +kernel
theorem dX12_keysAsTold_50 : decode cX12_keysAsTold 50 = .ok (.return_, 1) := by decide +kernel
theorem dX12_idle_0 : decode cX12_idle 0 = .ok (.aload_n 0, 1) := by decide +kernel
theorem dX12_idle_1 : decode cX12_idle 1 = .ok (.getfield 59, 3) := by decide +kernel
theorem dX12_idle_4 : decode cX12_idle 4 = .ok (.iload_n 1, 1) := by decide +kernel
theorem dX12_idle_5 : decode cX12_idle 5 = .ok (.iconst (-1), 1) := by decide +kernel
theorem dX12_idle_6 : decode cX12_idle 6 = .ok (.iastore, 1) := by decide +kernel
theorem dX12_idle_7 : decode cX12_idle 7 = .ok (.aload_n 0, 1) := by decide +kernel
theorem dX12_idle_8 : decode cX12_idle 8 = .ok (.getfield 62, 3) := by decide +kernel
theorem dX12_idle_11 : decode cX12_idle 11 = .ok (.iload_n 1, 1) := by decide +kernel
theorem dX12_idle_12 : decode cX12_idle 12 = .ok (.iconst 0, 1) := by decide +kernel
theorem dX12_idle_13 : decode cX12_idle 13 = .ok (.iastore, 1) := by decide +kernel
theorem dX12_idle_14 : decode cX12_idle 14 = .ok (.aload_n 0, 1) := by decide +kernel
theorem dX12_idle_15 : decode cX12_idle 15 = .ok (.getfield 65, 3) := by decide +kernel
theorem dX12_idle_18 : decode cX12_idle 18 = .ok (.iload_n 1, 1) := by decide +kernel
theorem dX12_idle_19 : decode cX12_idle 19 = .ok (.iconst 0, 1) := by decide +kernel
theorem dX12_idle_20 : decode cX12_idle 20 = .ok (.iastore, 1) := by decide +kernel
theorem dX12_idle_21 : decode cX12_idle 21 = .ok (.return_, 1) := by decide +kernel
theorem dX12_beginPlan_0 : decode cX12_beginPlan 0 = .ok (.aload_n 0, 1) := by decide +kernel
theorem dX12_beginPlan_1 : decode cX12_beginPlan 1 = .ok (.invokevirtual 339, 3) := by decide +kernel
theorem dX12_beginPlan_4 : decode cX12_beginPlan 4 = .ok (.aload_n 0, 1) := by decide +kernel
theorem dX12_beginPlan_5 : decode cX12_beginPlan 5 = .ok (.iconst 1, 1) := by decide +kernel
theorem dX12_beginPlan_6 : decode cX12_beginPlan 6 = .ok (.putfield 342, 3) := by decide +kernel
theorem dX12_beginPlan_9 : decode cX12_beginPlan 9 = .ok (.aload_n 0, 1) := by decide +kernel
theorem dX12_beginPlan_10 : decode cX12_beginPlan 10 = .ok (.iconst 0, 1) := by decide +kernel
theorem dX12_beginPlan_11 : decode cX12_beginPlan 11 = .ok (.putfield 345, 3) := by decide +kernel
theorem dX12_beginPlan_14 : decode cX12_beginPlan 14 = .ok (.aload_n 0, 1) := by decide +kernel
theorem dX12_beginPlan_15 : decode cX12_beginPlan 15 = .ok (.iconst 0, 1) := by decide +kernel
theorem dX12_beginPlan_16 : decode cX12_beginPlan 16 = .ok (.putfield 348, 3) := by decide +kernel
theorem dX12_beginPlan_19 : decode cX12_beginPlan 19 = .ok (.aload_n 0, 1) := by decide +kernel
theorem dX12_beginPlan_20 : decode cX12_beginPlan 20 = .ok (.iconst 0, 1) := by decide +kernel
theorem dX12_beginPlan_21 : decode cX12_beginPlan 21 = .ok (.putfield 351, 3) := by decide +kernel
theorem dX12_beginPlan_24 : decode cX12_beginPlan 24 = .ok (.aload_n 0, 1) := by decide +kernel
theorem dX12_beginPlan_25 : decode cX12_beginPlan 25 = .ok (.iconst 0, 1) := by decide +kernel
theorem dX12_beginPlan_26 : decode cX12_beginPlan 26 = .ok (.putfield 354, 3) := by decide +kernel
theorem dX12_beginPlan_29 : decode cX12_beginPlan 29 = .ok (.aload_n 0, 1) := by decide +kernel
theorem dX12_beginPlan_30 : decode cX12_beginPlan 30 = .ok (.iconst 0, 1) := by decide +kernel
theorem dX12_beginPlan_31 : decode cX12_beginPlan 31 = .ok (.putfield 357, 3) := by decide +kernel
theorem dX12_beginPlan_34 : decode cX12_beginPlan 34 = .ok (.aload_n 0, 1) := by decide +kernel
theorem dX12_beginPlan_35 : decode cX12_beginPlan 35 = .ok (.iconst 0, 1) := by decide +kernel
theorem dX12_beginPlan_36 : decode cX12_beginPlan 36 = .ok (.putfield 360, 3) := by decide +kernel
theorem dX12_beginPlan_39 : decode cX12_beginPlan 39 = .ok (.iconst 0, 1) := by decide +kernel
theorem dX12_beginPlan_40 : decode cX12_beginPlan 40 = .ok (.istore_n 1, 1) := by decide +kernel
theorem dX12_beginPlan_41 : decode cX12_beginPlan 41 = .ok (.iload_n 1, 1) := by decide +kernel
theorem dX12_beginPlan_42 : decode cX12_beginPlan 42 = .ok (.bipush 10, 2) := by decide +kernel
theorem dX12_beginPlan_44 : decode cX12_beginPlan 44 = .ok (.if_icmp .ge 30, 3) := by decide +kernel
theorem dX12_beginPlan_47 : decode cX12_beginPlan 47 = .ok (.aload_n 0, 1) := by decide +kernel
theorem dX12_beginPlan_48 : decode cX12_beginPlan 48 = .ok (.getfield 53, 3) := by decide +kernel
theorem dX12_beginPlan_51 : decode cX12_beginPlan 51 = .ok (.iload_n 1, 1) := by decide +kernel
theorem dX12_beginPlan_52 : decode cX12_beginPlan 52 = .ok (.iconst (-1), 1) := by decide +kernel
theorem dX12_beginPlan_53 : decode cX12_beginPlan 53 = .ok (.iastore, 1) := by decide +kernel
theorem dX12_beginPlan_54 : decode cX12_beginPlan 54 = .ok (.aload_n 0, 1) := by decide +kernel
theorem dX12_beginPlan_55 : decode cX12_beginPlan 55 = .ok (.getfield 56, 3) := by decide +kernel
theorem dX12_beginPlan_58 : decode cX12_beginPlan 58 = .ok (.iload_n 1, 1) := by decide +kernel
theorem dX12_beginPlan_59 : decode cX12_beginPlan 59 = .ok (.iconst (-1), 1) := by decide +kernel
theorem dX12_beginPlan_60 : decode cX12_beginPlan 60 = .ok (.iastore, 1) := by decide +kernel
theorem dX12_beginPlan_61 : decode cX12_beginPlan 61 = .ok (.aload_n 0, 1) := by decide +kernel
theorem dX12_beginPlan_62 : decode cX12_beginPlan 62 = .ok (.getfield 116, 3) := by decide +kernel
theorem dX12_beginPlan_65 : decode cX12_beginPlan 65 = .ok (.iload_n 1, 1) := by decide +kernel
theorem dX12_beginPlan_66 : decode cX12_beginPlan 66 = .ok (.iconst 0, 1) := by decide +kernel
theorem dX12_beginPlan_67 : decode cX12_beginPlan 67 = .ok (.iastore, 1) := by decide +kernel
theorem dX12_beginPlan_68 : decode cX12_beginPlan 68 = .ok (.iinc 1 1, 3) := by decide +kernel
theorem dX12_beginPlan_71 : decode cX12_beginPlan 71 = .ok (.goto (-30), 3) := by decide +kernel
theorem dX12_beginPlan_74 : decode cX12_beginPlan 74 = .ok (.iconst 0, 1) := by decide +kernel
theorem dX12_beginPlan_75 : decode cX12_beginPlan 75 = .ok (.istore_n 1, 1) := by decide +kernel
theorem dX12_beginPlan_76 : decode cX12_beginPlan 76 = .ok (.iload_n 1, 1) := by decide +kernel
theorem dX12_beginPlan_77 : decode cX12_beginPlan 77 = .ok (.bipush 7, 2) := by decide +kernel
theorem dX12_beginPlan_79 : decode cX12_beginPlan 79 = .ok (.if_icmp .ge 16, 3) := by decide +kernel
theorem dX12_beginPlan_82 : decode cX12_beginPlan 82 = .ok (.aload_n 0, 1) := by decide +kernel
theorem dX12_beginPlan_83 : decode cX12_beginPlan 83 = .ok (.getfield 113, 3) := by decide +kernel
theorem dX12_beginPlan_86 : decode cX12_beginPlan 86 = .ok (.iload_n 1, 1) := by decide +kernel
theorem dX12_beginPlan_87 : decode cX12_beginPlan 87 = .ok (.iconst 0, 1) := by decide +kernel
theorem dX12_beginPlan_88 : decode cX12_beginPlan 88 = .ok (.iastore, 1) := by decide +kernel
theorem dX12_beginPlan_89 : decode cX12_beginPlan 89 = .ok (.iinc 1 1, 3) := by decide +kernel
theorem dX12_beginPlan_92 : decode cX12_beginPlan 92 = .ok (.goto (-16), 3) := by decide +kernel
theorem dX12_beginPlan_95 : decode cX12_beginPlan 95 = .ok (.iconst 0, 1) := by decide +kernel
theorem dX12_beginPlan_96 : decode cX12_beginPlan 96 = .ok (.istore_n 1, 1) := by decide +kernel
theorem dX12_beginPlan_97 : decode cX12_beginPlan 97 = .ok (.iload_n 1, 1) := by decide +kernel
theorem dX12_beginPlan_98 : decode cX12_beginPlan 98 = .ok (.iconst 4, 1) := by decide +kernel
theorem dX12_beginPlan_99 : decode cX12_beginPlan 99 = .ok (.if_icmp .ge 28, 3) := by decide +kernel
theorem dX12_beginPlan_102 : decode cX12_beginPlan 102 = .ok (.aload_n 0, 1) := by decide +kernel
theorem dX12_beginPlan_103 : decode cX12_beginPlan 103 = .ok (.iload_n 1, 1) := by decide +kernel
theorem dX12_beginPlan_104 : decode cX12_beginPlan 104 = .ok (.invokevirtual 363, 3) := by decide +kernel
theorem dX12_beginPlan_107 : decode cX12_beginPlan 107 = .ok (.aload_n 0, 1) := by decide +kernel
theorem dX12_beginPlan_108 : decode cX12_beginPlan 108 = .ok (.getfield 71, 3) := by decide +kernel
theorem dX12_beginPlan_111 : decode cX12_beginPlan 111 = .ok (.iload_n 1, 1) := by decide +kernel
theorem dX12_beginPlan_112 : decode cX12_beginPlan 112 = .ok (.iconst 0, 1) := by decide +kernel
theorem dX12_beginPlan_113 : decode cX12_beginPlan 113 = .ok (.iastore, 1) := by decide +kernel
theorem dX12_beginPlan_114 : decode cX12_beginPlan 114 = .ok (.aload_n 0, 1) := by decide +kernel
theorem dX12_beginPlan_115 : decode cX12_beginPlan 115 = .ok (.getfield 74, 3) := by decide +kernel
theorem dX12_beginPlan_118 : decode cX12_beginPlan 118 = .ok (.iload_n 1, 1) := by decide +kernel
theorem dX12_beginPlan_119 : decode cX12_beginPlan 119 = .ok (.iconst 0, 1) := by decide +kernel
theorem dX12_beginPlan_120 : decode cX12_beginPlan 120 = .ok (.iastore, 1) := by decide +kernel
theorem dX12_beginPlan_121 : decode cX12_beginPlan 121 = .ok (.iinc 1 1, 3) := by decide +kernel
theorem dX12_beginPlan_124 : decode cX12_beginPlan 124 = .ok (.goto (-27), 3) := by decide +kernel
theorem dX12_beginPlan_127 : decode cX12_beginPlan 127 = .ok (.return_, 1) := by decide +kernel
theorem dX12_hand_0 : decode cX12_hand 0 = .ok (.aload_n 0, 1) := by decide +kernel
theorem dX12_hand_1 : decode cX12_hand 1 = .ok (.iload_n 1, 1) := by decide +kernel
theorem dX12_hand_2 : decode cX12_hand 2 = .ok (.putfield 314, 3) := by decide +kernel
theorem dX12_hand_5 : decode cX12_hand 5 = .ok (.aload_n 0, 1) := by decide +kernel
theorem dX12_hand_6 : decode cX12_hand 6 = .ok (.iconst 0, 1) := by decide +kernel
theorem dX12_hand_7 : decode cX12_hand 7 = .ok (.iload_n 1, 1) := by decide +kernel
theorem dX12_hand_8 : decode cX12_hand 8 = .ok (.invokevirtual 305, 3) := by decide +kernel
theorem dX12_hand_11 : decode cX12_hand 11 = .ok (.ifCond .eq 11, 3) := by decide +kernel
theorem dX12_hand_14 : decode cX12_hand 14 = .ok (.aload_n 0, 1) := by decide +kernel
theorem dX12_hand_15 : decode cX12_hand 15 = .ok (.iload_n 2, 1) := by decide +kernel
theorem dX12_hand_16 : decode cX12_hand 16 = .ok (.invokevirtual 366, 3) := by decide +kernel
theorem dX12_hand_19 : decode cX12_hand 19 = .ok (.ifCond .ne 5, 3) := by decide +kernel
theorem dX12_hand_22 : decode cX12_hand 22 = .ok (.iconst 0, 1) := by decide +kernel
theorem dX12_hand_23 : decode cX12_hand 23 = .ok (.ireturn, 1) := by decide +kernel
theorem dX12_hand_24 : decode cX12_hand 24 = .ok (.aload_n 0, 1) := by decide +kernel
theorem dX12_hand_25 : decode cX12_hand 25 = .ok (.aload_n 0, 1) := by decide +kernel
theorem dX12_hand_26 : decode cX12_hand 26 = .ok (.iconst 0, 1) := by decide +kernel
theorem dX12_hand_27 : decode cX12_hand 27 = .ok (.invokevirtual 332, 3) := by decide +kernel
theorem dX12_hand_30 : decode cX12_hand 30 = .ok (.putfield 329, 3) := by decide +kernel
theorem dX12_hand_33 : decode cX12_hand 33 = .ok (.aload_n 0, 1) := by decide +kernel
theorem dX12_hand_34 : decode cX12_hand 34 = .ok (.aload_n 0, 1) := by decide +kernel
theorem dX12_hand_35 : decode cX12_hand 35 = .ok (.iconst 1, 1) := by decide +kernel
theorem dX12_hand_36 : decode cX12_hand 36 = .ok (.invokevirtual 332, 3) := by decide +kernel
theorem dX12_hand_39 : decode cX12_hand 39 = .ok (.putfield 326, 3) := by decide +kernel
theorem dX12_hand_42 : decode cX12_hand 42 = .ok (.aload_n 0, 1) := by decide +kernel
theorem dX12_hand_43 : decode cX12_hand 43 = .ok (.aload_n 0, 1) := by decide +kernel
theorem dX12_hand_44 : decode cX12_hand 44 = .ok (.bipush 9, 2) := by decide +kernel
theorem dX12_hand_46 : decode cX12_hand 46 = .ok (.invokevirtual 369, 3) := by decide +kernel
theorem dX12_hand_49 : decode cX12_hand 49 = .ok (.iconst 1, 1) := by decide +kernel
theorem dX12_hand_50 : decode cX12_hand 50 = .ok (.iadd, 1) := by decide +kernel
theorem dX12_hand_51 : decode cX12_hand 51 = .ok (.putfield 372, 3) := by decide +kernel
theorem dX12_hand_54 : decode cX12_hand 54 = .ok (.aload_n 0, 1) := by decide +kernel
theorem dX12_hand_55 : decode cX12_hand 55 = .ok (.invokevirtual 375, 3) := by decide +kernel
theorem dX12_hand_58 : decode cX12_hand 58 = .ok (.iconst 1, 1) := by decide +kernel
theorem dX12_hand_59 : decode cX12_hand 59 = .ok (.ireturn, 1) := by decide +kernel
theorem dX12_store_0 : decode cX12_store 0 = .ok (.aload_n 0, 1) := by decide +kernel
theorem dX12_store_1 : decode cX12_store 1 = .ok (.iconst 0, 1) := by decide +kernel
theorem dX12_store_2 : decode cX12_store 2 = .ok (.putfield 144, 3) := by decide +kernel
theorem dX12_store_5 : decode cX12_store 5 = .ok (.aload_n 0, 1) := by decide +kernel
theorem dX12_store_6 : decode cX12_store 6 = .ok (.iload_n 1, 1) := by decide +kernel
theorem dX12_store_7 : decode cX12_store 7 = .ok (.putfield 314, 3) := by decide +kernel
theorem dX12_store_10 : decode cX12_store 10 = .ok (.aload_n 0, 1) := by decide +kernel
theorem dX12_store_11 : decode cX12_store 11 = .ok (.iconst 0, 1) := by decide +kernel
theorem dX12_store_12 : decode cX12_store 12 = .ok (.iload_n 1, 1) := by decide +kernel
theorem dX12_store_13 : decode cX12_store 13 = .ok (.invokevirtual 305, 3) := by decide +kernel
theorem dX12_store_16 : decode cX12_store 16 = .ok (.ifCond .ne 6, 3) := by decide +kernel
theorem dX12_store_19 : decode cX12_store 19 = .ok (.bipush (-2), 2) := by decide +kernel
theorem dX12_store_21 : decode cX12_store 21 = .ok (.ireturn, 1) := by decide +kernel
theorem dX12_store_22 : decode cX12_store 22 = .ok (.iload_n 2, 1) := by decide +kernel
theorem dX12_store_23 : decode cX12_store 23 = .ok (.bipush 10, 2) := by decide +kernel
theorem dX12_store_25 : decode cX12_store 25 = .ok (.bipush 19, 2) := by decide +kernel
theorem dX12_store_27 : decode cX12_store 27 = .ok (.invokestatic 156, 3) := by decide +kernel
theorem dX12_store_30 : decode cX12_store 30 = .ok (.ifCond .eq 33, 3) := by decide +kernel
theorem dX12_store_33 : decode cX12_store 33 = .ok (.aload_n 0, 1) := by decide +kernel
theorem dX12_store_34 : decode cX12_store 34 = .ok (.iconst 2, 1) := by decide +kernel
theorem dX12_store_35 : decode cX12_store 35 = .ok (.invokevirtual 332, 3) := by decide +kernel
theorem dX12_store_38 : decode cX12_store 38 = .ok (.iload_n 2, 1) := by decide +kernel
theorem dX12_store_39 : decode cX12_store 39 = .ok (.bipush 10, 2) := by decide +kernel
theorem dX12_store_41 : decode cX12_store 41 = .ok (.isub, 1) := by decide +kernel
theorem dX12_store_42 : decode cX12_store 42 = .ok (.invokestatic 148, 3) := by decide +kernel
theorem dX12_store_45 : decode cX12_store 45 = .ok (.ifCond .eq 16, 3) := by decide +kernel
theorem dX12_store_48 : decode cX12_store 48 = .ok (.aload_n 0, 1) := by decide +kernel
theorem dX12_store_49 : decode cX12_store 49 = .ok (.iconst 3, 1) := by decide +kernel
theorem dX12_store_50 : decode cX12_store 50 = .ok (.iload_n 2, 1) := by decide +kernel
theorem dX12_store_51 : decode cX12_store 51 = .ok (.iadd, 1) := by decide +kernel
theorem dX12_store_52 : decode cX12_store 52 = .ok (.bipush 10, 2) := by decide +kernel
theorem dX12_store_54 : decode cX12_store 54 = .ok (.isub, 1) := by decide +kernel
theorem dX12_store_55 : decode cX12_store 55 = .ok (.invokevirtual 332, 3) := by decide +kernel
theorem dX12_store_58 : decode cX12_store 58 = .ok (.goto 4, 3) := by decide +kernel
theorem dX12_store_61 : decode cX12_store 61 = .ok (.iconst (-1), 1) := by decide +kernel
theorem dX12_store_62 : decode cX12_store 62 = .ok (.ireturn, 1) := by decide +kernel
theorem dX12_store_63 : decode cX12_store 63 = .ok (.iload_n 2, 1) := by decide +kernel
theorem dX12_store_64 : decode cX12_store 64 = .ok (.iconst 0, 1) := by decide +kernel
theorem dX12_store_65 : decode cX12_store 65 = .ok (.iconst 2, 1) := by decide +kernel
theorem dX12_store_66 : decode cX12_store 66 = .ok (.invokestatic 156, 3) := by decide +kernel
theorem dX12_store_69 : decode cX12_store 69 = .ok (.ifCond .eq 11, 3) := by decide +kernel
theorem dX12_store_72 : decode cX12_store 72 = .ok (.aload_n 0, 1) := by decide +kernel
theorem dX12_store_73 : decode cX12_store 73 = .ok (.iload_n 2, 1) := by decide +kernel
theorem dX12_store_74 : decode cX12_store 74 = .ok (.invokevirtual 332, 3) := by decide +kernel
theorem dX12_store_77 : decode cX12_store 77 = .ok (.goto 5, 3) := by decide +kernel
theorem dX12_store_80 : decode cX12_store 80 = .ok (.bipush (-2), 2) := by decide +kernel
theorem dX12_store_82 : decode cX12_store 82 = .ok (.ireturn, 1) := by decide +kernel
theorem dX12_task_0 : decode cX12_task 0 = .ok (.aload_n 0, 1) := by decide +kernel
theorem dX12_task_1 : decode cX12_task 1 = .ok (.iconst 0, 1) := by decide +kernel
theorem dX12_task_2 : decode cX12_task 2 = .ok (.putfield 144, 3) := by decide +kernel
theorem dX12_task_5 : decode cX12_task 5 = .ok (.aload_n 0, 1) := by decide +kernel
theorem dX12_task_6 : decode cX12_task 6 = .ok (.iload_n 1, 1) := by decide +kernel
theorem dX12_task_7 : decode cX12_task 7 = .ok (.invokevirtual 366, 3) := by decide +kernel
theorem dX12_task_10 : decode cX12_task 10 = .ok (.ifCond .ne 6, 3) := by decide +kernel
theorem dX12_task_13 : decode cX12_task 13 = .ok (.bipush (-2), 2) := by decide +kernel
theorem dX12_task_15 : decode cX12_task 15 = .ok (.ireturn, 1) := by decide +kernel
theorem dX12_task_16 : decode cX12_task 16 = .ok (.iload_n 2, 1) := by decide +kernel
theorem dX12_task_17 : decode cX12_task 17 = .ok (.iconst (-1), 1) := by decide +kernel
theorem dX12_task_18 : decode cX12_task 18 = .ok (.if_icmp .ne 17, 3) := by decide +kernel
theorem dX12_task_21 : decode cX12_task 21 = .ok (.iload_n 3, 1) := by decide +kernel
theorem dX12_task_22 : decode cX12_task 22 = .ok (.ifCond .ne 10, 3) := by decide +kernel
theorem dX12_task_25 : decode cX12_task 25 = .ok (.aload_n 0, 1) := by decide +kernel
theorem dX12_task_26 : decode cX12_task 26 = .ok (.getfield 323, 3) := by decide +kernel
theorem dX12_task_29 : decode cX12_task 29 = .ok (.goto 5, 3) := by decide +kernel
theorem dX12_task_32 : decode cX12_task 32 = .ok (.bipush (-2), 2) := by decide +kernel
theorem dX12_task_34 : decode cX12_task 34 = .ok (.ireturn, 1) := by decide +kernel
theorem dX12_task_35 : decode cX12_task 35 = .ok (.aload_n 0, 1) := by decide +kernel
theorem dX12_task_36 : decode cX12_task 36 = .ok (.iload_n 2, 1) := by decide +kernel
theorem dX12_task_37 : decode cX12_task 37 = .ok (.invokevirtual 378, 3) := by decide +kernel
theorem dX12_task_40 : decode cX12_task 40 = .ok (.ifCond .eq 7, 3) := by decide +kernel
theorem dX12_task_43 : decode cX12_task 43 = .ok (.iload_n 3, 1) := by decide +kernel
theorem dX12_task_44 : decode cX12_task 44 = .ok (.ifCond .ge 6, 3) := by decide +kernel
theorem dX12_task_47 : decode cX12_task 47 = .ok (.bipush (-2), 2) := by decide +kernel
theorem dX12_task_49 : decode cX12_task 49 = .ok (.ireturn, 1) := by decide +kernel
theorem dX12_task_50 : decode cX12_task 50 = .ok (.iload_n 3, 1) := by decide +kernel
theorem dX12_task_51 : decode cX12_task 51 = .ok (.bipush 10, 2) := by decide +kernel
theorem dX12_task_53 : decode cX12_task 53 = .ok (.idiv, 1) := by decide +kernel
theorem dX12_task_54 : decode cX12_task 54 = .ok (.iconst 1, 1) := by decide +kernel
theorem dX12_task_55 : decode cX12_task 55 = .ok (.isub, 1) := by decide +kernel
theorem dX12_task_56 : decode cX12_task 56 = .ok (.istore 4, 2) := by decide +kernel
theorem dX12_task_58 : decode cX12_task 58 = .ok (.iload_n 3, 1) := by decide +kernel
theorem dX12_task_59 : decode cX12_task 59 = .ok (.bipush 10, 2) := by decide +kernel
theorem dX12_task_61 : decode cX12_task 61 = .ok (.irem, 1) := by decide +kernel
theorem dX12_task_62 : decode cX12_task 62 = .ok (.istore 5, 2) := by decide +kernel
theorem dX12_task_64 : decode cX12_task 64 = .ok (.iload_n 3, 1) := by decide +kernel
theorem dX12_task_65 : decode cX12_task 65 = .ok (.bipush 10, 2) := by decide +kernel
theorem dX12_task_67 : decode cX12_task 67 = .ok (.if_icmp .ge 18, 3) := by decide +kernel
theorem dX12_task_70 : decode cX12_task 70 = .ok (.iload_n 3, 1) := by decide +kernel
theorem dX12_task_71 : decode cX12_task 71 = .ok (.ifCond .ne 11, 3) := by decide +kernel
theorem dX12_task_74 : decode cX12_task 74 = .ok (.aload_n 0, 1) := by decide +kernel
theorem dX12_task_75 : decode cX12_task 75 = .ok (.iload_n 2, 1) := by decide +kernel
theorem dX12_task_76 : decode cX12_task 76 = .ok (.invokevirtual 381, 3) := by decide +kernel
theorem dX12_task_79 : decode cX12_task 79 = .ok (.goto 5, 3) := by decide +kernel
theorem dX12_task_82 : decode cX12_task 82 = .ok (.bipush (-2), 2) := by decide +kernel
theorem dX12_task_84 : decode cX12_task 84 = .ok (.ireturn, 1) := by decide +kernel
theorem dX12_task_85 : decode cX12_task 85 = .ok (.iload 4, 2) := by decide +kernel
theorem dX12_task_87 : decode cX12_task 87 = .ok (.aload_n 0, 1) := by decide +kernel
theorem dX12_task_88 : decode cX12_task 88 = .ok (.iload_n 2, 1) := by decide +kernel
theorem dX12_task_89 : decode cX12_task 89 = .ok (.invokevirtual 381, 3) := by decide +kernel
theorem dX12_task_92 : decode cX12_task 92 = .ok (.if_icmp .ge 26, 3) := by decide +kernel
theorem dX12_task_95 : decode cX12_task 95 = .ok (.iload 5, 2) := by decide +kernel
theorem dX12_task_97 : decode cX12_task 97 = .ok (.iconst 3, 1) := by decide +kernel
theorem dX12_task_98 : decode cX12_task 98 = .ok (.if_icmp .ge 20, 3) := by decide +kernel
theorem dX12_task_101 : decode cX12_task 101 = .ok (.aload_n 0, 1) := by decide +kernel
theorem dX12_task_102 : decode cX12_task 102 = .ok (.iload_n 2, 1) := by decide +kernel
theorem dX12_task_103 : decode cX12_task 103 = .ok (.iconst 1, 1) := by decide +kernel
theorem dX12_task_104 : decode cX12_task 104 = .ok (.iconst 3, 1) := by decide +kernel
theorem dX12_task_105 : decode cX12_task 105 = .ok (.iload 4, 2) := by decide +kernel
theorem dX12_task_107 : decode cX12_task 107 = .ok (.imul, 1) := by decide +kernel
theorem dX12_task_108 : decode cX12_task 108 = .ok (.iadd, 1) := by decide +kernel
theorem dX12_task_109 : decode cX12_task 109 = .ok (.iload 5, 2) := by decide +kernel
theorem dX12_task_111 : decode cX12_task 111 = .ok (.iadd, 1) := by decide +kernel
theorem dX12_task_112 : decode cX12_task 112 = .ok (.invokevirtual 320, 3) := by decide +kernel
theorem dX12_task_115 : decode cX12_task 115 = .ok (.goto 5, 3) := by decide +kernel
theorem dX12_task_118 : decode cX12_task 118 = .ok (.bipush (-2), 2) := by decide +kernel
theorem dX12_task_120 : decode cX12_task 120 = .ok (.ireturn, 1) := by decide +kernel
theorem dX12_begins_0 : decode cX12_begins 0 = .ok (.aload_n 0, 1) := by decide +kernel
