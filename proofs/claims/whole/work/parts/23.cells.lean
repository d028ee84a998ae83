/-! the cells: kinds, lengths, pointers -/
def FU : Nat := 5000
theorem is_0 : Is 0 11 := by unfold Is; decide +kernel
theorem is_1 : Is 1 9 := by unfold Is; decide +kernel
theorem is_2 : Is 2 13 := by unfold Is; decide +kernel
theorem ln_2 : ln 2 = 600 := by decide +kernel
theorem is_3 : Is 3 14 := by unfold Is; decide +kernel
theorem ln_3 : ln 3 = 4 := by decide +kernel
theorem is_4 : Is 4 19 := by unfold Is; decide +kernel
theorem ln_4 : ln 4 = 2 := by decide +kernel
theorem is_5 : Is 5 20 := by unfold Is; decide +kernel
theorem ln_5 : ln 5 = 2 := by decide +kernel
theorem is_6 : Is 6 18 := by unfold Is; decide +kernel
theorem ln_6 : ln 6 = 2 := by decide +kernel
theorem is_7 : Is 7 16 := by unfold Is; decide +kernel
theorem ln_7 : ln 7 = 2 := by decide +kernel
theorem is_36 : Is 36 21 := by unfold Is; decide +kernel
theorem ln_36 : ln 36 = 3 := by decide +kernel
theorem is_142 : Is 142 15 := by unfold Is; decide +kernel
theorem ln_142 : ln 142 = 3 := by decide +kernel
theorem is_143 : Is 143 5 := by unfold Is; decide +kernel
theorem is_144 : Is 144 14 := by unfold Is; decide +kernel
theorem ln_144 : ln 144 = 2 := by decide +kernel
theorem is_146 : Is 146 3 := by unfold Is; decide +kernel
theorem is_147 : Is 147 14 := by unfold Is; decide +kernel
theorem ln_147 : ln 147 = 10 := by decide +kernel
theorem is_148 : Is 148 14 := by unfold Is; decide +kernel
theorem ln_148 : ln 148 = 10 := by decide +kernel
theorem is_149 : Is 149 14 := by unfold Is; decide +kernel
theorem ln_149 : ln 149 = 10 := by decide +kernel
theorem is_150 : Is 150 14 := by unfold Is; decide +kernel
theorem ln_150 : ln 150 = 10 := by decide +kernel
theorem is_151 : Is 151 14 := by unfold Is; decide +kernel
theorem ln_151 : ln 151 = 10 := by decide +kernel
theorem is_152 : Is 152 22 := by unfold Is; decide +kernel
theorem ln_152 : ln 152 = 4 := by decide +kernel
theorem is_153 : Is 153 17 := by unfold Is; decide +kernel
theorem ln_153 : ln 153 = 30 := by decide +kernel
theorem is_154 : Is 154 14 := by unfold Is; decide +kernel
theorem ln_154 : ln 154 = 60 := by decide +kernel
theorem is_155 : Is 155 14 := by unfold Is; decide +kernel
theorem ln_155 : ln 155 = 60 := by decide +kernel
theorem is_156 : Is 156 14 := by unfold Is; decide +kernel
theorem ln_156 : ln 156 = 60 := by decide +kernel
theorem is_157 : Is 157 14 := by unfold Is; decide +kernel
theorem ln_157 : ln 157 = 60 := by decide +kernel
theorem is_234 : Is 234 0 := by unfold Is; decide +kernel
theorem is_235 : Is 235 24 := by unfold Is; decide +kernel
theorem ln_235 : ln 235 = 30 := by decide +kernel
theorem is_236 : Is 236 23 := by unfold Is; decide +kernel
theorem ln_236 : ln 236 = 7 := by decide +kernel
theorem is_244 : Is 244 14 := by unfold Is; decide +kernel
theorem ln_244 : ln 244 = 6 := by decide +kernel
theorem is_245 : Is 245 14 := by unfold Is; decide +kernel
theorem ln_245 : ln 245 = 6 := by decide +kernel
theorem is_246 : Is 246 6 := by unfold Is; decide +kernel
theorem is_247 : Is 247 14 := by unfold Is; decide +kernel
theorem ln_247 : ln 247 = 16 := by decide +kernel
theorem is_248 : Is 248 23 := by unfold Is; decide +kernel
theorem ln_248 : ln 248 = 16 := by decide +kernel
theorem is_265 : Is 265 14 := by unfold Is; decide +kernel
theorem ln_265 : ln 265 = 10 := by decide +kernel
theorem is_266 : Is 266 14 := by unfold Is; decide +kernel
theorem ln_266 : ln 266 = 5 := by decide +kernel
theorem is_267 : Is 267 14 := by unfold Is; decide +kernel
theorem ln_267 : ln 267 = 10 := by decide +kernel
theorem is_268 : Is 268 14 := by unfold Is; decide +kernel
theorem ln_268 : ln 268 = 10 := by decide +kernel
theorem is_269 : Is 269 12 := by unfold Is; decide +kernel
theorem is_270 : Is 270 13 := by unfold Is; decide +kernel
theorem ln_270 : ln 270 = 2400 := by decide +kernel
theorem is_271 : Is 271 14 := by unfold Is; decide +kernel
theorem ln_271 : ln 271 = 4 := by decide +kernel
theorem is_272 : Is 272 14 := by unfold Is; decide +kernel
theorem ln_272 : ln 272 = 4 := by decide +kernel
theorem is_273 : Is 273 14 := by unfold Is; decide +kernel
theorem ln_273 : ln 273 = 4 := by decide +kernel
theorem is_274 : Is 274 14 := by unfold Is; decide +kernel
theorem ln_274 : ln 274 = 16 := by decide +kernel
theorem is_275 : Is 275 14 := by unfold Is; decide +kernel
theorem ln_275 : ln 275 = 104 := by decide +kernel
theorem is_276 : Is 276 14 := by unfold Is; decide +kernel
theorem ln_276 : ln 276 = 1072 := by decide +kernel
theorem is_277 : Is 277 14 := by unfold Is; decide +kernel
theorem ln_277 : ln 277 = 968 := by decide +kernel
theorem is_278 : Is 278 14 := by unfold Is; decide +kernel
theorem ln_278 : ln 278 = 136 := by decide +kernel
theorem is_279 : Is 279 14 := by unfold Is; decide +kernel
theorem ln_279 : ln 279 = 134 := by decide +kernel
theorem is_280 : Is 280 14 := by unfold Is; decide +kernel
theorem ln_280 : ln 280 = 3 := by decide +kernel
theorem is_281 : Is 281 14 := by unfold Is; decide +kernel
theorem ln_281 : ln 281 = 10 := by decide +kernel
theorem is_282 : Is 282 14 := by unfold Is; decide +kernel
theorem ln_282 : ln 282 = 10 := by decide +kernel
theorem is_283 : Is 283 14 := by unfold Is; decide +kernel
theorem ln_283 : ln 283 = 10 := by decide +kernel
theorem is_284 : Is 284 14 := by unfold Is; decide +kernel
theorem ln_284 : ln 284 = 10 := by decide +kernel
theorem is_285 : Is 285 14 := by unfold Is; decide +kernel
theorem ln_285 : ln 285 = 10 := by decide +kernel
theorem is_286 : Is 286 14 := by unfold Is; decide +kernel
theorem ln_286 : ln 286 = 4 := by decide +kernel
theorem is_287 : Is 287 14 := by unfold Is; decide +kernel
theorem ln_287 : ln 287 = 4 := by decide +kernel
theorem is_288 : Is 288 14 := by unfold Is; decide +kernel
theorem ln_288 : ln 288 = 4 := by decide +kernel
theorem is_289 : Is 289 14 := by unfold Is; decide +kernel
theorem ln_289 : ln 289 = 4 := by decide +kernel
theorem is_290 : Is 290 14 := by unfold Is; decide +kernel
theorem ln_290 : ln 290 = 4 := by decide +kernel
theorem is_291 : Is 291 14 := by unfold Is; decide +kernel
theorem ln_291 : ln 291 = 4 := by decide +kernel
theorem is_292 : Is 292 14 := by unfold Is; decide +kernel
theorem ln_292 : ln 292 = 40 := by decide +kernel
theorem is_293 : Is 293 14 := by unfold Is; decide +kernel
theorem ln_293 : ln 293 = 40 := by decide +kernel
theorem is_294 : Is 294 14 := by unfold Is; decide +kernel
theorem ln_294 : ln 294 = 40 := by decide +kernel
theorem is_295 : Is 295 14 := by unfold Is; decide +kernel
theorem ln_295 : ln 295 = 64 := by decide +kernel
theorem is_296 : Is 296 14 := by unfold Is; decide +kernel
theorem ln_296 : ln 296 = 64 := by decide +kernel
theorem is_297 : Is 297 14 := by unfold Is; decide +kernel
theorem ln_297 : ln 297 = 64 := by decide +kernel
theorem is_298 : Is 298 14 := by unfold Is; decide +kernel
theorem ln_298 : ln 298 = 64 := by decide +kernel
theorem is_299 : Is 299 14 := by unfold Is; decide +kernel
theorem ln_299 : ln 299 = 64 := by decide +kernel
theorem is_300 : Is 300 14 := by unfold Is; decide +kernel
theorem ln_300 : ln 300 = 64 := by decide +kernel
theorem is_301 : Is 301 14 := by unfold Is; decide +kernel
theorem ln_301 : ln 301 = 64 := by decide +kernel
theorem is_302 : Is 302 14 := by unfold Is; decide +kernel
theorem ln_302 : ln 302 = 64 := by decide +kernel
theorem is_303 : Is 303 14 := by unfold Is; decide +kernel
theorem ln_303 : ln 303 = 640 := by decide +kernel
theorem is_304 : Is 304 14 := by unfold Is; decide +kernel
theorem ln_304 : ln 304 = 7 := by decide +kernel
theorem is_305 : Is 305 14 := by unfold Is; decide +kernel
theorem ln_305 : ln 305 = 10 := by decide +kernel
theorem is_306 : Is 306 14 := by unfold Is; decide +kernel
theorem ln_306 : ln 306 = 10 := by decide +kernel
theorem is_307 : Is 307 14 := by unfold Is; decide +kernel
theorem ln_307 : ln 307 = 10 := by decide +kernel
theorem is_308 : Is 308 14 := by unfold Is; decide +kernel
theorem ln_308 : ln 308 = 64 := by decide +kernel
theorem is_309 : Is 309 14 := by unfold Is; decide +kernel
theorem ln_309 : ln 309 = 10 := by decide +kernel
theorem is_310 : Is 310 14 := by unfold Is; decide +kernel
theorem ln_310 : ln 310 = 6 := by decide +kernel
theorem is_311 : Is 311 14 := by unfold Is; decide +kernel
theorem ln_311 : ln 311 = 6 := by decide +kernel
theorem is_312 : Is 312 14 := by unfold Is; decide +kernel
theorem ln_312 : ln 312 = 1010 := by decide +kernel
theorem is_313 : Is 313 15 := by unfold Is; decide +kernel
theorem ln_313 : ln 313 = 3 := by decide +kernel
theorem ch_1_1 {n : Nat} (h : Is n 1) : Is (n + 1) 14 := (show ∀ n, n < NC → kd n = 1 → n + 1 < NC ∧ kd (n + 1) = 14 by decide +kernel) n h.1 h.2
theorem cl_1_1 {n : Nat} (h : Is n 1) : ln (n + 1) = 8 := (show ∀ n, n < NC → kd n = 1 → ln (n + 1) = 8 by decide +kernel) n h.1 h.2
theorem cs_1_1 {n : Nat} (h : Is n 1) : sp n 1 = n + 1 := by unfold sp; rw [h.2, if_pos (by decide), if_neg (by decide)]; rfl
theorem ch_1_2 {n : Nat} (h : Is n 1) : Is (n + 2) 14 := (show ∀ n, n < NC → kd n = 1 → n + 2 < NC ∧ kd (n + 2) = 14 by decide +kernel) n h.1 h.2
theorem cl_1_2 {n : Nat} (h : Is n 1) : ln (n + 2) = 8 := (show ∀ n, n < NC → kd n = 1 → ln (n + 2) = 8 by decide +kernel) n h.1 h.2
theorem cs_1_2 {n : Nat} (h : Is n 1) : sp n 2 = n + 2 := by unfold sp; rw [h.2, if_pos (by decide), if_neg (by decide)]; rfl
theorem ch_2_10 {n : Nat} (h : Is n 2) : Is (n + 1) 14 := (show ∀ n, n < NC → kd n = 2 → n + 1 < NC ∧ kd (n + 1) = 14 by decide +kernel) n h.1 h.2
theorem cl_2_10 {n : Nat} (h : Is n 2) : ln (n + 1) = 10 := (show ∀ n, n < NC → kd n = 2 → ln (n + 1) = 10 by decide +kernel) n h.1 h.2
theorem cs_2_10 {n : Nat} (h : Is n 2) : sp n 10 = n + 1 := by unfold sp; rw [h.2, if_pos (by decide), if_neg (by decide)]; rfl
theorem ch_4_1 {n : Nat} (h : Is n 4) : Is (n + 1) 14 := (show ∀ n, n < NC → kd n = 4 → n + 1 < NC ∧ kd (n + 1) = 14 by decide +kernel) n h.1 h.2
theorem cl_4_1 {n : Nat} (h : Is n 4) : ln (n + 1) = 40 := (show ∀ n, n < NC → kd n = 4 → ln (n + 1) = 40 by decide +kernel) n h.1 h.2
theorem cs_4_1 {n : Nat} (h : Is n 4) : sp n 1 = n + 1 := by unfold sp; rw [h.2, if_pos (by decide), if_neg (by decide)]; rfl
theorem ch_4_2 {n : Nat} (h : Is n 4) : Is (n + 2) 14 := (show ∀ n, n < NC → kd n = 4 → n + 2 < NC ∧ kd (n + 2) = 14 by decide +kernel) n h.1 h.2
theorem cl_4_2 {n : Nat} (h : Is n 4) : ln (n + 2) = 40 := (show ∀ n, n < NC → kd n = 4 → ln (n + 2) = 40 by decide +kernel) n h.1 h.2
theorem cs_4_2 {n : Nat} (h : Is n 4) : sp n 2 = n + 2 := by unfold sp; rw [h.2, if_pos (by decide), if_neg (by decide)]; rfl
theorem ch_4_3 {n : Nat} (h : Is n 4) : Is (n + 3) 14 := (show ∀ n, n < NC → kd n = 4 → n + 3 < NC ∧ kd (n + 3) = 14 by decide +kernel) n h.1 h.2
theorem cl_4_3 {n : Nat} (h : Is n 4) : ln (n + 3) = 40 := (show ∀ n, n < NC → kd n = 4 → ln (n + 3) = 40 by decide +kernel) n h.1 h.2
theorem cs_4_3 {n : Nat} (h : Is n 4) : sp n 3 = n + 3 := by unfold sp; rw [h.2, if_pos (by decide), if_neg (by decide)]; rfl
theorem ch_7_2 {n : Nat} (h : Is n 7) : Is (n + 1) 14 := (show ∀ n, n < NC → kd n = 7 → n + 1 < NC ∧ kd (n + 1) = 14 by decide +kernel) n h.1 h.2
theorem cl_7_2 {n : Nat} (h : Is n 7) : ln (n + 1) = 10 := (show ∀ n, n < NC → kd n = 7 → ln (n + 1) = 10 by decide +kernel) n h.1 h.2
theorem cs_7_2 {n : Nat} (h : Is n 7) : sp n 2 = n + 1 := by unfold sp; rw [h.2, if_pos (by decide), if_neg (by decide)]; rfl
theorem ch_8_1 {n : Nat} (h : Is n 8) : Is (n + 1) 14 := (show ∀ n, n < NC → kd n = 8 → n + 1 < NC ∧ kd (n + 1) = 14 by decide +kernel) n h.1 h.2
theorem cl_8_1 {n : Nat} (h : Is n 8) : ln (n + 1) = 7 := (show ∀ n, n < NC → kd n = 8 → ln (n + 1) = 7 by decide +kernel) n h.1 h.2
theorem cs_8_1 {n : Nat} (h : Is n 8) : sp n 1 = n + 1 := by unfold sp; rw [h.2, if_pos (by decide), if_neg (by decide)]; rfl
theorem ch_8_2 {n : Nat} (h : Is n 8) : Is (n + 2) 14 := (show ∀ n, n < NC → kd n = 8 → n + 2 < NC ∧ kd (n + 2) = 14 by decide +kernel) n h.1 h.2
theorem cl_8_2 {n : Nat} (h : Is n 8) : ln (n + 2) = 42 := (show ∀ n, n < NC → kd n = 8 → ln (n + 2) = 42 by decide +kernel) n h.1 h.2
theorem cs_8_2 {n : Nat} (h : Is n 8) : sp n 2 = n + 2 := by unfold sp; rw [h.2, if_pos (by decide), if_neg (by decide)]; rfl
theorem ch_8_3 {n : Nat} (h : Is n 8) : Is (n + 3) 14 := (show ∀ n, n < NC → kd n = 8 → n + 3 < NC ∧ kd (n + 3) = 14 by decide +kernel) n h.1 h.2
theorem cl_8_3 {n : Nat} (h : Is n 8) : ln (n + 3) = 42 := (show ∀ n, n < NC → kd n = 8 → ln (n + 3) = 42 by decide +kernel) n h.1 h.2
theorem cs_8_3 {n : Nat} (h : Is n 8) : sp n 3 = n + 3 := by unfold sp; rw [h.2, if_pos (by decide), if_neg (by decide)]; rfl
theorem ch_8_4 {n : Nat} (h : Is n 8) : Is (n + 4) 14 := (show ∀ n, n < NC → kd n = 8 → n + 4 < NC ∧ kd (n + 4) = 14 by decide +kernel) n h.1 h.2
theorem cl_8_4 {n : Nat} (h : Is n 8) : ln (n + 4) = 42 := (show ∀ n, n < NC → kd n = 8 → ln (n + 4) = 42 by decide +kernel) n h.1 h.2
theorem cs_8_4 {n : Nat} (h : Is n 8) : sp n 4 = n + 4 := by unfold sp; rw [h.2, if_pos (by decide), if_neg (by decide)]; rfl
theorem ch_9_0 {n : Nat} (h : Is n 9) : Is (n + 1) 13 := (show ∀ n, n < NC → kd n = 9 → n + 1 < NC ∧ kd (n + 1) = 13 by decide +kernel) n h.1 h.2
theorem cl_9_0 {n : Nat} (h : Is n 9) : ln (n + 1) = 600 := (show ∀ n, n < NC → kd n = 9 → ln (n + 1) = 600 by decide +kernel) n h.1 h.2
theorem cs_9_0 {n : Nat} (h : Is n 9) : sp n 0 = n + 1 := by unfold sp; rw [h.2, if_pos (by decide), if_neg (by decide)]; rfl
theorem ch_9_4 {n : Nat} (h : Is n 9) : Is (n + 2) 14 := (show ∀ n, n < NC → kd n = 9 → n + 2 < NC ∧ kd (n + 2) = 14 by decide +kernel) n h.1 h.2
theorem cl_9_4 {n : Nat} (h : Is n 9) : ln (n + 2) = 4 := (show ∀ n, n < NC → kd n = 9 → ln (n + 2) = 4 by decide +kernel) n h.1 h.2
theorem cs_9_4 {n : Nat} (h : Is n 9) : sp n 4 = n + 2 := by unfold sp; rw [h.2, if_pos (by decide), if_neg (by decide)]; rfl
theorem ch_9_5 {n : Nat} (h : Is n 9) : Is (n + 3) 19 := (show ∀ n, n < NC → kd n = 9 → n + 3 < NC ∧ kd (n + 3) = 19 by decide +kernel) n h.1 h.2
theorem cl_9_5 {n : Nat} (h : Is n 9) : ln (n + 3) = 2 := (show ∀ n, n < NC → kd n = 9 → ln (n + 3) = 2 by decide +kernel) n h.1 h.2
theorem cs_9_5 {n : Nat} (h : Is n 9) : sp n 5 = n + 3 := by unfold sp; rw [h.2, if_pos (by decide), if_neg (by decide)]; rfl
theorem ch_9_6 {n : Nat} (h : Is n 9) : Is (n + 4) 20 := (show ∀ n, n < NC → kd n = 9 → n + 4 < NC ∧ kd (n + 4) = 20 by decide +kernel) n h.1 h.2
theorem cl_9_6 {n : Nat} (h : Is n 9) : ln (n + 4) = 2 := (show ∀ n, n < NC → kd n = 9 → ln (n + 4) = 2 by decide +kernel) n h.1 h.2
theorem cs_9_6 {n : Nat} (h : Is n 9) : sp n 6 = n + 4 := by unfold sp; rw [h.2, if_pos (by decide), if_neg (by decide)]; rfl
theorem ch_9_7 {n : Nat} (h : Is n 9) : Is (n + 5) 18 := (show ∀ n, n < NC → kd n = 9 → n + 5 < NC ∧ kd (n + 5) = 18 by decide +kernel) n h.1 h.2
theorem cl_9_7 {n : Nat} (h : Is n 9) : ln (n + 5) = 2 := (show ∀ n, n < NC → kd n = 9 → ln (n + 5) = 2 by decide +kernel) n h.1 h.2
theorem cs_9_7 {n : Nat} (h : Is n 9) : sp n 7 = n + 5 := by unfold sp; rw [h.2, if_pos (by decide), if_neg (by decide)]; rfl
theorem ch_9_8 {n : Nat} (h : Is n 9) : Is (n + 6) 16 := (show ∀ n, n < NC → kd n = 9 → n + 6 < NC ∧ kd (n + 6) = 16 by decide +kernel) n h.1 h.2
theorem cl_9_8 {n : Nat} (h : Is n 9) : ln (n + 6) = 2 := (show ∀ n, n < NC → kd n = 9 → ln (n + 6) = 2 by decide +kernel) n h.1 h.2
theorem cs_9_8 {n : Nat} (h : Is n 9) : sp n 8 = n + 6 := by unfold sp; rw [h.2, if_pos (by decide), if_neg (by decide)]; rfl
theorem ch_10_9 {n : Nat} (h : Is n 10) : Is (n + 1) 14 := (show ∀ n, n < NC → kd n = 10 → n + 1 < NC ∧ kd (n + 1) = 14 by decide +kernel) n h.1 h.2
theorem cl_10_9 {n : Nat} (h : Is n 10) : ln (n + 1) = 10 := (show ∀ n, n < NC → kd n = 10 → ln (n + 1) = 10 by decide +kernel) n h.1 h.2
theorem cs_10_9 {n : Nat} (h : Is n 10) : sp n 9 = n + 1 := by unfold sp; rw [h.2, if_pos (by decide), if_neg (by decide)]; rfl
theorem ch_10_10 {n : Nat} (h : Is n 10) : Is (n + 2) 14 := (show ∀ n, n < NC → kd n = 10 → n + 2 < NC ∧ kd (n + 2) = 14 by decide +kernel) n h.1 h.2
theorem cl_10_10 {n : Nat} (h : Is n 10) : ln (n + 2) = 10 := (show ∀ n, n < NC → kd n = 10 → ln (n + 2) = 10 by decide +kernel) n h.1 h.2
theorem cs_10_10 {n : Nat} (h : Is n 10) : sp n 10 = n + 2 := by unfold sp; rw [h.2, if_pos (by decide), if_neg (by decide)]; rfl
theorem ch_10_11 {n : Nat} (h : Is n 10) : Is (n + 3) 14 := (show ∀ n, n < NC → kd n = 10 → n + 3 < NC ∧ kd (n + 3) = 14 by decide +kernel) n h.1 h.2
theorem cl_10_11 {n : Nat} (h : Is n 10) : ln (n + 3) = 10 := (show ∀ n, n < NC → kd n = 10 → ln (n + 3) = 10 by decide +kernel) n h.1 h.2
theorem cs_10_11 {n : Nat} (h : Is n 10) : sp n 11 = n + 3 := by unfold sp; rw [h.2, if_pos (by decide), if_neg (by decide)]; rfl
theorem es_4 (j : Nat) : sp 4 j = 8 + 14 * j := by unfold sp; rw [is_4.2, if_neg (by decide), if_neg (by decide), if_neg (by decide), if_neg (by decide), if_pos rfl] <;> omega
theorem el_4 {j : Nat} (hj : j < 2) : Is (8 + 14 * j) 7 := (show ∀ j, j < 2 → 8 + 14 * j < NC ∧ kd (8 + 14 * j) = 7 by decide +kernel) j hj
theorem es_5 (j : Nat) : sp 5 j = 10 + 14 * j := by unfold sp; rw [is_5.2, if_neg (by decide), if_neg (by decide), if_neg (by decide), if_neg (by decide), if_neg (by decide), if_pos rfl] <;> omega
theorem el_5 {j : Nat} (hj : j < 2) : Is (10 + 14 * j) 8 := (show ∀ j, j < 2 → 10 + 14 * j < NC ∧ kd (10 + 14 * j) = 8 by decide +kernel) j hj
theorem es_6 (j : Nat) : sp 6 j = 15 + 14 * j := by unfold sp; rw [is_6.2, if_neg (by decide), if_neg (by decide), if_neg (by decide), if_pos rfl] <;> omega
theorem el_6 {j : Nat} (hj : j < 2) : Is (15 + 14 * j) 4 := (show ∀ j, j < 2 → 15 + 14 * j < NC ∧ kd (15 + 14 * j) = 4 by decide +kernel) j hj
theorem es_7 (j : Nat) : sp 7 j = 19 + 14 * j := by unfold sp; rw [is_7.2, if_neg (by decide), if_pos rfl] <;> omega
theorem el_7 {j : Nat} (hj : j < 2) : Is (19 + 14 * j) 1 := (show ∀ j, j < 2 → 19 + 14 * j < NC ∧ kd (19 + 14 * j) = 1 by decide +kernel) j hj
theorem es_9_5 {n : Nat} (h : Is n 9) (j : Nat) : sp (n + 3) j = n + 7 + 14 * j := by unfold sp; rw [(ch_9_5 h).2, if_neg (by decide), if_neg (by decide), if_neg (by decide), if_neg (by decide), if_pos rfl] <;> omega
theorem el_9_5 {n j : Nat} (h : Is n 9) (hj : j < 2) : Is (n + 7 + 14 * j) 7 := (show ∀ n, n < NC → kd n = 9 → ∀ j, j < 2 → n + 7 + 14 * j < NC ∧ kd (n + 7 + 14 * j) = 7 by decide +kernel) n h.1 h.2 j hj
theorem es_9_6 {n : Nat} (h : Is n 9) (j : Nat) : sp (n + 4) j = n + 9 + 14 * j := by unfold sp; rw [(ch_9_6 h).2, if_neg (by decide), if_neg (by decide), if_neg (by decide), if_neg (by decide), if_neg (by decide), if_pos rfl] <;> omega
theorem el_9_6 {n j : Nat} (h : Is n 9) (hj : j < 2) : Is (n + 9 + 14 * j) 8 := (show ∀ n, n < NC → kd n = 9 → ∀ j, j < 2 → n + 9 + 14 * j < NC ∧ kd (n + 9 + 14 * j) = 8 by decide +kernel) n h.1 h.2 j hj
theorem es_9_7 {n : Nat} (h : Is n 9) (j : Nat) : sp (n + 5) j = n + 14 + 14 * j := by unfold sp; rw [(ch_9_7 h).2, if_neg (by decide), if_neg (by decide), if_neg (by decide), if_pos rfl] <;> omega
theorem el_9_7 {n j : Nat} (h : Is n 9) (hj : j < 2) : Is (n + 14 + 14 * j) 4 := (show ∀ n, n < NC → kd n = 9 → ∀ j, j < 2 → n + 14 + 14 * j < NC ∧ kd (n + 14 + 14 * j) = 4 by decide +kernel) n h.1 h.2 j hj
theorem es_9_8 {n : Nat} (h : Is n 9) (j : Nat) : sp (n + 6) j = n + 18 + 14 * j := by unfold sp; rw [(ch_9_8 h).2, if_neg (by decide), if_pos rfl] <;> omega
theorem el_9_8 {n j : Nat} (h : Is n 9) (hj : j < 2) : Is (n + 18 + 14 * j) 1 := (show ∀ n, n < NC → kd n = 9 → ∀ j, j < 2 → n + 18 + 14 * j < NC ∧ kd (n + 18 + 14 * j) = 1 by decide +kernel) n h.1 h.2 j hj
theorem es_36 (j : Nat) : sp 36 j = 37 + 35 * j := by unfold sp; rw [is_36.2, if_neg (by decide), if_neg (by decide), if_neg (by decide), if_neg (by decide), if_neg (by decide), if_neg (by decide), if_pos rfl] <;> omega
theorem el_36 {j : Nat} (hj : j < 3) : Is (37 + 35 * j) 9 := (show ∀ j, j < 3 → 37 + 35 * j < NC ∧ kd (37 + 35 * j) = 9 by decide +kernel) j hj
theorem es_152 (j : Nat) : sp 152 j = 158 + 4 * j := by unfold sp; rw [is_152.2, if_neg (by decide), if_neg (by decide), if_neg (by decide), if_neg (by decide), if_neg (by decide), if_neg (by decide), if_neg (by decide), if_pos rfl] <;> omega
theorem el_152 {j : Nat} (hj : j < 4) : Is (158 + 4 * j) 10 := (show ∀ j, j < 4 → 158 + 4 * j < NC ∧ kd (158 + 4 * j) = 10 by decide +kernel) j hj
theorem es_153 (j : Nat) : sp 153 j = 174 + 2 * j := by unfold sp; rw [is_153.2, if_neg (by decide), if_neg (by decide), if_pos rfl] <;> omega
theorem el_153 {j : Nat} (hj : j < 30) : Is (174 + 2 * j) 2 := (show ∀ j, j < 30 → 174 + 2 * j < NC ∧ kd (174 + 2 * j) = 2 by decide +kernel) j hj
theorem es_236 (j : Nat) : sp 236 j = 237 + 1 * j := by unfold sp; rw [is_236.2, if_neg (by decide), if_neg (by decide), if_neg (by decide), if_neg (by decide), if_neg (by decide), if_neg (by decide), if_neg (by decide), if_neg (by decide)] <;> omega
theorem el_236 {j : Nat} (hj : j < 7) : Is (237 + 1 * j) 14 := (show ∀ j, j < 7 → 237 + 1 * j < NC ∧ kd (237 + 1 * j) = 14 by decide +kernel) j hj
theorem ell_236 {j : Nat} (hj : j < 7) : ln (237 + 1 * j) = 10 := (show ∀ j, j < 7 → ln (237 + 1 * j) = 10 by decide +kernel) j hj
theorem es_248 (j : Nat) : sp 248 j = 249 + 1 * j := by unfold sp; rw [is_248.2, if_neg (by decide), if_neg (by decide), if_neg (by decide), if_neg (by decide), if_neg (by decide), if_neg (by decide), if_neg (by decide), if_neg (by decide)] <;> omega
theorem el_248 {j : Nat} (hj : j < 16) : Is (249 + 1 * j) 14 := (show ∀ j, j < 16 → 249 + 1 * j < NC ∧ kd (249 + 1 * j) = 14 by decide +kernel) j hj
theorem ell_248 {j : Nat} (hj : j < 16) : ln (249 + 1 * j) = 10 := (show ∀ j, j < 16 → ln (249 + 1 * j) = 10 by decide +kernel) j hj
theorem mm_X11_342 : MM RX11 342 Lib.Math.min.name Lib.Math.min.code := ⟨gw_of 1205 (by decide +kernel) (by decide +kernel), gw_of 690 (by decide +kernel) (by decide +kernel), gw_of 154 (by decide +kernel) (by decide +kernel), gw_of 691 (by decide +kernel) (by decide +kernel)⟩
theorem mc_X11_347 : MC RX11 347 := ⟨gw_of 891 (by decide +kernel) (by decide +kernel), gw_of 893 (by decide +kernel) (by decide +kernel), gw_of 892 (by decide +kernel) (by decide +kernel), gw_of 159 (by decide +kernel) (by decide +kernel)⟩
theorem mc_X0_102 : MC RX0 102 := ⟨gw_of 1074 (by decide +kernel) (by decide +kernel), gw_of 893 (by decide +kernel) (by decide +kernel), gw_of 892 (by decide +kernel) (by decide +kernel), gw_of 159 (by decide +kernel) (by decide +kernel)⟩
theorem mc_X1_22 : MC RX1 22 := ⟨gw_of 1258 (by decide +kernel) (by decide +kernel), gw_of 893 (by decide +kernel) (by decide +kernel), gw_of 892 (by decide +kernel) (by decide +kernel), gw_of 159 (by decide +kernel) (by decide +kernel)⟩
theorem mm_X3_180 : MM RX3 180 Lib.Math.min.name Lib.Math.min.code := ⟨gw_of 931 (by decide +kernel) (by decide +kernel), gw_of 690 (by decide +kernel) (by decide +kernel), gw_of 154 (by decide +kernel) (by decide +kernel), gw_of 691 (by decide +kernel) (by decide +kernel)⟩
theorem mm_X3_220 : MM RX3 220 Lib.Math.max.name Lib.Math.max.code := ⟨gw_of 970 (by decide +kernel) (by decide +kernel), gw_of 971 (by decide +kernel) (by decide +kernel), gw_of 154 (by decide +kernel) (by decide +kernel), gw_of 972 (by decide +kernel) (by decide +kernel)⟩
theorem mc_X4_25 : MC RX4 25 := ⟨gw_of 1253 (by decide +kernel) (by decide +kernel), gw_of 893 (by decide +kernel) (by decide +kernel), gw_of 892 (by decide +kernel) (by decide +kernel), gw_of 159 (by decide +kernel) (by decide +kernel)⟩
theorem mm_X5_69 : MM RX5 69 Lib.Math.min.name Lib.Math.min.code := ⟨gw_of 689 (by decide +kernel) (by decide +kernel), gw_of 690 (by decide +kernel) (by decide +kernel), gw_of 154 (by decide +kernel) (by decide +kernel), gw_of 691 (by decide +kernel) (by decide +kernel)⟩
theorem mm_X6_46 : MM RX6 46 Lib.Math.max.name Lib.Math.max.code := ⟨gw_of 1114 (by decide +kernel) (by decide +kernel), gw_of 971 (by decide +kernel) (by decide +kernel), gw_of 154 (by decide +kernel) (by decide +kernel), gw_of 972 (by decide +kernel) (by decide +kernel)⟩
theorem mc_X8_28 : MC RX8 28 := ⟨gw_of 1248 (by decide +kernel) (by decide +kernel), gw_of 893 (by decide +kernel) (by decide +kernel), gw_of 892 (by decide +kernel) (by decide +kernel), gw_of 159 (by decide +kernel) (by decide +kernel)⟩
theorem mm_X8_45 : MM RX8 45 Lib.Math.max.name Lib.Math.max.code := ⟨gw_of 1084 (by decide +kernel) (by decide +kernel), gw_of 971 (by decide +kernel) (by decide +kernel), gw_of 154 (by decide +kernel) (by decide +kernel), gw_of 972 (by decide +kernel) (by decide +kernel)⟩
theorem mc_X9_75 : MC RX9 75 := ⟨gw_of 1238 (by decide +kernel) (by decide +kernel), gw_of 893 (by decide +kernel) (by decide +kernel), gw_of 892 (by decide +kernel) (by decide +kernel), gw_of 159 (by decide +kernel) (by decide +kernel)⟩
