theorem la_row {l : Launch} {G : Gx} {b L : Nat} {xs : Nat → Int32} {i : Nat} {mm : Mm} (hi : i + 6 ≤ L) (hL : L ≤ 384) (hI : Iv mm) (kend : ∀ m', Iv m' → PW G (KL l G b L xs) 1132 (lvL G b i) [] m') : PW G (KL l G b L xs) 176 (lvL G b i) [] mm := by
  obtain ⟨r, m1, m2, e1, e2, hI2⟩ := hI.step (sp_row (xs (i + 1)) (xs (i + 2)) (xs (i + 3)))
  refine pw_aload_n (i := 1) 2 rfl rfl 177 dL_law_176 rfl ?_
  refine pl_arg (i := i) 1 182 dL_law_177 dL_law_178 dL_law_179 rfl dL_law_180 dL_law_181 rfl (by omega) hL ?_
  refine pl_arg (i := i) 2 187 dL_law_182 dL_law_183 dL_law_184 rfl dL_law_185 dL_law_186 rfl (by omega) hL ?_
  refine pl_arg (i := i) 3 192 dL_law_187 dL_law_188 dL_law_189 rfl dL_law_190 dL_law_191 rfl (by omega) hL ?_
  refine pw_callVi 195 dL_law_192 rfl [.int (xs (i + 1)), .int (xs (i + 2)), .int (xs (i + 3))] 3 ⟨gL_law_X6_row, rfl, sgV_X6_row, ⟨Nat.le_of_ble_eq_true rfl, Nat.le_of_ble_eq_true rfl⟩, ⟨Nat.le_of_ble_eq_true rfl, Nat.le_of_ble_eq_true rfl⟩⟩ ly_0 (by decide) la_0 rfl (k_X6_row e1) rfl rfl (Nat.le_of_ble_eq_true rfl) ?_
  refine pw_aload_n (i := 2) 1 rfl rfl 196 dL_law_195 rfl ?_
  refine pl_arg (i := i) 1 201 dL_law_196 dL_law_197 dL_law_198 rfl dL_law_199 dL_law_200 rfl (by omega) hL ?_
  refine pl_arg (i := i) 2 206 dL_law_201 dL_law_202 dL_law_203 rfl dL_law_204 dL_law_205 rfl (by omega) hL ?_
  refine pl_arg (i := i) 3 211 dL_law_206 dL_law_207 dL_law_208 rfl dL_law_209 dL_law_210 rfl (by omega) hL ?_
  refine pw_callVi 214 dL_law_211 rfl [.int (xs (i + 1)), .int (xs (i + 2)), .int (xs (i + 3))] 3 ⟨gL_law_X7_row, rfl, sgV_X7_row, ⟨Nat.le_of_ble_eq_true rfl, Nat.le_of_ble_eq_true rfl⟩, ⟨Nat.le_of_ble_eq_true rfl, Nat.le_of_ble_eq_true rfl⟩⟩ ly_298 (by decide) la_298 rfl (k_X7_row e2) rfl rfl (Nat.le_of_ble_eq_true rfl) ?_
  exact pw_icmp_eq 1132 217 dL_law_214 (by decide) rfl (fun _ => kend _ hI2) (fun h => absurd rfl h)
theorem la_set {l : Launch} {G : Gx} {b L : Nat} {xs : Nat → Int32} {i : Nat} {mm : Mm} (hi : i + 6 ≤ L) (hL : L ≤ 384) (hI : Iv mm) (kend : ∀ m', Iv m' → PW G (KL l G b L xs) 1132 (lvL G b i) [] m') : PW G (KL l G b L xs) 219 (lvL G b i) [] mm := by
  obtain ⟨r, m1, m2, e1, e2, hI2⟩ := hI.step (sp_set (xs (i + 1)) (xs (i + 2)) (xs (i + 3)))
  refine pw_aload_n (i := 1) 2 rfl rfl 220 dL_law_219 rfl ?_
  refine pl_arg (i := i) 1 225 dL_law_220 dL_law_221 dL_law_222 rfl dL_law_223 dL_law_224 rfl (by omega) hL ?_
  refine pl_arg (i := i) 2 230 dL_law_225 dL_law_226 dL_law_227 rfl dL_law_228 dL_law_229 rfl (by omega) hL ?_
  refine pl_arg (i := i) 3 235 dL_law_230 dL_law_231 dL_law_232 rfl dL_law_233 dL_law_234 rfl (by omega) hL ?_
  refine pw_callVi 238 dL_law_235 rfl [.int (xs (i + 1)), .int (xs (i + 2)), .int (xs (i + 3))] 3 ⟨gL_law_X6_set, rfl, sgV_X6_set, ⟨Nat.le_of_ble_eq_true rfl, Nat.le_of_ble_eq_true rfl⟩, ⟨Nat.le_of_ble_eq_true rfl, Nat.le_of_ble_eq_true rfl⟩⟩ ly_0 (by decide) la_0 rfl (k_X6_set e1) rfl rfl (Nat.le_of_ble_eq_true rfl) ?_
  refine pw_aload_n (i := 2) 1 rfl rfl 239 dL_law_238 rfl ?_
  refine pl_arg (i := i) 1 244 dL_law_239 dL_law_240 dL_law_241 rfl dL_law_242 dL_law_243 rfl (by omega) hL ?_
  refine pl_arg (i := i) 2 249 dL_law_244 dL_law_245 dL_law_246 rfl dL_law_247 dL_law_248 rfl (by omega) hL ?_
  refine pl_arg (i := i) 3 254 dL_law_249 dL_law_250 dL_law_251 rfl dL_law_252 dL_law_253 rfl (by omega) hL ?_
  refine pw_callVi 257 dL_law_254 rfl [.int (xs (i + 1)), .int (xs (i + 2)), .int (xs (i + 3))] 3 ⟨gL_law_X7_set, rfl, sgV_X7_set, ⟨Nat.le_of_ble_eq_true rfl, Nat.le_of_ble_eq_true rfl⟩, ⟨Nat.le_of_ble_eq_true rfl, Nat.le_of_ble_eq_true rfl⟩⟩ ly_298 (by decide) la_298 rfl (k_X7_set e2) rfl rfl (Nat.le_of_ble_eq_true rfl) ?_
  exact pw_icmp_eq 1132 260 dL_law_257 (by decide) rfl (fun _ => kend _ hI2) (fun h => absurd rfl h)
theorem la_copy {l : Launch} {G : Gx} {b L : Nat} {xs : Nat → Int32} {i : Nat} {mm : Mm} (hi : i + 6 ≤ L) (hL : L ≤ 384) (hI : Iv mm) (kend : ∀ m', Iv m' → PW G (KL l G b L xs) 1132 (lvL G b i) [] m') : PW G (KL l G b L xs) 262 (lvL G b i) [] mm := by
  obtain ⟨r, m1, m2, e1, e2, hI2⟩ := hI.step (sp_copy (xs (i + 1)) (xs (i + 2)) (xs (i + 3)) (xs (i + 4)) (xs (i + 5)))
  refine pw_aload_n (i := 1) 2 rfl rfl 263 dL_law_262 rfl ?_
  refine pl_arg (i := i) 1 268 dL_law_263 dL_law_264 dL_law_265 rfl dL_law_266 dL_law_267 rfl (by omega) hL ?_
  refine pl_arg (i := i) 2 273 dL_law_268 dL_law_269 dL_law_270 rfl dL_law_271 dL_law_272 rfl (by omega) hL ?_
  refine pl_arg (i := i) 3 278 dL_law_273 dL_law_274 dL_law_275 rfl dL_law_276 dL_law_277 rfl (by omega) hL ?_
  refine pl_arg (i := i) 4 283 dL_law_278 dL_law_279 dL_law_280 rfl dL_law_281 dL_law_282 rfl (by omega) hL ?_
  refine pl_arg (i := i) 5 288 dL_law_283 dL_law_284 dL_law_285 rfl dL_law_286 dL_law_287 rfl (by omega) hL ?_
  refine pw_callVi 291 dL_law_288 rfl [.int (xs (i + 1)), .int (xs (i + 2)), .int (xs (i + 3)), .int (xs (i + 4)), .int (xs (i + 5))] 5 ⟨gL_law_X6_copy, rfl, sgV_X6_copy, ⟨Nat.le_of_ble_eq_true rfl, Nat.le_of_ble_eq_true rfl⟩, ⟨Nat.le_of_ble_eq_true rfl, Nat.le_of_ble_eq_true rfl⟩⟩ ly_0 (by decide) la_0 rfl (k_X6_copy e1) rfl rfl (Nat.le_of_ble_eq_true rfl) ?_
  refine pw_aload_n (i := 2) 1 rfl rfl 292 dL_law_291 rfl ?_
  refine pl_arg (i := i) 1 297 dL_law_292 dL_law_293 dL_law_294 rfl dL_law_295 dL_law_296 rfl (by omega) hL ?_
  refine pl_arg (i := i) 2 302 dL_law_297 dL_law_298 dL_law_299 rfl dL_law_300 dL_law_301 rfl (by omega) hL ?_
  refine pl_arg (i := i) 3 307 dL_law_302 dL_law_303 dL_law_304 rfl dL_law_305 dL_law_306 rfl (by omega) hL ?_
  refine pl_arg (i := i) 4 312 dL_law_307 dL_law_308 dL_law_309 rfl dL_law_310 dL_law_311 rfl (by omega) hL ?_
  refine pl_arg (i := i) 5 317 dL_law_312 dL_law_313 dL_law_314 rfl dL_law_315 dL_law_316 rfl (by omega) hL ?_
  refine pw_callVi 320 dL_law_317 rfl [.int (xs (i + 1)), .int (xs (i + 2)), .int (xs (i + 3)), .int (xs (i + 4)), .int (xs (i + 5))] 5 ⟨gL_law_X7_copy, rfl, sgV_X7_copy, ⟨Nat.le_of_ble_eq_true rfl, Nat.le_of_ble_eq_true rfl⟩, ⟨Nat.le_of_ble_eq_true rfl, Nat.le_of_ble_eq_true rfl⟩⟩ ly_298 (by decide) la_298 rfl (k_X7_copy e2) rfl rfl (Nat.le_of_ble_eq_true rfl) ?_
  exact pw_icmp_eq 1132 323 dL_law_320 (by decide) rfl (fun _ => kend _ hI2) (fun h => absurd rfl h)
theorem la_drop {l : Launch} {G : Gx} {b L : Nat} {xs : Nat → Int32} {i : Nat} {mm : Mm} (hi : i + 6 ≤ L) (hL : L ≤ 384) (hI : Iv mm) (kend : ∀ m', Iv m' → PW G (KL l G b L xs) 1132 (lvL G b i) [] m') : PW G (KL l G b L xs) 325 (lvL G b i) [] mm := by
  obtain ⟨r, m1, m2, e1, e2, hI2⟩ := hI.step (sp_drop (xs (i + 1)))
  refine pw_aload_n (i := 1) 2 rfl rfl 326 dL_law_325 rfl ?_
  refine pl_arg (i := i) 1 331 dL_law_326 dL_law_327 dL_law_328 rfl dL_law_329 dL_law_330 rfl (by omega) hL ?_
  refine pw_callVi 334 dL_law_331 rfl [.int (xs (i + 1))] 1 ⟨gL_law_X6_drop, rfl, sgV_X6_drop, ⟨Nat.le_of_ble_eq_true rfl, Nat.le_of_ble_eq_true rfl⟩, ⟨Nat.le_of_ble_eq_true rfl, Nat.le_of_ble_eq_true rfl⟩⟩ ly_0 (by decide) la_0 rfl (k_X6_drop e1) rfl rfl (Nat.le_of_ble_eq_true rfl) ?_
  refine pw_aload_n (i := 2) 1 rfl rfl 335 dL_law_334 rfl ?_
  refine pl_arg (i := i) 1 340 dL_law_335 dL_law_336 dL_law_337 rfl dL_law_338 dL_law_339 rfl (by omega) hL ?_
  refine pw_callVi 343 dL_law_340 rfl [.int (xs (i + 1))] 1 ⟨gL_law_X7_drop, rfl, sgV_X7_drop, ⟨Nat.le_of_ble_eq_true rfl, Nat.le_of_ble_eq_true rfl⟩, ⟨Nat.le_of_ble_eq_true rfl, Nat.le_of_ble_eq_true rfl⟩⟩ ly_298 (by decide) la_298 rfl (k_X7_drop e2) rfl rfl (Nat.le_of_ble_eq_true rfl) ?_
  exact pw_icmp_eq 1132 346 dL_law_343 (by decide) rfl (fun _ => kend _ hI2) (fun h => absurd rfl h)
theorem la_feed {l : Launch} {G : Gx} {b L : Nat} {xs : Nat → Int32} {i : Nat} {mm : Mm} (hi : i + 6 ≤ L) (hL : L ≤ 384) (hI : Iv mm) (kend : ∀ m', Iv m' → PW G (KL l G b L xs) 1132 (lvL G b i) [] m') : PW G (KL l G b L xs) 348 (lvL G b i) [] mm := by
  obtain ⟨r, m1, m2, e1, e2, hI2⟩ := hI.step (sp_feed (xs (i + 1)))
  refine pw_aload_n (i := 1) 2 rfl rfl 349 dL_law_348 rfl ?_
  refine pl_arg (i := i) 1 354 dL_law_349 dL_law_350 dL_law_351 rfl dL_law_352 dL_law_353 rfl (by omega) hL ?_
  refine pw_callVi 357 dL_law_354 rfl [.int (xs (i + 1))] 1 ⟨gL_law_X6_feed, rfl, sgV_X6_feed, ⟨Nat.le_of_ble_eq_true rfl, Nat.le_of_ble_eq_true rfl⟩, ⟨Nat.le_of_ble_eq_true rfl, Nat.le_of_ble_eq_true rfl⟩⟩ ly_0 (by decide) la_0 rfl (k_X6_feed e1) rfl rfl (Nat.le_of_ble_eq_true rfl) ?_
  refine pw_aload_n (i := 2) 1 rfl rfl 358 dL_law_357 rfl ?_
  refine pl_arg (i := i) 1 363 dL_law_358 dL_law_359 dL_law_360 rfl dL_law_361 dL_law_362 rfl (by omega) hL ?_
  refine pw_callVi 366 dL_law_363 rfl [.int (xs (i + 1))] 1 ⟨gL_law_X7_feed, rfl, sgV_X7_feed, ⟨Nat.le_of_ble_eq_true rfl, Nat.le_of_ble_eq_true rfl⟩, ⟨Nat.le_of_ble_eq_true rfl, Nat.le_of_ble_eq_true rfl⟩⟩ ly_298 (by decide) la_298 rfl (k_X7_feed e2) rfl rfl (Nat.le_of_ble_eq_true rfl) ?_
  exact pw_icmp_eq 1132 369 dL_law_366 (by decide) rfl (fun _ => kend _ hI2) (fun h => absurd rfl h)
theorem la_wedding {l : Launch} {G : Gx} {b L : Nat} {xs : Nat → Int32} {i : Nat} {mm : Mm} (hi : i + 6 ≤ L) (hL : L ≤ 384) (hI : Iv mm) (kend : ∀ m', Iv m' → PW G (KL l G b L xs) 1132 (lvL G b i) [] m') : PW G (KL l G b L xs) 371 (lvL G b i) [] mm := by
  obtain ⟨r, m1, m2, e1, e2, hI2⟩ := hI.step sp_wedding
  refine pw_aload_n (i := 1) 2 rfl rfl 372 dL_law_371 rfl ?_
  refine pw_callVi 375 dL_law_372 rfl [] 0 ⟨gL_law_X6_wedding, rfl, sgV_X6_wedding, ⟨Nat.le_of_ble_eq_true rfl, Nat.le_of_ble_eq_true rfl⟩, ⟨Nat.le_of_ble_eq_true rfl, Nat.le_of_ble_eq_true rfl⟩⟩ ly_0 (by decide) la_0 rfl (k_X6_wedding e1) rfl rfl (Nat.le_of_ble_eq_true rfl) ?_
  refine pw_aload_n (i := 2) 1 rfl rfl 376 dL_law_375 rfl ?_
  refine pw_callVi 379 dL_law_376 rfl [] 0 ⟨gL_law_X7_wedding, rfl, sgV_X7_wedding, ⟨Nat.le_of_ble_eq_true rfl, Nat.le_of_ble_eq_true rfl⟩, ⟨Nat.le_of_ble_eq_true rfl, Nat.le_of_ble_eq_true rfl⟩⟩ ly_298 (by decide) la_298 rfl (k_X7_wedding e2) rfl rfl (Nat.le_of_ble_eq_true rfl) ?_
  exact pw_icmp_eq 1132 382 dL_law_379 (by decide) rfl (fun _ => kend _ hI2) (fun h => absurd rfl h)
theorem la_fault {l : Launch} {G : Gx} {b L : Nat} {xs : Nat → Int32} {i : Nat} {mm : Mm} (hi : i + 6 ≤ L) (hL : L ≤ 384) (hI : Iv mm) (kend : ∀ m', Iv m' → PW G (KL l G b L xs) 1132 (lvL G b i) [] m') : PW G (KL l G b L xs) 384 (lvL G b i) [] mm := by
  have e1 := hI.stepP sp_fault
  have e2 : f_X7_fault mm = f_X7_fault mm := rfl
  have hI2 := hI
  refine pw_aload_n (i := 1) 2 rfl rfl 385 dL_law_384 rfl ?_
  refine pw_callVi 388 dL_law_385 rfl [] 0 ⟨gL_law_X6_fault, rfl, sgV_X6_fault, ⟨Nat.le_of_ble_eq_true rfl, Nat.le_of_ble_eq_true rfl⟩, ⟨Nat.le_of_ble_eq_true rfl, Nat.le_of_ble_eq_true rfl⟩⟩ ly_0 (by decide) la_0 rfl (k_X6_fault e1) rfl rfl (Nat.le_of_ble_eq_true rfl) ?_
  refine pw_aload_n (i := 2) 1 rfl rfl 389 dL_law_388 rfl ?_
  refine pw_callVi 392 dL_law_389 rfl [] 0 ⟨gL_law_X7_fault, rfl, sgV_X7_fault, ⟨Nat.le_of_ble_eq_true rfl, Nat.le_of_ble_eq_true rfl⟩, ⟨Nat.le_of_ble_eq_true rfl, Nat.le_of_ble_eq_true rfl⟩⟩ ly_298 (by decide) la_298 rfl (k_X7_fault e2) rfl rfl (Nat.le_of_ble_eq_true rfl) ?_
  exact pw_icmp_eq 1132 395 dL_law_392 (by decide) rfl (fun _ => kend _ hI2) (fun h => absurd rfl h)
theorem la_minutes {l : Launch} {G : Gx} {b L : Nat} {xs : Nat → Int32} {i : Nat} {mm : Mm} (hi : i + 6 ≤ L) (hL : L ≤ 384) (hI : Iv mm) (kend : ∀ m', Iv m' → PW G (KL l G b L xs) 1132 (lvL G b i) [] m') : PW G (KL l G b L xs) 397 (lvL G b i) [] mm := by
  obtain ⟨r, m1, m2, e1, e2, hI2⟩ := hI.step (sp_minutes (xs (i + 1)))
  refine pw_aload_n (i := 1) 2 rfl rfl 398 dL_law_397 rfl ?_
  refine pl_arg (i := i) 1 403 dL_law_398 dL_law_399 dL_law_400 rfl dL_law_401 dL_law_402 rfl (by omega) hL ?_
  refine pw_callVi 406 dL_law_403 rfl [.int (xs (i + 1))] 1 ⟨gL_law_X6_minutes, rfl, sgV_X6_minutes, ⟨Nat.le_of_ble_eq_true rfl, Nat.le_of_ble_eq_true rfl⟩, ⟨Nat.le_of_ble_eq_true rfl, Nat.le_of_ble_eq_true rfl⟩⟩ ly_0 (by decide) la_0 rfl (k_X6_minutes e1) rfl rfl (Nat.le_of_ble_eq_true rfl) ?_
  refine pw_aload_n (i := 2) 1 rfl rfl 407 dL_law_406 rfl ?_
  refine pl_arg (i := i) 1 412 dL_law_407 dL_law_408 dL_law_409 rfl dL_law_410 dL_law_411 rfl (by omega) hL ?_
  refine pw_callVi 415 dL_law_412 rfl [.int (xs (i + 1))] 1 ⟨gL_law_X7_minutes, rfl, sgV_X7_minutes, ⟨Nat.le_of_ble_eq_true rfl, Nat.le_of_ble_eq_true rfl⟩, ⟨Nat.le_of_ble_eq_true rfl, Nat.le_of_ble_eq_true rfl⟩⟩ ly_298 (by decide) la_298 rfl (k_X7_minutes e2) rfl rfl (Nat.le_of_ble_eq_true rfl) ?_
  exact pw_icmp_eq 1132 418 dL_law_415 (by decide) rfl (fun _ => kend _ hI2) (fun h => absurd rfl h)
