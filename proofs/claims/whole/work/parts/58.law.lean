/-! ===== the law's cases (written by wip/whole/mklaw.py) ===== -/
section LV
variable {G : mG} {p : Program} {e : Env} {R : Room} {s : State} {m : MethodId} {args : Array Value} {below : List Frame} {meth : Method} {c : Code} {Q : State → Prop} {Lx : Nat} {xs : Nat → Int32} {cells slots i : Nat} {b : Bool} {g pp : mI}
theorem law_0 (C : LC G p R s m args c Lx xs) (hL : Lx ≤ 3584) (hi : i + 7 ≤ Lx) (hcs : cells ≤ R.cells ∧ slots ≤ R.slots) (hS : St pp g b) (kk : ∀ (g2 p2 : mI) (b2 : Bool), St p2 g2 b2 → ML G p e R s m args below meth c Q cells slots 1166 [.ref 1000000, .ref 0, .ref 64, .int (nI i)] [] (m_h g2 b2)) : ML G p e R s m args below meth c Q cells slots 160 [.ref 1000000, .ref 0, .ref 64, .int (nI i)] [] (m_h g b) := by
  obtain ⟨v, g1, g2, p2, e1, e2, h2⟩ := s_table hS
  refine l_aload_n C dL_law_160 rfl rfl ?_
  refine l_callV (As := []) (rest := []) C (c_X6_table e1) dL_law_161 lkL_13 (ci := 6) rfl rfl rfl rfl (Nat.le_of_ble_eq_true rfl) (by decide) hcs ?_
  refine l_aload_n C dL_law_164 rfl rfl ?_
  refine l_callV (As := []) (rest := [.int v]) C (c_X7_table e2) dL_law_165 lkL_17 (ci := 7) rfl rfl rfl rfl (Nat.le_of_ble_eq_true rfl) (by decide) hcs ?_
  exact l_icmp_eq (st := []) C dL_law_168 (by decide) (fun _ => kk g2 p2 b h2) (fun q => absurd rfl q)
theorem law_1 (C : LC G p R s m args c Lx xs) (hL : Lx ≤ 3584) (hi : i + 7 ≤ Lx) (hcs : cells ≤ R.cells ∧ slots ≤ R.slots) (hS : St pp g b) (kk : ∀ (g2 p2 : mI) (b2 : Bool), St p2 g2 b2 → ML G p e R s m args below meth c Q cells slots 1166 [.ref 1000000, .ref 0, .ref 64, .int (nI i)] [] (m_h g2 b2)) : ML G p e R s m args below meth c Q cells slots 173 [.ref 1000000, .ref 0, .ref 64, .int (nI i)] [] (m_h g b) := by
  obtain ⟨v, g1, g2, p2, e1, e2, h2⟩ := s_column hS (xs (i + 1)) (xs (i + 2)) (xs (i + 3))
  refine l_aload_n C dL_law_173 rfl rfl ?_
  refine l_arg (k := 1) C hL hi (by decide) dL_law_174 rfl dL_law_175 rfl dL_law_176 (by decide) dL_law_177 dL_law_178 ?_
  refine l_arg (k := 2) C hL hi (by decide) dL_law_179 rfl dL_law_180 rfl dL_law_181 (by decide) dL_law_182 dL_law_183 ?_
  refine l_arg (k := 3) C hL hi (by decide) dL_law_184 rfl dL_law_185 rfl dL_law_186 (by decide) dL_law_187 dL_law_188 ?_
  refine l_callV (As := [.int (xs (i + 1)), .int (xs (i + 2)), .int (xs (i + 3))]) (rest := []) C (c_X6_column e1) dL_law_189 lkL_18 (ci := 6) rfl rfl rfl rfl (Nat.le_of_ble_eq_true rfl) (by decide) hcs ?_
  refine l_aload_n C dL_law_192 rfl rfl ?_
  refine l_arg (k := 1) C hL hi (by decide) dL_law_193 rfl dL_law_194 rfl dL_law_195 (by decide) dL_law_196 dL_law_197 ?_
  refine l_arg (k := 2) C hL hi (by decide) dL_law_198 rfl dL_law_199 rfl dL_law_200 (by decide) dL_law_201 dL_law_202 ?_
  refine l_arg (k := 3) C hL hi (by decide) dL_law_203 rfl dL_law_204 rfl dL_law_205 (by decide) dL_law_206 dL_law_207 ?_
  refine l_callV (As := [.int (xs (i + 1)), .int (xs (i + 2)), .int (xs (i + 3))]) (rest := [.int v]) C (c_X7_column e2) dL_law_208 lkL_22 (ci := 7) rfl rfl rfl rfl (Nat.le_of_ble_eq_true rfl) (by decide) hcs ?_
  exact l_icmp_eq (st := []) C dL_law_211 (by decide) (fun _ => kk g2 p2 b h2) (fun q => absurd rfl q)
theorem law_2 (C : LC G p R s m args c Lx xs) (hL : Lx ≤ 3584) (hi : i + 7 ≤ Lx) (hcs : cells ≤ R.cells ∧ slots ≤ R.slots) (hS : St pp g b) (kk : ∀ (g2 p2 : mI) (b2 : Bool), St p2 g2 b2 → ML G p e R s m args below meth c Q cells slots 1166 [.ref 1000000, .ref 0, .ref 64, .int (nI i)] [] (m_h g2 b2)) : ML G p e R s m args below meth c Q cells slots 216 [.ref 1000000, .ref 0, .ref 64, .int (nI i)] [] (m_h g b) := by
  obtain ⟨v, g1, g2, p2, e1, e2, h2⟩ := s_cell hS (xs (i + 1))
  refine l_aload_n C dL_law_216 rfl rfl ?_
  refine l_arg (k := 1) C hL hi (by decide) dL_law_217 rfl dL_law_218 rfl dL_law_219 (by decide) dL_law_220 dL_law_221 ?_
  refine l_callV (As := [.int (xs (i + 1))]) (rest := []) C (c_X6_cell e1) dL_law_222 lkL_23 (ci := 6) rfl rfl rfl rfl (Nat.le_of_ble_eq_true rfl) (by decide) hcs ?_
  refine l_aload_n C dL_law_225 rfl rfl ?_
  refine l_arg (k := 1) C hL hi (by decide) dL_law_226 rfl dL_law_227 rfl dL_law_228 (by decide) dL_law_229 dL_law_230 ?_
  refine l_callV (As := [.int (xs (i + 1))]) (rest := [.int v]) C (c_X7_cell_ e2) dL_law_231 lkL_27 (ci := 7) rfl rfl rfl rfl (Nat.le_of_ble_eq_true rfl) (by decide) hcs ?_
  exact l_icmp_eq (st := []) C dL_law_234 (by decide) (fun _ => kk g2 p2 b h2) (fun q => absurd rfl q)
theorem law_3 (C : LC G p R s m args c Lx xs) (hL : Lx ≤ 3584) (hi : i + 7 ≤ Lx) (hcs : cells ≤ R.cells ∧ slots ≤ R.slots) (hS : St pp g b) (kk : ∀ (g2 p2 : mI) (b2 : Bool), St p2 g2 b2 → ML G p e R s m args below meth c Q cells slots 1166 [.ref 1000000, .ref 0, .ref 64, .int (nI i)] [] (m_h g2 b2)) : ML G p e R s m args below meth c Q cells slots 239 [.ref 1000000, .ref 0, .ref 64, .int (nI i)] [] (m_h g b) := by
  obtain ⟨v, g1, g2, p2, e1, e2, h2⟩ := s_row hS (xs (i + 1))
  refine l_aload_n C dL_law_239 rfl rfl ?_
  refine l_arg (k := 1) C hL hi (by decide) dL_law_240 rfl dL_law_241 rfl dL_law_242 (by decide) dL_law_243 dL_law_244 ?_
  refine l_callV (As := [.int (xs (i + 1))]) (rest := []) C (c_X6_row e1) dL_law_245 lkL_28 (ci := 6) rfl rfl rfl rfl (Nat.le_of_ble_eq_true rfl) (by decide) hcs ?_
  refine l_aload_n C dL_law_248 rfl rfl ?_
  refine l_arg (k := 1) C hL hi (by decide) dL_law_249 rfl dL_law_250 rfl dL_law_251 (by decide) dL_law_252 dL_law_253 ?_
  refine l_callV (As := [.int (xs (i + 1))]) (rest := [.int v]) C (c_X7_row e2) dL_law_254 lkL_31 (ci := 7) rfl rfl rfl rfl (Nat.le_of_ble_eq_true rfl) (by decide) hcs ?_
  exact l_icmp_eq (st := []) C dL_law_257 (by decide) (fun _ => kk g2 p2 b h2) (fun q => absurd rfl q)
theorem law_4 (C : LC G p R s m args c Lx xs) (hL : Lx ≤ 3584) (hi : i + 7 ≤ Lx) (hcs : cells ≤ R.cells ∧ slots ≤ R.slots) (hS : St pp g b) (kk : ∀ (g2 p2 : mI) (b2 : Bool), St p2 g2 b2 → ML G p e R s m args below meth c Q cells slots 1166 [.ref 1000000, .ref 0, .ref 64, .int (nI i)] [] (m_h g2 b2)) : ML G p e R s m args below meth c Q cells slots 262 [.ref 1000000, .ref 0, .ref 64, .int (nI i)] [] (m_h g b) := by
  obtain ⟨v, g1, g2, p2, e1, e2, h2⟩ := s_wipe hS
  refine l_aload_n C dL_law_262 rfl rfl ?_
  refine l_callV (As := []) (rest := []) C (c_X6_wipe e1) dL_law_263 lkL_32 (ci := 6) rfl rfl rfl rfl (Nat.le_of_ble_eq_true rfl) (by decide) hcs ?_
  refine l_aload_n C dL_law_266 rfl rfl ?_
  refine l_callV (As := []) (rest := [.int v]) C (c_X7_wipe e2) dL_law_267 lkL_35 (ci := 7) rfl rfl rfl rfl (Nat.le_of_ble_eq_true rfl) (by decide) hcs ?_
  exact l_icmp_eq (st := []) C dL_law_270 (by decide) (fun _ => kk g2 p2 b h2) (fun q => absurd rfl q)
theorem law_5 (C : LC G p R s m args c Lx xs) (hL : Lx ≤ 3584) (hi : i + 7 ≤ Lx) (hcs : cells ≤ R.cells ∧ slots ≤ R.slots) (hS : St pp g b) (kk : ∀ (g2 p2 : mI) (b2 : Bool), St p2 g2 b2 → ML G p e R s m args below meth c Q cells slots 1166 [.ref 1000000, .ref 0, .ref 64, .int (nI i)] [] (m_h g2 b2)) : ML G p e R s m args below meth c Q cells slots 275 [.ref 1000000, .ref 0, .ref 64, .int (nI i)] [] (m_h g b) := by
  obtain ⟨v, g1, g2, p2, e1, e2, h2⟩ := s_owner hS (xs (i + 1)) (xs (i + 2))
  refine l_aload_n C dL_law_275 rfl rfl ?_
  refine l_arg (k := 1) C hL hi (by decide) dL_law_276 rfl dL_law_277 rfl dL_law_278 (by decide) dL_law_279 dL_law_280 ?_
  refine l_arg (k := 2) C hL hi (by decide) dL_law_281 rfl dL_law_282 rfl dL_law_283 (by decide) dL_law_284 dL_law_285 ?_
  refine l_callV (As := [.int (xs (i + 1)), .int (xs (i + 2))]) (rest := []) C (c_X6_owner e1) dL_law_286 lkL_36 (ci := 6) rfl rfl rfl rfl (Nat.le_of_ble_eq_true rfl) (by decide) hcs ?_
  refine l_aload_n C dL_law_289 rfl rfl ?_
  refine l_arg (k := 1) C hL hi (by decide) dL_law_290 rfl dL_law_291 rfl dL_law_292 (by decide) dL_law_293 dL_law_294 ?_
  refine l_arg (k := 2) C hL hi (by decide) dL_law_295 rfl dL_law_296 rfl dL_law_297 (by decide) dL_law_298 dL_law_299 ?_
  refine l_callV (As := [.int (xs (i + 1)), .int (xs (i + 2))]) (rest := [.int v]) C (c_X7_owner e2) dL_law_300 lkL_40 (ci := 7) rfl rfl rfl rfl (Nat.le_of_ble_eq_true rfl) (by decide) hcs ?_
  exact l_icmp_eq (st := []) C dL_law_303 (by decide) (fun _ => kk g2 p2 b h2) (fun q => absurd rfl q)
theorem law_6 (C : LC G p R s m args c Lx xs) (hL : Lx ≤ 3584) (hi : i + 7 ≤ Lx) (hcs : cells ≤ R.cells ∧ slots ≤ R.slots) (hS : St pp g b) (kk : ∀ (g2 p2 : mI) (b2 : Bool), St p2 g2 b2 → ML G p e R s m args below meth c Q cells slots 1166 [.ref 1000000, .ref 0, .ref 64, .int (nI i)] [] (m_h g2 b2)) : ML G p e R s m args below meth c Q cells slots 308 [.ref 1000000, .ref 0, .ref 64, .int (nI i)] [] (m_h g b) := by
  obtain ⟨v, g1, g2, p2, e1, e2, h2⟩ := s_mask hS (xs (i + 1)) (xs (i + 2)) (xs (i + 3)) (xs (i + 4))
  refine l_aload_n C dL_law_308 rfl rfl ?_
  refine l_arg (k := 1) C hL hi (by decide) dL_law_309 rfl dL_law_310 rfl dL_law_311 (by decide) dL_law_312 dL_law_313 ?_
  refine l_arg (k := 2) C hL hi (by decide) dL_law_314 rfl dL_law_315 rfl dL_law_316 (by decide) dL_law_317 dL_law_318 ?_
  refine l_arg (k := 3) C hL hi (by decide) dL_law_319 rfl dL_law_320 rfl dL_law_321 (by decide) dL_law_322 dL_law_323 ?_
  refine l_arg (k := 4) C hL hi (by decide) dL_law_324 rfl dL_law_325 rfl dL_law_326 (by decide) dL_law_327 dL_law_328 ?_
  refine l_callV (As := [.int (xs (i + 1)), .int (xs (i + 2)), .int (xs (i + 3)), .int (xs (i + 4))]) (rest := []) C (c_X6_mask e1) dL_law_329 lkL_41 (ci := 6) rfl rfl rfl rfl (Nat.le_of_ble_eq_true rfl) (by decide) hcs ?_
  refine l_aload_n C dL_law_332 rfl rfl ?_
  refine l_arg (k := 1) C hL hi (by decide) dL_law_333 rfl dL_law_334 rfl dL_law_335 (by decide) dL_law_336 dL_law_337 ?_
  refine l_arg (k := 2) C hL hi (by decide) dL_law_338 rfl dL_law_339 rfl dL_law_340 (by decide) dL_law_341 dL_law_342 ?_
  refine l_arg (k := 3) C hL hi (by decide) dL_law_343 rfl dL_law_344 rfl dL_law_345 (by decide) dL_law_346 dL_law_347 ?_
  refine l_arg (k := 4) C hL hi (by decide) dL_law_348 rfl dL_law_349 rfl dL_law_350 (by decide) dL_law_351 dL_law_352 ?_
  refine l_callV (As := [.int (xs (i + 1)), .int (xs (i + 2)), .int (xs (i + 3)), .int (xs (i + 4))]) (rest := [.int v]) C (c_X7_mask e2) dL_law_353 lkL_45 (ci := 7) rfl rfl rfl rfl (Nat.le_of_ble_eq_true rfl) (by decide) hcs ?_
  exact l_icmp_eq (st := []) C dL_law_356 (by decide) (fun _ => kk g2 p2 b h2) (fun q => absurd rfl q)
theorem law_7 (C : LC G p R s m args c Lx xs) (hL : Lx ≤ 3584) (hi : i + 7 ≤ Lx) (hcs : cells ≤ R.cells ∧ slots ≤ R.slots) (hS : St pp g b) (kk : ∀ (g2 p2 : mI) (b2 : Bool), St p2 g2 b2 → ML G p e R s m args below meth c Q cells slots 1166 [.ref 1000000, .ref 0, .ref 64, .int (nI i)] [] (m_h g2 b2)) : ML G p e R s m args below meth c Q cells slots 361 [.ref 1000000, .ref 0, .ref 64, .int (nI i)] [] (m_h g b) := by
  obtain ⟨v, g1, g2, p2, e1, e2, h2⟩ := s_dial hS (xs (i + 1)) (xs (i + 2)) (xs (i + 3)) (xs (i + 4)) (xs (i + 5))
  refine l_aload_n C dL_law_361 rfl rfl ?_
  refine l_arg (k := 1) C hL hi (by decide) dL_law_362 rfl dL_law_363 rfl dL_law_364 (by decide) dL_law_365 dL_law_366 ?_
  refine l_arg (k := 2) C hL hi (by decide) dL_law_367 rfl dL_law_368 rfl dL_law_369 (by decide) dL_law_370 dL_law_371 ?_
  refine l_arg (k := 3) C hL hi (by decide) dL_law_372 rfl dL_law_373 rfl dL_law_374 (by decide) dL_law_375 dL_law_376 ?_
  refine l_arg (k := 4) C hL hi (by decide) dL_law_377 rfl dL_law_378 rfl dL_law_379 (by decide) dL_law_380 dL_law_381 ?_
  refine l_arg (k := 5) C hL hi (by decide) dL_law_382 rfl dL_law_383 rfl dL_law_384 (by decide) dL_law_385 dL_law_386 ?_
  refine l_callV (As := [.int (xs (i + 1)), .int (xs (i + 2)), .int (xs (i + 3)), .int (xs (i + 4)), .int (xs (i + 5))]) (rest := []) C (c_X6_dial e1) dL_law_387 lkL_46 (ci := 6) rfl rfl rfl rfl (Nat.le_of_ble_eq_true rfl) (by decide) hcs ?_
  refine l_aload_n C dL_law_390 rfl rfl ?_
  refine l_arg (k := 1) C hL hi (by decide) dL_law_391 rfl dL_law_392 rfl dL_law_393 (by decide) dL_law_394 dL_law_395 ?_
  refine l_arg (k := 2) C hL hi (by decide) dL_law_396 rfl dL_law_397 rfl dL_law_398 (by decide) dL_law_399 dL_law_400 ?_
  refine l_arg (k := 3) C hL hi (by decide) dL_law_401 rfl dL_law_402 rfl dL_law_403 (by decide) dL_law_404 dL_law_405 ?_
  refine l_arg (k := 4) C hL hi (by decide) dL_law_406 rfl dL_law_407 rfl dL_law_408 (by decide) dL_law_409 dL_law_410 ?_
  refine l_arg (k := 5) C hL hi (by decide) dL_law_411 rfl dL_law_412 rfl dL_law_413 (by decide) dL_law_414 dL_law_415 ?_
  refine l_callV (As := [.int (xs (i + 1)), .int (xs (i + 2)), .int (xs (i + 3)), .int (xs (i + 4)), .int (xs (i + 5))]) (rest := [.int v]) C (c_X7_dial e2) dL_law_416 lkL_50 (ci := 7) rfl rfl rfl rfl (Nat.le_of_ble_eq_true rfl) (by decide) hcs ?_
  exact l_icmp_eq (st := []) C dL_law_419 (by decide) (fun _ => kk g2 p2 b h2) (fun q => absurd rfl q)
theorem law_8 (C : LC G p R s m args c Lx xs) (hL : Lx ≤ 3584) (hi : i + 7 ≤ Lx) (hcs : cells ≤ R.cells ∧ slots ≤ R.slots) (hS : St pp g b) (kk : ∀ (g2 p2 : mI) (b2 : Bool), St p2 g2 b2 → ML G p e R s m args below meth c Q cells slots 1166 [.ref 1000000, .ref 0, .ref 64, .int (nI i)] [] (m_h g2 b2)) : ML G p e R s m args below meth c Q cells slots 424 [.ref 1000000, .ref 0, .ref 64, .int (nI i)] [] (m_h g b) := by
  obtain ⟨v, g1, g2, p2, e1, e2, h2⟩ := s_seed hS (xs (i + 1))
  refine l_aload_n C dL_law_424 rfl rfl ?_
  refine l_arg (k := 1) C hL hi (by decide) dL_law_425 rfl dL_law_426 rfl dL_law_427 (by decide) dL_law_428 dL_law_429 ?_
  refine l_callV (As := [.int (xs (i + 1))]) (rest := []) C (c_X6_seed e1) dL_law_430 lkL_51 (ci := 6) rfl rfl rfl rfl (Nat.le_of_ble_eq_true rfl) (by decide) hcs ?_
  refine l_aload_n C dL_law_433 rfl rfl ?_
  refine l_arg (k := 1) C hL hi (by decide) dL_law_434 rfl dL_law_435 rfl dL_law_436 (by decide) dL_law_437 dL_law_438 ?_
  refine l_callV (As := [.int (xs (i + 1))]) (rest := [.int v]) C (c_X7_seed e2) dL_law_439 lkL_54 (ci := 7) rfl rfl rfl rfl (Nat.le_of_ble_eq_true rfl) (by decide) hcs ?_
  exact l_icmp_eq (st := []) C dL_law_442 (by decide) (fun _ => kk g2 p2 b h2) (fun q => absurd rfl q)
theorem law_9 (C : LC G p R s m args c Lx xs) (hL : Lx ≤ 3584) (hi : i + 7 ≤ Lx) (hcs : cells ≤ R.cells ∧ slots ≤ R.slots) (hS : St pp g b) (kk : ∀ (g2 p2 : mI) (b2 : Bool), St p2 g2 b2 → ML G p e R s m args below meth c Q cells slots 1166 [.ref 1000000, .ref 0, .ref 64, .int (nI i)] [] (m_h g2 b2)) : ML G p e R s m args below meth c Q cells slots 447 [.ref 1000000, .ref 0, .ref 64, .int (nI i)] [] (m_h g b) := by
  obtain ⟨v, g1, g2, p2, e1, e2, h2⟩ := s_order hS (xs (i + 1)) (xs (i + 2)) (xs (i + 3))
  refine l_aload_n C dL_law_447 rfl rfl ?_
  refine l_arg (k := 1) C hL hi (by decide) dL_law_448 rfl dL_law_449 rfl dL_law_450 (by decide) dL_law_451 dL_law_452 ?_
  refine l_arg (k := 2) C hL hi (by decide) dL_law_453 rfl dL_law_454 rfl dL_law_455 (by decide) dL_law_456 dL_law_457 ?_
  refine l_arg (k := 3) C hL hi (by decide) dL_law_458 rfl dL_law_459 rfl dL_law_460 (by decide) dL_law_461 dL_law_462 ?_
  refine l_callV (As := [.int (xs (i + 1)), .int (xs (i + 2)), .int (xs (i + 3))]) (rest := []) C (c_X6_order e1) dL_law_463 lkL_55 (ci := 6) rfl rfl rfl rfl (Nat.le_of_ble_eq_true rfl) (by decide) hcs ?_
  refine l_aload_n C dL_law_466 rfl rfl ?_
  refine l_arg (k := 1) C hL hi (by decide) dL_law_467 rfl dL_law_468 rfl dL_law_469 (by decide) dL_law_470 dL_law_471 ?_
  refine l_arg (k := 2) C hL hi (by decide) dL_law_472 rfl dL_law_473 rfl dL_law_474 (by decide) dL_law_475 dL_law_476 ?_
  refine l_arg (k := 3) C hL hi (by decide) dL_law_477 rfl dL_law_478 rfl dL_law_479 (by decide) dL_law_480 dL_law_481 ?_
  refine l_callV (As := [.int (xs (i + 1)), .int (xs (i + 2)), .int (xs (i + 3))]) (rest := [.int v]) C (c_X7_order e2) dL_law_482 lkL_58 (ci := 7) rfl rfl rfl rfl (Nat.le_of_ble_eq_true rfl) (by decide) hcs ?_
  exact l_icmp_eq (st := []) C dL_law_485 (by decide) (fun _ => kk g2 p2 b h2) (fun q => absurd rfl q)
theorem law_10 (C : LC G p R s m args c Lx xs) (hL : Lx ≤ 3584) (hi : i + 7 ≤ Lx) (hcs : cells ≤ R.cells ∧ slots ≤ R.slots) (hS : St pp g b) (kk : ∀ (g2 p2 : mI) (b2 : Bool), St p2 g2 b2 → ML G p e R s m args below meth c Q cells slots 1166 [.ref 1000000, .ref 0, .ref 64, .int (nI i)] [] (m_h g2 b2)) : ML G p e R s m args below meth c Q cells slots 490 [.ref 1000000, .ref 0, .ref 64, .int (nI i)] [] (m_h g b) := by
  obtain ⟨v, g1, g2, p2, e1, e2, h2⟩ := s_agree hS (xs (i + 1)) (xs (i + 2)) (xs (i + 3)) (xs (i + 4)) (xs (i + 5)) (xs (i + 6))
  refine l_aload_n C dL_law_490 rfl rfl ?_
  refine l_arg (k := 1) C hL hi (by decide) dL_law_491 rfl dL_law_492 rfl dL_law_493 (by decide) dL_law_494 dL_law_495 ?_
  refine l_arg (k := 2) C hL hi (by decide) dL_law_496 rfl dL_law_497 rfl dL_law_498 (by decide) dL_law_499 dL_law_500 ?_
  refine l_arg (k := 3) C hL hi (by decide) dL_law_501 rfl dL_law_502 rfl dL_law_503 (by decide) dL_law_504 dL_law_505 ?_
  refine l_arg (k := 4) C hL hi (by decide) dL_law_506 rfl dL_law_507 rfl dL_law_508 (by decide) dL_law_509 dL_law_510 ?_
  refine l_arg (k := 5) C hL hi (by decide) dL_law_511 rfl dL_law_512 rfl dL_law_513 (by decide) dL_law_514 dL_law_515 ?_
  refine l_arg6 (k := 6) C hL hi (by decide) dL_law_516 rfl dL_law_517 rfl dL_law_518 (by decide) dL_law_520 dL_law_521 ?_
  refine l_callV (As := [.int (xs (i + 1)), .int (xs (i + 2)), .int (xs (i + 3)), .int (xs (i + 4)), .int (xs (i + 5)), .int (xs (i + 6))]) (rest := []) C (c_X6_agree e1) dL_law_522 lkL_59 (ci := 6) rfl rfl rfl rfl (Nat.le_of_ble_eq_true rfl) (by decide) hcs ?_
  refine l_aload_n C dL_law_525 rfl rfl ?_
  refine l_arg (k := 1) C hL hi (by decide) dL_law_526 rfl dL_law_527 rfl dL_law_528 (by decide) dL_law_529 dL_law_530 ?_
  refine l_arg (k := 2) C hL hi (by decide) dL_law_531 rfl dL_law_532 rfl dL_law_533 (by decide) dL_law_534 dL_law_535 ?_
  refine l_arg (k := 3) C hL hi (by decide) dL_law_536 rfl dL_law_537 rfl dL_law_538 (by decide) dL_law_539 dL_law_540 ?_
  refine l_arg (k := 4) C hL hi (by decide) dL_law_541 rfl dL_law_542 rfl dL_law_543 (by decide) dL_law_544 dL_law_545 ?_
  refine l_arg (k := 5) C hL hi (by decide) dL_law_546 rfl dL_law_547 rfl dL_law_548 (by decide) dL_law_549 dL_law_550 ?_
  refine l_arg6 (k := 6) C hL hi (by decide) dL_law_551 rfl dL_law_552 rfl dL_law_553 (by decide) dL_law_555 dL_law_556 ?_
  refine l_callV (As := [.int (xs (i + 1)), .int (xs (i + 2)), .int (xs (i + 3)), .int (xs (i + 4)), .int (xs (i + 5)), .int (xs (i + 6))]) (rest := [.int v]) C (c_X7_agree e2) dL_law_557 lkL_63 (ci := 7) rfl rfl rfl rfl (Nat.le_of_ble_eq_true rfl) (by decide) hcs ?_
  exact l_icmp_eq (st := []) C dL_law_560 (by decide) (fun _ => kk g2 p2 b h2) (fun q => absurd rfl q)
theorem law_11 (C : LC G p R s m args c Lx xs) (hL : Lx ≤ 3584) (hi : i + 7 ≤ Lx) (hcs : cells ≤ R.cells ∧ slots ≤ R.slots) (hS : St pp g b) (kk : ∀ (g2 p2 : mI) (b2 : Bool), St p2 g2 b2 → ML G p e R s m args below meth c Q cells slots 1166 [.ref 1000000, .ref 0, .ref 64, .int (nI i)] [] (m_h g2 b2)) : ML G p e R s m args below meth c Q cells slots 565 [.ref 1000000, .ref 0, .ref 64, .int (nI i)] [] (m_h g b) := by
  obtain ⟨v, g1, g2, p2, e1, e2, h2⟩ := s_found hS (xs (i + 1)) (xs (i + 2))
  refine l_aload_n C dL_law_565 rfl rfl ?_
  refine l_arg (k := 1) C hL hi (by decide) dL_law_566 rfl dL_law_567 rfl dL_law_568 (by decide) dL_law_569 dL_law_570 ?_
  refine l_arg (k := 2) C hL hi (by decide) dL_law_571 rfl dL_law_572 rfl dL_law_573 (by decide) dL_law_574 dL_law_575 ?_
  refine l_callV (As := [.int (xs (i + 1)), .int (xs (i + 2))]) (rest := []) C (c_X6_found e1) dL_law_576 lkL_64 (ci := 6) rfl rfl rfl rfl (Nat.le_of_ble_eq_true rfl) (by decide) hcs ?_
  refine l_aload_n C dL_law_579 rfl rfl ?_
  refine l_arg (k := 1) C hL hi (by decide) dL_law_580 rfl dL_law_581 rfl dL_law_582 (by decide) dL_law_583 dL_law_584 ?_
  refine l_arg (k := 2) C hL hi (by decide) dL_law_585 rfl dL_law_586 rfl dL_law_587 (by decide) dL_law_588 dL_law_589 ?_
  refine l_callV (As := [.int (xs (i + 1)), .int (xs (i + 2))]) (rest := [.int v]) C (c_X7_found e2) dL_law_590 lkL_67 (ci := 7) rfl rfl rfl rfl (Nat.le_of_ble_eq_true rfl) (by decide) hcs ?_
  exact l_icmp_eq (st := []) C dL_law_593 (by decide) (fun _ => kk g2 p2 b h2) (fun q => absurd rfl q)
theorem law_12 (C : LC G p R s m args c Lx xs) (hL : Lx ≤ 3584) (hi : i + 7 ≤ Lx) (hcs : cells ≤ R.cells ∧ slots ≤ R.slots) (hS : St pp g b) (kk : ∀ (g2 p2 : mI) (b2 : Bool), St p2 g2 b2 → ML G p e R s m args below meth c Q cells slots 1166 [.ref 1000000, .ref 0, .ref 64, .int (nI i)] [] (m_h g2 b2)) : ML G p e R s m args below meth c Q cells slots 598 [.ref 1000000, .ref 0, .ref 64, .int (nI i)] [] (m_h g b) := by
  obtain ⟨v, g1, g2, p2, e1, e2, h2⟩ := s_unrule hS
  refine l_aload_n C dL_law_598 rfl rfl ?_
  refine l_callV (As := []) (rest := []) C (c_X6_unrule e1) dL_law_599 lkL_68 (ci := 6) rfl rfl rfl rfl (Nat.le_of_ble_eq_true rfl) (by decide) hcs ?_
  refine l_aload_n C dL_law_602 rfl rfl ?_
  refine l_callV (As := []) (rest := [.int v]) C (c_X7_unrule e2) dL_law_603 lkL_71 (ci := 7) rfl rfl rfl rfl (Nat.le_of_ble_eq_true rfl) (by decide) hcs ?_
  exact l_icmp_eq (st := []) C dL_law_606 (by decide) (fun _ => kk g2 p2 b h2) (fun q => absurd rfl q)
theorem law_13 (C : LC G p R s m args c Lx xs) (hL : Lx ≤ 3584) (hi : i + 7 ≤ Lx) (hcs : cells ≤ R.cells ∧ slots ≤ R.slots) (hS : St pp g b) (kk : ∀ (g2 p2 : mI) (b2 : Bool), St p2 g2 b2 → ML G p e R s m args below meth c Q cells slots 1166 [.ref 1000000, .ref 0, .ref 64, .int (nI i)] [] (m_h g2 b2)) : ML G p e R s m args below meth c Q cells slots 611 [.ref 1000000, .ref 0, .ref 64, .int (nI i)] [] (m_h g b) := by
  obtain ⟨v, g2, e1, e2, h2⟩ := s_broken hS (xs (i + 1))
  refine l_aload_n C dL_law_611 rfl rfl ?_
  refine l_arg (k := 1) C hL hi (by decide) dL_law_612 rfl dL_law_613 rfl dL_law_614 (by decide) dL_law_615 dL_law_616 ?_
  refine l_callV (As := [.int (xs (i + 1))]) (rest := []) C (c_X6_broken e1) dL_law_617 lkL_72 (ci := 6) rfl rfl rfl rfl (Nat.le_of_ble_eq_true rfl) (by decide) hcs ?_
  refine l_aload_n C dL_law_620 rfl rfl ?_
  refine l_arg (k := 1) C hL hi (by decide) dL_law_621 rfl dL_law_622 rfl dL_law_623 (by decide) dL_law_624 dL_law_625 ?_
  refine l_callV (As := [.int (xs (i + 1))]) (rest := [.int v]) C (c_X7_broken e2) dL_law_626 lkL_75 (ci := 7) rfl rfl rfl rfl (Nat.le_of_ble_eq_true rfl) (by decide) hcs ?_
  exact l_icmp_eq (st := []) C dL_law_629 (by decide) (fun _ => kk g2 pp b h2) (fun q => absurd rfl q)
theorem law_14 (C : LC G p R s m args c Lx xs) (hL : Lx ≤ 3584) (hi : i + 7 ≤ Lx) (hcs : cells ≤ R.cells ∧ slots ≤ R.slots) (hS : St pp g b) (kk : ∀ (g2 p2 : mI) (b2 : Bool), St p2 g2 b2 → ML G p e R s m args below meth c Q cells slots 1166 [.ref 1000000, .ref 0, .ref 64, .int (nI i)] [] (m_h g2 b2)) : ML G p e R s m args below meth c Q cells slots 634 [.ref 1000000, .ref 0, .ref 64, .int (nI i)] [] (m_h g b) := by
  obtain ⟨v, g1, b1, g2, p2, e1, e2, h2⟩ := s_make hS
  refine l_aload_n C dL_law_634 rfl rfl ?_
  refine l_callV (As := []) (rest := []) C (c_X6_make e1) dL_law_635 lkL_76 (ci := 6) rfl rfl rfl rfl (Nat.le_of_ble_eq_true rfl) (by decide) hcs ?_
  refine l_aload_n C dL_law_638 rfl rfl ?_
  refine l_callV (As := []) (rest := [.int v]) C (c_X7_make e2) dL_law_639 lkL_79 (ci := 7) rfl rfl rfl rfl (Nat.le_of_ble_eq_true rfl) (by decide) hcs ?_
  exact l_icmp_eq (st := []) C dL_law_642 (by decide) (fun _ => kk g2 p2 b1 h2) (fun q => absurd rfl q)
theorem law_15 (C : LC G p R s m args c Lx xs) (hL : Lx ≤ 3584) (hi : i + 7 ≤ Lx) (hcs : cells ≤ R.cells ∧ slots ≤ R.slots) (hS : St pp g b) (kk : ∀ (g2 p2 : mI) (b2 : Bool), St p2 g2 b2 → ML G p e R s m args below meth c Q cells slots 1166 [.ref 1000000, .ref 0, .ref 64, .int (nI i)] [] (m_h g2 b2)) : ML G p e R s m args below meth c Q cells slots 647 [.ref 1000000, .ref 0, .ref 64, .int (nI i)] [] (m_h g b) := by
  obtain ⟨v, e1, e2⟩ := s_at hS (xs (i + 1)) (xs (i + 2)) (xs (i + 3)) (xs (i + 4))
  refine l_aload_n C dL_law_647 rfl rfl ?_
  refine l_arg (k := 1) C hL hi (by decide) dL_law_648 rfl dL_law_649 rfl dL_law_650 (by decide) dL_law_651 dL_law_652 ?_
  refine l_arg (k := 2) C hL hi (by decide) dL_law_653 rfl dL_law_654 rfl dL_law_655 (by decide) dL_law_656 dL_law_657 ?_
  refine l_arg (k := 3) C hL hi (by decide) dL_law_658 rfl dL_law_659 rfl dL_law_660 (by decide) dL_law_661 dL_law_662 ?_
  refine l_arg (k := 4) C hL hi (by decide) dL_law_663 rfl dL_law_664 rfl dL_law_665 (by decide) dL_law_666 dL_law_667 ?_
  refine l_callV (As := [.int (xs (i + 1)), .int (xs (i + 2)), .int (xs (i + 3)), .int (xs (i + 4))]) (rest := []) C (c_X6_at e1) dL_law_668 lkL_80 (ci := 6) rfl rfl rfl rfl (Nat.le_of_ble_eq_true rfl) (by decide) hcs ?_
  refine l_aload_n C dL_law_671 rfl rfl ?_
  refine l_arg (k := 1) C hL hi (by decide) dL_law_672 rfl dL_law_673 rfl dL_law_674 (by decide) dL_law_675 dL_law_676 ?_
  refine l_arg (k := 2) C hL hi (by decide) dL_law_677 rfl dL_law_678 rfl dL_law_679 (by decide) dL_law_680 dL_law_681 ?_
  refine l_arg (k := 3) C hL hi (by decide) dL_law_682 rfl dL_law_683 rfl dL_law_684 (by decide) dL_law_685 dL_law_686 ?_
  refine l_arg (k := 4) C hL hi (by decide) dL_law_687 rfl dL_law_688 rfl dL_law_689 (by decide) dL_law_690 dL_law_691 ?_
  refine l_callV (As := [.int (xs (i + 1)), .int (xs (i + 2)), .int (xs (i + 3)), .int (xs (i + 4))]) (rest := [.int v]) C (c_X7_at e2) dL_law_692 lkL_83 (ci := 7) rfl rfl rfl rfl (Nat.le_of_ble_eq_true rfl) (by decide) hcs ?_
  exact l_icmp_eq (st := []) C dL_law_695 (by decide) (fun _ => kk g pp b hS) (fun q => absurd rfl q)
theorem law_16 (C : LC G p R s m args c Lx xs) (hL : Lx ≤ 3584) (hi : i + 7 ≤ Lx) (hcs : cells ≤ R.cells ∧ slots ≤ R.slots) (hS : St pp g b) (kk : ∀ (g2 p2 : mI) (b2 : Bool), St p2 g2 b2 → ML G p e R s m args below meth c Q cells slots 1166 [.ref 1000000, .ref 0, .ref 64, .int (nI i)] [] (m_h g2 b2)) : ML G p e R s m args below meth c Q cells slots 700 [.ref 1000000, .ref 0, .ref 64, .int (nI i)] [] (m_h g b) := by
  obtain ⟨v, e1, e2⟩ := s_turned hS (xs (i + 1)) (xs (i + 2)) (xs (i + 3))
  refine l_aload_n C dL_law_700 rfl rfl ?_
  refine l_arg (k := 1) C hL hi (by decide) dL_law_701 rfl dL_law_702 rfl dL_law_703 (by decide) dL_law_704 dL_law_705 ?_
  refine l_arg (k := 2) C hL hi (by decide) dL_law_706 rfl dL_law_707 rfl dL_law_708 (by decide) dL_law_709 dL_law_710 ?_
  refine l_arg (k := 3) C hL hi (by decide) dL_law_711 rfl dL_law_712 rfl dL_law_713 (by decide) dL_law_714 dL_law_715 ?_
  refine l_callV (As := [.int (xs (i + 1)), .int (xs (i + 2)), .int (xs (i + 3))]) (rest := []) C (c_X6_turned e1) dL_law_716 lkL_84 (ci := 6) rfl rfl rfl rfl (Nat.le_of_ble_eq_true rfl) (by decide) hcs ?_
  refine l_aload_n C dL_law_719 rfl rfl ?_
  refine l_arg (k := 1) C hL hi (by decide) dL_law_720 rfl dL_law_721 rfl dL_law_722 (by decide) dL_law_723 dL_law_724 ?_
  refine l_arg (k := 2) C hL hi (by decide) dL_law_725 rfl dL_law_726 rfl dL_law_727 (by decide) dL_law_728 dL_law_729 ?_
  refine l_arg (k := 3) C hL hi (by decide) dL_law_730 rfl dL_law_731 rfl dL_law_732 (by decide) dL_law_733 dL_law_734 ?_
  refine l_callV (As := [.int (xs (i + 1)), .int (xs (i + 2)), .int (xs (i + 3))]) (rest := [.int v]) C (c_X7_turned e2) dL_law_735 lkL_87 (ci := 7) rfl rfl rfl rfl (Nat.le_of_ble_eq_true rfl) (by decide) hcs ?_
  exact l_icmp_eq (st := []) C dL_law_738 (by decide) (fun _ => kk g pp b hS) (fun q => absurd rfl q)
theorem law_17 (C : LC G p R s m args c Lx xs) (hL : Lx ≤ 3584) (hi : i + 7 ≤ Lx) (hcs : cells ≤ R.cells ∧ slots ≤ R.slots) (hS : St pp g b) (kk : ∀ (g2 p2 : mI) (b2 : Bool), St p2 g2 b2 → ML G p e R s m args below meth c Q cells slots 1166 [.ref 1000000, .ref 0, .ref 64, .int (nI i)] [] (m_h g2 b2)) : ML G p e R s m args below meth c Q cells slots 743 [.ref 1000000, .ref 0, .ref 64, .int (nI i)] [] (m_h g b) := by
  obtain ⟨v, g1, e1, e2, h2⟩ := s_shift hS (xs (i + 1))
  refine l_aload_n C dL_law_743 rfl rfl ?_
  refine l_arg (k := 1) C hL hi (by decide) dL_law_744 rfl dL_law_745 rfl dL_law_746 (by decide) dL_law_747 dL_law_748 ?_
  refine l_callV (As := [.int (xs (i + 1))]) (rest := []) C (c_X6_shift e1) dL_law_749 lkL_88 (ci := 6) rfl rfl rfl rfl (Nat.le_of_ble_eq_true rfl) (by decide) hcs ?_
  refine l_aload_n C dL_law_752 rfl rfl ?_
  refine l_arg (k := 1) C hL hi (by decide) dL_law_753 rfl dL_law_754 rfl dL_law_755 (by decide) dL_law_756 dL_law_757 ?_
  refine l_callV (As := [.int (xs (i + 1))]) (rest := [.int v]) C (c_X7_shift e2) dL_law_758 lkL_91 (ci := 7) rfl rfl rfl rfl (Nat.le_of_ble_eq_true rfl) (by decide) hcs ?_
  exact l_icmp_eq (st := []) C dL_law_761 (by decide) (fun _ => kk g1 pp b h2) (fun q => absurd rfl q)
theorem law_18 (C : LC G p R s m args c Lx xs) (hL : Lx ≤ 3584) (hi : i + 7 ≤ Lx) (hcs : cells ≤ R.cells ∧ slots ≤ R.slots) (hS : St pp g b) (kk : ∀ (g2 p2 : mI) (b2 : Bool), St p2 g2 b2 → ML G p e R s m args below meth c Q cells slots 1166 [.ref 1000000, .ref 0, .ref 64, .int (nI i)] [] (m_h g2 b2)) : ML G p e R s m args below meth c Q cells slots 766 [.ref 1000000, .ref 0, .ref 64, .int (nI i)] [] (m_h g b) := by
  obtain ⟨v, g2, e1, e2, h2⟩ := s_count hS (xs (i + 1)) (xs (i + 2)) (xs (i + 3)) (xs (i + 4))
  refine l_aload_n C dL_law_766 rfl rfl ?_
  refine l_arg (k := 1) C hL hi (by decide) dL_law_767 rfl dL_law_768 rfl dL_law_769 (by decide) dL_law_770 dL_law_771 ?_
  refine l_arg (k := 2) C hL hi (by decide) dL_law_772 rfl dL_law_773 rfl dL_law_774 (by decide) dL_law_775 dL_law_776 ?_
  refine l_arg (k := 3) C hL hi (by decide) dL_law_777 rfl dL_law_778 rfl dL_law_779 (by decide) dL_law_780 dL_law_781 ?_
  refine l_arg (k := 4) C hL hi (by decide) dL_law_782 rfl dL_law_783 rfl dL_law_784 (by decide) dL_law_785 dL_law_786 ?_
  refine l_callV (As := [.int (xs (i + 1)), .int (xs (i + 2)), .int (xs (i + 3)), .int (xs (i + 4))]) (rest := []) C (c_X6_count e1) dL_law_787 lkL_92 (ci := 6) rfl rfl rfl rfl (Nat.le_of_ble_eq_true rfl) (by decide) hcs ?_
  refine l_aload_n C dL_law_790 rfl rfl ?_
  refine l_arg (k := 1) C hL hi (by decide) dL_law_791 rfl dL_law_792 rfl dL_law_793 (by decide) dL_law_794 dL_law_795 ?_
  refine l_arg (k := 2) C hL hi (by decide) dL_law_796 rfl dL_law_797 rfl dL_law_798 (by decide) dL_law_799 dL_law_800 ?_
  refine l_arg (k := 3) C hL hi (by decide) dL_law_801 rfl dL_law_802 rfl dL_law_803 (by decide) dL_law_804 dL_law_805 ?_
  refine l_arg (k := 4) C hL hi (by decide) dL_law_806 rfl dL_law_807 rfl dL_law_808 (by decide) dL_law_809 dL_law_810 ?_
  refine l_callV (As := [.int (xs (i + 1)), .int (xs (i + 2)), .int (xs (i + 3)), .int (xs (i + 4))]) (rest := [.int v]) C (c_X7_count e2) dL_law_811 lkL_95 (ci := 7) rfl rfl rfl rfl (Nat.le_of_ble_eq_true rfl) (by decide) hcs ?_
  exact l_icmp_eq (st := []) C dL_law_814 (by decide) (fun _ => kk g2 pp b h2) (fun q => absurd rfl q)
theorem law_19 (C : LC G p R s m args c Lx xs) (hL : Lx ≤ 3584) (hi : i + 7 ≤ Lx) (hcs : cells ≤ R.cells ∧ slots ≤ R.slots) (hS : St pp g b) (kk : ∀ (g2 p2 : mI) (b2 : Bool), St p2 g2 b2 → ML G p e R s m args below meth c Q cells slots 1166 [.ref 1000000, .ref 0, .ref 64, .int (nI i)] [] (m_h g2 b2)) : ML G p e R s m args below meth c Q cells slots 819 [.ref 1000000, .ref 0, .ref 64, .int (nI i)] [] (m_h g b) := by
  obtain ⟨v, g2, e1, e2, h2⟩ := s_joins hS (xs (i + 1)) (xs (i + 2)) (xs (i + 3))
  refine l_aload_n C dL_law_819 rfl rfl ?_
  refine l_arg (k := 1) C hL hi (by decide) dL_law_820 rfl dL_law_821 rfl dL_law_822 (by decide) dL_law_823 dL_law_824 ?_
  refine l_arg (k := 2) C hL hi (by decide) dL_law_825 rfl dL_law_826 rfl dL_law_827 (by decide) dL_law_828 dL_law_829 ?_
  refine l_arg (k := 3) C hL hi (by decide) dL_law_830 rfl dL_law_831 rfl dL_law_832 (by decide) dL_law_833 dL_law_834 ?_
  refine l_callV (As := [.int (xs (i + 1)), .int (xs (i + 2)), .int (xs (i + 3))]) (rest := []) C (c_X6_joins e1) dL_law_835 lkL_96 (ci := 6) rfl rfl rfl rfl (Nat.le_of_ble_eq_true rfl) (by decide) hcs ?_
  refine l_aload_n C dL_law_838 rfl rfl ?_
  refine l_arg (k := 1) C hL hi (by decide) dL_law_839 rfl dL_law_840 rfl dL_law_841 (by decide) dL_law_842 dL_law_843 ?_
  refine l_arg (k := 2) C hL hi (by decide) dL_law_844 rfl dL_law_845 rfl dL_law_846 (by decide) dL_law_847 dL_law_848 ?_
  refine l_arg (k := 3) C hL hi (by decide) dL_law_849 rfl dL_law_850 rfl dL_law_851 (by decide) dL_law_852 dL_law_853 ?_
  refine l_callV (As := [.int (xs (i + 1)), .int (xs (i + 2)), .int (xs (i + 3))]) (rest := [.int v]) C (c_X7_joins e2) dL_law_854 lkL_99 (ci := 7) rfl rfl rfl rfl (Nat.le_of_ble_eq_true rfl) (by decide) hcs ?_
  exact l_icmp_eq (st := []) C dL_law_857 (by decide) (fun _ => kk g2 pp b h2) (fun q => absurd rfl q)
theorem law_20 (C : LC G p R s m args c Lx xs) (hL : Lx ≤ 3584) (hi : i + 7 ≤ Lx) (hcs : cells ≤ R.cells ∧ slots ≤ R.slots) (hS : St pp g b) (kk : ∀ (g2 p2 : mI) (b2 : Bool), St p2 g2 b2 → ML G p e R s m args below meth c Q cells slots 1166 [.ref 1000000, .ref 0, .ref 64, .int (nI i)] [] (m_h g2 b2)) : ML G p e R s m args below meth c Q cells slots 862 [.ref 1000000, .ref 0, .ref 64, .int (nI i)] [] (m_h g b) := by
  obtain ⟨v, e1, e2⟩ := s_miss hS (xs (i + 1)) (xs (i + 2))
  refine l_aload_n C dL_law_862 rfl rfl ?_
  refine l_arg (k := 1) C hL hi (by decide) dL_law_863 rfl dL_law_864 rfl dL_law_865 (by decide) dL_law_866 dL_law_867 ?_
  refine l_arg (k := 2) C hL hi (by decide) dL_law_868 rfl dL_law_869 rfl dL_law_870 (by decide) dL_law_871 dL_law_872 ?_
  refine l_callV (As := [.int (xs (i + 1)), .int (xs (i + 2))]) (rest := []) C (c_X6_miss e1) dL_law_873 lkL_100 (ci := 6) rfl rfl rfl rfl (Nat.le_of_ble_eq_true rfl) (by decide) hcs ?_
  refine l_aload_n C dL_law_876 rfl rfl ?_
  refine l_arg (k := 1) C hL hi (by decide) dL_law_877 rfl dL_law_878 rfl dL_law_879 (by decide) dL_law_880 dL_law_881 ?_
  refine l_arg (k := 2) C hL hi (by decide) dL_law_882 rfl dL_law_883 rfl dL_law_884 (by decide) dL_law_885 dL_law_886 ?_
  refine l_callV (As := [.int (xs (i + 1)), .int (xs (i + 2))]) (rest := [.int v]) C (c_X7_miss e2) dL_law_887 lkL_103 (ci := 7) rfl rfl rfl rfl (Nat.le_of_ble_eq_true rfl) (by decide) hcs ?_
  exact l_icmp_eq (st := []) C dL_law_890 (by decide) (fun _ => kk g pp b hS) (fun q => absurd rfl q)
theorem law_21 (C : LC G p R s m args c Lx xs) (hL : Lx ≤ 3584) (hi : i + 7 ≤ Lx) (hcs : cells ≤ R.cells ∧ slots ≤ R.slots) (hS : St pp g b) (kk : ∀ (g2 p2 : mI) (b2 : Bool), St p2 g2 b2 → ML G p e R s m args below meth c Q cells slots 1166 [.ref 1000000, .ref 0, .ref 64, .int (nI i)] [] (m_h g2 b2)) : ML G p e R s m args below meth c Q cells slots 895 [.ref 1000000, .ref 0, .ref 64, .int (nI i)] [] (m_h g b) := by
  obtain ⟨v, g1, g2, e1, e2, h2⟩ := s_could hS (xs (i + 1)) (xs (i + 2)) (xs (i + 3))
  refine l_aload_n C dL_law_895 rfl rfl ?_
  refine l_arg (k := 1) C hL hi (by decide) dL_law_896 rfl dL_law_897 rfl dL_law_898 (by decide) dL_law_899 dL_law_900 ?_
  refine l_arg (k := 2) C hL hi (by decide) dL_law_901 rfl dL_law_902 rfl dL_law_903 (by decide) dL_law_904 dL_law_905 ?_
  refine l_arg (k := 3) C hL hi (by decide) dL_law_906 rfl dL_law_907 rfl dL_law_908 (by decide) dL_law_909 dL_law_910 ?_
  refine l_callV (As := [.int (xs (i + 1)), .int (xs (i + 2)), .int (xs (i + 3))]) (rest := []) C (c_X6_could e1) dL_law_911 lkL_104 (ci := 6) rfl rfl rfl rfl (Nat.le_of_ble_eq_true rfl) (by decide) hcs ?_
  refine l_aload_n C dL_law_914 rfl rfl ?_
  refine l_arg (k := 1) C hL hi (by decide) dL_law_915 rfl dL_law_916 rfl dL_law_917 (by decide) dL_law_918 dL_law_919 ?_
  refine l_arg (k := 2) C hL hi (by decide) dL_law_920 rfl dL_law_921 rfl dL_law_922 (by decide) dL_law_923 dL_law_924 ?_
  refine l_arg (k := 3) C hL hi (by decide) dL_law_925 rfl dL_law_926 rfl dL_law_927 (by decide) dL_law_928 dL_law_929 ?_
  refine l_callV (As := [.int (xs (i + 1)), .int (xs (i + 2)), .int (xs (i + 3))]) (rest := [.int v]) C (c_X7_could e2) dL_law_930 lkL_107 (ci := 7) rfl rfl rfl rfl (Nat.le_of_ble_eq_true rfl) (by decide) hcs ?_
  exact l_icmp_eq (st := []) C dL_law_933 (by decide) (fun _ => kk g2 pp b h2) (fun q => absurd rfl q)
theorem law_22 (C : LC G p R s m args c Lx xs) (hL : Lx ≤ 3584) (hi : i + 7 ≤ Lx) (hcs : cells ≤ R.cells ∧ slots ≤ R.slots) (hS : St pp g b) (kk : ∀ (g2 p2 : mI) (b2 : Bool), St p2 g2 b2 → ML G p e R s m args below meth c Q cells slots 1166 [.ref 1000000, .ref 0, .ref 64, .int (nI i)] [] (m_h g2 b2)) : ML G p e R s m args below meth c Q cells slots 938 [.ref 1000000, .ref 0, .ref 64, .int (nI i)] [] (m_h g b) := by
  obtain ⟨v, g1, g2, e1, e2, h2⟩ := s_alike hS (xs (i + 1)) (xs (i + 2))
  refine l_aload_n C dL_law_938 rfl rfl ?_
  refine l_arg (k := 1) C hL hi (by decide) dL_law_939 rfl dL_law_940 rfl dL_law_941 (by decide) dL_law_942 dL_law_943 ?_
  refine l_arg (k := 2) C hL hi (by decide) dL_law_944 rfl dL_law_945 rfl dL_law_946 (by decide) dL_law_947 dL_law_948 ?_
  refine l_callV (As := [.int (xs (i + 1)), .int (xs (i + 2))]) (rest := []) C (c_X6_alike e1) dL_law_949 lkL_108 (ci := 6) rfl rfl rfl rfl (Nat.le_of_ble_eq_true rfl) (by decide) hcs ?_
  refine l_aload_n C dL_law_952 rfl rfl ?_
  refine l_arg (k := 1) C hL hi (by decide) dL_law_953 rfl dL_law_954 rfl dL_law_955 (by decide) dL_law_956 dL_law_957 ?_
  refine l_arg (k := 2) C hL hi (by decide) dL_law_958 rfl dL_law_959 rfl dL_law_960 (by decide) dL_law_961 dL_law_962 ?_
  refine l_callV (As := [.int (xs (i + 1)), .int (xs (i + 2))]) (rest := [.int v]) C (c_X7_alike e2) dL_law_963 lkL_111 (ci := 7) rfl rfl rfl rfl (Nat.le_of_ble_eq_true rfl) (by decide) hcs ?_
  exact l_icmp_eq (st := []) C dL_law_966 (by decide) (fun _ => kk g2 pp b h2) (fun q => absurd rfl q)
theorem law_23 (C : LC G p R s m args c Lx xs) (hL : Lx ≤ 3584) (hi : i + 7 ≤ Lx) (hcs : cells ≤ R.cells ∧ slots ≤ R.slots) (hS : St pp g b) (kk : ∀ (g2 p2 : mI) (b2 : Bool), St p2 g2 b2 → ML G p e R s m args below meth c Q cells slots 1166 [.ref 1000000, .ref 0, .ref 64, .int (nI i)] [] (m_h g2 b2)) : ML G p e R s m args below meth c Q cells slots 971 [.ref 1000000, .ref 0, .ref 64, .int (nI i)] [] (m_h g b) := by
  obtain ⟨v, g1, g2, e1, e2, h2⟩ := s_sure hS (xs (i + 1)) (xs (i + 2)) (xs (i + 3)) (xs (i + 4))
  refine l_aload_n C dL_law_971 rfl rfl ?_
  refine l_arg (k := 1) C hL hi (by decide) dL_law_972 rfl dL_law_973 rfl dL_law_974 (by decide) dL_law_975 dL_law_976 ?_
  refine l_arg (k := 2) C hL hi (by decide) dL_law_977 rfl dL_law_978 rfl dL_law_979 (by decide) dL_law_980 dL_law_981 ?_
  refine l_arg (k := 3) C hL hi (by decide) dL_law_982 rfl dL_law_983 rfl dL_law_984 (by decide) dL_law_985 dL_law_986 ?_
  refine l_arg (k := 4) C hL hi (by decide) dL_law_987 rfl dL_law_988 rfl dL_law_989 (by decide) dL_law_990 dL_law_991 ?_
  refine l_callV (As := [.int (xs (i + 1)), .int (xs (i + 2)), .int (xs (i + 3)), .int (xs (i + 4))]) (rest := []) C (c_X6_sure e1) dL_law_992 lkL_112 (ci := 6) rfl rfl rfl rfl (Nat.le_of_ble_eq_true rfl) (by decide) hcs ?_
  refine l_aload_n C dL_law_995 rfl rfl ?_
  refine l_arg (k := 1) C hL hi (by decide) dL_law_996 rfl dL_law_997 rfl dL_law_998 (by decide) dL_law_999 dL_law_1000 ?_
  refine l_arg (k := 2) C hL hi (by decide) dL_law_1001 rfl dL_law_1002 rfl dL_law_1003 (by decide) dL_law_1004 dL_law_1005 ?_
  refine l_arg (k := 3) C hL hi (by decide) dL_law_1006 rfl dL_law_1007 rfl dL_law_1008 (by decide) dL_law_1009 dL_law_1010 ?_
  refine l_arg (k := 4) C hL hi (by decide) dL_law_1011 rfl dL_law_1012 rfl dL_law_1013 (by decide) dL_law_1014 dL_law_1015 ?_
  refine l_callV (As := [.int (xs (i + 1)), .int (xs (i + 2)), .int (xs (i + 3)), .int (xs (i + 4))]) (rest := [.int v]) C (c_X7_sure e2) dL_law_1016 lkL_115 (ci := 7) rfl rfl rfl rfl (Nat.le_of_ble_eq_true rfl) (by decide) hcs ?_
  exact l_icmp_eq (st := []) C dL_law_1019 (by decide) (fun _ => kk g2 pp b h2) (fun q => absurd rfl q)
theorem law_24 (C : LC G p R s m args c Lx xs) (hL : Lx ≤ 3584) (hi : i + 7 ≤ Lx) (hcs : cells ≤ R.cells ∧ slots ≤ R.slots) (hS : St pp g b) (kk : ∀ (g2 p2 : mI) (b2 : Bool), St p2 g2 b2 → ML G p e R s m args below meth c Q cells slots 1166 [.ref 1000000, .ref 0, .ref 64, .int (nI i)] [] (m_h g2 b2)) : ML G p e R s m args below meth c Q cells slots 1024 [.ref 1000000, .ref 0, .ref 64, .int (nI i)] [] (m_h g b) := by
  obtain ⟨v, e1, e2⟩ := s_loss hS (xs (i + 1)) (xs (i + 2))
  refine l_aload_n C dL_law_1024 rfl rfl ?_
  refine l_arg (k := 1) C hL hi (by decide) dL_law_1025 rfl dL_law_1026 rfl dL_law_1027 (by decide) dL_law_1028 dL_law_1029 ?_
  refine l_arg (k := 2) C hL hi (by decide) dL_law_1030 rfl dL_law_1031 rfl dL_law_1032 (by decide) dL_law_1033 dL_law_1034 ?_
  refine l_callV (As := [.int (xs (i + 1)), .int (xs (i + 2))]) (rest := []) C (c_X6_loss e1) dL_law_1035 lkL_116 (ci := 6) rfl rfl rfl rfl (Nat.le_of_ble_eq_true rfl) (by decide) hcs ?_
  refine l_aload_n C dL_law_1038 rfl rfl ?_
  refine l_arg (k := 1) C hL hi (by decide) dL_law_1039 rfl dL_law_1040 rfl dL_law_1041 (by decide) dL_law_1042 dL_law_1043 ?_
  refine l_arg (k := 2) C hL hi (by decide) dL_law_1044 rfl dL_law_1045 rfl dL_law_1046 (by decide) dL_law_1047 dL_law_1048 ?_
  refine l_callV (As := [.int (xs (i + 1)), .int (xs (i + 2))]) (rest := [.int v]) C (c_X7_loss e2) dL_law_1049 lkL_119 (ci := 7) rfl rfl rfl rfl (Nat.le_of_ble_eq_true rfl) (by decide) hcs ?_
  exact l_icmp_eq (st := []) C dL_law_1052 (by decide) (fun _ => kk g pp b hS) (fun q => absurd rfl q)
theorem law_25 (C : LC G p R s m args c Lx xs) (hL : Lx ≤ 3584) (hi : i + 7 ≤ Lx) (hcs : cells ≤ R.cells ∧ slots ≤ R.slots) (hS : St pp g b) (kk : ∀ (g2 p2 : mI) (b2 : Bool), St p2 g2 b2 → ML G p e R s m args below meth c Q cells slots 1166 [.ref 1000000, .ref 0, .ref 64, .int (nI i)] [] (m_h g2 b2)) : ML G p e R s m args below meth c Q cells slots 1057 [.ref 1000000, .ref 0, .ref 64, .int (nI i)] [] (m_h g b) := by
  obtain ⟨v, g1, g2, p2, e1, e2, h2⟩ := s_best hS (xs (i + 1)) (xs (i + 2)) (xs (i + 3))
  refine l_aload_n C dL_law_1057 rfl rfl ?_
  refine l_arg (k := 1) C hL hi (by decide) dL_law_1058 rfl dL_law_1059 rfl dL_law_1060 (by decide) dL_law_1061 dL_law_1062 ?_
  refine l_arg (k := 2) C hL hi (by decide) dL_law_1063 rfl dL_law_1064 rfl dL_law_1065 (by decide) dL_law_1066 dL_law_1067 ?_
  refine l_arg (k := 3) C hL hi (by decide) dL_law_1068 rfl dL_law_1069 rfl dL_law_1070 (by decide) dL_law_1071 dL_law_1072 ?_
  refine l_callV (As := [.int (xs (i + 1)), .int (xs (i + 2)), .int (xs (i + 3))]) (rest := []) C (c_X6_best e1) dL_law_1073 lkL_120 (ci := 6) rfl rfl rfl rfl (Nat.le_of_ble_eq_true rfl) (by decide) hcs ?_
  refine l_aload_n C dL_law_1076 rfl rfl ?_
  refine l_arg (k := 1) C hL hi (by decide) dL_law_1077 rfl dL_law_1078 rfl dL_law_1079 (by decide) dL_law_1080 dL_law_1081 ?_
  refine l_arg (k := 2) C hL hi (by decide) dL_law_1082 rfl dL_law_1083 rfl dL_law_1084 (by decide) dL_law_1085 dL_law_1086 ?_
  refine l_arg (k := 3) C hL hi (by decide) dL_law_1087 rfl dL_law_1088 rfl dL_law_1089 (by decide) dL_law_1090 dL_law_1091 ?_
  refine l_callV (As := [.int (xs (i + 1)), .int (xs (i + 2)), .int (xs (i + 3))]) (rest := [.int v]) C (c_X7_best e2) dL_law_1092 lkL_123 (ci := 7) rfl rfl rfl rfl (Nat.le_of_ble_eq_true rfl) (by decide) hcs ?_
  exact l_icmp_eq (st := []) C dL_law_1095 (by decide) (fun _ => kk g2 p2 b h2) (fun q => absurd rfl q)
theorem law_26 (C : LC G p R s m args c Lx xs) (hL : Lx ≤ 3584) (hi : i + 7 ≤ Lx) (hcs : cells ≤ R.cells ∧ slots ≤ R.slots) (hS : St pp g b) (kk : ∀ (g2 p2 : mI) (b2 : Bool), St p2 g2 b2 → ML G p e R s m args below meth c Q cells slots 1166 [.ref 1000000, .ref 0, .ref 64, .int (nI i)] [] (m_h g2 b2)) : ML G p e R s m args below meth c Q cells slots 1100 [.ref 1000000, .ref 0, .ref 64, .int (nI i)] [] (m_h g b) := by
  obtain ⟨v, e1, e2⟩ := s_about hS (xs (i + 1)) (xs (i + 2)) (xs (i + 3))
  refine l_aload_n C dL_law_1100 rfl rfl ?_
  refine l_arg (k := 1) C hL hi (by decide) dL_law_1101 rfl dL_law_1102 rfl dL_law_1103 (by decide) dL_law_1104 dL_law_1105 ?_
  refine l_arg (k := 2) C hL hi (by decide) dL_law_1106 rfl dL_law_1107 rfl dL_law_1108 (by decide) dL_law_1109 dL_law_1110 ?_
  refine l_arg (k := 3) C hL hi (by decide) dL_law_1111 rfl dL_law_1112 rfl dL_law_1113 (by decide) dL_law_1114 dL_law_1115 ?_
  refine l_callV (As := [.int (xs (i + 1)), .int (xs (i + 2)), .int (xs (i + 3))]) (rest := []) C (c_X6_about e1) dL_law_1116 lkL_124 (ci := 6) rfl rfl rfl rfl (Nat.le_of_ble_eq_true rfl) (by decide) hcs ?_
  refine l_aload_n C dL_law_1119 rfl rfl ?_
  refine l_arg (k := 1) C hL hi (by decide) dL_law_1120 rfl dL_law_1121 rfl dL_law_1122 (by decide) dL_law_1123 dL_law_1124 ?_
  refine l_arg (k := 2) C hL hi (by decide) dL_law_1125 rfl dL_law_1126 rfl dL_law_1127 (by decide) dL_law_1128 dL_law_1129 ?_
  refine l_arg (k := 3) C hL hi (by decide) dL_law_1130 rfl dL_law_1131 rfl dL_law_1132 (by decide) dL_law_1133 dL_law_1134 ?_
  refine l_callV (As := [.int (xs (i + 1)), .int (xs (i + 2)), .int (xs (i + 3))]) (rest := [.int v]) C (c_X7_about e2) dL_law_1135 lkL_127 (ci := 7) rfl rfl rfl rfl (Nat.le_of_ble_eq_true rfl) (by decide) hcs ?_
  exact l_icmp_eq (st := []) C dL_law_1138 (by decide) (fun _ => kk g pp b hS) (fun q => absurd rfl q)
theorem law_27 (C : LC G p R s m args c Lx xs) (hL : Lx ≤ 3584) (hi : i + 7 ≤ Lx) (hcs : cells ≤ R.cells ∧ slots ≤ R.slots) (hS : St pp g b) (kk : ∀ (g2 p2 : mI) (b2 : Bool), St p2 g2 b2 → ML G p e R s m args below meth c Q cells slots 1166 [.ref 1000000, .ref 0, .ref 64, .int (nI i)] [] (m_h g2 b2)) : ML G p e R s m args below meth c Q cells slots 1143 [.ref 1000000, .ref 0, .ref 64, .int (nI i)] [] (m_h g b) := by
  obtain ⟨v, e1, e2⟩ : ∃ v, f_X6_all g (xs (i + 1)) = v ∧ f_X7_all g (xs (i + 1)) = v := ⟨_, rfl, (s_all hS (xs (i + 1))).symm⟩
  refine l_aload_n C dL_law_1143 rfl rfl ?_
  refine l_arg (k := 1) C hL hi (by decide) dL_law_1144 rfl dL_law_1145 rfl dL_law_1146 (by decide) dL_law_1147 dL_law_1148 ?_
  refine l_callV (As := [.int (xs (i + 1))]) (rest := []) C (c_X6_all e1) dL_law_1149 lkL_128 (ci := 6) rfl rfl rfl rfl (Nat.le_of_ble_eq_true rfl) (by decide) hcs ?_
  refine l_aload_n C dL_law_1152 rfl rfl ?_
  refine l_arg (k := 1) C hL hi (by decide) dL_law_1153 rfl dL_law_1154 rfl dL_law_1155 (by decide) dL_law_1156 dL_law_1157 ?_
  refine l_callV (As := [.int (xs (i + 1))]) (rest := [.int v]) C (c_X7_all e2) dL_law_1158 lkL_131 (ci := 7) rfl rfl rfl rfl (Nat.le_of_ble_eq_true rfl) (by decide) hcs ?_
  exact l_icmp_eq (st := []) C dL_law_1161 (by decide) (fun _ => kk g pp b hS) (fun q => absurd rfl q)
end LV
