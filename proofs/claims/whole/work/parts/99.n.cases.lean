/-! ===== the law, call by call ===== -/
set_option maxRecDepth 100000 in
set_option maxHeartbeats 4000000 in
theorem law_c0 {Z : hs_Z} {L : Nat} {xs : Nat → Int32} {k n j : Nat} {S : hs_S} {i : Int32} (X : hs_C Z RL cL_law 7 room_1) (hL : hs_SC Z L xs) (hB : ∀ c : Int32, 0 ≤ c.toInt → c.toInt < 7 → 0 ≤ (i + c).toInt ∧ (i + c).toInt < L) (hk : k + 50 ≤ room_1.cells) (hn : n + 1000 ≤ room_1.slots) (h : RR j S) (hj : j < 512) (hw : hs_Wi S) (kk : ∀ T, RR (j + 1) T → hs_Wi T → wa Z (k + 50) (n + 1000) T 2201 (LL i) []) : wa Z k n S 172 (LL i) [] := by
  refine wa_aload_n X 3 rfl dL_law_172 rfl ?_
  refine wa_sc1 X hL (c := 1) 4 0 rfl rfl dL_law_173 dL_law_174 dL_law_176 kc1 dL_law_177 dL_law_178 (hB 1 (by decide) (by decide)) ?_
  refine wa_sc1 X hL (c := 2) 4 0 rfl rfl dL_law_179 dL_law_180 dL_law_182 kc2 dL_law_183 dL_law_184 (hB 2 (by decide) (by decide)) ?_
  refine wa_sc1 X hL (c := 3) 4 0 rfl rfl dL_law_185 dL_law_186 dL_law_188 kc3 dL_law_189 dL_law_190 (hB 3 (by decide) (by decide)) ?_
  refine wa_sc1 X hL (c := 4) 4 0 rfl rfl dL_law_191 dL_law_192 dL_law_194 kc4 dL_law_195 dL_law_196 (hB 4 (by decide) (by decide)) ?_
  refine wa_aload_n X 1 rfl dL_law_197 rfl ?_
  refine wa_callSW X (As := [.inr (.inr (10, 1)), .inl (xs (i + 1).toNatClampNeg), .inl (xs (i + 2).toNatClampNeg), .inl (xs (i + 3).toNatClampNeg), .inl (xs (i + 4).toNatClampNeg), .inr (.inr (100, 1))]) (call_give h hj hw) kw_394 kw_53 kw_392 kw_393 nd_L_give rfl rfl (Nat.le_of_ble_eq_true rfl) dL_law_198 ⟨⟨Nat.le_of_ble_eq_true rfl, Nat.le_of_ble_eq_true rfl⟩, Nat.le_trans (Nat.add_le_add_left (Nat.le_of_ble_eq_true rfl) _) hk, Nat.le_trans (Nat.add_le_add_left (Nat.le_of_ble_eq_true rfl) _) hn⟩ (fun v S1 hq => ?_) (fun _ _ hq => hq.elim)
  obtain ⟨hw1, r1, rfl, hv⟩ := hq
  refine wa_istore X (lv' := (5, .inl r1) :: LL i) dL_law_201 (by decide) rfl ?_
  refine wa_aload_n X 3 rfl dL_law_203 rfl ?_
  refine wa_sc1 X hL (c := 1) 5 1 rfl rfl dL_law_204 dL_law_205 dL_law_207 kc1 dL_law_208 dL_law_209 (hB 1 (by decide) (by decide)) ?_
  refine wa_sc1 X hL (c := 2) 5 1 rfl rfl dL_law_210 dL_law_211 dL_law_213 kc2 dL_law_214 dL_law_215 (hB 2 (by decide) (by decide)) ?_
  refine wa_sc1 X hL (c := 3) 5 1 rfl rfl dL_law_216 dL_law_217 dL_law_219 kc3 dL_law_220 dL_law_221 (hB 3 (by decide) (by decide)) ?_
  refine wa_sc1 X hL (c := 4) 5 1 rfl rfl dL_law_222 dL_law_223 dL_law_225 kc4 dL_law_226 dL_law_227 (hB 4 (by decide) (by decide)) ?_
  refine wa_callV X (As := [.inl (xs (i + 1).toNatClampNeg), .inl (xs (i + 2).toNatClampNeg), .inl (xs (i + 3).toNatClampNeg), .inl (xs (i + 4).toNatClampNeg)]) (hv hw1) hk_11 hc_11 rfl kw_1373 kw_66 kw_1370 kw_1371 kw_1372 nd_X11_give rfl rfl (Nat.le_of_ble_eq_true rfl) dL_law_228 hs_1ne ⟨⟨Nat.le_of_ble_eq_true rfl, Nat.le_of_ble_eq_true rfl⟩, Nat.le_trans (by rw [Nat.add_assoc]; exact Nat.add_le_add_left (Nat.le_of_ble_eq_true rfl) _) hk, Nat.le_trans (by rw [Nat.add_assoc]; exact Nat.add_le_add_left (Nat.le_of_ble_eq_true rfl) _) hn⟩ (fun v T hq => ?_) (fun _ _ hq => hq.elim)
  obtain ⟨hw2, r2, rfl, hOK⟩ := hq
  refine wa_istore X (lv' := (6, .inl r2) :: (5, .inl r1) :: LL i) dL_law_231 (by decide) rfl ?_
  refine wa_wid (k' := k + 50) (n' := n + 1000) (by omega) (by omega) ?_
  exact law_tail (L := L) (xs := xs) X hk hn hw2 hOK dL_law_233 dL_law_234 dL_law_237 dL_law_239 dL_law_244 dL_law_246 dL_law_249 dL_law_250 dL_law_251 dL_law_252 dL_law_254 dL_law_255 dL_law_256 dL_law_261 (by decide) kk

set_option maxRecDepth 100000 in
set_option maxHeartbeats 4000000 in
theorem law_c1 {Z : hs_Z} {L : Nat} {xs : Nat → Int32} {k n j : Nat} {S : hs_S} {i : Int32} (X : hs_C Z RL cL_law 7 room_1) (hL : hs_SC Z L xs) (hB : ∀ c : Int32, 0 ≤ c.toInt → c.toInt < 7 → 0 ≤ (i + c).toInt ∧ (i + c).toInt < L) (hk : k + 50 ≤ room_1.cells) (hn : n + 1000 ≤ room_1.slots) (h : RR j S) (hj : j < 512) (hw : hs_Wi S) (kk : ∀ T, RR (j + 1) T → hs_Wi T → wa Z (k + 50) (n + 1000) T 2201 (LL i) []) : wa Z k n S 264 (LL i) [] := by
  refine wa_aload_n X 3 rfl dL_law_264 rfl ?_
  refine wa_sc1 X hL (c := 1) 4 0 rfl rfl dL_law_265 dL_law_266 dL_law_268 kc1 dL_law_269 dL_law_270 (hB 1 (by decide) (by decide)) ?_
  refine wa_sc1 X hL (c := 2) 4 0 rfl rfl dL_law_271 dL_law_272 dL_law_274 kc2 dL_law_275 dL_law_276 (hB 2 (by decide) (by decide)) ?_
  refine wa_sc1 X hL (c := 3) 4 0 rfl rfl dL_law_277 dL_law_278 dL_law_280 kc3 dL_law_281 dL_law_282 (hB 3 (by decide) (by decide)) ?_
  refine wa_sc1 X hL (c := 4) 4 0 rfl rfl dL_law_283 dL_law_284 dL_law_286 kc4 dL_law_287 dL_law_288 (hB 4 (by decide) (by decide)) ?_
  refine wa_sc1 X hL (c := 5) 4 0 rfl rfl dL_law_289 dL_law_290 dL_law_292 kc5 dL_law_293 dL_law_294 (hB 5 (by decide) (by decide)) ?_
  refine wa_sc2 X hL (c := 6) 4 0 rfl rfl dL_law_295 dL_law_296 dL_law_298 (by decide) dL_law_300 dL_law_301 (hB 6 (by decide) (by decide)) ?_
  refine wa_nz X dL_law_302 dL_law_305 dL_law_306 dL_law_309 ?_
  refine wa_aload_n X 1 rfl dL_law_310 rfl ?_
  refine wa_callSW X (As := [.inr (.inr (10, 1)), .inl (xs (i + 1).toNatClampNeg), .inl (xs (i + 2).toNatClampNeg), .inl (xs (i + 3).toNatClampNeg), .inl (xs (i + 4).toNatClampNeg), .inl (xs (i + 5).toNatClampNeg), .inl (b01 (xs (i + 6).toNatClampNeg)), .inr (.inr (100, 1))]) (call_let h hj hw) kw_506 kw_53 kw_504 kw_505 nd_L_let rfl rfl (Nat.le_of_ble_eq_true rfl) dL_law_311 ⟨⟨Nat.le_of_ble_eq_true rfl, Nat.le_of_ble_eq_true rfl⟩, Nat.le_trans (Nat.add_le_add_left (Nat.le_of_ble_eq_true rfl) _) hk, Nat.le_trans (Nat.add_le_add_left (Nat.le_of_ble_eq_true rfl) _) hn⟩ (fun v S1 hq => ?_) (fun _ _ hq => hq.elim)
  obtain ⟨hw1, r1, rfl, hv⟩ := hq
  refine wa_istore X (lv' := (5, .inl r1) :: LL i) dL_law_314 (by decide) rfl ?_
  refine wa_aload_n X 3 rfl dL_law_316 rfl ?_
  refine wa_sc1 X hL (c := 1) 5 1 rfl rfl dL_law_317 dL_law_318 dL_law_320 kc1 dL_law_321 dL_law_322 (hB 1 (by decide) (by decide)) ?_
  refine wa_sc1 X hL (c := 2) 5 1 rfl rfl dL_law_323 dL_law_324 dL_law_326 kc2 dL_law_327 dL_law_328 (hB 2 (by decide) (by decide)) ?_
  refine wa_sc1 X hL (c := 3) 5 1 rfl rfl dL_law_329 dL_law_330 dL_law_332 kc3 dL_law_333 dL_law_334 (hB 3 (by decide) (by decide)) ?_
  refine wa_sc1 X hL (c := 4) 5 1 rfl rfl dL_law_335 dL_law_336 dL_law_338 kc4 dL_law_339 dL_law_340 (hB 4 (by decide) (by decide)) ?_
  refine wa_sc1 X hL (c := 5) 5 1 rfl rfl dL_law_341 dL_law_342 dL_law_344 kc5 dL_law_345 dL_law_346 (hB 5 (by decide) (by decide)) ?_
  refine wa_sc2 X hL (c := 6) 5 1 rfl rfl dL_law_347 dL_law_348 dL_law_350 (by decide) dL_law_352 dL_law_353 (hB 6 (by decide) (by decide)) ?_
  refine wa_nz X dL_law_354 dL_law_357 dL_law_358 dL_law_361 ?_
  refine wa_callV X (As := [.inl (xs (i + 1).toNatClampNeg), .inl (xs (i + 2).toNatClampNeg), .inl (xs (i + 3).toNatClampNeg), .inl (xs (i + 4).toNatClampNeg), .inl (xs (i + 5).toNatClampNeg), .inl (b01 (xs (i + 6).toNatClampNeg))]) (hv hw1) hk_11 hc_11 rfl kw_1395 kw_66 kw_1392 kw_1393 kw_1394 nd_X11_let rfl rfl (Nat.le_of_ble_eq_true rfl) dL_law_362 hs_1ne ⟨⟨Nat.le_of_ble_eq_true rfl, Nat.le_of_ble_eq_true rfl⟩, Nat.le_trans (by rw [Nat.add_assoc]; exact Nat.add_le_add_left (Nat.le_of_ble_eq_true rfl) _) hk, Nat.le_trans (by rw [Nat.add_assoc]; exact Nat.add_le_add_left (Nat.le_of_ble_eq_true rfl) _) hn⟩ (fun v T hq => ?_) (fun _ _ hq => hq.elim)
  obtain ⟨hw2, r2, rfl, hOK⟩ := hq
  refine wa_istore X (lv' := (6, .inl r2) :: (5, .inl r1) :: LL i) dL_law_365 (by decide) rfl ?_
  refine wa_wid (k' := k + 50) (n' := n + 1000) (by omega) (by omega) ?_
  exact law_tail (L := L) (xs := xs) X hk hn hw2 hOK dL_law_367 dL_law_368 dL_law_371 dL_law_373 dL_law_378 dL_law_380 dL_law_383 dL_law_384 dL_law_385 dL_law_386 dL_law_388 dL_law_389 dL_law_390 dL_law_395 (by decide) kk

set_option maxRecDepth 100000 in
set_option maxHeartbeats 4000000 in
theorem law_c2 {Z : hs_Z} {L : Nat} {xs : Nat → Int32} {k n j : Nat} {S : hs_S} {i : Int32} (X : hs_C Z RL cL_law 7 room_1) (hL : hs_SC Z L xs) (hB : ∀ c : Int32, 0 ≤ c.toInt → c.toInt < 7 → 0 ≤ (i + c).toInt ∧ (i + c).toInt < L) (hk : k + 50 ≤ room_1.cells) (hn : n + 1000 ≤ room_1.slots) (h : RR j S) (hj : j < 512) (hw : hs_Wi S) (kk : ∀ T, RR (j + 1) T → hs_Wi T → wa Z (k + 50) (n + 1000) T 2201 (LL i) []) : wa Z k n S 398 (LL i) [] := by
  refine wa_aload_n X 3 rfl dL_law_398 rfl ?_
  refine wa_sc1 X hL (c := 1) 4 0 rfl rfl dL_law_399 dL_law_400 dL_law_402 kc1 dL_law_403 dL_law_404 (hB 1 (by decide) (by decide)) ?_
  refine wa_sc1 X hL (c := 2) 4 0 rfl rfl dL_law_405 dL_law_406 dL_law_408 kc2 dL_law_409 dL_law_410 (hB 2 (by decide) (by decide)) ?_
  refine wa_aload_n X 1 rfl dL_law_411 rfl ?_
  refine wa_callSW X (As := [.inr (.inr (10, 1)), .inl (xs (i + 1).toNatClampNeg), .inl (xs (i + 2).toNatClampNeg), .inr (.inr (100, 1))]) (call_ownerOf h hj hw) kw_535 kw_53 kw_533 kw_534 nd_L_ownerOf rfl rfl (Nat.le_of_ble_eq_true rfl) dL_law_412 ⟨⟨Nat.le_of_ble_eq_true rfl, Nat.le_of_ble_eq_true rfl⟩, Nat.le_trans (Nat.add_le_add_left (Nat.le_of_ble_eq_true rfl) _) hk, Nat.le_trans (Nat.add_le_add_left (Nat.le_of_ble_eq_true rfl) _) hn⟩ (fun v S1 hq => ?_) (fun _ _ hq => hq.elim)
  obtain ⟨hw1, r1, rfl, hv⟩ := hq
  refine wa_istore X (lv' := (5, .inl r1) :: LL i) dL_law_415 (by decide) rfl ?_
  refine wa_aload_n X 3 rfl dL_law_417 rfl ?_
  refine wa_sc1 X hL (c := 1) 5 1 rfl rfl dL_law_418 dL_law_419 dL_law_421 kc1 dL_law_422 dL_law_423 (hB 1 (by decide) (by decide)) ?_
  refine wa_sc1 X hL (c := 2) 5 1 rfl rfl dL_law_424 dL_law_425 dL_law_427 kc2 dL_law_428 dL_law_429 (hB 2 (by decide) (by decide)) ?_
  refine wa_callV X (As := [.inl (xs (i + 1).toNatClampNeg), .inl (xs (i + 2).toNatClampNeg)]) (hv hw1) hk_11 hc_11 rfl kw_1403 kw_66 kw_1400 kw_1401 kw_1402 nd_X11_ownerOf rfl rfl (Nat.le_of_ble_eq_true rfl) dL_law_430 hs_1ne ⟨⟨Nat.le_of_ble_eq_true rfl, Nat.le_of_ble_eq_true rfl⟩, Nat.le_trans (by rw [Nat.add_assoc]; exact Nat.add_le_add_left (Nat.le_of_ble_eq_true rfl) _) hk, Nat.le_trans (by rw [Nat.add_assoc]; exact Nat.add_le_add_left (Nat.le_of_ble_eq_true rfl) _) hn⟩ (fun v T hq => ?_) (fun _ _ hq => hq.elim)
  obtain ⟨hw2, r2, rfl, hOK⟩ := hq
  refine wa_istore X (lv' := (6, .inl r2) :: (5, .inl r1) :: LL i) dL_law_433 (by decide) rfl ?_
  refine wa_wid (k' := k + 50) (n' := n + 1000) (by omega) (by omega) ?_
  exact law_tail (L := L) (xs := xs) X hk hn hw2 hOK dL_law_435 dL_law_436 dL_law_439 dL_law_441 dL_law_446 dL_law_448 dL_law_451 dL_law_452 dL_law_453 dL_law_454 dL_law_456 dL_law_457 dL_law_458 dL_law_463 (by decide) kk

set_option maxRecDepth 100000 in
set_option maxHeartbeats 4000000 in
theorem law_c3 {Z : hs_Z} {L : Nat} {xs : Nat → Int32} {k n j : Nat} {S : hs_S} {i : Int32} (X : hs_C Z RL cL_law 7 room_1) (hL : hs_SC Z L xs) (hB : ∀ c : Int32, 0 ≤ c.toInt → c.toInt < 7 → 0 ≤ (i + c).toInt ∧ (i + c).toInt < L) (hk : k + 50 ≤ room_1.cells) (hn : n + 1000 ≤ room_1.slots) (h : RR j S) (hj : j < 512) (hw : hs_Wi S) (kk : ∀ T, RR (j + 1) T → hs_Wi T → wa Z (k + 50) (n + 1000) T 2201 (LL i) []) : wa Z k n S 466 (LL i) [] := by
  refine wa_aload_n X 3 rfl dL_law_466 rfl ?_
  refine wa_sc1 X hL (c := 1) 4 0 rfl rfl dL_law_467 dL_law_468 dL_law_470 kc1 dL_law_471 dL_law_472 (hB 1 (by decide) (by decide)) ?_
  refine wa_sc1 X hL (c := 2) 4 0 rfl rfl dL_law_473 dL_law_474 dL_law_476 kc2 dL_law_477 dL_law_478 (hB 2 (by decide) (by decide)) ?_
  refine wa_sc1 X hL (c := 3) 4 0 rfl rfl dL_law_479 dL_law_480 dL_law_482 kc3 dL_law_483 dL_law_484 (hB 3 (by decide) (by decide)) ?_
  refine wa_aload_n X 1 rfl dL_law_485 rfl ?_
  refine wa_callSW X (As := [.inr (.inr (10, 1)), .inl (xs (i + 1).toNatClampNeg), .inl (xs (i + 2).toNatClampNeg), .inl (xs (i + 3).toNatClampNeg), .inr (.inr (100, 1))]) (callb_reads h hj hw) kw_542 kw_53 kw_540 kw_541 nd_L_reads rfl rfl (Nat.le_of_ble_eq_true rfl) dL_law_486 ⟨⟨Nat.le_of_ble_eq_true rfl, Nat.le_of_ble_eq_true rfl⟩, Nat.le_trans (Nat.add_le_add_left (Nat.le_of_ble_eq_true rfl) _) hk, Nat.le_trans (Nat.add_le_add_left (Nat.le_of_ble_eq_true rfl) _) hn⟩ (fun v S1 hq => ?_) (fun _ _ hq => hq.elim)
  obtain ⟨hw1, r1, rfl, hv⟩ := hq
  refine wa_istore X (lv' := (5, .inl r1) :: LL i) dL_law_489 (by decide) rfl ?_
  refine wa_aload_n X 3 rfl dL_law_491 rfl ?_
  refine wa_sc1 X hL (c := 1) 5 1 rfl rfl dL_law_492 dL_law_493 dL_law_495 kc1 dL_law_496 dL_law_497 (hB 1 (by decide) (by decide)) ?_
  refine wa_sc1 X hL (c := 2) 5 1 rfl rfl dL_law_498 dL_law_499 dL_law_501 kc2 dL_law_502 dL_law_503 (hB 2 (by decide) (by decide)) ?_
  refine wa_sc1 X hL (c := 3) 5 1 rfl rfl dL_law_504 dL_law_505 dL_law_507 kc3 dL_law_508 dL_law_509 (hB 3 (by decide) (by decide)) ?_
  refine wa_callV X (As := [.inl (xs (i + 1).toNatClampNeg), .inl (xs (i + 2).toNatClampNeg), .inl (xs (i + 3).toNatClampNeg)]) (hv hw1) hk_11 hc_11 rfl kw_1407 kw_66 kw_1404 kw_1405 kw_1406 nd_X11_reads rfl rfl (Nat.le_of_ble_eq_true rfl) dL_law_510 hs_1ne ⟨⟨Nat.le_of_ble_eq_true rfl, Nat.le_of_ble_eq_true rfl⟩, Nat.le_trans (by rw [Nat.add_assoc]; exact Nat.add_le_add_left (Nat.le_of_ble_eq_true rfl) _) hk, Nat.le_trans (by rw [Nat.add_assoc]; exact Nat.add_le_add_left (Nat.le_of_ble_eq_true rfl) _) hn⟩ (fun v T hq => ?_) (fun _ _ hq => hq.elim)
  obtain ⟨hw2, r2, rfl, hOK⟩ := hq
  refine wa_istore X (lv' := (6, .inl r2) :: (5, .inl r1) :: LL i) dL_law_513 (by decide) rfl ?_
  refine wa_wid (k' := k + 50) (n' := n + 1000) (by omega) (by omega) ?_
  exact law_tailb (L := L) (xs := xs) X hk hn hw2 hOK dL_law_515 dL_law_516 dL_law_519 dL_law_521 dL_law_526 dL_law_528 dL_law_531 dL_law_532 dL_law_533 dL_law_534 dL_law_536 dL_law_539 dL_law_540 dL_law_543 dL_law_544 dL_law_545 dL_law_550 (by decide) kk

set_option maxRecDepth 100000 in
set_option maxHeartbeats 4000000 in
theorem law_c4 {Z : hs_Z} {L : Nat} {xs : Nat → Int32} {k n j : Nat} {S : hs_S} {i : Int32} (X : hs_C Z RL cL_law 7 room_1) (hL : hs_SC Z L xs) (hB : ∀ c : Int32, 0 ≤ c.toInt → c.toInt < 7 → 0 ≤ (i + c).toInt ∧ (i + c).toInt < L) (hk : k + 50 ≤ room_1.cells) (hn : n + 1000 ≤ room_1.slots) (h : RR j S) (hj : j < 512) (hw : hs_Wi S) (kk : ∀ T, RR (j + 1) T → hs_Wi T → wa Z (k + 50) (n + 1000) T 2201 (LL i) []) : wa Z k n S 553 (LL i) [] := by
  refine wa_aload_n X 3 rfl dL_law_553 rfl ?_
  refine wa_sc1 X hL (c := 1) 4 0 rfl rfl dL_law_554 dL_law_555 dL_law_557 kc1 dL_law_558 dL_law_559 (hB 1 (by decide) (by decide)) ?_
  refine wa_sc1 X hL (c := 2) 4 0 rfl rfl dL_law_560 dL_law_561 dL_law_563 kc2 dL_law_564 dL_law_565 (hB 2 (by decide) (by decide)) ?_
  refine wa_sc1 X hL (c := 3) 4 0 rfl rfl dL_law_566 dL_law_567 dL_law_569 kc3 dL_law_570 dL_law_571 (hB 3 (by decide) (by decide)) ?_
  refine wa_aload_n X 1 rfl dL_law_572 rfl ?_
  refine wa_callSW X (As := [.inr (.inr (10, 1)), .inl (xs (i + 1).toNatClampNeg), .inl (xs (i + 2).toNatClampNeg), .inl (xs (i + 3).toNatClampNeg), .inr (.inr (100, 1))]) (call_word h hj hw) kw_553 kw_53 kw_551 kw_552 nd_L_word rfl rfl (Nat.le_of_ble_eq_true rfl) dL_law_573 ⟨⟨Nat.le_of_ble_eq_true rfl, Nat.le_of_ble_eq_true rfl⟩, Nat.le_trans (Nat.add_le_add_left (Nat.le_of_ble_eq_true rfl) _) hk, Nat.le_trans (Nat.add_le_add_left (Nat.le_of_ble_eq_true rfl) _) hn⟩ (fun v S1 hq => ?_) (fun _ _ hq => hq.elim)
  obtain ⟨hw1, r1, rfl, hv⟩ := hq
  refine wa_istore X (lv' := (5, .inl r1) :: LL i) dL_law_576 (by decide) rfl ?_
  refine wa_aload_n X 3 rfl dL_law_578 rfl ?_
  refine wa_sc1 X hL (c := 1) 5 1 rfl rfl dL_law_579 dL_law_580 dL_law_582 kc1 dL_law_583 dL_law_584 (hB 1 (by decide) (by decide)) ?_
  refine wa_sc1 X hL (c := 2) 5 1 rfl rfl dL_law_585 dL_law_586 dL_law_588 kc2 dL_law_589 dL_law_590 (hB 2 (by decide) (by decide)) ?_
  refine wa_sc1 X hL (c := 3) 5 1 rfl rfl dL_law_591 dL_law_592 dL_law_594 kc3 dL_law_595 dL_law_596 (hB 3 (by decide) (by decide)) ?_
  refine wa_callV X (As := [.inl (xs (i + 1).toNatClampNeg), .inl (xs (i + 2).toNatClampNeg), .inl (xs (i + 3).toNatClampNeg)]) (hv hw1) hk_11 hc_11 rfl kw_1415 kw_66 kw_1412 kw_1413 kw_1414 nd_X11_word rfl rfl (Nat.le_of_ble_eq_true rfl) dL_law_597 hs_1ne ⟨⟨Nat.le_of_ble_eq_true rfl, Nat.le_of_ble_eq_true rfl⟩, Nat.le_trans (by rw [Nat.add_assoc]; exact Nat.add_le_add_left (Nat.le_of_ble_eq_true rfl) _) hk, Nat.le_trans (by rw [Nat.add_assoc]; exact Nat.add_le_add_left (Nat.le_of_ble_eq_true rfl) _) hn⟩ (fun v T hq => ?_) (fun _ _ hq => hq.elim)
  obtain ⟨hw2, r2, rfl, hOK⟩ := hq
  refine wa_istore X (lv' := (6, .inl r2) :: (5, .inl r1) :: LL i) dL_law_600 (by decide) rfl ?_
  refine wa_wid (k' := k + 50) (n' := n + 1000) (by omega) (by omega) ?_
  exact law_tail (L := L) (xs := xs) X hk hn hw2 hOK dL_law_602 dL_law_603 dL_law_606 dL_law_608 dL_law_613 dL_law_615 dL_law_618 dL_law_619 dL_law_620 dL_law_621 dL_law_623 dL_law_624 dL_law_625 dL_law_630 (by decide) kk

set_option maxRecDepth 100000 in
set_option maxHeartbeats 4000000 in
theorem law_c5 {Z : hs_Z} {L : Nat} {xs : Nat → Int32} {k n j : Nat} {S : hs_S} {i : Int32} (X : hs_C Z RL cL_law 7 room_1) (hL : hs_SC Z L xs) (hB : ∀ c : Int32, 0 ≤ c.toInt → c.toInt < 7 → 0 ≤ (i + c).toInt ∧ (i + c).toInt < L) (hk : k + 50 ≤ room_1.cells) (hn : n + 1000 ≤ room_1.slots) (h : RR j S) (hj : j < 512) (hw : hs_Wi S) (kk : ∀ T, RR (j + 1) T → hs_Wi T → wa Z (k + 50) (n + 1000) T 2201 (LL i) []) : wa Z k n S 633 (LL i) [] := by
  refine wa_aload_n X 3 rfl dL_law_633 rfl ?_
  refine wa_callV X (As := []) (call_wipe h hj hw) hk_10 hc_10 rfl kw_383 kw_54 kw_380 kw_381 kw_382 nd_X10_wipe rfl rfl (Nat.le_of_ble_eq_true rfl) dL_law_634 hs_1ne ⟨⟨Nat.le_of_ble_eq_true rfl, Nat.le_of_ble_eq_true rfl⟩, Nat.le_trans (Nat.add_le_add_left (Nat.le_of_ble_eq_true rfl) _) hk, Nat.le_trans (Nat.add_le_add_left (Nat.le_of_ble_eq_true rfl) _) hn⟩ (fun v S1 hq => ?_) (fun _ _ hq => hq.elim)
  obtain ⟨hw1, r1, rfl, hv⟩ := hq
  refine wa_aload_n X 2 rfl dL_law_637 rfl ?_
  refine wa_callV X (As := []) (hv hw1) hk_11 hc_11 rfl kw_1431 kw_66 kw_1428 kw_1429 kw_1430 nd_X11_wipe rfl rfl (Nat.le_of_ble_eq_true rfl) dL_law_638 hs_1ne ⟨⟨Nat.le_of_ble_eq_true rfl, Nat.le_of_ble_eq_true rfl⟩, Nat.le_trans (by rw [Nat.add_assoc]; exact Nat.add_le_add_left (Nat.le_of_ble_eq_true rfl) _) hk, Nat.le_trans (by rw [Nat.add_assoc]; exact Nat.add_le_add_left (Nat.le_of_ble_eq_true rfl) _) hn⟩ (fun v T hq => ?_) (fun _ _ hq => hq.elim)
  obtain ⟨hw2, r2, rfl, hRR, hr⟩ := hq
  refine wa_icmp_eq X (tgt := 2201) dL_law_641 (by decide) (fun _ => ?_) (fun hc => absurd hr hc)
  exact wa_wid (by omega) (by omega) (kk T hRR hw2)

set_option maxRecDepth 100000 in
set_option maxHeartbeats 4000000 in
theorem law_c6 {Z : hs_Z} {L : Nat} {xs : Nat → Int32} {k n j : Nat} {S : hs_S} {i : Int32} (X : hs_C Z RL cL_law 7 room_1) (hL : hs_SC Z L xs) (hB : ∀ c : Int32, 0 ≤ c.toInt → c.toInt < 7 → 0 ≤ (i + c).toInt ∧ (i + c).toInt < L) (hk : k + 50 ≤ room_1.cells) (hn : n + 1000 ≤ room_1.slots) (h : RR j S) (hj : j < 512) (hw : hs_Wi S) (kk : ∀ T, RR (j + 1) T → hs_Wi T → wa Z (k + 50) (n + 1000) T 2201 (LL i) []) : wa Z k n S 646 (LL i) [] := by
  refine wa_aload_n X 3 rfl dL_law_646 rfl ?_
  refine wa_sc1 X hL (c := 1) 4 0 rfl rfl dL_law_647 dL_law_648 dL_law_650 kc1 dL_law_651 dL_law_652 (hB 1 (by decide) (by decide)) ?_
  refine wa_sc1 X hL (c := 2) 4 0 rfl rfl dL_law_653 dL_law_654 dL_law_656 kc2 dL_law_657 dL_law_658 (hB 2 (by decide) (by decide)) ?_
  refine wa_sc1 X hL (c := 3) 4 0 rfl rfl dL_law_659 dL_law_660 dL_law_662 kc3 dL_law_663 dL_law_664 (hB 3 (by decide) (by decide)) ?_
  refine wa_aload_n X 1 rfl dL_law_665 rfl ?_
  refine wa_callSW X (As := [.inr (.inr (10, 1)), .inl (xs (i + 1).toNatClampNeg), .inl (xs (i + 2).toNatClampNeg), .inl (xs (i + 3).toNatClampNeg), .inr (.inr (100, 1))]) (call_enter h hj hw) kw_574 kw_53 kw_572 kw_573 nd_L_enter rfl rfl (Nat.le_of_ble_eq_true rfl) dL_law_666 ⟨⟨Nat.le_of_ble_eq_true rfl, Nat.le_of_ble_eq_true rfl⟩, Nat.le_trans (Nat.add_le_add_left (Nat.le_of_ble_eq_true rfl) _) hk, Nat.le_trans (Nat.add_le_add_left (Nat.le_of_ble_eq_true rfl) _) hn⟩ (fun v S1 hq => ?_) (fun _ _ hq => hq.elim)
  obtain ⟨hw1, r1, rfl, hv⟩ := hq
  refine wa_istore X (lv' := (5, .inl r1) :: LL i) dL_law_669 (by decide) rfl ?_
  refine wa_aload_n X 3 rfl dL_law_671 rfl ?_
  refine wa_sc1 X hL (c := 1) 5 1 rfl rfl dL_law_672 dL_law_673 dL_law_675 kc1 dL_law_676 dL_law_677 (hB 1 (by decide) (by decide)) ?_
  refine wa_sc1 X hL (c := 2) 5 1 rfl rfl dL_law_678 dL_law_679 dL_law_681 kc2 dL_law_682 dL_law_683 (hB 2 (by decide) (by decide)) ?_
  refine wa_sc1 X hL (c := 3) 5 1 rfl rfl dL_law_684 dL_law_685 dL_law_687 kc3 dL_law_688 dL_law_689 (hB 3 (by decide) (by decide)) ?_
  refine wa_callV X (As := [.inl (xs (i + 1).toNatClampNeg), .inl (xs (i + 2).toNatClampNeg), .inl (xs (i + 3).toNatClampNeg)]) (hv hw1) hk_11 hc_11 rfl kw_1435 kw_66 kw_1432 kw_1433 kw_1434 nd_X11_enter rfl rfl (Nat.le_of_ble_eq_true rfl) dL_law_690 hs_1ne ⟨⟨Nat.le_of_ble_eq_true rfl, Nat.le_of_ble_eq_true rfl⟩, Nat.le_trans (by rw [Nat.add_assoc]; exact Nat.add_le_add_left (Nat.le_of_ble_eq_true rfl) _) hk, Nat.le_trans (by rw [Nat.add_assoc]; exact Nat.add_le_add_left (Nat.le_of_ble_eq_true rfl) _) hn⟩ (fun v T hq => ?_) (fun _ _ hq => hq.elim)
  obtain ⟨hw2, r2, rfl, hOK⟩ := hq
  refine wa_istore X (lv' := (6, .inl r2) :: (5, .inl r1) :: LL i) dL_law_693 (by decide) rfl ?_
  refine wa_wid (k' := k + 50) (n' := n + 1000) (by omega) (by omega) ?_
  exact law_tail (L := L) (xs := xs) X hk hn hw2 hOK dL_law_695 dL_law_696 dL_law_699 dL_law_701 dL_law_706 dL_law_708 dL_law_711 dL_law_712 dL_law_713 dL_law_714 dL_law_716 dL_law_717 dL_law_718 dL_law_723 (by decide) kk

set_option maxRecDepth 100000 in
set_option maxHeartbeats 4000000 in
theorem law_c7 {Z : hs_Z} {L : Nat} {xs : Nat → Int32} {k n j : Nat} {S : hs_S} {i : Int32} (X : hs_C Z RL cL_law 7 room_1) (hL : hs_SC Z L xs) (hB : ∀ c : Int32, 0 ≤ c.toInt → c.toInt < 7 → 0 ≤ (i + c).toInt ∧ (i + c).toInt < L) (hk : k + 50 ≤ room_1.cells) (hn : n + 1000 ≤ room_1.slots) (h : RR j S) (hj : j < 512) (hw : hs_Wi S) (kk : ∀ T, RR (j + 1) T → hs_Wi T → wa Z (k + 50) (n + 1000) T 2201 (LL i) []) : wa Z k n S 726 (LL i) [] := by
  refine wa_aload_n X 3 rfl dL_law_726 rfl ?_
  refine wa_sc1 X hL (c := 1) 4 0 rfl rfl dL_law_727 dL_law_728 dL_law_730 kc1 dL_law_731 dL_law_732 (hB 1 (by decide) (by decide)) ?_
  refine wa_sc1 X hL (c := 2) 4 0 rfl rfl dL_law_733 dL_law_734 dL_law_736 kc2 dL_law_737 dL_law_738 (hB 2 (by decide) (by decide)) ?_
  refine wa_sc1 X hL (c := 3) 4 0 rfl rfl dL_law_739 dL_law_740 dL_law_742 kc3 dL_law_743 dL_law_744 (hB 3 (by decide) (by decide)) ?_
  refine wa_aload_n X 1 rfl dL_law_745 rfl ?_
  refine wa_callSW X (As := [.inr (.inr (10, 1)), .inl (xs (i + 1).toNatClampNeg), .inl (xs (i + 2).toNatClampNeg), .inl (xs (i + 3).toNatClampNeg), .inr (.inr (100, 1))]) (call_empty h hj hw) kw_716 kw_53 kw_714 kw_715 nd_L_empty rfl rfl (Nat.le_of_ble_eq_true rfl) dL_law_746 ⟨⟨Nat.le_of_ble_eq_true rfl, Nat.le_of_ble_eq_true rfl⟩, Nat.le_trans (Nat.add_le_add_left (Nat.le_of_ble_eq_true rfl) _) hk, Nat.le_trans (Nat.add_le_add_left (Nat.le_of_ble_eq_true rfl) _) hn⟩ (fun v S1 hq => ?_) (fun _ _ hq => hq.elim)
  obtain ⟨hw1, r1, rfl, hv⟩ := hq
  refine wa_istore X (lv' := (5, .inl r1) :: LL i) dL_law_749 (by decide) rfl ?_
  refine wa_aload_n X 3 rfl dL_law_751 rfl ?_
  refine wa_sc1 X hL (c := 1) 5 1 rfl rfl dL_law_752 dL_law_753 dL_law_755 kc1 dL_law_756 dL_law_757 (hB 1 (by decide) (by decide)) ?_
  refine wa_sc1 X hL (c := 2) 5 1 rfl rfl dL_law_758 dL_law_759 dL_law_761 kc2 dL_law_762 dL_law_763 (hB 2 (by decide) (by decide)) ?_
  refine wa_sc1 X hL (c := 3) 5 1 rfl rfl dL_law_764 dL_law_765 dL_law_767 kc3 dL_law_768 dL_law_769 (hB 3 (by decide) (by decide)) ?_
  refine wa_callV X (As := [.inl (xs (i + 1).toNatClampNeg), .inl (xs (i + 2).toNatClampNeg), .inl (xs (i + 3).toNatClampNeg)]) (hv hw1) hk_11 hc_11 rfl kw_1443 kw_66 kw_1440 kw_1441 kw_1442 nd_X11_empty rfl rfl (Nat.le_of_ble_eq_true rfl) dL_law_770 hs_1ne ⟨⟨Nat.le_of_ble_eq_true rfl, Nat.le_of_ble_eq_true rfl⟩, Nat.le_trans (by rw [Nat.add_assoc]; exact Nat.add_le_add_left (Nat.le_of_ble_eq_true rfl) _) hk, Nat.le_trans (by rw [Nat.add_assoc]; exact Nat.add_le_add_left (Nat.le_of_ble_eq_true rfl) _) hn⟩ (fun v T hq => ?_) (fun _ _ hq => hq.elim)
  obtain ⟨hw2, r2, rfl, hOK⟩ := hq
  refine wa_istore X (lv' := (6, .inl r2) :: (5, .inl r1) :: LL i) dL_law_773 (by decide) rfl ?_
  refine wa_wid (k' := k + 50) (n' := n + 1000) (by omega) (by omega) ?_
  exact law_tail (L := L) (xs := xs) X hk hn hw2 hOK dL_law_775 dL_law_776 dL_law_779 dL_law_781 dL_law_786 dL_law_788 dL_law_791 dL_law_792 dL_law_793 dL_law_794 dL_law_796 dL_law_797 dL_law_798 dL_law_803 (by decide) kk

set_option maxRecDepth 100000 in
set_option maxHeartbeats 4000000 in
theorem law_c8 {Z : hs_Z} {L : Nat} {xs : Nat → Int32} {k n j : Nat} {S : hs_S} {i : Int32} (X : hs_C Z RL cL_law 7 room_1) (hL : hs_SC Z L xs) (hB : ∀ c : Int32, 0 ≤ c.toInt → c.toInt < 7 → 0 ≤ (i + c).toInt ∧ (i + c).toInt < L) (hk : k + 50 ≤ room_1.cells) (hn : n + 1000 ≤ room_1.slots) (h : RR j S) (hj : j < 512) (hw : hs_Wi S) (kk : ∀ T, RR (j + 1) T → hs_Wi T → wa Z (k + 50) (n + 1000) T 2201 (LL i) []) : wa Z k n S 806 (LL i) [] := by
  refine wa_aload_n X 3 rfl dL_law_806 rfl ?_
  refine wa_sc1 X hL (c := 1) 4 0 rfl rfl dL_law_807 dL_law_808 dL_law_810 kc1 dL_law_811 dL_law_812 (hB 1 (by decide) (by decide)) ?_
  refine wa_sc1 X hL (c := 2) 4 0 rfl rfl dL_law_813 dL_law_814 dL_law_816 kc2 dL_law_817 dL_law_818 (hB 2 (by decide) (by decide)) ?_
  refine wa_aload_n X 1 rfl dL_law_819 rfl ?_
  refine wa_callSW X (As := [.inr (.inr (10, 1)), .inl (xs (i + 1).toNatClampNeg), .inl (xs (i + 2).toNatClampNeg), .inr (.inr (100, 1))]) (call_notice h hj hw) kw_723 kw_53 kw_721 kw_722 nd_L_notice rfl rfl (Nat.le_of_ble_eq_true rfl) dL_law_820 ⟨⟨Nat.le_of_ble_eq_true rfl, Nat.le_of_ble_eq_true rfl⟩, Nat.le_trans (Nat.add_le_add_left (Nat.le_of_ble_eq_true rfl) _) hk, Nat.le_trans (Nat.add_le_add_left (Nat.le_of_ble_eq_true rfl) _) hn⟩ (fun v S1 hq => ?_) (fun _ _ hq => hq.elim)
  obtain ⟨hw1, r1, rfl, hv⟩ := hq
  refine wa_istore X (lv' := (5, .inl r1) :: LL i) dL_law_823 (by decide) rfl ?_
  refine wa_aload_n X 3 rfl dL_law_825 rfl ?_
  refine wa_sc1 X hL (c := 1) 5 1 rfl rfl dL_law_826 dL_law_827 dL_law_829 kc1 dL_law_830 dL_law_831 (hB 1 (by decide) (by decide)) ?_
  refine wa_sc1 X hL (c := 2) 5 1 rfl rfl dL_law_832 dL_law_833 dL_law_835 kc2 dL_law_836 dL_law_837 (hB 2 (by decide) (by decide)) ?_
  refine wa_callV X (As := [.inl (xs (i + 1).toNatClampNeg), .inl (xs (i + 2).toNatClampNeg)]) (hv hw1) hk_11 hc_11 rfl kw_1447 kw_66 kw_1444 kw_1445 kw_1446 nd_X11_notice rfl rfl (Nat.le_of_ble_eq_true rfl) dL_law_838 hs_1ne ⟨⟨Nat.le_of_ble_eq_true rfl, Nat.le_of_ble_eq_true rfl⟩, Nat.le_trans (by rw [Nat.add_assoc]; exact Nat.add_le_add_left (Nat.le_of_ble_eq_true rfl) _) hk, Nat.le_trans (by rw [Nat.add_assoc]; exact Nat.add_le_add_left (Nat.le_of_ble_eq_true rfl) _) hn⟩ (fun v T hq => ?_) (fun _ _ hq => hq.elim)
  obtain ⟨hw2, r2, rfl, hOK⟩ := hq
  refine wa_istore X (lv' := (6, .inl r2) :: (5, .inl r1) :: LL i) dL_law_841 (by decide) rfl ?_
  refine wa_wid (k' := k + 50) (n' := n + 1000) (by omega) (by omega) ?_
  exact law_tail (L := L) (xs := xs) X hk hn hw2 hOK dL_law_843 dL_law_844 dL_law_847 dL_law_849 dL_law_854 dL_law_856 dL_law_859 dL_law_860 dL_law_861 dL_law_862 dL_law_864 dL_law_865 dL_law_866 dL_law_871 (by decide) kk

set_option maxRecDepth 100000 in
set_option maxHeartbeats 4000000 in
theorem law_c9 {Z : hs_Z} {L : Nat} {xs : Nat → Int32} {k n j : Nat} {S : hs_S} {i : Int32} (X : hs_C Z RL cL_law 7 room_1) (hL : hs_SC Z L xs) (hB : ∀ c : Int32, 0 ≤ c.toInt → c.toInt < 7 → 0 ≤ (i + c).toInt ∧ (i + c).toInt < L) (hk : k + 50 ≤ room_1.cells) (hn : n + 1000 ≤ room_1.slots) (h : RR j S) (hj : j < 512) (hw : hs_Wi S) (kk : ∀ T, RR (j + 1) T → hs_Wi T → wa Z (k + 50) (n + 1000) T 2201 (LL i) []) : wa Z k n S 874 (LL i) [] := by
  refine wa_aload_n X 3 rfl dL_law_874 rfl ?_
  refine wa_sc1 X hL (c := 1) 4 0 rfl rfl dL_law_875 dL_law_876 dL_law_878 kc1 dL_law_879 dL_law_880 (hB 1 (by decide) (by decide)) ?_
  refine wa_sc1 X hL (c := 2) 4 0 rfl rfl dL_law_881 dL_law_882 dL_law_884 kc2 dL_law_885 dL_law_886 (hB 2 (by decide) (by decide)) ?_
  refine wa_sc1 X hL (c := 3) 4 0 rfl rfl dL_law_887 dL_law_888 dL_law_890 kc3 dL_law_891 dL_law_892 (hB 3 (by decide) (by decide)) ?_
  refine wa_aload_n X 1 rfl dL_law_893 rfl ?_
  refine wa_callSW X (As := [.inr (.inr (10, 1)), .inl (xs (i + 1).toNatClampNeg), .inl (xs (i + 2).toNatClampNeg), .inl (xs (i + 3).toNatClampNeg), .inr (.inr (100, 1))]) (call_value h hj hw) kw_731 kw_53 kw_729 kw_730 nd_L_value rfl rfl (Nat.le_of_ble_eq_true rfl) dL_law_894 ⟨⟨Nat.le_of_ble_eq_true rfl, Nat.le_of_ble_eq_true rfl⟩, Nat.le_trans (Nat.add_le_add_left (Nat.le_of_ble_eq_true rfl) _) hk, Nat.le_trans (Nat.add_le_add_left (Nat.le_of_ble_eq_true rfl) _) hn⟩ (fun v S1 hq => ?_) (fun _ _ hq => hq.elim)
  obtain ⟨hw1, r1, rfl, hv⟩ := hq
  refine wa_istore X (lv' := (5, .inl r1) :: LL i) dL_law_897 (by decide) rfl ?_
  refine wa_aload_n X 3 rfl dL_law_899 rfl ?_
  refine wa_sc1 X hL (c := 1) 5 1 rfl rfl dL_law_900 dL_law_901 dL_law_903 kc1 dL_law_904 dL_law_905 (hB 1 (by decide) (by decide)) ?_
  refine wa_sc1 X hL (c := 2) 5 1 rfl rfl dL_law_906 dL_law_907 dL_law_909 kc2 dL_law_910 dL_law_911 (hB 2 (by decide) (by decide)) ?_
  refine wa_sc1 X hL (c := 3) 5 1 rfl rfl dL_law_912 dL_law_913 dL_law_915 kc3 dL_law_916 dL_law_917 (hB 3 (by decide) (by decide)) ?_
  refine wa_callV X (As := [.inl (xs (i + 1).toNatClampNeg), .inl (xs (i + 2).toNatClampNeg), .inl (xs (i + 3).toNatClampNeg)]) (hv hw1) hk_11 hc_11 rfl kw_1451 kw_66 kw_1448 kw_1449 kw_1450 nd_X11_value rfl rfl (Nat.le_of_ble_eq_true rfl) dL_law_918 hs_1ne ⟨⟨Nat.le_of_ble_eq_true rfl, Nat.le_of_ble_eq_true rfl⟩, Nat.le_trans (by rw [Nat.add_assoc]; exact Nat.add_le_add_left (Nat.le_of_ble_eq_true rfl) _) hk, Nat.le_trans (by rw [Nat.add_assoc]; exact Nat.add_le_add_left (Nat.le_of_ble_eq_true rfl) _) hn⟩ (fun v T hq => ?_) (fun _ _ hq => hq.elim)
  obtain ⟨hw2, r2, rfl, hOK⟩ := hq
  refine wa_istore X (lv' := (6, .inl r2) :: (5, .inl r1) :: LL i) dL_law_921 (by decide) rfl ?_
  refine wa_wid (k' := k + 50) (n' := n + 1000) (by omega) (by omega) ?_
  exact law_tail (L := L) (xs := xs) X hk hn hw2 hOK dL_law_923 dL_law_924 dL_law_927 dL_law_929 dL_law_934 dL_law_936 dL_law_939 dL_law_940 dL_law_941 dL_law_942 dL_law_944 dL_law_945 dL_law_946 dL_law_951 (by decide) kk

set_option maxRecDepth 100000 in
set_option maxHeartbeats 4000000 in
theorem law_c10 {Z : hs_Z} {L : Nat} {xs : Nat → Int32} {k n j : Nat} {S : hs_S} {i : Int32} (X : hs_C Z RL cL_law 7 room_1) (hL : hs_SC Z L xs) (hB : ∀ c : Int32, 0 ≤ c.toInt → c.toInt < 7 → 0 ≤ (i + c).toInt ∧ (i + c).toInt < L) (hk : k + 50 ≤ room_1.cells) (hn : n + 1000 ≤ room_1.slots) (h : RR j S) (hj : j < 512) (hw : hs_Wi S) (kk : ∀ T, RR (j + 1) T → hs_Wi T → wa Z (k + 50) (n + 1000) T 2201 (LL i) []) : wa Z k n S 954 (LL i) [] := by
  refine wa_aload_n X 3 rfl dL_law_954 rfl ?_
  refine wa_sc1 X hL (c := 1) 4 0 rfl rfl dL_law_955 dL_law_956 dL_law_958 kc1 dL_law_959 dL_law_960 (hB 1 (by decide) (by decide)) ?_
  refine wa_sc1 X hL (c := 2) 4 0 rfl rfl dL_law_961 dL_law_962 dL_law_964 kc2 dL_law_965 dL_law_966 (hB 2 (by decide) (by decide)) ?_
  refine wa_sc1 X hL (c := 3) 4 0 rfl rfl dL_law_967 dL_law_968 dL_law_970 kc3 dL_law_971 dL_law_972 (hB 3 (by decide) (by decide)) ?_
  refine wa_aload_n X 1 rfl dL_law_973 rfl ?_
  refine wa_callSW X (As := [.inr (.inr (10, 1)), .inl (xs (i + 1).toNatClampNeg), .inl (xs (i + 2).toNatClampNeg), .inl (xs (i + 3).toNatClampNeg), .inr (.inr (100, 1))]) (call_fault h hj hw) kw_809 kw_53 kw_807 kw_808 nd_L_fault rfl rfl (Nat.le_of_ble_eq_true rfl) dL_law_974 ⟨⟨Nat.le_of_ble_eq_true rfl, Nat.le_of_ble_eq_true rfl⟩, Nat.le_trans (Nat.add_le_add_left (Nat.le_of_ble_eq_true rfl) _) hk, Nat.le_trans (Nat.add_le_add_left (Nat.le_of_ble_eq_true rfl) _) hn⟩ (fun v S1 hq => ?_) (fun _ _ hq => hq.elim)
  obtain ⟨hw1, r1, rfl, hv⟩ := hq
  refine wa_istore X (lv' := (5, .inl r1) :: LL i) dL_law_977 (by decide) rfl ?_
  refine wa_aload_n X 3 rfl dL_law_979 rfl ?_
  refine wa_sc1 X hL (c := 1) 5 1 rfl rfl dL_law_980 dL_law_981 dL_law_983 kc1 dL_law_984 dL_law_985 (hB 1 (by decide) (by decide)) ?_
  refine wa_sc1 X hL (c := 2) 5 1 rfl rfl dL_law_986 dL_law_987 dL_law_989 kc2 dL_law_990 dL_law_991 (hB 2 (by decide) (by decide)) ?_
  refine wa_sc1 X hL (c := 3) 5 1 rfl rfl dL_law_992 dL_law_993 dL_law_995 kc3 dL_law_996 dL_law_997 (hB 3 (by decide) (by decide)) ?_
  refine wa_callV X (As := [.inl (xs (i + 1).toNatClampNeg), .inl (xs (i + 2).toNatClampNeg), .inl (xs (i + 3).toNatClampNeg)]) (hv hw1) hk_11 hc_11 rfl kw_1505 kw_66 kw_1502 kw_1503 kw_1504 nd_X11_fault rfl rfl (Nat.le_of_ble_eq_true rfl) dL_law_998 hs_1ne ⟨⟨Nat.le_of_ble_eq_true rfl, Nat.le_of_ble_eq_true rfl⟩, Nat.le_trans (by rw [Nat.add_assoc]; exact Nat.add_le_add_left (Nat.le_of_ble_eq_true rfl) _) hk, Nat.le_trans (by rw [Nat.add_assoc]; exact Nat.add_le_add_left (Nat.le_of_ble_eq_true rfl) _) hn⟩ (fun v T hq => ?_) (fun _ _ hq => hq.elim)
  obtain ⟨hw2, r2, rfl, hOK⟩ := hq
  refine wa_istore X (lv' := (6, .inl r2) :: (5, .inl r1) :: LL i) dL_law_1001 (by decide) rfl ?_
  refine wa_wid (k' := k + 50) (n' := n + 1000) (by omega) (by omega) ?_
  exact law_tail (L := L) (xs := xs) X hk hn hw2 hOK dL_law_1003 dL_law_1004 dL_law_1007 dL_law_1009 dL_law_1014 dL_law_1016 dL_law_1019 dL_law_1020 dL_law_1021 dL_law_1022 dL_law_1024 dL_law_1025 dL_law_1026 dL_law_1031 (by decide) kk

set_option maxRecDepth 100000 in
set_option maxHeartbeats 4000000 in
theorem law_c11 {Z : hs_Z} {L : Nat} {xs : Nat → Int32} {k n j : Nat} {S : hs_S} {i : Int32} (X : hs_C Z RL cL_law 7 room_1) (hL : hs_SC Z L xs) (hB : ∀ c : Int32, 0 ≤ c.toInt → c.toInt < 7 → 0 ≤ (i + c).toInt ∧ (i + c).toInt < L) (hk : k + 50 ≤ room_1.cells) (hn : n + 1000 ≤ room_1.slots) (h : RR j S) (hj : j < 512) (hw : hs_Wi S) (kk : ∀ T, RR (j + 1) T → hs_Wi T → wa Z (k + 50) (n + 1000) T 2201 (LL i) []) : wa Z k n S 1034 (LL i) [] := by
  refine wa_aload_n X 3 rfl dL_law_1034 rfl ?_
  refine wa_sc1 X hL (c := 1) 4 0 rfl rfl dL_law_1035 dL_law_1036 dL_law_1038 kc1 dL_law_1039 dL_law_1040 (hB 1 (by decide) (by decide)) ?_
  refine wa_sc1 X hL (c := 2) 4 0 rfl rfl dL_law_1041 dL_law_1042 dL_law_1044 kc2 dL_law_1045 dL_law_1046 (hB 2 (by decide) (by decide)) ?_
  refine wa_aload_n X 1 rfl dL_law_1047 rfl ?_
  refine wa_callSW X (As := [.inr (.inr (10, 1)), .inl (xs (i + 1).toNatClampNeg), .inl (xs (i + 2).toNatClampNeg), .inr (.inr (100, 1))]) (call_edits h hj hw) kw_820 kw_53 kw_818 kw_819 nd_L_edits rfl rfl (Nat.le_of_ble_eq_true rfl) dL_law_1048 ⟨⟨Nat.le_of_ble_eq_true rfl, Nat.le_of_ble_eq_true rfl⟩, Nat.le_trans (Nat.add_le_add_left (Nat.le_of_ble_eq_true rfl) _) hk, Nat.le_trans (Nat.add_le_add_left (Nat.le_of_ble_eq_true rfl) _) hn⟩ (fun v S1 hq => ?_) (fun _ _ hq => hq.elim)
  obtain ⟨hw1, r1, rfl, hv⟩ := hq
  refine wa_istore X (lv' := (5, .inl r1) :: LL i) dL_law_1051 (by decide) rfl ?_
  refine wa_aload_n X 3 rfl dL_law_1053 rfl ?_
  refine wa_sc1 X hL (c := 1) 5 1 rfl rfl dL_law_1054 dL_law_1055 dL_law_1057 kc1 dL_law_1058 dL_law_1059 (hB 1 (by decide) (by decide)) ?_
  refine wa_sc1 X hL (c := 2) 5 1 rfl rfl dL_law_1060 dL_law_1061 dL_law_1063 kc2 dL_law_1064 dL_law_1065 (hB 2 (by decide) (by decide)) ?_
  refine wa_callV X (As := [.inl (xs (i + 1).toNatClampNeg), .inl (xs (i + 2).toNatClampNeg)]) (hv hw1) hk_11 hc_11 rfl kw_1509 kw_66 kw_1506 kw_1507 kw_1508 nd_X11_edits rfl rfl (Nat.le_of_ble_eq_true rfl) dL_law_1066 hs_1ne ⟨⟨Nat.le_of_ble_eq_true rfl, Nat.le_of_ble_eq_true rfl⟩, Nat.le_trans (by rw [Nat.add_assoc]; exact Nat.add_le_add_left (Nat.le_of_ble_eq_true rfl) _) hk, Nat.le_trans (by rw [Nat.add_assoc]; exact Nat.add_le_add_left (Nat.le_of_ble_eq_true rfl) _) hn⟩ (fun v T hq => ?_) (fun _ _ hq => hq.elim)
  obtain ⟨hw2, r2, rfl, hOK⟩ := hq
  refine wa_istore X (lv' := (6, .inl r2) :: (5, .inl r1) :: LL i) dL_law_1069 (by decide) rfl ?_
  refine wa_wid (k' := k + 50) (n' := n + 1000) (by omega) (by omega) ?_
  exact law_tail (L := L) (xs := xs) X hk hn hw2 hOK dL_law_1071 dL_law_1072 dL_law_1075 dL_law_1077 dL_law_1082 dL_law_1084 dL_law_1087 dL_law_1088 dL_law_1089 dL_law_1090 dL_law_1092 dL_law_1093 dL_law_1094 dL_law_1099 (by decide) kk

set_option maxRecDepth 100000 in
set_option maxHeartbeats 4000000 in
theorem law_c12 {Z : hs_Z} {L : Nat} {xs : Nat → Int32} {k n j : Nat} {S : hs_S} {i : Int32} (X : hs_C Z RL cL_law 7 room_1) (hL : hs_SC Z L xs) (hB : ∀ c : Int32, 0 ≤ c.toInt → c.toInt < 7 → 0 ≤ (i + c).toInt ∧ (i + c).toInt < L) (hk : k + 50 ≤ room_1.cells) (hn : n + 1000 ≤ room_1.slots) (h : RR j S) (hj : j < 512) (hw : hs_Wi S) (kk : ∀ T, RR (j + 1) T → hs_Wi T → wa Z (k + 50) (n + 1000) T 2201 (LL i) []) : wa Z k n S 1102 (LL i) [] := by
  refine wa_aload_n X 3 rfl dL_law_1102 rfl ?_
  refine wa_sc1 X hL (c := 1) 4 0 rfl rfl dL_law_1103 dL_law_1104 dL_law_1106 kc1 dL_law_1107 dL_law_1108 (hB 1 (by decide) (by decide)) ?_
  refine wa_sc1 X hL (c := 2) 4 0 rfl rfl dL_law_1109 dL_law_1110 dL_law_1112 kc2 dL_law_1113 dL_law_1114 (hB 2 (by decide) (by decide)) ?_
  refine wa_sc1 X hL (c := 3) 4 0 rfl rfl dL_law_1115 dL_law_1116 dL_law_1118 kc3 dL_law_1119 dL_law_1120 (hB 3 (by decide) (by decide)) ?_
  refine wa_sc1 X hL (c := 4) 4 0 rfl rfl dL_law_1121 dL_law_1122 dL_law_1124 kc4 dL_law_1125 dL_law_1126 (hB 4 (by decide) (by decide)) ?_
  refine wa_aload_n X 1 rfl dL_law_1127 rfl ?_
  refine wa_callSW X (As := [.inr (.inr (10, 1)), .inl (xs (i + 1).toNatClampNeg), .inl (xs (i + 2).toNatClampNeg), .inl (xs (i + 3).toNatClampNeg), .inl (xs (i + 4).toNatClampNeg), .inr (.inr (100, 1))]) (call_edit h hj hw) kw_833 kw_53 kw_831 kw_832 nd_L_edit rfl rfl (Nat.le_of_ble_eq_true rfl) dL_law_1128 ⟨⟨Nat.le_of_ble_eq_true rfl, Nat.le_of_ble_eq_true rfl⟩, Nat.le_trans (Nat.add_le_add_left (Nat.le_of_ble_eq_true rfl) _) hk, Nat.le_trans (Nat.add_le_add_left (Nat.le_of_ble_eq_true rfl) _) hn⟩ (fun v S1 hq => ?_) (fun _ _ hq => hq.elim)
  obtain ⟨hw1, r1, rfl, hv⟩ := hq
  refine wa_istore X (lv' := (5, .inl r1) :: LL i) dL_law_1131 (by decide) rfl ?_
  refine wa_aload_n X 3 rfl dL_law_1133 rfl ?_
  refine wa_sc1 X hL (c := 1) 5 1 rfl rfl dL_law_1134 dL_law_1135 dL_law_1137 kc1 dL_law_1138 dL_law_1139 (hB 1 (by decide) (by decide)) ?_
  refine wa_sc1 X hL (c := 2) 5 1 rfl rfl dL_law_1140 dL_law_1141 dL_law_1143 kc2 dL_law_1144 dL_law_1145 (hB 2 (by decide) (by decide)) ?_
  refine wa_sc1 X hL (c := 3) 5 1 rfl rfl dL_law_1146 dL_law_1147 dL_law_1149 kc3 dL_law_1150 dL_law_1151 (hB 3 (by decide) (by decide)) ?_
  refine wa_sc1 X hL (c := 4) 5 1 rfl rfl dL_law_1152 dL_law_1153 dL_law_1155 kc4 dL_law_1156 dL_law_1157 (hB 4 (by decide) (by decide)) ?_
  refine wa_callV X (As := [.inl (xs (i + 1).toNatClampNeg), .inl (xs (i + 2).toNatClampNeg), .inl (xs (i + 3).toNatClampNeg), .inl (xs (i + 4).toNatClampNeg)]) (hv hw1) hk_11 hc_11 rfl kw_1517 kw_66 kw_1514 kw_1515 kw_1516 nd_X11_edit rfl rfl (Nat.le_of_ble_eq_true rfl) dL_law_1158 hs_1ne ⟨⟨Nat.le_of_ble_eq_true rfl, Nat.le_of_ble_eq_true rfl⟩, Nat.le_trans (by rw [Nat.add_assoc]; exact Nat.add_le_add_left (Nat.le_of_ble_eq_true rfl) _) hk, Nat.le_trans (by rw [Nat.add_assoc]; exact Nat.add_le_add_left (Nat.le_of_ble_eq_true rfl) _) hn⟩ (fun v T hq => ?_) (fun _ _ hq => hq.elim)
  obtain ⟨hw2, r2, rfl, hOK⟩ := hq
  refine wa_istore X (lv' := (6, .inl r2) :: (5, .inl r1) :: LL i) dL_law_1161 (by decide) rfl ?_
  refine wa_wid (k' := k + 50) (n' := n + 1000) (by omega) (by omega) ?_
  exact law_tail (L := L) (xs := xs) X hk hn hw2 hOK dL_law_1163 dL_law_1164 dL_law_1167 dL_law_1169 dL_law_1174 dL_law_1176 dL_law_1179 dL_law_1180 dL_law_1181 dL_law_1182 dL_law_1184 dL_law_1185 dL_law_1186 dL_law_1191 (by decide) kk

set_option maxRecDepth 100000 in
set_option maxHeartbeats 4000000 in
theorem law_c13 {Z : hs_Z} {L : Nat} {xs : Nat → Int32} {k n j : Nat} {S : hs_S} {i : Int32} (X : hs_C Z RL cL_law 7 room_1) (hL : hs_SC Z L xs) (hB : ∀ c : Int32, 0 ≤ c.toInt → c.toInt < 7 → 0 ≤ (i + c).toInt ∧ (i + c).toInt < L) (hk : k + 50 ≤ room_1.cells) (hn : n + 1000 ≤ room_1.slots) (h : RR j S) (hj : j < 512) (hw : hs_Wi S) (kk : ∀ T, RR (j + 1) T → hs_Wi T → wa Z (k + 50) (n + 1000) T 2201 (LL i) []) : wa Z k n S 1194 (LL i) [] := by
  refine wa_aload_n X 3 rfl dL_law_1194 rfl ?_
  refine wa_sc1 X hL (c := 1) 4 0 rfl rfl dL_law_1195 dL_law_1196 dL_law_1198 kc1 dL_law_1199 dL_law_1200 (hB 1 (by decide) (by decide)) ?_
  refine wa_sc1 X hL (c := 2) 4 0 rfl rfl dL_law_1201 dL_law_1202 dL_law_1204 kc2 dL_law_1205 dL_law_1206 (hB 2 (by decide) (by decide)) ?_
  refine wa_sc1 X hL (c := 3) 4 0 rfl rfl dL_law_1207 dL_law_1208 dL_law_1210 kc3 dL_law_1211 dL_law_1212 (hB 3 (by decide) (by decide)) ?_
  refine wa_nz X dL_law_1213 dL_law_1216 dL_law_1217 dL_law_1220 ?_
  refine wa_sc1 X hL (c := 4) 4 0 rfl rfl dL_law_1221 dL_law_1222 dL_law_1224 kc4 dL_law_1225 dL_law_1226 (hB 4 (by decide) (by decide)) ?_
  refine wa_sc1 X hL (c := 5) 4 0 rfl rfl dL_law_1227 dL_law_1228 dL_law_1230 kc5 dL_law_1231 dL_law_1232 (hB 5 (by decide) (by decide)) ?_
  refine wa_aload_n X 1 rfl dL_law_1233 rfl ?_
  refine wa_callSW X (As := [.inr (.inr (10, 1)), .inl (xs (i + 1).toNatClampNeg), .inl (xs (i + 2).toNatClampNeg), .inl (b01 (xs (i + 3).toNatClampNeg)), .inl (xs (i + 4).toNatClampNeg), .inl (xs (i + 5).toNatClampNeg), .inr (.inr (100, 1))]) (call_bid (b01_or _) h hj hw) kw_851 kw_53 kw_849 kw_850 nd_L_bid rfl rfl (Nat.le_of_ble_eq_true rfl) dL_law_1234 ⟨⟨Nat.le_of_ble_eq_true rfl, Nat.le_of_ble_eq_true rfl⟩, Nat.le_trans (Nat.add_le_add_left (Nat.le_of_ble_eq_true rfl) _) hk, Nat.le_trans (Nat.add_le_add_left (Nat.le_of_ble_eq_true rfl) _) hn⟩ (fun v S1 hq => ?_) (fun _ _ hq => hq.elim)
  obtain ⟨hw1, r1, rfl, hv⟩ := hq
  refine wa_istore X (lv' := (5, .inl r1) :: LL i) dL_law_1237 (by decide) rfl ?_
  refine wa_aload_n X 3 rfl dL_law_1239 rfl ?_
  refine wa_sc1 X hL (c := 1) 5 1 rfl rfl dL_law_1240 dL_law_1241 dL_law_1243 kc1 dL_law_1244 dL_law_1245 (hB 1 (by decide) (by decide)) ?_
  refine wa_sc1 X hL (c := 2) 5 1 rfl rfl dL_law_1246 dL_law_1247 dL_law_1249 kc2 dL_law_1250 dL_law_1251 (hB 2 (by decide) (by decide)) ?_
  refine wa_sc1 X hL (c := 3) 5 1 rfl rfl dL_law_1252 dL_law_1253 dL_law_1255 kc3 dL_law_1256 dL_law_1257 (hB 3 (by decide) (by decide)) ?_
  refine wa_nz X dL_law_1258 dL_law_1261 dL_law_1262 dL_law_1265 ?_
  refine wa_sc1 X hL (c := 4) 5 1 rfl rfl dL_law_1266 dL_law_1267 dL_law_1269 kc4 dL_law_1270 dL_law_1271 (hB 4 (by decide) (by decide)) ?_
  refine wa_sc1 X hL (c := 5) 5 1 rfl rfl dL_law_1272 dL_law_1273 dL_law_1275 kc5 dL_law_1276 dL_law_1277 (hB 5 (by decide) (by decide)) ?_
  refine wa_callV X (As := [.inl (xs (i + 1).toNatClampNeg), .inl (xs (i + 2).toNatClampNeg), .inl (b01 (xs (i + 3).toNatClampNeg)), .inl (xs (i + 4).toNatClampNeg), .inl (xs (i + 5).toNatClampNeg)]) (hv hw1) hk_11 hc_11 rfl kw_1521 kw_66 kw_1518 kw_1519 kw_1520 nd_X11_bid rfl rfl (Nat.le_of_ble_eq_true rfl) dL_law_1278 hs_1ne ⟨⟨Nat.le_of_ble_eq_true rfl, Nat.le_of_ble_eq_true rfl⟩, Nat.le_trans (by rw [Nat.add_assoc]; exact Nat.add_le_add_left (Nat.le_of_ble_eq_true rfl) _) hk, Nat.le_trans (by rw [Nat.add_assoc]; exact Nat.add_le_add_left (Nat.le_of_ble_eq_true rfl) _) hn⟩ (fun v T hq => ?_) (fun _ _ hq => hq.elim)
  obtain ⟨hw2, r2, rfl, hOK⟩ := hq
  refine wa_istore X (lv' := (6, .inl r2) :: (5, .inl r1) :: LL i) dL_law_1281 (by decide) rfl ?_
  refine wa_wid (k' := k + 50) (n' := n + 1000) (by omega) (by omega) ?_
  exact law_tail (L := L) (xs := xs) X hk hn hw2 hOK dL_law_1283 dL_law_1284 dL_law_1287 dL_law_1289 dL_law_1294 dL_law_1296 dL_law_1299 dL_law_1300 dL_law_1301 dL_law_1302 dL_law_1304 dL_law_1305 dL_law_1306 dL_law_1311 (by decide) kk

set_option maxRecDepth 100000 in
set_option maxHeartbeats 4000000 in
theorem law_c14 {Z : hs_Z} {L : Nat} {xs : Nat → Int32} {k n j : Nat} {S : hs_S} {i : Int32} (X : hs_C Z RL cL_law 7 room_1) (hL : hs_SC Z L xs) (hB : ∀ c : Int32, 0 ≤ c.toInt → c.toInt < 7 → 0 ≤ (i + c).toInt ∧ (i + c).toInt < L) (hk : k + 50 ≤ room_1.cells) (hn : n + 1000 ≤ room_1.slots) (h : RR j S) (hj : j < 512) (hw : hs_Wi S) (kk : ∀ T, RR (j + 1) T → hs_Wi T → wa Z (k + 50) (n + 1000) T 2201 (LL i) []) : wa Z k n S 1314 (LL i) [] := by
  refine wa_aload_n X 3 rfl dL_law_1314 rfl ?_
  refine wa_sc1 X hL (c := 1) 4 0 rfl rfl dL_law_1315 dL_law_1316 dL_law_1318 kc1 dL_law_1319 dL_law_1320 (hB 1 (by decide) (by decide)) ?_
  refine wa_sc1 X hL (c := 2) 4 0 rfl rfl dL_law_1321 dL_law_1322 dL_law_1324 kc2 dL_law_1325 dL_law_1326 (hB 2 (by decide) (by decide)) ?_
  refine wa_aload_n X 1 rfl dL_law_1327 rfl ?_
  refine wa_callSW X (As := [.inr (.inr (10, 1)), .inl (xs (i + 1).toNatClampNeg), .inl (xs (i + 2).toNatClampNeg), .inr (.inr (100, 1))]) (call_withdraw h hj hw) kw_967 kw_53 kw_965 kw_966 nd_L_withdraw rfl rfl (Nat.le_of_ble_eq_true rfl) dL_law_1328 ⟨⟨Nat.le_of_ble_eq_true rfl, Nat.le_of_ble_eq_true rfl⟩, Nat.le_trans (Nat.add_le_add_left (Nat.le_of_ble_eq_true rfl) _) hk, Nat.le_trans (Nat.add_le_add_left (Nat.le_of_ble_eq_true rfl) _) hn⟩ (fun v S1 hq => ?_) (fun _ _ hq => hq.elim)
  obtain ⟨hw1, r1, rfl, hv⟩ := hq
  refine wa_istore X (lv' := (5, .inl r1) :: LL i) dL_law_1331 (by decide) rfl ?_
  refine wa_aload_n X 3 rfl dL_law_1333 rfl ?_
  refine wa_sc1 X hL (c := 1) 5 1 rfl rfl dL_law_1334 dL_law_1335 dL_law_1337 kc1 dL_law_1338 dL_law_1339 (hB 1 (by decide) (by decide)) ?_
  refine wa_sc1 X hL (c := 2) 5 1 rfl rfl dL_law_1340 dL_law_1341 dL_law_1343 kc2 dL_law_1344 dL_law_1345 (hB 2 (by decide) (by decide)) ?_
  refine wa_callV X (As := [.inl (xs (i + 1).toNatClampNeg), .inl (xs (i + 2).toNatClampNeg)]) (hv hw1) hk_11 hc_11 rfl kw_1546 kw_66 kw_1543 kw_1544 kw_1545 nd_X11_withdraw rfl rfl (Nat.le_of_ble_eq_true rfl) dL_law_1346 hs_1ne ⟨⟨Nat.le_of_ble_eq_true rfl, Nat.le_of_ble_eq_true rfl⟩, Nat.le_trans (by rw [Nat.add_assoc]; exact Nat.add_le_add_left (Nat.le_of_ble_eq_true rfl) _) hk, Nat.le_trans (by rw [Nat.add_assoc]; exact Nat.add_le_add_left (Nat.le_of_ble_eq_true rfl) _) hn⟩ (fun v T hq => ?_) (fun _ _ hq => hq.elim)
  obtain ⟨hw2, r2, rfl, hOK⟩ := hq
  refine wa_istore X (lv' := (6, .inl r2) :: (5, .inl r1) :: LL i) dL_law_1349 (by decide) rfl ?_
  refine wa_wid (k' := k + 50) (n' := n + 1000) (by omega) (by omega) ?_
  exact law_tail (L := L) (xs := xs) X hk hn hw2 hOK dL_law_1351 dL_law_1352 dL_law_1355 dL_law_1357 dL_law_1362 dL_law_1364 dL_law_1367 dL_law_1368 dL_law_1369 dL_law_1370 dL_law_1372 dL_law_1373 dL_law_1374 dL_law_1379 (by decide) kk

set_option maxRecDepth 100000 in
set_option maxHeartbeats 4000000 in
theorem law_c15 {Z : hs_Z} {L : Nat} {xs : Nat → Int32} {k n j : Nat} {S : hs_S} {i : Int32} (X : hs_C Z RL cL_law 7 room_1) (hL : hs_SC Z L xs) (hB : ∀ c : Int32, 0 ≤ c.toInt → c.toInt < 7 → 0 ≤ (i + c).toInt ∧ (i + c).toInt < L) (hk : k + 50 ≤ room_1.cells) (hn : n + 1000 ≤ room_1.slots) (h : RR j S) (hj : j < 512) (hw : hs_Wi S) (kk : ∀ T, RR (j + 1) T → hs_Wi T → wa Z (k + 50) (n + 1000) T 2201 (LL i) []) : wa Z k n S 1382 (LL i) [] := by
  refine wa_aload_n X 3 rfl dL_law_1382 rfl ?_
  refine wa_sc1 X hL (c := 1) 4 0 rfl rfl dL_law_1383 dL_law_1384 dL_law_1386 kc1 dL_law_1387 dL_law_1388 (hB 1 (by decide) (by decide)) ?_
  refine wa_sc1 X hL (c := 2) 4 0 rfl rfl dL_law_1389 dL_law_1390 dL_law_1392 kc2 dL_law_1393 dL_law_1394 (hB 2 (by decide) (by decide)) ?_
  refine wa_nz X dL_law_1395 dL_law_1398 dL_law_1399 dL_law_1402 ?_
  refine wa_aload_n X 1 rfl dL_law_1403 rfl ?_
  refine wa_callSW X (As := [.inr (.inr (10, 1)), .inl (xs (i + 1).toNatClampNeg), .inl (b01 (xs (i + 2).toNatClampNeg)), .inr (.inr (100, 1))]) (callb_share (b01_or _) h hj hw) kw_987 kw_53 kw_985 kw_986 nd_L_share rfl rfl (Nat.le_of_ble_eq_true rfl) dL_law_1404 ⟨⟨Nat.le_of_ble_eq_true rfl, Nat.le_of_ble_eq_true rfl⟩, Nat.le_trans (Nat.add_le_add_left (Nat.le_of_ble_eq_true rfl) _) hk, Nat.le_trans (Nat.add_le_add_left (Nat.le_of_ble_eq_true rfl) _) hn⟩ (fun v S1 hq => ?_) (fun _ _ hq => hq.elim)
  obtain ⟨hw1, r1, rfl, hv⟩ := hq
  refine wa_istore X (lv' := (5, .inl r1) :: LL i) dL_law_1407 (by decide) rfl ?_
  refine wa_aload_n X 3 rfl dL_law_1409 rfl ?_
  refine wa_sc1 X hL (c := 1) 5 1 rfl rfl dL_law_1410 dL_law_1411 dL_law_1413 kc1 dL_law_1414 dL_law_1415 (hB 1 (by decide) (by decide)) ?_
  refine wa_sc1 X hL (c := 2) 5 1 rfl rfl dL_law_1416 dL_law_1417 dL_law_1419 kc2 dL_law_1420 dL_law_1421 (hB 2 (by decide) (by decide)) ?_
  refine wa_nz X dL_law_1422 dL_law_1425 dL_law_1426 dL_law_1429 ?_
  refine wa_callV X (As := [.inl (xs (i + 1).toNatClampNeg), .inl (b01 (xs (i + 2).toNatClampNeg))]) (hv hw1) hk_11 hc_11 rfl kw_1554 kw_66 kw_1551 kw_1552 kw_1553 nd_X11_share rfl rfl (Nat.le_of_ble_eq_true rfl) dL_law_1430 hs_1ne ⟨⟨Nat.le_of_ble_eq_true rfl, Nat.le_of_ble_eq_true rfl⟩, Nat.le_trans (by rw [Nat.add_assoc]; exact Nat.add_le_add_left (Nat.le_of_ble_eq_true rfl) _) hk, Nat.le_trans (by rw [Nat.add_assoc]; exact Nat.add_le_add_left (Nat.le_of_ble_eq_true rfl) _) hn⟩ (fun v T hq => ?_) (fun _ _ hq => hq.elim)
  obtain ⟨hw2, r2, rfl, hOK⟩ := hq
  refine wa_istore X (lv' := (6, .inl r2) :: (5, .inl r1) :: LL i) dL_law_1433 (by decide) rfl ?_
  refine wa_wid (k' := k + 50) (n' := n + 1000) (by omega) (by omega) ?_
  exact law_tailb (L := L) (xs := xs) X hk hn hw2 hOK dL_law_1435 dL_law_1436 dL_law_1439 dL_law_1441 dL_law_1446 dL_law_1448 dL_law_1451 dL_law_1452 dL_law_1453 dL_law_1454 dL_law_1456 dL_law_1459 dL_law_1460 dL_law_1463 dL_law_1464 dL_law_1465 dL_law_1470 (by decide) kk

set_option maxRecDepth 100000 in
set_option maxHeartbeats 4000000 in
theorem law_c16 {Z : hs_Z} {L : Nat} {xs : Nat → Int32} {k n j : Nat} {S : hs_S} {i : Int32} (X : hs_C Z RL cL_law 7 room_1) (hL : hs_SC Z L xs) (hB : ∀ c : Int32, 0 ≤ c.toInt → c.toInt < 7 → 0 ≤ (i + c).toInt ∧ (i + c).toInt < L) (hk : k + 50 ≤ room_1.cells) (hn : n + 1000 ≤ room_1.slots) (h : RR j S) (hj : j < 512) (hw : hs_Wi S) (kk : ∀ T, RR (j + 1) T → hs_Wi T → wa Z (k + 50) (n + 1000) T 2201 (LL i) []) : wa Z k n S 1473 (LL i) [] := by
  refine wa_aload_n X 3 rfl dL_law_1473 rfl ?_
  refine wa_sc1 X hL (c := 1) 4 0 rfl rfl dL_law_1474 dL_law_1475 dL_law_1477 kc1 dL_law_1478 dL_law_1479 (hB 1 (by decide) (by decide)) ?_
  refine wa_aload_n X 1 rfl dL_law_1480 rfl ?_
  refine wa_callSW X (As := [.inr (.inr (10, 1)), .inl (xs (i + 1).toNatClampNeg), .inr (.inr (100, 1))]) (call_bell h hj hw) kw_994 kw_53 kw_992 kw_993 nd_L_bell rfl rfl (Nat.le_of_ble_eq_true rfl) dL_law_1481 ⟨⟨Nat.le_of_ble_eq_true rfl, Nat.le_of_ble_eq_true rfl⟩, Nat.le_trans (Nat.add_le_add_left (Nat.le_of_ble_eq_true rfl) _) hk, Nat.le_trans (Nat.add_le_add_left (Nat.le_of_ble_eq_true rfl) _) hn⟩ (fun v S1 hq => ?_) (fun _ _ hq => hq.elim)
  obtain ⟨hw1, r1, rfl, hv⟩ := hq
  refine wa_istore X (lv' := (5, .inl r1) :: LL i) dL_law_1484 (by decide) rfl ?_
  refine wa_aload_n X 3 rfl dL_law_1486 rfl ?_
  refine wa_sc1 X hL (c := 1) 5 1 rfl rfl dL_law_1487 dL_law_1488 dL_law_1490 kc1 dL_law_1491 dL_law_1492 (hB 1 (by decide) (by decide)) ?_
  refine wa_callV X (As := [.inl (xs (i + 1).toNatClampNeg)]) (hv hw1) hk_11 hc_11 rfl kw_1558 kw_66 kw_1555 kw_1556 kw_1557 nd_X11_bell rfl rfl (Nat.le_of_ble_eq_true rfl) dL_law_1493 hs_1ne ⟨⟨Nat.le_of_ble_eq_true rfl, Nat.le_of_ble_eq_true rfl⟩, Nat.le_trans (by rw [Nat.add_assoc]; exact Nat.add_le_add_left (Nat.le_of_ble_eq_true rfl) _) hk, Nat.le_trans (by rw [Nat.add_assoc]; exact Nat.add_le_add_left (Nat.le_of_ble_eq_true rfl) _) hn⟩ (fun v T hq => ?_) (fun _ _ hq => hq.elim)
  obtain ⟨hw2, r2, rfl, hOK⟩ := hq
  refine wa_istore X (lv' := (6, .inl r2) :: (5, .inl r1) :: LL i) dL_law_1496 (by decide) rfl ?_
  refine wa_wid (k' := k + 50) (n' := n + 1000) (by omega) (by omega) ?_
  exact law_tail (L := L) (xs := xs) X hk hn hw2 hOK dL_law_1498 dL_law_1499 dL_law_1502 dL_law_1504 dL_law_1509 dL_law_1511 dL_law_1514 dL_law_1515 dL_law_1516 dL_law_1517 dL_law_1519 dL_law_1520 dL_law_1521 dL_law_1526 (by decide) kk

set_option maxRecDepth 100000 in
set_option maxHeartbeats 4000000 in
theorem law_c17 {Z : hs_Z} {L : Nat} {xs : Nat → Int32} {k n j : Nat} {S : hs_S} {i : Int32} (X : hs_C Z RL cL_law 7 room_1) (hL : hs_SC Z L xs) (hB : ∀ c : Int32, 0 ≤ c.toInt → c.toInt < 7 → 0 ≤ (i + c).toInt ∧ (i + c).toInt < L) (hk : k + 50 ≤ room_1.cells) (hn : n + 1000 ≤ room_1.slots) (h : RR j S) (hj : j < 512) (hw : hs_Wi S) (kk : ∀ T, RR (j + 1) T → hs_Wi T → wa Z (k + 50) (n + 1000) T 2201 (LL i) []) : wa Z k n S 1529 (LL i) [] := by
  refine wa_aload_n X 3 rfl dL_law_1529 rfl ?_
  refine wa_sc1 X hL (c := 1) 4 0 rfl rfl dL_law_1530 dL_law_1531 dL_law_1533 kc1 dL_law_1534 dL_law_1535 (hB 1 (by decide) (by decide)) ?_
  refine wa_aload_n X 1 rfl dL_law_1536 rfl ?_
  refine wa_callSW X (As := [.inr (.inr (10, 1)), .inl (xs (i + 1).toNatClampNeg), .inr (.inr (100, 1))]) (callb_isFrozen h hj hw) kw_1066 kw_53 kw_1064 kw_1065 nd_L_isFrozen rfl rfl (Nat.le_of_ble_eq_true rfl) dL_law_1537 ⟨⟨Nat.le_of_ble_eq_true rfl, Nat.le_of_ble_eq_true rfl⟩, Nat.le_trans (Nat.add_le_add_left (Nat.le_of_ble_eq_true rfl) _) hk, Nat.le_trans (Nat.add_le_add_left (Nat.le_of_ble_eq_true rfl) _) hn⟩ (fun v S1 hq => ?_) (fun _ _ hq => hq.elim)
  obtain ⟨hw1, r1, rfl, hv⟩ := hq
  refine wa_istore X (lv' := (5, .inl r1) :: LL i) dL_law_1540 (by decide) rfl ?_
  refine wa_aload_n X 3 rfl dL_law_1542 rfl ?_
  refine wa_sc1 X hL (c := 1) 5 1 rfl rfl dL_law_1543 dL_law_1544 dL_law_1546 kc1 dL_law_1547 dL_law_1548 (hB 1 (by decide) (by decide)) ?_
  refine wa_callV X (As := [.inl (xs (i + 1).toNatClampNeg)]) (hv hw1) hk_11 hc_11 rfl kw_1582 kw_66 kw_1579 kw_1580 kw_1581 nd_X11_isFrozen rfl rfl (Nat.le_of_ble_eq_true rfl) dL_law_1549 hs_1ne ⟨⟨Nat.le_of_ble_eq_true rfl, Nat.le_of_ble_eq_true rfl⟩, Nat.le_trans (by rw [Nat.add_assoc]; exact Nat.add_le_add_left (Nat.le_of_ble_eq_true rfl) _) hk, Nat.le_trans (by rw [Nat.add_assoc]; exact Nat.add_le_add_left (Nat.le_of_ble_eq_true rfl) _) hn⟩ (fun v T hq => ?_) (fun _ _ hq => hq.elim)
  obtain ⟨hw2, r2, rfl, hOK⟩ := hq
  refine wa_istore X (lv' := (6, .inl r2) :: (5, .inl r1) :: LL i) dL_law_1552 (by decide) rfl ?_
  refine wa_wid (k' := k + 50) (n' := n + 1000) (by omega) (by omega) ?_
  exact law_tailb (L := L) (xs := xs) X hk hn hw2 hOK dL_law_1554 dL_law_1555 dL_law_1558 dL_law_1560 dL_law_1565 dL_law_1567 dL_law_1570 dL_law_1571 dL_law_1572 dL_law_1573 dL_law_1575 dL_law_1578 dL_law_1579 dL_law_1582 dL_law_1583 dL_law_1584 dL_law_1589 (by decide) kk

set_option maxRecDepth 100000 in
set_option maxHeartbeats 4000000 in
theorem law_c18 {Z : hs_Z} {L : Nat} {xs : Nat → Int32} {k n j : Nat} {S : hs_S} {i : Int32} (X : hs_C Z RL cL_law 7 room_1) (hL : hs_SC Z L xs) (hB : ∀ c : Int32, 0 ≤ c.toInt → c.toInt < 7 → 0 ≤ (i + c).toInt ∧ (i + c).toInt < L) (hk : k + 50 ≤ room_1.cells) (hn : n + 1000 ≤ room_1.slots) (h : RR j S) (hj : j < 512) (hw : hs_Wi S) (kk : ∀ T, RR (j + 1) T → hs_Wi T → wa Z (k + 50) (n + 1000) T 2201 (LL i) []) : wa Z k n S 1592 (LL i) [] := by
  refine wa_aload_n X 3 rfl dL_law_1592 rfl ?_
  refine wa_sc1 X hL (c := 1) 4 0 rfl rfl dL_law_1593 dL_law_1594 dL_law_1596 kc1 dL_law_1597 dL_law_1598 (hB 1 (by decide) (by decide)) ?_
  refine wa_sc1 X hL (c := 2) 4 0 rfl rfl dL_law_1599 dL_law_1600 dL_law_1602 kc2 dL_law_1603 dL_law_1604 (hB 2 (by decide) (by decide)) ?_
  refine wa_aload_n X 1 rfl dL_law_1605 rfl ?_
  refine wa_callSW X (As := [.inr (.inr (10, 1)), .inl (xs (i + 1).toNatClampNeg), .inl (xs (i + 2).toNatClampNeg), .inr (.inr (100, 1))]) (call_round h hj hw) kw_1073 kw_53 kw_1071 kw_1072 nd_L_round rfl rfl (Nat.le_of_ble_eq_true rfl) dL_law_1606 ⟨⟨Nat.le_of_ble_eq_true rfl, Nat.le_of_ble_eq_true rfl⟩, Nat.le_trans (Nat.add_le_add_left (Nat.le_of_ble_eq_true rfl) _) hk, Nat.le_trans (Nat.add_le_add_left (Nat.le_of_ble_eq_true rfl) _) hn⟩ (fun v S1 hq => ?_) (fun _ _ hq => hq.elim)
  obtain ⟨hw1, r1, rfl, hv⟩ := hq
  refine wa_istore X (lv' := (5, .inl r1) :: LL i) dL_law_1609 (by decide) rfl ?_
  refine wa_aload_n X 3 rfl dL_law_1611 rfl ?_
  refine wa_sc1 X hL (c := 1) 5 1 rfl rfl dL_law_1612 dL_law_1613 dL_law_1615 kc1 dL_law_1616 dL_law_1617 (hB 1 (by decide) (by decide)) ?_
  refine wa_sc1 X hL (c := 2) 5 1 rfl rfl dL_law_1618 dL_law_1619 dL_law_1621 kc2 dL_law_1622 dL_law_1623 (hB 2 (by decide) (by decide)) ?_
  refine wa_callV X (As := [.inl (xs (i + 1).toNatClampNeg), .inl (xs (i + 2).toNatClampNeg)]) (hv hw1) hk_11 hc_11 rfl kw_1586 kw_66 kw_1583 kw_1584 kw_1585 nd_X11_round rfl rfl (Nat.le_of_ble_eq_true rfl) dL_law_1624 hs_1ne ⟨⟨Nat.le_of_ble_eq_true rfl, Nat.le_of_ble_eq_true rfl⟩, Nat.le_trans (by rw [Nat.add_assoc]; exact Nat.add_le_add_left (Nat.le_of_ble_eq_true rfl) _) hk, Nat.le_trans (by rw [Nat.add_assoc]; exact Nat.add_le_add_left (Nat.le_of_ble_eq_true rfl) _) hn⟩ (fun v T hq => ?_) (fun _ _ hq => hq.elim)
  obtain ⟨hw2, r2, rfl, hOK⟩ := hq
  refine wa_istore X (lv' := (6, .inl r2) :: (5, .inl r1) :: LL i) dL_law_1627 (by decide) rfl ?_
  refine wa_wid (k' := k + 50) (n' := n + 1000) (by omega) (by omega) ?_
  exact law_tail (L := L) (xs := xs) X hk hn hw2 hOK dL_law_1629 dL_law_1630 dL_law_1633 dL_law_1635 dL_law_1640 dL_law_1642 dL_law_1645 dL_law_1646 dL_law_1647 dL_law_1648 dL_law_1650 dL_law_1651 dL_law_1652 dL_law_1657 (by decide) kk

set_option maxRecDepth 100000 in
set_option maxHeartbeats 4000000 in
theorem law_c19 {Z : hs_Z} {L : Nat} {xs : Nat → Int32} {k n j : Nat} {S : hs_S} {i : Int32} (X : hs_C Z RL cL_law 7 room_1) (hL : hs_SC Z L xs) (hB : ∀ c : Int32, 0 ≤ c.toInt → c.toInt < 7 → 0 ≤ (i + c).toInt ∧ (i + c).toInt < L) (hk : k + 50 ≤ room_1.cells) (hn : n + 1000 ≤ room_1.slots) (h : RR j S) (hj : j < 512) (hw : hs_Wi S) (kk : ∀ T, RR (j + 1) T → hs_Wi T → wa Z (k + 50) (n + 1000) T 2201 (LL i) []) : wa Z k n S 1660 (LL i) [] := by
  refine wa_aload_n X 3 rfl dL_law_1660 rfl ?_
  refine wa_sc1 X hL (c := 1) 4 0 rfl rfl dL_law_1661 dL_law_1662 dL_law_1664 kc1 dL_law_1665 dL_law_1666 (hB 1 (by decide) (by decide)) ?_
  refine wa_aload_n X 1 rfl dL_law_1667 rfl ?_
  refine wa_callSW X (As := [.inr (.inr (10, 1)), .inl (xs (i + 1).toNatClampNeg), .inr (.inr (100, 1))]) (call_priceAnew h hj hw) kw_1090 kw_53 kw_1088 kw_1089 nd_L_priceAnew rfl rfl (Nat.le_of_ble_eq_true rfl) dL_law_1668 ⟨⟨Nat.le_of_ble_eq_true rfl, Nat.le_of_ble_eq_true rfl⟩, Nat.le_trans (Nat.add_le_add_left (Nat.le_of_ble_eq_true rfl) _) hk, Nat.le_trans (Nat.add_le_add_left (Nat.le_of_ble_eq_true rfl) _) hn⟩ (fun v S1 hq => ?_) (fun _ _ hq => hq.elim)
  obtain ⟨hw1, r1, rfl, hv⟩ := hq
  refine wa_istore X (lv' := (5, .inl r1) :: LL i) dL_law_1671 (by decide) rfl ?_
  refine wa_aload_n X 3 rfl dL_law_1673 rfl ?_
  refine wa_sc1 X hL (c := 1) 5 1 rfl rfl dL_law_1674 dL_law_1675 dL_law_1677 kc1 dL_law_1678 dL_law_1679 (hB 1 (by decide) (by decide)) ?_
  refine wa_callV X (As := [.inl (xs (i + 1).toNatClampNeg)]) (hv hw1) hk_11 hc_11 rfl kw_1590 kw_66 kw_1587 kw_1588 kw_1589 nd_X11_priceAnew rfl rfl (Nat.le_of_ble_eq_true rfl) dL_law_1680 hs_1ne ⟨⟨Nat.le_of_ble_eq_true rfl, Nat.le_of_ble_eq_true rfl⟩, Nat.le_trans (by rw [Nat.add_assoc]; exact Nat.add_le_add_left (Nat.le_of_ble_eq_true rfl) _) hk, Nat.le_trans (by rw [Nat.add_assoc]; exact Nat.add_le_add_left (Nat.le_of_ble_eq_true rfl) _) hn⟩ (fun v T hq => ?_) (fun _ _ hq => hq.elim)
  obtain ⟨hw2, r2, rfl, hOK⟩ := hq
  refine wa_istore X (lv' := (6, .inl r2) :: (5, .inl r1) :: LL i) dL_law_1683 (by decide) rfl ?_
  refine wa_wid (k' := k + 50) (n' := n + 1000) (by omega) (by omega) ?_
  exact law_tail (L := L) (xs := xs) X hk hn hw2 hOK dL_law_1685 dL_law_1686 dL_law_1689 dL_law_1691 dL_law_1696 dL_law_1698 dL_law_1701 dL_law_1702 dL_law_1703 dL_law_1704 dL_law_1706 dL_law_1707 dL_law_1708 dL_law_1713 (by decide) kk

set_option maxRecDepth 100000 in
set_option maxHeartbeats 4000000 in
theorem law_c20 {Z : hs_Z} {L : Nat} {xs : Nat → Int32} {k n j : Nat} {S : hs_S} {i : Int32} (X : hs_C Z RL cL_law 7 room_1) (hL : hs_SC Z L xs) (hB : ∀ c : Int32, 0 ≤ c.toInt → c.toInt < 7 → 0 ≤ (i + c).toInt ∧ (i + c).toInt < L) (hk : k + 50 ≤ room_1.cells) (hn : n + 1000 ≤ room_1.slots) (h : RR j S) (hj : j < 512) (hw : hs_Wi S) (kk : ∀ T, RR (j + 1) T → hs_Wi T → wa Z (k + 50) (n + 1000) T 2201 (LL i) []) : wa Z k n S 1716 (LL i) [] := by
  refine wa_aload_n X 3 rfl dL_law_1716 rfl ?_
  refine wa_sc1 X hL (c := 1) 4 0 rfl rfl dL_law_1717 dL_law_1718 dL_law_1720 kc1 dL_law_1721 dL_law_1722 (hB 1 (by decide) (by decide)) ?_
  refine wa_aload_n X 1 rfl dL_law_1723 rfl ?_
  refine wa_callSW X (As := [.inr (.inr (10, 1)), .inl (xs (i + 1).toNatClampNeg), .inr (.inr (100, 1))]) (call_got h hj hw) kw_1097 kw_53 kw_1095 kw_1096 nd_L_got rfl rfl (Nat.le_of_ble_eq_true rfl) dL_law_1724 ⟨⟨Nat.le_of_ble_eq_true rfl, Nat.le_of_ble_eq_true rfl⟩, Nat.le_trans (Nat.add_le_add_left (Nat.le_of_ble_eq_true rfl) _) hk, Nat.le_trans (Nat.add_le_add_left (Nat.le_of_ble_eq_true rfl) _) hn⟩ (fun v S1 hq => ?_) (fun _ _ hq => hq.elim)
  obtain ⟨hw1, r1, rfl, hv⟩ := hq
  refine wa_istore X (lv' := (5, .inl r1) :: LL i) dL_law_1727 (by decide) rfl ?_
  refine wa_aload_n X 3 rfl dL_law_1729 rfl ?_
  refine wa_sc1 X hL (c := 1) 5 1 rfl rfl dL_law_1730 dL_law_1731 dL_law_1733 kc1 dL_law_1734 dL_law_1735 (hB 1 (by decide) (by decide)) ?_
  refine wa_callV X (As := [.inl (xs (i + 1).toNatClampNeg)]) (hv hw1) hk_11 hc_11 rfl kw_1594 kw_66 kw_1591 kw_1592 kw_1593 nd_X11_got rfl rfl (Nat.le_of_ble_eq_true rfl) dL_law_1736 hs_1ne ⟨⟨Nat.le_of_ble_eq_true rfl, Nat.le_of_ble_eq_true rfl⟩, Nat.le_trans (by rw [Nat.add_assoc]; exact Nat.add_le_add_left (Nat.le_of_ble_eq_true rfl) _) hk, Nat.le_trans (by rw [Nat.add_assoc]; exact Nat.add_le_add_left (Nat.le_of_ble_eq_true rfl) _) hn⟩ (fun v T hq => ?_) (fun _ _ hq => hq.elim)
  obtain ⟨hw2, r2, rfl, hOK⟩ := hq
  refine wa_istore X (lv' := (6, .inl r2) :: (5, .inl r1) :: LL i) dL_law_1739 (by decide) rfl ?_
  refine wa_wid (k' := k + 50) (n' := n + 1000) (by omega) (by omega) ?_
  exact law_tail (L := L) (xs := xs) X hk hn hw2 hOK dL_law_1741 dL_law_1742 dL_law_1745 dL_law_1747 dL_law_1752 dL_law_1754 dL_law_1757 dL_law_1758 dL_law_1759 dL_law_1760 dL_law_1762 dL_law_1763 dL_law_1764 dL_law_1769 (by decide) kk

set_option maxRecDepth 100000 in
set_option maxHeartbeats 4000000 in
theorem law_c21 {Z : hs_Z} {L : Nat} {xs : Nat → Int32} {k n j : Nat} {S : hs_S} {i : Int32} (X : hs_C Z RL cL_law 7 room_1) (hL : hs_SC Z L xs) (hB : ∀ c : Int32, 0 ≤ c.toInt → c.toInt < 7 → 0 ≤ (i + c).toInt ∧ (i + c).toInt < L) (hk : k + 50 ≤ room_1.cells) (hn : n + 1000 ≤ room_1.slots) (h : RR j S) (hj : j < 512) (hw : hs_Wi S) (kk : ∀ T, RR (j + 1) T → hs_Wi T → wa Z (k + 50) (n + 1000) T 2201 (LL i) []) : wa Z k n S 1772 (LL i) [] := by
  refine wa_aload_n X 3 rfl dL_law_1772 rfl ?_
  refine wa_sc1 X hL (c := 1) 4 0 rfl rfl dL_law_1773 dL_law_1774 dL_law_1776 kc1 dL_law_1777 dL_law_1778 (hB 1 (by decide) (by decide)) ?_
  refine wa_sc1 X hL (c := 2) 4 0 rfl rfl dL_law_1779 dL_law_1780 dL_law_1782 kc2 dL_law_1783 dL_law_1784 (hB 2 (by decide) (by decide)) ?_
  refine wa_aload_n X 1 rfl dL_law_1785 rfl ?_
  refine wa_callSW X (As := [.inr (.inr (10, 1)), .inl (xs (i + 1).toNatClampNeg), .inl (xs (i + 2).toNatClampNeg), .inr (.inr (100, 1))]) (call_due h hj hw) kw_1104 kw_53 kw_1102 kw_1103 nd_L_due rfl rfl (Nat.le_of_ble_eq_true rfl) dL_law_1786 ⟨⟨Nat.le_of_ble_eq_true rfl, Nat.le_of_ble_eq_true rfl⟩, Nat.le_trans (Nat.add_le_add_left (Nat.le_of_ble_eq_true rfl) _) hk, Nat.le_trans (Nat.add_le_add_left (Nat.le_of_ble_eq_true rfl) _) hn⟩ (fun v S1 hq => ?_) (fun _ _ hq => hq.elim)
  obtain ⟨hw1, r1, rfl, hv⟩ := hq
  refine wa_istore X (lv' := (5, .inl r1) :: LL i) dL_law_1789 (by decide) rfl ?_
  refine wa_aload_n X 3 rfl dL_law_1791 rfl ?_
  refine wa_sc1 X hL (c := 1) 5 1 rfl rfl dL_law_1792 dL_law_1793 dL_law_1795 kc1 dL_law_1796 dL_law_1797 (hB 1 (by decide) (by decide)) ?_
  refine wa_sc1 X hL (c := 2) 5 1 rfl rfl dL_law_1798 dL_law_1799 dL_law_1801 kc2 dL_law_1802 dL_law_1803 (hB 2 (by decide) (by decide)) ?_
  refine wa_callV X (As := [.inl (xs (i + 1).toNatClampNeg), .inl (xs (i + 2).toNatClampNeg)]) (hv hw1) hk_11 hc_11 rfl kw_1598 kw_66 kw_1595 kw_1596 kw_1597 nd_X11_due rfl rfl (Nat.le_of_ble_eq_true rfl) dL_law_1804 hs_1ne ⟨⟨Nat.le_of_ble_eq_true rfl, Nat.le_of_ble_eq_true rfl⟩, Nat.le_trans (by rw [Nat.add_assoc]; exact Nat.add_le_add_left (Nat.le_of_ble_eq_true rfl) _) hk, Nat.le_trans (by rw [Nat.add_assoc]; exact Nat.add_le_add_left (Nat.le_of_ble_eq_true rfl) _) hn⟩ (fun v T hq => ?_) (fun _ _ hq => hq.elim)
  obtain ⟨hw2, r2, rfl, hOK⟩ := hq
  refine wa_istore X (lv' := (6, .inl r2) :: (5, .inl r1) :: LL i) dL_law_1807 (by decide) rfl ?_
  refine wa_wid (k' := k + 50) (n' := n + 1000) (by omega) (by omega) ?_
  exact law_tail (L := L) (xs := xs) X hk hn hw2 hOK dL_law_1809 dL_law_1810 dL_law_1813 dL_law_1815 dL_law_1820 dL_law_1822 dL_law_1825 dL_law_1826 dL_law_1827 dL_law_1828 dL_law_1830 dL_law_1831 dL_law_1832 dL_law_1837 (by decide) kk

set_option maxRecDepth 100000 in
set_option maxHeartbeats 4000000 in
theorem law_c22 {Z : hs_Z} {L : Nat} {xs : Nat → Int32} {k n j : Nat} {S : hs_S} {i : Int32} (X : hs_C Z RL cL_law 7 room_1) (hL : hs_SC Z L xs) (hB : ∀ c : Int32, 0 ≤ c.toInt → c.toInt < 7 → 0 ≤ (i + c).toInt ∧ (i + c).toInt < L) (hk : k + 50 ≤ room_1.cells) (hn : n + 1000 ≤ room_1.slots) (h : RR j S) (hj : j < 512) (hw : hs_Wi S) (kk : ∀ T, RR (j + 1) T → hs_Wi T → wa Z (k + 50) (n + 1000) T 2201 (LL i) []) : wa Z k n S 1840 (LL i) [] := by
  refine wa_aload_n X 3 rfl dL_law_1840 rfl ?_
  refine wa_sc1 X hL (c := 1) 4 0 rfl rfl dL_law_1841 dL_law_1842 dL_law_1844 kc1 dL_law_1845 dL_law_1846 (hB 1 (by decide) (by decide)) ?_
  refine wa_aload_n X 1 rfl dL_law_1847 rfl ?_
  refine wa_callSW X (As := [.inr (.inr (10, 1)), .inl (xs (i + 1).toNatClampNeg), .inr (.inr (100, 1))]) (call_settle h hj hw) kw_1112 kw_53 kw_1110 kw_1111 nd_L_settle rfl rfl (Nat.le_of_ble_eq_true rfl) dL_law_1848 ⟨⟨Nat.le_of_ble_eq_true rfl, Nat.le_of_ble_eq_true rfl⟩, Nat.le_trans (Nat.add_le_add_left (Nat.le_of_ble_eq_true rfl) _) hk, Nat.le_trans (Nat.add_le_add_left (Nat.le_of_ble_eq_true rfl) _) hn⟩ (fun v S1 hq => ?_) (fun _ _ hq => hq.elim)
  obtain ⟨hw1, r1, rfl, hv⟩ := hq
  refine wa_istore X (lv' := (5, .inl r1) :: LL i) dL_law_1851 (by decide) rfl ?_
  refine wa_aload_n X 3 rfl dL_law_1853 rfl ?_
  refine wa_sc1 X hL (c := 1) 5 1 rfl rfl dL_law_1854 dL_law_1855 dL_law_1857 kc1 dL_law_1858 dL_law_1859 (hB 1 (by decide) (by decide)) ?_
  refine wa_callV X (As := [.inl (xs (i + 1).toNatClampNeg)]) (hv hw1) hk_11 hc_11 rfl kw_1602 kw_66 kw_1599 kw_1600 kw_1601 nd_X11_settle rfl rfl (Nat.le_of_ble_eq_true rfl) dL_law_1860 hs_1ne ⟨⟨Nat.le_of_ble_eq_true rfl, Nat.le_of_ble_eq_true rfl⟩, Nat.le_trans (by rw [Nat.add_assoc]; exact Nat.add_le_add_left (Nat.le_of_ble_eq_true rfl) _) hk, Nat.le_trans (by rw [Nat.add_assoc]; exact Nat.add_le_add_left (Nat.le_of_ble_eq_true rfl) _) hn⟩ (fun v T hq => ?_) (fun _ _ hq => hq.elim)
  obtain ⟨hw2, r2, rfl, hOK⟩ := hq
  refine wa_istore X (lv' := (6, .inl r2) :: (5, .inl r1) :: LL i) dL_law_1863 (by decide) rfl ?_
  refine wa_wid (k' := k + 50) (n' := n + 1000) (by omega) (by omega) ?_
  exact law_tail (L := L) (xs := xs) X hk hn hw2 hOK dL_law_1865 dL_law_1866 dL_law_1869 dL_law_1871 dL_law_1876 dL_law_1878 dL_law_1881 dL_law_1882 dL_law_1883 dL_law_1884 dL_law_1886 dL_law_1887 dL_law_1888 dL_law_1893 (by decide) kk

set_option maxRecDepth 100000 in
set_option maxHeartbeats 4000000 in
theorem law_c23 {Z : hs_Z} {L : Nat} {xs : Nat → Int32} {k n j : Nat} {S : hs_S} {i : Int32} (X : hs_C Z RL cL_law 7 room_1) (hL : hs_SC Z L xs) (hB : ∀ c : Int32, 0 ≤ c.toInt → c.toInt < 7 → 0 ≤ (i + c).toInt ∧ (i + c).toInt < L) (hk : k + 50 ≤ room_1.cells) (hn : n + 1000 ≤ room_1.slots) (h : RR j S) (hj : j < 512) (hw : hs_Wi S) (kk : ∀ T, RR (j + 1) T → hs_Wi T → wa Z (k + 50) (n + 1000) T 2201 (LL i) []) : wa Z k n S 1896 (LL i) [] := by
  refine wa_aload_n X 3 rfl dL_law_1896 rfl ?_
  refine wa_sc1 X hL (c := 1) 4 0 rfl rfl dL_law_1897 dL_law_1898 dL_law_1900 kc1 dL_law_1901 dL_law_1902 (hB 1 (by decide) (by decide)) ?_
  refine wa_aload_n X 1 rfl dL_law_1903 rfl ?_
  refine wa_callSW X (As := [.inr (.inr (10, 1)), .inl (xs (i + 1).toNatClampNeg), .inr (.inr (100, 1))]) (call_cash h hj hw) kw_1133 kw_53 kw_1131 kw_1132 nd_L_cash rfl rfl (Nat.le_of_ble_eq_true rfl) dL_law_1904 ⟨⟨Nat.le_of_ble_eq_true rfl, Nat.le_of_ble_eq_true rfl⟩, Nat.le_trans (Nat.add_le_add_left (Nat.le_of_ble_eq_true rfl) _) hk, Nat.le_trans (Nat.add_le_add_left (Nat.le_of_ble_eq_true rfl) _) hn⟩ (fun v S1 hq => ?_) (fun _ _ hq => hq.elim)
  obtain ⟨hw1, r1, rfl, hv⟩ := hq
  refine wa_istore X (lv' := (5, .inl r1) :: LL i) dL_law_1907 (by decide) rfl ?_
  refine wa_aload_n X 3 rfl dL_law_1909 rfl ?_
  refine wa_sc1 X hL (c := 1) 5 1 rfl rfl dL_law_1910 dL_law_1911 dL_law_1913 kc1 dL_law_1914 dL_law_1915 (hB 1 (by decide) (by decide)) ?_
  refine wa_callV X (As := [.inl (xs (i + 1).toNatClampNeg)]) (hv hw1) hk_11 hc_11 rfl kw_1615 kw_66 kw_1612 kw_1613 kw_1614 nd_X11_cash rfl rfl (Nat.le_of_ble_eq_true rfl) dL_law_1916 hs_1ne ⟨⟨Nat.le_of_ble_eq_true rfl, Nat.le_of_ble_eq_true rfl⟩, Nat.le_trans (by rw [Nat.add_assoc]; exact Nat.add_le_add_left (Nat.le_of_ble_eq_true rfl) _) hk, Nat.le_trans (by rw [Nat.add_assoc]; exact Nat.add_le_add_left (Nat.le_of_ble_eq_true rfl) _) hn⟩ (fun v T hq => ?_) (fun _ _ hq => hq.elim)
  obtain ⟨hw2, r2, rfl, hOK⟩ := hq
  refine wa_istore X (lv' := (6, .inl r2) :: (5, .inl r1) :: LL i) dL_law_1919 (by decide) rfl ?_
  refine wa_wid (k' := k + 50) (n' := n + 1000) (by omega) (by omega) ?_
  exact law_tail (L := L) (xs := xs) X hk hn hw2 hOK dL_law_1921 dL_law_1922 dL_law_1925 dL_law_1927 dL_law_1932 dL_law_1934 dL_law_1937 dL_law_1938 dL_law_1939 dL_law_1940 dL_law_1942 dL_law_1943 dL_law_1944 dL_law_1949 (by decide) kk

set_option maxRecDepth 100000 in
set_option maxHeartbeats 4000000 in
theorem law_c24 {Z : hs_Z} {L : Nat} {xs : Nat → Int32} {k n j : Nat} {S : hs_S} {i : Int32} (X : hs_C Z RL cL_law 7 room_1) (hL : hs_SC Z L xs) (hB : ∀ c : Int32, 0 ≤ c.toInt → c.toInt < 7 → 0 ≤ (i + c).toInt ∧ (i + c).toInt < L) (hk : k + 50 ≤ room_1.cells) (hn : n + 1000 ≤ room_1.slots) (h : RR j S) (hj : j < 512) (hw : hs_Wi S) (kk : ∀ T, RR (j + 1) T → hs_Wi T → wa Z (k + 50) (n + 1000) T 2201 (LL i) []) : wa Z k n S 1952 (LL i) [] := by
  refine wa_aload_n X 3 rfl dL_law_1952 rfl ?_
  refine wa_sc1 X hL (c := 1) 4 0 rfl rfl dL_law_1953 dL_law_1954 dL_law_1956 kc1 dL_law_1957 dL_law_1958 (hB 1 (by decide) (by decide)) ?_
  refine wa_sc1 X hL (c := 2) 4 0 rfl rfl dL_law_1959 dL_law_1960 dL_law_1962 kc2 dL_law_1963 dL_law_1964 (hB 2 (by decide) (by decide)) ?_
  refine wa_aload_n X 1 rfl dL_law_1965 rfl ?_
  refine wa_callSW X (As := [.inr (.inr (10, 1)), .inl (xs (i + 1).toNatClampNeg), .inl (xs (i + 2).toNatClampNeg), .inr (.inr (100, 1))]) (call_limit h hj hw) kw_1140 kw_53 kw_1138 kw_1139 nd_L_limit rfl rfl (Nat.le_of_ble_eq_true rfl) dL_law_1966 ⟨⟨Nat.le_of_ble_eq_true rfl, Nat.le_of_ble_eq_true rfl⟩, Nat.le_trans (Nat.add_le_add_left (Nat.le_of_ble_eq_true rfl) _) hk, Nat.le_trans (Nat.add_le_add_left (Nat.le_of_ble_eq_true rfl) _) hn⟩ (fun v S1 hq => ?_) (fun _ _ hq => hq.elim)
  obtain ⟨hw1, r1, rfl, hv⟩ := hq
  refine wa_istore X (lv' := (5, .inl r1) :: LL i) dL_law_1969 (by decide) rfl ?_
  refine wa_aload_n X 3 rfl dL_law_1971 rfl ?_
  refine wa_sc1 X hL (c := 1) 5 1 rfl rfl dL_law_1972 dL_law_1973 dL_law_1975 kc1 dL_law_1976 dL_law_1977 (hB 1 (by decide) (by decide)) ?_
  refine wa_sc1 X hL (c := 2) 5 1 rfl rfl dL_law_1978 dL_law_1979 dL_law_1981 kc2 dL_law_1982 dL_law_1983 (hB 2 (by decide) (by decide)) ?_
  refine wa_callV X (As := [.inl (xs (i + 1).toNatClampNeg), .inl (xs (i + 2).toNatClampNeg)]) (hv hw1) hk_11 hc_11 rfl kw_1619 kw_66 kw_1616 kw_1617 kw_1618 nd_X11_limit rfl rfl (Nat.le_of_ble_eq_true rfl) dL_law_1984 hs_1ne ⟨⟨Nat.le_of_ble_eq_true rfl, Nat.le_of_ble_eq_true rfl⟩, Nat.le_trans (by rw [Nat.add_assoc]; exact Nat.add_le_add_left (Nat.le_of_ble_eq_true rfl) _) hk, Nat.le_trans (by rw [Nat.add_assoc]; exact Nat.add_le_add_left (Nat.le_of_ble_eq_true rfl) _) hn⟩ (fun v T hq => ?_) (fun _ _ hq => hq.elim)
  obtain ⟨hw2, r2, rfl, hOK⟩ := hq
  refine wa_istore X (lv' := (6, .inl r2) :: (5, .inl r1) :: LL i) dL_law_1987 (by decide) rfl ?_
  refine wa_wid (k' := k + 50) (n' := n + 1000) (by omega) (by omega) ?_
  exact law_tail (L := L) (xs := xs) X hk hn hw2 hOK dL_law_1989 dL_law_1990 dL_law_1993 dL_law_1995 dL_law_2000 dL_law_2002 dL_law_2005 dL_law_2006 dL_law_2007 dL_law_2008 dL_law_2010 dL_law_2011 dL_law_2012 dL_law_2017 (by decide) kk

set_option maxRecDepth 100000 in
set_option maxHeartbeats 4000000 in
theorem law_c25 {Z : hs_Z} {L : Nat} {xs : Nat → Int32} {k n j : Nat} {S : hs_S} {i : Int32} (X : hs_C Z RL cL_law 7 room_1) (hL : hs_SC Z L xs) (hB : ∀ c : Int32, 0 ≤ c.toInt → c.toInt < 7 → 0 ≤ (i + c).toInt ∧ (i + c).toInt < L) (hk : k + 50 ≤ room_1.cells) (hn : n + 1000 ≤ room_1.slots) (h : RR j S) (hj : j < 512) (hw : hs_Wi S) (kk : ∀ T, RR (j + 1) T → hs_Wi T → wa Z (k + 50) (n + 1000) T 2201 (LL i) []) : wa Z k n S 2020 (LL i) [] := by
  refine wa_aload_n X 3 rfl dL_law_2020 rfl ?_
  refine wa_sc1 X hL (c := 1) 4 0 rfl rfl dL_law_2021 dL_law_2022 dL_law_2024 kc1 dL_law_2025 dL_law_2026 (hB 1 (by decide) (by decide)) ?_
  refine wa_aload_n X 1 rfl dL_law_2027 rfl ?_
  refine wa_callSW X (As := [.inr (.inr (10, 1)), .inl (xs (i + 1).toNatClampNeg), .inr (.inr (100, 1))]) (call_exposure h hj hw) kw_1148 kw_53 kw_1146 kw_1147 nd_L_exposure rfl rfl (Nat.le_of_ble_eq_true rfl) dL_law_2028 ⟨⟨Nat.le_of_ble_eq_true rfl, Nat.le_of_ble_eq_true rfl⟩, Nat.le_trans (Nat.add_le_add_left (Nat.le_of_ble_eq_true rfl) _) hk, Nat.le_trans (Nat.add_le_add_left (Nat.le_of_ble_eq_true rfl) _) hn⟩ (fun v S1 hq => ?_) (fun _ _ hq => hq.elim)
  obtain ⟨hw1, r1, rfl, hv⟩ := hq
  refine wa_istore X (lv' := (5, .inl r1) :: LL i) dL_law_2031 (by decide) rfl ?_
  refine wa_aload_n X 3 rfl dL_law_2033 rfl ?_
  refine wa_sc1 X hL (c := 1) 5 1 rfl rfl dL_law_2034 dL_law_2035 dL_law_2037 kc1 dL_law_2038 dL_law_2039 (hB 1 (by decide) (by decide)) ?_
  refine wa_callV X (As := [.inl (xs (i + 1).toNatClampNeg)]) (hv hw1) hk_11 hc_11 rfl kw_1624 kw_66 kw_1621 kw_1622 kw_1623 nd_X11_exposure rfl rfl (Nat.le_of_ble_eq_true rfl) dL_law_2040 hs_1ne ⟨⟨Nat.le_of_ble_eq_true rfl, Nat.le_of_ble_eq_true rfl⟩, Nat.le_trans (by rw [Nat.add_assoc]; exact Nat.add_le_add_left (Nat.le_of_ble_eq_true rfl) _) hk, Nat.le_trans (by rw [Nat.add_assoc]; exact Nat.add_le_add_left (Nat.le_of_ble_eq_true rfl) _) hn⟩ (fun v T hq => ?_) (fun _ _ hq => hq.elim)
  obtain ⟨hw2, r2, rfl, hOK⟩ := hq
  refine wa_istore X (lv' := (6, .inl r2) :: (5, .inl r1) :: LL i) dL_law_2043 (by decide) rfl ?_
  refine wa_wid (k' := k + 50) (n' := n + 1000) (by omega) (by omega) ?_
  exact law_tail (L := L) (xs := xs) X hk hn hw2 hOK dL_law_2045 dL_law_2046 dL_law_2049 dL_law_2051 dL_law_2056 dL_law_2058 dL_law_2061 dL_law_2062 dL_law_2063 dL_law_2064 dL_law_2066 dL_law_2067 dL_law_2068 dL_law_2073 (by decide) kk

set_option maxRecDepth 100000 in
set_option maxHeartbeats 4000000 in
theorem law_c26 {Z : hs_Z} {L : Nat} {xs : Nat → Int32} {k n j : Nat} {S : hs_S} {i : Int32} (X : hs_C Z RL cL_law 7 room_1) (hL : hs_SC Z L xs) (hB : ∀ c : Int32, 0 ≤ c.toInt → c.toInt < 7 → 0 ≤ (i + c).toInt ∧ (i + c).toInt < L) (hk : k + 50 ≤ room_1.cells) (hn : n + 1000 ≤ room_1.slots) (h : RR j S) (hj : j < 512) (hw : hs_Wi S) (kk : ∀ T, RR (j + 1) T → hs_Wi T → wa Z (k + 50) (n + 1000) T 2201 (LL i) []) : wa Z k n S 2076 (LL i) [] := by
  refine wa_aload_n X 3 rfl dL_law_2076 rfl ?_
  refine wa_sc1 X hL (c := 1) 4 0 rfl rfl dL_law_2077 dL_law_2078 dL_law_2080 kc1 dL_law_2081 dL_law_2082 (hB 1 (by decide) (by decide)) ?_
  refine wa_aload_n X 1 rfl dL_law_2083 rfl ?_
  refine wa_callSW X (As := [.inr (.inr (10, 1)), .inl (xs (i + 1).toNatClampNeg), .inr (.inr (100, 1))]) (call_strikeBid h hj hw) kw_1155 kw_53 kw_1153 kw_1154 nd_L_strikeBid rfl rfl (Nat.le_of_ble_eq_true rfl) dL_law_2084 ⟨⟨Nat.le_of_ble_eq_true rfl, Nat.le_of_ble_eq_true rfl⟩, Nat.le_trans (Nat.add_le_add_left (Nat.le_of_ble_eq_true rfl) _) hk, Nat.le_trans (Nat.add_le_add_left (Nat.le_of_ble_eq_true rfl) _) hn⟩ (fun v S1 hq => ?_) (fun _ _ hq => hq.elim)
  obtain ⟨hw1, r1, rfl, hv⟩ := hq
  refine wa_istore X (lv' := (5, .inl r1) :: LL i) dL_law_2087 (by decide) rfl ?_
  refine wa_aload_n X 3 rfl dL_law_2089 rfl ?_
  refine wa_sc1 X hL (c := 1) 5 1 rfl rfl dL_law_2090 dL_law_2091 dL_law_2093 kc1 dL_law_2094 dL_law_2095 (hB 1 (by decide) (by decide)) ?_
  refine wa_callV X (As := [.inl (xs (i + 1).toNatClampNeg)]) (hv hw1) hk_11 hc_11 rfl kw_1628 kw_66 kw_1625 kw_1626 kw_1627 nd_X11_strikeBid rfl rfl (Nat.le_of_ble_eq_true rfl) dL_law_2096 hs_1ne ⟨⟨Nat.le_of_ble_eq_true rfl, Nat.le_of_ble_eq_true rfl⟩, Nat.le_trans (by rw [Nat.add_assoc]; exact Nat.add_le_add_left (Nat.le_of_ble_eq_true rfl) _) hk, Nat.le_trans (by rw [Nat.add_assoc]; exact Nat.add_le_add_left (Nat.le_of_ble_eq_true rfl) _) hn⟩ (fun v T hq => ?_) (fun _ _ hq => hq.elim)
  obtain ⟨hw2, r2, rfl, hOK⟩ := hq
  refine wa_istore X (lv' := (6, .inl r2) :: (5, .inl r1) :: LL i) dL_law_2099 (by decide) rfl ?_
  refine wa_wid (k' := k + 50) (n' := n + 1000) (by omega) (by omega) ?_
  exact law_tail (L := L) (xs := xs) X hk hn hw2 hOK dL_law_2101 dL_law_2102 dL_law_2105 dL_law_2107 dL_law_2112 dL_law_2114 dL_law_2117 dL_law_2118 dL_law_2119 dL_law_2120 dL_law_2122 dL_law_2123 dL_law_2124 dL_law_2129 (by decide) kk

set_option maxRecDepth 100000 in
set_option maxHeartbeats 4000000 in
theorem law_c27 {Z : hs_Z} {L : Nat} {xs : Nat → Int32} {k n j : Nat} {S : hs_S} {i : Int32} (X : hs_C Z RL cL_law 7 room_1) (hL : hs_SC Z L xs) (hB : ∀ c : Int32, 0 ≤ c.toInt → c.toInt < 7 → 0 ≤ (i + c).toInt ∧ (i + c).toInt < L) (hk : k + 50 ≤ room_1.cells) (hn : n + 1000 ≤ room_1.slots) (h : RR j S) (hj : j < 512) (hw : hs_Wi S) (kk : ∀ T, RR (j + 1) T → hs_Wi T → wa Z (k + 50) (n + 1000) T 2201 (LL i) []) : wa Z k n S 2132 (LL i) [] := by
  refine wa_aload_n X 3 rfl dL_law_2132 rfl ?_
  refine wa_sc1 X hL (c := 1) 4 0 rfl rfl dL_law_2133 dL_law_2134 dL_law_2136 kc1 dL_law_2137 dL_law_2138 (hB 1 (by decide) (by decide)) ?_
  refine wa_aload_n X 1 rfl dL_law_2139 rfl ?_
  refine wa_callSW X (As := [.inr (.inr (10, 1)), .inl (xs (i + 1).toNatClampNeg), .inr (.inr (100, 1))]) (call_strikeEdit h hj hw) kw_1170 kw_53 kw_1168 kw_1169 nd_L_strikeEdit rfl rfl (Nat.le_of_ble_eq_true rfl) dL_law_2140 ⟨⟨Nat.le_of_ble_eq_true rfl, Nat.le_of_ble_eq_true rfl⟩, Nat.le_trans (Nat.add_le_add_left (Nat.le_of_ble_eq_true rfl) _) hk, Nat.le_trans (Nat.add_le_add_left (Nat.le_of_ble_eq_true rfl) _) hn⟩ (fun v S1 hq => ?_) (fun _ _ hq => hq.elim)
  obtain ⟨hw1, r1, rfl, hv⟩ := hq
  refine wa_istore X (lv' := (5, .inl r1) :: LL i) dL_law_2143 (by decide) rfl ?_
  refine wa_aload_n X 3 rfl dL_law_2145 rfl ?_
  refine wa_sc1 X hL (c := 1) 5 1 rfl rfl dL_law_2146 dL_law_2147 dL_law_2149 kc1 dL_law_2150 dL_law_2151 (hB 1 (by decide) (by decide)) ?_
  refine wa_callV X (As := [.inl (xs (i + 1).toNatClampNeg)]) (hv hw1) hk_11 hc_11 rfl kw_1636 kw_66 kw_1633 kw_1634 kw_1635 nd_X11_strikeEdit rfl rfl (Nat.le_of_ble_eq_true rfl) dL_law_2152 hs_1ne ⟨⟨Nat.le_of_ble_eq_true rfl, Nat.le_of_ble_eq_true rfl⟩, Nat.le_trans (by rw [Nat.add_assoc]; exact Nat.add_le_add_left (Nat.le_of_ble_eq_true rfl) _) hk, Nat.le_trans (by rw [Nat.add_assoc]; exact Nat.add_le_add_left (Nat.le_of_ble_eq_true rfl) _) hn⟩ (fun v T hq => ?_) (fun _ _ hq => hq.elim)
  obtain ⟨hw2, r2, rfl, hOK⟩ := hq
  refine wa_istore X (lv' := (6, .inl r2) :: (5, .inl r1) :: LL i) dL_law_2155 (by decide) rfl ?_
  refine wa_wid (k' := k + 50) (n' := n + 1000) (by omega) (by omega) ?_
  exact law_tail (L := L) (xs := xs) X hk hn hw2 hOK dL_law_2157 dL_law_2158 dL_law_2161 dL_law_2163 dL_law_2168 dL_law_2170 dL_law_2173 dL_law_2174 dL_law_2175 dL_law_2176 dL_law_2178 dL_law_2179 dL_law_2180 dL_law_2185 (by decide) kk

set_option maxRecDepth 100000 in
set_option maxHeartbeats 4000000 in
theorem law_c28 {Z : hs_Z} {L : Nat} {xs : Nat → Int32} {k n j : Nat} {S : hs_S} {i : Int32} (X : hs_C Z RL cL_law 7 room_1) (hL : hs_SC Z L xs) (hB : ∀ c : Int32, 0 ≤ c.toInt → c.toInt < 7 → 0 ≤ (i + c).toInt ∧ (i + c).toInt < L) (hk : k + 50 ≤ room_1.cells) (hn : n + 1000 ≤ room_1.slots) (h : RR j S) (hj : j < 512) (hw : hs_Wi S) (kk : ∀ T, RR (j + 1) T → hs_Wi T → wa Z (k + 50) (n + 1000) T 2201 (LL i) []) : wa Z k n S 2188 (LL i) [] := by
  refine wa_aload_n X 3 rfl dL_law_2188 rfl ?_
  refine wa_callV X (As := []) (call_events h hj hw) hk_10 hc_10 rfl kw_391 kw_54 kw_388 kw_389 kw_390 nd_X10_events rfl rfl (Nat.le_of_ble_eq_true rfl) dL_law_2189 hs_1ne ⟨⟨Nat.le_of_ble_eq_true rfl, Nat.le_of_ble_eq_true rfl⟩, Nat.le_trans (Nat.add_le_add_left (Nat.le_of_ble_eq_true rfl) _) hk, Nat.le_trans (Nat.add_le_add_left (Nat.le_of_ble_eq_true rfl) _) hn⟩ (fun v S1 hq => ?_) (fun _ _ hq => hq.elim)
  obtain ⟨hw1, r1, rfl, hv⟩ := hq
  refine wa_aload_n X 2 rfl dL_law_2192 rfl ?_
  refine wa_callV X (As := []) (hv hw1) hk_11 hc_11 rfl kw_1640 kw_66 kw_1637 kw_1638 kw_1639 nd_X11_events rfl rfl (Nat.le_of_ble_eq_true rfl) dL_law_2193 hs_1ne ⟨⟨Nat.le_of_ble_eq_true rfl, Nat.le_of_ble_eq_true rfl⟩, Nat.le_trans (by rw [Nat.add_assoc]; exact Nat.add_le_add_left (Nat.le_of_ble_eq_true rfl) _) hk, Nat.le_trans (by rw [Nat.add_assoc]; exact Nat.add_le_add_left (Nat.le_of_ble_eq_true rfl) _) hn⟩ (fun v T hq => ?_) (fun _ _ hq => hq.elim)
  obtain ⟨hw2, r2, rfl, hRR, hr⟩ := hq
  refine wa_icmp_eq X (tgt := 2201) dL_law_2196 (by decide) (fun _ => ?_) (fun hc => absurd hr hc)
  exact wa_wid (by omega) (by omega) (kk T hRR hw2)
