-- THE CASES OF THE LAW (by mk81.py)
abbrev LWC (x : KX) (w : WX) : Prop := Cn x cL_law "ElderPapersLaw" 4 w (some .boolean) ∧ kR x = room_1
abbrev LN (x : KX) (Q : State → Prop) (w : WX) (a a2 : Nat → Nat) (b i pc : Nat) (c m : Mem) : Prop := GN x Q 4 w pc (lwL i b (a 0) (a2 61)) [] (lwW w a a2 c m) 88 6218
section LAWCASES
variable {x : KX} {w : WX} {Q : State → Prop} {a a2 : Nat → Nat} {b L i : Nat} {xs : Nat → Int32} {c m : Mem}
theorem lc_0 (C0 : LWC x w) (X : Scr x b L xs) (hi : i + 7 ≤ L) (R0 : RR c m) (kk : ∀ c' m', RR c' m' → LN x Q w a a2 b i 1768 c' m') : LN x Q w a a2 b i 236 c m := by
  obtain ⟨C, hR⟩ := C0
  obtain ⟨v, vk, R⟩ := R0
  obtain ⟨r, c', m', e1, e2, R'⟩ := b_person R (Nat.le_refl 1000) (xs (i + 1)) (xs (i + 2)) (xs (i + 3))
  refine gn_aload_n C dL_law_236 rfl 2 rfl ?_
  refine gn_arg C X (j := 1) (z := 1) rfl (by omega) dL_law_237 dL_law_238 dL_law_239 dL_law_240 dL_law_241 ?_
  refine gn_arg C X (j := 2) (z := 2) rfl (by omega) dL_law_242 dL_law_243 dL_law_244 dL_law_245 dL_law_246 ?_
  refine gn_arg C X (j := 3) (z := 3) rfl (by omega) dL_law_247 dL_law_248 dL_law_249 dL_law_250 dL_law_251 ?_
  refine law_callI C (W1 := []) (W2 := wl (mkW w a2 Sm) m ++ []) (a := a) (S := Sc) (s := c) (s' := c') (r := r) (i := 0) (c := 8) (R := RX8) (T := TX8) (N := 11) [.int (xs (i + 1)), .int (xs (i + 2)), .int (xs (i + 3))] (c_X8_person (kl x) 1000 (mkW w a Sc) rfl (xs (i + 1)) (xs (i + 2)) (xs (i + 3)) e1) (law_cw C hR ml_L_13 im_X8_person sl_X8_person ini_X8 cd_X8_person hd_X8_person ⟨⟨Nat.le_of_ble_eq_true rfl, Nat.le_of_ble_eq_true rfl⟩, rfl, rfl⟩) kd_0 (by decide) rfl (by decide) rfl _ rfl (Nat.le_of_ble_eq_true rfl) dL_law_252 ⟨by rw [hR]; exact Nat.le_of_ble_eq_true rfl, by rw [hR]; exact Nat.le_of_ble_eq_true rfl⟩ ?_
  refine gn_aload_n C dL_law_255 rfl 1 rfl ?_
  refine gn_arg C X (j := 1) (z := 1) rfl (by omega) dL_law_256 dL_law_257 dL_law_258 dL_law_259 dL_law_260 ?_
  refine gn_arg C X (j := 2) (z := 2) rfl (by omega) dL_law_261 dL_law_262 dL_law_263 dL_law_264 dL_law_265 ?_
  refine gn_arg C X (j := 3) (z := 3) rfl (by omega) dL_law_266 dL_law_267 dL_law_268 dL_law_269 dL_law_270 ?_
  refine law_callI C (W1 := wl (mkW w a Sc) c') (W2 := []) (a := a2) (S := Sm) (s := m) (s' := m') (r := r) (i := 61) (c := 9) (R := RX9) (T := TX9) (N := 48) [.int (xs (i + 1)), .int (xs (i + 2)), .int (xs (i + 3))] (c_X9_person (kl x) 1000 (mkW w a2 Sm) rfl (xs (i + 1)) (xs (i + 2)) (xs (i + 3)) e2) (law_cw C hR ml_L_17 im_X9_person sl_X9_person ini_X9 cd_X9_person hd_X9_person ⟨⟨Nat.le_of_ble_eq_true rfl, Nat.le_of_ble_eq_true rfl⟩, rfl, rfl⟩) kd_61 (by decide) rfl (by decide) rfl _ rfl (Nat.le_of_ble_eq_true rfl) dL_law_271 ⟨by rw [hR]; exact Nat.le_of_ble_eq_true rfl, by rw [hR]; exact Nat.le_of_ble_eq_true rfl⟩ ?_
  refine gn_icmp_same C (tgt := 1768) dL_law_274 (by decide) ?_
  exact kk c' m' R'
theorem lc_1 (C0 : LWC x w) (X : Scr x b L xs) (hi : i + 7 ≤ L) (R0 : RR c m) (kk : ∀ c' m', RR c' m' → LN x Q w a a2 b i 1768 c' m') : LN x Q w a a2 b i 279 c m := by
  obtain ⟨C, hR⟩ := C0
  obtain ⟨v, vk, R⟩ := R0
  obtain ⟨r, c', m', e1, e2, R'⟩ := b_personOf R (Nat.le_refl 1000) (xs (i + 1)) (xs (i + 2))
  refine gn_aload_n C dL_law_279 rfl 2 rfl ?_
  refine gn_arg C X (j := 1) (z := 1) rfl (by omega) dL_law_280 dL_law_281 dL_law_282 dL_law_283 dL_law_284 ?_
  refine gn_arg C X (j := 2) (z := 2) rfl (by omega) dL_law_285 dL_law_286 dL_law_287 dL_law_288 dL_law_289 ?_
  refine law_callI C (W1 := []) (W2 := wl (mkW w a2 Sm) m ++ []) (a := a) (S := Sc) (s := c) (s' := c') (r := r) (i := 0) (c := 8) (R := RX8) (T := TX8) (N := 11) [.int (xs (i + 1)), .int (xs (i + 2))] (c_X8_personOf (kl x) 1000 (mkW w a Sc) rfl (xs (i + 1)) (xs (i + 2)) e1) (law_cw C hR ml_L_18 im_X8_personOf sl_X8_personOf ini_X8 cd_X8_personOf hd_X8_personOf ⟨⟨Nat.le_of_ble_eq_true rfl, Nat.le_of_ble_eq_true rfl⟩, rfl, rfl⟩) kd_0 (by decide) rfl (by decide) rfl _ rfl (Nat.le_of_ble_eq_true rfl) dL_law_290 ⟨by rw [hR]; exact Nat.le_of_ble_eq_true rfl, by rw [hR]; exact Nat.le_of_ble_eq_true rfl⟩ ?_
  refine gn_aload_n C dL_law_293 rfl 1 rfl ?_
  refine gn_arg C X (j := 1) (z := 1) rfl (by omega) dL_law_294 dL_law_295 dL_law_296 dL_law_297 dL_law_298 ?_
  refine gn_arg C X (j := 2) (z := 2) rfl (by omega) dL_law_299 dL_law_300 dL_law_301 dL_law_302 dL_law_303 ?_
  refine law_callI C (W1 := wl (mkW w a Sc) c') (W2 := []) (a := a2) (S := Sm) (s := m) (s' := m') (r := r) (i := 61) (c := 9) (R := RX9) (T := TX9) (N := 48) [.int (xs (i + 1)), .int (xs (i + 2))] (c_X9_personOf (kl x) 1000 (mkW w a2 Sm) rfl (xs (i + 1)) (xs (i + 2)) e2) (law_cw C hR ml_L_22 im_X9_personOf sl_X9_personOf ini_X9 cd_X9_personOf hd_X9_personOf ⟨⟨Nat.le_of_ble_eq_true rfl, Nat.le_of_ble_eq_true rfl⟩, rfl, rfl⟩) kd_61 (by decide) rfl (by decide) rfl _ rfl (Nat.le_of_ble_eq_true rfl) dL_law_304 ⟨by rw [hR]; exact Nat.le_of_ble_eq_true rfl, by rw [hR]; exact Nat.le_of_ble_eq_true rfl⟩ ?_
  refine gn_icmp_same C (tgt := 1768) dL_law_307 (by decide) ?_
  exact kk c' m' R'
theorem lc_2 (C0 : LWC x w) (X : Scr x b L xs) (hi : i + 7 ≤ L) (R0 : RR c m) (kk : ∀ c' m', RR c' m' → LN x Q w a a2 b i 1768 c' m') : LN x Q w a a2 b i 312 c m := by
  obtain ⟨C, hR⟩ := C0
  obtain ⟨v, vk, R⟩ := R0
  obtain ⟨r, c', m', e1, e2, R'⟩ := b_paper R (Nat.le_refl 1000) (xs (i + 1)) (xs (i + 2)) (xs (i + 3)) (xs (i + 4)) (xs (i + 5)) (xs (i + 6))
  refine gn_aload_n C dL_law_312 rfl 2 rfl ?_
  refine gn_arg C X (j := 1) (z := 1) rfl (by omega) dL_law_313 dL_law_314 dL_law_315 dL_law_316 dL_law_317 ?_
  refine gn_arg C X (j := 2) (z := 2) rfl (by omega) dL_law_318 dL_law_319 dL_law_320 dL_law_321 dL_law_322 ?_
  refine gn_arg C X (j := 3) (z := 3) rfl (by omega) dL_law_323 dL_law_324 dL_law_325 dL_law_326 dL_law_327 ?_
  refine gn_arg C X (j := 4) (z := 4) rfl (by omega) dL_law_328 dL_law_329 dL_law_330 dL_law_331 dL_law_332 ?_
  refine gn_arg C X (j := 5) (z := 5) rfl (by omega) dL_law_333 dL_law_334 dL_law_335 dL_law_336 dL_law_337 ?_
  refine gn_arg6 C X (j := 6) (z := 6) (by decide) (by omega) dL_law_338 dL_law_339 dL_law_340 dL_law_342 dL_law_343 ?_
  refine law_callI C (W1 := []) (W2 := wl (mkW w a2 Sm) m ++ []) (a := a) (S := Sc) (s := c) (s' := c') (r := r) (i := 0) (c := 8) (R := RX8) (T := TX8) (N := 11) [.int (xs (i + 1)), .int (xs (i + 2)), .int (xs (i + 3)), .int (xs (i + 4)), .int (xs (i + 5)), .int (xs (i + 6))] (c_X8_paper (kl x) 1000 (mkW w a Sc) rfl (xs (i + 1)) (xs (i + 2)) (xs (i + 3)) (xs (i + 4)) (xs (i + 5)) (xs (i + 6)) e1) (law_cw C hR ml_L_23 im_X8_paper sl_X8_paper ini_X8 cd_X8_paper hd_X8_paper ⟨⟨Nat.le_of_ble_eq_true rfl, Nat.le_of_ble_eq_true rfl⟩, rfl, rfl⟩) kd_0 (by decide) rfl (by decide) rfl _ rfl (Nat.le_of_ble_eq_true rfl) dL_law_344 ⟨by rw [hR]; exact Nat.le_of_ble_eq_true rfl, by rw [hR]; exact Nat.le_of_ble_eq_true rfl⟩ ?_
  refine gn_aload_n C dL_law_347 rfl 1 rfl ?_
  refine gn_arg C X (j := 1) (z := 1) rfl (by omega) dL_law_348 dL_law_349 dL_law_350 dL_law_351 dL_law_352 ?_
  refine gn_arg C X (j := 2) (z := 2) rfl (by omega) dL_law_353 dL_law_354 dL_law_355 dL_law_356 dL_law_357 ?_
  refine gn_arg C X (j := 3) (z := 3) rfl (by omega) dL_law_358 dL_law_359 dL_law_360 dL_law_361 dL_law_362 ?_
  refine gn_arg C X (j := 4) (z := 4) rfl (by omega) dL_law_363 dL_law_364 dL_law_365 dL_law_366 dL_law_367 ?_
  refine gn_arg C X (j := 5) (z := 5) rfl (by omega) dL_law_368 dL_law_369 dL_law_370 dL_law_371 dL_law_372 ?_
  refine gn_arg6 C X (j := 6) (z := 6) (by decide) (by omega) dL_law_373 dL_law_374 dL_law_375 dL_law_377 dL_law_378 ?_
  refine law_callI C (W1 := wl (mkW w a Sc) c') (W2 := []) (a := a2) (S := Sm) (s := m) (s' := m') (r := r) (i := 61) (c := 9) (R := RX9) (T := TX9) (N := 48) [.int (xs (i + 1)), .int (xs (i + 2)), .int (xs (i + 3)), .int (xs (i + 4)), .int (xs (i + 5)), .int (xs (i + 6))] (c_X9_paper (kl x) 1000 (mkW w a2 Sm) rfl (xs (i + 1)) (xs (i + 2)) (xs (i + 3)) (xs (i + 4)) (xs (i + 5)) (xs (i + 6)) e2) (law_cw C hR ml_L_27 im_X9_paper sl_X9_paper ini_X9 cd_X9_paper hd_X9_paper ⟨⟨Nat.le_of_ble_eq_true rfl, Nat.le_of_ble_eq_true rfl⟩, rfl, rfl⟩) kd_61 (by decide) rfl (by decide) rfl _ rfl (Nat.le_of_ble_eq_true rfl) dL_law_379 ⟨by rw [hR]; exact Nat.le_of_ble_eq_true rfl, by rw [hR]; exact Nat.le_of_ble_eq_true rfl⟩ ?_
  refine gn_icmp_same C (tgt := 1768) dL_law_382 (by decide) ?_
  exact kk c' m' R'
theorem lc_3 (C0 : LWC x w) (X : Scr x b L xs) (hi : i + 7 ≤ L) (R0 : RR c m) (kk : ∀ c' m', RR c' m' → LN x Q w a a2 b i 1768 c' m') : LN x Q w a a2 b i 387 c m := by
  obtain ⟨C, hR⟩ := C0
  obtain ⟨v, vk, R⟩ := R0
  obtain ⟨r, c', m', e1, e2, R'⟩ := b_paperOf (N := 1000) R (xs (i + 1)) (xs (i + 2))
  refine gn_aload_n C dL_law_387 rfl 2 rfl ?_
  refine gn_arg C X (j := 1) (z := 1) rfl (by omega) dL_law_388 dL_law_389 dL_law_390 dL_law_391 dL_law_392 ?_
  refine gn_arg C X (j := 2) (z := 2) rfl (by omega) dL_law_393 dL_law_394 dL_law_395 dL_law_396 dL_law_397 ?_
  refine law_callI C (W1 := []) (W2 := wl (mkW w a2 Sm) m ++ []) (a := a) (S := Sc) (s := c) (s' := c') (r := r) (i := 0) (c := 8) (R := RX8) (T := TX8) (N := 11) [.int (xs (i + 1)), .int (xs (i + 2))] (c_X8_paperOf (kl x) 1000 (mkW w a Sc) rfl (xs (i + 1)) (xs (i + 2)) e1) (law_cw C hR ml_L_28 im_X8_paperOf sl_X8_paperOf ini_X8 cd_X8_paperOf hd_X8_paperOf ⟨⟨Nat.le_of_ble_eq_true rfl, Nat.le_of_ble_eq_true rfl⟩, rfl, rfl⟩) kd_0 (by decide) rfl (by decide) rfl _ rfl (Nat.le_of_ble_eq_true rfl) dL_law_398 ⟨by rw [hR]; exact Nat.le_of_ble_eq_true rfl, by rw [hR]; exact Nat.le_of_ble_eq_true rfl⟩ ?_
  refine gn_aload_n C dL_law_401 rfl 1 rfl ?_
  refine gn_arg C X (j := 1) (z := 1) rfl (by omega) dL_law_402 dL_law_403 dL_law_404 dL_law_405 dL_law_406 ?_
  refine gn_arg C X (j := 2) (z := 2) rfl (by omega) dL_law_407 dL_law_408 dL_law_409 dL_law_410 dL_law_411 ?_
  refine law_callI C (W1 := wl (mkW w a Sc) c') (W2 := []) (a := a2) (S := Sm) (s := m) (s' := m') (r := r) (i := 61) (c := 9) (R := RX9) (T := TX9) (N := 48) [.int (xs (i + 1)), .int (xs (i + 2))] (c_X9_paperOf (kl x) 1000 (mkW w a2 Sm) rfl (xs (i + 1)) (xs (i + 2)) e2) (law_cw C hR ml_L_31 im_X9_paperOf sl_X9_paperOf ini_X9 cd_X9_paperOf hd_X9_paperOf ⟨⟨Nat.le_of_ble_eq_true rfl, Nat.le_of_ble_eq_true rfl⟩, rfl, rfl⟩) kd_61 (by decide) rfl (by decide) rfl _ rfl (Nat.le_of_ble_eq_true rfl) dL_law_412 ⟨by rw [hR]; exact Nat.le_of_ble_eq_true rfl, by rw [hR]; exact Nat.le_of_ble_eq_true rfl⟩ ?_
  refine gn_icmp_same C (tgt := 1768) dL_law_415 (by decide) ?_
  exact kk c' m' R'
theorem lc_4 (C0 : LWC x w) (X : Scr x b L xs) (hi : i + 7 ≤ L) (R0 : RR c m) (kk : ∀ c' m', RR c' m' → LN x Q w a a2 b i 1768 c' m') : LN x Q w a a2 b i 420 c m := by
  obtain ⟨C, hR⟩ := C0
  obtain ⟨v, vk, R⟩ := R0
  obtain ⟨r, c', m', e1, e2, R'⟩ := b_correct (N := 1000) R (xs (i + 1)) (xs (i + 2))
  refine gn_aload_n C dL_law_420 rfl 2 rfl ?_
  refine gn_arg C X (j := 1) (z := 1) rfl (by omega) dL_law_421 dL_law_422 dL_law_423 dL_law_424 dL_law_425 ?_
  refine gn_arg C X (j := 2) (z := 2) rfl (by omega) dL_law_426 dL_law_427 dL_law_428 dL_law_429 dL_law_430 ?_
  refine law_callI C (W1 := []) (W2 := wl (mkW w a2 Sm) m ++ []) (a := a) (S := Sc) (s := c) (s' := c') (r := r) (i := 0) (c := 8) (R := RX8) (T := TX8) (N := 11) [.int (xs (i + 1)), .int (xs (i + 2))] (c_X8_correct (kl x) 1000 (mkW w a Sc) rfl (xs (i + 1)) (xs (i + 2)) e1) (law_cw C hR ml_L_32 im_X8_correct sl_X8_correct ini_X8 cd_X8_correct hd_X8_correct ⟨⟨Nat.le_of_ble_eq_true rfl, Nat.le_of_ble_eq_true rfl⟩, rfl, rfl⟩) kd_0 (by decide) rfl (by decide) rfl _ rfl (Nat.le_of_ble_eq_true rfl) dL_law_431 ⟨by rw [hR]; exact Nat.le_of_ble_eq_true rfl, by rw [hR]; exact Nat.le_of_ble_eq_true rfl⟩ ?_
  refine gn_aload_n C dL_law_434 rfl 1 rfl ?_
  refine gn_arg C X (j := 1) (z := 1) rfl (by omega) dL_law_435 dL_law_436 dL_law_437 dL_law_438 dL_law_439 ?_
  refine gn_arg C X (j := 2) (z := 2) rfl (by omega) dL_law_440 dL_law_441 dL_law_442 dL_law_443 dL_law_444 ?_
  refine law_callI C (W1 := wl (mkW w a Sc) c') (W2 := []) (a := a2) (S := Sm) (s := m) (s' := m') (r := r) (i := 61) (c := 9) (R := RX9) (T := TX9) (N := 48) [.int (xs (i + 1)), .int (xs (i + 2))] (c_X9_correct (kl x) 1000 (mkW w a2 Sm) rfl (xs (i + 1)) (xs (i + 2)) e2) (law_cw C hR ml_L_35 im_X9_correct sl_X9_correct ini_X9 cd_X9_correct hd_X9_correct ⟨⟨Nat.le_of_ble_eq_true rfl, Nat.le_of_ble_eq_true rfl⟩, rfl, rfl⟩) kd_61 (by decide) rfl (by decide) rfl _ rfl (Nat.le_of_ble_eq_true rfl) dL_law_445 ⟨by rw [hR]; exact Nat.le_of_ble_eq_true rfl, by rw [hR]; exact Nat.le_of_ble_eq_true rfl⟩ ?_
  refine gn_icmp_same C (tgt := 1768) dL_law_448 (by decide) ?_
  exact kk c' m' R'
theorem lc_5 (C0 : LWC x w) (X : Scr x b L xs) (hi : i + 7 ≤ L) (R0 : RR c m) (kk : ∀ c' m', RR c' m' → LN x Q w a a2 b i 1768 c' m') : LN x Q w a a2 b i 453 c m := by
  obtain ⟨C, hR⟩ := C0
  obtain ⟨v, vk, R⟩ := R0
  obtain ⟨r, c', m', e1, e2, R'⟩ := b_span (N := 1000) R (xs (i + 1)) (xs (i + 2))
  refine gn_aload_n C dL_law_453 rfl 2 rfl ?_
  refine gn_arg C X (j := 1) (z := 1) rfl (by omega) dL_law_454 dL_law_455 dL_law_456 dL_law_457 dL_law_458 ?_
  refine gn_arg C X (j := 2) (z := 2) rfl (by omega) dL_law_459 dL_law_460 dL_law_461 dL_law_462 dL_law_463 ?_
  refine law_callI C (W1 := []) (W2 := wl (mkW w a2 Sm) m ++ []) (a := a) (S := Sc) (s := c) (s' := c') (r := r) (i := 0) (c := 8) (R := RX8) (T := TX8) (N := 11) [.int (xs (i + 1)), .int (xs (i + 2))] (c_X8_span (kl x) 1000 (mkW w a Sc) rfl (xs (i + 1)) (xs (i + 2)) e1) (law_cw C hR ml_L_36 im_X8_span sl_X8_span ini_X8 cd_X8_span hd_X8_span ⟨⟨Nat.le_of_ble_eq_true rfl, Nat.le_of_ble_eq_true rfl⟩, rfl, rfl⟩) kd_0 (by decide) rfl (by decide) rfl _ rfl (Nat.le_of_ble_eq_true rfl) dL_law_464 ⟨by rw [hR]; exact Nat.le_of_ble_eq_true rfl, by rw [hR]; exact Nat.le_of_ble_eq_true rfl⟩ ?_
  refine gn_aload_n C dL_law_467 rfl 1 rfl ?_
  refine gn_arg C X (j := 1) (z := 1) rfl (by omega) dL_law_468 dL_law_469 dL_law_470 dL_law_471 dL_law_472 ?_
  refine gn_arg C X (j := 2) (z := 2) rfl (by omega) dL_law_473 dL_law_474 dL_law_475 dL_law_476 dL_law_477 ?_
  refine law_callI C (W1 := wl (mkW w a Sc) c') (W2 := []) (a := a2) (S := Sm) (s := m) (s' := m') (r := r) (i := 61) (c := 9) (R := RX9) (T := TX9) (N := 48) [.int (xs (i + 1)), .int (xs (i + 2))] (c_X9_span (kl x) 1000 (mkW w a2 Sm) rfl (xs (i + 1)) (xs (i + 2)) e2) (law_cw C hR ml_L_39 im_X9_span sl_X9_span ini_X9 cd_X9_span hd_X9_span ⟨⟨Nat.le_of_ble_eq_true rfl, Nat.le_of_ble_eq_true rfl⟩, rfl, rfl⟩) kd_61 (by decide) rfl (by decide) rfl _ rfl (Nat.le_of_ble_eq_true rfl) dL_law_478 ⟨by rw [hR]; exact Nat.le_of_ble_eq_true rfl, by rw [hR]; exact Nat.le_of_ble_eq_true rfl⟩ ?_
  refine gn_icmp_same C (tgt := 1768) dL_law_481 (by decide) ?_
  exact kk c' m' R'
theorem lc_6 (C0 : LWC x w) (X : Scr x b L xs) (hi : i + 7 ≤ L) (R0 : RR c m) (kk : ∀ c' m', RR c' m' → LN x Q w a a2 b i 1768 c' m') : LN x Q w a a2 b i 486 c m := by
  obtain ⟨C, hR⟩ := C0
  obtain ⟨v, vk, R⟩ := R0
  obtain ⟨r, c', m', e1, e2, R'⟩ := b_life R (Nat.le_refl 1000) (xs (i + 1))
  refine gn_aload_n C dL_law_486 rfl 2 rfl ?_
  refine gn_arg C X (j := 1) (z := 1) rfl (by omega) dL_law_487 dL_law_488 dL_law_489 dL_law_490 dL_law_491 ?_
  refine law_callI C (W1 := []) (W2 := wl (mkW w a2 Sm) m ++ []) (a := a) (S := Sc) (s := c) (s' := c') (r := r) (i := 0) (c := 8) (R := RX8) (T := TX8) (N := 11) [.int (xs (i + 1))] (c_X8_life (kl x) 1000 (mkW w a Sc) rfl (xs (i + 1)) e1) (law_cw C hR ml_L_40 im_X8_life sl_X8_life ini_X8 cd_X8_life hd_X8_life ⟨⟨Nat.le_of_ble_eq_true rfl, Nat.le_of_ble_eq_true rfl⟩, rfl, rfl⟩) kd_0 (by decide) rfl (by decide) rfl _ rfl (Nat.le_of_ble_eq_true rfl) dL_law_492 ⟨by rw [hR]; exact Nat.le_of_ble_eq_true rfl, by rw [hR]; exact Nat.le_of_ble_eq_true rfl⟩ ?_
  refine gn_aload_n C dL_law_495 rfl 1 rfl ?_
  refine gn_arg C X (j := 1) (z := 1) rfl (by omega) dL_law_496 dL_law_497 dL_law_498 dL_law_499 dL_law_500 ?_
  refine law_callI C (W1 := wl (mkW w a Sc) c') (W2 := []) (a := a2) (S := Sm) (s := m) (s' := m') (r := r) (i := 61) (c := 9) (R := RX9) (T := TX9) (N := 48) [.int (xs (i + 1))] (c_X9_life (kl x) 1000 (mkW w a2 Sm) rfl (xs (i + 1)) e2) (law_cw C hR ml_L_44 im_X9_life sl_X9_life ini_X9 cd_X9_life hd_X9_life ⟨⟨Nat.le_of_ble_eq_true rfl, Nat.le_of_ble_eq_true rfl⟩, rfl, rfl⟩) kd_61 (by decide) rfl (by decide) rfl _ rfl (Nat.le_of_ble_eq_true rfl) dL_law_501 ⟨by rw [hR]; exact Nat.le_of_ble_eq_true rfl, by rw [hR]; exact Nat.le_of_ble_eq_true rfl⟩ ?_
  refine gn_icmp_same C (tgt := 1768) dL_law_504 (by decide) ?_
  exact kk c' m' R'
theorem lc_7 (C0 : LWC x w) (X : Scr x b L xs) (hi : i + 7 ≤ L) (R0 : RR c m) (kk : ∀ c' m', RR c' m' → LN x Q w a a2 b i 1768 c' m') : LN x Q w a a2 b i 509 c m := by
  obtain ⟨C, hR⟩ := C0
  obtain ⟨v, vk, R⟩ := R0
  obtain ⟨r, c', m', e1, e2, R'⟩ := b_weight R (Nat.le_refl 1000) (xs (i + 1)) (xs (i + 2))
  refine gn_aload_n C dL_law_509 rfl 2 rfl ?_
  refine gn_arg C X (j := 1) (z := 1) rfl (by omega) dL_law_510 dL_law_511 dL_law_512 dL_law_513 dL_law_514 ?_
  refine gn_arg C X (j := 2) (z := 2) rfl (by omega) dL_law_515 dL_law_516 dL_law_517 dL_law_518 dL_law_519 ?_
  refine law_callL C (W1 := []) (W2 := wl (mkW w a2 Sm) m ++ []) (a := a) (S := Sc) (s := c) (s' := c') (r := r) (i := 0) (c := 8) (R := RX8) (T := TX8) (N := 11) [.int (xs (i + 1)), .int (xs (i + 2))] (c_X8_weight (kl x) 1000 (mkW w a Sc) rfl (xs (i + 1)) (xs (i + 2)) e1) (law_cw C hR ml_L_45 im_X8_weight sl_X8_weight ini_X8 cd_X8_weight hd_X8_weight ⟨⟨Nat.le_of_ble_eq_true rfl, Nat.le_of_ble_eq_true rfl⟩, rfl, rfl⟩) kd_0 (by decide) rfl (by decide) rfl _ rfl (Nat.le_of_ble_eq_true rfl) dL_law_520 ⟨by rw [hR]; exact Nat.le_of_ble_eq_true rfl, by rw [hR]; exact Nat.le_of_ble_eq_true rfl⟩ ?_
  refine gn_aload_n C dL_law_523 rfl 1 rfl ?_
  refine gn_arg C X (j := 1) (z := 1) rfl (by omega) dL_law_524 dL_law_525 dL_law_526 dL_law_527 dL_law_528 ?_
  refine gn_arg C X (j := 2) (z := 2) rfl (by omega) dL_law_529 dL_law_530 dL_law_531 dL_law_532 dL_law_533 ?_
  refine law_callL C (W1 := wl (mkW w a Sc) c') (W2 := []) (a := a2) (S := Sm) (s := m) (s' := m') (r := r) (i := 61) (c := 9) (R := RX9) (T := TX9) (N := 48) [.int (xs (i + 1)), .int (xs (i + 2))] (c_X9_weight (kl x) 1000 (mkW w a2 Sm) rfl (xs (i + 1)) (xs (i + 2)) e2) (law_cw C hR ml_L_49 im_X9_weight sl_X9_weight ini_X9 cd_X9_weight hd_X9_weight ⟨⟨Nat.le_of_ble_eq_true rfl, Nat.le_of_ble_eq_true rfl⟩, rfl, rfl⟩) kd_61 (by decide) rfl (by decide) rfl _ rfl (Nat.le_of_ble_eq_true rfl) dL_law_534 ⟨by rw [hR]; exact Nat.le_of_ble_eq_true rfl, by rw [hR]; exact Nat.le_of_ble_eq_true rfl⟩ ?_
  refine gn_lcmp_same C (tgt := 1768) dL_law_537 dL_law_538 (by decide) ?_
  exact kk c' m' R'
theorem lc_8 (C0 : LWC x w) (X : Scr x b L xs) (hi : i + 7 ≤ L) (R0 : RR c m) (kk : ∀ c' m', RR c' m' → LN x Q w a a2 b i 1768 c' m') : LN x Q w a a2 b i 543 c m := by
  obtain ⟨C, hR⟩ := C0
  obtain ⟨v, vk, R⟩ := R0
  obtain ⟨r, c', m', e1, e2, R'⟩ := b_all R (Nat.le_refl 1000) (xs (i + 1))
  refine gn_aload_n C dL_law_543 rfl 2 rfl ?_
  refine gn_arg C X (j := 1) (z := 1) rfl (by omega) dL_law_544 dL_law_545 dL_law_546 dL_law_547 dL_law_548 ?_
  refine law_callL C (W1 := []) (W2 := wl (mkW w a2 Sm) m ++ []) (a := a) (S := Sc) (s := c) (s' := c') (r := r) (i := 0) (c := 8) (R := RX8) (T := TX8) (N := 11) [.int (xs (i + 1))] (c_X8_all (kl x) 1000 (mkW w a Sc) rfl (xs (i + 1)) e1) (law_cw C hR ml_L_50 im_X8_all sl_X8_all ini_X8 cd_X8_all hd_X8_all ⟨⟨Nat.le_of_ble_eq_true rfl, Nat.le_of_ble_eq_true rfl⟩, rfl, rfl⟩) kd_0 (by decide) rfl (by decide) rfl _ rfl (Nat.le_of_ble_eq_true rfl) dL_law_549 ⟨by rw [hR]; exact Nat.le_of_ble_eq_true rfl, by rw [hR]; exact Nat.le_of_ble_eq_true rfl⟩ ?_
  refine gn_aload_n C dL_law_552 rfl 1 rfl ?_
  refine gn_arg C X (j := 1) (z := 1) rfl (by omega) dL_law_553 dL_law_554 dL_law_555 dL_law_556 dL_law_557 ?_
  refine law_callL C (W1 := wl (mkW w a Sc) c') (W2 := []) (a := a2) (S := Sm) (s := m) (s' := m') (r := r) (i := 61) (c := 9) (R := RX9) (T := TX9) (N := 48) [.int (xs (i + 1))] (c_X9_all (kl x) 1000 (mkW w a2 Sm) rfl (xs (i + 1)) e2) (law_cw C hR ml_L_54 im_X9_all sl_X9_all ini_X9 cd_X9_all hd_X9_all ⟨⟨Nat.le_of_ble_eq_true rfl, Nat.le_of_ble_eq_true rfl⟩, rfl, rfl⟩) kd_61 (by decide) rfl (by decide) rfl _ rfl (Nat.le_of_ble_eq_true rfl) dL_law_558 ⟨by rw [hR]; exact Nat.le_of_ble_eq_true rfl, by rw [hR]; exact Nat.le_of_ble_eq_true rfl⟩ ?_
  refine gn_lcmp_same C (tgt := 1768) dL_law_561 dL_law_562 (by decide) ?_
  exact kk c' m' R'
theorem lc_9 (C0 : LWC x w) (X : Scr x b L xs) (hi : i + 7 ≤ L) (R0 : RR c m) (kk : ∀ c' m', RR c' m' → LN x Q w a a2 b i 1768 c' m') : LN x Q w a a2 b i 567 c m := by
  obtain ⟨C, hR⟩ := C0
  obtain ⟨v, vk, R⟩ := R0
  obtain ⟨r, c', m', e1, e2, R'⟩ := b_best R (Nat.le_refl 1000) (xs (i + 1))
  refine gn_aload_n C dL_law_567 rfl 2 rfl ?_
  refine gn_arg C X (j := 1) (z := 1) rfl (by omega) dL_law_568 dL_law_569 dL_law_570 dL_law_571 dL_law_572 ?_
  refine law_callI C (W1 := []) (W2 := wl (mkW w a2 Sm) m ++ []) (a := a) (S := Sc) (s := c) (s' := c') (r := r) (i := 0) (c := 8) (R := RX8) (T := TX8) (N := 11) [.int (xs (i + 1))] (c_X8_best (kl x) 1000 (mkW w a Sc) rfl (xs (i + 1)) e1) (law_cw C hR ml_L_55 im_X8_best sl_X8_best ini_X8 cd_X8_best hd_X8_best ⟨⟨Nat.le_of_ble_eq_true rfl, Nat.le_of_ble_eq_true rfl⟩, rfl, rfl⟩) kd_0 (by decide) rfl (by decide) rfl _ rfl (Nat.le_of_ble_eq_true rfl) dL_law_573 ⟨by rw [hR]; exact Nat.le_of_ble_eq_true rfl, by rw [hR]; exact Nat.le_of_ble_eq_true rfl⟩ ?_
  refine gn_aload_n C dL_law_576 rfl 1 rfl ?_
  refine gn_arg C X (j := 1) (z := 1) rfl (by omega) dL_law_577 dL_law_578 dL_law_579 dL_law_580 dL_law_581 ?_
  refine law_callI C (W1 := wl (mkW w a Sc) c') (W2 := []) (a := a2) (S := Sm) (s := m) (s' := m') (r := r) (i := 61) (c := 9) (R := RX9) (T := TX9) (N := 48) [.int (xs (i + 1))] (c_X9_best (kl x) 1000 (mkW w a2 Sm) rfl (xs (i + 1)) e2) (law_cw C hR ml_L_58 im_X9_best sl_X9_best ini_X9 cd_X9_best hd_X9_best ⟨⟨Nat.le_of_ble_eq_true rfl, Nat.le_of_ble_eq_true rfl⟩, rfl, rfl⟩) kd_61 (by decide) rfl (by decide) rfl _ rfl (Nat.le_of_ble_eq_true rfl) dL_law_582 ⟨by rw [hR]; exact Nat.le_of_ble_eq_true rfl, by rw [hR]; exact Nat.le_of_ble_eq_true rfl⟩ ?_
  refine gn_icmp_same C (tgt := 1768) dL_law_585 (by decide) ?_
  exact kk c' m' R'
theorem lc_10 (C0 : LWC x w) (X : Scr x b L xs) (hi : i + 7 ≤ L) (R0 : RR c m) (kk : ∀ c' m', RR c' m' → LN x Q w a a2 b i 1768 c' m') : LN x Q w a a2 b i 590 c m := by
  obtain ⟨C, hR⟩ := C0
  obtain ⟨v, vk, R⟩ := R0
  obtain ⟨r, c', m', e1, e2, R'⟩ := b_share R (Nat.le_refl 1000) (xs (i + 1)) (xs (i + 2)) (xs (i + 3))
  refine gn_aload_n C dL_law_590 rfl 2 rfl ?_
  refine gn_arg C X (j := 1) (z := 1) rfl (by omega) dL_law_591 dL_law_592 dL_law_593 dL_law_594 dL_law_595 ?_
  refine gn_arg C X (j := 2) (z := 2) rfl (by omega) dL_law_596 dL_law_597 dL_law_598 dL_law_599 dL_law_600 ?_
  refine gn_arg C X (j := 3) (z := 3) rfl (by omega) dL_law_601 dL_law_602 dL_law_603 dL_law_604 dL_law_605 ?_
  refine law_callL C (W1 := []) (W2 := wl (mkW w a2 Sm) m ++ []) (a := a) (S := Sc) (s := c) (s' := c') (r := r) (i := 0) (c := 8) (R := RX8) (T := TX8) (N := 11) [.int (xs (i + 1)), .int (xs (i + 2)), .int (xs (i + 3))] (c_X8_share (kl x) 1000 (mkW w a Sc) rfl (xs (i + 1)) (xs (i + 2)) (xs (i + 3)) e1) (law_cw C hR ml_L_59 im_X8_share sl_X8_share ini_X8 cd_X8_share hd_X8_share ⟨⟨Nat.le_of_ble_eq_true rfl, Nat.le_of_ble_eq_true rfl⟩, rfl, rfl⟩) kd_0 (by decide) rfl (by decide) rfl _ rfl (Nat.le_of_ble_eq_true rfl) dL_law_606 ⟨by rw [hR]; exact Nat.le_of_ble_eq_true rfl, by rw [hR]; exact Nat.le_of_ble_eq_true rfl⟩ ?_
  refine gn_aload_n C dL_law_609 rfl 1 rfl ?_
  refine gn_arg C X (j := 1) (z := 1) rfl (by omega) dL_law_610 dL_law_611 dL_law_612 dL_law_613 dL_law_614 ?_
  refine gn_arg C X (j := 2) (z := 2) rfl (by omega) dL_law_615 dL_law_616 dL_law_617 dL_law_618 dL_law_619 ?_
  refine gn_arg C X (j := 3) (z := 3) rfl (by omega) dL_law_620 dL_law_621 dL_law_622 dL_law_623 dL_law_624 ?_
  refine law_callL C (W1 := wl (mkW w a Sc) c') (W2 := []) (a := a2) (S := Sm) (s := m) (s' := m') (r := r) (i := 61) (c := 9) (R := RX9) (T := TX9) (N := 48) [.int (xs (i + 1)), .int (xs (i + 2)), .int (xs (i + 3))] (c_X9_share (kl x) 1000 (mkW w a2 Sm) rfl (xs (i + 1)) (xs (i + 2)) (xs (i + 3)) e2) (law_cw C hR ml_L_63 im_X9_share sl_X9_share ini_X9 cd_X9_share hd_X9_share ⟨⟨Nat.le_of_ble_eq_true rfl, Nat.le_of_ble_eq_true rfl⟩, rfl, rfl⟩) kd_61 (by decide) rfl (by decide) rfl _ rfl (Nat.le_of_ble_eq_true rfl) dL_law_625 ⟨by rw [hR]; exact Nat.le_of_ble_eq_true rfl, by rw [hR]; exact Nat.le_of_ble_eq_true rfl⟩ ?_
  refine gn_lcmp_same C (tgt := 1768) dL_law_628 dL_law_629 (by decide) ?_
  exact kk c' m' R'
theorem lc_11 (C0 : LWC x w) (X : Scr x b L xs) (hi : i + 7 ≤ L) (R0 : RR c m) (kk : ∀ c' m', RR c' m' → LN x Q w a a2 b i 1768 c' m') : LN x Q w a a2 b i 634 c m := by
  obtain ⟨C, hR⟩ := C0
  obtain ⟨v, vk, R⟩ := R0
  obtain ⟨r, c', m', e1, e2, R'⟩ := b_common R (Nat.le_refl 1000) (xs (i + 1)) (xs (i + 2))
  refine gn_aload_n C dL_law_634 rfl 2 rfl ?_
  refine gn_arg C X (j := 1) (z := 1) rfl (by omega) dL_law_635 dL_law_636 dL_law_637 dL_law_638 dL_law_639 ?_
  refine gn_arg C X (j := 2) (z := 2) rfl (by omega) dL_law_640 dL_law_641 dL_law_642 dL_law_643 dL_law_644 ?_
  refine law_callI C (W1 := []) (W2 := wl (mkW w a2 Sm) m ++ []) (a := a) (S := Sc) (s := c) (s' := c') (r := r) (i := 0) (c := 8) (R := RX8) (T := TX8) (N := 11) [.int (xs (i + 1)), .int (xs (i + 2))] (c_X8_common (kl x) 1000 (mkW w a Sc) rfl (xs (i + 1)) (xs (i + 2)) e1) (law_cw C hR ml_L_64 im_X8_common sl_X8_common ini_X8 cd_X8_common hd_X8_common ⟨⟨Nat.le_of_ble_eq_true rfl, Nat.le_of_ble_eq_true rfl⟩, rfl, rfl⟩) kd_0 (by decide) rfl (by decide) rfl _ rfl (Nat.le_of_ble_eq_true rfl) dL_law_645 ⟨by rw [hR]; exact Nat.le_of_ble_eq_true rfl, by rw [hR]; exact Nat.le_of_ble_eq_true rfl⟩ ?_
  refine gn_aload_n C dL_law_648 rfl 1 rfl ?_
  refine gn_arg C X (j := 1) (z := 1) rfl (by omega) dL_law_649 dL_law_650 dL_law_651 dL_law_652 dL_law_653 ?_
  refine gn_arg C X (j := 2) (z := 2) rfl (by omega) dL_law_654 dL_law_655 dL_law_656 dL_law_657 dL_law_658 ?_
  refine law_callI C (W1 := wl (mkW w a Sc) c') (W2 := []) (a := a2) (S := Sm) (s := m) (s' := m') (r := r) (i := 61) (c := 9) (R := RX9) (T := TX9) (N := 48) [.int (xs (i + 1)), .int (xs (i + 2))] (c_X9_common (kl x) 1000 (mkW w a2 Sm) rfl (xs (i + 1)) (xs (i + 2)) e2) (law_cw C hR ml_L_67 im_X9_common sl_X9_common ini_X9 cd_X9_common hd_X9_common ⟨⟨Nat.le_of_ble_eq_true rfl, Nat.le_of_ble_eq_true rfl⟩, rfl, rfl⟩) kd_61 (by decide) rfl (by decide) rfl _ rfl (Nat.le_of_ble_eq_true rfl) dL_law_659 ⟨by rw [hR]; exact Nat.le_of_ble_eq_true rfl, by rw [hR]; exact Nat.le_of_ble_eq_true rfl⟩ ?_
  refine gn_icmp_same C (tgt := 1768) dL_law_662 (by decide) ?_
  exact kk c' m' R'
theorem lc_12 (C0 : LWC x w) (X : Scr x b L xs) (hi : i + 7 ≤ L) (R0 : RR c m) (kk : ∀ c' m', RR c' m' → LN x Q w a a2 b i 1768 c' m') : LN x Q w a a2 b i 667 c m := by
  obtain ⟨C, hR⟩ := C0
  obtain ⟨v, vk, R⟩ := R0
  obtain ⟨r, c', m', e1, e2, R'⟩ := b_one R (Nat.le_refl 1000) (xs (i + 1)) (xs (i + 2))
  refine gn_aload_n C dL_law_667 rfl 2 rfl ?_
  refine gn_arg C X (j := 1) (z := 1) rfl (by omega) dL_law_668 dL_law_669 dL_law_670 dL_law_671 dL_law_672 ?_
  refine gn_arg C X (j := 2) (z := 2) rfl (by omega) dL_law_673 dL_law_674 dL_law_675 dL_law_676 dL_law_677 ?_
  refine law_callI C (W1 := []) (W2 := wl (mkW w a2 Sm) m ++ []) (a := a) (S := Sc) (s := c) (s' := c') (r := r) (i := 0) (c := 8) (R := RX8) (T := TX8) (N := 11) [.int (xs (i + 1)), .int (xs (i + 2))] (c_X8_one (kl x) 1000 (mkW w a Sc) rfl (xs (i + 1)) (xs (i + 2)) e1) (law_cw C hR ml_L_68 im_X8_one sl_X8_one ini_X8 cd_X8_one hd_X8_one ⟨⟨Nat.le_of_ble_eq_true rfl, Nat.le_of_ble_eq_true rfl⟩, rfl, rfl⟩) kd_0 (by decide) rfl (by decide) rfl _ rfl (Nat.le_of_ble_eq_true rfl) dL_law_678 ⟨by rw [hR]; exact Nat.le_of_ble_eq_true rfl, by rw [hR]; exact Nat.le_of_ble_eq_true rfl⟩ ?_
  refine gn_aload_n C dL_law_681 rfl 1 rfl ?_
  refine gn_arg C X (j := 1) (z := 1) rfl (by omega) dL_law_682 dL_law_683 dL_law_684 dL_law_685 dL_law_686 ?_
  refine gn_arg C X (j := 2) (z := 2) rfl (by omega) dL_law_687 dL_law_688 dL_law_689 dL_law_690 dL_law_691 ?_
  refine law_callI C (W1 := wl (mkW w a Sc) c') (W2 := []) (a := a2) (S := Sm) (s := m) (s' := m') (r := r) (i := 61) (c := 9) (R := RX9) (T := TX9) (N := 48) [.int (xs (i + 1)), .int (xs (i + 2))] (c_X9_one (kl x) 1000 (mkW w a2 Sm) rfl (xs (i + 1)) (xs (i + 2)) e2) (law_cw C hR ml_L_71 im_X9_one sl_X9_one ini_X9 cd_X9_one hd_X9_one ⟨⟨Nat.le_of_ble_eq_true rfl, Nat.le_of_ble_eq_true rfl⟩, rfl, rfl⟩) kd_61 (by decide) rfl (by decide) rfl _ rfl (Nat.le_of_ble_eq_true rfl) dL_law_692 ⟨by rw [hR]; exact Nat.le_of_ble_eq_true rfl, by rw [hR]; exact Nat.le_of_ble_eq_true rfl⟩ ?_
  refine gn_icmp_same C (tgt := 1768) dL_law_695 (by decide) ?_
  exact kk c' m' R'
theorem lc_13 (C0 : LWC x w) (X : Scr x b L xs) (hi : i + 7 ≤ L) (R0 : RR c m) (kk : ∀ c' m', RR c' m' → LN x Q w a a2 b i 1768 c' m') : LN x Q w a a2 b i 700 c m := by
  obtain ⟨C, hR⟩ := C0
  obtain ⟨v, vk, R⟩ := R0
  obtain ⟨r, c', m', e1, e2, R'⟩ := b_cut R (Nat.le_refl 1000) (xs (i + 1))
  refine gn_aload_n C dL_law_700 rfl 2 rfl ?_
  refine gn_arg C X (j := 1) (z := 1) rfl (by omega) dL_law_701 dL_law_702 dL_law_703 dL_law_704 dL_law_705 ?_
  refine law_callI C (W1 := []) (W2 := wl (mkW w a2 Sm) m ++ []) (a := a) (S := Sc) (s := c) (s' := c') (r := r) (i := 0) (c := 8) (R := RX8) (T := TX8) (N := 11) [.int (xs (i + 1))] (c_X8_cut (kl x) 1000 (mkW w a Sc) rfl (xs (i + 1)) e1) (law_cw C hR ml_L_72 im_X8_cut sl_X8_cut ini_X8 cd_X8_cut hd_X8_cut ⟨⟨Nat.le_of_ble_eq_true rfl, Nat.le_of_ble_eq_true rfl⟩, rfl, rfl⟩) kd_0 (by decide) rfl (by decide) rfl _ rfl (Nat.le_of_ble_eq_true rfl) dL_law_706 ⟨by rw [hR]; exact Nat.le_of_ble_eq_true rfl, by rw [hR]; exact Nat.le_of_ble_eq_true rfl⟩ ?_
  refine gn_aload_n C dL_law_709 rfl 1 rfl ?_
  refine gn_arg C X (j := 1) (z := 1) rfl (by omega) dL_law_710 dL_law_711 dL_law_712 dL_law_713 dL_law_714 ?_
  refine law_callI C (W1 := wl (mkW w a Sc) c') (W2 := []) (a := a2) (S := Sm) (s := m) (s' := m') (r := r) (i := 61) (c := 9) (R := RX9) (T := TX9) (N := 48) [.int (xs (i + 1))] (c_X9_cut (kl x) 1000 (mkW w a2 Sm) rfl (xs (i + 1)) e2) (law_cw C hR ml_L_75 im_X9_cut sl_X9_cut ini_X9 cd_X9_cut hd_X9_cut ⟨⟨Nat.le_of_ble_eq_true rfl, Nat.le_of_ble_eq_true rfl⟩, rfl, rfl⟩) kd_61 (by decide) rfl (by decide) rfl _ rfl (Nat.le_of_ble_eq_true rfl) dL_law_715 ⟨by rw [hR]; exact Nat.le_of_ble_eq_true rfl, by rw [hR]; exact Nat.le_of_ble_eq_true rfl⟩ ?_
  refine gn_icmp_same C (tgt := 1768) dL_law_718 (by decide) ?_
  exact kk c' m' R'
theorem lc_14 (C0 : LWC x w) (X : Scr x b L xs) (hi : i + 7 ≤ L) (R0 : RR c m) (kk : ∀ c' m', RR c' m' → LN x Q w a a2 b i 1768 c' m') : LN x Q w a a2 b i 723 c m := by
  obtain ⟨C, hR⟩ := C0
  obtain ⟨v, vk, R⟩ := R0
  obtain ⟨r, c', m', e1, e2, R'⟩ := b_rest R (Nat.le_refl 1000) (xs (i + 1)) (xs (i + 2))
  refine gn_aload_n C dL_law_723 rfl 2 rfl ?_
  refine gn_arg C X (j := 1) (z := 1) rfl (by omega) dL_law_724 dL_law_725 dL_law_726 dL_law_727 dL_law_728 ?_
  refine gn_arg C X (j := 2) (z := 2) rfl (by omega) dL_law_729 dL_law_730 dL_law_731 dL_law_732 dL_law_733 ?_
  refine law_callI C (W1 := []) (W2 := wl (mkW w a2 Sm) m ++ []) (a := a) (S := Sc) (s := c) (s' := c') (r := r) (i := 0) (c := 8) (R := RX8) (T := TX8) (N := 11) [.int (xs (i + 1)), .int (xs (i + 2))] (c_X8_rest (kl x) 1000 (mkW w a Sc) rfl (xs (i + 1)) (xs (i + 2)) e1) (law_cw C hR ml_L_76 im_X8_rest sl_X8_rest ini_X8 cd_X8_rest hd_X8_rest ⟨⟨Nat.le_of_ble_eq_true rfl, Nat.le_of_ble_eq_true rfl⟩, rfl, rfl⟩) kd_0 (by decide) rfl (by decide) rfl _ rfl (Nat.le_of_ble_eq_true rfl) dL_law_734 ⟨by rw [hR]; exact Nat.le_of_ble_eq_true rfl, by rw [hR]; exact Nat.le_of_ble_eq_true rfl⟩ ?_
  refine gn_aload_n C dL_law_737 rfl 1 rfl ?_
  refine gn_arg C X (j := 1) (z := 1) rfl (by omega) dL_law_738 dL_law_739 dL_law_740 dL_law_741 dL_law_742 ?_
  refine gn_arg C X (j := 2) (z := 2) rfl (by omega) dL_law_743 dL_law_744 dL_law_745 dL_law_746 dL_law_747 ?_
  refine law_callI C (W1 := wl (mkW w a Sc) c') (W2 := []) (a := a2) (S := Sm) (s := m) (s' := m') (r := r) (i := 61) (c := 9) (R := RX9) (T := TX9) (N := 48) [.int (xs (i + 1)), .int (xs (i + 2))] (c_X9_rest (kl x) 1000 (mkW w a2 Sm) rfl (xs (i + 1)) (xs (i + 2)) e2) (law_cw C hR ml_L_79 im_X9_rest sl_X9_rest ini_X9 cd_X9_rest hd_X9_rest ⟨⟨Nat.le_of_ble_eq_true rfl, Nat.le_of_ble_eq_true rfl⟩, rfl, rfl⟩) kd_61 (by decide) rfl (by decide) rfl _ rfl (Nat.le_of_ble_eq_true rfl) dL_law_748 ⟨by rw [hR]; exact Nat.le_of_ble_eq_true rfl, by rw [hR]; exact Nat.le_of_ble_eq_true rfl⟩ ?_
  refine gn_icmp_same C (tgt := 1768) dL_law_751 (by decide) ?_
  exact kk c' m' R'
theorem lc_15 (C0 : LWC x w) (X : Scr x b L xs) (hi : i + 7 ≤ L) (R0 : RR c m) (kk : ∀ c' m', RR c' m' → LN x Q w a a2 b i 1768 c' m') : LN x Q w a a2 b i 756 c m := by
  obtain ⟨C, hR⟩ := C0
  obtain ⟨v, vk, R⟩ := R0
  obtain ⟨r, c', m', e1, e2, R'⟩ := b_stands R (Nat.le_refl 1000)
  refine gn_aload_n C dL_law_756 rfl 2 rfl ?_
  refine law_callI C (W1 := []) (W2 := wl (mkW w a2 Sm) m ++ []) (a := a) (S := Sc) (s := c) (s' := c') (r := r) (i := 0) (c := 8) (R := RX8) (T := TX8) (N := 11) [] (c_X8_stands (kl x) 1000 (mkW w a Sc) rfl e1) (law_cw C hR ml_L_80 im_X8_stands sl_X8_stands ini_X8 cd_X8_stands hd_X8_stands ⟨⟨Nat.le_of_ble_eq_true rfl, Nat.le_of_ble_eq_true rfl⟩, rfl, rfl⟩) kd_0 (by decide) rfl (by decide) rfl _ rfl (Nat.le_of_ble_eq_true rfl) dL_law_757 ⟨by rw [hR]; exact Nat.le_of_ble_eq_true rfl, by rw [hR]; exact Nat.le_of_ble_eq_true rfl⟩ ?_
  refine gn_aload_n C dL_law_760 rfl 1 rfl ?_
  refine law_callI C (W1 := wl (mkW w a Sc) c') (W2 := []) (a := a2) (S := Sm) (s := m) (s' := m') (r := r) (i := 61) (c := 9) (R := RX9) (T := TX9) (N := 48) [] (c_X9_stands (kl x) 1000 (mkW w a2 Sm) rfl e2) (law_cw C hR ml_L_84 im_X9_stands sl_X9_stands ini_X9 cd_X9_stands hd_X9_stands ⟨⟨Nat.le_of_ble_eq_true rfl, Nat.le_of_ble_eq_true rfl⟩, rfl, rfl⟩) kd_61 (by decide) rfl (by decide) rfl _ rfl (Nat.le_of_ble_eq_true rfl) dL_law_761 ⟨by rw [hR]; exact Nat.le_of_ble_eq_true rfl, by rw [hR]; exact Nat.le_of_ble_eq_true rfl⟩ ?_
  refine gn_icmp_same C (tgt := 1768) dL_law_764 (by decide) ?_
  exact kk c' m' R'
theorem lc_16 (C0 : LWC x w) (X : Scr x b L xs) (hi : i + 7 ≤ L) (R0 : RR c m) (kk : ∀ c' m', RR c' m' → LN x Q w a a2 b i 1768 c' m') : LN x Q w a a2 b i 769 c m := by
  obtain ⟨C, hR⟩ := C0
  obtain ⟨v, vk, R⟩ := R0
  obtain ⟨r, c', m', e1, e2, R'⟩ := b_round R (Nat.le_refl 1000) (xs (i + 1))
  refine gn_aload_n C dL_law_769 rfl 2 rfl ?_
  refine gn_arg C X (j := 1) (z := 1) rfl (by omega) dL_law_770 dL_law_771 dL_law_772 dL_law_773 dL_law_774 ?_
  refine law_callI C (W1 := []) (W2 := wl (mkW w a2 Sm) m ++ []) (a := a) (S := Sc) (s := c) (s' := c') (r := r) (i := 0) (c := 8) (R := RX8) (T := TX8) (N := 11) [.int (xs (i + 1))] (c_X8_round (kl x) 1000 (mkW w a Sc) rfl (xs (i + 1)) e1) (law_cw C hR ml_L_85 im_X8_round sl_X8_round ini_X8 cd_X8_round hd_X8_round ⟨⟨Nat.le_of_ble_eq_true rfl, Nat.le_of_ble_eq_true rfl⟩, rfl, rfl⟩) kd_0 (by decide) rfl (by decide) rfl _ rfl (Nat.le_of_ble_eq_true rfl) dL_law_775 ⟨by rw [hR]; exact Nat.le_of_ble_eq_true rfl, by rw [hR]; exact Nat.le_of_ble_eq_true rfl⟩ ?_
  refine gn_aload_n C dL_law_778 rfl 1 rfl ?_
  refine gn_arg C X (j := 1) (z := 1) rfl (by omega) dL_law_779 dL_law_780 dL_law_781 dL_law_782 dL_law_783 ?_
  refine law_callI C (W1 := wl (mkW w a Sc) c') (W2 := []) (a := a2) (S := Sm) (s := m) (s' := m') (r := r) (i := 61) (c := 9) (R := RX9) (T := TX9) (N := 48) [.int (xs (i + 1))] (c_X9_round (kl x) 1000 (mkW w a2 Sm) rfl (xs (i + 1)) e2) (law_cw C hR ml_L_88 im_X9_round sl_X9_round ini_X9 cd_X9_round hd_X9_round ⟨⟨Nat.le_of_ble_eq_true rfl, Nat.le_of_ble_eq_true rfl⟩, rfl, rfl⟩) kd_61 (by decide) rfl (by decide) rfl _ rfl (Nat.le_of_ble_eq_true rfl) dL_law_784 ⟨by rw [hR]; exact Nat.le_of_ble_eq_true rfl, by rw [hR]; exact Nat.le_of_ble_eq_true rfl⟩ ?_
  refine gn_icmp_same C (tgt := 1768) dL_law_787 (by decide) ?_
  exact kk c' m' R'
theorem lc_17 (C0 : LWC x w) (X : Scr x b L xs) (hi : i + 7 ≤ L) (R0 : RR c m) (kk : ∀ c' m', RR c' m' → LN x Q w a a2 b i 1768 c' m') : LN x Q w a a2 b i 792 c m := by
  obtain ⟨C, hR⟩ := C0
  obtain ⟨v, vk, R⟩ := R0
  obtain ⟨r, c', m', e1, e2, R'⟩ := b_roots R (Nat.le_refl 1000) (xs (i + 1))
  refine gn_aload_n C dL_law_792 rfl 2 rfl ?_
  refine gn_arg C X (j := 1) (z := 1) rfl (by omega) dL_law_793 dL_law_794 dL_law_795 dL_law_796 dL_law_797 ?_
  refine law_callI C (W1 := []) (W2 := wl (mkW w a2 Sm) m ++ []) (a := a) (S := Sc) (s := c) (s' := c') (r := r) (i := 0) (c := 8) (R := RX8) (T := TX8) (N := 11) [.int (xs (i + 1))] (c_X8_roots (kl x) 1000 (mkW w a Sc) rfl (xs (i + 1)) e1) (law_cw C hR ml_L_89 im_X8_roots sl_X8_roots ini_X8 cd_X8_roots hd_X8_roots ⟨⟨Nat.le_of_ble_eq_true rfl, Nat.le_of_ble_eq_true rfl⟩, rfl, rfl⟩) kd_0 (by decide) rfl (by decide) rfl _ rfl (Nat.le_of_ble_eq_true rfl) dL_law_798 ⟨by rw [hR]; exact Nat.le_of_ble_eq_true rfl, by rw [hR]; exact Nat.le_of_ble_eq_true rfl⟩ ?_
  refine gn_aload_n C dL_law_801 rfl 1 rfl ?_
  refine gn_arg C X (j := 1) (z := 1) rfl (by omega) dL_law_802 dL_law_803 dL_law_804 dL_law_805 dL_law_806 ?_
  refine law_callI C (W1 := wl (mkW w a Sc) c') (W2 := []) (a := a2) (S := Sm) (s := m) (s' := m') (r := r) (i := 61) (c := 9) (R := RX9) (T := TX9) (N := 48) [.int (xs (i + 1))] (c_X9_roots (kl x) 1000 (mkW w a2 Sm) rfl (xs (i + 1)) e2) (law_cw C hR ml_L_92 im_X9_roots sl_X9_roots ini_X9 cd_X9_roots hd_X9_roots ⟨⟨Nat.le_of_ble_eq_true rfl, Nat.le_of_ble_eq_true rfl⟩, rfl, rfl⟩) kd_61 (by decide) rfl (by decide) rfl _ rfl (Nat.le_of_ble_eq_true rfl) dL_law_807 ⟨by rw [hR]; exact Nat.le_of_ble_eq_true rfl, by rw [hR]; exact Nat.le_of_ble_eq_true rfl⟩ ?_
  refine gn_icmp_same C (tgt := 1768) dL_law_810 (by decide) ?_
  exact kk c' m' R'
theorem lc_18 (C0 : LWC x w) (X : Scr x b L xs) (hi : i + 7 ≤ L) (R0 : RR c m) (kk : ∀ c' m', RR c' m' → LN x Q w a a2 b i 1768 c' m') : LN x Q w a a2 b i 815 c m := by
  obtain ⟨C, hR⟩ := C0
  obtain ⟨v, vk, R⟩ := R0
  obtain ⟨r, c', m', e1, e2, R'⟩ := b_feed R (Nat.le_refl 1000) ((xs (i + 1)).toInt64 <<< ((32 : Int32).toInt64 &&& 63) ||| (xs (i + 2)).toInt64 &&& 4294967295) (xs (i + 3))
  refine gn_aload_n C dL_law_815 rfl 2 rfl ?_
  refine gn_arg C X (j := 1) (z := 1) rfl (by omega) dL_law_816 dL_law_817 dL_law_818 dL_law_819 dL_law_820 ?_
  refine gn_i2l C dL_law_821 ?_
  refine gn_bipush C (v := 32) dL_law_822 (by decide) ?_
  refine gn_lshl C dL_law_824 ?_
  refine gn_arg C X (j := 2) (z := 2) rfl (by omega) dL_law_825 dL_law_826 dL_law_827 dL_law_828 dL_law_829 ?_
  refine gn_i2l C dL_law_830 ?_
  refine gn_ldc2 C dL_law_831 kL_L_93 ?_
  refine gn_land C dL_law_834 ?_
  refine gn_lor C dL_law_835 ?_
  refine gn_arg C X (j := 3) (z := 3) rfl (by omega) dL_law_836 dL_law_837 dL_law_838 dL_law_839 dL_law_840 ?_
  refine law_callI C (W1 := []) (W2 := wl (mkW w a2 Sm) m ++ []) (a := a) (S := Sc) (s := c) (s' := c') (r := r) (i := 0) (c := 8) (R := RX8) (T := TX8) (N := 11) [.long ((xs (i + 1)).toInt64 <<< ((32 : Int32).toInt64 &&& 63) ||| (xs (i + 2)).toInt64 &&& 4294967295), .int (xs (i + 3))] (c_X8_feed (kl x) 1000 (mkW w a Sc) rfl ((xs (i + 1)).toInt64 <<< ((32 : Int32).toInt64 &&& 63) ||| (xs (i + 2)).toInt64 &&& 4294967295) (xs (i + 3)) e1) (law_cw C hR ml_L_95 im_X8_feed sl_X8_feed ini_X8 cd_X8_feed hd_X8_feed ⟨⟨Nat.le_of_ble_eq_true rfl, Nat.le_of_ble_eq_true rfl⟩, rfl, rfl⟩) kd_0 (by decide) rfl (by decide) rfl _ rfl (Nat.le_of_ble_eq_true rfl) dL_law_841 ⟨by rw [hR]; exact Nat.le_of_ble_eq_true rfl, by rw [hR]; exact Nat.le_of_ble_eq_true rfl⟩ ?_
  refine gn_aload_n C dL_law_844 rfl 1 rfl ?_
  refine gn_arg C X (j := 1) (z := 1) rfl (by omega) dL_law_845 dL_law_846 dL_law_847 dL_law_848 dL_law_849 ?_
  refine gn_i2l C dL_law_850 ?_
  refine gn_bipush C (v := 32) dL_law_851 (by decide) ?_
  refine gn_lshl C dL_law_853 ?_
  refine gn_arg C X (j := 2) (z := 2) rfl (by omega) dL_law_854 dL_law_855 dL_law_856 dL_law_857 dL_law_858 ?_
  refine gn_i2l C dL_law_859 ?_
  refine gn_ldc2 C dL_law_860 kL_L_93 ?_
  refine gn_land C dL_law_863 ?_
  refine gn_lor C dL_law_864 ?_
  refine gn_arg C X (j := 3) (z := 3) rfl (by omega) dL_law_865 dL_law_866 dL_law_867 dL_law_868 dL_law_869 ?_
  refine law_callI C (W1 := wl (mkW w a Sc) c') (W2 := []) (a := a2) (S := Sm) (s := m) (s' := m') (r := r) (i := 61) (c := 9) (R := RX9) (T := TX9) (N := 48) [.long ((xs (i + 1)).toInt64 <<< ((32 : Int32).toInt64 &&& 63) ||| (xs (i + 2)).toInt64 &&& 4294967295), .int (xs (i + 3))] (c_X9_feed (kl x) 1000 (mkW w a2 Sm) rfl ((xs (i + 1)).toInt64 <<< ((32 : Int32).toInt64 &&& 63) ||| (xs (i + 2)).toInt64 &&& 4294967295) (xs (i + 3)) e2) (law_cw C hR ml_L_99 im_X9_feed sl_X9_feed ini_X9 cd_X9_feed hd_X9_feed ⟨⟨Nat.le_of_ble_eq_true rfl, Nat.le_of_ble_eq_true rfl⟩, rfl, rfl⟩) kd_61 (by decide) rfl (by decide) rfl _ rfl (Nat.le_of_ble_eq_true rfl) dL_law_870 ⟨by rw [hR]; exact Nat.le_of_ble_eq_true rfl, by rw [hR]; exact Nat.le_of_ble_eq_true rfl⟩ ?_
  refine gn_icmp_same C (tgt := 1768) dL_law_873 (by decide) ?_
  exact kk c' m' R'
theorem lc_19 (C0 : LWC x w) (X : Scr x b L xs) (hi : i + 7 ≤ L) (R0 : RR c m) (kk : ∀ c' m', RR c' m' → LN x Q w a a2 b i 1768 c' m') : LN x Q w a a2 b i 878 c m := by
  obtain ⟨C, hR⟩ := C0
  obtain ⟨v, vk, R⟩ := R0
  obtain ⟨r, c', m', e1, e2, R'⟩ := b_read R (Nat.le_refl 1000)
  refine gn_aload_n C dL_law_878 rfl 2 rfl ?_
  refine law_callI C (W1 := []) (W2 := wl (mkW w a2 Sm) m ++ []) (a := a) (S := Sc) (s := c) (s' := c') (r := r) (i := 0) (c := 8) (R := RX8) (T := TX8) (N := 11) [] (c_X8_read (kl x) 1000 (mkW w a Sc) rfl e1) (law_cw C hR ml_L_100 im_X8_read sl_X8_read ini_X8 cd_X8_read hd_X8_read ⟨⟨Nat.le_of_ble_eq_true rfl, Nat.le_of_ble_eq_true rfl⟩, rfl, rfl⟩) kd_0 (by decide) rfl (by decide) rfl _ rfl (Nat.le_of_ble_eq_true rfl) dL_law_879 ⟨by rw [hR]; exact Nat.le_of_ble_eq_true rfl, by rw [hR]; exact Nat.le_of_ble_eq_true rfl⟩ ?_
  refine gn_aload_n C dL_law_882 rfl 1 rfl ?_
  refine law_callI C (W1 := wl (mkW w a Sc) c') (W2 := []) (a := a2) (S := Sm) (s := m) (s' := m') (r := r) (i := 61) (c := 9) (R := RX9) (T := TX9) (N := 48) [] (c_X9_read (kl x) 1000 (mkW w a2 Sm) rfl e2) (law_cw C hR ml_L_103 im_X9_read sl_X9_read ini_X9 cd_X9_read hd_X9_read ⟨⟨Nat.le_of_ble_eq_true rfl, Nat.le_of_ble_eq_true rfl⟩, rfl, rfl⟩) kd_61 (by decide) rfl (by decide) rfl _ rfl (Nat.le_of_ble_eq_true rfl) dL_law_883 ⟨by rw [hR]; exact Nat.le_of_ble_eq_true rfl, by rw [hR]; exact Nat.le_of_ble_eq_true rfl⟩ ?_
  refine gn_icmp_same C (tgt := 1768) dL_law_886 (by decide) ?_
  exact kk c' m' R'
theorem lc_20 (C0 : LWC x w) (X : Scr x b L xs) (hi : i + 7 ≤ L) (R0 : RR c m) (kk : ∀ c' m', RR c' m' → LN x Q w a a2 b i 1768 c' m') : LN x Q w a a2 b i 891 c m := by
  obtain ⟨C, hR⟩ := C0
  obtain ⟨v, vk, R⟩ := R0
  obtain ⟨r, c', m', e1, e2, R'⟩ := b_takes R (Nat.le_refl 1000) (xs (i + 1))
  refine gn_aload_n C dL_law_891 rfl 2 rfl ?_
  refine gn_arg C X (j := 1) (z := 1) rfl (by omega) dL_law_892 dL_law_893 dL_law_894 dL_law_895 dL_law_896 ?_
  refine law_callI C (W1 := []) (W2 := wl (mkW w a2 Sm) m ++ []) (a := a) (S := Sc) (s := c) (s' := c') (r := r) (i := 0) (c := 8) (R := RX8) (T := TX8) (N := 11) [.int (xs (i + 1))] (c_X8_takes (kl x) 1000 (mkW w a Sc) rfl (xs (i + 1)) e1) (law_cw C hR ml_L_104 im_X8_takes sl_X8_takes ini_X8 cd_X8_takes hd_X8_takes ⟨⟨Nat.le_of_ble_eq_true rfl, Nat.le_of_ble_eq_true rfl⟩, rfl, rfl⟩) kd_0 (by decide) rfl (by decide) rfl _ rfl (Nat.le_of_ble_eq_true rfl) dL_law_897 ⟨by rw [hR]; exact Nat.le_of_ble_eq_true rfl, by rw [hR]; exact Nat.le_of_ble_eq_true rfl⟩ ?_
  refine gn_aload_n C dL_law_900 rfl 1 rfl ?_
  refine gn_arg C X (j := 1) (z := 1) rfl (by omega) dL_law_901 dL_law_902 dL_law_903 dL_law_904 dL_law_905 ?_
  refine law_callI C (W1 := wl (mkW w a Sc) c') (W2 := []) (a := a2) (S := Sm) (s := m) (s' := m') (r := r) (i := 61) (c := 9) (R := RX9) (T := TX9) (N := 48) [.int (xs (i + 1))] (c_X9_takes (kl x) 1000 (mkW w a2 Sm) rfl (xs (i + 1)) e2) (law_cw C hR ml_L_107 im_X9_takes sl_X9_takes ini_X9 cd_X9_takes hd_X9_takes ⟨⟨Nat.le_of_ble_eq_true rfl, Nat.le_of_ble_eq_true rfl⟩, rfl, rfl⟩) kd_61 (by decide) rfl (by decide) rfl _ rfl (Nat.le_of_ble_eq_true rfl) dL_law_906 ⟨by rw [hR]; exact Nat.le_of_ble_eq_true rfl, by rw [hR]; exact Nat.le_of_ble_eq_true rfl⟩ ?_
  refine gn_icmp_same C (tgt := 1768) dL_law_909 (by decide) ?_
  exact kk c' m' R'
theorem lc_21 (C0 : LWC x w) (X : Scr x b L xs) (hi : i + 7 ≤ L) (R0 : RR c m) (kk : ∀ c' m', RR c' m' → LN x Q w a a2 b i 1768 c' m') : LN x Q w a a2 b i 914 c m := by
  obtain ⟨C, hR⟩ := C0
  obtain ⟨v, vk, R⟩ := R0
  obtain ⟨r, c', m', e1, e2, R'⟩ := b_clause R (Nat.le_refl 1000) (xs (i + 1))
  refine gn_aload_n C dL_law_914 rfl 2 rfl ?_
  refine gn_arg C X (j := 1) (z := 1) rfl (by omega) dL_law_915 dL_law_916 dL_law_917 dL_law_918 dL_law_919 ?_
  refine law_callI C (W1 := []) (W2 := wl (mkW w a2 Sm) m ++ []) (a := a) (S := Sc) (s := c) (s' := c') (r := r) (i := 0) (c := 8) (R := RX8) (T := TX8) (N := 11) [.int (xs (i + 1))] (c_X8_clause (kl x) 1000 (mkW w a Sc) rfl (xs (i + 1)) e1) (law_cw C hR ml_L_108 im_X8_clause sl_X8_clause ini_X8 cd_X8_clause hd_X8_clause ⟨⟨Nat.le_of_ble_eq_true rfl, Nat.le_of_ble_eq_true rfl⟩, rfl, rfl⟩) kd_0 (by decide) rfl (by decide) rfl _ rfl (Nat.le_of_ble_eq_true rfl) dL_law_920 ⟨by rw [hR]; exact Nat.le_of_ble_eq_true rfl, by rw [hR]; exact Nat.le_of_ble_eq_true rfl⟩ ?_
  refine gn_aload_n C dL_law_923 rfl 1 rfl ?_
  refine gn_arg C X (j := 1) (z := 1) rfl (by omega) dL_law_924 dL_law_925 dL_law_926 dL_law_927 dL_law_928 ?_
  refine law_callI C (W1 := wl (mkW w a Sc) c') (W2 := []) (a := a2) (S := Sm) (s := m) (s' := m') (r := r) (i := 61) (c := 9) (R := RX9) (T := TX9) (N := 48) [.int (xs (i + 1))] (c_X9_clause (kl x) 1000 (mkW w a2 Sm) rfl (xs (i + 1)) e2) (law_cw C hR ml_L_111 im_X9_clause sl_X9_clause ini_X9 cd_X9_clause hd_X9_clause ⟨⟨Nat.le_of_ble_eq_true rfl, Nat.le_of_ble_eq_true rfl⟩, rfl, rfl⟩) kd_61 (by decide) rfl (by decide) rfl _ rfl (Nat.le_of_ble_eq_true rfl) dL_law_929 ⟨by rw [hR]; exact Nat.le_of_ble_eq_true rfl, by rw [hR]; exact Nat.le_of_ble_eq_true rfl⟩ ?_
  refine gn_icmp_same C (tgt := 1768) dL_law_932 (by decide) ?_
  exact kk c' m' R'
theorem lc_22 (C0 : LWC x w) (X : Scr x b L xs) (hi : i + 7 ≤ L) (R0 : RR c m) (kk : ∀ c' m', RR c' m' → LN x Q w a a2 b i 1768 c' m') : LN x Q w a a2 b i 937 c m := by
  obtain ⟨C, hR⟩ := C0
  obtain ⟨v, vk, R⟩ := R0
  obtain ⟨r, c', m', e1, e2, R'⟩ := b_truth (N := 1000) R (xs (i + 1)) (xs (i + 2))
  refine gn_aload_n C dL_law_937 rfl 2 rfl ?_
  refine gn_arg C X (j := 1) (z := 1) rfl (by omega) dL_law_938 dL_law_939 dL_law_940 dL_law_941 dL_law_942 ?_
  refine gn_arg C X (j := 2) (z := 2) rfl (by omega) dL_law_943 dL_law_944 dL_law_945 dL_law_946 dL_law_947 ?_
  refine law_callI C (W1 := []) (W2 := wl (mkW w a2 Sm) m ++ []) (a := a) (S := Sc) (s := c) (s' := c') (r := r) (i := 0) (c := 8) (R := RX8) (T := TX8) (N := 11) [.int (xs (i + 1)), .int (xs (i + 2))] (c_X8_truth (kl x) 1000 (mkW w a Sc) rfl (xs (i + 1)) (xs (i + 2)) e1) (law_cw C hR ml_L_112 im_X8_truth sl_X8_truth ini_X8 cd_X8_truth hd_X8_truth ⟨⟨Nat.le_of_ble_eq_true rfl, Nat.le_of_ble_eq_true rfl⟩, rfl, rfl⟩) kd_0 (by decide) rfl (by decide) rfl _ rfl (Nat.le_of_ble_eq_true rfl) dL_law_948 ⟨by rw [hR]; exact Nat.le_of_ble_eq_true rfl, by rw [hR]; exact Nat.le_of_ble_eq_true rfl⟩ ?_
  refine gn_aload_n C dL_law_951 rfl 1 rfl ?_
  refine gn_arg C X (j := 1) (z := 1) rfl (by omega) dL_law_952 dL_law_953 dL_law_954 dL_law_955 dL_law_956 ?_
  refine gn_arg C X (j := 2) (z := 2) rfl (by omega) dL_law_957 dL_law_958 dL_law_959 dL_law_960 dL_law_961 ?_
  refine law_callI C (W1 := wl (mkW w a Sc) c') (W2 := []) (a := a2) (S := Sm) (s := m) (s' := m') (r := r) (i := 61) (c := 9) (R := RX9) (T := TX9) (N := 48) [.int (xs (i + 1)), .int (xs (i + 2))] (c_X9_truth (kl x) 1000 (mkW w a2 Sm) rfl (xs (i + 1)) (xs (i + 2)) e2) (law_cw C hR ml_L_115 im_X9_truth sl_X9_truth ini_X9 cd_X9_truth hd_X9_truth ⟨⟨Nat.le_of_ble_eq_true rfl, Nat.le_of_ble_eq_true rfl⟩, rfl, rfl⟩) kd_61 (by decide) rfl (by decide) rfl _ rfl (Nat.le_of_ble_eq_true rfl) dL_law_962 ⟨by rw [hR]; exact Nat.le_of_ble_eq_true rfl, by rw [hR]; exact Nat.le_of_ble_eq_true rfl⟩ ?_
  refine gn_icmp_same C (tgt := 1768) dL_law_965 (by decide) ?_
  exact kk c' m' R'
theorem lc_23 (C0 : LWC x w) (X : Scr x b L xs) (hi : i + 7 ≤ L) (R0 : RR c m) (kk : ∀ c' m', RR c' m' → LN x Q w a a2 b i 1768 c' m') : LN x Q w a a2 b i 970 c m := by
  obtain ⟨C, hR⟩ := C0
  obtain ⟨v, vk, R⟩ := R0
  obtain ⟨r, c', m', e1, e2, R'⟩ := b_errs R (Nat.le_refl 1000) (xs (i + 1)) (xs (i + 2))
  refine gn_aload_n C dL_law_970 rfl 2 rfl ?_
  refine gn_arg C X (j := 1) (z := 1) rfl (by omega) dL_law_971 dL_law_972 dL_law_973 dL_law_974 dL_law_975 ?_
  refine gn_arg C X (j := 2) (z := 2) rfl (by omega) dL_law_976 dL_law_977 dL_law_978 dL_law_979 dL_law_980 ?_
  refine law_callI C (W1 := []) (W2 := wl (mkW w a2 Sm) m ++ []) (a := a) (S := Sc) (s := c) (s' := c') (r := r) (i := 0) (c := 8) (R := RX8) (T := TX8) (N := 11) [.int (xs (i + 1)), .int (xs (i + 2))] (c_X8_errs (kl x) 1000 (mkW w a Sc) rfl (xs (i + 1)) (xs (i + 2)) e1) (law_cw C hR ml_L_116 im_X8_errs sl_X8_errs ini_X8 cd_X8_errs hd_X8_errs ⟨⟨Nat.le_of_ble_eq_true rfl, Nat.le_of_ble_eq_true rfl⟩, rfl, rfl⟩) kd_0 (by decide) rfl (by decide) rfl _ rfl (Nat.le_of_ble_eq_true rfl) dL_law_981 ⟨by rw [hR]; exact Nat.le_of_ble_eq_true rfl, by rw [hR]; exact Nat.le_of_ble_eq_true rfl⟩ ?_
  refine gn_aload_n C dL_law_984 rfl 1 rfl ?_
  refine gn_arg C X (j := 1) (z := 1) rfl (by omega) dL_law_985 dL_law_986 dL_law_987 dL_law_988 dL_law_989 ?_
  refine gn_arg C X (j := 2) (z := 2) rfl (by omega) dL_law_990 dL_law_991 dL_law_992 dL_law_993 dL_law_994 ?_
  refine law_callI C (W1 := wl (mkW w a Sc) c') (W2 := []) (a := a2) (S := Sm) (s := m) (s' := m') (r := r) (i := 61) (c := 9) (R := RX9) (T := TX9) (N := 48) [.int (xs (i + 1)), .int (xs (i + 2))] (c_X9_errs (kl x) 1000 (mkW w a2 Sm) rfl (xs (i + 1)) (xs (i + 2)) e2) (law_cw C hR ml_L_119 im_X9_errs sl_X9_errs ini_X9 cd_X9_errs hd_X9_errs ⟨⟨Nat.le_of_ble_eq_true rfl, Nat.le_of_ble_eq_true rfl⟩, rfl, rfl⟩) kd_61 (by decide) rfl (by decide) rfl _ rfl (Nat.le_of_ble_eq_true rfl) dL_law_995 ⟨by rw [hR]; exact Nat.le_of_ble_eq_true rfl, by rw [hR]; exact Nat.le_of_ble_eq_true rfl⟩ ?_
  refine gn_icmp_same C (tgt := 1768) dL_law_998 (by decide) ?_
  exact kk c' m' R'
theorem lc_24 (C0 : LWC x w) (X : Scr x b L xs) (hi : i + 7 ≤ L) (R0 : RR c m) (kk : ∀ c' m', RR c' m' → LN x Q w a a2 b i 1768 c' m') : LN x Q w a a2 b i 1003 c m := by
  obtain ⟨C, hR⟩ := C0
  obtain ⟨v, vk, R⟩ := R0
  obtain ⟨r, c', m', e1, e2, R'⟩ := b_draw R (Nat.le_refl 1000) (xs (i + 1)) (xs (i + 2)) (xs (i + 3)) (xs (i + 4))
  refine gn_aload_n C dL_law_1003 rfl 2 rfl ?_
  refine gn_arg C X (j := 1) (z := 1) rfl (by omega) dL_law_1004 dL_law_1005 dL_law_1006 dL_law_1007 dL_law_1008 ?_
  refine gn_arg C X (j := 2) (z := 2) rfl (by omega) dL_law_1009 dL_law_1010 dL_law_1011 dL_law_1012 dL_law_1013 ?_
  refine gn_arg C X (j := 3) (z := 3) rfl (by omega) dL_law_1014 dL_law_1015 dL_law_1016 dL_law_1017 dL_law_1018 ?_
  refine gn_arg C X (j := 4) (z := 4) rfl (by omega) dL_law_1019 dL_law_1020 dL_law_1021 dL_law_1022 dL_law_1023 ?_
  refine law_callI C (W1 := []) (W2 := wl (mkW w a2 Sm) m ++ []) (a := a) (S := Sc) (s := c) (s' := c') (r := r) (i := 0) (c := 8) (R := RX8) (T := TX8) (N := 11) [.int (xs (i + 1)), .int (xs (i + 2)), .int (xs (i + 3)), .int (xs (i + 4))] (c_X8_draw (kl x) 1000 (mkW w a Sc) rfl (xs (i + 1)) (xs (i + 2)) (xs (i + 3)) (xs (i + 4)) e1) (law_cw C hR ml_L_120 im_X8_draw sl_X8_draw ini_X8 cd_X8_draw hd_X8_draw ⟨⟨Nat.le_of_ble_eq_true rfl, Nat.le_of_ble_eq_true rfl⟩, rfl, rfl⟩) kd_0 (by decide) rfl (by decide) rfl _ rfl (Nat.le_of_ble_eq_true rfl) dL_law_1024 ⟨by rw [hR]; exact Nat.le_of_ble_eq_true rfl, by rw [hR]; exact Nat.le_of_ble_eq_true rfl⟩ ?_
  refine gn_aload_n C dL_law_1027 rfl 1 rfl ?_
  refine gn_arg C X (j := 1) (z := 1) rfl (by omega) dL_law_1028 dL_law_1029 dL_law_1030 dL_law_1031 dL_law_1032 ?_
  refine gn_arg C X (j := 2) (z := 2) rfl (by omega) dL_law_1033 dL_law_1034 dL_law_1035 dL_law_1036 dL_law_1037 ?_
  refine gn_arg C X (j := 3) (z := 3) rfl (by omega) dL_law_1038 dL_law_1039 dL_law_1040 dL_law_1041 dL_law_1042 ?_
  refine gn_arg C X (j := 4) (z := 4) rfl (by omega) dL_law_1043 dL_law_1044 dL_law_1045 dL_law_1046 dL_law_1047 ?_
  refine law_callI C (W1 := wl (mkW w a Sc) c') (W2 := []) (a := a2) (S := Sm) (s := m) (s' := m') (r := r) (i := 61) (c := 9) (R := RX9) (T := TX9) (N := 48) [.int (xs (i + 1)), .int (xs (i + 2)), .int (xs (i + 3)), .int (xs (i + 4))] (c_X9_draw (kl x) 1000 (mkW w a2 Sm) rfl (xs (i + 1)) (xs (i + 2)) (xs (i + 3)) (xs (i + 4)) e2) (law_cw C hR ml_L_124 im_X9_draw sl_X9_draw ini_X9 cd_X9_draw hd_X9_draw ⟨⟨Nat.le_of_ble_eq_true rfl, Nat.le_of_ble_eq_true rfl⟩, rfl, rfl⟩) kd_61 (by decide) rfl (by decide) rfl _ rfl (Nat.le_of_ble_eq_true rfl) dL_law_1048 ⟨by rw [hR]; exact Nat.le_of_ble_eq_true rfl, by rw [hR]; exact Nat.le_of_ble_eq_true rfl⟩ ?_
  refine gn_icmp_same C (tgt := 1768) dL_law_1051 (by decide) ?_
  exact kk c' m' R'
theorem lc_25 (C0 : LWC x w) (X : Scr x b L xs) (hi : i + 7 ≤ L) (R0 : RR c m) (kk : ∀ c' m', RR c' m' → LN x Q w a a2 b i 1768 c' m') : LN x Q w a a2 b i 1056 c m := by
  obtain ⟨C, hR⟩ := C0
  obtain ⟨v, vk, R⟩ := R0
  obtain ⟨r, c', m', e1, e2, R'⟩ := b_behind R (Nat.le_refl 1000) (xs (i + 1))
  refine gn_aload_n C dL_law_1056 rfl 2 rfl ?_
  refine gn_arg C X (j := 1) (z := 1) rfl (by omega) dL_law_1057 dL_law_1058 dL_law_1059 dL_law_1060 dL_law_1061 ?_
  refine law_callI C (W1 := []) (W2 := wl (mkW w a2 Sm) m ++ []) (a := a) (S := Sc) (s := c) (s' := c') (r := r) (i := 0) (c := 8) (R := RX8) (T := TX8) (N := 11) [.int (xs (i + 1))] (c_X8_behind (kl x) 1000 (mkW w a Sc) rfl (xs (i + 1)) e1) (law_cw C hR ml_L_125 im_X8_behind sl_X8_behind ini_X8 cd_X8_behind hd_X8_behind ⟨⟨Nat.le_of_ble_eq_true rfl, Nat.le_of_ble_eq_true rfl⟩, rfl, rfl⟩) kd_0 (by decide) rfl (by decide) rfl _ rfl (Nat.le_of_ble_eq_true rfl) dL_law_1062 ⟨by rw [hR]; exact Nat.le_of_ble_eq_true rfl, by rw [hR]; exact Nat.le_of_ble_eq_true rfl⟩ ?_
  refine gn_aload_n C dL_law_1065 rfl 1 rfl ?_
  refine gn_arg C X (j := 1) (z := 1) rfl (by omega) dL_law_1066 dL_law_1067 dL_law_1068 dL_law_1069 dL_law_1070 ?_
  refine law_callI C (W1 := wl (mkW w a Sc) c') (W2 := []) (a := a2) (S := Sm) (s := m) (s' := m') (r := r) (i := 61) (c := 9) (R := RX9) (T := TX9) (N := 48) [.int (xs (i + 1))] (c_X9_behind (kl x) 1000 (mkW w a2 Sm) rfl (xs (i + 1)) e2) (law_cw C hR ml_L_128 im_X9_behind sl_X9_behind ini_X9 cd_X9_behind hd_X9_behind ⟨⟨Nat.le_of_ble_eq_true rfl, Nat.le_of_ble_eq_true rfl⟩, rfl, rfl⟩) kd_61 (by decide) rfl (by decide) rfl _ rfl (Nat.le_of_ble_eq_true rfl) dL_law_1071 ⟨by rw [hR]; exact Nat.le_of_ble_eq_true rfl, by rw [hR]; exact Nat.le_of_ble_eq_true rfl⟩ ?_
  refine gn_icmp_same C (tgt := 1768) dL_law_1074 (by decide) ?_
  exact kk c' m' R'
theorem lc_26 (C0 : LWC x w) (X : Scr x b L xs) (hi : i + 7 ≤ L) (R0 : RR c m) (kk : ∀ c' m', RR c' m' → LN x Q w a a2 b i 1768 c' m') : LN x Q w a a2 b i 1079 c m := by
  obtain ⟨C, hR⟩ := C0
  obtain ⟨v, vk, R⟩ := R0
  obtain ⟨r, c', m', e1, e2, R'⟩ := b_suspect R (Nat.le_refl 1000) (xs (i + 1))
  refine gn_aload_n C dL_law_1079 rfl 2 rfl ?_
  refine gn_arg C X (j := 1) (z := 1) rfl (by omega) dL_law_1080 dL_law_1081 dL_law_1082 dL_law_1083 dL_law_1084 ?_
  refine law_callI C (W1 := []) (W2 := wl (mkW w a2 Sm) m ++ []) (a := a) (S := Sc) (s := c) (s' := c') (r := r) (i := 0) (c := 8) (R := RX8) (T := TX8) (N := 11) [.int (xs (i + 1))] (c_X8_suspect (kl x) 1000 (mkW w a Sc) rfl (xs (i + 1)) e1) (law_cw C hR ml_L_129 im_X8_suspect sl_X8_suspect ini_X8 cd_X8_suspect hd_X8_suspect ⟨⟨Nat.le_of_ble_eq_true rfl, Nat.le_of_ble_eq_true rfl⟩, rfl, rfl⟩) kd_0 (by decide) rfl (by decide) rfl _ rfl (Nat.le_of_ble_eq_true rfl) dL_law_1085 ⟨by rw [hR]; exact Nat.le_of_ble_eq_true rfl, by rw [hR]; exact Nat.le_of_ble_eq_true rfl⟩ ?_
  refine gn_aload_n C dL_law_1088 rfl 1 rfl ?_
  refine gn_arg C X (j := 1) (z := 1) rfl (by omega) dL_law_1089 dL_law_1090 dL_law_1091 dL_law_1092 dL_law_1093 ?_
  refine law_callI C (W1 := wl (mkW w a Sc) c') (W2 := []) (a := a2) (S := Sm) (s := m) (s' := m') (r := r) (i := 61) (c := 9) (R := RX9) (T := TX9) (N := 48) [.int (xs (i + 1))] (c_X9_suspect (kl x) 1000 (mkW w a2 Sm) rfl (xs (i + 1)) e2) (law_cw C hR ml_L_132 im_X9_suspect sl_X9_suspect ini_X9 cd_X9_suspect hd_X9_suspect ⟨⟨Nat.le_of_ble_eq_true rfl, Nat.le_of_ble_eq_true rfl⟩, rfl, rfl⟩) kd_61 (by decide) rfl (by decide) rfl _ rfl (Nat.le_of_ble_eq_true rfl) dL_law_1094 ⟨by rw [hR]; exact Nat.le_of_ble_eq_true rfl, by rw [hR]; exact Nat.le_of_ble_eq_true rfl⟩ ?_
  refine gn_icmp_same C (tgt := 1768) dL_law_1097 (by decide) ?_
  exact kk c' m' R'
theorem lc_27 (C0 : LWC x w) (X : Scr x b L xs) (hi : i + 7 ≤ L) (R0 : RR c m) (kk : ∀ c' m', RR c' m' → LN x Q w a a2 b i 1768 c' m') : LN x Q w a a2 b i 1102 c m := by
  obtain ⟨C, hR⟩ := C0
  obtain ⟨v, vk, R⟩ := R0
  obtain ⟨r, c', m', e1, e2, R'⟩ := b_heap R (Nat.le_refl 1000) (xs (i + 1))
  refine gn_aload_n C dL_law_1102 rfl 2 rfl ?_
  refine gn_arg C X (j := 1) (z := 1) rfl (by omega) dL_law_1103 dL_law_1104 dL_law_1105 dL_law_1106 dL_law_1107 ?_
  refine law_callI C (W1 := []) (W2 := wl (mkW w a2 Sm) m ++ []) (a := a) (S := Sc) (s := c) (s' := c') (r := r) (i := 0) (c := 8) (R := RX8) (T := TX8) (N := 11) [.int (xs (i + 1))] (c_X8_heap (kl x) 1000 (mkW w a Sc) rfl (xs (i + 1)) e1) (law_cw C hR ml_L_133 im_X8_heap sl_X8_heap ini_X8 cd_X8_heap hd_X8_heap ⟨⟨Nat.le_of_ble_eq_true rfl, Nat.le_of_ble_eq_true rfl⟩, rfl, rfl⟩) kd_0 (by decide) rfl (by decide) rfl _ rfl (Nat.le_of_ble_eq_true rfl) dL_law_1108 ⟨by rw [hR]; exact Nat.le_of_ble_eq_true rfl, by rw [hR]; exact Nat.le_of_ble_eq_true rfl⟩ ?_
  refine gn_aload_n C dL_law_1111 rfl 1 rfl ?_
  refine gn_arg C X (j := 1) (z := 1) rfl (by omega) dL_law_1112 dL_law_1113 dL_law_1114 dL_law_1115 dL_law_1116 ?_
  refine law_callI C (W1 := wl (mkW w a Sc) c') (W2 := []) (a := a2) (S := Sm) (s := m) (s' := m') (r := r) (i := 61) (c := 9) (R := RX9) (T := TX9) (N := 48) [.int (xs (i + 1))] (c_X9_heap (kl x) 1000 (mkW w a2 Sm) rfl (xs (i + 1)) e2) (law_cw C hR ml_L_136 im_X9_heap sl_X9_heap ini_X9 cd_X9_heap hd_X9_heap ⟨⟨Nat.le_of_ble_eq_true rfl, Nat.le_of_ble_eq_true rfl⟩, rfl, rfl⟩) kd_61 (by decide) rfl (by decide) rfl _ rfl (Nat.le_of_ble_eq_true rfl) dL_law_1117 ⟨by rw [hR]; exact Nat.le_of_ble_eq_true rfl, by rw [hR]; exact Nat.le_of_ble_eq_true rfl⟩ ?_
  refine gn_icmp_same C (tgt := 1768) dL_law_1120 (by decide) ?_
  exact kk c' m' R'
theorem lc_28 (C0 : LWC x w) (X : Scr x b L xs) (hi : i + 7 ≤ L) (R0 : RR c m) (kk : ∀ c' m', RR c' m' → LN x Q w a a2 b i 1768 c' m') : LN x Q w a a2 b i 1125 c m := by
  obtain ⟨C, hR⟩ := C0
  obtain ⟨v, vk, R⟩ := R0
  obtain ⟨r, c', m', e1, e2, R'⟩ := b_valley R (Nat.le_refl 1000) (xs (i + 1)) (xs (i + 2)) (xs (i + 3))
  refine gn_aload_n C dL_law_1125 rfl 2 rfl ?_
  refine gn_arg C X (j := 1) (z := 1) rfl (by omega) dL_law_1126 dL_law_1127 dL_law_1128 dL_law_1129 dL_law_1130 ?_
  refine gn_arg C X (j := 2) (z := 2) rfl (by omega) dL_law_1131 dL_law_1132 dL_law_1133 dL_law_1134 dL_law_1135 ?_
  refine gn_arg C X (j := 3) (z := 3) rfl (by omega) dL_law_1136 dL_law_1137 dL_law_1138 dL_law_1139 dL_law_1140 ?_
  refine law_callI C (W1 := []) (W2 := wl (mkW w a2 Sm) m ++ []) (a := a) (S := Sc) (s := c) (s' := c') (r := r) (i := 0) (c := 8) (R := RX8) (T := TX8) (N := 11) [.int (xs (i + 1)), .int (xs (i + 2)), .int (xs (i + 3))] (c_X8_valley (kl x) 1000 (mkW w a Sc) rfl (xs (i + 1)) (xs (i + 2)) (xs (i + 3)) e1) (law_cw C hR ml_L_137 im_X8_valley sl_X8_valley ini_X8 cd_X8_valley hd_X8_valley ⟨⟨Nat.le_of_ble_eq_true rfl, Nat.le_of_ble_eq_true rfl⟩, rfl, rfl⟩) kd_0 (by decide) rfl (by decide) rfl _ rfl (Nat.le_of_ble_eq_true rfl) dL_law_1141 ⟨by rw [hR]; exact Nat.le_of_ble_eq_true rfl, by rw [hR]; exact Nat.le_of_ble_eq_true rfl⟩ ?_
  refine gn_aload_n C dL_law_1144 rfl 1 rfl ?_
  refine gn_arg C X (j := 1) (z := 1) rfl (by omega) dL_law_1145 dL_law_1146 dL_law_1147 dL_law_1148 dL_law_1149 ?_
  refine gn_arg C X (j := 2) (z := 2) rfl (by omega) dL_law_1150 dL_law_1151 dL_law_1152 dL_law_1153 dL_law_1154 ?_
  refine gn_arg C X (j := 3) (z := 3) rfl (by omega) dL_law_1155 dL_law_1156 dL_law_1157 dL_law_1158 dL_law_1159 ?_
  refine law_callI C (W1 := wl (mkW w a Sc) c') (W2 := []) (a := a2) (S := Sm) (s := m) (s' := m') (r := r) (i := 61) (c := 9) (R := RX9) (T := TX9) (N := 48) [.int (xs (i + 1)), .int (xs (i + 2)), .int (xs (i + 3))] (c_X9_valley (kl x) 1000 (mkW w a2 Sm) rfl (xs (i + 1)) (xs (i + 2)) (xs (i + 3)) e2) (law_cw C hR ml_L_140 im_X9_valley sl_X9_valley ini_X9 cd_X9_valley hd_X9_valley ⟨⟨Nat.le_of_ble_eq_true rfl, Nat.le_of_ble_eq_true rfl⟩, rfl, rfl⟩) kd_61 (by decide) rfl (by decide) rfl _ rfl (Nat.le_of_ble_eq_true rfl) dL_law_1160 ⟨by rw [hR]; exact Nat.le_of_ble_eq_true rfl, by rw [hR]; exact Nat.le_of_ble_eq_true rfl⟩ ?_
  refine gn_icmp_same C (tgt := 1768) dL_law_1163 (by decide) ?_
  exact kk c' m' R'
theorem lc_29 (C0 : LWC x w) (X : Scr x b L xs) (hi : i + 7 ≤ L) (R0 : RR c m) (kk : ∀ c' m', RR c' m' → LN x Q w a a2 b i 1768 c' m') : LN x Q w a a2 b i 1168 c m := by
  obtain ⟨C, hR⟩ := C0
  obtain ⟨v, vk, R⟩ := R0
  obtain ⟨r, c', m', e1, e2, R'⟩ := b_question R (Nat.le_refl 1000) (xs (i + 1)) (xs (i + 2)) (xs (i + 3))
  refine gn_aload_n C dL_law_1168 rfl 2 rfl ?_
  refine gn_arg C X (j := 1) (z := 1) rfl (by omega) dL_law_1169 dL_law_1170 dL_law_1171 dL_law_1172 dL_law_1173 ?_
  refine gn_arg C X (j := 2) (z := 2) rfl (by omega) dL_law_1174 dL_law_1175 dL_law_1176 dL_law_1177 dL_law_1178 ?_
  refine gn_arg C X (j := 3) (z := 3) rfl (by omega) dL_law_1179 dL_law_1180 dL_law_1181 dL_law_1182 dL_law_1183 ?_
  refine law_callI C (W1 := []) (W2 := wl (mkW w a2 Sm) m ++ []) (a := a) (S := Sc) (s := c) (s' := c') (r := r) (i := 0) (c := 8) (R := RX8) (T := TX8) (N := 11) [.int (xs (i + 1)), .int (xs (i + 2)), .int (xs (i + 3))] (c_X8_question (kl x) 1000 (mkW w a Sc) rfl (xs (i + 1)) (xs (i + 2)) (xs (i + 3)) e1) (law_cw C hR ml_L_141 im_X8_question sl_X8_question ini_X8 cd_X8_question hd_X8_question ⟨⟨Nat.le_of_ble_eq_true rfl, Nat.le_of_ble_eq_true rfl⟩, rfl, rfl⟩) kd_0 (by decide) rfl (by decide) rfl _ rfl (Nat.le_of_ble_eq_true rfl) dL_law_1184 ⟨by rw [hR]; exact Nat.le_of_ble_eq_true rfl, by rw [hR]; exact Nat.le_of_ble_eq_true rfl⟩ ?_
  refine gn_aload_n C dL_law_1187 rfl 1 rfl ?_
  refine gn_arg C X (j := 1) (z := 1) rfl (by omega) dL_law_1188 dL_law_1189 dL_law_1190 dL_law_1191 dL_law_1192 ?_
  refine gn_arg C X (j := 2) (z := 2) rfl (by omega) dL_law_1193 dL_law_1194 dL_law_1195 dL_law_1196 dL_law_1197 ?_
  refine gn_arg C X (j := 3) (z := 3) rfl (by omega) dL_law_1198 dL_law_1199 dL_law_1200 dL_law_1201 dL_law_1202 ?_
  refine law_callI C (W1 := wl (mkW w a Sc) c') (W2 := []) (a := a2) (S := Sm) (s := m) (s' := m') (r := r) (i := 61) (c := 9) (R := RX9) (T := TX9) (N := 48) [.int (xs (i + 1)), .int (xs (i + 2)), .int (xs (i + 3))] (c_X9_question (kl x) 1000 (mkW w a2 Sm) rfl (xs (i + 1)) (xs (i + 2)) (xs (i + 3)) e2) (law_cw C hR ml_L_144 im_X9_question sl_X9_question ini_X9 cd_X9_question hd_X9_question ⟨⟨Nat.le_of_ble_eq_true rfl, Nat.le_of_ble_eq_true rfl⟩, rfl, rfl⟩) kd_61 (by decide) rfl (by decide) rfl _ rfl (Nat.le_of_ble_eq_true rfl) dL_law_1203 ⟨by rw [hR]; exact Nat.le_of_ble_eq_true rfl, by rw [hR]; exact Nat.le_of_ble_eq_true rfl⟩ ?_
  refine gn_icmp_same C (tgt := 1768) dL_law_1206 (by decide) ?_
  exact kk c' m' R'
theorem lc_30 (C0 : LWC x w) (X : Scr x b L xs) (hi : i + 7 ≤ L) (R0 : RR c m) (kk : ∀ c' m', RR c' m' → LN x Q w a a2 b i 1768 c' m') : LN x Q w a a2 b i 1211 c m := by
  obtain ⟨C, hR⟩ := C0
  obtain ⟨v, vk, R⟩ := R0
  obtain ⟨r, c', m', e1, e2, R'⟩ := b_answer R (Nat.le_refl 1000) (xs (i + 1)) (decide (xs (i + 2) ≠ 0))
  refine gn_aload_n C dL_law_1211 rfl 2 rfl ?_
  refine gn_arg C X (j := 1) (z := 1) rfl (by omega) dL_law_1212 dL_law_1213 dL_law_1214 dL_law_1215 dL_law_1216 ?_
  refine gn_arg C X (j := 2) (z := 2) rfl (by omega) dL_law_1217 dL_law_1218 dL_law_1219 dL_law_1220 dL_law_1221 ?_
  refine gn_bool C dL_law_1222 dL_law_1225 dL_law_1226 dL_law_1229 (by decide) (by decide) ?_
  refine law_callI C (W1 := []) (W2 := wl (mkW w a2 Sm) m ++ []) (a := a) (S := Sc) (s := c) (s' := c') (r := r) (i := 0) (c := 8) (R := RX8) (T := TX8) (N := 11) [.int (xs (i + 1)), .int (bI (decide (xs (i + 2) ≠ 0)))] (c_X8_answer (kl x) 1000 (mkW w a Sc) rfl (xs (i + 1)) (decide (xs (i + 2) ≠ 0)) e1) (law_cw C hR ml_L_145 im_X8_answer sl_X8_answer ini_X8 cd_X8_answer hd_X8_answer ⟨⟨Nat.le_of_ble_eq_true rfl, Nat.le_of_ble_eq_true rfl⟩, rfl, rfl⟩) kd_0 (by decide) rfl (by decide) rfl _ rfl (Nat.le_of_ble_eq_true rfl) dL_law_1230 ⟨by rw [hR]; exact Nat.le_of_ble_eq_true rfl, by rw [hR]; exact Nat.le_of_ble_eq_true rfl⟩ ?_
  refine gn_aload_n C dL_law_1233 rfl 1 rfl ?_
  refine gn_arg C X (j := 1) (z := 1) rfl (by omega) dL_law_1234 dL_law_1235 dL_law_1236 dL_law_1237 dL_law_1238 ?_
  refine gn_arg C X (j := 2) (z := 2) rfl (by omega) dL_law_1239 dL_law_1240 dL_law_1241 dL_law_1242 dL_law_1243 ?_
  refine gn_bool C dL_law_1244 dL_law_1247 dL_law_1248 dL_law_1251 (by decide) (by decide) ?_
  refine law_callI C (W1 := wl (mkW w a Sc) c') (W2 := []) (a := a2) (S := Sm) (s := m) (s' := m') (r := r) (i := 61) (c := 9) (R := RX9) (T := TX9) (N := 48) [.int (xs (i + 1)), .int (bI (decide (xs (i + 2) ≠ 0)))] (c_X9_answer (kl x) 1000 (mkW w a2 Sm) rfl (xs (i + 1)) (decide (xs (i + 2) ≠ 0)) e2) (law_cw C hR ml_L_149 im_X9_answer sl_X9_answer ini_X9 cd_X9_answer hd_X9_answer ⟨⟨Nat.le_of_ble_eq_true rfl, Nat.le_of_ble_eq_true rfl⟩, rfl, rfl⟩) kd_61 (by decide) rfl (by decide) rfl _ rfl (Nat.le_of_ble_eq_true rfl) dL_law_1252 ⟨by rw [hR]; exact Nat.le_of_ble_eq_true rfl, by rw [hR]; exact Nat.le_of_ble_eq_true rfl⟩ ?_
  refine gn_icmp_same C (tgt := 1768) dL_law_1255 (by decide) ?_
  exact kk c' m' R'
theorem lc_31 (C0 : LWC x w) (X : Scr x b L xs) (hi : i + 7 ≤ L) (R0 : RR c m) (kk : ∀ c' m', RR c' m' → LN x Q w a a2 b i 1768 c' m') : LN x Q w a a2 b i 1260 c m := by
  obtain ⟨C, hR⟩ := C0
  obtain ⟨v, vk, R⟩ := R0
  obtain ⟨r, c', m', e1, e2, R'⟩ := b_next R (Nat.le_refl 1000) (xs (i + 1))
  refine gn_aload_n C dL_law_1260 rfl 2 rfl ?_
  refine gn_arg C X (j := 1) (z := 1) rfl (by omega) dL_law_1261 dL_law_1262 dL_law_1263 dL_law_1264 dL_law_1265 ?_
  refine law_callI C (W1 := []) (W2 := wl (mkW w a2 Sm) m ++ []) (a := a) (S := Sc) (s := c) (s' := c') (r := r) (i := 0) (c := 8) (R := RX8) (T := TX8) (N := 11) [.int (xs (i + 1))] (c_X8_next (kl x) 1000 (mkW w a Sc) rfl (xs (i + 1)) e1) (law_cw C hR ml_L_150 im_X8_next sl_X8_next ini_X8 cd_X8_next hd_X8_next ⟨⟨Nat.le_of_ble_eq_true rfl, Nat.le_of_ble_eq_true rfl⟩, rfl, rfl⟩) kd_0 (by decide) rfl (by decide) rfl _ rfl (Nat.le_of_ble_eq_true rfl) dL_law_1266 ⟨by rw [hR]; exact Nat.le_of_ble_eq_true rfl, by rw [hR]; exact Nat.le_of_ble_eq_true rfl⟩ ?_
  refine gn_aload_n C dL_law_1269 rfl 1 rfl ?_
  refine gn_arg C X (j := 1) (z := 1) rfl (by omega) dL_law_1270 dL_law_1271 dL_law_1272 dL_law_1273 dL_law_1274 ?_
  refine law_callI C (W1 := wl (mkW w a Sc) c') (W2 := []) (a := a2) (S := Sm) (s := m) (s' := m') (r := r) (i := 61) (c := 9) (R := RX9) (T := TX9) (N := 48) [.int (xs (i + 1))] (c_X9_next (kl x) 1000 (mkW w a2 Sm) rfl (xs (i + 1)) e2) (law_cw C hR ml_L_153 im_X9_next sl_X9_next ini_X9 cd_X9_next hd_X9_next ⟨⟨Nat.le_of_ble_eq_true rfl, Nat.le_of_ble_eq_true rfl⟩, rfl, rfl⟩) kd_61 (by decide) rfl (by decide) rfl _ rfl (Nat.le_of_ble_eq_true rfl) dL_law_1275 ⟨by rw [hR]; exact Nat.le_of_ble_eq_true rfl, by rw [hR]; exact Nat.le_of_ble_eq_true rfl⟩ ?_
  refine gn_icmp_same C (tgt := 1768) dL_law_1278 (by decide) ?_
  exact kk c' m' R'
theorem lc_32 (C0 : LWC x w) (X : Scr x b L xs) (hi : i + 7 ≤ L) (R0 : RR c m) (kk : ∀ c' m', RR c' m' → LN x Q w a a2 b i 1768 c' m') : LN x Q w a a2 b i 1283 c m := by
  obtain ⟨C, hR⟩ := C0
  obtain ⟨v, vk, R⟩ := R0
  obtain ⟨r, c', m', e1, e2, R'⟩ := b_prove R (Nat.le_refl 1000) (xs (i + 1))
  refine gn_aload_n C dL_law_1283 rfl 2 rfl ?_
  refine gn_arg C X (j := 1) (z := 1) rfl (by omega) dL_law_1284 dL_law_1285 dL_law_1286 dL_law_1287 dL_law_1288 ?_
  refine law_callI C (W1 := []) (W2 := wl (mkW w a2 Sm) m ++ []) (a := a) (S := Sc) (s := c) (s' := c') (r := r) (i := 0) (c := 8) (R := RX8) (T := TX8) (N := 11) [.int (xs (i + 1))] (c_X8_prove (kl x) 1000 (mkW w a Sc) rfl (xs (i + 1)) e1) (law_cw C hR ml_L_154 im_X8_prove sl_X8_prove ini_X8 cd_X8_prove hd_X8_prove ⟨⟨Nat.le_of_ble_eq_true rfl, Nat.le_of_ble_eq_true rfl⟩, rfl, rfl⟩) kd_0 (by decide) rfl (by decide) rfl _ rfl (Nat.le_of_ble_eq_true rfl) dL_law_1289 ⟨by rw [hR]; exact Nat.le_of_ble_eq_true rfl, by rw [hR]; exact Nat.le_of_ble_eq_true rfl⟩ ?_
  refine gn_aload_n C dL_law_1292 rfl 1 rfl ?_
  refine gn_arg C X (j := 1) (z := 1) rfl (by omega) dL_law_1293 dL_law_1294 dL_law_1295 dL_law_1296 dL_law_1297 ?_
  refine law_callI C (W1 := wl (mkW w a Sc) c') (W2 := []) (a := a2) (S := Sm) (s := m) (s' := m') (r := r) (i := 61) (c := 9) (R := RX9) (T := TX9) (N := 48) [.int (xs (i + 1))] (c_X9_prove (kl x) 1000 (mkW w a2 Sm) rfl (xs (i + 1)) e2) (law_cw C hR ml_L_157 im_X9_prove sl_X9_prove ini_X9 cd_X9_prove hd_X9_prove ⟨⟨Nat.le_of_ble_eq_true rfl, Nat.le_of_ble_eq_true rfl⟩, rfl, rfl⟩) kd_61 (by decide) rfl (by decide) rfl _ rfl (Nat.le_of_ble_eq_true rfl) dL_law_1298 ⟨by rw [hR]; exact Nat.le_of_ble_eq_true rfl, by rw [hR]; exact Nat.le_of_ble_eq_true rfl⟩ ?_
  refine gn_icmp_same C (tgt := 1768) dL_law_1301 (by decide) ?_
  exact kk c' m' R'
theorem lc_33 (C0 : LWC x w) (X : Scr x b L xs) (hi : i + 7 ≤ L) (R0 : RR c m) (kk : ∀ c' m', RR c' m' → LN x Q w a a2 b i 1768 c' m') : LN x Q w a a2 b i 1306 c m := by
  obtain ⟨C, hR⟩ := C0
  obtain ⟨v, vk, R⟩ := R0
  obtain ⟨r, c', m', e1, e2, R'⟩ := b_row (N := 1000) R (xs (i + 1)) (xs (i + 2))
  refine gn_aload_n C dL_law_1306 rfl 2 rfl ?_
  refine gn_arg C X (j := 1) (z := 1) rfl (by omega) dL_law_1307 dL_law_1308 dL_law_1309 dL_law_1310 dL_law_1311 ?_
  refine gn_arg C X (j := 2) (z := 2) rfl (by omega) dL_law_1312 dL_law_1313 dL_law_1314 dL_law_1315 dL_law_1316 ?_
  refine law_callI C (W1 := []) (W2 := wl (mkW w a2 Sm) m ++ []) (a := a) (S := Sc) (s := c) (s' := c') (r := r) (i := 0) (c := 8) (R := RX8) (T := TX8) (N := 11) [.int (xs (i + 1)), .int (xs (i + 2))] (c_X8_row (kl x) 1000 (mkW w a Sc) rfl (xs (i + 1)) (xs (i + 2)) e1) (law_cw C hR ml_L_158 im_X8_row sl_X8_row ini_X8 cd_X8_row hd_X8_row ⟨⟨Nat.le_of_ble_eq_true rfl, Nat.le_of_ble_eq_true rfl⟩, rfl, rfl⟩) kd_0 (by decide) rfl (by decide) rfl _ rfl (Nat.le_of_ble_eq_true rfl) dL_law_1317 ⟨by rw [hR]; exact Nat.le_of_ble_eq_true rfl, by rw [hR]; exact Nat.le_of_ble_eq_true rfl⟩ ?_
  refine gn_aload_n C dL_law_1320 rfl 1 rfl ?_
  refine gn_arg C X (j := 1) (z := 1) rfl (by omega) dL_law_1321 dL_law_1322 dL_law_1323 dL_law_1324 dL_law_1325 ?_
  refine gn_arg C X (j := 2) (z := 2) rfl (by omega) dL_law_1326 dL_law_1327 dL_law_1328 dL_law_1329 dL_law_1330 ?_
  refine law_callI C (W1 := wl (mkW w a Sc) c') (W2 := []) (a := a2) (S := Sm) (s := m) (s' := m') (r := r) (i := 61) (c := 9) (R := RX9) (T := TX9) (N := 48) [.int (xs (i + 1)), .int (xs (i + 2))] (c_X9_row (kl x) 1000 (mkW w a2 Sm) rfl (xs (i + 1)) (xs (i + 2)) e2) (law_cw C hR ml_L_161 im_X9_row sl_X9_row ini_X9 cd_X9_row hd_X9_row ⟨⟨Nat.le_of_ble_eq_true rfl, Nat.le_of_ble_eq_true rfl⟩, rfl, rfl⟩) kd_61 (by decide) rfl (by decide) rfl _ rfl (Nat.le_of_ble_eq_true rfl) dL_law_1331 ⟨by rw [hR]; exact Nat.le_of_ble_eq_true rfl, by rw [hR]; exact Nat.le_of_ble_eq_true rfl⟩ ?_
  refine gn_icmp_same C (tgt := 1768) dL_law_1334 (by decide) ?_
  exact kk c' m' R'
theorem lc_34 (C0 : LWC x w) (X : Scr x b L xs) (hi : i + 7 ≤ L) (R0 : RR c m) (kk : ∀ c' m', RR c' m' → LN x Q w a a2 b i 1768 c' m') : LN x Q w a a2 b i 1339 c m := by
  obtain ⟨C, hR⟩ := C0
  obtain ⟨v, vk, R⟩ := R0
  obtain ⟨r, c', m', e1, e2, R'⟩ := b_alterRow (N := 1000) R (xs (i + 1)) (xs (i + 2)) (xs (i + 3))
  refine gn_aload_n C dL_law_1339 rfl 2 rfl ?_
  refine gn_arg C X (j := 1) (z := 1) rfl (by omega) dL_law_1340 dL_law_1341 dL_law_1342 dL_law_1343 dL_law_1344 ?_
  refine gn_arg C X (j := 2) (z := 2) rfl (by omega) dL_law_1345 dL_law_1346 dL_law_1347 dL_law_1348 dL_law_1349 ?_
  refine gn_arg C X (j := 3) (z := 3) rfl (by omega) dL_law_1350 dL_law_1351 dL_law_1352 dL_law_1353 dL_law_1354 ?_
  refine law_callI C (W1 := []) (W2 := wl (mkW w a2 Sm) m ++ []) (a := a) (S := Sc) (s := c) (s' := c') (r := r) (i := 0) (c := 8) (R := RX8) (T := TX8) (N := 11) [.int (xs (i + 1)), .int (xs (i + 2)), .int (xs (i + 3))] (c_X8_alterRow (kl x) 1000 (mkW w a Sc) rfl (xs (i + 1)) (xs (i + 2)) (xs (i + 3)) e1) (law_cw C hR ml_L_162 im_X8_alterRow sl_X8_alterRow ini_X8 cd_X8_alterRow hd_X8_alterRow ⟨⟨Nat.le_of_ble_eq_true rfl, Nat.le_of_ble_eq_true rfl⟩, rfl, rfl⟩) kd_0 (by decide) rfl (by decide) rfl _ rfl (Nat.le_of_ble_eq_true rfl) dL_law_1355 ⟨by rw [hR]; exact Nat.le_of_ble_eq_true rfl, by rw [hR]; exact Nat.le_of_ble_eq_true rfl⟩ ?_
  refine gn_aload_n C dL_law_1358 rfl 1 rfl ?_
  refine gn_arg C X (j := 1) (z := 1) rfl (by omega) dL_law_1359 dL_law_1360 dL_law_1361 dL_law_1362 dL_law_1363 ?_
  refine gn_arg C X (j := 2) (z := 2) rfl (by omega) dL_law_1364 dL_law_1365 dL_law_1366 dL_law_1367 dL_law_1368 ?_
  refine gn_arg C X (j := 3) (z := 3) rfl (by omega) dL_law_1369 dL_law_1370 dL_law_1371 dL_law_1372 dL_law_1373 ?_
  refine law_callI C (W1 := wl (mkW w a Sc) c') (W2 := []) (a := a2) (S := Sm) (s := m) (s' := m') (r := r) (i := 61) (c := 9) (R := RX9) (T := TX9) (N := 48) [.int (xs (i + 1)), .int (xs (i + 2)), .int (xs (i + 3))] (c_X9_alterRow (kl x) 1000 (mkW w a2 Sm) rfl (xs (i + 1)) (xs (i + 2)) (xs (i + 3)) e2) (law_cw C hR ml_L_165 im_X9_alterRow sl_X9_alterRow ini_X9 cd_X9_alterRow hd_X9_alterRow ⟨⟨Nat.le_of_ble_eq_true rfl, Nat.le_of_ble_eq_true rfl⟩, rfl, rfl⟩) kd_61 (by decide) rfl (by decide) rfl _ rfl (Nat.le_of_ble_eq_true rfl) dL_law_1374 ⟨by rw [hR]; exact Nat.le_of_ble_eq_true rfl, by rw [hR]; exact Nat.le_of_ble_eq_true rfl⟩ ?_
  refine gn_icmp_same C (tgt := 1768) dL_law_1377 (by decide) ?_
  exact kk c' m' R'
theorem lc_35 (C0 : LWC x w) (X : Scr x b L xs) (hi : i + 7 ≤ L) (R0 : RR c m) (kk : ∀ c' m', RR c' m' → LN x Q w a a2 b i 1768 c' m') : LN x Q w a a2 b i 1382 c m := by
  obtain ⟨C, hR⟩ := C0
  obtain ⟨v, vk, R⟩ := R0
  obtain ⟨r, c', m', e1, e2, R'⟩ := b_judge R (Nat.le_refl 1000)
  refine gn_aload_n C dL_law_1382 rfl 2 rfl ?_
  refine law_callI C (W1 := []) (W2 := wl (mkW w a2 Sm) m ++ []) (a := a) (S := Sc) (s := c) (s' := c') (r := r) (i := 0) (c := 8) (R := RX8) (T := TX8) (N := 11) [] (c_X8_judge (kl x) 1000 (mkW w a Sc) rfl e1) (law_cw C hR ml_L_166 im_X8_judge sl_X8_judge ini_X8 cd_X8_judge hd_X8_judge ⟨⟨Nat.le_of_ble_eq_true rfl, Nat.le_of_ble_eq_true rfl⟩, rfl, rfl⟩) kd_0 (by decide) rfl (by decide) rfl _ rfl (Nat.le_of_ble_eq_true rfl) dL_law_1383 ⟨by rw [hR]; exact Nat.le_of_ble_eq_true rfl, by rw [hR]; exact Nat.le_of_ble_eq_true rfl⟩ ?_
  refine gn_aload_n C dL_law_1386 rfl 1 rfl ?_
  refine law_callI C (W1 := wl (mkW w a Sc) c') (W2 := []) (a := a2) (S := Sm) (s := m) (s' := m') (r := r) (i := 61) (c := 9) (R := RX9) (T := TX9) (N := 48) [] (c_X9_judge (kl x) 1000 (mkW w a2 Sm) rfl e2) (law_cw C hR ml_L_169 im_X9_judge sl_X9_judge ini_X9 cd_X9_judge hd_X9_judge ⟨⟨Nat.le_of_ble_eq_true rfl, Nat.le_of_ble_eq_true rfl⟩, rfl, rfl⟩) kd_61 (by decide) rfl (by decide) rfl _ rfl (Nat.le_of_ble_eq_true rfl) dL_law_1387 ⟨by rw [hR]; exact Nat.le_of_ble_eq_true rfl, by rw [hR]; exact Nat.le_of_ble_eq_true rfl⟩ ?_
  refine gn_icmp_same C (tgt := 1768) dL_law_1390 (by decide) ?_
  exact kk c' m' R'
theorem lc_36 (C0 : LWC x w) (X : Scr x b L xs) (hi : i + 7 ≤ L) (R0 : RR c m) (kk : ∀ c' m', RR c' m' → LN x Q w a a2 b i 1768 c' m') : LN x Q w a a2 b i 1395 c m := by
  obtain ⟨C, hR⟩ := C0
  obtain ⟨v, vk, R⟩ := R0
  obtain ⟨r, c', m', e1, e2, R'⟩ := b_sheet R (Nat.le_refl 1000) (xs (i + 1)) (xs (i + 2)) (xs (i + 3))
  refine gn_aload_n C dL_law_1395 rfl 2 rfl ?_
  refine gn_arg C X (j := 1) (z := 1) rfl (by omega) dL_law_1396 dL_law_1397 dL_law_1398 dL_law_1399 dL_law_1400 ?_
  refine gn_arg C X (j := 2) (z := 2) rfl (by omega) dL_law_1401 dL_law_1402 dL_law_1403 dL_law_1404 dL_law_1405 ?_
  refine gn_arg C X (j := 3) (z := 3) rfl (by omega) dL_law_1406 dL_law_1407 dL_law_1408 dL_law_1409 dL_law_1410 ?_
  refine law_callI C (W1 := []) (W2 := wl (mkW w a2 Sm) m ++ []) (a := a) (S := Sc) (s := c) (s' := c') (r := r) (i := 0) (c := 8) (R := RX8) (T := TX8) (N := 11) [.int (xs (i + 1)), .int (xs (i + 2)), .int (xs (i + 3))] (c_X8_sheet (kl x) 1000 (mkW w a Sc) rfl (xs (i + 1)) (xs (i + 2)) (xs (i + 3)) e1) (law_cw C hR ml_L_170 im_X8_sheet sl_X8_sheet ini_X8 cd_X8_sheet hd_X8_sheet ⟨⟨Nat.le_of_ble_eq_true rfl, Nat.le_of_ble_eq_true rfl⟩, rfl, rfl⟩) kd_0 (by decide) rfl (by decide) rfl _ rfl (Nat.le_of_ble_eq_true rfl) dL_law_1411 ⟨by rw [hR]; exact Nat.le_of_ble_eq_true rfl, by rw [hR]; exact Nat.le_of_ble_eq_true rfl⟩ ?_
  refine gn_aload_n C dL_law_1414 rfl 1 rfl ?_
  refine gn_arg C X (j := 1) (z := 1) rfl (by omega) dL_law_1415 dL_law_1416 dL_law_1417 dL_law_1418 dL_law_1419 ?_
  refine gn_arg C X (j := 2) (z := 2) rfl (by omega) dL_law_1420 dL_law_1421 dL_law_1422 dL_law_1423 dL_law_1424 ?_
  refine gn_arg C X (j := 3) (z := 3) rfl (by omega) dL_law_1425 dL_law_1426 dL_law_1427 dL_law_1428 dL_law_1429 ?_
  refine law_callI C (W1 := wl (mkW w a Sc) c') (W2 := []) (a := a2) (S := Sm) (s := m) (s' := m') (r := r) (i := 61) (c := 9) (R := RX9) (T := TX9) (N := 48) [.int (xs (i + 1)), .int (xs (i + 2)), .int (xs (i + 3))] (c_X9_sheet (kl x) 1000 (mkW w a2 Sm) rfl (xs (i + 1)) (xs (i + 2)) (xs (i + 3)) e2) (law_cw C hR ml_L_173 im_X9_sheet sl_X9_sheet ini_X9 cd_X9_sheet hd_X9_sheet ⟨⟨Nat.le_of_ble_eq_true rfl, Nat.le_of_ble_eq_true rfl⟩, rfl, rfl⟩) kd_61 (by decide) rfl (by decide) rfl _ rfl (Nat.le_of_ble_eq_true rfl) dL_law_1430 ⟨by rw [hR]; exact Nat.le_of_ble_eq_true rfl, by rw [hR]; exact Nat.le_of_ble_eq_true rfl⟩ ?_
  refine gn_icmp_same C (tgt := 1768) dL_law_1433 (by decide) ?_
  exact kk c' m' R'
theorem lc_37 (C0 : LWC x w) (X : Scr x b L xs) (hi : i + 7 ≤ L) (R0 : RR c m) (kk : ∀ c' m', RR c' m' → LN x Q w a a2 b i 1768 c' m') : LN x Q w a a2 b i 1438 c m := by
  obtain ⟨C, hR⟩ := C0
  obtain ⟨v, vk, R⟩ := R0
  obtain ⟨r, c', m', e1, e2, R'⟩ := b_put (N := 1000) R (xs (i + 1)) (xs (i + 2)) (xs (i + 3))
  refine gn_aload_n C dL_law_1438 rfl 2 rfl ?_
  refine gn_arg C X (j := 1) (z := 1) rfl (by omega) dL_law_1439 dL_law_1440 dL_law_1441 dL_law_1442 dL_law_1443 ?_
  refine gn_arg C X (j := 2) (z := 2) rfl (by omega) dL_law_1444 dL_law_1445 dL_law_1446 dL_law_1447 dL_law_1448 ?_
  refine gn_arg C X (j := 3) (z := 3) rfl (by omega) dL_law_1449 dL_law_1450 dL_law_1451 dL_law_1452 dL_law_1453 ?_
  refine law_callI C (W1 := []) (W2 := wl (mkW w a2 Sm) m ++ []) (a := a) (S := Sc) (s := c) (s' := c') (r := r) (i := 0) (c := 8) (R := RX8) (T := TX8) (N := 11) [.int (xs (i + 1)), .int (xs (i + 2)), .int (xs (i + 3))] (c_X8_put (kl x) 1000 (mkW w a Sc) rfl (xs (i + 1)) (xs (i + 2)) (xs (i + 3)) e1) (law_cw C hR ml_L_174 im_X8_put sl_X8_put ini_X8 cd_X8_put hd_X8_put ⟨⟨Nat.le_of_ble_eq_true rfl, Nat.le_of_ble_eq_true rfl⟩, rfl, rfl⟩) kd_0 (by decide) rfl (by decide) rfl _ rfl (Nat.le_of_ble_eq_true rfl) dL_law_1454 ⟨by rw [hR]; exact Nat.le_of_ble_eq_true rfl, by rw [hR]; exact Nat.le_of_ble_eq_true rfl⟩ ?_
  refine gn_aload_n C dL_law_1457 rfl 1 rfl ?_
  refine gn_arg C X (j := 1) (z := 1) rfl (by omega) dL_law_1458 dL_law_1459 dL_law_1460 dL_law_1461 dL_law_1462 ?_
  refine gn_arg C X (j := 2) (z := 2) rfl (by omega) dL_law_1463 dL_law_1464 dL_law_1465 dL_law_1466 dL_law_1467 ?_
  refine gn_arg C X (j := 3) (z := 3) rfl (by omega) dL_law_1468 dL_law_1469 dL_law_1470 dL_law_1471 dL_law_1472 ?_
  refine law_callI C (W1 := wl (mkW w a Sc) c') (W2 := []) (a := a2) (S := Sm) (s := m) (s' := m') (r := r) (i := 61) (c := 9) (R := RX9) (T := TX9) (N := 48) [.int (xs (i + 1)), .int (xs (i + 2)), .int (xs (i + 3))] (c_X9_put (kl x) 1000 (mkW w a2 Sm) rfl (xs (i + 1)) (xs (i + 2)) (xs (i + 3)) e2) (law_cw C hR ml_L_177 im_X9_put sl_X9_put ini_X9 cd_X9_put hd_X9_put ⟨⟨Nat.le_of_ble_eq_true rfl, Nat.le_of_ble_eq_true rfl⟩, rfl, rfl⟩) kd_61 (by decide) rfl (by decide) rfl _ rfl (Nat.le_of_ble_eq_true rfl) dL_law_1473 ⟨by rw [hR]; exact Nat.le_of_ble_eq_true rfl, by rw [hR]; exact Nat.le_of_ble_eq_true rfl⟩ ?_
  refine gn_icmp_same C (tgt := 1768) dL_law_1476 (by decide) ?_
  exact kk c' m' R'
theorem lc_38 (C0 : LWC x w) (X : Scr x b L xs) (hi : i + 7 ≤ L) (R0 : RR c m) (kk : ∀ c' m', RR c' m' → LN x Q w a a2 b i 1768 c' m') : LN x Q w a a2 b i 1481 c m := by
  obtain ⟨C, hR⟩ := C0
  obtain ⟨v, vk, R⟩ := R0
  obtain ⟨r, c', m', e1, e2, R'⟩ := b_item (N := 1000) R (xs (i + 1)) (xs (i + 2)) (xs (i + 3))
  refine gn_aload_n C dL_law_1481 rfl 2 rfl ?_
  refine gn_arg C X (j := 1) (z := 1) rfl (by omega) dL_law_1482 dL_law_1483 dL_law_1484 dL_law_1485 dL_law_1486 ?_
  refine gn_arg C X (j := 2) (z := 2) rfl (by omega) dL_law_1487 dL_law_1488 dL_law_1489 dL_law_1490 dL_law_1491 ?_
  refine gn_arg C X (j := 3) (z := 3) rfl (by omega) dL_law_1492 dL_law_1493 dL_law_1494 dL_law_1495 dL_law_1496 ?_
  refine law_callI C (W1 := []) (W2 := wl (mkW w a2 Sm) m ++ []) (a := a) (S := Sc) (s := c) (s' := c') (r := r) (i := 0) (c := 8) (R := RX8) (T := TX8) (N := 11) [.int (xs (i + 1)), .int (xs (i + 2)), .int (xs (i + 3))] (c_X8_item (kl x) 1000 (mkW w a Sc) rfl (xs (i + 1)) (xs (i + 2)) (xs (i + 3)) e1) (law_cw C hR ml_L_178 im_X8_item sl_X8_item ini_X8 cd_X8_item hd_X8_item ⟨⟨Nat.le_of_ble_eq_true rfl, Nat.le_of_ble_eq_true rfl⟩, rfl, rfl⟩) kd_0 (by decide) rfl (by decide) rfl _ rfl (Nat.le_of_ble_eq_true rfl) dL_law_1497 ⟨by rw [hR]; exact Nat.le_of_ble_eq_true rfl, by rw [hR]; exact Nat.le_of_ble_eq_true rfl⟩ ?_
  refine gn_aload_n C dL_law_1500 rfl 1 rfl ?_
  refine gn_arg C X (j := 1) (z := 1) rfl (by omega) dL_law_1501 dL_law_1502 dL_law_1503 dL_law_1504 dL_law_1505 ?_
  refine gn_arg C X (j := 2) (z := 2) rfl (by omega) dL_law_1506 dL_law_1507 dL_law_1508 dL_law_1509 dL_law_1510 ?_
  refine gn_arg C X (j := 3) (z := 3) rfl (by omega) dL_law_1511 dL_law_1512 dL_law_1513 dL_law_1514 dL_law_1515 ?_
  refine law_callI C (W1 := wl (mkW w a Sc) c') (W2 := []) (a := a2) (S := Sm) (s := m) (s' := m') (r := r) (i := 61) (c := 9) (R := RX9) (T := TX9) (N := 48) [.int (xs (i + 1)), .int (xs (i + 2)), .int (xs (i + 3))] (c_X9_item (kl x) 1000 (mkW w a2 Sm) rfl (xs (i + 1)) (xs (i + 2)) (xs (i + 3)) e2) (law_cw C hR ml_L_181 im_X9_item sl_X9_item ini_X9 cd_X9_item hd_X9_item ⟨⟨Nat.le_of_ble_eq_true rfl, Nat.le_of_ble_eq_true rfl⟩, rfl, rfl⟩) kd_61 (by decide) rfl (by decide) rfl _ rfl (Nat.le_of_ble_eq_true rfl) dL_law_1516 ⟨by rw [hR]; exact Nat.le_of_ble_eq_true rfl, by rw [hR]; exact Nat.le_of_ble_eq_true rfl⟩ ?_
  refine gn_icmp_same C (tgt := 1768) dL_law_1519 (by decide) ?_
  exact kk c' m' R'
theorem lc_39 (C0 : LWC x w) (X : Scr x b L xs) (hi : i + 7 ≤ L) (R0 : RR c m) (kk : ∀ c' m', RR c' m' → LN x Q w a a2 b i 1768 c' m') : LN x Q w a a2 b i 1524 c m := by
  obtain ⟨C, hR⟩ := C0
  obtain ⟨v, vk, R⟩ := R0
  obtain ⟨r, c', m', e1, e2, R'⟩ := b_register R (Nat.le_refl 1000) (xs (i + 1)) (xs (i + 2)) (xs (i + 3)) (xs (i + 4))
  refine gn_aload_n C dL_law_1524 rfl 2 rfl ?_
  refine gn_arg C X (j := 1) (z := 1) rfl (by omega) dL_law_1525 dL_law_1526 dL_law_1527 dL_law_1528 dL_law_1529 ?_
  refine gn_arg C X (j := 2) (z := 2) rfl (by omega) dL_law_1530 dL_law_1531 dL_law_1532 dL_law_1533 dL_law_1534 ?_
  refine gn_arg C X (j := 3) (z := 3) rfl (by omega) dL_law_1535 dL_law_1536 dL_law_1537 dL_law_1538 dL_law_1539 ?_
  refine gn_arg C X (j := 4) (z := 4) rfl (by omega) dL_law_1540 dL_law_1541 dL_law_1542 dL_law_1543 dL_law_1544 ?_
  refine law_callI C (W1 := []) (W2 := wl (mkW w a2 Sm) m ++ []) (a := a) (S := Sc) (s := c) (s' := c') (r := r) (i := 0) (c := 8) (R := RX8) (T := TX8) (N := 11) [.int (xs (i + 1)), .int (xs (i + 2)), .int (xs (i + 3)), .int (xs (i + 4))] (c_X8_register (kl x) 1000 (mkW w a Sc) rfl (xs (i + 1)) (xs (i + 2)) (xs (i + 3)) (xs (i + 4)) e1) (law_cw C hR ml_L_182 im_X8_register sl_X8_register ini_X8 cd_X8_register hd_X8_register ⟨⟨Nat.le_of_ble_eq_true rfl, Nat.le_of_ble_eq_true rfl⟩, rfl, rfl⟩) kd_0 (by decide) rfl (by decide) rfl _ rfl (Nat.le_of_ble_eq_true rfl) dL_law_1545 ⟨by rw [hR]; exact Nat.le_of_ble_eq_true rfl, by rw [hR]; exact Nat.le_of_ble_eq_true rfl⟩ ?_
  refine gn_aload_n C dL_law_1548 rfl 1 rfl ?_
  refine gn_arg C X (j := 1) (z := 1) rfl (by omega) dL_law_1549 dL_law_1550 dL_law_1551 dL_law_1552 dL_law_1553 ?_
  refine gn_arg C X (j := 2) (z := 2) rfl (by omega) dL_law_1554 dL_law_1555 dL_law_1556 dL_law_1557 dL_law_1558 ?_
  refine gn_arg C X (j := 3) (z := 3) rfl (by omega) dL_law_1559 dL_law_1560 dL_law_1561 dL_law_1562 dL_law_1563 ?_
  refine gn_arg C X (j := 4) (z := 4) rfl (by omega) dL_law_1564 dL_law_1565 dL_law_1566 dL_law_1567 dL_law_1568 ?_
  refine law_callI C (W1 := wl (mkW w a Sc) c') (W2 := []) (a := a2) (S := Sm) (s := m) (s' := m') (r := r) (i := 61) (c := 9) (R := RX9) (T := TX9) (N := 48) [.int (xs (i + 1)), .int (xs (i + 2)), .int (xs (i + 3)), .int (xs (i + 4))] (c_X9_register (kl x) 1000 (mkW w a2 Sm) rfl (xs (i + 1)) (xs (i + 2)) (xs (i + 3)) (xs (i + 4)) e2) (law_cw C hR ml_L_185 im_X9_register sl_X9_register ini_X9 cd_X9_register hd_X9_register ⟨⟨Nat.le_of_ble_eq_true rfl, Nat.le_of_ble_eq_true rfl⟩, rfl, rfl⟩) kd_61 (by decide) rfl (by decide) rfl _ rfl (Nat.le_of_ble_eq_true rfl) dL_law_1569 ⟨by rw [hR]; exact Nat.le_of_ble_eq_true rfl, by rw [hR]; exact Nat.le_of_ble_eq_true rfl⟩ ?_
  refine gn_icmp_same C (tgt := 1768) dL_law_1572 (by decide) ?_
  exact kk c' m' R'
theorem lc_40 (C0 : LWC x w) (X : Scr x b L xs) (hi : i + 7 ≤ L) (R0 : RR c m) (kk : ∀ c' m', RR c' m' → LN x Q w a a2 b i 1768 c' m') : LN x Q w a a2 b i 1577 c m := by
  obtain ⟨C, hR⟩ := C0
  obtain ⟨v, vk, R⟩ := R0
  obtain ⟨r, c', m', e1, e2, R'⟩ := b_shelf (N := 1000) R (xs (i + 1)) (xs (i + 2)) (xs (i + 3))
  refine gn_aload_n C dL_law_1577 rfl 2 rfl ?_
  refine gn_arg C X (j := 1) (z := 1) rfl (by omega) dL_law_1578 dL_law_1579 dL_law_1580 dL_law_1581 dL_law_1582 ?_
  refine gn_arg C X (j := 2) (z := 2) rfl (by omega) dL_law_1583 dL_law_1584 dL_law_1585 dL_law_1586 dL_law_1587 ?_
  refine gn_arg C X (j := 3) (z := 3) rfl (by omega) dL_law_1588 dL_law_1589 dL_law_1590 dL_law_1591 dL_law_1592 ?_
  refine law_callI C (W1 := []) (W2 := wl (mkW w a2 Sm) m ++ []) (a := a) (S := Sc) (s := c) (s' := c') (r := r) (i := 0) (c := 8) (R := RX8) (T := TX8) (N := 11) [.int (xs (i + 1)), .int (xs (i + 2)), .int (xs (i + 3))] (c_X8_shelf (kl x) 1000 (mkW w a Sc) rfl (xs (i + 1)) (xs (i + 2)) (xs (i + 3)) e1) (law_cw C hR ml_L_186 im_X8_shelf sl_X8_shelf ini_X8 cd_X8_shelf hd_X8_shelf ⟨⟨Nat.le_of_ble_eq_true rfl, Nat.le_of_ble_eq_true rfl⟩, rfl, rfl⟩) kd_0 (by decide) rfl (by decide) rfl _ rfl (Nat.le_of_ble_eq_true rfl) dL_law_1593 ⟨by rw [hR]; exact Nat.le_of_ble_eq_true rfl, by rw [hR]; exact Nat.le_of_ble_eq_true rfl⟩ ?_
  refine gn_aload_n C dL_law_1596 rfl 1 rfl ?_
  refine gn_arg C X (j := 1) (z := 1) rfl (by omega) dL_law_1597 dL_law_1598 dL_law_1599 dL_law_1600 dL_law_1601 ?_
  refine gn_arg C X (j := 2) (z := 2) rfl (by omega) dL_law_1602 dL_law_1603 dL_law_1604 dL_law_1605 dL_law_1606 ?_
  refine gn_arg C X (j := 3) (z := 3) rfl (by omega) dL_law_1607 dL_law_1608 dL_law_1609 dL_law_1610 dL_law_1611 ?_
  refine law_callI C (W1 := wl (mkW w a Sc) c') (W2 := []) (a := a2) (S := Sm) (s := m) (s' := m') (r := r) (i := 61) (c := 9) (R := RX9) (T := TX9) (N := 48) [.int (xs (i + 1)), .int (xs (i + 2)), .int (xs (i + 3))] (c_X9_shelf (kl x) 1000 (mkW w a2 Sm) rfl (xs (i + 1)) (xs (i + 2)) (xs (i + 3)) e2) (law_cw C hR ml_L_189 im_X9_shelf sl_X9_shelf ini_X9 cd_X9_shelf hd_X9_shelf ⟨⟨Nat.le_of_ble_eq_true rfl, Nat.le_of_ble_eq_true rfl⟩, rfl, rfl⟩) kd_61 (by decide) rfl (by decide) rfl _ rfl (Nat.le_of_ble_eq_true rfl) dL_law_1612 ⟨by rw [hR]; exact Nat.le_of_ble_eq_true rfl, by rw [hR]; exact Nat.le_of_ble_eq_true rfl⟩ ?_
  refine gn_icmp_same C (tgt := 1768) dL_law_1615 (by decide) ?_
  exact kk c' m' R'
theorem lc_41 (C0 : LWC x w) (X : Scr x b L xs) (hi : i + 7 ≤ L) (R0 : RR c m) (kk : ∀ c' m', RR c' m' → LN x Q w a a2 b i 1768 c' m') : LN x Q w a a2 b i 1620 c m := by
  obtain ⟨C, hR⟩ := C0
  obtain ⟨v, vk, R⟩ := R0
  obtain ⟨r, c', m', e1, e2, R'⟩ := b_taken R (Nat.le_refl 1000) (xs (i + 1)) (xs (i + 2))
  refine gn_aload_n C dL_law_1620 rfl 2 rfl ?_
  refine gn_arg C X (j := 1) (z := 1) rfl (by omega) dL_law_1621 dL_law_1622 dL_law_1623 dL_law_1624 dL_law_1625 ?_
  refine gn_arg C X (j := 2) (z := 2) rfl (by omega) dL_law_1626 dL_law_1627 dL_law_1628 dL_law_1629 dL_law_1630 ?_
  refine law_callI C (W1 := []) (W2 := wl (mkW w a2 Sm) m ++ []) (a := a) (S := Sc) (s := c) (s' := c') (r := r) (i := 0) (c := 8) (R := RX8) (T := TX8) (N := 11) [.int (xs (i + 1)), .int (xs (i + 2))] (c_X8_taken (kl x) 1000 (mkW w a Sc) rfl (xs (i + 1)) (xs (i + 2)) e1) (law_cw C hR ml_L_190 im_X8_taken sl_X8_taken ini_X8 cd_X8_taken hd_X8_taken ⟨⟨Nat.le_of_ble_eq_true rfl, Nat.le_of_ble_eq_true rfl⟩, rfl, rfl⟩) kd_0 (by decide) rfl (by decide) rfl _ rfl (Nat.le_of_ble_eq_true rfl) dL_law_1631 ⟨by rw [hR]; exact Nat.le_of_ble_eq_true rfl, by rw [hR]; exact Nat.le_of_ble_eq_true rfl⟩ ?_
  refine gn_aload_n C dL_law_1634 rfl 1 rfl ?_
  refine gn_arg C X (j := 1) (z := 1) rfl (by omega) dL_law_1635 dL_law_1636 dL_law_1637 dL_law_1638 dL_law_1639 ?_
  refine gn_arg C X (j := 2) (z := 2) rfl (by omega) dL_law_1640 dL_law_1641 dL_law_1642 dL_law_1643 dL_law_1644 ?_
  refine law_callI C (W1 := wl (mkW w a Sc) c') (W2 := []) (a := a2) (S := Sm) (s := m) (s' := m') (r := r) (i := 61) (c := 9) (R := RX9) (T := TX9) (N := 48) [.int (xs (i + 1)), .int (xs (i + 2))] (c_X9_taken (kl x) 1000 (mkW w a2 Sm) rfl (xs (i + 1)) (xs (i + 2)) e2) (law_cw C hR ml_L_193 im_X9_taken sl_X9_taken ini_X9 cd_X9_taken hd_X9_taken ⟨⟨Nat.le_of_ble_eq_true rfl, Nat.le_of_ble_eq_true rfl⟩, rfl, rfl⟩) kd_61 (by decide) rfl (by decide) rfl _ rfl (Nat.le_of_ble_eq_true rfl) dL_law_1645 ⟨by rw [hR]; exact Nat.le_of_ble_eq_true rfl, by rw [hR]; exact Nat.le_of_ble_eq_true rfl⟩ ?_
  refine gn_icmp_same C (tgt := 1768) dL_law_1648 (by decide) ?_
  exact kk c' m' R'
theorem lc_42 (C0 : LWC x w) (X : Scr x b L xs) (hi : i + 7 ≤ L) (R0 : RR c m) (kk : ∀ c' m', RR c' m' → LN x Q w a a2 b i 1768 c' m') : LN x Q w a a2 b i 1653 c m := by
  obtain ⟨C, hR⟩ := C0
  obtain ⟨v, vk, R⟩ := R0
  obtain ⟨r, c', m', e1, e2, R'⟩ := b_act R (Nat.le_refl 1000) (xs (i + 1)) (xs (i + 2)) (xs (i + 3))
  refine gn_aload_n C dL_law_1653 rfl 2 rfl ?_
  refine gn_arg C X (j := 1) (z := 1) rfl (by omega) dL_law_1654 dL_law_1655 dL_law_1656 dL_law_1657 dL_law_1658 ?_
  refine gn_arg C X (j := 2) (z := 2) rfl (by omega) dL_law_1659 dL_law_1660 dL_law_1661 dL_law_1662 dL_law_1663 ?_
  refine gn_arg C X (j := 3) (z := 3) rfl (by omega) dL_law_1664 dL_law_1665 dL_law_1666 dL_law_1667 dL_law_1668 ?_
  refine law_callI C (W1 := []) (W2 := wl (mkW w a2 Sm) m ++ []) (a := a) (S := Sc) (s := c) (s' := c') (r := r) (i := 0) (c := 8) (R := RX8) (T := TX8) (N := 11) [.int (xs (i + 1)), .int (xs (i + 2)), .int (xs (i + 3))] (c_X8_act (kl x) 1000 (mkW w a Sc) rfl (xs (i + 1)) (xs (i + 2)) (xs (i + 3)) e1) (law_cw C hR ml_L_194 im_X8_act sl_X8_act ini_X8 cd_X8_act hd_X8_act ⟨⟨Nat.le_of_ble_eq_true rfl, Nat.le_of_ble_eq_true rfl⟩, rfl, rfl⟩) kd_0 (by decide) rfl (by decide) rfl _ rfl (Nat.le_of_ble_eq_true rfl) dL_law_1669 ⟨by rw [hR]; exact Nat.le_of_ble_eq_true rfl, by rw [hR]; exact Nat.le_of_ble_eq_true rfl⟩ ?_
  refine gn_aload_n C dL_law_1672 rfl 1 rfl ?_
  refine gn_arg C X (j := 1) (z := 1) rfl (by omega) dL_law_1673 dL_law_1674 dL_law_1675 dL_law_1676 dL_law_1677 ?_
  refine gn_arg C X (j := 2) (z := 2) rfl (by omega) dL_law_1678 dL_law_1679 dL_law_1680 dL_law_1681 dL_law_1682 ?_
  refine gn_arg C X (j := 3) (z := 3) rfl (by omega) dL_law_1683 dL_law_1684 dL_law_1685 dL_law_1686 dL_law_1687 ?_
  refine law_callI C (W1 := wl (mkW w a Sc) c') (W2 := []) (a := a2) (S := Sm) (s := m) (s' := m') (r := r) (i := 61) (c := 9) (R := RX9) (T := TX9) (N := 48) [.int (xs (i + 1)), .int (xs (i + 2)), .int (xs (i + 3))] (c_X9_act (kl x) 1000 (mkW w a2 Sm) rfl (xs (i + 1)) (xs (i + 2)) (xs (i + 3)) e2) (law_cw C hR ml_L_197 im_X9_act sl_X9_act ini_X9 cd_X9_act hd_X9_act ⟨⟨Nat.le_of_ble_eq_true rfl, Nat.le_of_ble_eq_true rfl⟩, rfl, rfl⟩) kd_61 (by decide) rfl (by decide) rfl _ rfl (Nat.le_of_ble_eq_true rfl) dL_law_1688 ⟨by rw [hR]; exact Nat.le_of_ble_eq_true rfl, by rw [hR]; exact Nat.le_of_ble_eq_true rfl⟩ ?_
  refine gn_icmp_same C (tgt := 1768) dL_law_1691 (by decide) ?_
  exact kk c' m' R'
theorem lc_43 (C0 : LWC x w) (X : Scr x b L xs) (hi : i + 7 ≤ L) (R0 : RR c m) (kk : ∀ c' m', RR c' m' → LN x Q w a a2 b i 1768 c' m') : LN x Q w a a2 b i 1696 c m := by
  obtain ⟨C, hR⟩ := C0
  obtain ⟨v, vk, R⟩ := R0
  obtain ⟨r, c', m', e1, e2, R'⟩ := b_trace (N := 1000) R (xs (i + 1))
  refine gn_aload_n C dL_law_1696 rfl 2 rfl ?_
  refine gn_arg C X (j := 1) (z := 1) rfl (by omega) dL_law_1697 dL_law_1698 dL_law_1699 dL_law_1700 dL_law_1701 ?_
  refine law_callI C (W1 := []) (W2 := wl (mkW w a2 Sm) m ++ []) (a := a) (S := Sc) (s := c) (s' := c') (r := r) (i := 0) (c := 8) (R := RX8) (T := TX8) (N := 11) [.int (xs (i + 1))] (c_X8_trace (kl x) 1000 (mkW w a Sc) rfl (xs (i + 1)) e1) (law_cw C hR ml_L_198 im_X8_trace sl_X8_trace ini_X8 cd_X8_trace hd_X8_trace ⟨⟨Nat.le_of_ble_eq_true rfl, Nat.le_of_ble_eq_true rfl⟩, rfl, rfl⟩) kd_0 (by decide) rfl (by decide) rfl _ rfl (Nat.le_of_ble_eq_true rfl) dL_law_1702 ⟨by rw [hR]; exact Nat.le_of_ble_eq_true rfl, by rw [hR]; exact Nat.le_of_ble_eq_true rfl⟩ ?_
  refine gn_aload_n C dL_law_1705 rfl 1 rfl ?_
  refine gn_arg C X (j := 1) (z := 1) rfl (by omega) dL_law_1706 dL_law_1707 dL_law_1708 dL_law_1709 dL_law_1710 ?_
  refine law_callI C (W1 := wl (mkW w a Sc) c') (W2 := []) (a := a2) (S := Sm) (s := m) (s' := m') (r := r) (i := 61) (c := 9) (R := RX9) (T := TX9) (N := 48) [.int (xs (i + 1))] (c_X9_trace (kl x) 1000 (mkW w a2 Sm) rfl (xs (i + 1)) e2) (law_cw C hR ml_L_201 im_X9_trace sl_X9_trace ini_X9 cd_X9_trace hd_X9_trace ⟨⟨Nat.le_of_ble_eq_true rfl, Nat.le_of_ble_eq_true rfl⟩, rfl, rfl⟩) kd_61 (by decide) rfl (by decide) rfl _ rfl (Nat.le_of_ble_eq_true rfl) dL_law_1711 ⟨by rw [hR]; exact Nat.le_of_ble_eq_true rfl, by rw [hR]; exact Nat.le_of_ble_eq_true rfl⟩ ?_
  refine gn_icmp_same C (tgt := 1768) dL_law_1714 (by decide) ?_
  exact kk c' m' R'
theorem lc_44 (C0 : LWC x w) (X : Scr x b L xs) (hi : i + 7 ≤ L) (R0 : RR c m) (kk : ∀ c' m', RR c' m' → LN x Q w a a2 b i 1768 c' m') : LN x Q w a a2 b i 1719 c m := by
  obtain ⟨C, hR⟩ := C0
  obtain ⟨v, vk, R⟩ := R0
  obtain ⟨r, c', m', e1, e2, R'⟩ := b_many R (Nat.le_refl 1000) (xs (i + 1))
  refine gn_aload_n C dL_law_1719 rfl 2 rfl ?_
  refine gn_arg C X (j := 1) (z := 1) rfl (by omega) dL_law_1720 dL_law_1721 dL_law_1722 dL_law_1723 dL_law_1724 ?_
  refine law_callI C (W1 := []) (W2 := wl (mkW w a2 Sm) m ++ []) (a := a) (S := Sc) (s := c) (s' := c') (r := r) (i := 0) (c := 8) (R := RX8) (T := TX8) (N := 11) [.int (xs (i + 1))] (c_X8_many (kl x) 1000 (mkW w a Sc) rfl (xs (i + 1)) e1) (law_cw C hR ml_L_202 im_X8_many sl_X8_many ini_X8 cd_X8_many hd_X8_many ⟨⟨Nat.le_of_ble_eq_true rfl, Nat.le_of_ble_eq_true rfl⟩, rfl, rfl⟩) kd_0 (by decide) rfl (by decide) rfl _ rfl (Nat.le_of_ble_eq_true rfl) dL_law_1725 ⟨by rw [hR]; exact Nat.le_of_ble_eq_true rfl, by rw [hR]; exact Nat.le_of_ble_eq_true rfl⟩ ?_
  refine gn_aload_n C dL_law_1728 rfl 1 rfl ?_
  refine gn_arg C X (j := 1) (z := 1) rfl (by omega) dL_law_1729 dL_law_1730 dL_law_1731 dL_law_1732 dL_law_1733 ?_
  refine law_callI C (W1 := wl (mkW w a Sc) c') (W2 := []) (a := a2) (S := Sm) (s := m) (s' := m') (r := r) (i := 61) (c := 9) (R := RX9) (T := TX9) (N := 48) [.int (xs (i + 1))] (c_X9_many (kl x) 1000 (mkW w a2 Sm) rfl (xs (i + 1)) e2) (law_cw C hR ml_L_205 im_X9_many sl_X9_many ini_X9 cd_X9_many hd_X9_many ⟨⟨Nat.le_of_ble_eq_true rfl, Nat.le_of_ble_eq_true rfl⟩, rfl, rfl⟩) kd_61 (by decide) rfl (by decide) rfl _ rfl (Nat.le_of_ble_eq_true rfl) dL_law_1734 ⟨by rw [hR]; exact Nat.le_of_ble_eq_true rfl, by rw [hR]; exact Nat.le_of_ble_eq_true rfl⟩ ?_
  refine gn_icmp_same C (tgt := 1768) dL_law_1737 (by decide) ?_
  exact kk c' m' R'
theorem lc_45 (C0 : LWC x w) (X : Scr x b L xs) (hi : i + 7 ≤ L) (R0 : RR c m) (kk : ∀ c' m', RR c' m' → LN x Q w a a2 b i 1768 c' m') : LN x Q w a a2 b i 1742 c m := by
  obtain ⟨C, hR⟩ := C0
  obtain ⟨v, vk, R⟩ := R0
  obtain ⟨r, c', m', e1, e2, R'⟩ := b_keep R (Nat.le_refl 1000)
  refine gn_aload_n C dL_law_1742 rfl 2 rfl ?_
  refine law_callI C (W1 := []) (W2 := wl (mkW w a2 Sm) m ++ []) (a := a) (S := Sc) (s := c) (s' := c') (r := r) (i := 0) (c := 8) (R := RX8) (T := TX8) (N := 11) [] (c_X8_keep (kl x) 1000 (mkW w a Sc) rfl e1) (law_cw C hR ml_L_206 im_X8_keep sl_X8_keep ini_X8 cd_X8_keep hd_X8_keep ⟨⟨Nat.le_of_ble_eq_true rfl, Nat.le_of_ble_eq_true rfl⟩, rfl, rfl⟩) kd_0 (by decide) rfl (by decide) rfl _ rfl (Nat.le_of_ble_eq_true rfl) dL_law_1743 ⟨by rw [hR]; exact Nat.le_of_ble_eq_true rfl, by rw [hR]; exact Nat.le_of_ble_eq_true rfl⟩ ?_
  refine gn_aload_n C dL_law_1746 rfl 1 rfl ?_
  refine law_callI C (W1 := wl (mkW w a Sc) c') (W2 := []) (a := a2) (S := Sm) (s := m) (s' := m') (r := r) (i := 61) (c := 9) (R := RX9) (T := TX9) (N := 48) [] (c_X9_keep (kl x) 1000 (mkW w a2 Sm) rfl e2) (law_cw C hR ml_L_209 im_X9_keep sl_X9_keep ini_X9 cd_X9_keep hd_X9_keep ⟨⟨Nat.le_of_ble_eq_true rfl, Nat.le_of_ble_eq_true rfl⟩, rfl, rfl⟩) kd_61 (by decide) rfl (by decide) rfl _ rfl (Nat.le_of_ble_eq_true rfl) dL_law_1747 ⟨by rw [hR]; exact Nat.le_of_ble_eq_true rfl, by rw [hR]; exact Nat.le_of_ble_eq_true rfl⟩ ?_
  refine gn_icmp_same C (tgt := 1768) dL_law_1750 (by decide) ?_
  exact kk c' m' R'
theorem lc_46 (C0 : LWC x w) (X : Scr x b L xs) (hi : i + 7 ≤ L) (R0 : RR c m) (kk : ∀ c' m', RR c' m' → LN x Q w a a2 b i 1768 c' m') : LN x Q w a a2 b i 1755 c m := by
  obtain ⟨C, hR⟩ := C0
  obtain ⟨v, vk, R⟩ := R0
  obtain ⟨r, c', m', e1, e2, R'⟩ := b_again R (Nat.le_refl 1000)
  refine gn_aload_n C dL_law_1755 rfl 2 rfl ?_
  refine law_callI C (W1 := []) (W2 := wl (mkW w a2 Sm) m ++ []) (a := a) (S := Sc) (s := c) (s' := c') (r := r) (i := 0) (c := 8) (R := RX8) (T := TX8) (N := 11) [] (c_X8_again (kl x) 1000 (mkW w a Sc) rfl e1) (law_cw C hR ml_L_210 im_X8_again sl_X8_again ini_X8 cd_X8_again hd_X8_again ⟨⟨Nat.le_of_ble_eq_true rfl, Nat.le_of_ble_eq_true rfl⟩, rfl, rfl⟩) kd_0 (by decide) rfl (by decide) rfl _ rfl (Nat.le_of_ble_eq_true rfl) dL_law_1756 ⟨by rw [hR]; exact Nat.le_of_ble_eq_true rfl, by rw [hR]; exact Nat.le_of_ble_eq_true rfl⟩ ?_
  refine gn_aload_n C dL_law_1759 rfl 1 rfl ?_
  refine law_callI C (W1 := wl (mkW w a Sc) c') (W2 := []) (a := a2) (S := Sm) (s := m) (s' := m') (r := r) (i := 61) (c := 9) (R := RX9) (T := TX9) (N := 48) [] (c_X9_again (kl x) 1000 (mkW w a2 Sm) rfl e2) (law_cw C hR ml_L_213 im_X9_again sl_X9_again ini_X9 cd_X9_again hd_X9_again ⟨⟨Nat.le_of_ble_eq_true rfl, Nat.le_of_ble_eq_true rfl⟩, rfl, rfl⟩) kd_61 (by decide) rfl (by decide) rfl _ rfl (Nat.le_of_ble_eq_true rfl) dL_law_1760 ⟨by rw [hR]; exact Nat.le_of_ble_eq_true rfl, by rw [hR]; exact Nat.le_of_ble_eq_true rfl⟩ ?_
  refine gn_icmp_same C (tgt := 1768) dL_law_1763 (by decide) ?_
  exact kk c' m' R'
end LAWCASES
