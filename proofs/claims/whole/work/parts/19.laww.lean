set_option maxRecDepth 100000 in
set_option maxHeartbeats 8000000 in
theorem w_law {X : Xc} (C : Cx X RL code ret) (hX : xK X = kL) (hN : xn X = 4) (hR : xR X = room_1) (hg1 : (xG X).2.2.2.2.1 = []) (hg2 : (xG X).2.2.2.2.2.1 = []) {Ln : Nat} {xs : Nat → Int32} (hs : Scr X Ln xs) (hLn : R32 (Ln : Int)) {sb : Nat} (hxa : xa X = #[Value.ref sb]) (hq : xQ X = lw_Z (xb X) (xa X) (X.2.2.2.2.1)) : ∀ (n : Nat) (i : Int) (MP MR : Mem), Im X n (11264 * n) 18 [(0, aR 9999), (1, aR 0), (2, aR 1000), (3, aI i)] [] (mix MP MR) () (lawLp xs Ln n i MP MR) := by
  have hl3 : 3 < xn X := by rw [hN]; decide
  have hRm : ∀ {rm : Room} {ny : Nat}, RmOk room_1 rm ny → RmOk (xR X) rm ny := fun h => by rw [hR]; exact h
  intro n
  induction n with
  | zero => intro _ _ _; exact i_none
  | succ n ih =>
    intro i MP MR
    unfold lawLp
    refine i_iload_n C dL_law_18 rfl (q := 3) rfl ?_
    refine i_aload_n C dL_law_19 rfl (q := 0) rfl ?_
    refine i_scrl C hs hLn dL_law_20 ?_
    refine i_bipush C dL_law_21 kB_6 ?_
    refine i_isub C dL_law_23 ?_
    refine i_icmp_gt (tgt := 2240) C dL_law_24 (by decide) ?_ ?_
    · refine i_iconst C dL_law_2240 kI_1 ?_
      exact i_lawret C hR hxa hs.2.2 hq dL_law_2241
    refine i_aload_n C dL_law_27 rfl (q := 0) rfl ?_
    refine i_iload_n C dL_law_28 rfl (q := 3) rfl ?_
    refine i_scr C hs dL_law_29 (fun v0 => ?_)
    refine i_bipush C dL_law_30 kB_63 ?_
    refine i_iand C dL_law_32 ?_
    refine i_jn (fun j => ∀ (MP MR : Mem), Im X n (11264 * n) 2234 [(0, aR 9999), (1, aR 0), (2, aR 1000), (3, aI i)] [] (mix MP MR) () (j MP MR)) ?_ (fun j hj => ?_)
    · intro MP MR
      refine i_iincN (L' := fun i2 => [(0, aR 9999), (1, aR 0), (2, aR 1000), (3, aI i2)]) C dL_law_2234 (q := 3) rfl hl3 (fun _ => rfl) (fun i2 => ?_)
      refine i_goto (tgt := 18) C dL_law_2237 (by decide) ?_
      exact ih i2 MP MR
    refine i_split (fun e0 => ?_) (fun e0 => ?_)
    · refine i_tswIn (tgt := 280) C dL_law_33 e0 (by decide) (by decide) rfl (by decide) ?_
      refine i_aload_n C dL_law_280 rfl (q := 1) rfl ?_
      refine i_aload_n C dL_law_281 rfl (q := 0) rfl ?_
      refine i_iload_n C dL_law_282 rfl (q := 3) rfl ?_
      refine i_iconst C dL_law_283 kI_1 ?_
      refine i_iadd C dL_law_284 ?_
      refine i_scr C hs dL_law_285 (fun a1 => ?_)
      refine i_cG (kc' := n) (ks' := 11264 * n) (fun m => mix m MR) 0 0 2 (fun q hq hM hS => crLP C hX hg1 hg2 (as := [aI a1]) dL_law_286.1 ml_L_13 cal_X11_cell cv_X11_cell (hRm ⟨Nat.le_of_ble_eq_true rfl, Nat.le_of_ble_eq_true rfl⟩) rfl (Nat.le_of_ble_eq_true rfl) (okM_R hM) (fun ba => c_X11_cell (xl X) (gP (xG X) ba MR) rfl (okM_P hM) ⟨trivial, hS.1, trivial⟩ hq)) (by omega) (by omega) rfl rfl rfl (fun v MP1 => ?_)
      refine i_aload_n C dL_law_289 rfl (q := 2) rfl ?_
      refine i_aload_n C dL_law_290 rfl (q := 0) rfl ?_
      refine i_iload_n C dL_law_291 rfl (q := 3) rfl ?_
      refine i_iconst C dL_law_292 kI_1 ?_
      refine i_iadd C dL_law_293 ?_
      refine i_scr C hs dL_law_294 (fun b1 => ?_)
      refine i_cG (kc' := n) (ks' := 11264 * n) (fun m => mix MP1 m) 0 0 2 (fun q hq hM hS => crLR C hX hg1 hg2 (as := [aI b1]) rfl dL_law_295.1 ml_L_17 cal_X12_cell cv_X12_cell (hRm ⟨Nat.le_of_ble_eq_true rfl, Nat.le_of_ble_eq_true rfl⟩) rfl (Nat.le_of_ble_eq_true rfl) (okM_P hM) rfl (fun ba => c_X12_cell (xl X) (gR (xG X) ba MP1) rfl (okM_R hM) ⟨trivial, hS.1, trivial⟩ hq)) (by omega) (by omega) rfl rfl rfl (fun w MR1 => ?_)
      refine i_icmp_eq (tgt := 2234) C dL_law_298 (by decide) ?_ ?_
      · exact hj MP1 MR1
      · exact i_none
    refine i_split (fun e1 => ?_) (fun e1 => ?_)
    · refine i_tswIn (tgt := 303) C dL_law_33 e1 (by decide) (by decide) rfl (by decide) ?_
      refine i_aload_n C dL_law_303 rfl (q := 1) rfl ?_
      refine i_aload_n C dL_law_304 rfl (q := 0) rfl ?_
      refine i_iload_n C dL_law_305 rfl (q := 3) rfl ?_
      refine i_iconst C dL_law_306 kI_1 ?_
      refine i_iadd C dL_law_307 ?_
      refine i_scr C hs dL_law_308 (fun a1 => ?_)
      refine i_aload_n C dL_law_309 rfl (q := 0) rfl ?_
      refine i_iload_n C dL_law_310 rfl (q := 3) rfl ?_
      refine i_iconst C dL_law_311 kI_2 ?_
      refine i_iadd C dL_law_312 ?_
      refine i_scr C hs dL_law_313 (fun a2 => ?_)
      refine i_aload_n C dL_law_314 rfl (q := 0) rfl ?_
      refine i_iload_n C dL_law_315 rfl (q := 3) rfl ?_
      refine i_iconst C dL_law_316 kI_3 ?_
      refine i_iadd C dL_law_317 ?_
      refine i_scr C hs dL_law_318 (fun a3 => ?_)
      refine i_cG (kc' := n) (ks' := 11264 * n) (fun m => mix m MR) 0 0 4 (fun q hq hM hS => crLP C hX hg1 hg2 (as := [aI a1, aI a2, aI a3]) dL_law_319.1 ml_L_18 cal_X11_water cv_X11_water (hRm ⟨Nat.le_of_ble_eq_true rfl, Nat.le_of_ble_eq_true rfl⟩) rfl (Nat.le_of_ble_eq_true rfl) (okM_R hM) (fun ba => c_X11_water (xl X) (gP (xG X) ba MR) rfl (okM_P hM) ⟨trivial, hS.2.2.1, hS.2.1, hS.1, trivial⟩ hq)) (by omega) (by omega) rfl rfl rfl (fun v MP1 => ?_)
      refine i_aload_n C dL_law_322 rfl (q := 2) rfl ?_
      refine i_aload_n C dL_law_323 rfl (q := 0) rfl ?_
      refine i_iload_n C dL_law_324 rfl (q := 3) rfl ?_
      refine i_iconst C dL_law_325 kI_1 ?_
      refine i_iadd C dL_law_326 ?_
      refine i_scr C hs dL_law_327 (fun b1 => ?_)
      refine i_aload_n C dL_law_328 rfl (q := 0) rfl ?_
      refine i_iload_n C dL_law_329 rfl (q := 3) rfl ?_
      refine i_iconst C dL_law_330 kI_2 ?_
      refine i_iadd C dL_law_331 ?_
      refine i_scr C hs dL_law_332 (fun b2 => ?_)
      refine i_aload_n C dL_law_333 rfl (q := 0) rfl ?_
      refine i_iload_n C dL_law_334 rfl (q := 3) rfl ?_
      refine i_iconst C dL_law_335 kI_3 ?_
      refine i_iadd C dL_law_336 ?_
      refine i_scr C hs dL_law_337 (fun b3 => ?_)
      refine i_cG (kc' := n) (ks' := 11264 * n) (fun m => mix MP1 m) 0 0 4 (fun q hq hM hS => crLR C hX hg1 hg2 (as := [aI b1, aI b2, aI b3]) rfl dL_law_338.1 ml_L_22 cal_X12_water cv_X12_water (hRm ⟨Nat.le_of_ble_eq_true rfl, Nat.le_of_ble_eq_true rfl⟩) rfl (Nat.le_of_ble_eq_true rfl) (okM_P hM) rfl (fun ba => c_X12_water (xl X) (gR (xG X) ba MP1) rfl (okM_R hM) ⟨trivial, hS.2.2.1, hS.2.1, hS.1, trivial⟩ hq)) (by omega) (by omega) rfl rfl rfl (fun w MR1 => ?_)
      refine i_icmp_eq (tgt := 2234) C dL_law_341 (by decide) ?_ ?_
      · exact hj MP1 MR1
      · exact i_none
    refine i_split (fun e2 => ?_) (fun e2 => ?_)
    · refine i_tswIn (tgt := 346) C dL_law_33 e2 (by decide) (by decide) rfl (by decide) ?_
      refine i_aload_n C dL_law_346 rfl (q := 1) rfl ?_
      refine i_aload_n C dL_law_347 rfl (q := 0) rfl ?_
      refine i_iload_n C dL_law_348 rfl (q := 3) rfl ?_
      refine i_iconst C dL_law_349 kI_1 ?_
      refine i_iadd C dL_law_350 ?_
      refine i_scr C hs dL_law_351 (fun a1 => ?_)
      refine i_aload_n C dL_law_352 rfl (q := 0) rfl ?_
      refine i_iload_n C dL_law_353 rfl (q := 3) rfl ?_
      refine i_iconst C dL_law_354 kI_2 ?_
      refine i_iadd C dL_law_355 ?_
      refine i_scr C hs dL_law_356 (fun a2 => ?_)
      refine i_aload_n C dL_law_357 rfl (q := 0) rfl ?_
      refine i_iload_n C dL_law_358 rfl (q := 3) rfl ?_
      refine i_iconst C dL_law_359 kI_3 ?_
      refine i_iadd C dL_law_360 ?_
      refine i_scr C hs dL_law_361 (fun a3 => ?_)
      refine i_cG (kc' := n) (ks' := 11264 * n) (fun m => mix m MR) 0 0 4 (fun q hq hM hS => crLP C hX hg1 hg2 (as := [aI a1, aI a2, aI a3]) dL_law_362.1 ml_L_23 cal_X11_person cv_X11_person (hRm ⟨Nat.le_of_ble_eq_true rfl, Nat.le_of_ble_eq_true rfl⟩) rfl (Nat.le_of_ble_eq_true rfl) (okM_R hM) (fun ba => c_X11_person (xl X) (gP (xG X) ba MR) rfl (okM_P hM) ⟨trivial, hS.2.2.1, hS.2.1, hS.1, trivial⟩ hq)) (by omega) (by omega) rfl rfl rfl (fun v MP1 => ?_)
      refine i_aload_n C dL_law_365 rfl (q := 2) rfl ?_
      refine i_aload_n C dL_law_366 rfl (q := 0) rfl ?_
      refine i_iload_n C dL_law_367 rfl (q := 3) rfl ?_
      refine i_iconst C dL_law_368 kI_1 ?_
      refine i_iadd C dL_law_369 ?_
      refine i_scr C hs dL_law_370 (fun b1 => ?_)
      refine i_aload_n C dL_law_371 rfl (q := 0) rfl ?_
      refine i_iload_n C dL_law_372 rfl (q := 3) rfl ?_
      refine i_iconst C dL_law_373 kI_2 ?_
      refine i_iadd C dL_law_374 ?_
      refine i_scr C hs dL_law_375 (fun b2 => ?_)
      refine i_aload_n C dL_law_376 rfl (q := 0) rfl ?_
      refine i_iload_n C dL_law_377 rfl (q := 3) rfl ?_
      refine i_iconst C dL_law_378 kI_3 ?_
      refine i_iadd C dL_law_379 ?_
      refine i_scr C hs dL_law_380 (fun b3 => ?_)
      refine i_cG (kc' := n) (ks' := 11264 * n) (fun m => mix MP1 m) 0 0 4 (fun q hq hM hS => crLR C hX hg1 hg2 (as := [aI b1, aI b2, aI b3]) rfl dL_law_381.1 ml_L_26 cal_X12_person cv_X12_person (hRm ⟨Nat.le_of_ble_eq_true rfl, Nat.le_of_ble_eq_true rfl⟩) rfl (Nat.le_of_ble_eq_true rfl) (okM_P hM) rfl (fun ba => c_X12_person (xl X) (gR (xG X) ba MP1) rfl (okM_R hM) ⟨trivial, hS.2.2.1, hS.2.1, hS.1, trivial⟩ hq)) (by omega) (by omega) rfl rfl rfl (fun w MR1 => ?_)
      refine i_icmp_eq (tgt := 2234) C dL_law_384 (by decide) ?_ ?_
      · exact hj MP1 MR1
      · exact i_none
    refine i_split (fun e3 => ?_) (fun e3 => ?_)
    · refine i_tswIn (tgt := 389) C dL_law_33 e3 (by decide) (by decide) rfl (by decide) ?_
      refine i_aload_n C dL_law_389 rfl (q := 1) rfl ?_
      refine i_aload_n C dL_law_390 rfl (q := 0) rfl ?_
      refine i_iload_n C dL_law_391 rfl (q := 3) rfl ?_
      refine i_iconst C dL_law_392 kI_1 ?_
      refine i_iadd C dL_law_393 ?_
      refine i_scr C hs dL_law_394 (fun a1 => ?_)
      refine i_aload_n C dL_law_395 rfl (q := 0) rfl ?_
      refine i_iload_n C dL_law_396 rfl (q := 3) rfl ?_
      refine i_iconst C dL_law_397 kI_2 ?_
      refine i_iadd C dL_law_398 ?_
      refine i_scr C hs dL_law_399 (fun a2 => ?_)
      refine i_cG (kc' := n) (ks' := 11264 * n) (fun m => mix m MR) 0 0 3 (fun q hq hM hS => crLP C hX hg1 hg2 (as := [aI a1, aI a2]) dL_law_400.1 ml_L_27 cal_X11_is cv_X11_is (hRm ⟨Nat.le_of_ble_eq_true rfl, Nat.le_of_ble_eq_true rfl⟩) rfl (Nat.le_of_ble_eq_true rfl) (okM_R hM) (fun ba => c_X11_is (xl X) (gP (xG X) ba MR) rfl (okM_P hM) ⟨trivial, hS.2.1, hS.1, trivial⟩ hq)) (by omega) (by omega) rfl rfl rfl (fun v MP1 => ?_)
      refine i_aload_n C dL_law_403 rfl (q := 2) rfl ?_
      refine i_aload_n C dL_law_404 rfl (q := 0) rfl ?_
      refine i_iload_n C dL_law_405 rfl (q := 3) rfl ?_
      refine i_iconst C dL_law_406 kI_1 ?_
      refine i_iadd C dL_law_407 ?_
      refine i_scr C hs dL_law_408 (fun b1 => ?_)
      refine i_aload_n C dL_law_409 rfl (q := 0) rfl ?_
      refine i_iload_n C dL_law_410 rfl (q := 3) rfl ?_
      refine i_iconst C dL_law_411 kI_2 ?_
      refine i_iadd C dL_law_412 ?_
      refine i_scr C hs dL_law_413 (fun b2 => ?_)
      refine i_cG (kc' := n) (ks' := 11264 * n) (fun m => mix MP1 m) 0 0 3 (fun q hq hM hS => crLR C hX hg1 hg2 (as := [aI b1, aI b2]) rfl dL_law_414.1 ml_L_31 cal_X12_is cv_X12_is (hRm ⟨Nat.le_of_ble_eq_true rfl, Nat.le_of_ble_eq_true rfl⟩) rfl (Nat.le_of_ble_eq_true rfl) (okM_P hM) rfl (fun ba => c_X12_is (xl X) (gR (xG X) ba MP1) rfl (okM_R hM) ⟨trivial, hS.2.1, hS.1, trivial⟩ hq)) (by omega) (by omega) rfl rfl rfl (fun w MR1 => ?_)
      refine i_icmp_eq (tgt := 2234) C dL_law_417 (by decide) ?_ ?_
      · exact hj MP1 MR1
      · exact i_none
    refine i_split (fun e4 => ?_) (fun e4 => ?_)
    · refine i_tswIn (tgt := 422) C dL_law_33 e4 (by decide) (by decide) rfl (by decide) ?_
      refine i_aload_n C dL_law_422 rfl (q := 1) rfl ?_
      refine i_aload_n C dL_law_423 rfl (q := 0) rfl ?_
      refine i_iload_n C dL_law_424 rfl (q := 3) rfl ?_
      refine i_iconst C dL_law_425 kI_1 ?_
      refine i_iadd C dL_law_426 ?_
      refine i_scr C hs dL_law_427 (fun a1 => ?_)
      refine i_aload_n C dL_law_428 rfl (q := 0) rfl ?_
      refine i_iload_n C dL_law_429 rfl (q := 3) rfl ?_
      refine i_iconst C dL_law_430 kI_2 ?_
      refine i_iadd C dL_law_431 ?_
      refine i_scr C hs dL_law_432 (fun a2 => ?_)
      refine i_aload_n C dL_law_433 rfl (q := 0) rfl ?_
      refine i_iload_n C dL_law_434 rfl (q := 3) rfl ?_
      refine i_iconst C dL_law_435 kI_3 ?_
      refine i_iadd C dL_law_436 ?_
      refine i_scr C hs dL_law_437 (fun a3 => ?_)
      refine i_cG (kc' := n) (ks' := 11264 * n) (fun m => mix m MR) 0 0 4 (fun q hq hM hS => crLP C hX hg1 hg2 (as := [aI a1, aI a2, aI a3]) dL_law_438.1 ml_L_32 cal_X11_be cv_X11_be (hRm ⟨Nat.le_of_ble_eq_true rfl, Nat.le_of_ble_eq_true rfl⟩) rfl (Nat.le_of_ble_eq_true rfl) (okM_R hM) (fun ba => c_X11_be (xl X) (gP (xG X) ba MR) rfl (okM_P hM) ⟨trivial, hS.2.2.1, hS.2.1, hS.1, trivial⟩ hq)) (by omega) (by omega) rfl rfl rfl (fun v MP1 => ?_)
      refine i_aload_n C dL_law_441 rfl (q := 2) rfl ?_
      refine i_aload_n C dL_law_442 rfl (q := 0) rfl ?_
      refine i_iload_n C dL_law_443 rfl (q := 3) rfl ?_
      refine i_iconst C dL_law_444 kI_1 ?_
      refine i_iadd C dL_law_445 ?_
      refine i_scr C hs dL_law_446 (fun b1 => ?_)
      refine i_aload_n C dL_law_447 rfl (q := 0) rfl ?_
      refine i_iload_n C dL_law_448 rfl (q := 3) rfl ?_
      refine i_iconst C dL_law_449 kI_2 ?_
      refine i_iadd C dL_law_450 ?_
      refine i_scr C hs dL_law_451 (fun b2 => ?_)
      refine i_aload_n C dL_law_452 rfl (q := 0) rfl ?_
      refine i_iload_n C dL_law_453 rfl (q := 3) rfl ?_
      refine i_iconst C dL_law_454 kI_3 ?_
      refine i_iadd C dL_law_455 ?_
      refine i_scr C hs dL_law_456 (fun b3 => ?_)
      refine i_cG (kc' := n) (ks' := 11264 * n) (fun m => mix MP1 m) 0 0 4 (fun q hq hM hS => crLR C hX hg1 hg2 (as := [aI b1, aI b2, aI b3]) rfl dL_law_457.1 ml_L_35 cal_X12_be cv_X12_be (hRm ⟨Nat.le_of_ble_eq_true rfl, Nat.le_of_ble_eq_true rfl⟩) rfl (Nat.le_of_ble_eq_true rfl) (okM_P hM) rfl (fun ba => c_X12_be (xl X) (gR (xG X) ba MP1) rfl (okM_R hM) ⟨trivial, hS.2.2.1, hS.2.1, hS.1, trivial⟩ hq)) (by omega) (by omega) rfl rfl rfl (fun w MR1 => ?_)
      refine i_icmp_eq (tgt := 2234) C dL_law_460 (by decide) ?_ ?_
      · exact hj MP1 MR1
      · exact i_none
    refine i_split (fun e5 => ?_) (fun e5 => ?_)
    · refine i_tswIn (tgt := 465) C dL_law_33 e5 (by decide) (by decide) rfl (by decide) ?_
      refine i_aload_n C dL_law_465 rfl (q := 1) rfl ?_
      refine i_aload_n C dL_law_466 rfl (q := 0) rfl ?_
      refine i_iload_n C dL_law_467 rfl (q := 3) rfl ?_
      refine i_iconst C dL_law_468 kI_1 ?_
      refine i_iadd C dL_law_469 ?_
      refine i_scr C hs dL_law_470 (fun a1 => ?_)
      refine i_cG (kc' := n) (ks' := 11264 * n) (fun m => mix m MR) 0 0 2 (fun q hq hM hS => crLP C hX hg1 hg2 (as := [aI a1]) dL_law_471.1 ml_L_36 cal_X11_die cv_X11_die (hRm ⟨Nat.le_of_ble_eq_true rfl, Nat.le_of_ble_eq_true rfl⟩) rfl (Nat.le_of_ble_eq_true rfl) (okM_R hM) (fun ba => c_X11_die (xl X) (gP (xG X) ba MR) rfl (okM_P hM) ⟨trivial, hS.1, trivial⟩ hq)) (by omega) (by omega) rfl rfl rfl (fun v MP1 => ?_)
      refine i_aload_n C dL_law_474 rfl (q := 2) rfl ?_
      refine i_aload_n C dL_law_475 rfl (q := 0) rfl ?_
      refine i_iload_n C dL_law_476 rfl (q := 3) rfl ?_
      refine i_iconst C dL_law_477 kI_1 ?_
      refine i_iadd C dL_law_478 ?_
      refine i_scr C hs dL_law_479 (fun b1 => ?_)
      refine i_cG (kc' := n) (ks' := 11264 * n) (fun m => mix MP1 m) 0 0 2 (fun q hq hM hS => crLR C hX hg1 hg2 (as := [aI b1]) rfl dL_law_480.1 ml_L_39 cal_X12_die cv_X12_die (hRm ⟨Nat.le_of_ble_eq_true rfl, Nat.le_of_ble_eq_true rfl⟩) rfl (Nat.le_of_ble_eq_true rfl) (okM_P hM) rfl (fun ba => c_X12_die (xl X) (gR (xG X) ba MP1) rfl (okM_R hM) ⟨trivial, hS.1, trivial⟩ hq)) (by omega) (by omega) rfl rfl rfl (fun w MR1 => ?_)
      refine i_icmp_eq (tgt := 2234) C dL_law_483 (by decide) ?_ ?_
      · exact hj MP1 MR1
      · exact i_none
    refine i_split (fun e6 => ?_) (fun e6 => ?_)
    · refine i_tswIn (tgt := 488) C dL_law_33 e6 (by decide) (by decide) rfl (by decide) ?_
      refine i_aload_n C dL_law_488 rfl (q := 1) rfl ?_
      refine i_aload_n C dL_law_489 rfl (q := 0) rfl ?_
      refine i_iload_n C dL_law_490 rfl (q := 3) rfl ?_
      refine i_iconst C dL_law_491 kI_1 ?_
      refine i_iadd C dL_law_492 ?_
      refine i_scr C hs dL_law_493 (fun a1 => ?_)
      refine i_aload_n C dL_law_494 rfl (q := 0) rfl ?_
      refine i_iload_n C dL_law_495 rfl (q := 3) rfl ?_
      refine i_iconst C dL_law_496 kI_2 ?_
      refine i_iadd C dL_law_497 ?_
      refine i_scr C hs dL_law_498 (fun a2 => ?_)
      refine i_aload_n C dL_law_499 rfl (q := 0) rfl ?_
      refine i_iload_n C dL_law_500 rfl (q := 3) rfl ?_
      refine i_iconst C dL_law_501 kI_3 ?_
      refine i_iadd C dL_law_502 ?_
      refine i_scr C hs dL_law_503 (fun a3 => ?_)
      refine i_aload_n C dL_law_504 rfl (q := 0) rfl ?_
      refine i_iload_n C dL_law_505 rfl (q := 3) rfl ?_
      refine i_iconst C dL_law_506 kI_4 ?_
      refine i_iadd C dL_law_507 ?_
      refine i_scr C hs dL_law_508 (fun a4 => ?_)
      refine i_cG (kc' := n) (ks' := 11264 * n) (fun m => mix m MR) 0 0 5 (fun q hq hM hS => crLP C hX hg1 hg2 (as := [aI a1, aI a2, aI a3, aI a4]) dL_law_509.1 ml_L_40 cal_X11_tie cv_X11_tie (hRm ⟨Nat.le_of_ble_eq_true rfl, Nat.le_of_ble_eq_true rfl⟩) rfl (Nat.le_of_ble_eq_true rfl) (okM_R hM) (fun ba => c_X11_tie (xl X) (gP (xG X) ba MR) rfl (okM_P hM) ⟨trivial, hS.2.2.2.1, hS.2.2.1, hS.2.1, hS.1, trivial⟩ hq)) (by omega) (by omega) rfl rfl rfl (fun v MP1 => ?_)
      refine i_aload_n C dL_law_512 rfl (q := 2) rfl ?_
      refine i_aload_n C dL_law_513 rfl (q := 0) rfl ?_
      refine i_iload_n C dL_law_514 rfl (q := 3) rfl ?_
      refine i_iconst C dL_law_515 kI_1 ?_
      refine i_iadd C dL_law_516 ?_
      refine i_scr C hs dL_law_517 (fun b1 => ?_)
      refine i_aload_n C dL_law_518 rfl (q := 0) rfl ?_
      refine i_iload_n C dL_law_519 rfl (q := 3) rfl ?_
      refine i_iconst C dL_law_520 kI_2 ?_
      refine i_iadd C dL_law_521 ?_
      refine i_scr C hs dL_law_522 (fun b2 => ?_)
      refine i_aload_n C dL_law_523 rfl (q := 0) rfl ?_
      refine i_iload_n C dL_law_524 rfl (q := 3) rfl ?_
      refine i_iconst C dL_law_525 kI_3 ?_
      refine i_iadd C dL_law_526 ?_
      refine i_scr C hs dL_law_527 (fun b3 => ?_)
      refine i_aload_n C dL_law_528 rfl (q := 0) rfl ?_
      refine i_iload_n C dL_law_529 rfl (q := 3) rfl ?_
      refine i_iconst C dL_law_530 kI_4 ?_
      refine i_iadd C dL_law_531 ?_
      refine i_scr C hs dL_law_532 (fun b4 => ?_)
      refine i_cG (kc' := n) (ks' := 11264 * n) (fun m => mix MP1 m) 0 0 5 (fun q hq hM hS => crLR C hX hg1 hg2 (as := [aI b1, aI b2, aI b3, aI b4]) rfl dL_law_533.1 ml_L_44 cal_X12_tie cv_X12_tie (hRm ⟨Nat.le_of_ble_eq_true rfl, Nat.le_of_ble_eq_true rfl⟩) rfl (Nat.le_of_ble_eq_true rfl) (okM_P hM) rfl (fun ba => c_X12_tie (xl X) (gR (xG X) ba MP1) rfl (okM_R hM) ⟨trivial, hS.2.2.2.1, hS.2.2.1, hS.2.1, hS.1, trivial⟩ hq)) (by omega) (by omega) rfl rfl rfl (fun w MR1 => ?_)
      refine i_icmp_eq (tgt := 2234) C dL_law_536 (by decide) ?_ ?_
      · exact hj MP1 MR1
      · exact i_none
    refine i_split (fun e7 => ?_) (fun e7 => ?_)
    · refine i_tswIn (tgt := 541) C dL_law_33 e7 (by decide) (by decide) rfl (by decide) ?_
      refine i_aload_n C dL_law_541 rfl (q := 1) rfl ?_
      refine i_aload_n C dL_law_542 rfl (q := 0) rfl ?_
      refine i_iload_n C dL_law_543 rfl (q := 3) rfl ?_
      refine i_iconst C dL_law_544 kI_1 ?_
      refine i_iadd C dL_law_545 ?_
      refine i_scr C hs dL_law_546 (fun a1 => ?_)
      refine i_aload_n C dL_law_547 rfl (q := 0) rfl ?_
      refine i_iload_n C dL_law_548 rfl (q := 3) rfl ?_
      refine i_iconst C dL_law_549 kI_2 ?_
      refine i_iadd C dL_law_550 ?_
      refine i_scr C hs dL_law_551 (fun a2 => ?_)
      refine i_aload_n C dL_law_552 rfl (q := 0) rfl ?_
      refine i_iload_n C dL_law_553 rfl (q := 3) rfl ?_
      refine i_iconst C dL_law_554 kI_3 ?_
      refine i_iadd C dL_law_555 ?_
      refine i_scr C hs dL_law_556 (fun a3 => ?_)
      refine i_aload_n C dL_law_557 rfl (q := 0) rfl ?_
      refine i_iload_n C dL_law_558 rfl (q := 3) rfl ?_
      refine i_iconst C dL_law_559 kI_4 ?_
      refine i_iadd C dL_law_560 ?_
      refine i_scr C hs dL_law_561 (fun a4 => ?_)
      refine i_cG (kc' := n) (ks' := 11264 * n) (fun m => mix m MR) 0 0 5 (fun q hq hM hS => crLP C hX hg1 hg2 (as := [aI a1, aI a2, aI a3, aI a4]) dL_law_562.1 ml_L_45 cal_X11_pass cv_X11_pass (hRm ⟨Nat.le_of_ble_eq_true rfl, Nat.le_of_ble_eq_true rfl⟩) rfl (Nat.le_of_ble_eq_true rfl) (okM_R hM) (fun ba => c_X11_pass (xl X) (gP (xG X) ba MR) rfl (okM_P hM) ⟨trivial, hS.2.2.2.1, hS.2.2.1, hS.2.1, hS.1, trivial⟩ hq)) (by omega) (by omega) rfl rfl rfl (fun v MP1 => ?_)
      refine i_aload_n C dL_law_565 rfl (q := 2) rfl ?_
      refine i_aload_n C dL_law_566 rfl (q := 0) rfl ?_
      refine i_iload_n C dL_law_567 rfl (q := 3) rfl ?_
      refine i_iconst C dL_law_568 kI_1 ?_
      refine i_iadd C dL_law_569 ?_
      refine i_scr C hs dL_law_570 (fun b1 => ?_)
      refine i_aload_n C dL_law_571 rfl (q := 0) rfl ?_
      refine i_iload_n C dL_law_572 rfl (q := 3) rfl ?_
      refine i_iconst C dL_law_573 kI_2 ?_
      refine i_iadd C dL_law_574 ?_
      refine i_scr C hs dL_law_575 (fun b2 => ?_)
      refine i_aload_n C dL_law_576 rfl (q := 0) rfl ?_
      refine i_iload_n C dL_law_577 rfl (q := 3) rfl ?_
      refine i_iconst C dL_law_578 kI_3 ?_
      refine i_iadd C dL_law_579 ?_
      refine i_scr C hs dL_law_580 (fun b3 => ?_)
      refine i_aload_n C dL_law_581 rfl (q := 0) rfl ?_
      refine i_iload_n C dL_law_582 rfl (q := 3) rfl ?_
      refine i_iconst C dL_law_583 kI_4 ?_
      refine i_iadd C dL_law_584 ?_
      refine i_scr C hs dL_law_585 (fun b4 => ?_)
      refine i_cG (kc' := n) (ks' := 11264 * n) (fun m => mix MP1 m) 0 0 5 (fun q hq hM hS => crLR C hX hg1 hg2 (as := [aI b1, aI b2, aI b3, aI b4]) rfl dL_law_586.1 ml_L_48 cal_X12_pass cv_X12_pass (hRm ⟨Nat.le_of_ble_eq_true rfl, Nat.le_of_ble_eq_true rfl⟩) rfl (Nat.le_of_ble_eq_true rfl) (okM_P hM) rfl (fun ba => c_X12_pass (xl X) (gR (xG X) ba MP1) rfl (okM_R hM) ⟨trivial, hS.2.2.2.1, hS.2.2.1, hS.2.1, hS.1, trivial⟩ hq)) (by omega) (by omega) rfl rfl rfl (fun w MR1 => ?_)
      refine i_icmp_eq (tgt := 2234) C dL_law_589 (by decide) ?_ ?_
      · exact hj MP1 MR1
      · exact i_none
    refine i_split (fun e8 => ?_) (fun e8 => ?_)
    · refine i_tswIn (tgt := 594) C dL_law_33 e8 (by decide) (by decide) rfl (by decide) ?_
      refine i_aload_n C dL_law_594 rfl (q := 1) rfl ?_
      refine i_aload_n C dL_law_595 rfl (q := 0) rfl ?_
      refine i_iload_n C dL_law_596 rfl (q := 3) rfl ?_
      refine i_iconst C dL_law_597 kI_1 ?_
      refine i_iadd C dL_law_598 ?_
      refine i_scr C hs dL_law_599 (fun a1 => ?_)
      refine i_aload_n C dL_law_600 rfl (q := 0) rfl ?_
      refine i_iload_n C dL_law_601 rfl (q := 3) rfl ?_
      refine i_iconst C dL_law_602 kI_2 ?_
      refine i_iadd C dL_law_603 ?_
      refine i_scr C hs dL_law_604 (fun a2 => ?_)
      refine i_aload_n C dL_law_605 rfl (q := 0) rfl ?_
      refine i_iload_n C dL_law_606 rfl (q := 3) rfl ?_
      refine i_iconst C dL_law_607 kI_3 ?_
      refine i_iadd C dL_law_608 ?_
      refine i_scr C hs dL_law_609 (fun a3 => ?_)
      refine i_cG (kc' := n) (ks' := 11264 * n) (fun m => mix m MR) 0 0 4 (fun q hq hM hS => crLP C hX hg1 hg2 (as := [aI a1, aI a2, aI a3]) dL_law_610.1 ml_L_49 cal_X11_parcel cv_X11_parcel (hRm ⟨Nat.le_of_ble_eq_true rfl, Nat.le_of_ble_eq_true rfl⟩) rfl (Nat.le_of_ble_eq_true rfl) (okM_R hM) (fun ba => c_X11_parcel (xl X) (gP (xG X) ba MR) rfl (okM_P hM) ⟨trivial, hS.2.2.1, hS.2.1, hS.1, trivial⟩ hq)) (by omega) (by omega) rfl rfl rfl (fun v MP1 => ?_)
      refine i_aload_n C dL_law_613 rfl (q := 2) rfl ?_
      refine i_aload_n C dL_law_614 rfl (q := 0) rfl ?_
      refine i_iload_n C dL_law_615 rfl (q := 3) rfl ?_
      refine i_iconst C dL_law_616 kI_1 ?_
      refine i_iadd C dL_law_617 ?_
      refine i_scr C hs dL_law_618 (fun b1 => ?_)
      refine i_aload_n C dL_law_619 rfl (q := 0) rfl ?_
      refine i_iload_n C dL_law_620 rfl (q := 3) rfl ?_
      refine i_iconst C dL_law_621 kI_2 ?_
      refine i_iadd C dL_law_622 ?_
      refine i_scr C hs dL_law_623 (fun b2 => ?_)
      refine i_aload_n C dL_law_624 rfl (q := 0) rfl ?_
      refine i_iload_n C dL_law_625 rfl (q := 3) rfl ?_
      refine i_iconst C dL_law_626 kI_3 ?_
      refine i_iadd C dL_law_627 ?_
      refine i_scr C hs dL_law_628 (fun b3 => ?_)
      refine i_cG (kc' := n) (ks' := 11264 * n) (fun m => mix MP1 m) 0 0 4 (fun q hq hM hS => crLR C hX hg1 hg2 (as := [aI b1, aI b2, aI b3]) rfl dL_law_629.1 ml_L_52 cal_X12_parcel cv_X12_parcel (hRm ⟨Nat.le_of_ble_eq_true rfl, Nat.le_of_ble_eq_true rfl⟩) rfl (Nat.le_of_ble_eq_true rfl) (okM_P hM) rfl (fun ba => c_X12_parcel (xl X) (gR (xG X) ba MP1) rfl (okM_R hM) ⟨trivial, hS.2.2.1, hS.2.1, hS.1, trivial⟩ hq)) (by omega) (by omega) rfl rfl rfl (fun w MR1 => ?_)
      refine i_icmp_eq (tgt := 2234) C dL_law_632 (by decide) ?_ ?_
      · exact hj MP1 MR1
      · exact i_none
    refine i_split (fun e9 => ?_) (fun e9 => ?_)
    · refine i_tswIn (tgt := 637) C dL_law_33 e9 (by decide) (by decide) rfl (by decide) ?_
      refine i_aload_n C dL_law_637 rfl (q := 1) rfl ?_
      refine i_aload_n C dL_law_638 rfl (q := 0) rfl ?_
      refine i_iload_n C dL_law_639 rfl (q := 3) rfl ?_
      refine i_iconst C dL_law_640 kI_1 ?_
      refine i_iadd C dL_law_641 ?_
      refine i_scr C hs dL_law_642 (fun a1 => ?_)
      refine i_aload_n C dL_law_643 rfl (q := 0) rfl ?_
      refine i_iload_n C dL_law_644 rfl (q := 3) rfl ?_
      refine i_iconst C dL_law_645 kI_2 ?_
      refine i_iadd C dL_law_646 ?_
      refine i_scr C hs dL_law_647 (fun a2 => ?_)
      refine i_cG (kc' := n) (ks' := 11264 * n) (fun m => mix m MR) 0 0 3 (fun q hq hM hS => crLP C hX hg1 hg2 (as := [aI a1, aI a2]) dL_law_648.1 ml_L_53 cal_X11_told cv_X11_told (hRm ⟨Nat.le_of_ble_eq_true rfl, Nat.le_of_ble_eq_true rfl⟩) rfl (Nat.le_of_ble_eq_true rfl) (okM_R hM) (fun ba => c_X11_told (xl X) (gP (xG X) ba MR) rfl (okM_P hM) ⟨trivial, hS.2.1, hS.1, trivial⟩ hq)) (by omega) (by omega) rfl rfl rfl (fun v MP1 => ?_)
      refine i_aload_n C dL_law_651 rfl (q := 2) rfl ?_
      refine i_aload_n C dL_law_652 rfl (q := 0) rfl ?_
      refine i_iload_n C dL_law_653 rfl (q := 3) rfl ?_
      refine i_iconst C dL_law_654 kI_1 ?_
      refine i_iadd C dL_law_655 ?_
      refine i_scr C hs dL_law_656 (fun b1 => ?_)
      refine i_aload_n C dL_law_657 rfl (q := 0) rfl ?_
      refine i_iload_n C dL_law_658 rfl (q := 3) rfl ?_
      refine i_iconst C dL_law_659 kI_2 ?_
      refine i_iadd C dL_law_660 ?_
      refine i_scr C hs dL_law_661 (fun b2 => ?_)
      refine i_cG (kc' := n) (ks' := 11264 * n) (fun m => mix MP1 m) 0 0 3 (fun q hq hM hS => crLR C hX hg1 hg2 (as := [aI b1, aI b2]) rfl dL_law_662.1 ml_L_56 cal_X12_told cv_X12_told (hRm ⟨Nat.le_of_ble_eq_true rfl, Nat.le_of_ble_eq_true rfl⟩) rfl (Nat.le_of_ble_eq_true rfl) (okM_P hM) rfl (fun ba => c_X12_told (xl X) (gR (xG X) ba MP1) rfl (okM_R hM) ⟨trivial, hS.2.1, hS.1, trivial⟩ hq)) (by omega) (by omega) rfl rfl rfl (fun w MR1 => ?_)
      refine i_icmp_eq (tgt := 2234) C dL_law_665 (by decide) ?_ ?_
      · exact hj MP1 MR1
      · exact i_none
    refine i_split (fun e10 => ?_) (fun e10 => ?_)
    · refine i_tswIn (tgt := 670) C dL_law_33 e10 (by decide) (by decide) rfl (by decide) ?_
      refine i_aload_n C dL_law_670 rfl (q := 1) rfl ?_
      refine i_aload_n C dL_law_671 rfl (q := 0) rfl ?_
      refine i_iload_n C dL_law_672 rfl (q := 3) rfl ?_
      refine i_iconst C dL_law_673 kI_1 ?_
      refine i_iadd C dL_law_674 ?_
      refine i_scr C hs dL_law_675 (fun a1 => ?_)
      refine i_aload_n C dL_law_676 rfl (q := 0) rfl ?_
      refine i_iload_n C dL_law_677 rfl (q := 3) rfl ?_
      refine i_iconst C dL_law_678 kI_2 ?_
      refine i_iadd C dL_law_679 ?_
      refine i_scr C hs dL_law_680 (fun a2 => ?_)
      refine i_cG (kc' := n) (ks' := 11264 * n) (fun m => mix m MR) 0 0 3 (fun q hq hM hS => crLP C hX hg1 hg2 (as := [aI a1, aI a2]) dL_law_681.1 ml_L_57 cal_X11_as cv_X11_as (hRm ⟨Nat.le_of_ble_eq_true rfl, Nat.le_of_ble_eq_true rfl⟩) rfl (Nat.le_of_ble_eq_true rfl) (okM_R hM) (fun ba => c_X11_as (xl X) (gP (xG X) ba MR) rfl (okM_P hM) ⟨trivial, hS.2.1, hS.1, trivial⟩ hq)) (by omega) (by omega) rfl rfl rfl (fun v MP1 => ?_)
      refine i_aload_n C dL_law_684 rfl (q := 2) rfl ?_
      refine i_aload_n C dL_law_685 rfl (q := 0) rfl ?_
      refine i_iload_n C dL_law_686 rfl (q := 3) rfl ?_
      refine i_iconst C dL_law_687 kI_1 ?_
      refine i_iadd C dL_law_688 ?_
      refine i_scr C hs dL_law_689 (fun b1 => ?_)
      refine i_aload_n C dL_law_690 rfl (q := 0) rfl ?_
      refine i_iload_n C dL_law_691 rfl (q := 3) rfl ?_
      refine i_iconst C dL_law_692 kI_2 ?_
      refine i_iadd C dL_law_693 ?_
      refine i_scr C hs dL_law_694 (fun b2 => ?_)
      refine i_cG (kc' := n) (ks' := 11264 * n) (fun m => mix MP1 m) 0 0 3 (fun q hq hM hS => crLR C hX hg1 hg2 (as := [aI b1, aI b2]) rfl dL_law_695.1 ml_L_60 cal_X12_as cv_X12_as (hRm ⟨Nat.le_of_ble_eq_true rfl, Nat.le_of_ble_eq_true rfl⟩) rfl (Nat.le_of_ble_eq_true rfl) (okM_P hM) rfl (fun ba => c_X12_as (xl X) (gR (xG X) ba MP1) rfl (okM_R hM) ⟨trivial, hS.2.1, hS.1, trivial⟩ hq)) (by omega) (by omega) rfl rfl rfl (fun w MR1 => ?_)
      refine i_icmp_eq (tgt := 2234) C dL_law_698 (by decide) ?_ ?_
      · exact hj MP1 MR1
      · exact i_none
    refine i_split (fun e11 => ?_) (fun e11 => ?_)
    · refine i_tswIn (tgt := 703) C dL_law_33 e11 (by decide) (by decide) rfl (by decide) ?_
      refine i_aload_n C dL_law_703 rfl (q := 1) rfl ?_
      refine i_aload_n C dL_law_704 rfl (q := 0) rfl ?_
      refine i_iload_n C dL_law_705 rfl (q := 3) rfl ?_
      refine i_iconst C dL_law_706 kI_1 ?_
      refine i_iadd C dL_law_707 ?_
      refine i_scr C hs dL_law_708 (fun a1 => ?_)
      refine i_aload_n C dL_law_709 rfl (q := 0) rfl ?_
      refine i_iload_n C dL_law_710 rfl (q := 3) rfl ?_
      refine i_iconst C dL_law_711 kI_2 ?_
      refine i_iadd C dL_law_712 ?_
      refine i_scr C hs dL_law_713 (fun a2 => ?_)
      refine i_cG (kc' := n) (ks' := 11264 * n) (fun m => mix m MR) 0 0 3 (fun q hq hM hS => crLP C hX hg1 hg2 (as := [aI a1, aI a2]) dL_law_714.1 ml_L_61 cal_X11_change cv_X11_change (hRm ⟨Nat.le_of_ble_eq_true rfl, Nat.le_of_ble_eq_true rfl⟩) rfl (Nat.le_of_ble_eq_true rfl) (okM_R hM) (fun ba => c_X11_change (xl X) (gP (xG X) ba MR) rfl (okM_P hM) ⟨trivial, hS.2.1, hS.1, trivial⟩ hq)) (by omega) (by omega) rfl rfl rfl (fun v MP1 => ?_)
      refine i_aload_n C dL_law_717 rfl (q := 2) rfl ?_
      refine i_aload_n C dL_law_718 rfl (q := 0) rfl ?_
      refine i_iload_n C dL_law_719 rfl (q := 3) rfl ?_
      refine i_iconst C dL_law_720 kI_1 ?_
      refine i_iadd C dL_law_721 ?_
      refine i_scr C hs dL_law_722 (fun b1 => ?_)
      refine i_aload_n C dL_law_723 rfl (q := 0) rfl ?_
      refine i_iload_n C dL_law_724 rfl (q := 3) rfl ?_
      refine i_iconst C dL_law_725 kI_2 ?_
      refine i_iadd C dL_law_726 ?_
      refine i_scr C hs dL_law_727 (fun b2 => ?_)
      refine i_cG (kc' := n) (ks' := 11264 * n) (fun m => mix MP1 m) 0 0 3 (fun q hq hM hS => crLR C hX hg1 hg2 (as := [aI b1, aI b2]) rfl dL_law_728.1 ml_L_64 cal_X12_change cv_X12_change (hRm ⟨Nat.le_of_ble_eq_true rfl, Nat.le_of_ble_eq_true rfl⟩) rfl (Nat.le_of_ble_eq_true rfl) (okM_P hM) rfl (fun ba => c_X12_change (xl X) (gR (xG X) ba MP1) rfl (okM_R hM) ⟨trivial, hS.2.1, hS.1, trivial⟩ hq)) (by omega) (by omega) rfl rfl rfl (fun w MR1 => ?_)
      refine i_icmp_eq (tgt := 2234) C dL_law_731 (by decide) ?_ ?_
      · exact hj MP1 MR1
      · exact i_none
    refine i_split (fun e12 => ?_) (fun e12 => ?_)
    · refine i_tswIn (tgt := 736) C dL_law_33 e12 (by decide) (by decide) rfl (by decide) ?_
      refine i_aload_n C dL_law_736 rfl (q := 1) rfl ?_
      refine i_aload_n C dL_law_737 rfl (q := 0) rfl ?_
      refine i_iload_n C dL_law_738 rfl (q := 3) rfl ?_
      refine i_iconst C dL_law_739 kI_1 ?_
      refine i_iadd C dL_law_740 ?_
      refine i_scr C hs dL_law_741 (fun a1 => ?_)
      refine i_aload_n C dL_law_742 rfl (q := 0) rfl ?_
      refine i_iload_n C dL_law_743 rfl (q := 3) rfl ?_
      refine i_iconst C dL_law_744 kI_2 ?_
      refine i_iadd C dL_law_745 ?_
      refine i_scr C hs dL_law_746 (fun a2 => ?_)
      refine i_aload_n C dL_law_747 rfl (q := 0) rfl ?_
      refine i_iload_n C dL_law_748 rfl (q := 3) rfl ?_
      refine i_iconst C dL_law_749 kI_3 ?_
      refine i_iadd C dL_law_750 ?_
      refine i_scr C hs dL_law_751 (fun a3 => ?_)
      refine i_cG (kc' := n) (ks' := 11264 * n) (fun m => mix m MR) 0 0 4 (fun q hq hM hS => crLP C hX hg1 hg2 (as := [aI a1, aI a2, aI a3]) dL_law_752.1 ml_L_65 cal_X11_gate cv_X11_gate (hRm ⟨Nat.le_of_ble_eq_true rfl, Nat.le_of_ble_eq_true rfl⟩) rfl (Nat.le_of_ble_eq_true rfl) (okM_R hM) (fun ba => c_X11_gate (xl X) (gP (xG X) ba MR) rfl (okM_P hM) ⟨trivial, hS.2.2.1, hS.2.1, hS.1, trivial⟩ hq)) (by omega) (by omega) rfl rfl rfl (fun v MP1 => ?_)
      refine i_aload_n C dL_law_755 rfl (q := 2) rfl ?_
      refine i_aload_n C dL_law_756 rfl (q := 0) rfl ?_
      refine i_iload_n C dL_law_757 rfl (q := 3) rfl ?_
      refine i_iconst C dL_law_758 kI_1 ?_
      refine i_iadd C dL_law_759 ?_
      refine i_scr C hs dL_law_760 (fun b1 => ?_)
      refine i_aload_n C dL_law_761 rfl (q := 0) rfl ?_
      refine i_iload_n C dL_law_762 rfl (q := 3) rfl ?_
      refine i_iconst C dL_law_763 kI_2 ?_
      refine i_iadd C dL_law_764 ?_
      refine i_scr C hs dL_law_765 (fun b2 => ?_)
      refine i_aload_n C dL_law_766 rfl (q := 0) rfl ?_
      refine i_iload_n C dL_law_767 rfl (q := 3) rfl ?_
      refine i_iconst C dL_law_768 kI_3 ?_
      refine i_iadd C dL_law_769 ?_
      refine i_scr C hs dL_law_770 (fun b3 => ?_)
      refine i_cG (kc' := n) (ks' := 11264 * n) (fun m => mix MP1 m) 0 0 4 (fun q hq hM hS => crLR C hX hg1 hg2 (as := [aI b1, aI b2, aI b3]) rfl dL_law_771.1 ml_L_68 cal_X12_gate cv_X12_gate (hRm ⟨Nat.le_of_ble_eq_true rfl, Nat.le_of_ble_eq_true rfl⟩) rfl (Nat.le_of_ble_eq_true rfl) (okM_P hM) rfl (fun ba => c_X12_gate (xl X) (gR (xG X) ba MP1) rfl (okM_R hM) ⟨trivial, hS.2.2.1, hS.2.1, hS.1, trivial⟩ hq)) (by omega) (by omega) rfl rfl rfl (fun w MR1 => ?_)
      refine i_icmp_eq (tgt := 2234) C dL_law_774 (by decide) ?_ ?_
      · exact hj MP1 MR1
      · exact i_none
    refine i_split (fun e13 => ?_) (fun e13 => ?_)
    · refine i_tswIn (tgt := 779) C dL_law_33 e13 (by decide) (by decide) rfl (by decide) ?_
      refine i_aload_n C dL_law_779 rfl (q := 1) rfl ?_
      refine i_aload_n C dL_law_780 rfl (q := 0) rfl ?_
      refine i_iload_n C dL_law_781 rfl (q := 3) rfl ?_
      refine i_iconst C dL_law_782 kI_1 ?_
      refine i_iadd C dL_law_783 ?_
      refine i_scr C hs dL_law_784 (fun a1 => ?_)
      refine i_aload_n C dL_law_785 rfl (q := 0) rfl ?_
      refine i_iload_n C dL_law_786 rfl (q := 3) rfl ?_
      refine i_iconst C dL_law_787 kI_2 ?_
      refine i_iadd C dL_law_788 ?_
      refine i_scr C hs dL_law_789 (fun a2 => ?_)
      refine i_cG (kc' := n) (ks' := 11264 * n) (fun m => mix m MR) 0 0 3 (fun q hq hM hS => crLP C hX hg1 hg2 (as := [aI a1, aI a2]) dL_law_790.1 ml_L_69 cal_X11_kinship cv_X11_kinship (hRm ⟨Nat.le_of_ble_eq_true rfl, Nat.le_of_ble_eq_true rfl⟩) rfl (Nat.le_of_ble_eq_true rfl) (okM_R hM) (fun ba => c_X11_kinship (xl X) (gP (xG X) ba MR) rfl (okM_P hM) ⟨trivial, hS.2.1, hS.1, trivial⟩ hq)) (by omega) (by omega) rfl rfl rfl (fun v MP1 => ?_)
      refine i_aload_n C dL_law_793 rfl (q := 2) rfl ?_
      refine i_aload_n C dL_law_794 rfl (q := 0) rfl ?_
      refine i_iload_n C dL_law_795 rfl (q := 3) rfl ?_
      refine i_iconst C dL_law_796 kI_1 ?_
      refine i_iadd C dL_law_797 ?_
      refine i_scr C hs dL_law_798 (fun b1 => ?_)
      refine i_aload_n C dL_law_799 rfl (q := 0) rfl ?_
      refine i_iload_n C dL_law_800 rfl (q := 3) rfl ?_
      refine i_iconst C dL_law_801 kI_2 ?_
      refine i_iadd C dL_law_802 ?_
      refine i_scr C hs dL_law_803 (fun b2 => ?_)
      refine i_cG (kc' := n) (ks' := 11264 * n) (fun m => mix MP1 m) 0 0 3 (fun q hq hM hS => crLR C hX hg1 hg2 (as := [aI b1, aI b2]) rfl dL_law_804.1 ml_L_72 cal_X12_kinship cv_X12_kinship (hRm ⟨Nat.le_of_ble_eq_true rfl, Nat.le_of_ble_eq_true rfl⟩) rfl (Nat.le_of_ble_eq_true rfl) (okM_P hM) rfl (fun ba => c_X12_kinship (xl X) (gR (xG X) ba MP1) rfl (okM_R hM) ⟨trivial, hS.2.1, hS.1, trivial⟩ hq)) (by omega) (by omega) rfl rfl rfl (fun w MR1 => ?_)
      refine i_icmp_eq (tgt := 2234) C dL_law_807 (by decide) ?_ ?_
      · exact hj MP1 MR1
      · exact i_none
    refine i_split (fun e14 => ?_) (fun e14 => ?_)
    · refine i_tswIn (tgt := 812) C dL_law_33 e14 (by decide) (by decide) rfl (by decide) ?_
      refine i_aload_n C dL_law_812 rfl (q := 1) rfl ?_
      refine i_aload_n C dL_law_813 rfl (q := 0) rfl ?_
      refine i_iload_n C dL_law_814 rfl (q := 3) rfl ?_
      refine i_iconst C dL_law_815 kI_1 ?_
      refine i_iadd C dL_law_816 ?_
      refine i_scr C hs dL_law_817 (fun a1 => ?_)
      refine i_cG (kc' := n) (ks' := 11264 * n) (fun m => mix m MR) 0 0 2 (fun q hq hM hS => crLP C hX hg1 hg2 (as := [aI a1]) dL_law_818.1 ml_L_73 cal_X11_take cv_X11_take (hRm ⟨Nat.le_of_ble_eq_true rfl, Nat.le_of_ble_eq_true rfl⟩) rfl (Nat.le_of_ble_eq_true rfl) (okM_R hM) (fun ba => c_X11_take (xl X) (gP (xG X) ba MR) rfl (okM_P hM) ⟨trivial, hS.1, trivial⟩ hq)) (by omega) (by omega) rfl rfl rfl (fun v MP1 => ?_)
      refine i_aload_n C dL_law_821 rfl (q := 2) rfl ?_
      refine i_aload_n C dL_law_822 rfl (q := 0) rfl ?_
      refine i_iload_n C dL_law_823 rfl (q := 3) rfl ?_
      refine i_iconst C dL_law_824 kI_1 ?_
      refine i_iadd C dL_law_825 ?_
      refine i_scr C hs dL_law_826 (fun b1 => ?_)
      refine i_cG (kc' := n) (ks' := 11264 * n) (fun m => mix MP1 m) 0 0 2 (fun q hq hM hS => crLR C hX hg1 hg2 (as := [aI b1]) rfl dL_law_827.1 ml_L_76 cal_X12_take cv_X12_take (hRm ⟨Nat.le_of_ble_eq_true rfl, Nat.le_of_ble_eq_true rfl⟩) rfl (Nat.le_of_ble_eq_true rfl) (okM_P hM) rfl (fun ba => c_X12_take (xl X) (gR (xG X) ba MP1) rfl (okM_R hM) ⟨trivial, hS.1, trivial⟩ hq)) (by omega) (by omega) rfl rfl rfl (fun w MR1 => ?_)
      refine i_icmp_eq (tgt := 2234) C dL_law_830 (by decide) ?_ ?_
      · exact hj MP1 MR1
      · exact i_none
    refine i_split (fun e15 => ?_) (fun e15 => ?_)
    · refine i_tswIn (tgt := 835) C dL_law_33 e15 (by decide) (by decide) rfl (by decide) ?_
      refine i_aload_n C dL_law_835 rfl (q := 1) rfl ?_
      refine i_aload_n C dL_law_836 rfl (q := 0) rfl ?_
      refine i_iload_n C dL_law_837 rfl (q := 3) rfl ?_
      refine i_iconst C dL_law_838 kI_1 ?_
      refine i_iadd C dL_law_839 ?_
      refine i_scr C hs dL_law_840 (fun a1 => ?_)
      refine i_cG (kc' := n) (ks' := 11264 * n) (fun m => mix m MR) 0 0 2 (fun q hq hM hS => crLP C hX hg1 hg2 (as := [aI a1]) dL_law_841.1 ml_L_77 cal_X11_why cv_X11_why (hRm ⟨Nat.le_of_ble_eq_true rfl, Nat.le_of_ble_eq_true rfl⟩) rfl (Nat.le_of_ble_eq_true rfl) (okM_R hM) (fun ba => c_X11_why (xl X) (gP (xG X) ba MR) rfl (okM_P hM) ⟨trivial, hS.1, trivial⟩ hq)) (by omega) (by omega) rfl rfl rfl (fun v MP1 => ?_)
      refine i_aload_n C dL_law_844 rfl (q := 2) rfl ?_
      refine i_aload_n C dL_law_845 rfl (q := 0) rfl ?_
      refine i_iload_n C dL_law_846 rfl (q := 3) rfl ?_
      refine i_iconst C dL_law_847 kI_1 ?_
      refine i_iadd C dL_law_848 ?_
      refine i_scr C hs dL_law_849 (fun b1 => ?_)
      refine i_cG (kc' := n) (ks' := 11264 * n) (fun m => mix MP1 m) 0 0 2 (fun q hq hM hS => crLR C hX hg1 hg2 (as := [aI b1]) rfl dL_law_850.1 ml_L_80 cal_X12_why cv_X12_why (hRm ⟨Nat.le_of_ble_eq_true rfl, Nat.le_of_ble_eq_true rfl⟩) rfl (Nat.le_of_ble_eq_true rfl) (okM_P hM) rfl (fun ba => c_X12_why (xl X) (gR (xG X) ba MP1) rfl (okM_R hM) ⟨trivial, hS.1, trivial⟩ hq)) (by omega) (by omega) rfl rfl rfl (fun w MR1 => ?_)
      refine i_icmp_eq (tgt := 2234) C dL_law_853 (by decide) ?_ ?_
      · exact hj MP1 MR1
      · exact i_none
    refine i_split (fun e16 => ?_) (fun e16 => ?_)
    · refine i_tswIn (tgt := 858) C dL_law_33 e16 (by decide) (by decide) rfl (by decide) ?_
      refine i_aload_n C dL_law_858 rfl (q := 1) rfl ?_
      refine i_aload_n C dL_law_859 rfl (q := 0) rfl ?_
      refine i_iload_n C dL_law_860 rfl (q := 3) rfl ?_
      refine i_iconst C dL_law_861 kI_1 ?_
      refine i_iadd C dL_law_862 ?_
      refine i_scr C hs dL_law_863 (fun a1 => ?_)
      refine i_aload_n C dL_law_864 rfl (q := 0) rfl ?_
      refine i_iload_n C dL_law_865 rfl (q := 3) rfl ?_
      refine i_iconst C dL_law_866 kI_2 ?_
      refine i_iadd C dL_law_867 ?_
      refine i_scr C hs dL_law_868 (fun a2 => ?_)
      refine i_cG (kc' := n) (ks' := 11264 * n) (fun m => mix m MR) 0 0 3 (fun q hq hM hS => crLP C hX hg1 hg2 (as := [aI a1, aI a2]) dL_law_869.1 ml_L_81 cal_X11_ask cv_X11_ask (hRm ⟨Nat.le_of_ble_eq_true rfl, Nat.le_of_ble_eq_true rfl⟩) rfl (Nat.le_of_ble_eq_true rfl) (okM_R hM) (fun ba => c_X11_ask (xl X) (gP (xG X) ba MR) rfl (okM_P hM) ⟨trivial, hS.2.1, hS.1, trivial⟩ hq)) (by omega) (by omega) rfl rfl rfl (fun v MP1 => ?_)
      refine i_aload_n C dL_law_872 rfl (q := 2) rfl ?_
      refine i_aload_n C dL_law_873 rfl (q := 0) rfl ?_
      refine i_iload_n C dL_law_874 rfl (q := 3) rfl ?_
      refine i_iconst C dL_law_875 kI_1 ?_
      refine i_iadd C dL_law_876 ?_
      refine i_scr C hs dL_law_877 (fun b1 => ?_)
      refine i_aload_n C dL_law_878 rfl (q := 0) rfl ?_
      refine i_iload_n C dL_law_879 rfl (q := 3) rfl ?_
      refine i_iconst C dL_law_880 kI_2 ?_
      refine i_iadd C dL_law_881 ?_
      refine i_scr C hs dL_law_882 (fun b2 => ?_)
      refine i_cG (kc' := n) (ks' := 11264 * n) (fun m => mix MP1 m) 0 0 3 (fun q hq hM hS => crLR C hX hg1 hg2 (as := [aI b1, aI b2]) rfl dL_law_883.1 ml_L_84 cal_X12_ask cv_X12_ask (hRm ⟨Nat.le_of_ble_eq_true rfl, Nat.le_of_ble_eq_true rfl⟩) rfl (Nat.le_of_ble_eq_true rfl) (okM_P hM) rfl (fun ba => c_X12_ask (xl X) (gR (xG X) ba MP1) rfl (okM_R hM) ⟨trivial, hS.2.1, hS.1, trivial⟩ hq)) (by omega) (by omega) rfl rfl rfl (fun w MR1 => ?_)
      refine i_icmp_eq (tgt := 2234) C dL_law_886 (by decide) ?_ ?_
      · exact hj MP1 MR1
      · exact i_none
    refine i_split (fun e17 => ?_) (fun e17 => ?_)
    · refine i_tswIn (tgt := 891) C dL_law_33 e17 (by decide) (by decide) rfl (by decide) ?_
      refine i_aload_n C dL_law_891 rfl (q := 1) rfl ?_
      refine i_aload_n C dL_law_892 rfl (q := 0) rfl ?_
      refine i_iload_n C dL_law_893 rfl (q := 3) rfl ?_
      refine i_iconst C dL_law_894 kI_1 ?_
      refine i_iadd C dL_law_895 ?_
      refine i_scr C hs dL_law_896 (fun a1 => ?_)
      refine i_aload_n C dL_law_897 rfl (q := 0) rfl ?_
      refine i_iload_n C dL_law_898 rfl (q := 3) rfl ?_
      refine i_iconst C dL_law_899 kI_2 ?_
      refine i_iadd C dL_law_900 ?_
      refine i_scr C hs dL_law_901 (fun a2 => ?_)
      refine i_cG (kc' := n) (ks' := 11264 * n) (fun m => mix m MR) 0 0 3 (fun q hq hM hS => crLP C hX hg1 hg2 (as := [aI a1, aI a2]) dL_law_902.1 ml_L_85 cal_X11_letter cv_X11_letter (hRm ⟨Nat.le_of_ble_eq_true rfl, Nat.le_of_ble_eq_true rfl⟩) rfl (Nat.le_of_ble_eq_true rfl) (okM_R hM) (fun ba => c_X11_letter (xl X) (gP (xG X) ba MR) rfl (okM_P hM) ⟨trivial, hS.2.1, hS.1, trivial⟩ hq)) (by omega) (by omega) rfl rfl rfl (fun v MP1 => ?_)
      refine i_aload_n C dL_law_905 rfl (q := 2) rfl ?_
      refine i_aload_n C dL_law_906 rfl (q := 0) rfl ?_
      refine i_iload_n C dL_law_907 rfl (q := 3) rfl ?_
      refine i_iconst C dL_law_908 kI_1 ?_
      refine i_iadd C dL_law_909 ?_
      refine i_scr C hs dL_law_910 (fun b1 => ?_)
      refine i_aload_n C dL_law_911 rfl (q := 0) rfl ?_
      refine i_iload_n C dL_law_912 rfl (q := 3) rfl ?_
      refine i_iconst C dL_law_913 kI_2 ?_
      refine i_iadd C dL_law_914 ?_
      refine i_scr C hs dL_law_915 (fun b2 => ?_)
      refine i_cG (kc' := n) (ks' := 11264 * n) (fun m => mix MP1 m) 0 0 3 (fun q hq hM hS => crLR C hX hg1 hg2 (as := [aI b1, aI b2]) rfl dL_law_916.1 ml_L_88 cal_X12_letter cv_X12_letter (hRm ⟨Nat.le_of_ble_eq_true rfl, Nat.le_of_ble_eq_true rfl⟩) rfl (Nat.le_of_ble_eq_true rfl) (okM_P hM) rfl (fun ba => c_X12_letter (xl X) (gR (xG X) ba MP1) rfl (okM_R hM) ⟨trivial, hS.2.1, hS.1, trivial⟩ hq)) (by omega) (by omega) rfl rfl rfl (fun w MR1 => ?_)
      refine i_icmp_eq (tgt := 2234) C dL_law_919 (by decide) ?_ ?_
      · exact hj MP1 MR1
      · exact i_none
    refine i_split (fun e18 => ?_) (fun e18 => ?_)
    · refine i_tswIn (tgt := 924) C dL_law_33 e18 (by decide) (by decide) rfl (by decide) ?_
      refine i_aload_n C dL_law_924 rfl (q := 1) rfl ?_
      refine i_aload_n C dL_law_925 rfl (q := 0) rfl ?_
      refine i_iload_n C dL_law_926 rfl (q := 3) rfl ?_
      refine i_iconst C dL_law_927 kI_1 ?_
      refine i_iadd C dL_law_928 ?_
      refine i_scr C hs dL_law_929 (fun a1 => ?_)
      refine i_aload_n C dL_law_930 rfl (q := 0) rfl ?_
      refine i_iload_n C dL_law_931 rfl (q := 3) rfl ?_
      refine i_iconst C dL_law_932 kI_2 ?_
      refine i_iadd C dL_law_933 ?_
      refine i_scr C hs dL_law_934 (fun a2 => ?_)
      refine i_aload_n C dL_law_935 rfl (q := 0) rfl ?_
      refine i_iload_n C dL_law_936 rfl (q := 3) rfl ?_
      refine i_iconst C dL_law_937 kI_3 ?_
      refine i_iadd C dL_law_938 ?_
      refine i_scr C hs dL_law_939 (fun a3 => ?_)
      refine i_cG (kc' := n) (ks' := 11264 * n) (fun m => mix m MR) 0 0 4 (fun q hq hM hS => crLP C hX hg1 hg2 (as := [aI a1, aI a2, aI a3]) dL_law_940.1 ml_L_89 cal_X11_call cv_X11_call (hRm ⟨Nat.le_of_ble_eq_true rfl, Nat.le_of_ble_eq_true rfl⟩) rfl (Nat.le_of_ble_eq_true rfl) (okM_R hM) (fun ba => c_X11_call (xl X) (gP (xG X) ba MR) rfl (okM_P hM) ⟨trivial, hS.2.2.1, hS.2.1, hS.1, trivial⟩ hq)) (by omega) (by omega) rfl rfl rfl (fun v MP1 => ?_)
      refine i_aload_n C dL_law_943 rfl (q := 2) rfl ?_
      refine i_aload_n C dL_law_944 rfl (q := 0) rfl ?_
      refine i_iload_n C dL_law_945 rfl (q := 3) rfl ?_
      refine i_iconst C dL_law_946 kI_1 ?_
      refine i_iadd C dL_law_947 ?_
      refine i_scr C hs dL_law_948 (fun b1 => ?_)
      refine i_aload_n C dL_law_949 rfl (q := 0) rfl ?_
      refine i_iload_n C dL_law_950 rfl (q := 3) rfl ?_
      refine i_iconst C dL_law_951 kI_2 ?_
      refine i_iadd C dL_law_952 ?_
      refine i_scr C hs dL_law_953 (fun b2 => ?_)
      refine i_aload_n C dL_law_954 rfl (q := 0) rfl ?_
      refine i_iload_n C dL_law_955 rfl (q := 3) rfl ?_
      refine i_iconst C dL_law_956 kI_3 ?_
      refine i_iadd C dL_law_957 ?_
      refine i_scr C hs dL_law_958 (fun b3 => ?_)
      refine i_cG (kc' := n) (ks' := 11264 * n) (fun m => mix MP1 m) 0 0 4 (fun q hq hM hS => crLR C hX hg1 hg2 (as := [aI b1, aI b2, aI b3]) rfl dL_law_959.1 ml_L_92 cal_X12_call cv_X12_call (hRm ⟨Nat.le_of_ble_eq_true rfl, Nat.le_of_ble_eq_true rfl⟩) rfl (Nat.le_of_ble_eq_true rfl) (okM_P hM) rfl (fun ba => c_X12_call (xl X) (gR (xG X) ba MP1) rfl (okM_R hM) ⟨trivial, hS.2.2.1, hS.2.1, hS.1, trivial⟩ hq)) (by omega) (by omega) rfl rfl rfl (fun w MR1 => ?_)
      refine i_icmp_eq (tgt := 2234) C dL_law_962 (by decide) ?_ ?_
      · exact hj MP1 MR1
      · exact i_none
    refine i_split (fun e19 => ?_) (fun e19 => ?_)
    · refine i_tswIn (tgt := 967) C dL_law_33 e19 (by decide) (by decide) rfl (by decide) ?_
      refine i_aload_n C dL_law_967 rfl (q := 1) rfl ?_
      refine i_aload_n C dL_law_968 rfl (q := 0) rfl ?_
      refine i_iload_n C dL_law_969 rfl (q := 3) rfl ?_
      refine i_iconst C dL_law_970 kI_1 ?_
      refine i_iadd C dL_law_971 ?_
      refine i_scr C hs dL_law_972 (fun a1 => ?_)
      refine i_cG (kc' := n) (ks' := 11264 * n) (fun m => mix m MR) 0 0 2 (fun q hq hM hS => crLP C hX hg1 hg2 (as := [aI a1]) dL_law_973.1 ml_L_93 cal_X11_run cv_X11_run (hRm ⟨Nat.le_of_ble_eq_true rfl, Nat.le_of_ble_eq_true rfl⟩) rfl (Nat.le_of_ble_eq_true rfl) (okM_R hM) (fun ba => c_X11_run (xl X) (gP (xG X) ba MR) rfl (okM_P hM) ⟨trivial, hS.1, trivial⟩ hq)) (by omega) (by omega) rfl rfl rfl (fun v MP1 => ?_)
      refine i_aload_n C dL_law_976 rfl (q := 2) rfl ?_
      refine i_aload_n C dL_law_977 rfl (q := 0) rfl ?_
      refine i_iload_n C dL_law_978 rfl (q := 3) rfl ?_
      refine i_iconst C dL_law_979 kI_1 ?_
      refine i_iadd C dL_law_980 ?_
      refine i_scr C hs dL_law_981 (fun b1 => ?_)
      refine i_cG (kc' := n) (ks' := 11264 * n) (fun m => mix MP1 m) 0 0 2 (fun q hq hM hS => crLR C hX hg1 hg2 (as := [aI b1]) rfl dL_law_982.1 ml_L_96 cal_X12_run cv_X12_run (hRm ⟨Nat.le_of_ble_eq_true rfl, Nat.le_of_ble_eq_true rfl⟩) rfl (Nat.le_of_ble_eq_true rfl) (okM_P hM) rfl (fun ba => c_X12_run (xl X) (gR (xG X) ba MP1) rfl (okM_R hM) ⟨trivial, hS.1, trivial⟩ hq)) (by omega) (by omega) rfl rfl rfl (fun w MR1 => ?_)
      refine i_icmp_eq (tgt := 2234) C dL_law_985 (by decide) ?_ ?_
      · exact hj MP1 MR1
      · exact i_none
    refine i_split (fun e20 => ?_) (fun e20 => ?_)
    · refine i_tswIn (tgt := 990) C dL_law_33 e20 (by decide) (by decide) rfl (by decide) ?_
      refine i_aload_n C dL_law_990 rfl (q := 1) rfl ?_
      refine i_aload_n C dL_law_991 rfl (q := 0) rfl ?_
      refine i_iload_n C dL_law_992 rfl (q := 3) rfl ?_
      refine i_iconst C dL_law_993 kI_1 ?_
      refine i_iadd C dL_law_994 ?_
      refine i_scr C hs dL_law_995 (fun a1 => ?_)
      refine i_aload_n C dL_law_996 rfl (q := 0) rfl ?_
      refine i_iload_n C dL_law_997 rfl (q := 3) rfl ?_
      refine i_iconst C dL_law_998 kI_2 ?_
      refine i_iadd C dL_law_999 ?_
      refine i_scr C hs dL_law_1000 (fun a2 => ?_)
      refine i_aload_n C dL_law_1001 rfl (q := 0) rfl ?_
      refine i_iload_n C dL_law_1002 rfl (q := 3) rfl ?_
      refine i_iconst C dL_law_1003 kI_3 ?_
      refine i_iadd C dL_law_1004 ?_
      refine i_scr C hs dL_law_1005 (fun a3 => ?_)
      refine i_cG (kc' := n) (ks' := 11264 * n) (fun m => mix m MR) 0 0 4 (fun q hq hM hS => crLP C hX hg1 hg2 (as := [aI a1, aI a2, aI a3]) dL_law_1006.1 ml_L_97 cal_X11_feed cv_X11_feed (hRm ⟨Nat.le_of_ble_eq_true rfl, Nat.le_of_ble_eq_true rfl⟩) rfl (Nat.le_of_ble_eq_true rfl) (okM_R hM) (fun ba => c_X11_feed (xl X) (gP (xG X) ba MR) rfl (okM_P hM) ⟨trivial, hS.2.2.1, hS.2.1, hS.1, trivial⟩ hq)) (by omega) (by omega) rfl rfl rfl (fun v MP1 => ?_)
      refine i_aload_n C dL_law_1009 rfl (q := 2) rfl ?_
      refine i_aload_n C dL_law_1010 rfl (q := 0) rfl ?_
      refine i_iload_n C dL_law_1011 rfl (q := 3) rfl ?_
      refine i_iconst C dL_law_1012 kI_1 ?_
      refine i_iadd C dL_law_1013 ?_
      refine i_scr C hs dL_law_1014 (fun b1 => ?_)
      refine i_aload_n C dL_law_1015 rfl (q := 0) rfl ?_
      refine i_iload_n C dL_law_1016 rfl (q := 3) rfl ?_
      refine i_iconst C dL_law_1017 kI_2 ?_
      refine i_iadd C dL_law_1018 ?_
      refine i_scr C hs dL_law_1019 (fun b2 => ?_)
      refine i_aload_n C dL_law_1020 rfl (q := 0) rfl ?_
      refine i_iload_n C dL_law_1021 rfl (q := 3) rfl ?_
      refine i_iconst C dL_law_1022 kI_3 ?_
      refine i_iadd C dL_law_1023 ?_
      refine i_scr C hs dL_law_1024 (fun b3 => ?_)
      refine i_cG (kc' := n) (ks' := 11264 * n) (fun m => mix MP1 m) 0 0 4 (fun q hq hM hS => crLR C hX hg1 hg2 (as := [aI b1, aI b2, aI b3]) rfl dL_law_1025.1 ml_L_100 cal_X12_feed cv_X12_feed (hRm ⟨Nat.le_of_ble_eq_true rfl, Nat.le_of_ble_eq_true rfl⟩) rfl (Nat.le_of_ble_eq_true rfl) (okM_P hM) rfl (fun ba => c_X12_feed (xl X) (gR (xG X) ba MP1) rfl (okM_R hM) ⟨trivial, hS.2.2.1, hS.2.1, hS.1, trivial⟩ hq)) (by omega) (by omega) rfl rfl rfl (fun w MR1 => ?_)
      refine i_icmp_eq (tgt := 2234) C dL_law_1028 (by decide) ?_ ?_
      · exact hj MP1 MR1
      · exact i_none
    refine i_split (fun e21 => ?_) (fun e21 => ?_)
    · refine i_tswIn (tgt := 1033) C dL_law_33 e21 (by decide) (by decide) rfl (by decide) ?_
      refine i_aload_n C dL_law_1033 rfl (q := 1) rfl ?_
      refine i_aload_n C dL_law_1034 rfl (q := 0) rfl ?_
      refine i_iload_n C dL_law_1035 rfl (q := 3) rfl ?_
      refine i_iconst C dL_law_1036 kI_1 ?_
      refine i_iadd C dL_law_1037 ?_
      refine i_scr C hs dL_law_1038 (fun a1 => ?_)
      refine i_cG (kc' := n) (ks' := 11264 * n) (fun m => mix m MR) 0 0 2 (fun q hq hM hS => crLP C hX hg1 hg2 (as := [aI a1]) dL_law_1039.1 ml_L_101 cal_X11_trim cv_X11_trim (hRm ⟨Nat.le_of_ble_eq_true rfl, Nat.le_of_ble_eq_true rfl⟩) rfl (Nat.le_of_ble_eq_true rfl) (okM_R hM) (fun ba => c_X11_trim (xl X) (gP (xG X) ba MR) rfl (okM_P hM) ⟨trivial, hS.1, trivial⟩ hq)) (by omega) (by omega) rfl rfl rfl (fun v MP1 => ?_)
      refine i_aload_n C dL_law_1042 rfl (q := 2) rfl ?_
      refine i_aload_n C dL_law_1043 rfl (q := 0) rfl ?_
      refine i_iload_n C dL_law_1044 rfl (q := 3) rfl ?_
      refine i_iconst C dL_law_1045 kI_1 ?_
      refine i_iadd C dL_law_1046 ?_
      refine i_scr C hs dL_law_1047 (fun b1 => ?_)
      refine i_cG (kc' := n) (ks' := 11264 * n) (fun m => mix MP1 m) 0 0 2 (fun q hq hM hS => crLR C hX hg1 hg2 (as := [aI b1]) rfl dL_law_1048.1 ml_L_104 cal_X12_trim cv_X12_trim (hRm ⟨Nat.le_of_ble_eq_true rfl, Nat.le_of_ble_eq_true rfl⟩) rfl (Nat.le_of_ble_eq_true rfl) (okM_P hM) rfl (fun ba => c_X12_trim (xl X) (gR (xG X) ba MP1) rfl (okM_R hM) ⟨trivial, hS.1, trivial⟩ hq)) (by omega) (by omega) rfl rfl rfl (fun w MR1 => ?_)
      refine i_icmp_eq (tgt := 2234) C dL_law_1051 (by decide) ?_ ?_
      · exact hj MP1 MR1
      · exact i_none
    refine i_split (fun e22 => ?_) (fun e22 => ?_)
    · refine i_tswIn (tgt := 1056) C dL_law_33 e22 (by decide) (by decide) rfl (by decide) ?_
      refine i_aload_n C dL_law_1056 rfl (q := 1) rfl ?_
      refine i_aload_n C dL_law_1057 rfl (q := 0) rfl ?_
      refine i_iload_n C dL_law_1058 rfl (q := 3) rfl ?_
      refine i_iconst C dL_law_1059 kI_1 ?_
      refine i_iadd C dL_law_1060 ?_
      refine i_scr C hs dL_law_1061 (fun a1 => ?_)
      refine i_aload_n C dL_law_1062 rfl (q := 0) rfl ?_
      refine i_iload_n C dL_law_1063 rfl (q := 3) rfl ?_
      refine i_iconst C dL_law_1064 kI_2 ?_
      refine i_iadd C dL_law_1065 ?_
      refine i_scr C hs dL_law_1066 (fun a2 => ?_)
      refine i_cG (kc' := n) (ks' := 11264 * n) (fun m => mix m MR) 0 0 3 (fun q hq hM hS => crLP C hX hg1 hg2 (as := [aI a1, aI a2]) dL_law_1067.1 ml_L_105 cal_X11_text cv_X11_text (hRm ⟨Nat.le_of_ble_eq_true rfl, Nat.le_of_ble_eq_true rfl⟩) rfl (Nat.le_of_ble_eq_true rfl) (okM_R hM) (fun ba => c_X11_text (xl X) (gP (xG X) ba MR) rfl (okM_P hM) ⟨trivial, hS.2.1, hS.1, trivial⟩ hq)) (by omega) (by omega) rfl rfl rfl (fun v MP1 => ?_)
      refine i_aload_n C dL_law_1070 rfl (q := 2) rfl ?_
      refine i_aload_n C dL_law_1071 rfl (q := 0) rfl ?_
      refine i_iload_n C dL_law_1072 rfl (q := 3) rfl ?_
      refine i_iconst C dL_law_1073 kI_1 ?_
      refine i_iadd C dL_law_1074 ?_
      refine i_scr C hs dL_law_1075 (fun b1 => ?_)
      refine i_aload_n C dL_law_1076 rfl (q := 0) rfl ?_
      refine i_iload_n C dL_law_1077 rfl (q := 3) rfl ?_
      refine i_iconst C dL_law_1078 kI_2 ?_
      refine i_iadd C dL_law_1079 ?_
      refine i_scr C hs dL_law_1080 (fun b2 => ?_)
      refine i_cG (kc' := n) (ks' := 11264 * n) (fun m => mix MP1 m) 0 0 3 (fun q hq hM hS => crLR C hX hg1 hg2 (as := [aI b1, aI b2]) rfl dL_law_1081.1 ml_L_108 cal_X12_text cv_X12_text (hRm ⟨Nat.le_of_ble_eq_true rfl, Nat.le_of_ble_eq_true rfl⟩) rfl (Nat.le_of_ble_eq_true rfl) (okM_P hM) rfl (fun ba => c_X12_text (xl X) (gR (xG X) ba MP1) rfl (okM_R hM) ⟨trivial, hS.2.1, hS.1, trivial⟩ hq)) (by omega) (by omega) rfl rfl rfl (fun w MR1 => ?_)
      refine i_icmp_eq (tgt := 2234) C dL_law_1084 (by decide) ?_ ?_
      · exact hj MP1 MR1
      · exact i_none
    refine i_split (fun e23 => ?_) (fun e23 => ?_)
    · refine i_tswIn (tgt := 1089) C dL_law_33 e23 (by decide) (by decide) rfl (by decide) ?_
      refine i_aload_n C dL_law_1089 rfl (q := 1) rfl ?_
      refine i_aload_n C dL_law_1090 rfl (q := 0) rfl ?_
      refine i_iload_n C dL_law_1091 rfl (q := 3) rfl ?_
      refine i_iconst C dL_law_1092 kI_1 ?_
      refine i_iadd C dL_law_1093 ?_
      refine i_scr C hs dL_law_1094 (fun a1 => ?_)
      refine i_aload_n C dL_law_1095 rfl (q := 0) rfl ?_
      refine i_iload_n C dL_law_1096 rfl (q := 3) rfl ?_
      refine i_iconst C dL_law_1097 kI_2 ?_
      refine i_iadd C dL_law_1098 ?_
      refine i_scr C hs dL_law_1099 (fun a2 => ?_)
      refine i_cG (kc' := n) (ks' := 11264 * n) (fun m => mix m MR) 0 0 3 (fun q hq hM hS => crLP C hX hg1 hg2 (as := [aI a1, aI a2]) dL_law_1100.1 ml_L_109 cal_X11_of cv_X11_of (hRm ⟨Nat.le_of_ble_eq_true rfl, Nat.le_of_ble_eq_true rfl⟩) rfl (Nat.le_of_ble_eq_true rfl) (okM_R hM) (fun ba => c_X11_of (xl X) (gP (xG X) ba MR) rfl (okM_P hM) ⟨trivial, hS.2.1, hS.1, trivial⟩ hq)) (by omega) (by omega) rfl rfl rfl (fun v MP1 => ?_)
      refine i_aload_n C dL_law_1103 rfl (q := 2) rfl ?_
      refine i_aload_n C dL_law_1104 rfl (q := 0) rfl ?_
      refine i_iload_n C dL_law_1105 rfl (q := 3) rfl ?_
      refine i_iconst C dL_law_1106 kI_1 ?_
      refine i_iadd C dL_law_1107 ?_
      refine i_scr C hs dL_law_1108 (fun b1 => ?_)
      refine i_aload_n C dL_law_1109 rfl (q := 0) rfl ?_
      refine i_iload_n C dL_law_1110 rfl (q := 3) rfl ?_
      refine i_iconst C dL_law_1111 kI_2 ?_
      refine i_iadd C dL_law_1112 ?_
      refine i_scr C hs dL_law_1113 (fun b2 => ?_)
      refine i_cG (kc' := n) (ks' := 11264 * n) (fun m => mix MP1 m) 0 0 3 (fun q hq hM hS => crLR C hX hg1 hg2 (as := [aI b1, aI b2]) rfl dL_law_1114.1 ml_L_112 cal_X12_of cv_X12_of (hRm ⟨Nat.le_of_ble_eq_true rfl, Nat.le_of_ble_eq_true rfl⟩) rfl (Nat.le_of_ble_eq_true rfl) (okM_P hM) rfl (fun ba => c_X12_of (xl X) (gR (xG X) ba MP1) rfl (okM_R hM) ⟨trivial, hS.2.1, hS.1, trivial⟩ hq)) (by omega) (by omega) rfl rfl rfl (fun w MR1 => ?_)
      refine i_icmp_eq (tgt := 2234) C dL_law_1117 (by decide) ?_ ?_
      · exact hj MP1 MR1
      · exact i_none
    refine i_split (fun e24 => ?_) (fun e24 => ?_)
    · refine i_tswIn (tgt := 1122) C dL_law_33 e24 (by decide) (by decide) rfl (by decide) ?_
      refine i_aload_n C dL_law_1122 rfl (q := 1) rfl ?_
      refine i_aload_n C dL_law_1123 rfl (q := 0) rfl ?_
      refine i_iload_n C dL_law_1124 rfl (q := 3) rfl ?_
      refine i_iconst C dL_law_1125 kI_1 ?_
      refine i_iadd C dL_law_1126 ?_
      refine i_scr C hs dL_law_1127 (fun a1 => ?_)
      refine i_cG (kc' := n) (ks' := 11264 * n) (fun m => mix m MR) 0 0 2 (fun q hq hM hS => crLP C hX hg1 hg2 (as := [aI a1]) dL_law_1128.1 ml_L_113 cal_X11_strike cv_X11_strike (hRm ⟨Nat.le_of_ble_eq_true rfl, Nat.le_of_ble_eq_true rfl⟩) rfl (Nat.le_of_ble_eq_true rfl) (okM_R hM) (fun ba => c_X11_strike (xl X) (gP (xG X) ba MR) rfl (okM_P hM) ⟨trivial, hS.1, trivial⟩ hq)) (by omega) (by omega) rfl rfl rfl (fun v MP1 => ?_)
      refine i_aload_n C dL_law_1131 rfl (q := 2) rfl ?_
      refine i_aload_n C dL_law_1132 rfl (q := 0) rfl ?_
      refine i_iload_n C dL_law_1133 rfl (q := 3) rfl ?_
      refine i_iconst C dL_law_1134 kI_1 ?_
      refine i_iadd C dL_law_1135 ?_
      refine i_scr C hs dL_law_1136 (fun b1 => ?_)
      refine i_cG (kc' := n) (ks' := 11264 * n) (fun m => mix MP1 m) 0 0 2 (fun q hq hM hS => crLR C hX hg1 hg2 (as := [aI b1]) rfl dL_law_1137.1 ml_L_116 cal_X12_strike cv_X12_strike (hRm ⟨Nat.le_of_ble_eq_true rfl, Nat.le_of_ble_eq_true rfl⟩) rfl (Nat.le_of_ble_eq_true rfl) (okM_P hM) rfl (fun ba => c_X12_strike (xl X) (gR (xG X) ba MP1) rfl (okM_R hM) ⟨trivial, hS.1, trivial⟩ hq)) (by omega) (by omega) rfl rfl rfl (fun w MR1 => ?_)
      refine i_icmp_eq (tgt := 2234) C dL_law_1140 (by decide) ?_ ?_
      · exact hj MP1 MR1
      · exact i_none
    refine i_split (fun e25 => ?_) (fun e25 => ?_)
    · refine i_tswIn (tgt := 1145) C dL_law_33 e25 (by decide) (by decide) rfl (by decide) ?_
      refine i_aload_n C dL_law_1145 rfl (q := 1) rfl ?_
      refine i_aload_n C dL_law_1146 rfl (q := 0) rfl ?_
      refine i_iload_n C dL_law_1147 rfl (q := 3) rfl ?_
      refine i_iconst C dL_law_1148 kI_1 ?_
      refine i_iadd C dL_law_1149 ?_
      refine i_scr C hs dL_law_1150 (fun a1 => ?_)
      refine i_aload_n C dL_law_1151 rfl (q := 0) rfl ?_
      refine i_iload_n C dL_law_1152 rfl (q := 3) rfl ?_
      refine i_iconst C dL_law_1153 kI_2 ?_
      refine i_iadd C dL_law_1154 ?_
      refine i_scr C hs dL_law_1155 (fun a2 => ?_)
      refine i_cG (kc' := n) (ks' := 11264 * n) (fun m => mix m MR) 0 0 3 (fun q hq hM hS => crLP C hX hg1 hg2 (as := [aI a1, aI a2]) dL_law_1156.1 ml_L_117 cal_X11_counts cv_X11_counts (hRm ⟨Nat.le_of_ble_eq_true rfl, Nat.le_of_ble_eq_true rfl⟩) rfl (Nat.le_of_ble_eq_true rfl) (okM_R hM) (fun ba => c_X11_counts (xl X) (gP (xG X) ba MR) rfl (okM_P hM) ⟨trivial, hS.2.1, hS.1, trivial⟩ hq)) (by omega) (by omega) rfl rfl rfl (fun v MP1 => ?_)
      refine i_aload_n C dL_law_1159 rfl (q := 2) rfl ?_
      refine i_aload_n C dL_law_1160 rfl (q := 0) rfl ?_
      refine i_iload_n C dL_law_1161 rfl (q := 3) rfl ?_
      refine i_iconst C dL_law_1162 kI_1 ?_
      refine i_iadd C dL_law_1163 ?_
      refine i_scr C hs dL_law_1164 (fun b1 => ?_)
      refine i_aload_n C dL_law_1165 rfl (q := 0) rfl ?_
      refine i_iload_n C dL_law_1166 rfl (q := 3) rfl ?_
      refine i_iconst C dL_law_1167 kI_2 ?_
      refine i_iadd C dL_law_1168 ?_
      refine i_scr C hs dL_law_1169 (fun b2 => ?_)
      refine i_cG (kc' := n) (ks' := 11264 * n) (fun m => mix MP1 m) 0 0 3 (fun q hq hM hS => crLR C hX hg1 hg2 (as := [aI b1, aI b2]) rfl dL_law_1170.1 ml_L_120 cal_X12_counts cv_X12_counts (hRm ⟨Nat.le_of_ble_eq_true rfl, Nat.le_of_ble_eq_true rfl⟩) rfl (Nat.le_of_ble_eq_true rfl) (okM_P hM) rfl (fun ba => c_X12_counts (xl X) (gR (xG X) ba MP1) rfl (okM_R hM) ⟨trivial, hS.2.1, hS.1, trivial⟩ hq)) (by omega) (by omega) rfl rfl rfl (fun w MR1 => ?_)
      refine i_icmp_eq (tgt := 2234) C dL_law_1173 (by decide) ?_ ?_
      · exact hj MP1 MR1
      · exact i_none
    refine i_split (fun e26 => ?_) (fun e26 => ?_)
    · refine i_tswIn (tgt := 1178) C dL_law_33 e26 (by decide) (by decide) rfl (by decide) ?_
      refine i_aload_n C dL_law_1178 rfl (q := 1) rfl ?_
      refine i_aload_n C dL_law_1179 rfl (q := 0) rfl ?_
      refine i_iload_n C dL_law_1180 rfl (q := 3) rfl ?_
      refine i_iconst C dL_law_1181 kI_1 ?_
      refine i_iadd C dL_law_1182 ?_
      refine i_scr C hs dL_law_1183 (fun a1 => ?_)
      refine i_aload_n C dL_law_1184 rfl (q := 0) rfl ?_
      refine i_iload_n C dL_law_1185 rfl (q := 3) rfl ?_
      refine i_iconst C dL_law_1186 kI_2 ?_
      refine i_iadd C dL_law_1187 ?_
      refine i_scr C hs dL_law_1188 (fun a2 => ?_)
      refine i_cG (kc' := n) (ks' := 11264 * n) (fun m => mix m MR) 0 0 3 (fun q hq hM hS => crLP C hX hg1 hg2 (as := [aI a1, aI a2]) dL_law_1189.1 ml_L_121 cal_X11_may cv_X11_may (hRm ⟨Nat.le_of_ble_eq_true rfl, Nat.le_of_ble_eq_true rfl⟩) rfl (Nat.le_of_ble_eq_true rfl) (okM_R hM) (fun ba => c_X11_may (xl X) (gP (xG X) ba MR) rfl (okM_P hM) ⟨trivial, hS.2.1, hS.1, trivial⟩ hq)) (by omega) (by omega) rfl rfl rfl (fun v MP1 => ?_)
      refine i_aload_n C dL_law_1192 rfl (q := 2) rfl ?_
      refine i_aload_n C dL_law_1193 rfl (q := 0) rfl ?_
      refine i_iload_n C dL_law_1194 rfl (q := 3) rfl ?_
      refine i_iconst C dL_law_1195 kI_1 ?_
      refine i_iadd C dL_law_1196 ?_
      refine i_scr C hs dL_law_1197 (fun b1 => ?_)
      refine i_aload_n C dL_law_1198 rfl (q := 0) rfl ?_
      refine i_iload_n C dL_law_1199 rfl (q := 3) rfl ?_
      refine i_iconst C dL_law_1200 kI_2 ?_
      refine i_iadd C dL_law_1201 ?_
      refine i_scr C hs dL_law_1202 (fun b2 => ?_)
      refine i_cG (kc' := n) (ks' := 11264 * n) (fun m => mix MP1 m) 0 0 3 (fun q hq hM hS => crLR C hX hg1 hg2 (as := [aI b1, aI b2]) rfl dL_law_1203.1 ml_L_124 cal_X12_may cv_X12_may (hRm ⟨Nat.le_of_ble_eq_true rfl, Nat.le_of_ble_eq_true rfl⟩) rfl (Nat.le_of_ble_eq_true rfl) (okM_P hM) rfl (fun ba => c_X12_may (xl X) (gR (xG X) ba MP1) rfl (okM_R hM) ⟨trivial, hS.2.1, hS.1, trivial⟩ hq)) (by omega) (by omega) rfl rfl rfl (fun w MR1 => ?_)
      refine i_icmp_eq (tgt := 2234) C dL_law_1206 (by decide) ?_ ?_
      · exact hj MP1 MR1
      · exact i_none
    refine i_split (fun e27 => ?_) (fun e27 => ?_)
    · refine i_tswIn (tgt := 1211) C dL_law_33 e27 (by decide) (by decide) rfl (by decide) ?_
      refine i_aload_n C dL_law_1211 rfl (q := 1) rfl ?_
      refine i_aload_n C dL_law_1212 rfl (q := 0) rfl ?_
      refine i_iload_n C dL_law_1213 rfl (q := 3) rfl ?_
      refine i_iconst C dL_law_1214 kI_1 ?_
      refine i_iadd C dL_law_1215 ?_
      refine i_scr C hs dL_law_1216 (fun a1 => ?_)
      refine i_aload_n C dL_law_1217 rfl (q := 0) rfl ?_
      refine i_iload_n C dL_law_1218 rfl (q := 3) rfl ?_
      refine i_iconst C dL_law_1219 kI_2 ?_
      refine i_iadd C dL_law_1220 ?_
      refine i_scr C hs dL_law_1221 (fun a2 => ?_)
      refine i_aload_n C dL_law_1222 rfl (q := 0) rfl ?_
      refine i_iload_n C dL_law_1223 rfl (q := 3) rfl ?_
      refine i_iconst C dL_law_1224 kI_3 ?_
      refine i_iadd C dL_law_1225 ?_
      refine i_scr C hs dL_law_1226 (fun a3 => ?_)
      refine i_cG (kc' := n) (ks' := 11264 * n) (fun m => mix m MR) 0 0 4 (fun q hq hM hS => crLP C hX hg1 hg2 (as := [aI a1, aI a2, aI a3]) dL_law_1227.1 ml_L_125 cal_X11_unlike cv_X11_unlike (hRm ⟨Nat.le_of_ble_eq_true rfl, Nat.le_of_ble_eq_true rfl⟩) rfl (Nat.le_of_ble_eq_true rfl) (okM_R hM) (fun ba => c_X11_unlike (xl X) (gP (xG X) ba MR) rfl (okM_P hM) ⟨trivial, hS.2.2.1, hS.2.1, hS.1, trivial⟩ hq)) (by omega) (by omega) rfl rfl rfl (fun v MP1 => ?_)
      refine i_aload_n C dL_law_1230 rfl (q := 2) rfl ?_
      refine i_aload_n C dL_law_1231 rfl (q := 0) rfl ?_
      refine i_iload_n C dL_law_1232 rfl (q := 3) rfl ?_
      refine i_iconst C dL_law_1233 kI_1 ?_
      refine i_iadd C dL_law_1234 ?_
      refine i_scr C hs dL_law_1235 (fun b1 => ?_)
      refine i_aload_n C dL_law_1236 rfl (q := 0) rfl ?_
      refine i_iload_n C dL_law_1237 rfl (q := 3) rfl ?_
      refine i_iconst C dL_law_1238 kI_2 ?_
      refine i_iadd C dL_law_1239 ?_
      refine i_scr C hs dL_law_1240 (fun b2 => ?_)
      refine i_aload_n C dL_law_1241 rfl (q := 0) rfl ?_
      refine i_iload_n C dL_law_1242 rfl (q := 3) rfl ?_
      refine i_iconst C dL_law_1243 kI_3 ?_
      refine i_iadd C dL_law_1244 ?_
      refine i_scr C hs dL_law_1245 (fun b3 => ?_)
      refine i_cG (kc' := n) (ks' := 11264 * n) (fun m => mix MP1 m) 0 0 4 (fun q hq hM hS => crLR C hX hg1 hg2 (as := [aI b1, aI b2, aI b3]) rfl dL_law_1246.1 ml_L_128 cal_X12_unlike cv_X12_unlike (hRm ⟨Nat.le_of_ble_eq_true rfl, Nat.le_of_ble_eq_true rfl⟩) rfl (Nat.le_of_ble_eq_true rfl) (okM_P hM) rfl (fun ba => c_X12_unlike (xl X) (gR (xG X) ba MP1) rfl (okM_R hM) ⟨trivial, hS.2.2.1, hS.2.1, hS.1, trivial⟩ hq)) (by omega) (by omega) rfl rfl rfl (fun w MR1 => ?_)
      refine i_icmp_eq (tgt := 2234) C dL_law_1249 (by decide) ?_ ?_
      · exact hj MP1 MR1
      · exact i_none
    refine i_split (fun e28 => ?_) (fun e28 => ?_)
    · refine i_tswIn (tgt := 1254) C dL_law_33 e28 (by decide) (by decide) rfl (by decide) ?_
      refine i_aload_n C dL_law_1254 rfl (q := 1) rfl ?_
      refine i_aload_n C dL_law_1255 rfl (q := 0) rfl ?_
      refine i_iload_n C dL_law_1256 rfl (q := 3) rfl ?_
      refine i_iconst C dL_law_1257 kI_1 ?_
      refine i_iadd C dL_law_1258 ?_
      refine i_scr C hs dL_law_1259 (fun a1 => ?_)
      refine i_cG (kc' := n) (ks' := 11264 * n) (fun m => mix m MR) 0 0 2 (fun q hq hM hS => crLP C hX hg1 hg2 (as := [aI a1]) dL_law_1260.1 ml_L_129 cal_X11_visits cv_X11_visits (hRm ⟨Nat.le_of_ble_eq_true rfl, Nat.le_of_ble_eq_true rfl⟩) rfl (Nat.le_of_ble_eq_true rfl) (okM_R hM) (fun ba => c_X11_visits (xl X) (gP (xG X) ba MR) rfl (okM_P hM) ⟨trivial, hS.1, trivial⟩ hq)) (by omega) (by omega) rfl rfl rfl (fun v MP1 => ?_)
      refine i_aload_n C dL_law_1263 rfl (q := 2) rfl ?_
      refine i_aload_n C dL_law_1264 rfl (q := 0) rfl ?_
      refine i_iload_n C dL_law_1265 rfl (q := 3) rfl ?_
      refine i_iconst C dL_law_1266 kI_1 ?_
      refine i_iadd C dL_law_1267 ?_
      refine i_scr C hs dL_law_1268 (fun b1 => ?_)
      refine i_cG (kc' := n) (ks' := 11264 * n) (fun m => mix MP1 m) 0 0 2 (fun q hq hM hS => crLR C hX hg1 hg2 (as := [aI b1]) rfl dL_law_1269.1 ml_L_132 cal_X12_visits cv_X12_visits (hRm ⟨Nat.le_of_ble_eq_true rfl, Nat.le_of_ble_eq_true rfl⟩) rfl (Nat.le_of_ble_eq_true rfl) (okM_P hM) rfl (fun ba => c_X12_visits (xl X) (gR (xG X) ba MP1) rfl (okM_R hM) ⟨trivial, hS.1, trivial⟩ hq)) (by omega) (by omega) rfl rfl rfl (fun w MR1 => ?_)
      refine i_icmp_eq (tgt := 2234) C dL_law_1272 (by decide) ?_ ?_
      · exact hj MP1 MR1
      · exact i_none
    refine i_split (fun e29 => ?_) (fun e29 => ?_)
    · refine i_tswIn (tgt := 1277) C dL_law_33 e29 (by decide) (by decide) rfl (by decide) ?_
      refine i_aload_n C dL_law_1277 rfl (q := 1) rfl ?_
      refine i_aload_n C dL_law_1278 rfl (q := 0) rfl ?_
      refine i_iload_n C dL_law_1279 rfl (q := 3) rfl ?_
      refine i_iconst C dL_law_1280 kI_1 ?_
      refine i_iadd C dL_law_1281 ?_
      refine i_scr C hs dL_law_1282 (fun a1 => ?_)
      refine i_cG (kc' := n) (ks' := 11264 * n) (fun m => mix m MR) 0 0 2 (fun q hq hM hS => crLP C hX hg1 hg2 (as := [aI a1]) dL_law_1283.1 ml_L_133 cal_X11_changed cv_X11_changed (hRm ⟨Nat.le_of_ble_eq_true rfl, Nat.le_of_ble_eq_true rfl⟩) rfl (Nat.le_of_ble_eq_true rfl) (okM_R hM) (fun ba => c_X11_changed (xl X) (gP (xG X) ba MR) rfl (okM_P hM) ⟨trivial, hS.1, trivial⟩ hq)) (by omega) (by omega) rfl rfl rfl (fun v MP1 => ?_)
      refine i_aload_n C dL_law_1286 rfl (q := 2) rfl ?_
      refine i_aload_n C dL_law_1287 rfl (q := 0) rfl ?_
      refine i_iload_n C dL_law_1288 rfl (q := 3) rfl ?_
      refine i_iconst C dL_law_1289 kI_1 ?_
      refine i_iadd C dL_law_1290 ?_
      refine i_scr C hs dL_law_1291 (fun b1 => ?_)
      refine i_cG (kc' := n) (ks' := 11264 * n) (fun m => mix MP1 m) 0 0 2 (fun q hq hM hS => crLR C hX hg1 hg2 (as := [aI b1]) rfl dL_law_1292.1 ml_L_136 cal_X12_changed cv_X12_changed (hRm ⟨Nat.le_of_ble_eq_true rfl, Nat.le_of_ble_eq_true rfl⟩) rfl (Nat.le_of_ble_eq_true rfl) (okM_P hM) rfl (fun ba => c_X12_changed (xl X) (gR (xG X) ba MP1) rfl (okM_R hM) ⟨trivial, hS.1, trivial⟩ hq)) (by omega) (by omega) rfl rfl rfl (fun w MR1 => ?_)
      refine i_icmp_eq (tgt := 2234) C dL_law_1295 (by decide) ?_ ?_
      · exact hj MP1 MR1
      · exact i_none
    refine i_split (fun e30 => ?_) (fun e30 => ?_)
    · refine i_tswIn (tgt := 1300) C dL_law_33 e30 (by decide) (by decide) rfl (by decide) ?_
      refine i_aload_n C dL_law_1300 rfl (q := 1) rfl ?_
      refine i_aload_n C dL_law_1301 rfl (q := 0) rfl ?_
      refine i_iload_n C dL_law_1302 rfl (q := 3) rfl ?_
      refine i_iconst C dL_law_1303 kI_1 ?_
      refine i_iadd C dL_law_1304 ?_
      refine i_scr C hs dL_law_1305 (fun a1 => ?_)
      refine i_aload_n C dL_law_1306 rfl (q := 0) rfl ?_
      refine i_iload_n C dL_law_1307 rfl (q := 3) rfl ?_
      refine i_iconst C dL_law_1308 kI_2 ?_
      refine i_iadd C dL_law_1309 ?_
      refine i_scr C hs dL_law_1310 (fun a2 => ?_)
      refine i_aload_n C dL_law_1311 rfl (q := 0) rfl ?_
      refine i_iload_n C dL_law_1312 rfl (q := 3) rfl ?_
      refine i_iconst C dL_law_1313 kI_3 ?_
      refine i_iadd C dL_law_1314 ?_
      refine i_scr C hs dL_law_1315 (fun a3 => ?_)
      refine i_aload_n C dL_law_1316 rfl (q := 0) rfl ?_
      refine i_iload_n C dL_law_1317 rfl (q := 3) rfl ?_
      refine i_iconst C dL_law_1318 kI_4 ?_
      refine i_iadd C dL_law_1319 ?_
      refine i_scr C hs dL_law_1320 (fun a4 => ?_)
      refine i_cG (kc' := n) (ks' := 11264 * n) (fun m => mix m MR) 0 0 5 (fun q hq hM hS => crLP C hX hg1 hg2 (as := [aI a1, aI a2, aI a3, aI a4]) dL_law_1321.1 ml_L_137 cal_X11_house cv_X11_house (hRm ⟨Nat.le_of_ble_eq_true rfl, Nat.le_of_ble_eq_true rfl⟩) rfl (Nat.le_of_ble_eq_true rfl) (okM_R hM) (fun ba => c_X11_house (xl X) (gP (xG X) ba MR) rfl (okM_P hM) ⟨trivial, hS.2.2.2.1, hS.2.2.1, hS.2.1, hS.1, trivial⟩ hq)) (by omega) (by omega) rfl rfl rfl (fun v MP1 => ?_)
      refine i_aload_n C dL_law_1324 rfl (q := 2) rfl ?_
      refine i_aload_n C dL_law_1325 rfl (q := 0) rfl ?_
      refine i_iload_n C dL_law_1326 rfl (q := 3) rfl ?_
      refine i_iconst C dL_law_1327 kI_1 ?_
      refine i_iadd C dL_law_1328 ?_
      refine i_scr C hs dL_law_1329 (fun b1 => ?_)
      refine i_aload_n C dL_law_1330 rfl (q := 0) rfl ?_
      refine i_iload_n C dL_law_1331 rfl (q := 3) rfl ?_
      refine i_iconst C dL_law_1332 kI_2 ?_
      refine i_iadd C dL_law_1333 ?_
      refine i_scr C hs dL_law_1334 (fun b2 => ?_)
      refine i_aload_n C dL_law_1335 rfl (q := 0) rfl ?_
      refine i_iload_n C dL_law_1336 rfl (q := 3) rfl ?_
      refine i_iconst C dL_law_1337 kI_3 ?_
      refine i_iadd C dL_law_1338 ?_
      refine i_scr C hs dL_law_1339 (fun b3 => ?_)
      refine i_aload_n C dL_law_1340 rfl (q := 0) rfl ?_
      refine i_iload_n C dL_law_1341 rfl (q := 3) rfl ?_
      refine i_iconst C dL_law_1342 kI_4 ?_
      refine i_iadd C dL_law_1343 ?_
      refine i_scr C hs dL_law_1344 (fun b4 => ?_)
      refine i_cG (kc' := n) (ks' := 11264 * n) (fun m => mix MP1 m) 0 0 5 (fun q hq hM hS => crLR C hX hg1 hg2 (as := [aI b1, aI b2, aI b3, aI b4]) rfl dL_law_1345.1 ml_L_140 cal_X12_house cv_X12_house (hRm ⟨Nat.le_of_ble_eq_true rfl, Nat.le_of_ble_eq_true rfl⟩) rfl (Nat.le_of_ble_eq_true rfl) (okM_P hM) rfl (fun ba => c_X12_house (xl X) (gR (xG X) ba MP1) rfl (okM_R hM) ⟨trivial, hS.2.2.2.1, hS.2.2.1, hS.2.1, hS.1, trivial⟩ hq)) (by omega) (by omega) rfl rfl rfl (fun w MR1 => ?_)
      refine i_icmp_eq (tgt := 2234) C dL_law_1348 (by decide) ?_ ?_
      · exact hj MP1 MR1
      · exact i_none
    refine i_split (fun e31 => ?_) (fun e31 => ?_)
    · refine i_tswIn (tgt := 1353) C dL_law_33 e31 (by decide) (by decide) rfl (by decide) ?_
      refine i_aload_n C dL_law_1353 rfl (q := 1) rfl ?_
      refine i_aload_n C dL_law_1354 rfl (q := 0) rfl ?_
      refine i_iload_n C dL_law_1355 rfl (q := 3) rfl ?_
      refine i_iconst C dL_law_1356 kI_1 ?_
      refine i_iadd C dL_law_1357 ?_
      refine i_scr C hs dL_law_1358 (fun a1 => ?_)
      refine i_cG (kc' := n) (ks' := 11264 * n) (fun m => mix m MR) 0 0 2 (fun q hq hM hS => crLP C hX hg1 hg2 (as := [aI a1]) dL_law_1359.1 ml_L_141 cal_X11_flow cv_X11_flow (hRm ⟨Nat.le_of_ble_eq_true rfl, Nat.le_of_ble_eq_true rfl⟩) rfl (Nat.le_of_ble_eq_true rfl) (okM_R hM) (fun ba => c_X11_flow (xl X) (gP (xG X) ba MR) rfl (okM_P hM) ⟨trivial, hS.1, trivial⟩ hq)) (by omega) (by omega) rfl rfl rfl (fun v MP1 => ?_)
      refine i_aload_n C dL_law_1362 rfl (q := 2) rfl ?_
      refine i_aload_n C dL_law_1363 rfl (q := 0) rfl ?_
      refine i_iload_n C dL_law_1364 rfl (q := 3) rfl ?_
      refine i_iconst C dL_law_1365 kI_1 ?_
      refine i_iadd C dL_law_1366 ?_
      refine i_scr C hs dL_law_1367 (fun b1 => ?_)
      refine i_cG (kc' := n) (ks' := 11264 * n) (fun m => mix MP1 m) 0 0 2 (fun q hq hM hS => crLR C hX hg1 hg2 (as := [aI b1]) rfl dL_law_1368.1 ml_L_144 cal_X12_flow cv_X12_flow (hRm ⟨Nat.le_of_ble_eq_true rfl, Nat.le_of_ble_eq_true rfl⟩) rfl (Nat.le_of_ble_eq_true rfl) (okM_P hM) rfl (fun ba => c_X12_flow (xl X) (gR (xG X) ba MP1) rfl (okM_R hM) ⟨trivial, hS.1, trivial⟩ hq)) (by omega) (by omega) rfl rfl rfl (fun w MR1 => ?_)
      refine i_icmp_eq (tgt := 2234) C dL_law_1371 (by decide) ?_ ?_
      · exact hj MP1 MR1
      · exact i_none
    refine i_split (fun e32 => ?_) (fun e32 => ?_)
    · refine i_tswIn (tgt := 1376) C dL_law_33 e32 (by decide) (by decide) rfl (by decide) ?_
      refine i_aload_n C dL_law_1376 rfl (q := 1) rfl ?_
      refine i_aload_n C dL_law_1377 rfl (q := 0) rfl ?_
      refine i_iload_n C dL_law_1378 rfl (q := 3) rfl ?_
      refine i_iconst C dL_law_1379 kI_1 ?_
      refine i_iadd C dL_law_1380 ?_
      refine i_scr C hs dL_law_1381 (fun a1 => ?_)
      refine i_cG (kc' := n) (ks' := 11264 * n) (fun m => mix m MR) 0 0 2 (fun q hq hM hS => crLP C hX hg1 hg2 (as := [aI a1]) dL_law_1382.1 ml_L_145 cal_X11_lack cv_X11_lack (hRm ⟨Nat.le_of_ble_eq_true rfl, Nat.le_of_ble_eq_true rfl⟩) rfl (Nat.le_of_ble_eq_true rfl) (okM_R hM) (fun ba => c_X11_lack (xl X) (gP (xG X) ba MR) rfl (okM_P hM) ⟨trivial, hS.1, trivial⟩ hq)) (by omega) (by omega) rfl rfl rfl (fun v MP1 => ?_)
      refine i_aload_n C dL_law_1385 rfl (q := 2) rfl ?_
      refine i_aload_n C dL_law_1386 rfl (q := 0) rfl ?_
      refine i_iload_n C dL_law_1387 rfl (q := 3) rfl ?_
      refine i_iconst C dL_law_1388 kI_1 ?_
      refine i_iadd C dL_law_1389 ?_
      refine i_scr C hs dL_law_1390 (fun b1 => ?_)
      refine i_cG (kc' := n) (ks' := 11264 * n) (fun m => mix MP1 m) 0 0 2 (fun q hq hM hS => crLR C hX hg1 hg2 (as := [aI b1]) rfl dL_law_1391.1 ml_L_148 cal_X12_lack cv_X12_lack (hRm ⟨Nat.le_of_ble_eq_true rfl, Nat.le_of_ble_eq_true rfl⟩) rfl (Nat.le_of_ble_eq_true rfl) (okM_P hM) rfl (fun ba => c_X12_lack (xl X) (gR (xG X) ba MP1) rfl (okM_R hM) ⟨trivial, hS.1, trivial⟩ hq)) (by omega) (by omega) rfl rfl rfl (fun w MR1 => ?_)
      refine i_icmp_eq (tgt := 2234) C dL_law_1394 (by decide) ?_ ?_
      · exact hj MP1 MR1
      · exact i_none
    refine i_split (fun e33 => ?_) (fun e33 => ?_)
    · refine i_tswIn (tgt := 1399) C dL_law_33 e33 (by decide) (by decide) rfl (by decide) ?_
      refine i_aload_n C dL_law_1399 rfl (q := 1) rfl ?_
      refine i_aload_n C dL_law_1400 rfl (q := 0) rfl ?_
      refine i_iload_n C dL_law_1401 rfl (q := 3) rfl ?_
      refine i_iconst C dL_law_1402 kI_1 ?_
      refine i_iadd C dL_law_1403 ?_
      refine i_scr C hs dL_law_1404 (fun a1 => ?_)
      refine i_aload_n C dL_law_1405 rfl (q := 0) rfl ?_
      refine i_iload_n C dL_law_1406 rfl (q := 3) rfl ?_
      refine i_iconst C dL_law_1407 kI_2 ?_
      refine i_iadd C dL_law_1408 ?_
      refine i_scr C hs dL_law_1409 (fun a2 => ?_)
      refine i_cG (kc' := n) (ks' := 11264 * n) (fun m => mix m MR) 0 0 3 (fun q hq hM hS => crLP C hX hg1 hg2 (as := [aI a1, aI a2]) dL_law_1410.1 ml_L_149 cal_X11_need cv_X11_need (hRm ⟨Nat.le_of_ble_eq_true rfl, Nat.le_of_ble_eq_true rfl⟩) rfl (Nat.le_of_ble_eq_true rfl) (okM_R hM) (fun ba => c_X11_need (xl X) (gP (xG X) ba MR) rfl (okM_P hM) ⟨trivial, hS.2.1, hS.1, trivial⟩ hq)) (by omega) (by omega) rfl rfl rfl (fun v MP1 => ?_)
      refine i_aload_n C dL_law_1413 rfl (q := 2) rfl ?_
      refine i_aload_n C dL_law_1414 rfl (q := 0) rfl ?_
      refine i_iload_n C dL_law_1415 rfl (q := 3) rfl ?_
      refine i_iconst C dL_law_1416 kI_1 ?_
      refine i_iadd C dL_law_1417 ?_
      refine i_scr C hs dL_law_1418 (fun b1 => ?_)
      refine i_aload_n C dL_law_1419 rfl (q := 0) rfl ?_
      refine i_iload_n C dL_law_1420 rfl (q := 3) rfl ?_
      refine i_iconst C dL_law_1421 kI_2 ?_
      refine i_iadd C dL_law_1422 ?_
      refine i_scr C hs dL_law_1423 (fun b2 => ?_)
      refine i_cG (kc' := n) (ks' := 11264 * n) (fun m => mix MP1 m) 0 0 3 (fun q hq hM hS => crLR C hX hg1 hg2 (as := [aI b1, aI b2]) rfl dL_law_1424.1 ml_L_152 cal_X12_need cv_X12_need (hRm ⟨Nat.le_of_ble_eq_true rfl, Nat.le_of_ble_eq_true rfl⟩) rfl (Nat.le_of_ble_eq_true rfl) (okM_P hM) rfl (fun ba => c_X12_need (xl X) (gR (xG X) ba MP1) rfl (okM_R hM) ⟨trivial, hS.2.1, hS.1, trivial⟩ hq)) (by omega) (by omega) rfl rfl rfl (fun w MR1 => ?_)
      refine i_icmp_eq (tgt := 2234) C dL_law_1427 (by decide) ?_ ?_
      · exact hj MP1 MR1
      · exact i_none
    refine i_split (fun e34 => ?_) (fun e34 => ?_)
    · refine i_tswIn (tgt := 1432) C dL_law_33 e34 (by decide) (by decide) rfl (by decide) ?_
      refine i_aload_n C dL_law_1432 rfl (q := 1) rfl ?_
      refine i_aload_n C dL_law_1433 rfl (q := 0) rfl ?_
      refine i_iload_n C dL_law_1434 rfl (q := 3) rfl ?_
      refine i_iconst C dL_law_1435 kI_1 ?_
      refine i_iadd C dL_law_1436 ?_
      refine i_scr C hs dL_law_1437 (fun a1 => ?_)
      refine i_aload_n C dL_law_1438 rfl (q := 0) rfl ?_
      refine i_iload_n C dL_law_1439 rfl (q := 3) rfl ?_
      refine i_iconst C dL_law_1440 kI_2 ?_
      refine i_iadd C dL_law_1441 ?_
      refine i_scr C hs dL_law_1442 (fun a2 => ?_)
      refine i_aload_n C dL_law_1443 rfl (q := 0) rfl ?_
      refine i_iload_n C dL_law_1444 rfl (q := 3) rfl ?_
      refine i_iconst C dL_law_1445 kI_3 ?_
      refine i_iadd C dL_law_1446 ?_
      refine i_scr C hs dL_law_1447 (fun a3 => ?_)
      refine i_cG (kc' := n) (ks' := 11264 * n) (fun m => mix m MR) 0 0 4 (fun q hq hM hS => crLP C hX hg1 hg2 (as := [aI a1, aI a2, aI a3]) dL_law_1448.1 ml_L_153 cal_X11_stop cv_X11_stop (hRm ⟨Nat.le_of_ble_eq_true rfl, Nat.le_of_ble_eq_true rfl⟩) rfl (Nat.le_of_ble_eq_true rfl) (okM_R hM) (fun ba => c_X11_stop (xl X) (gP (xG X) ba MR) rfl (okM_P hM) ⟨trivial, hS.2.2.1, hS.2.1, hS.1, trivial⟩ hq)) (by omega) (by omega) rfl rfl rfl (fun v MP1 => ?_)
      refine i_aload_n C dL_law_1451 rfl (q := 2) rfl ?_
      refine i_aload_n C dL_law_1452 rfl (q := 0) rfl ?_
      refine i_iload_n C dL_law_1453 rfl (q := 3) rfl ?_
      refine i_iconst C dL_law_1454 kI_1 ?_
      refine i_iadd C dL_law_1455 ?_
      refine i_scr C hs dL_law_1456 (fun b1 => ?_)
      refine i_aload_n C dL_law_1457 rfl (q := 0) rfl ?_
      refine i_iload_n C dL_law_1458 rfl (q := 3) rfl ?_
      refine i_iconst C dL_law_1459 kI_2 ?_
      refine i_iadd C dL_law_1460 ?_
      refine i_scr C hs dL_law_1461 (fun b2 => ?_)
      refine i_aload_n C dL_law_1462 rfl (q := 0) rfl ?_
      refine i_iload_n C dL_law_1463 rfl (q := 3) rfl ?_
      refine i_iconst C dL_law_1464 kI_3 ?_
      refine i_iadd C dL_law_1465 ?_
      refine i_scr C hs dL_law_1466 (fun b3 => ?_)
      refine i_cG (kc' := n) (ks' := 11264 * n) (fun m => mix MP1 m) 0 0 4 (fun q hq hM hS => crLR C hX hg1 hg2 (as := [aI b1, aI b2, aI b3]) rfl dL_law_1467.1 ml_L_156 cal_X12_stop cv_X12_stop (hRm ⟨Nat.le_of_ble_eq_true rfl, Nat.le_of_ble_eq_true rfl⟩) rfl (Nat.le_of_ble_eq_true rfl) (okM_P hM) rfl (fun ba => c_X12_stop (xl X) (gR (xG X) ba MP1) rfl (okM_R hM) ⟨trivial, hS.2.2.1, hS.2.1, hS.1, trivial⟩ hq)) (by omega) (by omega) rfl rfl rfl (fun w MR1 => ?_)
      refine i_icmp_eq (tgt := 2234) C dL_law_1470 (by decide) ?_ ?_
      · exact hj MP1 MR1
      · exact i_none
    refine i_split (fun e35 => ?_) (fun e35 => ?_)
    · refine i_tswIn (tgt := 1475) C dL_law_33 e35 (by decide) (by decide) rfl (by decide) ?_
      refine i_aload_n C dL_law_1475 rfl (q := 1) rfl ?_
      refine i_aload_n C dL_law_1476 rfl (q := 0) rfl ?_
      refine i_iload_n C dL_law_1477 rfl (q := 3) rfl ?_
      refine i_iconst C dL_law_1478 kI_1 ?_
      refine i_iadd C dL_law_1479 ?_
      refine i_scr C hs dL_law_1480 (fun a1 => ?_)
      refine i_aload_n C dL_law_1481 rfl (q := 0) rfl ?_
      refine i_iload_n C dL_law_1482 rfl (q := 3) rfl ?_
      refine i_iconst C dL_law_1483 kI_2 ?_
      refine i_iadd C dL_law_1484 ?_
      refine i_scr C hs dL_law_1485 (fun a2 => ?_)
      refine i_aload_n C dL_law_1486 rfl (q := 0) rfl ?_
      refine i_iload_n C dL_law_1487 rfl (q := 3) rfl ?_
      refine i_iconst C dL_law_1488 kI_3 ?_
      refine i_iadd C dL_law_1489 ?_
      refine i_scr C hs dL_law_1490 (fun a3 => ?_)
      refine i_aload_n C dL_law_1491 rfl (q := 0) rfl ?_
      refine i_iload_n C dL_law_1492 rfl (q := 3) rfl ?_
      refine i_iconst C dL_law_1493 kI_4 ?_
      refine i_iadd C dL_law_1494 ?_
      refine i_scr C hs dL_law_1495 (fun a4 => ?_)
      refine i_cG (kc' := n) (ks' := 11264 * n) (fun m => mix m MR) 0 0 5 (fun q hq hM hS => crLP C hX hg1 hg2 (as := [aI a1, aI a2, aI a3, aI a4]) dL_law_1496.1 ml_L_157 cal_X11_train cv_X11_train (hRm ⟨Nat.le_of_ble_eq_true rfl, Nat.le_of_ble_eq_true rfl⟩) rfl (Nat.le_of_ble_eq_true rfl) (okM_R hM) (fun ba => c_X11_train (xl X) (gP (xG X) ba MR) rfl (okM_P hM) ⟨trivial, hS.2.2.2.1, hS.2.2.1, hS.2.1, hS.1, trivial⟩ hq)) (by omega) (by omega) rfl rfl rfl (fun v MP1 => ?_)
      refine i_aload_n C dL_law_1499 rfl (q := 2) rfl ?_
      refine i_aload_n C dL_law_1500 rfl (q := 0) rfl ?_
      refine i_iload_n C dL_law_1501 rfl (q := 3) rfl ?_
      refine i_iconst C dL_law_1502 kI_1 ?_
      refine i_iadd C dL_law_1503 ?_
      refine i_scr C hs dL_law_1504 (fun b1 => ?_)
      refine i_aload_n C dL_law_1505 rfl (q := 0) rfl ?_
      refine i_iload_n C dL_law_1506 rfl (q := 3) rfl ?_
      refine i_iconst C dL_law_1507 kI_2 ?_
      refine i_iadd C dL_law_1508 ?_
      refine i_scr C hs dL_law_1509 (fun b2 => ?_)
      refine i_aload_n C dL_law_1510 rfl (q := 0) rfl ?_
      refine i_iload_n C dL_law_1511 rfl (q := 3) rfl ?_
      refine i_iconst C dL_law_1512 kI_3 ?_
      refine i_iadd C dL_law_1513 ?_
      refine i_scr C hs dL_law_1514 (fun b3 => ?_)
      refine i_aload_n C dL_law_1515 rfl (q := 0) rfl ?_
      refine i_iload_n C dL_law_1516 rfl (q := 3) rfl ?_
      refine i_iconst C dL_law_1517 kI_4 ?_
      refine i_iadd C dL_law_1518 ?_
      refine i_scr C hs dL_law_1519 (fun b4 => ?_)
      refine i_cG (kc' := n) (ks' := 11264 * n) (fun m => mix MP1 m) 0 0 5 (fun q hq hM hS => crLR C hX hg1 hg2 (as := [aI b1, aI b2, aI b3, aI b4]) rfl dL_law_1520.1 ml_L_160 cal_X12_train cv_X12_train (hRm ⟨Nat.le_of_ble_eq_true rfl, Nat.le_of_ble_eq_true rfl⟩) rfl (Nat.le_of_ble_eq_true rfl) (okM_P hM) rfl (fun ba => c_X12_train (xl X) (gR (xG X) ba MP1) rfl (okM_R hM) ⟨trivial, hS.2.2.2.1, hS.2.2.1, hS.2.1, hS.1, trivial⟩ hq)) (by omega) (by omega) rfl rfl rfl (fun w MR1 => ?_)
      refine i_icmp_eq (tgt := 2234) C dL_law_1523 (by decide) ?_ ?_
      · exact hj MP1 MR1
      · exact i_none
    refine i_split (fun e36 => ?_) (fun e36 => ?_)
    · refine i_tswIn (tgt := 1528) C dL_law_33 e36 (by decide) (by decide) rfl (by decide) ?_
      refine i_aload_n C dL_law_1528 rfl (q := 1) rfl ?_
      refine i_aload_n C dL_law_1529 rfl (q := 0) rfl ?_
      refine i_iload_n C dL_law_1530 rfl (q := 3) rfl ?_
      refine i_iconst C dL_law_1531 kI_1 ?_
      refine i_iadd C dL_law_1532 ?_
      refine i_scr C hs dL_law_1533 (fun a1 => ?_)
      refine i_aload_n C dL_law_1534 rfl (q := 0) rfl ?_
      refine i_iload_n C dL_law_1535 rfl (q := 3) rfl ?_
      refine i_iconst C dL_law_1536 kI_2 ?_
      refine i_iadd C dL_law_1537 ?_
      refine i_scr C hs dL_law_1538 (fun a2 => ?_)
      refine i_aload_n C dL_law_1539 rfl (q := 0) rfl ?_
      refine i_iload_n C dL_law_1540 rfl (q := 3) rfl ?_
      refine i_iconst C dL_law_1541 kI_3 ?_
      refine i_iadd C dL_law_1542 ?_
      refine i_scr C hs dL_law_1543 (fun a3 => ?_)
      refine i_cG (kc' := n) (ks' := 11264 * n) (fun m => mix m MR) 0 0 4 (fun q hq hM hS => crLP C hX hg1 hg2 (as := [aI a1, aI a2, aI a3]) dL_law_1544.1 ml_L_161 cal_X11_file cv_X11_file (hRm ⟨Nat.le_of_ble_eq_true rfl, Nat.le_of_ble_eq_true rfl⟩) rfl (Nat.le_of_ble_eq_true rfl) (okM_R hM) (fun ba => c_X11_file (xl X) (gP (xG X) ba MR) rfl (okM_P hM) ⟨trivial, hS.2.2.1, hS.2.1, hS.1, trivial⟩ hq)) (by omega) (by omega) rfl rfl rfl (fun v MP1 => ?_)
      refine i_aload_n C dL_law_1547 rfl (q := 2) rfl ?_
      refine i_aload_n C dL_law_1548 rfl (q := 0) rfl ?_
      refine i_iload_n C dL_law_1549 rfl (q := 3) rfl ?_
      refine i_iconst C dL_law_1550 kI_1 ?_
      refine i_iadd C dL_law_1551 ?_
      refine i_scr C hs dL_law_1552 (fun b1 => ?_)
      refine i_aload_n C dL_law_1553 rfl (q := 0) rfl ?_
      refine i_iload_n C dL_law_1554 rfl (q := 3) rfl ?_
      refine i_iconst C dL_law_1555 kI_2 ?_
      refine i_iadd C dL_law_1556 ?_
      refine i_scr C hs dL_law_1557 (fun b2 => ?_)
      refine i_aload_n C dL_law_1558 rfl (q := 0) rfl ?_
      refine i_iload_n C dL_law_1559 rfl (q := 3) rfl ?_
      refine i_iconst C dL_law_1560 kI_3 ?_
      refine i_iadd C dL_law_1561 ?_
      refine i_scr C hs dL_law_1562 (fun b3 => ?_)
      refine i_cG (kc' := n) (ks' := 11264 * n) (fun m => mix MP1 m) 0 0 4 (fun q hq hM hS => crLR C hX hg1 hg2 (as := [aI b1, aI b2, aI b3]) rfl dL_law_1563.1 ml_L_164 cal_X12_file cv_X12_file (hRm ⟨Nat.le_of_ble_eq_true rfl, Nat.le_of_ble_eq_true rfl⟩) rfl (Nat.le_of_ble_eq_true rfl) (okM_P hM) rfl (fun ba => c_X12_file (xl X) (gR (xG X) ba MP1) rfl (okM_R hM) ⟨trivial, hS.2.2.1, hS.2.1, hS.1, trivial⟩ hq)) (by omega) (by omega) rfl rfl rfl (fun w MR1 => ?_)
      refine i_icmp_eq (tgt := 2234) C dL_law_1566 (by decide) ?_ ?_
      · exact hj MP1 MR1
      · exact i_none
    refine i_split (fun e37 => ?_) (fun e37 => ?_)
    · refine i_tswIn (tgt := 1571) C dL_law_33 e37 (by decide) (by decide) rfl (by decide) ?_
      refine i_aload_n C dL_law_1571 rfl (q := 1) rfl ?_
      refine i_aload_n C dL_law_1572 rfl (q := 0) rfl ?_
      refine i_iload_n C dL_law_1573 rfl (q := 3) rfl ?_
      refine i_iconst C dL_law_1574 kI_1 ?_
      refine i_iadd C dL_law_1575 ?_
      refine i_scr C hs dL_law_1576 (fun a1 => ?_)
      refine i_aload_n C dL_law_1577 rfl (q := 0) rfl ?_
      refine i_iload_n C dL_law_1578 rfl (q := 3) rfl ?_
      refine i_iconst C dL_law_1579 kI_2 ?_
      refine i_iadd C dL_law_1580 ?_
      refine i_scr C hs dL_law_1581 (fun a2 => ?_)
      refine i_cG (kc' := n) (ks' := 11264 * n) (fun m => mix m MR) 0 0 3 (fun q hq hM hS => crLP C hX hg1 hg2 (as := [aI a1, aI a2]) dL_law_1582.1 ml_L_165 cal_X11_alike cv_X11_alike (hRm ⟨Nat.le_of_ble_eq_true rfl, Nat.le_of_ble_eq_true rfl⟩) rfl (Nat.le_of_ble_eq_true rfl) (okM_R hM) (fun ba => c_X11_alike (xl X) (gP (xG X) ba MR) rfl (okM_P hM) ⟨trivial, hS.2.1, hS.1, trivial⟩ hq)) (by omega) (by omega) rfl rfl rfl (fun v MP1 => ?_)
      refine i_aload_n C dL_law_1585 rfl (q := 2) rfl ?_
      refine i_aload_n C dL_law_1586 rfl (q := 0) rfl ?_
      refine i_iload_n C dL_law_1587 rfl (q := 3) rfl ?_
      refine i_iconst C dL_law_1588 kI_1 ?_
      refine i_iadd C dL_law_1589 ?_
      refine i_scr C hs dL_law_1590 (fun b1 => ?_)
      refine i_aload_n C dL_law_1591 rfl (q := 0) rfl ?_
      refine i_iload_n C dL_law_1592 rfl (q := 3) rfl ?_
      refine i_iconst C dL_law_1593 kI_2 ?_
      refine i_iadd C dL_law_1594 ?_
      refine i_scr C hs dL_law_1595 (fun b2 => ?_)
      refine i_cG (kc' := n) (ks' := 11264 * n) (fun m => mix MP1 m) 0 0 3 (fun q hq hM hS => crLR C hX hg1 hg2 (as := [aI b1, aI b2]) rfl dL_law_1596.1 ml_L_168 cal_X12_alike cv_X12_alike (hRm ⟨Nat.le_of_ble_eq_true rfl, Nat.le_of_ble_eq_true rfl⟩) rfl (Nat.le_of_ble_eq_true rfl) (okM_P hM) rfl (fun ba => c_X12_alike (xl X) (gR (xG X) ba MP1) rfl (okM_R hM) ⟨trivial, hS.2.1, hS.1, trivial⟩ hq)) (by omega) (by omega) rfl rfl rfl (fun w MR1 => ?_)
      refine i_icmp_eq (tgt := 2234) C dL_law_1599 (by decide) ?_ ?_
      · exact hj MP1 MR1
      · exact i_none
    refine i_split (fun e38 => ?_) (fun e38 => ?_)
    · refine i_tswIn (tgt := 1604) C dL_law_33 e38 (by decide) (by decide) rfl (by decide) ?_
      refine i_aload_n C dL_law_1604 rfl (q := 1) rfl ?_
      refine i_aload_n C dL_law_1605 rfl (q := 0) rfl ?_
      refine i_iload_n C dL_law_1606 rfl (q := 3) rfl ?_
      refine i_iconst C dL_law_1607 kI_1 ?_
      refine i_iadd C dL_law_1608 ?_
      refine i_scr C hs dL_law_1609 (fun a1 => ?_)
      refine i_cG (kc' := n) (ks' := 11264 * n) (fun m => mix m MR) 1 11264 2 (fun q hq hM hS => crLP C hX hg1 hg2 (as := [aI a1]) dL_law_1610.1 ml_L_169 cal_X11_pairing cv_X11_pairing (hRm ⟨Nat.le_of_ble_eq_true rfl, Nat.le_of_ble_eq_true rfl⟩) rfl (Nat.le_of_ble_eq_true rfl) (okM_R hM) (fun ba => c_X11_pairing (xl X) (gP (xG X) ba MR) rfl (okM_P hM) ⟨trivial, hS.1, trivial⟩ hq)) (by omega) (by omega) rfl rfl rfl (fun v MP1 => ?_)
      refine i_aload_n C dL_law_1613 rfl (q := 2) rfl ?_
      refine i_aload_n C dL_law_1614 rfl (q := 0) rfl ?_
      refine i_iload_n C dL_law_1615 rfl (q := 3) rfl ?_
      refine i_iconst C dL_law_1616 kI_1 ?_
      refine i_iadd C dL_law_1617 ?_
      refine i_scr C hs dL_law_1618 (fun b1 => ?_)
      refine i_cG (kc' := n) (ks' := 11264 * n) (fun m => mix MP1 m) 0 0 2 (fun q hq hM hS => crLR C hX hg1 hg2 (as := [aI b1]) rfl dL_law_1619.1 ml_L_172 cal_X12_pairing cv_X12_pairing (hRm ⟨Nat.le_of_ble_eq_true rfl, Nat.le_of_ble_eq_true rfl⟩) rfl (Nat.le_of_ble_eq_true rfl) (okM_P hM) rfl (fun ba => c_X12_pairing (xl X) (gR (xG X) ba MP1) rfl (okM_R hM) ⟨trivial, hS.1, trivial⟩ hq)) (by omega) (by omega) rfl rfl rfl (fun w MR1 => ?_)
      refine i_icmp_eq (tgt := 2234) C dL_law_1622 (by decide) ?_ ?_
      · exact hj MP1 MR1
      · exact i_none
    refine i_split (fun e39 => ?_) (fun e39 => ?_)
    · refine i_tswIn (tgt := 1627) C dL_law_33 e39 (by decide) (by decide) rfl (by decide) ?_
      refine i_aload_n C dL_law_1627 rfl (q := 1) rfl ?_
      refine i_aload_n C dL_law_1628 rfl (q := 0) rfl ?_
      refine i_iload_n C dL_law_1629 rfl (q := 3) rfl ?_
      refine i_iconst C dL_law_1630 kI_1 ?_
      refine i_iadd C dL_law_1631 ?_
      refine i_scr C hs dL_law_1632 (fun a1 => ?_)
      refine i_aload_n C dL_law_1633 rfl (q := 0) rfl ?_
      refine i_iload_n C dL_law_1634 rfl (q := 3) rfl ?_
      refine i_iconst C dL_law_1635 kI_2 ?_
      refine i_iadd C dL_law_1636 ?_
      refine i_scr C hs dL_law_1637 (fun a2 => ?_)
      refine i_aload_n C dL_law_1638 rfl (q := 0) rfl ?_
      refine i_iload_n C dL_law_1639 rfl (q := 3) rfl ?_
      refine i_iconst C dL_law_1640 kI_3 ?_
      refine i_iadd C dL_law_1641 ?_
      refine i_scr C hs dL_law_1642 (fun a3 => ?_)
      refine i_cG (kc' := n) (ks' := 11264 * n) (fun m => mix m MR) 0 0 4 (fun q hq hM hS => crLP C hX hg1 hg2 (as := [aI a1, aI a2, aI a3]) dL_law_1643.1 ml_L_173 cal_X11_meter cv_X11_meter (hRm ⟨Nat.le_of_ble_eq_true rfl, Nat.le_of_ble_eq_true rfl⟩) rfl (Nat.le_of_ble_eq_true rfl) (okM_R hM) (fun ba => c_X11_meter (xl X) (gP (xG X) ba MR) rfl (okM_P hM) ⟨trivial, hS.2.2.1, hS.2.1, hS.1, trivial⟩ hq)) (by omega) (by omega) rfl rfl rfl (fun v MP1 => ?_)
      refine i_aload_n C dL_law_1646 rfl (q := 2) rfl ?_
      refine i_aload_n C dL_law_1647 rfl (q := 0) rfl ?_
      refine i_iload_n C dL_law_1648 rfl (q := 3) rfl ?_
      refine i_iconst C dL_law_1649 kI_1 ?_
      refine i_iadd C dL_law_1650 ?_
      refine i_scr C hs dL_law_1651 (fun b1 => ?_)
      refine i_aload_n C dL_law_1652 rfl (q := 0) rfl ?_
      refine i_iload_n C dL_law_1653 rfl (q := 3) rfl ?_
      refine i_iconst C dL_law_1654 kI_2 ?_
      refine i_iadd C dL_law_1655 ?_
      refine i_scr C hs dL_law_1656 (fun b2 => ?_)
      refine i_aload_n C dL_law_1657 rfl (q := 0) rfl ?_
      refine i_iload_n C dL_law_1658 rfl (q := 3) rfl ?_
      refine i_iconst C dL_law_1659 kI_3 ?_
      refine i_iadd C dL_law_1660 ?_
      refine i_scr C hs dL_law_1661 (fun b3 => ?_)
      refine i_cG (kc' := n) (ks' := 11264 * n) (fun m => mix MP1 m) 0 0 4 (fun q hq hM hS => crLR C hX hg1 hg2 (as := [aI b1, aI b2, aI b3]) rfl dL_law_1662.1 ml_L_176 cal_X12_meter cv_X12_meter (hRm ⟨Nat.le_of_ble_eq_true rfl, Nat.le_of_ble_eq_true rfl⟩) rfl (Nat.le_of_ble_eq_true rfl) (okM_P hM) rfl (fun ba => c_X12_meter (xl X) (gR (xG X) ba MP1) rfl (okM_R hM) ⟨trivial, hS.2.2.1, hS.2.1, hS.1, trivial⟩ hq)) (by omega) (by omega) rfl rfl rfl (fun w MR1 => ?_)
      refine i_icmp_eq (tgt := 2234) C dL_law_1665 (by decide) ?_ ?_
      · exact hj MP1 MR1
      · exact i_none
    refine i_split (fun e40 => ?_) (fun e40 => ?_)
    · refine i_tswIn (tgt := 1670) C dL_law_33 e40 (by decide) (by decide) rfl (by decide) ?_
      refine i_aload_n C dL_law_1670 rfl (q := 1) rfl ?_
      refine i_aload_n C dL_law_1671 rfl (q := 0) rfl ?_
      refine i_iload_n C dL_law_1672 rfl (q := 3) rfl ?_
      refine i_iconst C dL_law_1673 kI_1 ?_
      refine i_iadd C dL_law_1674 ?_
      refine i_scr C hs dL_law_1675 (fun a1 => ?_)
      refine i_aload_n C dL_law_1676 rfl (q := 0) rfl ?_
      refine i_iload_n C dL_law_1677 rfl (q := 3) rfl ?_
      refine i_iconst C dL_law_1678 kI_2 ?_
      refine i_iadd C dL_law_1679 ?_
      refine i_scr C hs dL_law_1680 (fun a2 => ?_)
      refine i_aload_n C dL_law_1681 rfl (q := 0) rfl ?_
      refine i_iload_n C dL_law_1682 rfl (q := 3) rfl ?_
      refine i_iconst C dL_law_1683 kI_3 ?_
      refine i_iadd C dL_law_1684 ?_
      refine i_scr C hs dL_law_1685 (fun a3 => ?_)
      refine i_cG (kc' := n) (ks' := 11264 * n) (fun m => mix m MR) 0 0 4 (fun q hq hM hS => crLP C hX hg1 hg2 (as := [aI a1, aI a2, aI a3]) dL_law_1686.1 ml_L_177 cal_X11_put cv_X11_put (hRm ⟨Nat.le_of_ble_eq_true rfl, Nat.le_of_ble_eq_true rfl⟩) rfl (Nat.le_of_ble_eq_true rfl) (okM_R hM) (fun ba => c_X11_put (xl X) (gP (xG X) ba MR) rfl (okM_P hM) ⟨trivial, hS.2.2.1, hS.2.1, hS.1, trivial⟩ hq)) (by omega) (by omega) rfl rfl rfl (fun v MP1 => ?_)
      refine i_aload_n C dL_law_1689 rfl (q := 2) rfl ?_
      refine i_aload_n C dL_law_1690 rfl (q := 0) rfl ?_
      refine i_iload_n C dL_law_1691 rfl (q := 3) rfl ?_
      refine i_iconst C dL_law_1692 kI_1 ?_
      refine i_iadd C dL_law_1693 ?_
      refine i_scr C hs dL_law_1694 (fun b1 => ?_)
      refine i_aload_n C dL_law_1695 rfl (q := 0) rfl ?_
      refine i_iload_n C dL_law_1696 rfl (q := 3) rfl ?_
      refine i_iconst C dL_law_1697 kI_2 ?_
      refine i_iadd C dL_law_1698 ?_
      refine i_scr C hs dL_law_1699 (fun b2 => ?_)
      refine i_aload_n C dL_law_1700 rfl (q := 0) rfl ?_
      refine i_iload_n C dL_law_1701 rfl (q := 3) rfl ?_
      refine i_iconst C dL_law_1702 kI_3 ?_
      refine i_iadd C dL_law_1703 ?_
      refine i_scr C hs dL_law_1704 (fun b3 => ?_)
      refine i_cG (kc' := n) (ks' := 11264 * n) (fun m => mix MP1 m) 0 0 4 (fun q hq hM hS => crLR C hX hg1 hg2 (as := [aI b1, aI b2, aI b3]) rfl dL_law_1705.1 ml_L_180 cal_X12_put cv_X12_put (hRm ⟨Nat.le_of_ble_eq_true rfl, Nat.le_of_ble_eq_true rfl⟩) rfl (Nat.le_of_ble_eq_true rfl) (okM_P hM) rfl (fun ba => c_X12_put (xl X) (gR (xG X) ba MP1) rfl (okM_R hM) ⟨trivial, hS.2.2.1, hS.2.1, hS.1, trivial⟩ hq)) (by omega) (by omega) rfl rfl rfl (fun w MR1 => ?_)
      refine i_icmp_eq (tgt := 2234) C dL_law_1708 (by decide) ?_ ?_
      · exact hj MP1 MR1
      · exact i_none
    refine i_split (fun e41 => ?_) (fun e41 => ?_)
    · refine i_tswIn (tgt := 1713) C dL_law_33 e41 (by decide) (by decide) rfl (by decide) ?_
      refine i_aload_n C dL_law_1713 rfl (q := 1) rfl ?_
      refine i_aload_n C dL_law_1714 rfl (q := 0) rfl ?_
      refine i_iload_n C dL_law_1715 rfl (q := 3) rfl ?_
      refine i_iconst C dL_law_1716 kI_1 ?_
      refine i_iadd C dL_law_1717 ?_
      refine i_scr C hs dL_law_1718 (fun a1 => ?_)
      refine i_aload_n C dL_law_1719 rfl (q := 0) rfl ?_
      refine i_iload_n C dL_law_1720 rfl (q := 3) rfl ?_
      refine i_iconst C dL_law_1721 kI_2 ?_
      refine i_iadd C dL_law_1722 ?_
      refine i_scr C hs dL_law_1723 (fun a2 => ?_)
      refine i_cG (kc' := n) (ks' := 11264 * n) (fun m => mix m MR) 0 0 3 (fun q hq hM hS => crLP C hX hg1 hg2 (as := [aI a1, aI a2]) dL_law_1724.1 ml_L_181 cal_X11_read cv_X11_read (hRm ⟨Nat.le_of_ble_eq_true rfl, Nat.le_of_ble_eq_true rfl⟩) rfl (Nat.le_of_ble_eq_true rfl) (okM_R hM) (fun ba => c_X11_read (xl X) (gP (xG X) ba MR) rfl (okM_P hM) ⟨trivial, hS.2.1, hS.1, trivial⟩ hq)) (by omega) (by omega) rfl rfl rfl (fun v MP1 => ?_)
      refine i_aload_n C dL_law_1727 rfl (q := 2) rfl ?_
      refine i_aload_n C dL_law_1728 rfl (q := 0) rfl ?_
      refine i_iload_n C dL_law_1729 rfl (q := 3) rfl ?_
      refine i_iconst C dL_law_1730 kI_1 ?_
      refine i_iadd C dL_law_1731 ?_
      refine i_scr C hs dL_law_1732 (fun b1 => ?_)
      refine i_aload_n C dL_law_1733 rfl (q := 0) rfl ?_
      refine i_iload_n C dL_law_1734 rfl (q := 3) rfl ?_
      refine i_iconst C dL_law_1735 kI_2 ?_
      refine i_iadd C dL_law_1736 ?_
      refine i_scr C hs dL_law_1737 (fun b2 => ?_)
      refine i_cG (kc' := n) (ks' := 11264 * n) (fun m => mix MP1 m) 0 0 3 (fun q hq hM hS => crLR C hX hg1 hg2 (as := [aI b1, aI b2]) rfl dL_law_1738.1 ml_L_184 cal_X12_read cv_X12_read (hRm ⟨Nat.le_of_ble_eq_true rfl, Nat.le_of_ble_eq_true rfl⟩) rfl (Nat.le_of_ble_eq_true rfl) (okM_P hM) rfl (fun ba => c_X12_read (xl X) (gR (xG X) ba MP1) rfl (okM_R hM) ⟨trivial, hS.2.1, hS.1, trivial⟩ hq)) (by omega) (by omega) rfl rfl rfl (fun w MR1 => ?_)
      refine i_icmp_eq (tgt := 2234) C dL_law_1741 (by decide) ?_ ?_
      · exact hj MP1 MR1
      · exact i_none
    refine i_split (fun e42 => ?_) (fun e42 => ?_)
    · refine i_tswIn (tgt := 1746) C dL_law_33 e42 (by decide) (by decide) rfl (by decide) ?_
      refine i_aload_n C dL_law_1746 rfl (q := 1) rfl ?_
      refine i_aload_n C dL_law_1747 rfl (q := 0) rfl ?_
      refine i_iload_n C dL_law_1748 rfl (q := 3) rfl ?_
      refine i_iconst C dL_law_1749 kI_1 ?_
      refine i_iadd C dL_law_1750 ?_
      refine i_scr C hs dL_law_1751 (fun a1 => ?_)
      refine i_aload_n C dL_law_1752 rfl (q := 0) rfl ?_
      refine i_iload_n C dL_law_1753 rfl (q := 3) rfl ?_
      refine i_iconst C dL_law_1754 kI_2 ?_
      refine i_iadd C dL_law_1755 ?_
      refine i_scr C hs dL_law_1756 (fun a2 => ?_)
      refine i_aload_n C dL_law_1757 rfl (q := 0) rfl ?_
      refine i_iload_n C dL_law_1758 rfl (q := 3) rfl ?_
      refine i_iconst C dL_law_1759 kI_3 ?_
      refine i_iadd C dL_law_1760 ?_
      refine i_scr C hs dL_law_1761 (fun a3 => ?_)
      refine i_aload_n C dL_law_1762 rfl (q := 0) rfl ?_
      refine i_iload_n C dL_law_1763 rfl (q := 3) rfl ?_
      refine i_iconst C dL_law_1764 kI_4 ?_
      refine i_iadd C dL_law_1765 ?_
      refine i_scr C hs dL_law_1766 (fun a4 => ?_)
      refine i_aload_n C dL_law_1767 rfl (q := 0) rfl ?_
      refine i_iload_n C dL_law_1768 rfl (q := 3) rfl ?_
      refine i_iconst C dL_law_1769 kI_5 ?_
      refine i_iadd C dL_law_1770 ?_
      refine i_scr C hs dL_law_1771 (fun a5 => ?_)
      refine i_cG (kc' := n) (ks' := 11264 * n) (fun m => mix m MR) 0 0 6 (fun q hq hM hS => crLP C hX hg1 hg2 (as := [aI a1, aI a2, aI a3, aI a4, aI a5]) dL_law_1772.1 ml_L_185 cal_X11_copy cv_X11_copy (hRm ⟨Nat.le_of_ble_eq_true rfl, Nat.le_of_ble_eq_true rfl⟩) rfl (Nat.le_of_ble_eq_true rfl) (okM_R hM) (fun ba => c_X11_copy (xl X) (gP (xG X) ba MR) rfl (okM_P hM) ⟨trivial, hS.2.2.2.2.1, hS.2.2.2.1, hS.2.2.1, hS.2.1, hS.1, trivial⟩ hq)) (by omega) (by omega) rfl rfl rfl (fun v MP1 => ?_)
      refine i_aload_n C dL_law_1775 rfl (q := 2) rfl ?_
      refine i_aload_n C dL_law_1776 rfl (q := 0) rfl ?_
      refine i_iload_n C dL_law_1777 rfl (q := 3) rfl ?_
      refine i_iconst C dL_law_1778 kI_1 ?_
      refine i_iadd C dL_law_1779 ?_
      refine i_scr C hs dL_law_1780 (fun b1 => ?_)
      refine i_aload_n C dL_law_1781 rfl (q := 0) rfl ?_
      refine i_iload_n C dL_law_1782 rfl (q := 3) rfl ?_
      refine i_iconst C dL_law_1783 kI_2 ?_
      refine i_iadd C dL_law_1784 ?_
      refine i_scr C hs dL_law_1785 (fun b2 => ?_)
      refine i_aload_n C dL_law_1786 rfl (q := 0) rfl ?_
      refine i_iload_n C dL_law_1787 rfl (q := 3) rfl ?_
      refine i_iconst C dL_law_1788 kI_3 ?_
      refine i_iadd C dL_law_1789 ?_
      refine i_scr C hs dL_law_1790 (fun b3 => ?_)
      refine i_aload_n C dL_law_1791 rfl (q := 0) rfl ?_
      refine i_iload_n C dL_law_1792 rfl (q := 3) rfl ?_
      refine i_iconst C dL_law_1793 kI_4 ?_
      refine i_iadd C dL_law_1794 ?_
      refine i_scr C hs dL_law_1795 (fun b4 => ?_)
      refine i_aload_n C dL_law_1796 rfl (q := 0) rfl ?_
      refine i_iload_n C dL_law_1797 rfl (q := 3) rfl ?_
      refine i_iconst C dL_law_1798 kI_5 ?_
      refine i_iadd C dL_law_1799 ?_
      refine i_scr C hs dL_law_1800 (fun b5 => ?_)
      refine i_cG (kc' := n) (ks' := 11264 * n) (fun m => mix MP1 m) 0 0 6 (fun q hq hM hS => crLR C hX hg1 hg2 (as := [aI b1, aI b2, aI b3, aI b4, aI b5]) rfl dL_law_1801.1 ml_L_189 cal_X12_copy cv_X12_copy (hRm ⟨Nat.le_of_ble_eq_true rfl, Nat.le_of_ble_eq_true rfl⟩) rfl (Nat.le_of_ble_eq_true rfl) (okM_P hM) rfl (fun ba => c_X12_copy (xl X) (gR (xG X) ba MP1) rfl (okM_R hM) ⟨trivial, hS.2.2.2.2.1, hS.2.2.2.1, hS.2.2.1, hS.2.1, hS.1, trivial⟩ hq)) (by omega) (by omega) rfl rfl rfl (fun w MR1 => ?_)
      refine i_icmp_eq (tgt := 2234) C dL_law_1804 (by decide) ?_ ?_
      · exact hj MP1 MR1
      · exact i_none
    refine i_split (fun e43 => ?_) (fun e43 => ?_)
    · refine i_tswIn (tgt := 1809) C dL_law_33 e43 (by decide) (by decide) rfl (by decide) ?_
      refine i_aload_n C dL_law_1809 rfl (q := 1) rfl ?_
      refine i_aload_n C dL_law_1810 rfl (q := 0) rfl ?_
      refine i_iload_n C dL_law_1811 rfl (q := 3) rfl ?_
      refine i_iconst C dL_law_1812 kI_1 ?_
      refine i_iadd C dL_law_1813 ?_
      refine i_scr C hs dL_law_1814 (fun a1 => ?_)
      refine i_aload_n C dL_law_1815 rfl (q := 0) rfl ?_
      refine i_iload_n C dL_law_1816 rfl (q := 3) rfl ?_
      refine i_iconst C dL_law_1817 kI_2 ?_
      refine i_iadd C dL_law_1818 ?_
      refine i_scr C hs dL_law_1819 (fun a2 => ?_)
      refine i_cG (kc' := n) (ks' := 11264 * n) (fun m => mix m MR) 0 0 3 (fun q hq hM hS => crLP C hX hg1 hg2 (as := [aI a1, aI a2]) dL_law_1820.1 ml_L_190 cal_X11_wrong cv_X11_wrong (hRm ⟨Nat.le_of_ble_eq_true rfl, Nat.le_of_ble_eq_true rfl⟩) rfl (Nat.le_of_ble_eq_true rfl) (okM_R hM) (fun ba => c_X11_wrong (xl X) (gP (xG X) ba MR) rfl (okM_P hM) ⟨trivial, hS.2.1, hS.1, trivial⟩ hq)) (by omega) (by omega) rfl rfl rfl (fun v MP1 => ?_)
      refine i_aload_n C dL_law_1823 rfl (q := 2) rfl ?_
      refine i_aload_n C dL_law_1824 rfl (q := 0) rfl ?_
      refine i_iload_n C dL_law_1825 rfl (q := 3) rfl ?_
      refine i_iconst C dL_law_1826 kI_1 ?_
      refine i_iadd C dL_law_1827 ?_
      refine i_scr C hs dL_law_1828 (fun b1 => ?_)
      refine i_aload_n C dL_law_1829 rfl (q := 0) rfl ?_
      refine i_iload_n C dL_law_1830 rfl (q := 3) rfl ?_
      refine i_iconst C dL_law_1831 kI_2 ?_
      refine i_iadd C dL_law_1832 ?_
      refine i_scr C hs dL_law_1833 (fun b2 => ?_)
      refine i_cG (kc' := n) (ks' := 11264 * n) (fun m => mix MP1 m) 0 0 3 (fun q hq hM hS => crLR C hX hg1 hg2 (as := [aI b1, aI b2]) rfl dL_law_1834.1 ml_L_193 cal_X12_wrong cv_X12_wrong (hRm ⟨Nat.le_of_ble_eq_true rfl, Nat.le_of_ble_eq_true rfl⟩) rfl (Nat.le_of_ble_eq_true rfl) (okM_P hM) rfl (fun ba => c_X12_wrong (xl X) (gR (xG X) ba MP1) rfl (okM_R hM) ⟨trivial, hS.2.1, hS.1, trivial⟩ hq)) (by omega) (by omega) rfl rfl rfl (fun w MR1 => ?_)
      refine i_icmp_eq (tgt := 2234) C dL_law_1837 (by decide) ?_ ?_
      · exact hj MP1 MR1
      · exact i_none
    refine i_split (fun e44 => ?_) (fun e44 => ?_)
    · refine i_tswIn (tgt := 1842) C dL_law_33 e44 (by decide) (by decide) rfl (by decide) ?_
      refine i_aload_n C dL_law_1842 rfl (q := 1) rfl ?_
      refine i_aload_n C dL_law_1843 rfl (q := 0) rfl ?_
      refine i_iload_n C dL_law_1844 rfl (q := 3) rfl ?_
      refine i_iconst C dL_law_1845 kI_1 ?_
      refine i_iadd C dL_law_1846 ?_
      refine i_scr C hs dL_law_1847 (fun a1 => ?_)
      refine i_cG (kc' := n) (ks' := 11264 * n) (fun m => mix m MR) 0 0 2 (fun q hq hM hS => crLP C hX hg1 hg2 (as := [aI a1]) dL_law_1848.1 ml_L_194 cal_X11_owed cv_X11_owed (hRm ⟨Nat.le_of_ble_eq_true rfl, Nat.le_of_ble_eq_true rfl⟩) rfl (Nat.le_of_ble_eq_true rfl) (okM_R hM) (fun ba => c_X11_owed (xl X) (gP (xG X) ba MR) rfl (okM_P hM) ⟨trivial, hS.1, trivial⟩ hq)) (by omega) (by omega) rfl rfl rfl (fun v MP1 => ?_)
      refine i_aload_n C dL_law_1851 rfl (q := 2) rfl ?_
      refine i_aload_n C dL_law_1852 rfl (q := 0) rfl ?_
      refine i_iload_n C dL_law_1853 rfl (q := 3) rfl ?_
      refine i_iconst C dL_law_1854 kI_1 ?_
      refine i_iadd C dL_law_1855 ?_
      refine i_scr C hs dL_law_1856 (fun b1 => ?_)
      refine i_cG (kc' := n) (ks' := 11264 * n) (fun m => mix MP1 m) 0 0 2 (fun q hq hM hS => crLR C hX hg1 hg2 (as := [aI b1]) rfl dL_law_1857.1 ml_L_197 cal_X12_owed cv_X12_owed (hRm ⟨Nat.le_of_ble_eq_true rfl, Nat.le_of_ble_eq_true rfl⟩) rfl (Nat.le_of_ble_eq_true rfl) (okM_P hM) rfl (fun ba => c_X12_owed (xl X) (gR (xG X) ba MP1) rfl (okM_R hM) ⟨trivial, hS.1, trivial⟩ hq)) (by omega) (by omega) rfl rfl rfl (fun w MR1 => ?_)
      refine i_icmp_eq (tgt := 2234) C dL_law_1860 (by decide) ?_ ?_
      · exact hj MP1 MR1
      · exact i_none
    refine i_split (fun e45 => ?_) (fun e45 => ?_)
    · refine i_tswIn (tgt := 1865) C dL_law_33 e45 (by decide) (by decide) rfl (by decide) ?_
      refine i_aload_n C dL_law_1865 rfl (q := 1) rfl ?_
      refine i_aload_n C dL_law_1866 rfl (q := 0) rfl ?_
      refine i_iload_n C dL_law_1867 rfl (q := 3) rfl ?_
      refine i_iconst C dL_law_1868 kI_1 ?_
      refine i_iadd C dL_law_1869 ?_
      refine i_scr C hs dL_law_1870 (fun a1 => ?_)
      refine i_aload_n C dL_law_1871 rfl (q := 0) rfl ?_
      refine i_iload_n C dL_law_1872 rfl (q := 3) rfl ?_
      refine i_iconst C dL_law_1873 kI_2 ?_
      refine i_iadd C dL_law_1874 ?_
      refine i_scr C hs dL_law_1875 (fun a2 => ?_)
      refine i_cG (kc' := n) (ks' := 11264 * n) (fun m => mix m MR) 0 0 3 (fun q hq hM hS => crLP C hX hg1 hg2 (as := [aI a1, aI a2]) dL_law_1876.1 ml_L_198 cal_X11_coin cv_X11_coin (hRm ⟨Nat.le_of_ble_eq_true rfl, Nat.le_of_ble_eq_true rfl⟩) rfl (Nat.le_of_ble_eq_true rfl) (okM_R hM) (fun ba => c_X11_coin (xl X) (gP (xG X) ba MR) rfl (okM_P hM) ⟨trivial, hS.2.1, hS.1, trivial⟩ hq)) (by omega) (by omega) rfl rfl rfl (fun v MP1 => ?_)
      refine i_aload_n C dL_law_1879 rfl (q := 2) rfl ?_
      refine i_aload_n C dL_law_1880 rfl (q := 0) rfl ?_
      refine i_iload_n C dL_law_1881 rfl (q := 3) rfl ?_
      refine i_iconst C dL_law_1882 kI_1 ?_
      refine i_iadd C dL_law_1883 ?_
      refine i_scr C hs dL_law_1884 (fun b1 => ?_)
      refine i_aload_n C dL_law_1885 rfl (q := 0) rfl ?_
      refine i_iload_n C dL_law_1886 rfl (q := 3) rfl ?_
      refine i_iconst C dL_law_1887 kI_2 ?_
      refine i_iadd C dL_law_1888 ?_
      refine i_scr C hs dL_law_1889 (fun b2 => ?_)
      refine i_cG (kc' := n) (ks' := 11264 * n) (fun m => mix MP1 m) 0 0 3 (fun q hq hM hS => crLR C hX hg1 hg2 (as := [aI b1, aI b2]) rfl dL_law_1890.1 ml_L_201 cal_X12_coin cv_X12_coin (hRm ⟨Nat.le_of_ble_eq_true rfl, Nat.le_of_ble_eq_true rfl⟩) rfl (Nat.le_of_ble_eq_true rfl) (okM_P hM) rfl (fun ba => c_X12_coin (xl X) (gR (xG X) ba MP1) rfl (okM_R hM) ⟨trivial, hS.2.1, hS.1, trivial⟩ hq)) (by omega) (by omega) rfl rfl rfl (fun w MR1 => ?_)
      refine i_icmp_eq (tgt := 2234) C dL_law_1893 (by decide) ?_ ?_
      · exact hj MP1 MR1
      · exact i_none
    refine i_split (fun e46 => ?_) (fun e46 => ?_)
    · refine i_tswIn (tgt := 1898) C dL_law_33 e46 (by decide) (by decide) rfl (by decide) ?_
      refine i_aload_n C dL_law_1898 rfl (q := 1) rfl ?_
      refine i_aload_n C dL_law_1899 rfl (q := 0) rfl ?_
      refine i_iload_n C dL_law_1900 rfl (q := 3) rfl ?_
      refine i_iconst C dL_law_1901 kI_1 ?_
      refine i_iadd C dL_law_1902 ?_
      refine i_scr C hs dL_law_1903 (fun a1 => ?_)
      refine i_aload_n C dL_law_1904 rfl (q := 0) rfl ?_
      refine i_iload_n C dL_law_1905 rfl (q := 3) rfl ?_
      refine i_iconst C dL_law_1906 kI_2 ?_
      refine i_iadd C dL_law_1907 ?_
      refine i_scr C hs dL_law_1908 (fun a2 => ?_)
      refine i_cG (kc' := n) (ks' := 11264 * n) (fun m => mix m MR) 0 0 3 (fun q hq hM hS => crLP C hX hg1 hg2 (as := [aI a1, aI a2]) dL_law_1909.1 ml_L_202 cal_X11_rule cv_X11_rule (hRm ⟨Nat.le_of_ble_eq_true rfl, Nat.le_of_ble_eq_true rfl⟩) rfl (Nat.le_of_ble_eq_true rfl) (okM_R hM) (fun ba => c_X11_rule (xl X) (gP (xG X) ba MR) rfl (okM_P hM) ⟨trivial, hS.2.1, hS.1, trivial⟩ hq)) (by omega) (by omega) rfl rfl rfl (fun v MP1 => ?_)
      refine i_aload_n C dL_law_1912 rfl (q := 2) rfl ?_
      refine i_aload_n C dL_law_1913 rfl (q := 0) rfl ?_
      refine i_iload_n C dL_law_1914 rfl (q := 3) rfl ?_
      refine i_iconst C dL_law_1915 kI_1 ?_
      refine i_iadd C dL_law_1916 ?_
      refine i_scr C hs dL_law_1917 (fun b1 => ?_)
      refine i_aload_n C dL_law_1918 rfl (q := 0) rfl ?_
      refine i_iload_n C dL_law_1919 rfl (q := 3) rfl ?_
      refine i_iconst C dL_law_1920 kI_2 ?_
      refine i_iadd C dL_law_1921 ?_
      refine i_scr C hs dL_law_1922 (fun b2 => ?_)
      refine i_cG (kc' := n) (ks' := 11264 * n) (fun m => mix MP1 m) 0 0 3 (fun q hq hM hS => crLR C hX hg1 hg2 (as := [aI b1, aI b2]) rfl dL_law_1923.1 ml_L_205 cal_X12_rule cv_X12_rule (hRm ⟨Nat.le_of_ble_eq_true rfl, Nat.le_of_ble_eq_true rfl⟩) rfl (Nat.le_of_ble_eq_true rfl) (okM_P hM) rfl (fun ba => c_X12_rule (xl X) (gR (xG X) ba MP1) rfl (okM_R hM) ⟨trivial, hS.2.1, hS.1, trivial⟩ hq)) (by omega) (by omega) rfl rfl rfl (fun w MR1 => ?_)
      refine i_icmp_eq (tgt := 2234) C dL_law_1926 (by decide) ?_ ?_
      · exact hj MP1 MR1
      · exact i_none
    refine i_split (fun e47 => ?_) (fun e47 => ?_)
    · refine i_tswIn (tgt := 1931) C dL_law_33 e47 (by decide) (by decide) rfl (by decide) ?_
      refine i_aload_n C dL_law_1931 rfl (q := 1) rfl ?_
      refine i_aload_n C dL_law_1932 rfl (q := 0) rfl ?_
      refine i_iload_n C dL_law_1933 rfl (q := 3) rfl ?_
      refine i_iconst C dL_law_1934 kI_1 ?_
      refine i_iadd C dL_law_1935 ?_
      refine i_scr C hs dL_law_1936 (fun a1 => ?_)
      refine i_aload_n C dL_law_1937 rfl (q := 0) rfl ?_
      refine i_iload_n C dL_law_1938 rfl (q := 3) rfl ?_
      refine i_iconst C dL_law_1939 kI_2 ?_
      refine i_iadd C dL_law_1940 ?_
      refine i_scr C hs dL_law_1941 (fun a2 => ?_)
      refine i_aload_n C dL_law_1942 rfl (q := 0) rfl ?_
      refine i_iload_n C dL_law_1943 rfl (q := 3) rfl ?_
      refine i_iconst C dL_law_1944 kI_3 ?_
      refine i_iadd C dL_law_1945 ?_
      refine i_scr C hs dL_law_1946 (fun a3 => ?_)
      refine i_cG (kc' := n) (ks' := 11264 * n) (fun m => mix m MR) 0 0 4 (fun q hq hM hS => crLP C hX hg1 hg2 (as := [aI a1, aI a2, aI a3]) dL_law_1947.1 ml_L_206 cal_X11_feast cv_X11_feast (hRm ⟨Nat.le_of_ble_eq_true rfl, Nat.le_of_ble_eq_true rfl⟩) rfl (Nat.le_of_ble_eq_true rfl) (okM_R hM) (fun ba => c_X11_feast (xl X) (gP (xG X) ba MR) rfl (okM_P hM) ⟨trivial, hS.2.2.1, hS.2.1, hS.1, trivial⟩ hq)) (by omega) (by omega) rfl rfl rfl (fun v MP1 => ?_)
      refine i_aload_n C dL_law_1950 rfl (q := 2) rfl ?_
      refine i_aload_n C dL_law_1951 rfl (q := 0) rfl ?_
      refine i_iload_n C dL_law_1952 rfl (q := 3) rfl ?_
      refine i_iconst C dL_law_1953 kI_1 ?_
      refine i_iadd C dL_law_1954 ?_
      refine i_scr C hs dL_law_1955 (fun b1 => ?_)
      refine i_aload_n C dL_law_1956 rfl (q := 0) rfl ?_
      refine i_iload_n C dL_law_1957 rfl (q := 3) rfl ?_
      refine i_iconst C dL_law_1958 kI_2 ?_
      refine i_iadd C dL_law_1959 ?_
      refine i_scr C hs dL_law_1960 (fun b2 => ?_)
      refine i_aload_n C dL_law_1961 rfl (q := 0) rfl ?_
      refine i_iload_n C dL_law_1962 rfl (q := 3) rfl ?_
      refine i_iconst C dL_law_1963 kI_3 ?_
      refine i_iadd C dL_law_1964 ?_
      refine i_scr C hs dL_law_1965 (fun b3 => ?_)
      refine i_cG (kc' := n) (ks' := 11264 * n) (fun m => mix MP1 m) 0 0 4 (fun q hq hM hS => crLR C hX hg1 hg2 (as := [aI b1, aI b2, aI b3]) rfl dL_law_1966.1 ml_L_209 cal_X12_feast cv_X12_feast (hRm ⟨Nat.le_of_ble_eq_true rfl, Nat.le_of_ble_eq_true rfl⟩) rfl (Nat.le_of_ble_eq_true rfl) (okM_P hM) rfl (fun ba => c_X12_feast (xl X) (gR (xG X) ba MP1) rfl (okM_R hM) ⟨trivial, hS.2.2.1, hS.2.1, hS.1, trivial⟩ hq)) (by omega) (by omega) rfl rfl rfl (fun w MR1 => ?_)
      refine i_icmp_eq (tgt := 2234) C dL_law_1969 (by decide) ?_ ?_
      · exact hj MP1 MR1
      · exact i_none
    refine i_split (fun e48 => ?_) (fun e48 => ?_)
    · refine i_tswIn (tgt := 1974) C dL_law_33 e48 (by decide) (by decide) rfl (by decide) ?_
      refine i_aload_n C dL_law_1974 rfl (q := 1) rfl ?_
      refine i_aload_n C dL_law_1975 rfl (q := 0) rfl ?_
      refine i_iload_n C dL_law_1976 rfl (q := 3) rfl ?_
      refine i_iconst C dL_law_1977 kI_1 ?_
      refine i_iadd C dL_law_1978 ?_
      refine i_scr C hs dL_law_1979 (fun a1 => ?_)
      refine i_cG (kc' := n) (ks' := 11264 * n) (fun m => mix m MR) 0 0 2 (fun q hq hM hS => crLP C hX hg1 hg2 (as := [aI a1]) dL_law_1980.1 ml_L_210 cal_X11_waiting cv_X11_waiting (hRm ⟨Nat.le_of_ble_eq_true rfl, Nat.le_of_ble_eq_true rfl⟩) rfl (Nat.le_of_ble_eq_true rfl) (okM_R hM) (fun ba => c_X11_waiting (xl X) (gP (xG X) ba MR) rfl (okM_P hM) ⟨trivial, hS.1, trivial⟩ hq)) (by omega) (by omega) rfl rfl rfl (fun v MP1 => ?_)
      refine i_aload_n C dL_law_1983 rfl (q := 2) rfl ?_
      refine i_aload_n C dL_law_1984 rfl (q := 0) rfl ?_
      refine i_iload_n C dL_law_1985 rfl (q := 3) rfl ?_
      refine i_iconst C dL_law_1986 kI_1 ?_
      refine i_iadd C dL_law_1987 ?_
      refine i_scr C hs dL_law_1988 (fun b1 => ?_)
      refine i_cG (kc' := n) (ks' := 11264 * n) (fun m => mix MP1 m) 0 0 2 (fun q hq hM hS => crLR C hX hg1 hg2 (as := [aI b1]) rfl dL_law_1989.1 ml_L_213 cal_X12_waiting cv_X12_waiting (hRm ⟨Nat.le_of_ble_eq_true rfl, Nat.le_of_ble_eq_true rfl⟩) rfl (Nat.le_of_ble_eq_true rfl) (okM_P hM) rfl (fun ba => c_X12_waiting (xl X) (gR (xG X) ba MP1) rfl (okM_R hM) ⟨trivial, hS.1, trivial⟩ hq)) (by omega) (by omega) rfl rfl rfl (fun w MR1 => ?_)
      refine i_icmp_eq (tgt := 2234) C dL_law_1992 (by decide) ?_ ?_
      · exact hj MP1 MR1
      · exact i_none
    refine i_split (fun e49 => ?_) (fun e49 => ?_)
    · refine i_tswIn (tgt := 1997) C dL_law_33 e49 (by decide) (by decide) rfl (by decide) ?_
      refine i_aload_n C dL_law_1997 rfl (q := 1) rfl ?_
      refine i_aload_n C dL_law_1998 rfl (q := 0) rfl ?_
      refine i_iload_n C dL_law_1999 rfl (q := 3) rfl ?_
      refine i_iconst C dL_law_2000 kI_1 ?_
      refine i_iadd C dL_law_2001 ?_
      refine i_scr C hs dL_law_2002 (fun a1 => ?_)
      refine i_cG (kc' := n) (ks' := 11264 * n) (fun m => mix m MR) 0 0 2 (fun q hq hM hS => crLP C hX hg1 hg2 (as := [aI a1]) dL_law_2003.1 ml_L_214 cal_X11_gates cv_X11_gates (hRm ⟨Nat.le_of_ble_eq_true rfl, Nat.le_of_ble_eq_true rfl⟩) rfl (Nat.le_of_ble_eq_true rfl) (okM_R hM) (fun ba => c_X11_gates (xl X) (gP (xG X) ba MR) rfl (okM_P hM) ⟨trivial, hS.1, trivial⟩ hq)) (by omega) (by omega) rfl rfl rfl (fun v MP1 => ?_)
      refine i_aload_n C dL_law_2006 rfl (q := 2) rfl ?_
      refine i_aload_n C dL_law_2007 rfl (q := 0) rfl ?_
      refine i_iload_n C dL_law_2008 rfl (q := 3) rfl ?_
      refine i_iconst C dL_law_2009 kI_1 ?_
      refine i_iadd C dL_law_2010 ?_
      refine i_scr C hs dL_law_2011 (fun b1 => ?_)
      refine i_cG (kc' := n) (ks' := 11264 * n) (fun m => mix MP1 m) 0 0 2 (fun q hq hM hS => crLR C hX hg1 hg2 (as := [aI b1]) rfl dL_law_2012.1 ml_L_217 cal_X12_gates cv_X12_gates (hRm ⟨Nat.le_of_ble_eq_true rfl, Nat.le_of_ble_eq_true rfl⟩) rfl (Nat.le_of_ble_eq_true rfl) (okM_P hM) rfl (fun ba => c_X12_gates (xl X) (gR (xG X) ba MP1) rfl (okM_R hM) ⟨trivial, hS.1, trivial⟩ hq)) (by omega) (by omega) rfl rfl rfl (fun w MR1 => ?_)
      refine i_icmp_eq (tgt := 2234) C dL_law_2015 (by decide) ?_ ?_
      · exact hj MP1 MR1
      · exact i_none
    refine i_split (fun e50 => ?_) (fun e50 => ?_)
    · refine i_tswIn (tgt := 2020) C dL_law_33 e50 (by decide) (by decide) rfl (by decide) ?_
      refine i_aload_n C dL_law_2020 rfl (q := 1) rfl ?_
      refine i_aload_n C dL_law_2021 rfl (q := 0) rfl ?_
      refine i_iload_n C dL_law_2022 rfl (q := 3) rfl ?_
      refine i_iconst C dL_law_2023 kI_1 ?_
      refine i_iadd C dL_law_2024 ?_
      refine i_scr C hs dL_law_2025 (fun a1 => ?_)
      refine i_aload_n C dL_law_2026 rfl (q := 0) rfl ?_
      refine i_iload_n C dL_law_2027 rfl (q := 3) rfl ?_
      refine i_iconst C dL_law_2028 kI_2 ?_
      refine i_iadd C dL_law_2029 ?_
      refine i_scr C hs dL_law_2030 (fun a2 => ?_)
      refine i_aload_n C dL_law_2031 rfl (q := 0) rfl ?_
      refine i_iload_n C dL_law_2032 rfl (q := 3) rfl ?_
      refine i_iconst C dL_law_2033 kI_3 ?_
      refine i_iadd C dL_law_2034 ?_
      refine i_scr C hs dL_law_2035 (fun a3 => ?_)
      refine i_cG (kc' := n) (ks' := 11264 * n) (fun m => mix m MR) 0 0 4 (fun q hq hM hS => crLP C hX hg1 hg2 (as := [aI a1, aI a2, aI a3]) dL_law_2036.1 ml_L_218 cal_X11_clause cv_X11_clause (hRm ⟨Nat.le_of_ble_eq_true rfl, Nat.le_of_ble_eq_true rfl⟩) rfl (Nat.le_of_ble_eq_true rfl) (okM_R hM) (fun ba => c_X11_clause (xl X) (gP (xG X) ba MR) rfl (okM_P hM) ⟨trivial, hS.2.2.1, hS.2.1, hS.1, trivial⟩ hq)) (by omega) (by omega) rfl rfl rfl (fun v MP1 => ?_)
      refine i_aload_n C dL_law_2039 rfl (q := 2) rfl ?_
      refine i_aload_n C dL_law_2040 rfl (q := 0) rfl ?_
      refine i_iload_n C dL_law_2041 rfl (q := 3) rfl ?_
      refine i_iconst C dL_law_2042 kI_1 ?_
      refine i_iadd C dL_law_2043 ?_
      refine i_scr C hs dL_law_2044 (fun b1 => ?_)
      refine i_aload_n C dL_law_2045 rfl (q := 0) rfl ?_
      refine i_iload_n C dL_law_2046 rfl (q := 3) rfl ?_
      refine i_iconst C dL_law_2047 kI_2 ?_
      refine i_iadd C dL_law_2048 ?_
      refine i_scr C hs dL_law_2049 (fun b2 => ?_)
      refine i_aload_n C dL_law_2050 rfl (q := 0) rfl ?_
      refine i_iload_n C dL_law_2051 rfl (q := 3) rfl ?_
      refine i_iconst C dL_law_2052 kI_3 ?_
      refine i_iadd C dL_law_2053 ?_
      refine i_scr C hs dL_law_2054 (fun b3 => ?_)
      refine i_cG (kc' := n) (ks' := 11264 * n) (fun m => mix MP1 m) 0 0 4 (fun q hq hM hS => crLR C hX hg1 hg2 (as := [aI b1, aI b2, aI b3]) rfl dL_law_2055.1 ml_L_221 cal_X12_clause cv_X12_clause (hRm ⟨Nat.le_of_ble_eq_true rfl, Nat.le_of_ble_eq_true rfl⟩) rfl (Nat.le_of_ble_eq_true rfl) (okM_P hM) rfl (fun ba => c_X12_clause (xl X) (gR (xG X) ba MP1) rfl (okM_R hM) ⟨trivial, hS.2.2.1, hS.2.1, hS.1, trivial⟩ hq)) (by omega) (by omega) rfl rfl rfl (fun w MR1 => ?_)
      refine i_icmp_eq (tgt := 2234) C dL_law_2058 (by decide) ?_ ?_
      · exact hj MP1 MR1
      · exact i_none
    refine i_split (fun e51 => ?_) (fun e51 => ?_)
    · refine i_tswIn (tgt := 2063) C dL_law_33 e51 (by decide) (by decide) rfl (by decide) ?_
      refine i_aload_n C dL_law_2063 rfl (q := 1) rfl ?_
      refine i_aload_n C dL_law_2064 rfl (q := 0) rfl ?_
      refine i_iload_n C dL_law_2065 rfl (q := 3) rfl ?_
      refine i_iconst C dL_law_2066 kI_1 ?_
      refine i_iadd C dL_law_2067 ?_
      refine i_scr C hs dL_law_2068 (fun a1 => ?_)
      refine i_aload_n C dL_law_2069 rfl (q := 0) rfl ?_
      refine i_iload_n C dL_law_2070 rfl (q := 3) rfl ?_
      refine i_iconst C dL_law_2071 kI_2 ?_
      refine i_iadd C dL_law_2072 ?_
      refine i_scr C hs dL_law_2073 (fun a2 => ?_)
      refine i_cG (kc' := n) (ks' := 11264 * n) (fun m => mix m MR) 0 0 3 (fun q hq hM hS => crLP C hX hg1 hg2 (as := [aI a1, aI a2]) dL_law_2074.1 ml_L_222 cal_X11_plan cv_X11_plan (hRm ⟨Nat.le_of_ble_eq_true rfl, Nat.le_of_ble_eq_true rfl⟩) rfl (Nat.le_of_ble_eq_true rfl) (okM_R hM) (fun ba => c_X11_plan (xl X) (gP (xG X) ba MR) rfl (okM_P hM) ⟨trivial, hS.2.1, hS.1, trivial⟩ hq)) (by omega) (by omega) rfl rfl rfl (fun v MP1 => ?_)
      refine i_aload_n C dL_law_2077 rfl (q := 2) rfl ?_
      refine i_aload_n C dL_law_2078 rfl (q := 0) rfl ?_
      refine i_iload_n C dL_law_2079 rfl (q := 3) rfl ?_
      refine i_iconst C dL_law_2080 kI_1 ?_
      refine i_iadd C dL_law_2081 ?_
      refine i_scr C hs dL_law_2082 (fun b1 => ?_)
      refine i_aload_n C dL_law_2083 rfl (q := 0) rfl ?_
      refine i_iload_n C dL_law_2084 rfl (q := 3) rfl ?_
      refine i_iconst C dL_law_2085 kI_2 ?_
      refine i_iadd C dL_law_2086 ?_
      refine i_scr C hs dL_law_2087 (fun b2 => ?_)
      refine i_cG (kc' := n) (ks' := 11264 * n) (fun m => mix MP1 m) 0 0 3 (fun q hq hM hS => crLR C hX hg1 hg2 (as := [aI b1, aI b2]) rfl dL_law_2088.1 ml_L_225 cal_X12_plan cv_X12_plan (hRm ⟨Nat.le_of_ble_eq_true rfl, Nat.le_of_ble_eq_true rfl⟩) rfl (Nat.le_of_ble_eq_true rfl) (okM_P hM) rfl (fun ba => c_X12_plan (xl X) (gR (xG X) ba MP1) rfl (okM_R hM) ⟨trivial, hS.2.1, hS.1, trivial⟩ hq)) (by omega) (by omega) rfl rfl rfl (fun w MR1 => ?_)
      refine i_icmp_eq (tgt := 2234) C dL_law_2091 (by decide) ?_ ?_
      · exact hj MP1 MR1
      · exact i_none
    refine i_split (fun e52 => ?_) (fun e52 => ?_)
    · refine i_tswIn (tgt := 2096) C dL_law_33 e52 (by decide) (by decide) rfl (by decide) ?_
      refine i_aload_n C dL_law_2096 rfl (q := 1) rfl ?_
      refine i_aload_n C dL_law_2097 rfl (q := 0) rfl ?_
      refine i_iload_n C dL_law_2098 rfl (q := 3) rfl ?_
      refine i_iconst C dL_law_2099 kI_1 ?_
      refine i_iadd C dL_law_2100 ?_
      refine i_scr C hs dL_law_2101 (fun a1 => ?_)
      refine i_aload_n C dL_law_2102 rfl (q := 0) rfl ?_
      refine i_iload_n C dL_law_2103 rfl (q := 3) rfl ?_
      refine i_iconst C dL_law_2104 kI_2 ?_
      refine i_iadd C dL_law_2105 ?_
      refine i_scr C hs dL_law_2106 (fun a2 => ?_)
      refine i_cG (kc' := n) (ks' := 11264 * n) (fun m => mix m MR) 0 0 3 (fun q hq hM hS => crLP C hX hg1 hg2 (as := [aI a1, aI a2]) dL_law_2107.1 ml_L_226 cal_X11_planned cv_X11_planned (hRm ⟨Nat.le_of_ble_eq_true rfl, Nat.le_of_ble_eq_true rfl⟩) rfl (Nat.le_of_ble_eq_true rfl) (okM_R hM) (fun ba => c_X11_planned (xl X) (gP (xG X) ba MR) rfl (okM_P hM) ⟨trivial, hS.2.1, hS.1, trivial⟩ hq)) (by omega) (by omega) rfl rfl rfl (fun v MP1 => ?_)
      refine i_aload_n C dL_law_2110 rfl (q := 2) rfl ?_
      refine i_aload_n C dL_law_2111 rfl (q := 0) rfl ?_
      refine i_iload_n C dL_law_2112 rfl (q := 3) rfl ?_
      refine i_iconst C dL_law_2113 kI_1 ?_
      refine i_iadd C dL_law_2114 ?_
      refine i_scr C hs dL_law_2115 (fun b1 => ?_)
      refine i_aload_n C dL_law_2116 rfl (q := 0) rfl ?_
      refine i_iload_n C dL_law_2117 rfl (q := 3) rfl ?_
      refine i_iconst C dL_law_2118 kI_2 ?_
      refine i_iadd C dL_law_2119 ?_
      refine i_scr C hs dL_law_2120 (fun b2 => ?_)
      refine i_cG (kc' := n) (ks' := 11264 * n) (fun m => mix MP1 m) 0 0 3 (fun q hq hM hS => crLR C hX hg1 hg2 (as := [aI b1, aI b2]) rfl dL_law_2121.1 ml_L_229 cal_X12_planned cv_X12_planned (hRm ⟨Nat.le_of_ble_eq_true rfl, Nat.le_of_ble_eq_true rfl⟩) rfl (Nat.le_of_ble_eq_true rfl) (okM_P hM) rfl (fun ba => c_X12_planned (xl X) (gR (xG X) ba MP1) rfl (okM_R hM) ⟨trivial, hS.2.1, hS.1, trivial⟩ hq)) (by omega) (by omega) rfl rfl rfl (fun w MR1 => ?_)
      refine i_icmp_eq (tgt := 2234) C dL_law_2124 (by decide) ?_ ?_
      · exact hj MP1 MR1
      · exact i_none
    refine i_split (fun e53 => ?_) (fun e53 => ?_)
    · refine i_tswIn (tgt := 2129) C dL_law_33 e53 (by decide) (by decide) rfl (by decide) ?_
      refine i_aload_n C dL_law_2129 rfl (q := 1) rfl ?_
      refine i_aload_n C dL_law_2130 rfl (q := 0) rfl ?_
      refine i_iload_n C dL_law_2131 rfl (q := 3) rfl ?_
      refine i_iconst C dL_law_2132 kI_1 ?_
      refine i_iadd C dL_law_2133 ?_
      refine i_scr C hs dL_law_2134 (fun a1 => ?_)
      refine i_cG (kc' := n) (ks' := 11264 * n) (fun m => mix m MR) 0 0 2 (fun q hq hM hS => crLP C hX hg1 hg2 (as := [aI a1]) dL_law_2135.1 ml_L_230 cal_X11_tell cv_X11_tell (hRm ⟨Nat.le_of_ble_eq_true rfl, Nat.le_of_ble_eq_true rfl⟩) rfl (Nat.le_of_ble_eq_true rfl) (okM_R hM) (fun ba => c_X11_tell (xl X) (gP (xG X) ba MR) rfl (okM_P hM) ⟨trivial, hS.1, trivial⟩ hq)) (by omega) (by omega) rfl rfl rfl (fun v MP1 => ?_)
      refine i_aload_n C dL_law_2138 rfl (q := 2) rfl ?_
      refine i_aload_n C dL_law_2139 rfl (q := 0) rfl ?_
      refine i_iload_n C dL_law_2140 rfl (q := 3) rfl ?_
      refine i_iconst C dL_law_2141 kI_1 ?_
      refine i_iadd C dL_law_2142 ?_
      refine i_scr C hs dL_law_2143 (fun b1 => ?_)
      refine i_cG (kc' := n) (ks' := 11264 * n) (fun m => mix MP1 m) 0 0 2 (fun q hq hM hS => crLR C hX hg1 hg2 (as := [aI b1]) rfl dL_law_2144.1 ml_L_233 cal_X12_tell cv_X12_tell (hRm ⟨Nat.le_of_ble_eq_true rfl, Nat.le_of_ble_eq_true rfl⟩) rfl (Nat.le_of_ble_eq_true rfl) (okM_P hM) rfl (fun ba => c_X12_tell (xl X) (gR (xG X) ba MP1) rfl (okM_R hM) ⟨trivial, hS.1, trivial⟩ hq)) (by omega) (by omega) rfl rfl rfl (fun w MR1 => ?_)
      refine i_icmp_eq (tgt := 2234) C dL_law_2147 (by decide) ?_ ?_
      · exact hj MP1 MR1
      · exact i_none
    refine i_split (fun e54 => ?_) (fun e54 => ?_)
    · refine i_tswIn (tgt := 2152) C dL_law_33 e54 (by decide) (by decide) rfl (by decide) ?_
      refine i_aload_n C dL_law_2152 rfl (q := 1) rfl ?_
      refine i_aload_n C dL_law_2153 rfl (q := 0) rfl ?_
      refine i_iload_n C dL_law_2154 rfl (q := 3) rfl ?_
      refine i_iconst C dL_law_2155 kI_1 ?_
      refine i_iadd C dL_law_2156 ?_
      refine i_scr C hs dL_law_2157 (fun a1 => ?_)
      refine i_aload_n C dL_law_2158 rfl (q := 0) rfl ?_
      refine i_iload_n C dL_law_2159 rfl (q := 3) rfl ?_
      refine i_iconst C dL_law_2160 kI_2 ?_
      refine i_iadd C dL_law_2161 ?_
      refine i_scr C hs dL_law_2162 (fun a2 => ?_)
      refine i_cG (kc' := n) (ks' := 11264 * n) (fun m => mix m MR) 0 0 3 (fun q hq hM hS => crLP C hX hg1 hg2 (as := [aI a1, aI a2]) dL_law_2163.1 ml_L_234 cal_X11_check cv_X11_check (hRm ⟨Nat.le_of_ble_eq_true rfl, Nat.le_of_ble_eq_true rfl⟩) rfl (Nat.le_of_ble_eq_true rfl) (okM_R hM) (fun ba => c_X11_check (xl X) (gP (xG X) ba MR) rfl (okM_P hM) ⟨trivial, hS.2.1, hS.1, trivial⟩ hq)) (by omega) (by omega) rfl rfl rfl (fun v MP1 => ?_)
      refine i_aload_n C dL_law_2166 rfl (q := 2) rfl ?_
      refine i_aload_n C dL_law_2167 rfl (q := 0) rfl ?_
      refine i_iload_n C dL_law_2168 rfl (q := 3) rfl ?_
      refine i_iconst C dL_law_2169 kI_1 ?_
      refine i_iadd C dL_law_2170 ?_
      refine i_scr C hs dL_law_2171 (fun b1 => ?_)
      refine i_aload_n C dL_law_2172 rfl (q := 0) rfl ?_
      refine i_iload_n C dL_law_2173 rfl (q := 3) rfl ?_
      refine i_iconst C dL_law_2174 kI_2 ?_
      refine i_iadd C dL_law_2175 ?_
      refine i_scr C hs dL_law_2176 (fun b2 => ?_)
      refine i_cG (kc' := n) (ks' := 11264 * n) (fun m => mix MP1 m) 0 0 3 (fun q hq hM hS => crLR C hX hg1 hg2 (as := [aI b1, aI b2]) rfl dL_law_2177.1 ml_L_237 cal_X12_check cv_X12_check (hRm ⟨Nat.le_of_ble_eq_true rfl, Nat.le_of_ble_eq_true rfl⟩) rfl (Nat.le_of_ble_eq_true rfl) (okM_P hM) rfl (fun ba => c_X12_check (xl X) (gR (xG X) ba MP1) rfl (okM_R hM) ⟨trivial, hS.2.1, hS.1, trivial⟩ hq)) (by omega) (by omega) rfl rfl rfl (fun w MR1 => ?_)
      refine i_icmp_eq (tgt := 2234) C dL_law_2180 (by decide) ?_ ?_
      · exact hj MP1 MR1
      · exact i_none
    refine i_split (fun e55 => ?_) (fun e55 => ?_)
    · refine i_tswIn (tgt := 2185) C dL_law_33 e55 (by decide) (by decide) rfl (by decide) ?_
      refine i_aload_n C dL_law_2185 rfl (q := 1) rfl ?_
      refine i_cG (kc' := n) (ks' := 11264 * n) (fun m => mix m MR) 0 0 1 (fun q hq hM hS => crLP C hX hg1 hg2 (as := []) dL_law_2186.1 ml_L_238 cal_X11_keep cv_X11_keep (hRm ⟨Nat.le_of_ble_eq_true rfl, Nat.le_of_ble_eq_true rfl⟩) rfl (Nat.le_of_ble_eq_true rfl) (okM_R hM) (fun ba => c_X11_keep (xl X) (gP (xG X) ba MR) rfl (okM_P hM) ⟨trivial, trivial⟩ hq)) (by omega) (by omega) rfl rfl rfl (fun v MP1 => ?_)
      refine i_aload_n C dL_law_2189 rfl (q := 2) rfl ?_
      refine i_cG (kc' := n) (ks' := 11264 * n) (fun m => mix MP1 m) 0 0 1 (fun q hq hM hS => crLR C hX hg1 hg2 (as := []) rfl dL_law_2190.1 ml_L_242 cal_X12_keep cv_X12_keep (hRm ⟨Nat.le_of_ble_eq_true rfl, Nat.le_of_ble_eq_true rfl⟩) rfl (Nat.le_of_ble_eq_true rfl) (okM_P hM) rfl (fun ba => c_X12_keep (xl X) (gR (xG X) ba MP1) rfl (okM_R hM) ⟨trivial, trivial⟩ hq)) (by omega) (by omega) rfl rfl rfl (fun w MR1 => ?_)
      refine i_icmp_eq (tgt := 2234) C dL_law_2193 (by decide) ?_ ?_
      · exact hj MP1 MR1
      · exact i_none
    refine i_split (fun e56 => ?_) (fun e56 => ?_)
    · refine i_tswIn (tgt := 2198) C dL_law_33 e56 (by decide) (by decide) rfl (by decide) ?_
      refine i_aload_n C dL_law_2198 rfl (q := 1) rfl ?_
      refine i_cG (kc' := n) (ks' := 11264 * n) (fun m => mix m MR) 0 0 1 (fun q hq hM hS => crLP C hX hg1 hg2 (as := []) dL_law_2199.1 ml_L_243 cal_X11_back cv_X11_back (hRm ⟨Nat.le_of_ble_eq_true rfl, Nat.le_of_ble_eq_true rfl⟩) rfl (Nat.le_of_ble_eq_true rfl) (okM_R hM) (fun ba => c_X11_back (xl X) (gP (xG X) ba MR) rfl (okM_P hM) ⟨trivial, trivial⟩ hq)) (by omega) (by omega) rfl rfl rfl (fun v MP1 => ?_)
      refine i_aload_n C dL_law_2202 rfl (q := 2) rfl ?_
      refine i_cG (kc' := n) (ks' := 11264 * n) (fun m => mix MP1 m) 0 0 1 (fun q hq hM hS => crLR C hX hg1 hg2 (as := []) rfl dL_law_2203.1 ml_L_246 cal_X12_back cv_X12_back (hRm ⟨Nat.le_of_ble_eq_true rfl, Nat.le_of_ble_eq_true rfl⟩) rfl (Nat.le_of_ble_eq_true rfl) (okM_P hM) rfl (fun ba => c_X12_back (xl X) (gR (xG X) ba MP1) rfl (okM_R hM) ⟨trivial, trivial⟩ hq)) (by omega) (by omega) rfl rfl rfl (fun w MR1 => ?_)
      refine i_icmp_eq (tgt := 2234) C dL_law_2206 (by decide) ?_ ?_
      · exact hj MP1 MR1
      · exact i_none
    refine i_split (fun e57 => ?_) (fun e57 => ?_)
    · refine i_tswIn (tgt := 2211) C dL_law_33 e57 (by decide) (by decide) rfl (by decide) ?_
      refine i_aload_n C dL_law_2211 rfl (q := 1) rfl ?_
      refine i_aload_n C dL_law_2212 rfl (q := 0) rfl ?_
      refine i_iload_n C dL_law_2213 rfl (q := 3) rfl ?_
      refine i_iconst C dL_law_2214 kI_1 ?_
      refine i_iadd C dL_law_2215 ?_
      refine i_scr C hs dL_law_2216 (fun a1 => ?_)
      refine i_cG (kc' := n) (ks' := 11264 * n) (fun m => mix m MR) 0 0 2 (fun q hq hM hS => crLP C hX hg1 hg2 (as := [aI a1]) dL_law_2217.1 ml_L_247 cal_X11_count cv_X11_count (hRm ⟨Nat.le_of_ble_eq_true rfl, Nat.le_of_ble_eq_true rfl⟩) rfl (Nat.le_of_ble_eq_true rfl) (okM_R hM) (fun ba => c_X11_count (xl X) (gP (xG X) ba MR) rfl (okM_P hM) ⟨trivial, hS.1, trivial⟩ hq)) (by omega) (by omega) rfl rfl rfl (fun v MP1 => ?_)
      refine i_aload_n C dL_law_2220 rfl (q := 2) rfl ?_
      refine i_aload_n C dL_law_2221 rfl (q := 0) rfl ?_
      refine i_iload_n C dL_law_2222 rfl (q := 3) rfl ?_
      refine i_iconst C dL_law_2223 kI_1 ?_
      refine i_iadd C dL_law_2224 ?_
      refine i_scr C hs dL_law_2225 (fun b1 => ?_)
      refine i_cG (kc' := n) (ks' := 11264 * n) (fun m => mix MP1 m) 0 0 2 (fun q hq hM hS => crLR C hX hg1 hg2 (as := [aI b1]) rfl dL_law_2226.1 ml_L_250 cal_X12_count cv_X12_count (hRm ⟨Nat.le_of_ble_eq_true rfl, Nat.le_of_ble_eq_true rfl⟩) rfl (Nat.le_of_ble_eq_true rfl) (okM_P hM) rfl (fun ba => c_X12_count (xl X) (gR (xG X) ba MP1) rfl (okM_R hM) ⟨trivial, hS.1, trivial⟩ hq)) (by omega) (by omega) rfl rfl rfl (fun w MR1 => ?_)
      refine i_icmp_eq (tgt := 2234) C dL_law_2229 (by decide) ?_ ?_
      · exact hj MP1 MR1
      · exact i_none
    refine i_tswOut (tgt := 2234) C dL_law_33 (by omega) (by decide) ?_
    exact i_wk (by omega) (by omega) (hj MP MR)
