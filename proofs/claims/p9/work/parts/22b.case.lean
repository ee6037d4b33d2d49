theorem dL_law_377 : decode cL_law 377 = .ok (.aload_n 1, 1) := q_o43 (by decide +kernel)
theorem dL_law_378 : decode cL_law 378 = .ok (.aload_n 0, 1) := q_o42 (by decide +kernel)
theorem dL_law_379 : decode cL_law 379 = .ok (.iload 4, 2) := q_o21 (a := 4) (by decide +kernel)
theorem dL_law_381 : decode cL_law 381 = .ok (.iconst 1, 1) := q_o4 (by decide +kernel)
theorem dL_law_382 : decode cL_law 382 = .ok (.iadd, 1) := q_o96 (by decide +kernel)
theorem dL_law_383 : decode cL_law 383 = .ok (.iaload, 1) := q_o46 (by decide +kernel)
theorem dL_law_384 : decode cL_law 384 = .ok (.aload_n 0, 1) := q_o42 (by decide +kernel)
theorem dL_law_385 : decode cL_law 385 = .ok (.iload 4, 2) := q_o21 (a := 4) (by decide +kernel)
theorem dL_law_387 : decode cL_law 387 = .ok (.iconst 2, 1) := q_o5 (by decide +kernel)
theorem dL_law_388 : decode cL_law 388 = .ok (.iadd, 1) := q_o96 (by decide +kernel)
theorem dL_law_389 : decode cL_law 389 = .ok (.iaload, 1) := q_o46 (by decide +kernel)
theorem dL_law_390 : decode cL_law 390 = .ok (.invokevirtual 42, 3) := q_o182 (a := 0) (b := 42) (by decide +kernel)
theorem dL_law_393 : decode cL_law 393 = .ok (.pop, 1) := q_o87 (by decide +kernel)
theorem dL_law_394 : decode cL_law 394 = .ok (.aload_n 2, 1) := q_o44 (by decide +kernel)
theorem dL_law_395 : decode cL_law 395 = .ok (.aload_n 0, 1) := q_o42 (by decide +kernel)
theorem dL_law_396 : decode cL_law 396 = .ok (.iload 4, 2) := q_o21 (a := 4) (by decide +kernel)
theorem dL_law_398 : decode cL_law 398 = .ok (.iconst 1, 1) := q_o4 (by decide +kernel)
theorem dL_law_399 : decode cL_law 399 = .ok (.iadd, 1) := q_o96 (by decide +kernel)
theorem dL_law_400 : decode cL_law 400 = .ok (.iaload, 1) := q_o46 (by decide +kernel)
theorem dL_law_401 : decode cL_law 401 = .ok (.aload_n 0, 1) := q_o42 (by decide +kernel)
theorem dL_law_402 : decode cL_law 402 = .ok (.iload 4, 2) := q_o21 (a := 4) (by decide +kernel)
theorem dL_law_404 : decode cL_law 404 = .ok (.iconst 2, 1) := q_o5 (by decide +kernel)
theorem dL_law_405 : decode cL_law 405 = .ok (.iadd, 1) := q_o96 (by decide +kernel)
theorem dL_law_406 : decode cL_law 406 = .ok (.iaload, 1) := q_o46 (by decide +kernel)
theorem dL_law_407 : decode cL_law 407 = .ok (.invokevirtual 45, 3) := q_o182 (a := 0) (b := 45) (by decide +kernel)
theorem dL_law_410 : decode cL_law 410 = .ok (.pop, 1) := q_o87 (by decide +kernel)
theorem dL_law_411 : decode cL_law 411 = .ok (.goto 933, 3) := q_o167 (a := 3) (b := 165) (by decide +kernel) rfl
theorem dL_law_414 : decode cL_law 414 = .ok (.aload_n 1, 1) := q_o43 (by decide +kernel)
theorem dL_law_415 : decode cL_law 415 = .ok (.aload_n 0, 1) := q_o42 (by decide +kernel)
theorem dL_law_416 : decode cL_law 416 = .ok (.iload 4, 2) := q_o21 (a := 4) (by decide +kernel)
theorem dL_law_418 : decode cL_law 418 = .ok (.iconst 1, 1) := q_o4 (by decide +kernel)
theorem dL_law_419 : decode cL_law 419 = .ok (.iadd, 1) := q_o96 (by decide +kernel)
theorem dL_law_420 : decode cL_law 420 = .ok (.iaload, 1) := q_o46 (by decide +kernel)
theorem dL_law_421 : decode cL_law 421 = .ok (.aload_n 0, 1) := q_o42 (by decide +kernel)
theorem dL_law_422 : decode cL_law 422 = .ok (.iload 4, 2) := q_o21 (a := 4) (by decide +kernel)
theorem dL_law_424 : decode cL_law 424 = .ok (.iconst 2, 1) := q_o5 (by decide +kernel)
theorem dL_law_425 : decode cL_law 425 = .ok (.iadd, 1) := q_o96 (by decide +kernel)
theorem dL_law_426 : decode cL_law 426 = .ok (.iaload, 1) := q_o46 (by decide +kernel)
theorem dL_law_427 : decode cL_law 427 = .ok (.aload_n 3, 1) := by decide +kernel
theorem dL_law_428 : decode cL_law 428 = .ok (.invokestatic 46, 3) := q_o184 (a := 0) (b := 46) (by decide +kernel)
theorem dL_law_431 : decode cL_law 431 = .ok (.istore 5, 2) := q_o54 (a := 5) (by decide +kernel)
theorem dL_law_433 : decode cL_law 433 = .ok (.aload_n 2, 1) := q_o44 (by decide +kernel)
theorem dL_law_434 : decode cL_law 434 = .ok (.aload_n 0, 1) := q_o42 (by decide +kernel)
theorem dL_law_435 : decode cL_law 435 = .ok (.iload 4, 2) := q_o21 (a := 4) (by decide +kernel)
theorem dL_law_437 : decode cL_law 437 = .ok (.iconst 1, 1) := q_o4 (by decide +kernel)
theorem dL_law_438 : decode cL_law 438 = .ok (.iadd, 1) := q_o96 (by decide +kernel)
theorem dL_law_439 : decode cL_law 439 = .ok (.iaload, 1) := q_o46 (by decide +kernel)
theorem dL_law_440 : decode cL_law 440 = .ok (.aload_n 0, 1) := q_o42 (by decide +kernel)
theorem dL_law_441 : decode cL_law 441 = .ok (.iload 4, 2) := q_o21 (a := 4) (by decide +kernel)
theorem dL_law_443 : decode cL_law 443 = .ok (.iconst 2, 1) := q_o5 (by decide +kernel)
theorem dL_law_444 : decode cL_law 444 = .ok (.iadd, 1) := q_o96 (by decide +kernel)
theorem dL_law_445 : decode cL_law 445 = .ok (.iaload, 1) := q_o46 (by decide +kernel)
theorem dL_law_446 : decode cL_law 446 = .ok (.invokevirtual 51, 3) := q_o182 (a := 0) (b := 51) (by decide +kernel)
theorem dL_law_449 : decode cL_law 449 = .ok (.istore 6, 2) := q_o54 (a := 6) (by decide +kernel)
theorem dL_law_451 : decode cL_law 451 = .ok (.goto 893, 3) := q_o167 (a := 3) (b := 125) (by decide +kernel) rfl
theorem dL_law_454 : decode cL_law 454 = .ok (.aload_n 1, 1) := q_o43 (by decide +kernel)
theorem dL_law_455 : decode cL_law 455 = .ok (.aload_n 0, 1) := q_o42 (by decide +kernel)
theorem dL_law_456 : decode cL_law 456 = .ok (.iload 4, 2) := q_o21 (a := 4) (by decide +kernel)
theorem dL_law_458 : decode cL_law 458 = .ok (.iconst 1, 1) := q_o4 (by decide +kernel)
theorem dL_law_459 : decode cL_law 459 = .ok (.iadd, 1) := q_o96 (by decide +kernel)
theorem dL_law_460 : decode cL_law 460 = .ok (.iaload, 1) := q_o46 (by decide +kernel)
theorem dL_law_461 : decode cL_law 461 = .ok (.aload_n 0, 1) := q_o42 (by decide +kernel)
theorem dL_law_462 : decode cL_law 462 = .ok (.iload 4, 2) := q_o21 (a := 4) (by decide +kernel)
theorem dL_law_464 : decode cL_law 464 = .ok (.iconst 2, 1) := q_o5 (by decide +kernel)
theorem dL_law_465 : decode cL_law 465 = .ok (.iadd, 1) := q_o96 (by decide +kernel)
theorem dL_law_466 : decode cL_law 466 = .ok (.iaload, 1) := q_o46 (by decide +kernel)
theorem dL_law_467 : decode cL_law 467 = .ok (.invokevirtual 52, 3) := q_o182 (a := 0) (b := 52) (by decide +kernel)
theorem dL_law_470 : decode cL_law 470 = .ok (.aload_n 2, 1) := q_o44 (by decide +kernel)
theorem dL_law_471 : decode cL_law 471 = .ok (.aload_n 0, 1) := q_o42 (by decide +kernel)
theorem dL_law_472 : decode cL_law 472 = .ok (.iload 4, 2) := q_o21 (a := 4) (by decide +kernel)
theorem dL_law_474 : decode cL_law 474 = .ok (.iconst 1, 1) := q_o4 (by decide +kernel)
theorem dL_law_475 : decode cL_law 475 = .ok (.iadd, 1) := q_o96 (by decide +kernel)
theorem dL_law_476 : decode cL_law 476 = .ok (.iaload, 1) := q_o46 (by decide +kernel)
theorem dL_law_477 : decode cL_law 477 = .ok (.aload_n 0, 1) := q_o42 (by decide +kernel)
theorem dL_law_478 : decode cL_law 478 = .ok (.iload 4, 2) := q_o21 (a := 4) (by decide +kernel)
theorem dL_law_480 : decode cL_law 480 = .ok (.iconst 2, 1) := q_o5 (by decide +kernel)
theorem dL_law_481 : decode cL_law 481 = .ok (.iadd, 1) := q_o96 (by decide +kernel)
theorem dL_law_482 : decode cL_law 482 = .ok (.iaload, 1) := q_o46 (by decide +kernel)
theorem dL_law_483 : decode cL_law 483 = .ok (.invokevirtual 55, 3) := q_o182 (a := 0) (b := 55) (by decide +kernel)
theorem dL_law_486 : decode cL_law 486 = .ok (.if_icmp .eq 858, 3) := q_o159 (a := 3) (b := 90) (by decide +kernel) rfl
theorem dL_law_491 : decode cL_law 491 = .ok (.aload_n 1, 1) := q_o43 (by decide +kernel)
theorem dL_law_492 : decode cL_law 492 = .ok (.aload_n 0, 1) := q_o42 (by decide +kernel)
theorem dL_law_493 : decode cL_law 493 = .ok (.iload 4, 2) := q_o21 (a := 4) (by decide +kernel)
theorem dL_law_495 : decode cL_law 495 = .ok (.iconst 1, 1) := q_o4 (by decide +kernel)
theorem dL_law_496 : decode cL_law 496 = .ok (.iadd, 1) := q_o96 (by decide +kernel)
theorem dL_law_497 : decode cL_law 497 = .ok (.iaload, 1) := q_o46 (by decide +kernel)
theorem dL_law_498 : decode cL_law 498 = .ok (.aload_n 0, 1) := q_o42 (by decide +kernel)
theorem dL_law_499 : decode cL_law 499 = .ok (.iload 4, 2) := q_o21 (a := 4) (by decide +kernel)
theorem dL_law_501 : decode cL_law 501 = .ok (.iconst 2, 1) := q_o5 (by decide +kernel)
theorem dL_law_502 : decode cL_law 502 = .ok (.iadd, 1) := q_o96 (by decide +kernel)
theorem dL_law_503 : decode cL_law 503 = .ok (.iaload, 1) := q_o46 (by decide +kernel)
theorem dL_law_504 : decode cL_law 504 = .ok (.invokevirtual 56, 3) := q_o182 (a := 0) (b := 56) (by decide +kernel)
theorem dL_law_507 : decode cL_law 507 = .ok (.pop, 1) := q_o87 (by decide +kernel)
theorem dL_law_508 : decode cL_law 508 = .ok (.aload_n 2, 1) := q_o44 (by decide +kernel)
theorem dL_law_509 : decode cL_law 509 = .ok (.aload_n 0, 1) := q_o42 (by decide +kernel)
theorem dL_law_510 : decode cL_law 510 = .ok (.iload 4, 2) := q_o21 (a := 4) (by decide +kernel)
theorem dL_law_512 : decode cL_law 512 = .ok (.iconst 1, 1) := q_o4 (by decide +kernel)
theorem dL_law_513 : decode cL_law 513 = .ok (.iadd, 1) := q_o96 (by decide +kernel)
theorem dL_law_514 : decode cL_law 514 = .ok (.iaload, 1) := q_o46 (by decide +kernel)
theorem dL_law_515 : decode cL_law 515 = .ok (.aload_n 0, 1) := q_o42 (by decide +kernel)
theorem dL_law_516 : decode cL_law 516 = .ok (.iload 4, 2) := q_o21 (a := 4) (by decide +kernel)
theorem dL_law_518 : decode cL_law 518 = .ok (.iconst 2, 1) := q_o5 (by decide +kernel)
theorem dL_law_519 : decode cL_law 519 = .ok (.iadd, 1) := q_o96 (by decide +kernel)
theorem dL_law_520 : decode cL_law 520 = .ok (.iaload, 1) := q_o46 (by decide +kernel)
theorem dL_law_521 : decode cL_law 521 = .ok (.invokevirtual 59, 3) := q_o182 (a := 0) (b := 59) (by decide +kernel)
theorem dL_law_524 : decode cL_law 524 = .ok (.pop, 1) := q_o87 (by decide +kernel)
theorem dL_law_525 : decode cL_law 525 = .ok (.goto 819, 3) := q_o167 (a := 3) (b := 51) (by decide +kernel) rfl
theorem hdV_yX10_device_2 : yX10_device.cls = RX10 ∧ yX10_device.cls ≠ "java/lang/invoke/MethodHandle" ∧ yX10_device.cls ≠ "java/lang/invoke/VarHandle" ∧ (parseMethodDescriptor yX10_device.desc).map (fun d => d.parameters.length) = some 2 := by decide +kernel
theorem hdV_yX10_hub_2 : yX10_hub.cls = RX10 ∧ yX10_hub.cls ≠ "java/lang/invoke/MethodHandle" ∧ yX10_hub.cls ≠ "java/lang/invoke/VarHandle" ∧ (parseMethodDescriptor yX10_hub.desc).map (fun d => d.parameters.length) = some 2 := by decide +kernel
theorem hdV_yX10_port_2 : yX10_port.cls = RX10 ∧ yX10_port.cls ≠ "java/lang/invoke/MethodHandle" ∧ yX10_port.cls ≠ "java/lang/invoke/VarHandle" ∧ (parseMethodDescriptor yX10_port.desc).map (fun d => d.parameters.length) = some 2 := by decide +kernel
theorem hdV_yX10_told_2 : yX10_told.cls = RX10 ∧ yX10_told.cls ≠ "java/lang/invoke/MethodHandle" ∧ yX10_told.cls ≠ "java/lang/invoke/VarHandle" ∧ (parseMethodDescriptor yX10_told.desc).map (fun d => d.parameters.length) = some 2 := by decide +kernel
theorem hdV_yX9_hub_2 : yX9_hub.cls = RX9 ∧ yX9_hub.cls ≠ "java/lang/invoke/MethodHandle" ∧ yX9_hub.cls ≠ "java/lang/invoke/VarHandle" ∧ (parseMethodDescriptor yX9_hub.desc).map (fun d => d.parameters.length) = some 2 := by decide +kernel
theorem hdV_yX9_port_2 : yX9_port.cls = RX9 ∧ yX9_port.cls ≠ "java/lang/invoke/MethodHandle" ∧ yX9_port.cls ≠ "java/lang/invoke/VarHandle" ∧ (parseMethodDescriptor yX9_port.desc).map (fun d => d.parameters.length) = some 2 := by decide +kernel
theorem hdV_yX9_told_2 : yX9_told.cls = RX9 ∧ yX9_told.cls ≠ "java/lang/invoke/MethodHandle" ∧ yX9_told.cls ≠ "java/lang/invoke/VarHandle" ∧ (parseMethodDescriptor yX9_told.desc).map (fun d => d.parameters.length) = some 2 := by decide +kernel
set_option maxHeartbeats 4000000 in
set_option maxRecDepth 100000 in
theorem lw_case_5 {p : Program} {l : Launch} {e : Env} {s : State} {m : MethodId} {below : List Frame} {meth : Method} {c : Code} {dC : Nat → ClassId} {dI : Nat → Nat → Nat} {b L : Nat} {xs : Nat → Int32} (C0 : lw_At p s m meth c b L xs) (ts ks kv : Nat → Nat) (sa : Nat) (hE : q_S ts ks kv (fun q : Nat => s.heap.size ≤ q) s) (hEX : q_X sa s) (hlt : l.stackTraces = false) {a : Nat → Nat} {k : Nat → ClassId} {bm : Nat → Nat} {km : Nat → ClassId} {q3 : Nat} {k3 : ClassId} {j : Nat} (hj : 6 * j + 6 ≤ L) (hL : L ≤ 3072) {z : Nat → Int32} (hz : ∀ q, z q = xs (6 * j + q)) {x y : XS} {p1 p2 : Int32 × XS} (h1 : SX_5 x z = some p1) (h2 : SY_5 y z = some p2) {fo : Nat → Int64} {H : Heap} {locs : List Loc} {ls : Array Slot} (hK : va_K (dC, dI) vwCl (lw_T k km k3) s) (hP : va_P (dC, dI) vwCl (lw_W a k bm km q3 k3 x y fo) H) (hD : va_D (fun q : Nat => s.heap.size ≤ q) (lw_W a k bm km q3 k3 x y fo)) (hS : va_S (fun q : Nat => s.heap.size ≤ q) s.heap H locs) (hl : lv_has ls 7 [(4, .int (nI (6 * j))), (3, .ref q3), (2, .ref (bm 0)), (1, .ref (a 0)), (0, .ref b)]) (kont : ∀ (fo : Nat → Int64) (H : Heap) (locs : List Loc) (ls : Array Slot), va_P (dC, dI) vwCl (lw_W a k bm km q3 k3 p1.2 p2.2 fo) H → va_D (fun q : Nat => s.heap.size ≤ q) (lw_W a k bm km q3 k3 p1.2 p2.2 fo) → va_S (fun q : Nat => s.heap.size ≤ q) s.heap H locs → lv_has ls 7 [(4, .int (nI (6 * j))), (3, .ref q3), (2, .ref (bm 0)), (1, .ref (a 0)), (0, .ref b)] → W p l e room_1 s m #[Value.ref b] below meth c H locs (45 + j + 1) (18169 + 6 * j + 6) (lw_Z below #[Value.ref b] s) (F0 m 1344 ls [])) : W p l e room_1 s m #[Value.ref b] below meth c H locs (45 + j) (18169 + 6 * j) (lw_Z below #[Value.ref b] s) (F0 m 377 ls []) := by
  obtain ⟨hx, hb, hr, hml, hown, hts, hX, hbl, hlocks, hgv⟩ := C0
  have hown : s.vm.findClass RL = some m.cls := hown
  have hA : ∀ q : Nat, s.heap.size ≤ q → (fun q : Nat => s.heap.size ≤ q) q := fun _ h => h
  have hbA : ¬ (fun q : Nat => s.heap.size ≤ q) b := Nat.not_le.mpr hbl
  unfold SX_5 at h1
  unfold SY_5 at h2
  obtain ⟨o1, hF1, h1⟩ := q_bi h1
  have hp1 := Option.some.inj h1
  obtain ⟨o2, hF2, h2⟩ := q_bi h2
  have hp2 := Option.some.inj h2
  refine lv_aload_n hx hb dL_law_377 rfl (lv_at hl 3 rfl) ?_
  refine lv_aload_n hx hb dL_law_378 rfl (lv_at hl 4 rfl) ?_
  refine lv_iload hx hb dL_law_379 (lv_at hl 0 rfl) ?_
  refine lv_iconst (v := 1) hx hb dL_law_381 (by decide) ?_
  refine lv_iadd hx hb dL_law_382 ?_
  refine q_top (y := nI (6 * j + 1)) (nI_add (6 * j) 1) ?_
  refine va_sld hx hb hX hbl hbA hS (i := (nI (6 * j + 1))) (vp_in_nI (by omega) (by omega)) dL_law_383 ?_
  refine q_top (y := z 1) (by rw [nI_clamp (by omega), hz]) ?_
  refine lv_aload_n hx hb dL_law_384 rfl (lv_at hl 4 rfl) ?_
  refine lv_iload hx hb dL_law_385 (lv_at hl 0 rfl) ?_
  refine lv_iconst (v := 2) hx hb dL_law_387 (by decide) ?_
  refine lv_iadd hx hb dL_law_388 ?_
  refine q_top (y := nI (6 * j + 2)) (nI_add (6 * j) 2) ?_
  refine va_sld hx hb hX hbl hbA hS (i := (nI (6 * j + 2))) (vp_in_nI (by omega) (by omega)) dL_law_389 ?_
  refine q_top (y := z 2) (by rw [nI_clamp (by omega), hz]) ?_
  refine q_goi (v := o1) (va_runV (As := [.int (z 1), .int (z 2)]) (rest := []) ⟨hx, hb, hml, hown, hts⟩ (c_X9_told l dC dI a k (x.2.1 4) (x.2.1 11) (x.1 8) (x.1 9) (x.1 15) (z 1) (z 2) o1 hF1) (cwV 2 hts (q_lV m_458 m_459 m_460 m_2 m_461) rfl rfl rfl hdV_yX9_told_2 ⟨Nat.le_of_ble_eq_true rfl, Nat.le_of_ble_eq_true rfl⟩) (q_preV hK hP (q := (RX9, TX9, 15)) (ci := 9) (q0 := 0) rfl rfl [0, 14, 15, 7, 8, 9] rfl [8, 3, 4] rfl) rfl rfl hl.1 rfl (lv_room (Nat.le_of_ble_eq_true rfl)) dL_law_390 ⟨by show 45 + j + 0 ≤ 1070; omega, by show 18169 + 6 * j + 0 ≤ 26367; omega⟩) hP hS (fun H locs hP hS => ?_)
  have hP : va_P (dC, dI) vwCl (lw_W a k bm km q3 k3 p1.2 y fo) H := by rw [← hp1]; exact hP
  have hD : va_D (fun q : Nat => s.heap.size ≤ q) (lw_W a k bm km q3 k3 p1.2 y fo) := by rw [← hp1]; exact hD
  refine lv_pop hx hb dL_law_393 rfl ?_
  refine lv_aload_n hx hb dL_law_394 rfl (lv_at hl 2 rfl) ?_
  refine lv_aload_n hx hb dL_law_395 rfl (lv_at hl 4 rfl) ?_
  refine lv_iload hx hb dL_law_396 (lv_at hl 0 rfl) ?_
  refine lv_iconst (v := 1) hx hb dL_law_398 (by decide) ?_
  refine lv_iadd hx hb dL_law_399 ?_
  refine q_top (y := nI (6 * j + 1)) (nI_add (6 * j) 1) ?_
  refine va_sld hx hb hX hbl hbA hS (i := (nI (6 * j + 1))) (vp_in_nI (by omega) (by omega)) dL_law_400 ?_
  refine q_top (y := z 1) (by rw [nI_clamp (by omega), hz]) ?_
  refine lv_aload_n hx hb dL_law_401 rfl (lv_at hl 4 rfl) ?_
  refine lv_iload hx hb dL_law_402 (lv_at hl 0 rfl) ?_
  refine lv_iconst (v := 2) hx hb dL_law_404 (by decide) ?_
  refine lv_iadd hx hb dL_law_405 ?_
  refine q_top (y := nI (6 * j + 2)) (nI_add (6 * j) 2) ?_
  refine va_sld hx hb hX hbl hbA hS (i := (nI (6 * j + 2))) (vp_in_nI (by omega) (by omega)) dL_law_406 ?_
  refine q_top (y := z 2) (by rw [nI_clamp (by omega), hz]) ?_
  refine q_goi (v := o2) (va_runV (As := [.int (z 1), .int (z 2)]) (rest := []) ⟨hx, hb, hml, hown, hts⟩ (c_X10_told l dC dI bm km (y.2.1 0) (y.2.1 1) (y.2.1 2) (y.2.1 3) (y.2.1 4) (y.2.1 5) (y.2.1 6) (y.2.1 7) (y.2.1 8) (y.2.2) (y.1 5) (y.1 8) (z 1) (z 2) o2 hF2) (cwV 2 hts (q_lV m_468 m_469 m_470 m_5 m_471) rfl rfl rfl hdV_yX10_told_2 ⟨Nat.le_of_ble_eq_true rfl, Nat.le_of_ble_eq_true rfl⟩) (q_preV hK hP (q := (RX10, TX10, 24)) (ci := 10) (q0 := 29) rfl rfl [29, 34, 37] rfl [19, 22] rfl) rfl rfl hl.1 rfl (lv_room (Nat.le_of_ble_eq_true rfl)) dL_law_407 ⟨by show 45 + j + 0 ≤ 1070; omega, by show 18169 + 6 * j + 0 ≤ 26367; omega⟩) hP hS (fun H locs hP hS => ?_)
  have hP : va_P (dC, dI) vwCl (lw_W a k bm km q3 k3 p1.2 p2.2 fo) H := by rw [← hp2]; exact hP
  have hD : va_D (fun q : Nat => s.heap.size ≤ q) (lw_W a k bm km q3 k3 p1.2 p2.2 fo) := by rw [← hp2]; exact hD
  refine lv_pop hx hb dL_law_410 rfl ?_
  refine lv_goto (tgt := 1344) hx hb dL_law_411 (by decide) ?_
  refine W.widen (k := 45 + j + 1) (n := 18169 + 6 * j + 6) (by omega) (by omega) ?_
  exact kont _ H locs ls hP hD hS (lv_sub hl [0, 1, 2, 3, 4] rfl)

set_option maxHeartbeats 4000000 in
set_option maxRecDepth 100000 in
theorem lw_case_6 {p : Program} {l : Launch} {e : Env} {s : State} {m : MethodId} {below : List Frame} {meth : Method} {c : Code} {dC : Nat → ClassId} {dI : Nat → Nat → Nat} {b L : Nat} {xs : Nat → Int32} (C0 : lw_At p s m meth c b L xs) (ts ks kv : Nat → Nat) (sa : Nat) (hE : q_S ts ks kv (fun q : Nat => s.heap.size ≤ q) s) (hEX : q_X sa s) (hlt : l.stackTraces = false) {a : Nat → Nat} {k : Nat → ClassId} {bm : Nat → Nat} {km : Nat → ClassId} {q3 : Nat} {k3 : ClassId} {j : Nat} (hj : 6 * j + 6 ≤ L) (hL : L ≤ 3072) {z : Nat → Int32} (hz : ∀ q, z q = xs (6 * j + q)) {x y : XS} {p1 p2 : Int32 × XS} (h1 : SX_6 x z = some p1) (h2 : SY_6 y z = some p2) {fo : Nat → Int64} {H : Heap} {locs : List Loc} {ls : Array Slot} (hK : va_K (dC, dI) vwCl (lw_T k km k3) s) (hP : va_P (dC, dI) vwCl (lw_W a k bm km q3 k3 x y fo) H) (hD : va_D (fun q : Nat => s.heap.size ≤ q) (lw_W a k bm km q3 k3 x y fo)) (hS : va_S (fun q : Nat => s.heap.size ≤ q) s.heap H locs) (hl : lv_has ls 7 [(4, .int (nI (6 * j))), (3, .ref q3), (2, .ref (bm 0)), (1, .ref (a 0)), (0, .ref b)]) (kont : ∀ (fo : Nat → Int64) (H : Heap) (locs : List Loc) (ls : Array Slot), va_P (dC, dI) vwCl (lw_W a k bm km q3 k3 p1.2 p2.2 fo) H → va_D (fun q : Nat => s.heap.size ≤ q) (lw_W a k bm km q3 k3 p1.2 p2.2 fo) → va_S (fun q : Nat => s.heap.size ≤ q) s.heap H locs → lv_has ls 7 [(4, .int (nI (6 * j))), (3, .ref q3), (2, .ref (bm 0)), (1, .ref (a 0)), (0, .ref b)] → W p l e room_1 s m #[Value.ref b] below meth c H locs (45 + j + 1) (18169 + 6 * j + 6) (lw_Z below #[Value.ref b] s) (F0 m 1344 ls [])) : W p l e room_1 s m #[Value.ref b] below meth c H locs (45 + j) (18169 + 6 * j) (lw_Z below #[Value.ref b] s) (F0 m 414 ls []) := by
  obtain ⟨hx, hb, hr, hml, hown, hts, hX, hbl, hlocks, hgv⟩ := C0
  have hown : s.vm.findClass RL = some m.cls := hown
  have hA : ∀ q : Nat, s.heap.size ≤ q → (fun q : Nat => s.heap.size ≤ q) q := fun _ h => h
  have hbA : ¬ (fun q : Nat => s.heap.size ≤ q) b := Nat.not_le.mpr hbl
  unfold SX_6 at h1
  unfold SY_6 at h2
  obtain ⟨o1, hF1, h1⟩ := q_bi h1
  have hp1 := Option.some.inj h1
  obtain ⟨o2, hF2, h2⟩ := q_bi h2
  have hp2 := Option.some.inj h2
  refine lv_aload_n hx hb dL_law_414 rfl (lv_at hl 3 rfl) ?_
  refine lv_aload_n hx hb dL_law_415 rfl (lv_at hl 4 rfl) ?_
  refine lv_iload hx hb dL_law_416 (lv_at hl 0 rfl) ?_
  refine lv_iconst (v := 1) hx hb dL_law_418 (by decide) ?_
  refine lv_iadd hx hb dL_law_419 ?_
  refine q_top (y := nI (6 * j + 1)) (nI_add (6 * j) 1) ?_
  refine va_sld hx hb hX hbl hbA hS (i := (nI (6 * j + 1))) (vp_in_nI (by omega) (by omega)) dL_law_420 ?_
  refine q_top (y := z 1) (by rw [nI_clamp (by omega), hz]) ?_
  refine lv_aload_n hx hb dL_law_421 rfl (lv_at hl 4 rfl) ?_
  refine lv_iload hx hb dL_law_422 (lv_at hl 0 rfl) ?_
  refine lv_iconst (v := 2) hx hb dL_law_424 (by decide) ?_
  refine lv_iadd hx hb dL_law_425 ?_
  refine q_top (y := nI (6 * j + 2)) (nI_add (6 * j) 2) ?_
  refine va_sld hx hb hX hbl hbA hS (i := (nI (6 * j + 2))) (vp_in_nI (by omega) (by omega)) dL_law_426 ?_
  refine q_top (y := z 2) (by rw [nI_clamp (by omega), hz]) ?_
  refine lv_aload_n hx hb dL_law_427 rfl (lv_at hl 1 rfl) ?_
  refine q_goi4 (v := o1.1) (vx_runSW (hh := [(0, 10, 13, 13)]) (As := [.ref (a 0), .int (z 1), .int (z 2), .ref q3]) (rest := []) ⟨hx, hb, hml, hown, hts⟩ (c_L_device l hlt dC dI sa a k (x.2.1 11) (x.2.1 4) (x.1 15) (x.1 8) (x.1 9) (z 1) (z 2) q3 k3 fo (va_A [((a 0), .inr (9, [.ref (a 1), .ref (a 3), .ref (a 4), .ref (a 7), .ref (a 10), .ref (a 14), .ref (a 16), .ref (a 18), .ref (a 19), .ref (a 21), .ref (a 23), .ref (a 25), .ref (a 27), .ref (a 28), .int (x.2.1 11)])), ((a 14), .inr (0, [.ref (a 15), .ref (a 7)])), ((a 15), .inl ((k 15), 98, .inl (x.1 15))), ((a 7), .inr (5, [.ref (a 8), .ref (a 9), .int (x.2.1 4)])), ((a 8), .inl ((k 8), 8, .inl (x.1 8))), ((a 9), .inl ((k 9), 48, .inl (x.1 9))), (q3, .inl (k3, 1, .inr (.inl fo)))] H.size) o1 hF1) (vx_cwSW 4 hts g_law_L_device rfl rfl rfl (by decide +kernel) ⟨Nat.le_of_ble_eq_true rfl, Nat.le_of_ble_eq_true rfl⟩) (q_preWE hK hP hD [0, 14, 15, 7, 8, 9, 44] (by decide) rfl rfl [8, 3, 4, 29] rfl q_X_bl (q_X_give hEX (fun q h => hS.2.1 q h (Nat.not_le.mpr h)))) rfl rfl hl.1 rfl (lv_room (Nat.le_of_ble_eq_true rfl)) dL_law_428 ⟨by show 45 + j + 1 ≤ 1070; omega, by show 18169 + 6 * j + 6 ≤ 26367; omega⟩) hP hD hS hA [0, 14, 15, 7, 8, 9, 44] rfl rfl (fun H locs hP hD hS => ?_)
  have hP : va_P (dC, dI) vwCl (lw_W a k bm km q3 k3 x y (if o1.1 = 0 then vp_updL fo 0 (o1.2).toInt64 else fo)) H := hP
  have hD : va_D (fun q : Nat => s.heap.size ≤ q) (lw_W a k bm km q3 k3 x y (if o1.1 = 0 then vp_updL fo 0 (o1.2).toInt64 else fo)) := hD
  have hP : va_P (dC, dI) vwCl (lw_W a k bm km q3 k3 p1.2 y (if o1.1 = 0 then vp_updL fo 0 (o1.2).toInt64 else fo)) H := by rw [← hp1]; exact hP
  have hD : va_D (fun q : Nat => s.heap.size ≤ q) (lw_W a k bm km q3 k3 p1.2 y (if o1.1 = 0 then vp_updL fo 0 (o1.2).toInt64 else fo)) := by rw [← hp1]; exact hD
  generalize (if o1.1 = 0 then vp_updL fo 0 (o1.2).toInt64 else fo) = fo9 at hP hD
  refine lv_istore (lv' := [(5, .int o1.1), (4, .int (nI (6 * j))), (3, .ref q3), (2, .ref (bm 0)), (1, .ref (a 0)), (0, .ref b)]) hx hb dL_law_431 hl (by decide) rfl (fun ls hl => ?_)
  refine lv_aload_n hx hb dL_law_433 rfl (lv_at hl 3 rfl) ?_
  refine lv_aload_n hx hb dL_law_434 rfl (lv_at hl 5 rfl) ?_
  refine lv_iload hx hb dL_law_435 (lv_at hl 1 rfl) ?_
  refine lv_iconst (v := 1) hx hb dL_law_437 (by decide) ?_
  refine lv_iadd hx hb dL_law_438 ?_
  refine q_top (y := nI (6 * j + 1)) (nI_add (6 * j) 1) ?_
  refine va_sld hx hb hX hbl hbA hS (i := (nI (6 * j + 1))) (vp_in_nI (by omega) (by omega)) dL_law_439 ?_
  refine q_top (y := z 1) (by rw [nI_clamp (by omega), hz]) ?_
  refine lv_aload_n hx hb dL_law_440 rfl (lv_at hl 5 rfl) ?_
  refine lv_iload hx hb dL_law_441 (lv_at hl 1 rfl) ?_
  refine lv_iconst (v := 2) hx hb dL_law_443 (by decide) ?_
  refine lv_iadd hx hb dL_law_444 ?_
  refine q_top (y := nI (6 * j + 2)) (nI_add (6 * j) 2) ?_
  refine va_sld hx hb hX hbl hbA hS (i := (nI (6 * j + 2))) (vp_in_nI (by omega) (by omega)) dL_law_445 ?_
  refine q_top (y := z 2) (by rw [nI_clamp (by omega), hz]) ?_
  have qya1 : p2.2.1 1 = y.1 1 := by rw [← hp2]; try rfl
  have qya2 : p2.2.1 2 = y.1 2 := by rw [← hp2]; try rfl
  have qya3 : p2.2.1 3 = y.1 3 := by rw [← hp2]; try rfl
  have qya4 : p2.2.1 4 = y.1 4 := by rw [← hp2]; try rfl
  have qya5 : p2.2.1 5 = y.1 5 := by rw [← hp2]; try rfl
  have qya6 : p2.2.1 6 = y.1 6 := by rw [← hp2]; try rfl
  have qya7 : p2.2.1 7 = y.1 7 := by rw [← hp2]; try rfl
  have qya8 : p2.2.1 8 = y.1 8 := by rw [← hp2]; try rfl
  have qya9 : p2.2.1 9 = y.1 9 := by rw [← hp2]; try rfl
  have qya10 : p2.2.1 10 = y.1 10 := by rw [← hp2]; try rfl
  have qya11 : p2.2.1 11 = y.1 11 := by rw [← hp2]; try rfl
  have qya12 : p2.2.1 12 = y.1 12 := by rw [← hp2]; try rfl
  have qya13 : p2.2.1 13 = y.1 13 := by rw [← hp2]; try rfl
  have qya14 : p2.2.1 14 = y.1 14 := by rw [← hp2]; try rfl
  have qyi0 : p2.2.2.1 0 = o2.2 := by rw [← hp2]; try rfl
  have qyi1 : p2.2.2.1 1 = y.2.1 1 := by rw [← hp2]; try rfl
  have qyi2 : p2.2.2.1 2 = y.2.1 2 := by rw [← hp2]; try rfl
  have qyi3 : p2.2.2.1 3 = y.2.1 3 := by rw [← hp2]; try rfl
  have qyi4 : p2.2.2.1 4 = y.2.1 4 := by rw [← hp2]; try rfl
  have qyi5 : p2.2.2.1 5 = y.2.1 5 := by rw [← hp2]; try rfl
  have qyi6 : p2.2.2.1 6 = y.2.1 6 := by rw [← hp2]; try rfl
  have qyi7 : p2.2.2.1 7 = y.2.1 7 := by rw [← hp2]; try rfl
  have qyi8 : p2.2.2.1 8 = y.2.1 8 := by rw [← hp2]; try rfl
  have qyl : p2.2.2.2 = y.2.2 := by rw [← hp2]; try rfl
  refine q_goi5 (v := o2.1) (lw_W a k bm km q3 k3 p1.2 p2.2 fo9) [none, none, none, none, none, none, none, none, none, none, none, none, none, none, none, none, none, none, none, none, none, none, none, none, none, none, none, none, none, some 0, none, none, none, none, some 1, none, none, some 2, none, none, none, none, none, none, none] (va_runV (As := [.int (z 1), .int (z 2)]) (rest := []) ⟨hx, hb, hml, hown, hts⟩ (c_X10_device l dC dI bm km (y.2.1 0) (y.2.1 1) (y.2.1 2) (y.2.1 3) (y.2.1 4) (y.2.1 5) (y.2.1 6) (y.2.1 7) (y.2.1 8) (y.2.2) (y.1 5) (y.1 8) (z 1) (z 2) (va_A [((bm 0), .inr (10, [.int (y.2.1 0), .ref (bm 1), .int (y.2.1 1), .int (y.2.1 2), .int (y.2.1 3), .ref (bm 2), .ref (bm 3), .int (y.2.1 4), .ref (bm 4), .ref (bm 5), .int (y.2.1 5), .ref (bm 6), .ref (bm 7), .int (y.2.1 6), .ref (bm 8), .ref (bm 9), .ref (bm 10), .int (y.2.1 7), .long (y.2.2), .ref (bm 11), .ref (bm 12), .ref (bm 13), .ref (bm 14), .int (y.2.1 8)])), ((bm 5), .inl ((km 5), 48, .inl (y.1 5))), ((bm 8), .inl ((km 8), 279, .inl (y.1 8)))] H.size) o2 hF2) (cwV 2 hts (q_lV m_495 m_496 m_497 m_5 m_498) rfl rfl rfl hdV_yX10_device_2 ⟨Nat.le_of_ble_eq_true rfl, Nat.le_of_ble_eq_true rfl⟩) (q_preWV hK hP hD (q := (RX10, TX10, 24)) (ci := 10) (q0 := 29) rfl rfl [29, 34, 37] (by decide) rfl rfl [19, 22] rfl) rfl rfl hl.1 rfl (lv_room (Nat.le_of_ble_eq_true rfl)) dL_law_446 ⟨by show 45 + j + 1 + 0 ≤ 1070; omega, by show 18169 + 6 * j + 6 + 0 ≤ 26367; omega⟩) hP hD hS hA [29, 34, 37] rfl (by unfold lw_W; simp only [qya1, qya2, qya3, qya4, qya5, qya6, qya7, qya8, qya9, qya10, qya11, qya12, qya13, qya14, qyi0, qyi1, qyi2, qyi3, qyi4, qyi5, qyi6, qyi7, qyi8, qyl]; rfl) rfl (by decide) (fun H locs hP hD hS => ?_)
  refine lv_istore (lv' := [(6, .int o2.1), (5, .int o1.1), (4, .int (nI (6 * j))), (3, .ref q3), (2, .ref (bm 0)), (1, .ref (a 0)), (0, .ref b)]) hx hb dL_law_449 hl (by decide) rfl (fun ls hl => ?_)
  refine lv_goto (tgt := 1344) hx hb dL_law_451 (by decide) ?_
  refine W.widen (k := 45 + j + 1) (n := 18169 + 6 * j + 6) (by omega) (by omega) ?_
  exact kont _ H locs ls hP hD hS (lv_sub hl [2, 3, 4, 5, 6] rfl)

set_option maxHeartbeats 4000000 in
set_option maxRecDepth 100000 in
theorem lw_case_7 {p : Program} {l : Launch} {e : Env} {s : State} {m : MethodId} {below : List Frame} {meth : Method} {c : Code} {dC : Nat → ClassId} {dI : Nat → Nat → Nat} {b L : Nat} {xs : Nat → Int32} (C0 : lw_At p s m meth c b L xs) (ts ks kv : Nat → Nat) (sa : Nat) (hE : q_S ts ks kv (fun q : Nat => s.heap.size ≤ q) s) (hEX : q_X sa s) (hlt : l.stackTraces = false) {a : Nat → Nat} {k : Nat → ClassId} {bm : Nat → Nat} {km : Nat → ClassId} {q3 : Nat} {k3 : ClassId} {j : Nat} (hj : 6 * j + 6 ≤ L) (hL : L ≤ 3072) {z : Nat → Int32} (hz : ∀ q, z q = xs (6 * j + q)) {x y : XS} {p1 p2 : Int32 × XS} (h1 : SX_7 x z = some p1) (h2 : SY_7 y z = some p2) (hcmp : p1.1 = p2.1) {fo : Nat → Int64} {H : Heap} {locs : List Loc} {ls : Array Slot} (hK : va_K (dC, dI) vwCl (lw_T k km k3) s) (hP : va_P (dC, dI) vwCl (lw_W a k bm km q3 k3 x y fo) H) (hD : va_D (fun q : Nat => s.heap.size ≤ q) (lw_W a k bm km q3 k3 x y fo)) (hS : va_S (fun q : Nat => s.heap.size ≤ q) s.heap H locs) (hl : lv_has ls 7 [(4, .int (nI (6 * j))), (3, .ref q3), (2, .ref (bm 0)), (1, .ref (a 0)), (0, .ref b)]) (kont : ∀ (fo : Nat → Int64) (H : Heap) (locs : List Loc) (ls : Array Slot), va_P (dC, dI) vwCl (lw_W a k bm km q3 k3 p1.2 p2.2 fo) H → va_D (fun q : Nat => s.heap.size ≤ q) (lw_W a k bm km q3 k3 p1.2 p2.2 fo) → va_S (fun q : Nat => s.heap.size ≤ q) s.heap H locs → lv_has ls 7 [(4, .int (nI (6 * j))), (3, .ref q3), (2, .ref (bm 0)), (1, .ref (a 0)), (0, .ref b)] → W p l e room_1 s m #[Value.ref b] below meth c H locs (45 + j + 1) (18169 + 6 * j + 6) (lw_Z below #[Value.ref b] s) (F0 m 1344 ls [])) : W p l e room_1 s m #[Value.ref b] below meth c H locs (45 + j) (18169 + 6 * j) (lw_Z below #[Value.ref b] s) (F0 m 454 ls []) := by
  obtain ⟨hx, hb, hr, hml, hown, hts, hX, hbl, hlocks, hgv⟩ := C0
  have hown : s.vm.findClass RL = some m.cls := hown
  have hA : ∀ q : Nat, s.heap.size ≤ q → (fun q : Nat => s.heap.size ≤ q) q := fun _ h => h
  have hbA : ¬ (fun q : Nat => s.heap.size ≤ q) b := Nat.not_le.mpr hbl
  unfold SX_7 at h1
  unfold SY_7 at h2
  obtain ⟨o1, hF1, h1⟩ := q_bi h1
  have hp1 := Option.some.inj h1
  obtain ⟨o2, hF2, h2⟩ := q_bi h2
  have hp2 := Option.some.inj h2
  have hcmp : o1 = o2 := by rw [← hp1, ← hp2] at hcmp; exact hcmp
  refine lv_aload_n hx hb dL_law_454 rfl (lv_at hl 3 rfl) ?_
  refine lv_aload_n hx hb dL_law_455 rfl (lv_at hl 4 rfl) ?_
  refine lv_iload hx hb dL_law_456 (lv_at hl 0 rfl) ?_
  refine lv_iconst (v := 1) hx hb dL_law_458 (by decide) ?_
  refine lv_iadd hx hb dL_law_459 ?_
  refine q_top (y := nI (6 * j + 1)) (nI_add (6 * j) 1) ?_
  refine va_sld hx hb hX hbl hbA hS (i := (nI (6 * j + 1))) (vp_in_nI (by omega) (by omega)) dL_law_460 ?_
  refine q_top (y := z 1) (by rw [nI_clamp (by omega), hz]) ?_
  refine lv_aload_n hx hb dL_law_461 rfl (lv_at hl 4 rfl) ?_
  refine lv_iload hx hb dL_law_462 (lv_at hl 0 rfl) ?_
  refine lv_iconst (v := 2) hx hb dL_law_464 (by decide) ?_
  refine lv_iadd hx hb dL_law_465 ?_
  refine q_top (y := nI (6 * j + 2)) (nI_add (6 * j) 2) ?_
  refine va_sld hx hb hX hbl hbA hS (i := (nI (6 * j + 2))) (vp_in_nI (by omega) (by omega)) dL_law_466 ?_
  refine q_top (y := z 2) (by rw [nI_clamp (by omega), hz]) ?_
  refine q_goi (v := o1) (va_runV (As := [.int (z 1), .int (z 2)]) (rest := []) ⟨hx, hb, hml, hown, hts⟩ (c_X9_port l dC dI a k (x.2.1 4) (x.2.1 11) (x.1 8) (x.1 9) (x.1 15) (z 1) (z 2) o1 hF1) (cwV 2 hts (q_lV m_520 m_521 m_522 m_2 m_523) rfl rfl rfl hdV_yX9_port_2 ⟨Nat.le_of_ble_eq_true rfl, Nat.le_of_ble_eq_true rfl⟩) (q_preV hK hP (q := (RX9, TX9, 15)) (ci := 9) (q0 := 0) rfl rfl [0, 14, 15, 7, 8, 9] rfl [8, 3, 4] rfl) rfl rfl hl.1 rfl (lv_room (Nat.le_of_ble_eq_true rfl)) dL_law_467 ⟨by show 45 + j + 0 ≤ 1070; omega, by show 18169 + 6 * j + 0 ≤ 26367; omega⟩) hP hS (fun H locs hP hS => ?_)
  have hP : va_P (dC, dI) vwCl (lw_W a k bm km q3 k3 p1.2 y fo) H := by rw [← hp1]; exact hP
  have hD : va_D (fun q : Nat => s.heap.size ≤ q) (lw_W a k bm km q3 k3 p1.2 y fo) := by rw [← hp1]; exact hD
  refine lv_aload_n hx hb dL_law_470 rfl (lv_at hl 2 rfl) ?_
  refine lv_aload_n hx hb dL_law_471 rfl (lv_at hl 4 rfl) ?_
  refine lv_iload hx hb dL_law_472 (lv_at hl 0 rfl) ?_
  refine lv_iconst (v := 1) hx hb dL_law_474 (by decide) ?_
  refine lv_iadd hx hb dL_law_475 ?_
  refine q_top (y := nI (6 * j + 1)) (nI_add (6 * j) 1) ?_
  refine va_sld hx hb hX hbl hbA hS (i := (nI (6 * j + 1))) (vp_in_nI (by omega) (by omega)) dL_law_476 ?_
  refine q_top (y := z 1) (by rw [nI_clamp (by omega), hz]) ?_
  refine lv_aload_n hx hb dL_law_477 rfl (lv_at hl 4 rfl) ?_
  refine lv_iload hx hb dL_law_478 (lv_at hl 0 rfl) ?_
  refine lv_iconst (v := 2) hx hb dL_law_480 (by decide) ?_
  refine lv_iadd hx hb dL_law_481 ?_
  refine q_top (y := nI (6 * j + 2)) (nI_add (6 * j) 2) ?_
  refine va_sld hx hb hX hbl hbA hS (i := (nI (6 * j + 2))) (vp_in_nI (by omega) (by omega)) dL_law_482 ?_
  refine q_top (y := z 2) (by rw [nI_clamp (by omega), hz]) ?_
  refine q_goi (v := o2) (va_runV (As := [.int (z 1), .int (z 2)]) (rest := [.int o1]) ⟨hx, hb, hml, hown, hts⟩ (c_X10_port l dC dI bm km (y.2.1 0) (y.2.1 1) (y.2.1 2) (y.2.1 3) (y.2.1 4) (y.2.1 5) (y.2.1 6) (y.2.1 7) (y.2.1 8) (y.2.2) (y.1 4) (y.1 5) (y.1 8) (z 1) (z 2) o2 hF2) (cwV 2 hts (q_lV m_536 m_537 m_538 m_5 m_539) rfl rfl rfl hdV_yX10_port_2 ⟨Nat.le_of_ble_eq_true rfl, Nat.le_of_ble_eq_true rfl⟩) (q_preV hK hP (q := (RX10, TX10, 24)) (ci := 10) (q0 := 29) rfl rfl [29, 33, 34, 37] rfl [18, 19, 22] rfl) rfl rfl hl.1 rfl (lv_room (Nat.le_of_ble_eq_true rfl)) dL_law_483 ⟨by show 45 + j + 0 ≤ 1070; omega, by show 18169 + 6 * j + 0 ≤ 26367; omega⟩) hP hS (fun H locs hP hS => ?_)
  have hP : va_P (dC, dI) vwCl (lw_W a k bm km q3 k3 p1.2 p2.2 fo) H := by rw [← hp2]; exact hP
  have hD : va_D (fun q : Nat => s.heap.size ≤ q) (lw_W a k bm km q3 k3 p1.2 p2.2 fo) := by rw [← hp2]; exact hD
  refine lv_icmp_eq (tgt := 1344) hx hb dL_law_486 (by decide) (fun c_1 => ?_) (fun c_1 => ?_)
  rotate_left
  · exact absurd hcmp c_1
  refine W.widen (k := 45 + j + 1) (n := 18169 + 6 * j + 6) (by omega) (by omega) ?_
  exact kont _ H locs ls hP hD hS (lv_sub hl [0, 1, 2, 3, 4] rfl)

set_option maxHeartbeats 4000000 in
set_option maxRecDepth 100000 in
theorem lw_case_8 {p : Program} {l : Launch} {e : Env} {s : State} {m : MethodId} {below : List Frame} {meth : Method} {c : Code} {dC : Nat → ClassId} {dI : Nat → Nat → Nat} {b L : Nat} {xs : Nat → Int32} (C0 : lw_At p s m meth c b L xs) (ts ks kv : Nat → Nat) (sa : Nat) (hE : q_S ts ks kv (fun q : Nat => s.heap.size ≤ q) s) (hEX : q_X sa s) (hlt : l.stackTraces = false) {a : Nat → Nat} {k : Nat → ClassId} {bm : Nat → Nat} {km : Nat → ClassId} {q3 : Nat} {k3 : ClassId} {j : Nat} (hj : 6 * j + 6 ≤ L) (hL : L ≤ 3072) {z : Nat → Int32} (hz : ∀ q, z q = xs (6 * j + q)) {x y : XS} {p1 p2 : Int32 × XS} (h1 : SX_8 x z = some p1) (h2 : SY_8 y z = some p2) {fo : Nat → Int64} {H : Heap} {locs : List Loc} {ls : Array Slot} (hK : va_K (dC, dI) vwCl (lw_T k km k3) s) (hP : va_P (dC, dI) vwCl (lw_W a k bm km q3 k3 x y fo) H) (hD : va_D (fun q : Nat => s.heap.size ≤ q) (lw_W a k bm km q3 k3 x y fo)) (hS : va_S (fun q : Nat => s.heap.size ≤ q) s.heap H locs) (hl : lv_has ls 7 [(4, .int (nI (6 * j))), (3, .ref q3), (2, .ref (bm 0)), (1, .ref (a 0)), (0, .ref b)]) (kont : ∀ (fo : Nat → Int64) (H : Heap) (locs : List Loc) (ls : Array Slot), va_P (dC, dI) vwCl (lw_W a k bm km q3 k3 p1.2 p2.2 fo) H → va_D (fun q : Nat => s.heap.size ≤ q) (lw_W a k bm km q3 k3 p1.2 p2.2 fo) → va_S (fun q : Nat => s.heap.size ≤ q) s.heap H locs → lv_has ls 7 [(4, .int (nI (6 * j))), (3, .ref q3), (2, .ref (bm 0)), (1, .ref (a 0)), (0, .ref b)] → W p l e room_1 s m #[Value.ref b] below meth c H locs (45 + j + 1) (18169 + 6 * j + 6) (lw_Z below #[Value.ref b] s) (F0 m 1344 ls [])) : W p l e room_1 s m #[Value.ref b] below meth c H locs (45 + j) (18169 + 6 * j) (lw_Z below #[Value.ref b] s) (F0 m 491 ls []) := by
  obtain ⟨hx, hb, hr, hml, hown, hts, hX, hbl, hlocks, hgv⟩ := C0
  have hown : s.vm.findClass RL = some m.cls := hown
  have hA : ∀ q : Nat, s.heap.size ≤ q → (fun q : Nat => s.heap.size ≤ q) q := fun _ h => h
  have hbA : ¬ (fun q : Nat => s.heap.size ≤ q) b := Nat.not_le.mpr hbl
  unfold SX_8 at h1
  unfold SY_8 at h2
  obtain ⟨o1, hF1, h1⟩ := q_bi h1
  have hp1 := Option.some.inj h1
  obtain ⟨o2, hF2, h2⟩ := q_bi h2
  have hp2 := Option.some.inj h2
  refine lv_aload_n hx hb dL_law_491 rfl (lv_at hl 3 rfl) ?_
  refine lv_aload_n hx hb dL_law_492 rfl (lv_at hl 4 rfl) ?_
  refine lv_iload hx hb dL_law_493 (lv_at hl 0 rfl) ?_
  refine lv_iconst (v := 1) hx hb dL_law_495 (by decide) ?_
  refine lv_iadd hx hb dL_law_496 ?_
  refine q_top (y := nI (6 * j + 1)) (nI_add (6 * j) 1) ?_
  refine va_sld hx hb hX hbl hbA hS (i := (nI (6 * j + 1))) (vp_in_nI (by omega) (by omega)) dL_law_497 ?_
  refine q_top (y := z 1) (by rw [nI_clamp (by omega), hz]) ?_
  refine lv_aload_n hx hb dL_law_498 rfl (lv_at hl 4 rfl) ?_
  refine lv_iload hx hb dL_law_499 (lv_at hl 0 rfl) ?_
  refine lv_iconst (v := 2) hx hb dL_law_501 (by decide) ?_
  refine lv_iadd hx hb dL_law_502 ?_
  refine q_top (y := nI (6 * j + 2)) (nI_add (6 * j) 2) ?_
  refine va_sld hx hb hX hbl hbA hS (i := (nI (6 * j + 2))) (vp_in_nI (by omega) (by omega)) dL_law_503 ?_
  refine q_top (y := z 2) (by rw [nI_clamp (by omega), hz]) ?_
  refine q_goi (v := o1) (va_runV (As := [.int (z 1), .int (z 2)]) (rest := []) ⟨hx, hb, hml, hown, hts⟩ (c_X9_hub l dC dI a k (x.2.1 4) (x.2.1 11) (x.1 8) (x.1 9) (x.1 15) (z 1) (z 2) o1 hF1) (cwV 2 hts (q_lV m_552 m_553 m_554 m_2 m_555) rfl rfl rfl hdV_yX9_hub_2 ⟨Nat.le_of_ble_eq_true rfl, Nat.le_of_ble_eq_true rfl⟩) (q_preV hK hP (q := (RX9, TX9, 15)) (ci := 9) (q0 := 0) rfl rfl [0, 14, 15, 7, 8, 9] rfl [8, 3, 4] rfl) rfl rfl hl.1 rfl (lv_room (Nat.le_of_ble_eq_true rfl)) dL_law_504 ⟨by show 45 + j + 0 ≤ 1070; omega, by show 18169 + 6 * j + 0 ≤ 26367; omega⟩) hP hS (fun H locs hP hS => ?_)
  have hP : va_P (dC, dI) vwCl (lw_W a k bm km q3 k3 p1.2 y fo) H := by rw [← hp1]; exact hP
  have hD : va_D (fun q : Nat => s.heap.size ≤ q) (lw_W a k bm km q3 k3 p1.2 y fo) := by rw [← hp1]; exact hD
  refine lv_pop hx hb dL_law_507 rfl ?_
  refine lv_aload_n hx hb dL_law_508 rfl (lv_at hl 2 rfl) ?_
  refine lv_aload_n hx hb dL_law_509 rfl (lv_at hl 4 rfl) ?_
  refine lv_iload hx hb dL_law_510 (lv_at hl 0 rfl) ?_
  refine lv_iconst (v := 1) hx hb dL_law_512 (by decide) ?_
  refine lv_iadd hx hb dL_law_513 ?_
  refine q_top (y := nI (6 * j + 1)) (nI_add (6 * j) 1) ?_
  refine va_sld hx hb hX hbl hbA hS (i := (nI (6 * j + 1))) (vp_in_nI (by omega) (by omega)) dL_law_514 ?_
  refine q_top (y := z 1) (by rw [nI_clamp (by omega), hz]) ?_
  refine lv_aload_n hx hb dL_law_515 rfl (lv_at hl 4 rfl) ?_
  refine lv_iload hx hb dL_law_516 (lv_at hl 0 rfl) ?_
  refine lv_iconst (v := 2) hx hb dL_law_518 (by decide) ?_
  refine lv_iadd hx hb dL_law_519 ?_
  refine q_top (y := nI (6 * j + 2)) (nI_add (6 * j) 2) ?_
  refine va_sld hx hb hX hbl hbA hS (i := (nI (6 * j + 2))) (vp_in_nI (by omega) (by omega)) dL_law_520 ?_
  refine q_top (y := z 2) (by rw [nI_clamp (by omega), hz]) ?_
  refine q_goi (v := o2) (va_runV (As := [.int (z 1), .int (z 2)]) (rest := []) ⟨hx, hb, hml, hown, hts⟩ (c_X10_hub l dC dI bm km (y.2.1 0) (y.2.1 1) (y.2.1 2) (y.2.1 3) (y.2.1 4) (y.2.1 5) (y.2.1 6) (y.2.1 7) (y.2.1 8) (y.2.2) (y.1 4) (y.1 5) (y.1 8) (z 1) (z 2) o2 hF2) (cwV 2 hts (q_lV m_616 m_617 m_618 m_5 m_619) rfl rfl rfl hdV_yX10_hub_2 ⟨Nat.le_of_ble_eq_true rfl, Nat.le_of_ble_eq_true rfl⟩) (q_preV hK hP (q := (RX10, TX10, 24)) (ci := 10) (q0 := 29) rfl rfl [29, 33, 34, 37] rfl [18, 19, 22] rfl) rfl rfl hl.1 rfl (lv_room (Nat.le_of_ble_eq_true rfl)) dL_law_521 ⟨by show 45 + j + 0 ≤ 1070; omega, by show 18169 + 6 * j + 0 ≤ 26367; omega⟩) hP hS (fun H locs hP hS => ?_)
  have hP : va_P (dC, dI) vwCl (lw_W a k bm km q3 k3 p1.2 p2.2 fo) H := by rw [← hp2]; exact hP
  have hD : va_D (fun q : Nat => s.heap.size ≤ q) (lw_W a k bm km q3 k3 p1.2 p2.2 fo) := by rw [← hp2]; exact hD
  refine lv_pop hx hb dL_law_524 rfl ?_
  refine lv_goto (tgt := 1344) hx hb dL_law_525 (by decide) ?_
  refine W.widen (k := 45 + j + 1) (n := 18169 + 6 * j + 6) (by omega) (by omega) ?_
  exact kont _ H locs ls hP hD hS (lv_sub hl [0, 1, 2, 3, 4] rfl)
