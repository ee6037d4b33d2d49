theorem dL_law_528 : decode cL_law 528 = .ok (.aload_n 1, 1) := q_o43 (by decide +kernel)
theorem dL_law_529 : decode cL_law 529 = .ok (.aload_n 0, 1) := q_o42 (by decide +kernel)
theorem dL_law_530 : decode cL_law 530 = .ok (.iload 4, 2) := q_o21 (a := 4) (by decide +kernel)
theorem dL_law_532 : decode cL_law 532 = .ok (.iconst 1, 1) := q_o4 (by decide +kernel)
theorem dL_law_533 : decode cL_law 533 = .ok (.iadd, 1) := q_o96 (by decide +kernel)
theorem dL_law_534 : decode cL_law 534 = .ok (.iaload, 1) := q_o46 (by decide +kernel)
theorem dL_law_535 : decode cL_law 535 = .ok (.aload_n 0, 1) := q_o42 (by decide +kernel)
theorem dL_law_536 : decode cL_law 536 = .ok (.iload 4, 2) := q_o21 (a := 4) (by decide +kernel)
theorem dL_law_538 : decode cL_law 538 = .ok (.iconst 2, 1) := q_o5 (by decide +kernel)
theorem dL_law_539 : decode cL_law 539 = .ok (.iadd, 1) := q_o96 (by decide +kernel)
theorem dL_law_540 : decode cL_law 540 = .ok (.iaload, 1) := q_o46 (by decide +kernel)
theorem dL_law_541 : decode cL_law 541 = .ok (.invokevirtual 60, 3) := q_o182 (a := 0) (b := 60) (by decide +kernel)
theorem dL_law_544 : decode cL_law 544 = .ok (.pop, 1) := q_o87 (by decide +kernel)
theorem dL_law_545 : decode cL_law 545 = .ok (.aload_n 2, 1) := q_o44 (by decide +kernel)
theorem dL_law_546 : decode cL_law 546 = .ok (.aload_n 0, 1) := q_o42 (by decide +kernel)
theorem dL_law_547 : decode cL_law 547 = .ok (.iload 4, 2) := q_o21 (a := 4) (by decide +kernel)
theorem dL_law_549 : decode cL_law 549 = .ok (.iconst 1, 1) := q_o4 (by decide +kernel)
theorem dL_law_550 : decode cL_law 550 = .ok (.iadd, 1) := q_o96 (by decide +kernel)
theorem dL_law_551 : decode cL_law 551 = .ok (.iaload, 1) := q_o46 (by decide +kernel)
theorem dL_law_552 : decode cL_law 552 = .ok (.aload_n 0, 1) := q_o42 (by decide +kernel)
theorem dL_law_553 : decode cL_law 553 = .ok (.iload 4, 2) := q_o21 (a := 4) (by decide +kernel)
theorem dL_law_555 : decode cL_law 555 = .ok (.iconst 2, 1) := q_o5 (by decide +kernel)
theorem dL_law_556 : decode cL_law 556 = .ok (.iadd, 1) := q_o96 (by decide +kernel)
theorem dL_law_557 : decode cL_law 557 = .ok (.iaload, 1) := q_o46 (by decide +kernel)
theorem dL_law_558 : decode cL_law 558 = .ok (.invokevirtual 63, 3) := q_o182 (a := 0) (b := 63) (by decide +kernel)
theorem dL_law_561 : decode cL_law 561 = .ok (.pop, 1) := q_o87 (by decide +kernel)
theorem dL_law_562 : decode cL_law 562 = .ok (.goto 782, 3) := q_o167 (a := 3) (b := 14) (by decide +kernel) rfl
theorem dL_law_565 : decode cL_law 565 = .ok (.aload_n 1, 1) := q_o43 (by decide +kernel)
theorem dL_law_566 : decode cL_law 566 = .ok (.aload_n 0, 1) := q_o42 (by decide +kernel)
theorem dL_law_567 : decode cL_law 567 = .ok (.iload 4, 2) := q_o21 (a := 4) (by decide +kernel)
theorem dL_law_569 : decode cL_law 569 = .ok (.iconst 1, 1) := q_o4 (by decide +kernel)
theorem dL_law_570 : decode cL_law 570 = .ok (.iadd, 1) := q_o96 (by decide +kernel)
theorem dL_law_571 : decode cL_law 571 = .ok (.iaload, 1) := q_o46 (by decide +kernel)
theorem dL_law_572 : decode cL_law 572 = .ok (.invokevirtual 64, 3) := q_o182 (a := 0) (b := 64) (by decide +kernel)
theorem dL_law_575 : decode cL_law 575 = .ok (.pop, 1) := q_o87 (by decide +kernel)
theorem dL_law_576 : decode cL_law 576 = .ok (.aload_n 2, 1) := q_o44 (by decide +kernel)
theorem dL_law_577 : decode cL_law 577 = .ok (.aload_n 0, 1) := q_o42 (by decide +kernel)
theorem dL_law_578 : decode cL_law 578 = .ok (.iload 4, 2) := q_o21 (a := 4) (by decide +kernel)
theorem dL_law_580 : decode cL_law 580 = .ok (.iconst 1, 1) := q_o4 (by decide +kernel)
theorem dL_law_581 : decode cL_law 581 = .ok (.iadd, 1) := q_o96 (by decide +kernel)
theorem dL_law_582 : decode cL_law 582 = .ok (.iaload, 1) := q_o46 (by decide +kernel)
theorem dL_law_583 : decode cL_law 583 = .ok (.invokevirtual 67, 3) := q_o182 (a := 0) (b := 67) (by decide +kernel)
theorem dL_law_586 : decode cL_law 586 = .ok (.pop, 1) := q_o87 (by decide +kernel)
theorem dL_law_587 : decode cL_law 587 = .ok (.goto 757, 3) := q_o167 (a := 2) (b := 245) (by decide +kernel) rfl
theorem dL_law_590 : decode cL_law 590 = .ok (.aload_n 1, 1) := q_o43 (by decide +kernel)
theorem dL_law_591 : decode cL_law 591 = .ok (.aload_n 0, 1) := q_o42 (by decide +kernel)
theorem dL_law_592 : decode cL_law 592 = .ok (.iload 4, 2) := q_o21 (a := 4) (by decide +kernel)
theorem dL_law_594 : decode cL_law 594 = .ok (.iconst 1, 1) := q_o4 (by decide +kernel)
theorem dL_law_595 : decode cL_law 595 = .ok (.iadd, 1) := q_o96 (by decide +kernel)
theorem dL_law_596 : decode cL_law 596 = .ok (.iaload, 1) := q_o46 (by decide +kernel)
theorem dL_law_597 : decode cL_law 597 = .ok (.invokevirtual 68, 3) := q_o182 (a := 0) (b := 68) (by decide +kernel)
theorem dL_law_600 : decode cL_law 600 = .ok (.pop, 1) := q_o87 (by decide +kernel)
theorem dL_law_601 : decode cL_law 601 = .ok (.aload_n 2, 1) := q_o44 (by decide +kernel)
theorem dL_law_602 : decode cL_law 602 = .ok (.aload_n 0, 1) := q_o42 (by decide +kernel)
theorem dL_law_603 : decode cL_law 603 = .ok (.iload 4, 2) := q_o21 (a := 4) (by decide +kernel)
theorem dL_law_605 : decode cL_law 605 = .ok (.iconst 1, 1) := q_o4 (by decide +kernel)
theorem dL_law_606 : decode cL_law 606 = .ok (.iadd, 1) := q_o96 (by decide +kernel)
theorem dL_law_607 : decode cL_law 607 = .ok (.iaload, 1) := q_o46 (by decide +kernel)
theorem dL_law_608 : decode cL_law 608 = .ok (.invokevirtual 71, 3) := q_o182 (a := 0) (b := 71) (by decide +kernel)
theorem dL_law_611 : decode cL_law 611 = .ok (.pop, 1) := q_o87 (by decide +kernel)
theorem dL_law_612 : decode cL_law 612 = .ok (.goto 732, 3) := q_o167 (a := 2) (b := 220) (by decide +kernel) rfl
theorem dL_law_615 : decode cL_law 615 = .ok (.aload_n 1, 1) := q_o43 (by decide +kernel)
theorem dL_law_616 : decode cL_law 616 = .ok (.aload_n 0, 1) := q_o42 (by decide +kernel)
theorem dL_law_617 : decode cL_law 617 = .ok (.iload 4, 2) := q_o21 (a := 4) (by decide +kernel)
theorem dL_law_619 : decode cL_law 619 = .ok (.iconst 1, 1) := q_o4 (by decide +kernel)
theorem dL_law_620 : decode cL_law 620 = .ok (.iadd, 1) := q_o96 (by decide +kernel)
theorem dL_law_621 : decode cL_law 621 = .ok (.iaload, 1) := q_o46 (by decide +kernel)
theorem dL_law_622 : decode cL_law 622 = .ok (.aload_n 0, 1) := q_o42 (by decide +kernel)
theorem dL_law_623 : decode cL_law 623 = .ok (.iload 4, 2) := q_o21 (a := 4) (by decide +kernel)
theorem dL_law_625 : decode cL_law 625 = .ok (.iconst 2, 1) := q_o5 (by decide +kernel)
theorem dL_law_626 : decode cL_law 626 = .ok (.iadd, 1) := q_o96 (by decide +kernel)
theorem dL_law_627 : decode cL_law 627 = .ok (.iaload, 1) := q_o46 (by decide +kernel)
theorem dL_law_628 : decode cL_law 628 = .ok (.aload_n 0, 1) := q_o42 (by decide +kernel)
theorem dL_law_629 : decode cL_law 629 = .ok (.iload 4, 2) := q_o21 (a := 4) (by decide +kernel)
theorem dL_law_631 : decode cL_law 631 = .ok (.iconst 3, 1) := q_o6 (by decide +kernel)
theorem dL_law_632 : decode cL_law 632 = .ok (.iadd, 1) := q_o96 (by decide +kernel)
theorem dL_law_633 : decode cL_law 633 = .ok (.iaload, 1) := q_o46 (by decide +kernel)
theorem dL_law_634 : decode cL_law 634 = .ok (.invokevirtual 72, 3) := q_o182 (a := 0) (b := 72) (by decide +kernel)
theorem dL_law_637 : decode cL_law 637 = .ok (.pop, 1) := q_o87 (by decide +kernel)
theorem dL_law_638 : decode cL_law 638 = .ok (.aload_n 2, 1) := q_o44 (by decide +kernel)
theorem dL_law_639 : decode cL_law 639 = .ok (.aload_n 0, 1) := q_o42 (by decide +kernel)
theorem dL_law_640 : decode cL_law 640 = .ok (.iload 4, 2) := q_o21 (a := 4) (by decide +kernel)
theorem dL_law_642 : decode cL_law 642 = .ok (.iconst 1, 1) := q_o4 (by decide +kernel)
theorem dL_law_643 : decode cL_law 643 = .ok (.iadd, 1) := q_o96 (by decide +kernel)
theorem dL_law_644 : decode cL_law 644 = .ok (.iaload, 1) := q_o46 (by decide +kernel)
theorem dL_law_645 : decode cL_law 645 = .ok (.aload_n 0, 1) := q_o42 (by decide +kernel)
theorem dL_law_646 : decode cL_law 646 = .ok (.iload 4, 2) := q_o21 (a := 4) (by decide +kernel)
theorem dL_law_648 : decode cL_law 648 = .ok (.iconst 2, 1) := q_o5 (by decide +kernel)
theorem dL_law_649 : decode cL_law 649 = .ok (.iadd, 1) := q_o96 (by decide +kernel)
theorem dL_law_650 : decode cL_law 650 = .ok (.iaload, 1) := q_o46 (by decide +kernel)
theorem dL_law_651 : decode cL_law 651 = .ok (.aload_n 0, 1) := q_o42 (by decide +kernel)
theorem dL_law_652 : decode cL_law 652 = .ok (.iload 4, 2) := q_o21 (a := 4) (by decide +kernel)
theorem dL_law_654 : decode cL_law 654 = .ok (.iconst 3, 1) := q_o6 (by decide +kernel)
theorem dL_law_655 : decode cL_law 655 = .ok (.iadd, 1) := q_o96 (by decide +kernel)
theorem dL_law_656 : decode cL_law 656 = .ok (.iaload, 1) := q_o46 (by decide +kernel)
theorem dL_law_657 : decode cL_law 657 = .ok (.invokevirtual 76, 3) := q_o182 (a := 0) (b := 76) (by decide +kernel)
theorem dL_law_660 : decode cL_law 660 = .ok (.pop, 1) := q_o87 (by decide +kernel)
theorem dL_law_661 : decode cL_law 661 = .ok (.goto 683, 3) := q_o167 (a := 2) (b := 171) (by decide +kernel) rfl
theorem hdV_yX10_at_1 : yX10_at.cls = RX10 ∧ yX10_at.cls ≠ "java/lang/invoke/MethodHandle" ∧ yX10_at.cls ≠ "java/lang/invoke/VarHandle" ∧ (parseMethodDescriptor yX10_at.desc).map (fun d => d.parameters.length) = some 1 := by decide +kernel
theorem hdV_yX10_helper_1 : yX10_helper.cls = RX10 ∧ yX10_helper.cls ≠ "java/lang/invoke/MethodHandle" ∧ yX10_helper.cls ≠ "java/lang/invoke/VarHandle" ∧ (parseMethodDescriptor yX10_helper.desc).map (fun d => d.parameters.length) = some 1 := by decide +kernel
theorem hdV_yX10_octet_2 : yX10_octet.cls = RX10 ∧ yX10_octet.cls ≠ "java/lang/invoke/MethodHandle" ∧ yX10_octet.cls ≠ "java/lang/invoke/VarHandle" ∧ (parseMethodDescriptor yX10_octet.desc).map (fun d => d.parameters.length) = some 2 := by decide +kernel
theorem hdV_yX10_plug_3 : yX10_plug.cls = RX10 ∧ yX10_plug.cls ≠ "java/lang/invoke/MethodHandle" ∧ yX10_plug.cls ≠ "java/lang/invoke/VarHandle" ∧ (parseMethodDescriptor yX10_plug.desc).map (fun d => d.parameters.length) = some 3 := by decide +kernel
theorem hdV_yX9_at_1 : yX9_at.cls = RX9 ∧ yX9_at.cls ≠ "java/lang/invoke/MethodHandle" ∧ yX9_at.cls ≠ "java/lang/invoke/VarHandle" ∧ (parseMethodDescriptor yX9_at.desc).map (fun d => d.parameters.length) = some 1 := by decide +kernel
theorem hdV_yX9_helper_1 : yX9_helper.cls = RX9 ∧ yX9_helper.cls ≠ "java/lang/invoke/MethodHandle" ∧ yX9_helper.cls ≠ "java/lang/invoke/VarHandle" ∧ (parseMethodDescriptor yX9_helper.desc).map (fun d => d.parameters.length) = some 1 := by decide +kernel
theorem hdV_yX9_octet_2 : yX9_octet.cls = RX9 ∧ yX9_octet.cls ≠ "java/lang/invoke/MethodHandle" ∧ yX9_octet.cls ≠ "java/lang/invoke/VarHandle" ∧ (parseMethodDescriptor yX9_octet.desc).map (fun d => d.parameters.length) = some 2 := by decide +kernel
theorem hdV_yX9_plug_3 : yX9_plug.cls = RX9 ∧ yX9_plug.cls ≠ "java/lang/invoke/MethodHandle" ∧ yX9_plug.cls ≠ "java/lang/invoke/VarHandle" ∧ (parseMethodDescriptor yX9_plug.desc).map (fun d => d.parameters.length) = some 3 := by decide +kernel
set_option maxHeartbeats 4000000 in
set_option maxRecDepth 100000 in
theorem lw_case_9 {p : Program} {l : Launch} {e : Env} {s : State} {m : MethodId} {below : List Frame} {meth : Method} {c : Code} {dC : Nat → ClassId} {dI : Nat → Nat → Nat} {b L : Nat} {xs : Nat → Int32} (C0 : lw_At p s m meth c b L xs) (ts ks kv : Nat → Nat) (sa : Nat) (hE : q_S ts ks kv (fun q : Nat => s.heap.size ≤ q) s) (hEX : q_X sa s) (hlt : l.stackTraces = false) {a : Nat → Nat} {k : Nat → ClassId} {bm : Nat → Nat} {km : Nat → ClassId} {q3 : Nat} {k3 : ClassId} {j : Nat} (hj : 6 * j + 6 ≤ L) (hL : L ≤ 3072) {z : Nat → Int32} (hz : ∀ q, z q = xs (6 * j + q)) {x y : XS} {p1 p2 : Int32 × XS} (h1 : SX_9 x z = some p1) (h2 : SY_9 y z = some p2) {fo : Nat → Int64} {H : Heap} {locs : List Loc} {ls : Array Slot} (hK : va_K (dC, dI) vwCl (lw_T k km k3) s) (hP : va_P (dC, dI) vwCl (lw_W a k bm km q3 k3 x y fo) H) (hD : va_D (fun q : Nat => s.heap.size ≤ q) (lw_W a k bm km q3 k3 x y fo)) (hS : va_S (fun q : Nat => s.heap.size ≤ q) s.heap H locs) (hl : lv_has ls 7 [(4, .int (nI (6 * j))), (3, .ref q3), (2, .ref (bm 0)), (1, .ref (a 0)), (0, .ref b)]) (kont : ∀ (fo : Nat → Int64) (H : Heap) (locs : List Loc) (ls : Array Slot), va_P (dC, dI) vwCl (lw_W a k bm km q3 k3 p1.2 p2.2 fo) H → va_D (fun q : Nat => s.heap.size ≤ q) (lw_W a k bm km q3 k3 p1.2 p2.2 fo) → va_S (fun q : Nat => s.heap.size ≤ q) s.heap H locs → lv_has ls 7 [(4, .int (nI (6 * j))), (3, .ref q3), (2, .ref (bm 0)), (1, .ref (a 0)), (0, .ref b)] → W p l e room_1 s m #[Value.ref b] below meth c H locs (45 + j + 1) (18169 + 6 * j + 6) (lw_Z below #[Value.ref b] s) (F0 m 1344 ls [])) : W p l e room_1 s m #[Value.ref b] below meth c H locs (45 + j) (18169 + 6 * j) (lw_Z below #[Value.ref b] s) (F0 m 528 ls []) := by
  obtain ⟨hx, hb, hr, hml, hown, hts, hX, hbl, hlocks, hgv⟩ := C0
  have hown : s.vm.findClass RL = some m.cls := hown
  have hA : ∀ q : Nat, s.heap.size ≤ q → (fun q : Nat => s.heap.size ≤ q) q := fun _ h => h
  have hbA : ¬ (fun q : Nat => s.heap.size ≤ q) b := Nat.not_le.mpr hbl
  unfold SX_9 at h1
  unfold SY_9 at h2
  obtain ⟨o1, hF1, h1⟩ := q_bi h1
  have hp1 := Option.some.inj h1
  obtain ⟨o2, hF2, h2⟩ := q_bi h2
  have hp2 := Option.some.inj h2
  refine lv_aload_n hx hb dL_law_528 rfl (lv_at hl 3 rfl) ?_
  refine lv_aload_n hx hb dL_law_529 rfl (lv_at hl 4 rfl) ?_
  refine lv_iload hx hb dL_law_530 (lv_at hl 0 rfl) ?_
  refine lv_iconst (v := 1) hx hb dL_law_532 (by decide) ?_
  refine lv_iadd hx hb dL_law_533 ?_
  refine q_top (y := nI (6 * j + 1)) (nI_add (6 * j) 1) ?_
  refine va_sld hx hb hX hbl hbA hS (i := (nI (6 * j + 1))) (vp_in_nI (by omega) (by omega)) dL_law_534 ?_
  refine q_top (y := z 1) (by rw [nI_clamp (by omega), hz]) ?_
  refine lv_aload_n hx hb dL_law_535 rfl (lv_at hl 4 rfl) ?_
  refine lv_iload hx hb dL_law_536 (lv_at hl 0 rfl) ?_
  refine lv_iconst (v := 2) hx hb dL_law_538 (by decide) ?_
  refine lv_iadd hx hb dL_law_539 ?_
  refine q_top (y := nI (6 * j + 2)) (nI_add (6 * j) 2) ?_
  refine va_sld hx hb hX hbl hbA hS (i := (nI (6 * j + 2))) (vp_in_nI (by omega) (by omega)) dL_law_540 ?_
  refine q_top (y := z 2) (by rw [nI_clamp (by omega), hz]) ?_
  refine q_goi (v := o1) (va_runV (As := [.int (z 1), .int (z 2)]) (rest := []) ⟨hx, hb, hml, hown, hts⟩ (c_X9_octet l dC dI a k (x.2.1 4) (x.2.1 11) (x.1 8) (x.1 9) (x.1 15) (z 1) (z 2) o1 hF1) (cwV 2 hts (q_lV m_661 m_662 m_663 m_2 m_664) rfl rfl rfl hdV_yX9_octet_2 ⟨Nat.le_of_ble_eq_true rfl, Nat.le_of_ble_eq_true rfl⟩) (q_preV hK hP (q := (RX9, TX9, 15)) (ci := 9) (q0 := 0) rfl rfl [0, 14, 15, 7, 8, 9] rfl [8, 3, 4] rfl) rfl rfl hl.1 rfl (lv_room (Nat.le_of_ble_eq_true rfl)) dL_law_541 ⟨by show 45 + j + 0 ≤ 1070; omega, by show 18169 + 6 * j + 0 ≤ 26367; omega⟩) hP hS (fun H locs hP hS => ?_)
  have hP : va_P (dC, dI) vwCl (lw_W a k bm km q3 k3 p1.2 y fo) H := by rw [← hp1]; exact hP
  have hD : va_D (fun q : Nat => s.heap.size ≤ q) (lw_W a k bm km q3 k3 p1.2 y fo) := by rw [← hp1]; exact hD
  refine lv_pop hx hb dL_law_544 rfl ?_
  refine lv_aload_n hx hb dL_law_545 rfl (lv_at hl 2 rfl) ?_
  refine lv_aload_n hx hb dL_law_546 rfl (lv_at hl 4 rfl) ?_
  refine lv_iload hx hb dL_law_547 (lv_at hl 0 rfl) ?_
  refine lv_iconst (v := 1) hx hb dL_law_549 (by decide) ?_
  refine lv_iadd hx hb dL_law_550 ?_
  refine q_top (y := nI (6 * j + 1)) (nI_add (6 * j) 1) ?_
  refine va_sld hx hb hX hbl hbA hS (i := (nI (6 * j + 1))) (vp_in_nI (by omega) (by omega)) dL_law_551 ?_
  refine q_top (y := z 1) (by rw [nI_clamp (by omega), hz]) ?_
  refine lv_aload_n hx hb dL_law_552 rfl (lv_at hl 4 rfl) ?_
  refine lv_iload hx hb dL_law_553 (lv_at hl 0 rfl) ?_
  refine lv_iconst (v := 2) hx hb dL_law_555 (by decide) ?_
  refine lv_iadd hx hb dL_law_556 ?_
  refine q_top (y := nI (6 * j + 2)) (nI_add (6 * j) 2) ?_
  refine va_sld hx hb hX hbl hbA hS (i := (nI (6 * j + 2))) (vp_in_nI (by omega) (by omega)) dL_law_557 ?_
  refine q_top (y := z 2) (by rw [nI_clamp (by omega), hz]) ?_
  refine q_goi (v := o2) (va_runV (As := [.int (z 1), .int (z 2)]) (rest := []) ⟨hx, hb, hml, hown, hts⟩ (c_X10_octet l dC dI bm km (y.2.1 0) (y.2.1 1) (y.2.1 2) (y.2.1 3) (y.2.1 4) (y.2.1 5) (y.2.1 6) (y.2.1 7) (y.2.1 8) (y.2.2) (y.1 5) (y.1 8) (z 1) (z 2) o2 hF2) (cwV 2 hts (q_lV m_677 m_678 m_679 m_5 m_680) rfl rfl rfl hdV_yX10_octet_2 ⟨Nat.le_of_ble_eq_true rfl, Nat.le_of_ble_eq_true rfl⟩) (q_preV hK hP (q := (RX10, TX10, 24)) (ci := 10) (q0 := 29) rfl rfl [29, 34, 37] rfl [19, 22] rfl) rfl rfl hl.1 rfl (lv_room (Nat.le_of_ble_eq_true rfl)) dL_law_558 ⟨by show 45 + j + 0 ≤ 1070; omega, by show 18169 + 6 * j + 0 ≤ 26367; omega⟩) hP hS (fun H locs hP hS => ?_)
  have hP : va_P (dC, dI) vwCl (lw_W a k bm km q3 k3 p1.2 p2.2 fo) H := by rw [← hp2]; exact hP
  have hD : va_D (fun q : Nat => s.heap.size ≤ q) (lw_W a k bm km q3 k3 p1.2 p2.2 fo) := by rw [← hp2]; exact hD
  refine lv_pop hx hb dL_law_561 rfl ?_
  refine lv_goto (tgt := 1344) hx hb dL_law_562 (by decide) ?_
  refine W.widen (k := 45 + j + 1) (n := 18169 + 6 * j + 6) (by omega) (by omega) ?_
  exact kont _ H locs ls hP hD hS (lv_sub hl [0, 1, 2, 3, 4] rfl)

set_option maxHeartbeats 4000000 in
set_option maxRecDepth 100000 in
theorem lw_case_10 {p : Program} {l : Launch} {e : Env} {s : State} {m : MethodId} {below : List Frame} {meth : Method} {c : Code} {dC : Nat → ClassId} {dI : Nat → Nat → Nat} {b L : Nat} {xs : Nat → Int32} (C0 : lw_At p s m meth c b L xs) (ts ks kv : Nat → Nat) (sa : Nat) (hE : q_S ts ks kv (fun q : Nat => s.heap.size ≤ q) s) (hEX : q_X sa s) (hlt : l.stackTraces = false) {a : Nat → Nat} {k : Nat → ClassId} {bm : Nat → Nat} {km : Nat → ClassId} {q3 : Nat} {k3 : ClassId} {j : Nat} (hj : 6 * j + 6 ≤ L) (hL : L ≤ 3072) {z : Nat → Int32} (hz : ∀ q, z q = xs (6 * j + q)) {x y : XS} {p1 p2 : Int32 × XS} (h1 : SX_10 x z = some p1) (h2 : SY_10 y z = some p2) {fo : Nat → Int64} {H : Heap} {locs : List Loc} {ls : Array Slot} (hK : va_K (dC, dI) vwCl (lw_T k km k3) s) (hP : va_P (dC, dI) vwCl (lw_W a k bm km q3 k3 x y fo) H) (hD : va_D (fun q : Nat => s.heap.size ≤ q) (lw_W a k bm km q3 k3 x y fo)) (hS : va_S (fun q : Nat => s.heap.size ≤ q) s.heap H locs) (hl : lv_has ls 7 [(4, .int (nI (6 * j))), (3, .ref q3), (2, .ref (bm 0)), (1, .ref (a 0)), (0, .ref b)]) (kont : ∀ (fo : Nat → Int64) (H : Heap) (locs : List Loc) (ls : Array Slot), va_P (dC, dI) vwCl (lw_W a k bm km q3 k3 p1.2 p2.2 fo) H → va_D (fun q : Nat => s.heap.size ≤ q) (lw_W a k bm km q3 k3 p1.2 p2.2 fo) → va_S (fun q : Nat => s.heap.size ≤ q) s.heap H locs → lv_has ls 7 [(4, .int (nI (6 * j))), (3, .ref q3), (2, .ref (bm 0)), (1, .ref (a 0)), (0, .ref b)] → W p l e room_1 s m #[Value.ref b] below meth c H locs (45 + j + 1) (18169 + 6 * j + 6) (lw_Z below #[Value.ref b] s) (F0 m 1344 ls [])) : W p l e room_1 s m #[Value.ref b] below meth c H locs (45 + j) (18169 + 6 * j) (lw_Z below #[Value.ref b] s) (F0 m 565 ls []) := by
  obtain ⟨hx, hb, hr, hml, hown, hts, hX, hbl, hlocks, hgv⟩ := C0
  have hown : s.vm.findClass RL = some m.cls := hown
  have hA : ∀ q : Nat, s.heap.size ≤ q → (fun q : Nat => s.heap.size ≤ q) q := fun _ h => h
  have hbA : ¬ (fun q : Nat => s.heap.size ≤ q) b := Nat.not_le.mpr hbl
  unfold SX_10 at h1
  unfold SY_10 at h2
  obtain ⟨o1, hF1, h1⟩ := q_bi h1
  have hp1 := Option.some.inj h1
  obtain ⟨o2, hF2, h2⟩ := q_bi h2
  have hp2 := Option.some.inj h2
  refine lv_aload_n hx hb dL_law_565 rfl (lv_at hl 3 rfl) ?_
  refine lv_aload_n hx hb dL_law_566 rfl (lv_at hl 4 rfl) ?_
  refine lv_iload hx hb dL_law_567 (lv_at hl 0 rfl) ?_
  refine lv_iconst (v := 1) hx hb dL_law_569 (by decide) ?_
  refine lv_iadd hx hb dL_law_570 ?_
  refine q_top (y := nI (6 * j + 1)) (nI_add (6 * j) 1) ?_
  refine va_sld hx hb hX hbl hbA hS (i := (nI (6 * j + 1))) (vp_in_nI (by omega) (by omega)) dL_law_571 ?_
  refine q_top (y := z 1) (by rw [nI_clamp (by omega), hz]) ?_
  refine q_goi (v := o1) (va_runV (As := [.int (z 1)]) (rest := []) ⟨hx, hb, hml, hown, hts⟩ (c_X9_at l dC dI a k (x.2.1 4) (x.2.1 11) (x.1 8) (x.1 9) (x.1 15) (z 1) o1 hF1) (cwV 1 hts (q_lV m_693 m_694 m_695 m_2 m_696) rfl rfl rfl hdV_yX9_at_1 ⟨Nat.le_of_ble_eq_true rfl, Nat.le_of_ble_eq_true rfl⟩) (q_preV hK hP (q := (RX9, TX9, 15)) (ci := 9) (q0 := 0) rfl rfl [0, 14, 15, 7, 8, 9] rfl [8, 3, 4] rfl) rfl rfl hl.1 rfl (lv_room (Nat.le_of_ble_eq_true rfl)) dL_law_572 ⟨by show 45 + j + 0 ≤ 1070; omega, by show 18169 + 6 * j + 0 ≤ 26367; omega⟩) hP hS (fun H locs hP hS => ?_)
  have hP : va_P (dC, dI) vwCl (lw_W a k bm km q3 k3 p1.2 y fo) H := by rw [← hp1]; exact hP
  have hD : va_D (fun q : Nat => s.heap.size ≤ q) (lw_W a k bm km q3 k3 p1.2 y fo) := by rw [← hp1]; exact hD
  refine lv_pop hx hb dL_law_575 rfl ?_
  refine lv_aload_n hx hb dL_law_576 rfl (lv_at hl 2 rfl) ?_
  refine lv_aload_n hx hb dL_law_577 rfl (lv_at hl 4 rfl) ?_
  refine lv_iload hx hb dL_law_578 (lv_at hl 0 rfl) ?_
  refine lv_iconst (v := 1) hx hb dL_law_580 (by decide) ?_
  refine lv_iadd hx hb dL_law_581 ?_
  refine q_top (y := nI (6 * j + 1)) (nI_add (6 * j) 1) ?_
  refine va_sld hx hb hX hbl hbA hS (i := (nI (6 * j + 1))) (vp_in_nI (by omega) (by omega)) dL_law_582 ?_
  refine q_top (y := z 1) (by rw [nI_clamp (by omega), hz]) ?_
  refine q_goi (v := o2) (va_runV (As := [.int (z 1)]) (rest := []) ⟨hx, hb, hml, hown, hts⟩ (c_X10_at l dC dI bm km (y.2.1 0) (y.2.1 1) (y.2.1 2) (y.2.1 3) (y.2.1 4) (y.2.1 5) (y.2.1 6) (y.2.1 7) (y.2.1 8) (y.2.2) (y.1 8) (z 1) o2 hF2) (cwV 1 hts (q_lV m_701 m_702 m_703 m_5 m_704) rfl rfl rfl hdV_yX10_at_1 ⟨Nat.le_of_ble_eq_true rfl, Nat.le_of_ble_eq_true rfl⟩) (q_preV hK hP (q := (RX10, TX10, 24)) (ci := 10) (q0 := 29) rfl rfl [29, 37] rfl [22] rfl) rfl rfl hl.1 rfl (lv_room (Nat.le_of_ble_eq_true rfl)) dL_law_583 ⟨by show 45 + j + 0 ≤ 1070; omega, by show 18169 + 6 * j + 0 ≤ 26367; omega⟩) hP hS (fun H locs hP hS => ?_)
  have hP : va_P (dC, dI) vwCl (lw_W a k bm km q3 k3 p1.2 p2.2 fo) H := by rw [← hp2]; exact hP
  have hD : va_D (fun q : Nat => s.heap.size ≤ q) (lw_W a k bm km q3 k3 p1.2 p2.2 fo) := by rw [← hp2]; exact hD
  refine lv_pop hx hb dL_law_586 rfl ?_
  refine lv_goto (tgt := 1344) hx hb dL_law_587 (by decide) ?_
  refine W.widen (k := 45 + j + 1) (n := 18169 + 6 * j + 6) (by omega) (by omega) ?_
  exact kont _ H locs ls hP hD hS (lv_sub hl [0, 1, 2, 3, 4] rfl)

set_option maxHeartbeats 4000000 in
set_option maxRecDepth 100000 in
theorem lw_case_11 {p : Program} {l : Launch} {e : Env} {s : State} {m : MethodId} {below : List Frame} {meth : Method} {c : Code} {dC : Nat → ClassId} {dI : Nat → Nat → Nat} {b L : Nat} {xs : Nat → Int32} (C0 : lw_At p s m meth c b L xs) (ts ks kv : Nat → Nat) (sa : Nat) (hE : q_S ts ks kv (fun q : Nat => s.heap.size ≤ q) s) (hEX : q_X sa s) (hlt : l.stackTraces = false) {a : Nat → Nat} {k : Nat → ClassId} {bm : Nat → Nat} {km : Nat → ClassId} {q3 : Nat} {k3 : ClassId} {j : Nat} (hj : 6 * j + 6 ≤ L) (hL : L ≤ 3072) {z : Nat → Int32} (hz : ∀ q, z q = xs (6 * j + q)) {x y : XS} {p1 p2 : Int32 × XS} (h1 : SX_11 x z = some p1) (h2 : SY_11 y z = some p2) {fo : Nat → Int64} {H : Heap} {locs : List Loc} {ls : Array Slot} (hK : va_K (dC, dI) vwCl (lw_T k km k3) s) (hP : va_P (dC, dI) vwCl (lw_W a k bm km q3 k3 x y fo) H) (hD : va_D (fun q : Nat => s.heap.size ≤ q) (lw_W a k bm km q3 k3 x y fo)) (hS : va_S (fun q : Nat => s.heap.size ≤ q) s.heap H locs) (hl : lv_has ls 7 [(4, .int (nI (6 * j))), (3, .ref q3), (2, .ref (bm 0)), (1, .ref (a 0)), (0, .ref b)]) (kont : ∀ (fo : Nat → Int64) (H : Heap) (locs : List Loc) (ls : Array Slot), va_P (dC, dI) vwCl (lw_W a k bm km q3 k3 p1.2 p2.2 fo) H → va_D (fun q : Nat => s.heap.size ≤ q) (lw_W a k bm km q3 k3 p1.2 p2.2 fo) → va_S (fun q : Nat => s.heap.size ≤ q) s.heap H locs → lv_has ls 7 [(4, .int (nI (6 * j))), (3, .ref q3), (2, .ref (bm 0)), (1, .ref (a 0)), (0, .ref b)] → W p l e room_1 s m #[Value.ref b] below meth c H locs (45 + j + 1) (18169 + 6 * j + 6) (lw_Z below #[Value.ref b] s) (F0 m 1344 ls [])) : W p l e room_1 s m #[Value.ref b] below meth c H locs (45 + j) (18169 + 6 * j) (lw_Z below #[Value.ref b] s) (F0 m 590 ls []) := by
  obtain ⟨hx, hb, hr, hml, hown, hts, hX, hbl, hlocks, hgv⟩ := C0
  have hown : s.vm.findClass RL = some m.cls := hown
  have hA : ∀ q : Nat, s.heap.size ≤ q → (fun q : Nat => s.heap.size ≤ q) q := fun _ h => h
  have hbA : ¬ (fun q : Nat => s.heap.size ≤ q) b := Nat.not_le.mpr hbl
  unfold SX_11 at h1
  unfold SY_11 at h2
  obtain ⟨o1, hF1, h1⟩ := q_bi h1
  have hp1 := Option.some.inj h1
  obtain ⟨o2, hF2, h2⟩ := q_bi h2
  have hp2 := Option.some.inj h2
  refine lv_aload_n hx hb dL_law_590 rfl (lv_at hl 3 rfl) ?_
  refine lv_aload_n hx hb dL_law_591 rfl (lv_at hl 4 rfl) ?_
  refine lv_iload hx hb dL_law_592 (lv_at hl 0 rfl) ?_
  refine lv_iconst (v := 1) hx hb dL_law_594 (by decide) ?_
  refine lv_iadd hx hb dL_law_595 ?_
  refine q_top (y := nI (6 * j + 1)) (nI_add (6 * j) 1) ?_
  refine va_sld hx hb hX hbl hbA hS (i := (nI (6 * j + 1))) (vp_in_nI (by omega) (by omega)) dL_law_596 ?_
  refine q_top (y := z 1) (by rw [nI_clamp (by omega), hz]) ?_
  refine q_goi (v := o1) (va_runV (As := [.int (z 1)]) (rest := []) ⟨hx, hb, hml, hown, hts⟩ (c_X9_helper l dC dI a k (x.2.1 4) (x.2.1 11) (x.1 8) (x.1 9) (x.1 15) (z 1) o1 hF1) (cwV 1 hts (q_lV m_709 m_710 m_711 m_2 m_712) rfl rfl rfl hdV_yX9_helper_1 ⟨Nat.le_of_ble_eq_true rfl, Nat.le_of_ble_eq_true rfl⟩) (q_preV hK hP (q := (RX9, TX9, 15)) (ci := 9) (q0 := 0) rfl rfl [0, 14, 15, 7, 8, 9] rfl [8, 3, 4] rfl) rfl rfl hl.1 rfl (lv_room (Nat.le_of_ble_eq_true rfl)) dL_law_597 ⟨by show 45 + j + 0 ≤ 1070; omega, by show 18169 + 6 * j + 0 ≤ 26367; omega⟩) hP hS (fun H locs hP hS => ?_)
  have hP : va_P (dC, dI) vwCl (lw_W a k bm km q3 k3 p1.2 y fo) H := by rw [← hp1]; exact hP
  have hD : va_D (fun q : Nat => s.heap.size ≤ q) (lw_W a k bm km q3 k3 p1.2 y fo) := by rw [← hp1]; exact hD
  refine lv_pop hx hb dL_law_600 rfl ?_
  refine lv_aload_n hx hb dL_law_601 rfl (lv_at hl 2 rfl) ?_
  refine lv_aload_n hx hb dL_law_602 rfl (lv_at hl 4 rfl) ?_
  refine lv_iload hx hb dL_law_603 (lv_at hl 0 rfl) ?_
  refine lv_iconst (v := 1) hx hb dL_law_605 (by decide) ?_
  refine lv_iadd hx hb dL_law_606 ?_
  refine q_top (y := nI (6 * j + 1)) (nI_add (6 * j) 1) ?_
  refine va_sld hx hb hX hbl hbA hS (i := (nI (6 * j + 1))) (vp_in_nI (by omega) (by omega)) dL_law_607 ?_
  refine q_top (y := z 1) (by rw [nI_clamp (by omega), hz]) ?_
  refine q_goi (v := o2) (va_runV (As := [.int (z 1)]) (rest := []) ⟨hx, hb, hml, hown, hts⟩ (c_X10_helper l dC dI bm km (y.2.1 0) (y.2.1 1) (y.2.1 2) (y.2.1 3) (y.2.1 4) (y.2.1 5) (y.2.1 6) (y.2.1 7) (y.2.1 8) (y.2.2) (y.1 8) (z 1) o2 hF2) (cwV 1 hts (q_lV m_714 m_715 m_716 m_5 m_717) rfl rfl rfl hdV_yX10_helper_1 ⟨Nat.le_of_ble_eq_true rfl, Nat.le_of_ble_eq_true rfl⟩) (q_preV hK hP (q := (RX10, TX10, 24)) (ci := 10) (q0 := 29) rfl rfl [29, 37] rfl [22] rfl) rfl rfl hl.1 rfl (lv_room (Nat.le_of_ble_eq_true rfl)) dL_law_608 ⟨by show 45 + j + 0 ≤ 1070; omega, by show 18169 + 6 * j + 0 ≤ 26367; omega⟩) hP hS (fun H locs hP hS => ?_)
  have hP : va_P (dC, dI) vwCl (lw_W a k bm km q3 k3 p1.2 p2.2 fo) H := by rw [← hp2]; exact hP
  have hD : va_D (fun q : Nat => s.heap.size ≤ q) (lw_W a k bm km q3 k3 p1.2 p2.2 fo) := by rw [← hp2]; exact hD
  refine lv_pop hx hb dL_law_611 rfl ?_
  refine lv_goto (tgt := 1344) hx hb dL_law_612 (by decide) ?_
  refine W.widen (k := 45 + j + 1) (n := 18169 + 6 * j + 6) (by omega) (by omega) ?_
  exact kont _ H locs ls hP hD hS (lv_sub hl [0, 1, 2, 3, 4] rfl)

set_option maxHeartbeats 4000000 in
set_option maxRecDepth 100000 in
theorem lw_case_12 {p : Program} {l : Launch} {e : Env} {s : State} {m : MethodId} {below : List Frame} {meth : Method} {c : Code} {dC : Nat → ClassId} {dI : Nat → Nat → Nat} {b L : Nat} {xs : Nat → Int32} (C0 : lw_At p s m meth c b L xs) (ts ks kv : Nat → Nat) (sa : Nat) (hE : q_S ts ks kv (fun q : Nat => s.heap.size ≤ q) s) (hEX : q_X sa s) (hlt : l.stackTraces = false) {a : Nat → Nat} {k : Nat → ClassId} {bm : Nat → Nat} {km : Nat → ClassId} {q3 : Nat} {k3 : ClassId} {j : Nat} (hj : 6 * j + 6 ≤ L) (hL : L ≤ 3072) {z : Nat → Int32} (hz : ∀ q, z q = xs (6 * j + q)) {x y : XS} {p1 p2 : Int32 × XS} (h1 : SX_12 x z = some p1) (h2 : SY_12 y z = some p2) {fo : Nat → Int64} {H : Heap} {locs : List Loc} {ls : Array Slot} (hK : va_K (dC, dI) vwCl (lw_T k km k3) s) (hP : va_P (dC, dI) vwCl (lw_W a k bm km q3 k3 x y fo) H) (hD : va_D (fun q : Nat => s.heap.size ≤ q) (lw_W a k bm km q3 k3 x y fo)) (hS : va_S (fun q : Nat => s.heap.size ≤ q) s.heap H locs) (hl : lv_has ls 7 [(4, .int (nI (6 * j))), (3, .ref q3), (2, .ref (bm 0)), (1, .ref (a 0)), (0, .ref b)]) (kont : ∀ (fo : Nat → Int64) (H : Heap) (locs : List Loc) (ls : Array Slot), va_P (dC, dI) vwCl (lw_W a k bm km q3 k3 p1.2 p2.2 fo) H → va_D (fun q : Nat => s.heap.size ≤ q) (lw_W a k bm km q3 k3 p1.2 p2.2 fo) → va_S (fun q : Nat => s.heap.size ≤ q) s.heap H locs → lv_has ls 7 [(4, .int (nI (6 * j))), (3, .ref q3), (2, .ref (bm 0)), (1, .ref (a 0)), (0, .ref b)] → W p l e room_1 s m #[Value.ref b] below meth c H locs (45 + j + 1) (18169 + 6 * j + 6) (lw_Z below #[Value.ref b] s) (F0 m 1344 ls [])) : W p l e room_1 s m #[Value.ref b] below meth c H locs (45 + j) (18169 + 6 * j) (lw_Z below #[Value.ref b] s) (F0 m 615 ls []) := by
  obtain ⟨hx, hb, hr, hml, hown, hts, hX, hbl, hlocks, hgv⟩ := C0
  have hown : s.vm.findClass RL = some m.cls := hown
  have hA : ∀ q : Nat, s.heap.size ≤ q → (fun q : Nat => s.heap.size ≤ q) q := fun _ h => h
  have hbA : ¬ (fun q : Nat => s.heap.size ≤ q) b := Nat.not_le.mpr hbl
  unfold SX_12 at h1
  unfold SY_12 at h2
  obtain ⟨o1, hF1, h1⟩ := q_bi h1
  have hp1 := Option.some.inj h1
  obtain ⟨o2, hF2, h2⟩ := q_bi h2
  have hp2 := Option.some.inj h2
  refine lv_aload_n hx hb dL_law_615 rfl (lv_at hl 3 rfl) ?_
  refine lv_aload_n hx hb dL_law_616 rfl (lv_at hl 4 rfl) ?_
  refine lv_iload hx hb dL_law_617 (lv_at hl 0 rfl) ?_
  refine lv_iconst (v := 1) hx hb dL_law_619 (by decide) ?_
  refine lv_iadd hx hb dL_law_620 ?_
  refine q_top (y := nI (6 * j + 1)) (nI_add (6 * j) 1) ?_
  refine va_sld hx hb hX hbl hbA hS (i := (nI (6 * j + 1))) (vp_in_nI (by omega) (by omega)) dL_law_621 ?_
  refine q_top (y := z 1) (by rw [nI_clamp (by omega), hz]) ?_
  refine lv_aload_n hx hb dL_law_622 rfl (lv_at hl 4 rfl) ?_
  refine lv_iload hx hb dL_law_623 (lv_at hl 0 rfl) ?_
  refine lv_iconst (v := 2) hx hb dL_law_625 (by decide) ?_
  refine lv_iadd hx hb dL_law_626 ?_
  refine q_top (y := nI (6 * j + 2)) (nI_add (6 * j) 2) ?_
  refine va_sld hx hb hX hbl hbA hS (i := (nI (6 * j + 2))) (vp_in_nI (by omega) (by omega)) dL_law_627 ?_
  refine q_top (y := z 2) (by rw [nI_clamp (by omega), hz]) ?_
  refine lv_aload_n hx hb dL_law_628 rfl (lv_at hl 4 rfl) ?_
  refine lv_iload hx hb dL_law_629 (lv_at hl 0 rfl) ?_
  refine lv_iconst (v := 3) hx hb dL_law_631 (by decide) ?_
  refine lv_iadd hx hb dL_law_632 ?_
  refine q_top (y := nI (6 * j + 3)) (nI_add (6 * j) 3) ?_
  refine va_sld hx hb hX hbl hbA hS (i := (nI (6 * j + 3))) (vp_in_nI (by omega) (by omega)) dL_law_633 ?_
  refine q_top (y := z 3) (by rw [nI_clamp (by omega), hz]) ?_
  have qxa2 : p1.2.1 2 = x.1 2 := by rw [← hp1]; try rfl
  have qxa5 : p1.2.1 5 = x.1 5 := by rw [← hp1]; try rfl
  have qxa6 : p1.2.1 6 = x.1 6 := by rw [← hp1]; try rfl
  have qxa8 : p1.2.1 8 = x.1 8 := by rw [← hp1]; try rfl
  have qxa9 : p1.2.1 9 = x.1 9 := by rw [← hp1]; try rfl
  have qxa11 : p1.2.1 11 = x.1 11 := by rw [← hp1]; try rfl
  have qxa12 : p1.2.1 12 = x.1 12 := by rw [← hp1]; try rfl
  have qxa13 : p1.2.1 13 = x.1 13 := by rw [← hp1]; try rfl
  have qxa15 : p1.2.1 15 = o1.2.2.2.2.1 := by rw [← hp1]; try rfl
  have qxa17 : p1.2.1 17 = x.1 17 := by rw [← hp1]; try rfl
  have qxa20 : p1.2.1 20 = o1.2.2.2.2.2.1 := by rw [← hp1]; try rfl
  have qxa22 : p1.2.1 22 = o1.2.2.2.2.2.2.1 := by rw [← hp1]; try rfl
  have qxa24 : p1.2.1 24 = x.1 24 := by rw [← hp1]; try rfl
  have qxa26 : p1.2.1 26 = x.1 26 := by rw [← hp1]; try rfl
  have qxa28 : p1.2.1 28 = o1.2.2.2.2.2.2.2 := by rw [← hp1]; try rfl
  have qxi0 : p1.2.2.1 0 = x.2.1 0 := by rw [← hp1]; try rfl
  have qxi1 : p1.2.2.1 1 = x.2.1 1 := by rw [← hp1]; try rfl
  have qxi2 : p1.2.2.1 2 = x.2.1 2 := by rw [← hp1]; try rfl
  have qxi3 : p1.2.2.1 3 = x.2.1 3 := by rw [← hp1]; try rfl
  have qxi4 : p1.2.2.1 4 = x.2.1 4 := by rw [← hp1]; try rfl
  have qxi5 : p1.2.2.1 5 = x.2.1 5 := by rw [← hp1]; try rfl
  have qxi6 : p1.2.2.1 6 = x.2.1 6 := by rw [← hp1]; try rfl
  have qxi7 : p1.2.2.1 7 = o1.2.1 := by rw [← hp1]; try rfl
  have qxi8 : p1.2.2.1 8 = o1.2.2.1 := by rw [← hp1]; try rfl
  have qxi9 : p1.2.2.1 9 = o1.2.2.2.1 := by rw [← hp1]; try rfl
  have qxi10 : p1.2.2.1 10 = x.2.1 10 := by rw [← hp1]; try rfl
  have qxi11 : p1.2.2.1 11 = x.2.1 11 := by rw [← hp1]; try rfl
  have qxl : p1.2.2.2 = x.2.2 := by rw [← hp1]; try rfl
  refine q_goi5 (v := o1.1) (lw_W a k bm km q3 k3 p1.2 y fo) [some 0, none, none, none, none, none, none, some 3, some 4, some 5, none, none, none, none, some 1, some 2, none, none, none, some 6, some 7, some 8, some 9, none, none, none, none, none, some 10, none, none, none, none, none, none, none, none, none, none, none, none, none, none, none, none] (va_runV (As := [.int (z 1), .int (z 2), .int (z 3)]) (rest := []) ⟨hx, hb, hml, hown, hts⟩ (c_X9_plug l dC dI a k (x.2.1 4) (x.2.1 7) (x.2.1 8) (x.2.1 9) (x.2.1 11) (x.1 8) (x.1 9) (x.1 15) (x.1 20) (x.1 22) (x.1 28) (z 1) (z 2) (z 3) (va_A [((a 0), .inr (9, [.ref (a 1), .ref (a 3), .ref (a 4), .ref (a 7), .ref (a 10), .ref (a 14), .ref (a 16), .ref (a 18), .ref (a 19), .ref (a 21), .ref (a 23), .ref (a 25), .ref (a 27), .ref (a 28), .int (x.2.1 11)])), ((a 14), .inr (0, [.ref (a 15), .ref (a 7)])), ((a 15), .inl ((k 15), 98, .inl (x.1 15))), ((a 7), .inr (5, [.ref (a 8), .ref (a 9), .int (x.2.1 4)])), ((a 8), .inl ((k 8), 8, .inl (x.1 8))), ((a 9), .inl ((k 9), 48, .inl (x.1 9))), ((a 19), .inr (4, [.ref (a 20), .int (x.2.1 7), .int (x.2.1 8)])), ((a 20), .inl ((k 20), 3920, .inl (x.1 20))), ((a 21), .inr (1, [.ref (a 22), .int (x.2.1 9)])), ((a 22), .inl ((k 22), 300, .inl (x.1 22))), ((a 28), .inl ((k 28), 4, .inl (x.1 28)))] H.size) o1 hF1) (cwV 3 hts (q_lV m_718 m_719 m_720 m_2 m_721) rfl rfl rfl hdV_yX9_plug_3 ⟨Nat.le_of_ble_eq_true rfl, Nat.le_of_ble_eq_true rfl⟩) (q_preWV hK hP hD (q := (RX9, TX9, 15)) (ci := 9) (q0 := 0) rfl rfl [0, 14, 15, 7, 8, 9, 19, 20, 21, 22, 28] (by decide) rfl rfl [8, 3, 4, 10, 11, 14] rfl) rfl rfl hl.1 rfl (lv_room (Nat.le_of_ble_eq_true rfl)) dL_law_634 ⟨by show 45 + j + 0 ≤ 1070; omega, by show 18169 + 6 * j + 0 ≤ 26367; omega⟩) hP hD hS hA [0, 14, 15, 7, 8, 9, 19, 20, 21, 22, 28] rfl (by unfold lw_W; simp only [qxa2, qxa5, qxa6, qxa8, qxa9, qxa11, qxa12, qxa13, qxa15, qxa17, qxa20, qxa22, qxa24, qxa26, qxa28, qxi0, qxi1, qxi2, qxi3, qxi4, qxi5, qxi6, qxi7, qxi8, qxi9, qxi10, qxi11, qxl]; rfl) rfl (by decide) (fun H locs hP hD hS => ?_)
  refine lv_pop hx hb dL_law_637 rfl ?_
  refine lv_aload_n hx hb dL_law_638 rfl (lv_at hl 2 rfl) ?_
  refine lv_aload_n hx hb dL_law_639 rfl (lv_at hl 4 rfl) ?_
  refine lv_iload hx hb dL_law_640 (lv_at hl 0 rfl) ?_
  refine lv_iconst (v := 1) hx hb dL_law_642 (by decide) ?_
  refine lv_iadd hx hb dL_law_643 ?_
  refine q_top (y := nI (6 * j + 1)) (nI_add (6 * j) 1) ?_
  refine va_sld hx hb hX hbl hbA hS (i := (nI (6 * j + 1))) (vp_in_nI (by omega) (by omega)) dL_law_644 ?_
  refine q_top (y := z 1) (by rw [nI_clamp (by omega), hz]) ?_
  refine lv_aload_n hx hb dL_law_645 rfl (lv_at hl 4 rfl) ?_
  refine lv_iload hx hb dL_law_646 (lv_at hl 0 rfl) ?_
  refine lv_iconst (v := 2) hx hb dL_law_648 (by decide) ?_
  refine lv_iadd hx hb dL_law_649 ?_
  refine q_top (y := nI (6 * j + 2)) (nI_add (6 * j) 2) ?_
  refine va_sld hx hb hX hbl hbA hS (i := (nI (6 * j + 2))) (vp_in_nI (by omega) (by omega)) dL_law_650 ?_
  refine q_top (y := z 2) (by rw [nI_clamp (by omega), hz]) ?_
  refine lv_aload_n hx hb dL_law_651 rfl (lv_at hl 4 rfl) ?_
  refine lv_iload hx hb dL_law_652 (lv_at hl 0 rfl) ?_
  refine lv_iconst (v := 3) hx hb dL_law_654 (by decide) ?_
  refine lv_iadd hx hb dL_law_655 ?_
  refine q_top (y := nI (6 * j + 3)) (nI_add (6 * j) 3) ?_
  refine va_sld hx hb hX hbl hbA hS (i := (nI (6 * j + 3))) (vp_in_nI (by omega) (by omega)) dL_law_656 ?_
  refine q_top (y := z 3) (by rw [nI_clamp (by omega), hz]) ?_
  have qya1 : p2.2.1 1 = y.1 1 := by rw [← hp2]; try rfl
  have qya2 : p2.2.1 2 = y.1 2 := by rw [← hp2]; try rfl
  have qya3 : p2.2.1 3 = y.1 3 := by rw [← hp2]; try rfl
  have qya4 : p2.2.1 4 = y.1 4 := by rw [← hp2]; try rfl
  have qya5 : p2.2.1 5 = y.1 5 := by rw [← hp2]; try rfl
  have qya6 : p2.2.1 6 = y.1 6 := by rw [← hp2]; try rfl
  have qya7 : p2.2.1 7 = y.1 7 := by rw [← hp2]; try rfl
  have qya8 : p2.2.1 8 = o2.2.2.1 := by rw [← hp2]; try rfl
  have qya9 : p2.2.1 9 = o2.2.2.2.1 := by rw [← hp2]; try rfl
  have qya10 : p2.2.1 10 = o2.2.2.2.2 := by rw [← hp2]; try rfl
  have qya11 : p2.2.1 11 = y.1 11 := by rw [← hp2]; try rfl
  have qya12 : p2.2.1 12 = y.1 12 := by rw [← hp2]; try rfl
  have qya13 : p2.2.1 13 = y.1 13 := by rw [← hp2]; try rfl
  have qya14 : p2.2.1 14 = y.1 14 := by rw [← hp2]; try rfl
  have qyi0 : p2.2.2.1 0 = y.2.1 0 := by rw [← hp2]; try rfl
  have qyi1 : p2.2.2.1 1 = y.2.1 1 := by rw [← hp2]; try rfl
  have qyi2 : p2.2.2.1 2 = y.2.1 2 := by rw [← hp2]; try rfl
  have qyi3 : p2.2.2.1 3 = y.2.1 3 := by rw [← hp2]; try rfl
  have qyi4 : p2.2.2.1 4 = y.2.1 4 := by rw [← hp2]; try rfl
  have qyi5 : p2.2.2.1 5 = y.2.1 5 := by rw [← hp2]; try rfl
  have qyi6 : p2.2.2.1 6 = y.2.1 6 := by rw [← hp2]; try rfl
  have qyi7 : p2.2.2.1 7 = o2.2.1 := by rw [← hp2]; try rfl
  have qyi8 : p2.2.2.1 8 = y.2.1 8 := by rw [← hp2]; try rfl
  have qyl : p2.2.2.2 = y.2.2 := by rw [← hp2]; try rfl
  refine q_goi5 (v := o2.1) (lw_W a k bm km q3 k3 p1.2 p2.2 fo) [none, none, none, none, none, none, none, none, none, none, none, none, none, none, none, none, none, none, none, none, none, none, none, none, none, none, none, none, none, some 0, none, none, none, some 1, some 2, none, none, some 3, some 4, some 5, none, none, none, none, none] (va_runV (As := [.int (z 1), .int (z 2), .int (z 3)]) (rest := []) ⟨hx, hb, hml, hown, hts⟩ (c_X10_plug l dC dI bm km (y.2.1 0) (y.2.1 1) (y.2.1 2) (y.2.1 3) (y.2.1 4) (y.2.1 5) (y.2.1 6) (y.2.1 7) (y.2.1 8) (y.2.2) (y.1 4) (y.1 5) (y.1 8) (y.1 9) (y.1 10) (z 1) (z 2) (z 3) (va_A [((bm 0), .inr (10, [.int (y.2.1 0), .ref (bm 1), .int (y.2.1 1), .int (y.2.1 2), .int (y.2.1 3), .ref (bm 2), .ref (bm 3), .int (y.2.1 4), .ref (bm 4), .ref (bm 5), .int (y.2.1 5), .ref (bm 6), .ref (bm 7), .int (y.2.1 6), .ref (bm 8), .ref (bm 9), .ref (bm 10), .int (y.2.1 7), .long (y.2.2), .ref (bm 11), .ref (bm 12), .ref (bm 13), .ref (bm 14), .int (y.2.1 8)])), ((bm 4), .inl ((km 4), 8, .inl (y.1 4))), ((bm 5), .inl ((km 5), 48, .inl (y.1 5))), ((bm 8), .inl ((km 8), 279, .inl (y.1 8))), ((bm 9), .inl ((km 9), 4, .inl (y.1 9))), ((bm 10), .inl ((km 10), 11160, .inl (y.1 10)))] H.size) o2 hF2) (cwV 3 hts (q_lV m_893 m_894 m_895 m_5 m_896) rfl rfl rfl hdV_yX10_plug_3 ⟨Nat.le_of_ble_eq_true rfl, Nat.le_of_ble_eq_true rfl⟩) (q_preWV hK hP hD (q := (RX10, TX10, 24)) (ci := 10) (q0 := 29) rfl rfl [29, 33, 34, 37, 38, 39] (by decide) rfl rfl [18, 19, 22, 23, 24] rfl) rfl rfl hl.1 rfl (lv_room (Nat.le_of_ble_eq_true rfl)) dL_law_657 ⟨by show 45 + j + 0 ≤ 1070; omega, by show 18169 + 6 * j + 0 ≤ 26367; omega⟩) hP hD hS hA [29, 33, 34, 37, 38, 39] rfl (by unfold lw_W; simp only [qya1, qya2, qya3, qya4, qya5, qya6, qya7, qya8, qya9, qya10, qya11, qya12, qya13, qya14, qyi0, qyi1, qyi2, qyi3, qyi4, qyi5, qyi6, qyi7, qyi8, qyl]; rfl) rfl (by decide) (fun H locs hP hD hS => ?_)
  refine lv_pop hx hb dL_law_660 rfl ?_
  refine lv_goto (tgt := 1344) hx hb dL_law_661 (by decide) ?_
  refine W.widen (k := 45 + j + 1) (n := 18169 + 6 * j + 6) (by omega) (by omega) ?_
  exact kont _ H locs ls hP hD hS (lv_sub hl [0, 1, 2, 3, 4] rfl)
