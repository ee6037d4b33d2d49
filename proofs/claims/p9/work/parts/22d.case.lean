theorem dL_law_664 : decode cL_law 664 = .ok (.aload_n 1, 1) := q_o43 (by decide +kernel)
theorem dL_law_665 : decode cL_law 665 = .ok (.aload_n 0, 1) := q_o42 (by decide +kernel)
theorem dL_law_666 : decode cL_law 666 = .ok (.iload 4, 2) := q_o21 (a := 4) (by decide +kernel)
theorem dL_law_668 : decode cL_law 668 = .ok (.iconst 1, 1) := q_o4 (by decide +kernel)
theorem dL_law_669 : decode cL_law 669 = .ok (.iadd, 1) := q_o96 (by decide +kernel)
theorem dL_law_670 : decode cL_law 670 = .ok (.iaload, 1) := q_o46 (by decide +kernel)
theorem dL_law_671 : decode cL_law 671 = .ok (.invokevirtual 77, 3) := q_o182 (a := 0) (b := 77) (by decide +kernel)
theorem dL_law_674 : decode cL_law 674 = .ok (.pop, 1) := q_o87 (by decide +kernel)
theorem dL_law_675 : decode cL_law 675 = .ok (.aload_n 2, 1) := q_o44 (by decide +kernel)
theorem dL_law_676 : decode cL_law 676 = .ok (.aload_n 0, 1) := q_o42 (by decide +kernel)
theorem dL_law_677 : decode cL_law 677 = .ok (.iload 4, 2) := q_o21 (a := 4) (by decide +kernel)
theorem dL_law_679 : decode cL_law 679 = .ok (.iconst 1, 1) := q_o4 (by decide +kernel)
theorem dL_law_680 : decode cL_law 680 = .ok (.iadd, 1) := q_o96 (by decide +kernel)
theorem dL_law_681 : decode cL_law 681 = .ok (.iaload, 1) := q_o46 (by decide +kernel)
theorem dL_law_682 : decode cL_law 682 = .ok (.invokevirtual 80, 3) := q_o182 (a := 0) (b := 80) (by decide +kernel)
theorem dL_law_685 : decode cL_law 685 = .ok (.pop, 1) := q_o87 (by decide +kernel)
theorem dL_law_686 : decode cL_law 686 = .ok (.goto 658, 3) := q_o167 (a := 2) (b := 146) (by decide +kernel) rfl
theorem dL_law_689 : decode cL_law 689 = .ok (.aload_n 1, 1) := q_o43 (by decide +kernel)
theorem dL_law_690 : decode cL_law 690 = .ok (.aload_n 0, 1) := q_o42 (by decide +kernel)
theorem dL_law_691 : decode cL_law 691 = .ok (.iload 4, 2) := q_o21 (a := 4) (by decide +kernel)
theorem dL_law_693 : decode cL_law 693 = .ok (.iconst 1, 1) := q_o4 (by decide +kernel)
theorem dL_law_694 : decode cL_law 694 = .ok (.iadd, 1) := q_o96 (by decide +kernel)
theorem dL_law_695 : decode cL_law 695 = .ok (.iaload, 1) := q_o46 (by decide +kernel)
theorem dL_law_696 : decode cL_law 696 = .ok (.invokevirtual 81, 3) := q_o182 (a := 0) (b := 81) (by decide +kernel)
theorem dL_law_699 : decode cL_law 699 = .ok (.pop, 1) := q_o87 (by decide +kernel)
theorem dL_law_700 : decode cL_law 700 = .ok (.aload_n 2, 1) := q_o44 (by decide +kernel)
theorem dL_law_701 : decode cL_law 701 = .ok (.aload_n 0, 1) := q_o42 (by decide +kernel)
theorem dL_law_702 : decode cL_law 702 = .ok (.iload 4, 2) := q_o21 (a := 4) (by decide +kernel)
theorem dL_law_704 : decode cL_law 704 = .ok (.iconst 1, 1) := q_o4 (by decide +kernel)
theorem dL_law_705 : decode cL_law 705 = .ok (.iadd, 1) := q_o96 (by decide +kernel)
theorem dL_law_706 : decode cL_law 706 = .ok (.iaload, 1) := q_o46 (by decide +kernel)
theorem dL_law_707 : decode cL_law 707 = .ok (.invokevirtual 84, 3) := q_o182 (a := 0) (b := 84) (by decide +kernel)
theorem dL_law_710 : decode cL_law 710 = .ok (.pop, 1) := q_o87 (by decide +kernel)
theorem dL_law_711 : decode cL_law 711 = .ok (.goto 633, 3) := q_o167 (a := 2) (b := 121) (by decide +kernel) rfl
theorem dL_law_714 : decode cL_law 714 = .ok (.aload_n 1, 1) := q_o43 (by decide +kernel)
theorem dL_law_715 : decode cL_law 715 = .ok (.aload_n 0, 1) := q_o42 (by decide +kernel)
theorem dL_law_716 : decode cL_law 716 = .ok (.iload 4, 2) := q_o21 (a := 4) (by decide +kernel)
theorem dL_law_718 : decode cL_law 718 = .ok (.iconst 1, 1) := q_o4 (by decide +kernel)
theorem dL_law_719 : decode cL_law 719 = .ok (.iadd, 1) := q_o96 (by decide +kernel)
theorem dL_law_720 : decode cL_law 720 = .ok (.iaload, 1) := q_o46 (by decide +kernel)
theorem dL_law_721 : decode cL_law 721 = .ok (.invokevirtual 85, 3) := q_o182 (a := 0) (b := 85) (by decide +kernel)
theorem dL_law_724 : decode cL_law 724 = .ok (.pop, 1) := q_o87 (by decide +kernel)
theorem dL_law_725 : decode cL_law 725 = .ok (.aload_n 2, 1) := q_o44 (by decide +kernel)
theorem dL_law_726 : decode cL_law 726 = .ok (.aload_n 0, 1) := q_o42 (by decide +kernel)
theorem dL_law_727 : decode cL_law 727 = .ok (.iload 4, 2) := q_o21 (a := 4) (by decide +kernel)
theorem dL_law_729 : decode cL_law 729 = .ok (.iconst 1, 1) := q_o4 (by decide +kernel)
theorem dL_law_730 : decode cL_law 730 = .ok (.iadd, 1) := q_o96 (by decide +kernel)
theorem dL_law_731 : decode cL_law 731 = .ok (.iaload, 1) := q_o46 (by decide +kernel)
theorem dL_law_732 : decode cL_law 732 = .ok (.invokevirtual 88, 3) := q_o182 (a := 0) (b := 88) (by decide +kernel)
theorem dL_law_735 : decode cL_law 735 = .ok (.pop, 1) := q_o87 (by decide +kernel)
theorem dL_law_736 : decode cL_law 736 = .ok (.goto 608, 3) := q_o167 (a := 2) (b := 96) (by decide +kernel) rfl
theorem dL_law_739 : decode cL_law 739 = .ok (.aload_n 1, 1) := q_o43 (by decide +kernel)
theorem dL_law_740 : decode cL_law 740 = .ok (.aload_n 0, 1) := q_o42 (by decide +kernel)
theorem dL_law_741 : decode cL_law 741 = .ok (.iload 4, 2) := q_o21 (a := 4) (by decide +kernel)
theorem dL_law_743 : decode cL_law 743 = .ok (.iconst 1, 1) := q_o4 (by decide +kernel)
theorem dL_law_744 : decode cL_law 744 = .ok (.iadd, 1) := q_o96 (by decide +kernel)
theorem dL_law_745 : decode cL_law 745 = .ok (.iaload, 1) := q_o46 (by decide +kernel)
theorem dL_law_746 : decode cL_law 746 = .ok (.aload_n 0, 1) := q_o42 (by decide +kernel)
theorem dL_law_747 : decode cL_law 747 = .ok (.iload 4, 2) := q_o21 (a := 4) (by decide +kernel)
theorem dL_law_749 : decode cL_law 749 = .ok (.iconst 2, 1) := q_o5 (by decide +kernel)
theorem dL_law_750 : decode cL_law 750 = .ok (.iadd, 1) := q_o96 (by decide +kernel)
theorem dL_law_751 : decode cL_law 751 = .ok (.iaload, 1) := q_o46 (by decide +kernel)
theorem dL_law_752 : decode cL_law 752 = .ok (.invokevirtual 89, 3) := q_o182 (a := 0) (b := 89) (by decide +kernel)
theorem dL_law_755 : decode cL_law 755 = .ok (.pop, 1) := q_o87 (by decide +kernel)
theorem dL_law_756 : decode cL_law 756 = .ok (.aload_n 2, 1) := q_o44 (by decide +kernel)
theorem dL_law_757 : decode cL_law 757 = .ok (.aload_n 0, 1) := q_o42 (by decide +kernel)
theorem dL_law_758 : decode cL_law 758 = .ok (.iload 4, 2) := q_o21 (a := 4) (by decide +kernel)
theorem dL_law_760 : decode cL_law 760 = .ok (.iconst 1, 1) := q_o4 (by decide +kernel)
theorem dL_law_761 : decode cL_law 761 = .ok (.iadd, 1) := q_o96 (by decide +kernel)
theorem dL_law_762 : decode cL_law 762 = .ok (.iaload, 1) := q_o46 (by decide +kernel)
theorem dL_law_763 : decode cL_law 763 = .ok (.aload_n 0, 1) := q_o42 (by decide +kernel)
theorem dL_law_764 : decode cL_law 764 = .ok (.iload 4, 2) := q_o21 (a := 4) (by decide +kernel)
theorem dL_law_766 : decode cL_law 766 = .ok (.iconst 2, 1) := q_o5 (by decide +kernel)
theorem dL_law_767 : decode cL_law 767 = .ok (.iadd, 1) := q_o96 (by decide +kernel)
theorem dL_law_768 : decode cL_law 768 = .ok (.iaload, 1) := q_o46 (by decide +kernel)
theorem dL_law_769 : decode cL_law 769 = .ok (.invokevirtual 92, 3) := q_o182 (a := 0) (b := 92) (by decide +kernel)
theorem dL_law_772 : decode cL_law 772 = .ok (.pop, 1) := q_o87 (by decide +kernel)
theorem dL_law_773 : decode cL_law 773 = .ok (.goto 571, 3) := q_o167 (a := 2) (b := 59) (by decide +kernel) rfl
theorem hdV_yX10_error_2 : yX10_error.cls = RX10 ∧ yX10_error.cls ≠ "java/lang/invoke/MethodHandle" ∧ yX10_error.cls ≠ "java/lang/invoke/VarHandle" ∧ (parseMethodDescriptor yX10_error.desc).map (fun d => d.parameters.length) = some 2 := by decide +kernel
theorem hdV_yX10_supply_1 : yX10_supply.cls = RX10 ∧ yX10_supply.cls ≠ "java/lang/invoke/MethodHandle" ∧ yX10_supply.cls ≠ "java/lang/invoke/VarHandle" ∧ (parseMethodDescriptor yX10_supply.desc).map (fun d => d.parameters.length) = some 1 := by decide +kernel
theorem hdV_yX10_tick_1 : yX10_tick.cls = RX10 ∧ yX10_tick.cls ≠ "java/lang/invoke/MethodHandle" ∧ yX10_tick.cls ≠ "java/lang/invoke/VarHandle" ∧ (parseMethodDescriptor yX10_tick.desc).map (fun d => d.parameters.length) = some 1 := by decide +kernel
theorem hdV_yX10_unplug_1 : yX10_unplug.cls = RX10 ∧ yX10_unplug.cls ≠ "java/lang/invoke/MethodHandle" ∧ yX10_unplug.cls ≠ "java/lang/invoke/VarHandle" ∧ (parseMethodDescriptor yX10_unplug.desc).map (fun d => d.parameters.length) = some 1 := by decide +kernel
theorem hdV_yX9_error_2 : yX9_error.cls = RX9 ∧ yX9_error.cls ≠ "java/lang/invoke/MethodHandle" ∧ yX9_error.cls ≠ "java/lang/invoke/VarHandle" ∧ (parseMethodDescriptor yX9_error.desc).map (fun d => d.parameters.length) = some 2 := by decide +kernel
theorem hdV_yX9_supply_1 : yX9_supply.cls = RX9 ∧ yX9_supply.cls ≠ "java/lang/invoke/MethodHandle" ∧ yX9_supply.cls ≠ "java/lang/invoke/VarHandle" ∧ (parseMethodDescriptor yX9_supply.desc).map (fun d => d.parameters.length) = some 1 := by decide +kernel
theorem hdV_yX9_tick_1 : yX9_tick.cls = RX9 ∧ yX9_tick.cls ≠ "java/lang/invoke/MethodHandle" ∧ yX9_tick.cls ≠ "java/lang/invoke/VarHandle" ∧ (parseMethodDescriptor yX9_tick.desc).map (fun d => d.parameters.length) = some 1 := by decide +kernel
theorem hdV_yX9_unplug_1 : yX9_unplug.cls = RX9 ∧ yX9_unplug.cls ≠ "java/lang/invoke/MethodHandle" ∧ yX9_unplug.cls ≠ "java/lang/invoke/VarHandle" ∧ (parseMethodDescriptor yX9_unplug.desc).map (fun d => d.parameters.length) = some 1 := by decide +kernel
set_option maxHeartbeats 4000000 in
set_option maxRecDepth 100000 in
theorem lw_case_13 {p : Program} {l : Launch} {e : Env} {s : State} {m : MethodId} {below : List Frame} {meth : Method} {c : Code} {dC : Nat → ClassId} {dI : Nat → Nat → Nat} {b L : Nat} {xs : Nat → Int32} (C0 : lw_At p s m meth c b L xs) (ts ks kv : Nat → Nat) (sa : Nat) (hE : q_S ts ks kv (fun q : Nat => s.heap.size ≤ q) s) (hEX : q_X sa s) (hlt : l.stackTraces = false) {a : Nat → Nat} {k : Nat → ClassId} {bm : Nat → Nat} {km : Nat → ClassId} {q3 : Nat} {k3 : ClassId} {j : Nat} (hj : 6 * j + 6 ≤ L) (hL : L ≤ 3072) {z : Nat → Int32} (hz : ∀ q, z q = xs (6 * j + q)) {x y : XS} {p1 p2 : Int32 × XS} (h1 : SX_13 x z = some p1) (h2 : SY_13 y z = some p2) {fo : Nat → Int64} {H : Heap} {locs : List Loc} {ls : Array Slot} (hK : va_K (dC, dI) vwCl (lw_T k km k3) s) (hP : va_P (dC, dI) vwCl (lw_W a k bm km q3 k3 x y fo) H) (hD : va_D (fun q : Nat => s.heap.size ≤ q) (lw_W a k bm km q3 k3 x y fo)) (hS : va_S (fun q : Nat => s.heap.size ≤ q) s.heap H locs) (hl : lv_has ls 7 [(4, .int (nI (6 * j))), (3, .ref q3), (2, .ref (bm 0)), (1, .ref (a 0)), (0, .ref b)]) (kont : ∀ (fo : Nat → Int64) (H : Heap) (locs : List Loc) (ls : Array Slot), va_P (dC, dI) vwCl (lw_W a k bm km q3 k3 p1.2 p2.2 fo) H → va_D (fun q : Nat => s.heap.size ≤ q) (lw_W a k bm km q3 k3 p1.2 p2.2 fo) → va_S (fun q : Nat => s.heap.size ≤ q) s.heap H locs → lv_has ls 7 [(4, .int (nI (6 * j))), (3, .ref q3), (2, .ref (bm 0)), (1, .ref (a 0)), (0, .ref b)] → W p l e room_1 s m #[Value.ref b] below meth c H locs (45 + j + 1) (18169 + 6 * j + 6) (lw_Z below #[Value.ref b] s) (F0 m 1344 ls [])) : W p l e room_1 s m #[Value.ref b] below meth c H locs (45 + j) (18169 + 6 * j) (lw_Z below #[Value.ref b] s) (F0 m 664 ls []) := by
  obtain ⟨hx, hb, hr, hml, hown, hts, hX, hbl, hlocks, hgv⟩ := C0
  have hown : s.vm.findClass RL = some m.cls := hown
  have hA : ∀ q : Nat, s.heap.size ≤ q → (fun q : Nat => s.heap.size ≤ q) q := fun _ h => h
  have hbA : ¬ (fun q : Nat => s.heap.size ≤ q) b := Nat.not_le.mpr hbl
  unfold SX_13 at h1
  unfold SY_13 at h2
  obtain ⟨o1, hF1, h1⟩ := q_bi h1
  have hp1 := Option.some.inj h1
  obtain ⟨o2, hF2, h2⟩ := q_bi h2
  have hp2 := Option.some.inj h2
  refine lv_aload_n hx hb dL_law_664 rfl (lv_at hl 3 rfl) ?_
  refine lv_aload_n hx hb dL_law_665 rfl (lv_at hl 4 rfl) ?_
  refine lv_iload hx hb dL_law_666 (lv_at hl 0 rfl) ?_
  refine lv_iconst (v := 1) hx hb dL_law_668 (by decide) ?_
  refine lv_iadd hx hb dL_law_669 ?_
  refine q_top (y := nI (6 * j + 1)) (nI_add (6 * j) 1) ?_
  refine va_sld hx hb hX hbl hbA hS (i := (nI (6 * j + 1))) (vp_in_nI (by omega) (by omega)) dL_law_670 ?_
  refine q_top (y := z 1) (by rw [nI_clamp (by omega), hz]) ?_
  have qxa2 : p1.2.1 2 = x.1 2 := by rw [← hp1]; try rfl
  have qxa5 : p1.2.1 5 = x.1 5 := by rw [← hp1]; try rfl
  have qxa6 : p1.2.1 6 = x.1 6 := by rw [← hp1]; try rfl
  have qxa8 : p1.2.1 8 = x.1 8 := by rw [← hp1]; try rfl
  have qxa9 : p1.2.1 9 = x.1 9 := by rw [← hp1]; try rfl
  have qxa11 : p1.2.1 11 = x.1 11 := by rw [← hp1]; try rfl
  have qxa12 : p1.2.1 12 = x.1 12 := by rw [← hp1]; try rfl
  have qxa13 : p1.2.1 13 = x.1 13 := by rw [← hp1]; try rfl
  have qxa15 : p1.2.1 15 = o1.2.2.2.2.1 := by rw [← hp1]; try rfl
  have qxa17 : p1.2.1 17 = x.1 17 := by rw [← hp1]; try rfl
  have qxa20 : p1.2.1 20 = o1.2.2.2.2.2.1 := by rw [← hp1]; try rfl
  have qxa22 : p1.2.1 22 = o1.2.2.2.2.2.2.1 := by rw [← hp1]; try rfl
  have qxa24 : p1.2.1 24 = x.1 24 := by rw [← hp1]; try rfl
  have qxa26 : p1.2.1 26 = x.1 26 := by rw [← hp1]; try rfl
  have qxa28 : p1.2.1 28 = o1.2.2.2.2.2.2.2 := by rw [← hp1]; try rfl
  have qxi0 : p1.2.2.1 0 = x.2.1 0 := by rw [← hp1]; try rfl
  have qxi1 : p1.2.2.1 1 = x.2.1 1 := by rw [← hp1]; try rfl
  have qxi2 : p1.2.2.1 2 = x.2.1 2 := by rw [← hp1]; try rfl
  have qxi3 : p1.2.2.1 3 = x.2.1 3 := by rw [← hp1]; try rfl
  have qxi4 : p1.2.2.1 4 = x.2.1 4 := by rw [← hp1]; try rfl
  have qxi5 : p1.2.2.1 5 = x.2.1 5 := by rw [← hp1]; try rfl
  have qxi6 : p1.2.2.1 6 = x.2.1 6 := by rw [← hp1]; try rfl
  have qxi7 : p1.2.2.1 7 = o1.2.1 := by rw [← hp1]; try rfl
  have qxi8 : p1.2.2.1 8 = o1.2.2.1 := by rw [← hp1]; try rfl
  have qxi9 : p1.2.2.1 9 = o1.2.2.2.1 := by rw [← hp1]; try rfl
  have qxi10 : p1.2.2.1 10 = x.2.1 10 := by rw [← hp1]; try rfl
  have qxi11 : p1.2.2.1 11 = x.2.1 11 := by rw [← hp1]; try rfl
  have qxl : p1.2.2.2 = x.2.2 := by rw [← hp1]; try rfl
  refine q_goi5 (v := o1.1) (lw_W a k bm km q3 k3 p1.2 y fo) [some 0, none, none, none, none, none, none, some 3, some 4, some 5, none, none, none, none, some 1, some 2, none, none, none, some 6, some 7, some 8, some 9, none, none, none, none, none, some 10, none, none, none, none, none, none, none, none, none, none, none, none, none, none, none, none] (va_runV (As := [.int (z 1)]) (rest := []) ⟨hx, hb, hml, hown, hts⟩ (c_X9_unplug l dC dI a k (x.2.1 4) (x.2.1 7) (x.2.1 8) (x.2.1 9) (x.2.1 11) (x.1 8) (x.1 9) (x.1 15) (x.1 20) (x.1 22) (x.1 28) (z 1) (va_A [((a 0), .inr (9, [.ref (a 1), .ref (a 3), .ref (a 4), .ref (a 7), .ref (a 10), .ref (a 14), .ref (a 16), .ref (a 18), .ref (a 19), .ref (a 21), .ref (a 23), .ref (a 25), .ref (a 27), .ref (a 28), .int (x.2.1 11)])), ((a 14), .inr (0, [.ref (a 15), .ref (a 7)])), ((a 15), .inl ((k 15), 98, .inl (x.1 15))), ((a 7), .inr (5, [.ref (a 8), .ref (a 9), .int (x.2.1 4)])), ((a 8), .inl ((k 8), 8, .inl (x.1 8))), ((a 9), .inl ((k 9), 48, .inl (x.1 9))), ((a 19), .inr (4, [.ref (a 20), .int (x.2.1 7), .int (x.2.1 8)])), ((a 20), .inl ((k 20), 3920, .inl (x.1 20))), ((a 21), .inr (1, [.ref (a 22), .int (x.2.1 9)])), ((a 22), .inl ((k 22), 300, .inl (x.1 22))), ((a 28), .inl ((k 28), 4, .inl (x.1 28)))] H.size) o1 hF1) (cwV 1 hts (q_lV m_1038 m_1039 m_1040 m_2 m_1041) rfl rfl rfl hdV_yX9_unplug_1 ⟨Nat.le_of_ble_eq_true rfl, Nat.le_of_ble_eq_true rfl⟩) (q_preWV hK hP hD (q := (RX9, TX9, 15)) (ci := 9) (q0 := 0) rfl rfl [0, 14, 15, 7, 8, 9, 19, 20, 21, 22, 28] (by decide) rfl rfl [8, 3, 4, 10, 11, 14] rfl) rfl rfl hl.1 rfl (lv_room (Nat.le_of_ble_eq_true rfl)) dL_law_671 ⟨by show 45 + j + 0 ≤ 1070; omega, by show 18169 + 6 * j + 0 ≤ 26367; omega⟩) hP hD hS hA [0, 14, 15, 7, 8, 9, 19, 20, 21, 22, 28] rfl (by unfold lw_W; simp only [qxa2, qxa5, qxa6, qxa8, qxa9, qxa11, qxa12, qxa13, qxa15, qxa17, qxa20, qxa22, qxa24, qxa26, qxa28, qxi0, qxi1, qxi2, qxi3, qxi4, qxi5, qxi6, qxi7, qxi8, qxi9, qxi10, qxi11, qxl]; rfl) rfl (by decide) (fun H locs hP hD hS => ?_)
  refine lv_pop hx hb dL_law_674 rfl ?_
  refine lv_aload_n hx hb dL_law_675 rfl (lv_at hl 2 rfl) ?_
  refine lv_aload_n hx hb dL_law_676 rfl (lv_at hl 4 rfl) ?_
  refine lv_iload hx hb dL_law_677 (lv_at hl 0 rfl) ?_
  refine lv_iconst (v := 1) hx hb dL_law_679 (by decide) ?_
  refine lv_iadd hx hb dL_law_680 ?_
  refine q_top (y := nI (6 * j + 1)) (nI_add (6 * j) 1) ?_
  refine va_sld hx hb hX hbl hbA hS (i := (nI (6 * j + 1))) (vp_in_nI (by omega) (by omega)) dL_law_681 ?_
  refine q_top (y := z 1) (by rw [nI_clamp (by omega), hz]) ?_
  have qya1 : p2.2.1 1 = y.1 1 := by rw [← hp2]; try rfl
  have qya2 : p2.2.1 2 = y.1 2 := by rw [← hp2]; try rfl
  have qya3 : p2.2.1 3 = y.1 3 := by rw [← hp2]; try rfl
  have qya4 : p2.2.1 4 = y.1 4 := by rw [← hp2]; try rfl
  have qya5 : p2.2.1 5 = y.1 5 := by rw [← hp2]; try rfl
  have qya6 : p2.2.1 6 = y.1 6 := by rw [← hp2]; try rfl
  have qya7 : p2.2.1 7 = y.1 7 := by rw [← hp2]; try rfl
  have qya8 : p2.2.1 8 = o2.2.2.1 := by rw [← hp2]; try rfl
  have qya9 : p2.2.1 9 = o2.2.2.2.1 := by rw [← hp2]; try rfl
  have qya10 : p2.2.1 10 = o2.2.2.2.2 := by rw [← hp2]; try rfl
  have qya11 : p2.2.1 11 = y.1 11 := by rw [← hp2]; try rfl
  have qya12 : p2.2.1 12 = y.1 12 := by rw [← hp2]; try rfl
  have qya13 : p2.2.1 13 = y.1 13 := by rw [← hp2]; try rfl
  have qya14 : p2.2.1 14 = y.1 14 := by rw [← hp2]; try rfl
  have qyi0 : p2.2.2.1 0 = y.2.1 0 := by rw [← hp2]; try rfl
  have qyi1 : p2.2.2.1 1 = y.2.1 1 := by rw [← hp2]; try rfl
  have qyi2 : p2.2.2.1 2 = y.2.1 2 := by rw [← hp2]; try rfl
  have qyi3 : p2.2.2.1 3 = y.2.1 3 := by rw [← hp2]; try rfl
  have qyi4 : p2.2.2.1 4 = y.2.1 4 := by rw [← hp2]; try rfl
  have qyi5 : p2.2.2.1 5 = y.2.1 5 := by rw [← hp2]; try rfl
  have qyi6 : p2.2.2.1 6 = y.2.1 6 := by rw [← hp2]; try rfl
  have qyi7 : p2.2.2.1 7 = o2.2.1 := by rw [← hp2]; try rfl
  have qyi8 : p2.2.2.1 8 = y.2.1 8 := by rw [← hp2]; try rfl
  have qyl : p2.2.2.2 = y.2.2 := by rw [← hp2]; try rfl
  refine q_goi5 (v := o2.1) (lw_W a k bm km q3 k3 p1.2 p2.2 fo) [none, none, none, none, none, none, none, none, none, none, none, none, none, none, none, none, none, none, none, none, none, none, none, none, none, none, none, none, none, some 0, none, none, none, some 1, some 2, none, none, some 3, some 4, some 5, none, none, none, none, none] (va_runV (As := [.int (z 1)]) (rest := []) ⟨hx, hb, hml, hown, hts⟩ (c_X10_unplug l dC dI bm km (y.2.1 0) (y.2.1 1) (y.2.1 2) (y.2.1 3) (y.2.1 4) (y.2.1 5) (y.2.1 6) (y.2.1 7) (y.2.1 8) (y.2.2) (y.1 4) (y.1 5) (y.1 8) (y.1 9) (y.1 10) (z 1) (va_A [((bm 0), .inr (10, [.int (y.2.1 0), .ref (bm 1), .int (y.2.1 1), .int (y.2.1 2), .int (y.2.1 3), .ref (bm 2), .ref (bm 3), .int (y.2.1 4), .ref (bm 4), .ref (bm 5), .int (y.2.1 5), .ref (bm 6), .ref (bm 7), .int (y.2.1 6), .ref (bm 8), .ref (bm 9), .ref (bm 10), .int (y.2.1 7), .long (y.2.2), .ref (bm 11), .ref (bm 12), .ref (bm 13), .ref (bm 14), .int (y.2.1 8)])), ((bm 4), .inl ((km 4), 8, .inl (y.1 4))), ((bm 5), .inl ((km 5), 48, .inl (y.1 5))), ((bm 8), .inl ((km 8), 279, .inl (y.1 8))), ((bm 9), .inl ((km 9), 4, .inl (y.1 9))), ((bm 10), .inl ((km 10), 11160, .inl (y.1 10)))] H.size) o2 hF2) (cwV 1 hts (q_lV m_1043 m_1044 m_1045 m_5 m_1046) rfl rfl rfl hdV_yX10_unplug_1 ⟨Nat.le_of_ble_eq_true rfl, Nat.le_of_ble_eq_true rfl⟩) (q_preWV hK hP hD (q := (RX10, TX10, 24)) (ci := 10) (q0 := 29) rfl rfl [29, 33, 34, 37, 38, 39] (by decide) rfl rfl [18, 19, 22, 23, 24] rfl) rfl rfl hl.1 rfl (lv_room (Nat.le_of_ble_eq_true rfl)) dL_law_682 ⟨by show 45 + j + 0 ≤ 1070; omega, by show 18169 + 6 * j + 0 ≤ 26367; omega⟩) hP hD hS hA [29, 33, 34, 37, 38, 39] rfl (by unfold lw_W; simp only [qya1, qya2, qya3, qya4, qya5, qya6, qya7, qya8, qya9, qya10, qya11, qya12, qya13, qya14, qyi0, qyi1, qyi2, qyi3, qyi4, qyi5, qyi6, qyi7, qyi8, qyl]; rfl) rfl (by decide) (fun H locs hP hD hS => ?_)
  refine lv_pop hx hb dL_law_685 rfl ?_
  refine lv_goto (tgt := 1344) hx hb dL_law_686 (by decide) ?_
  refine W.widen (k := 45 + j + 1) (n := 18169 + 6 * j + 6) (by omega) (by omega) ?_
  exact kont _ H locs ls hP hD hS (lv_sub hl [0, 1, 2, 3, 4] rfl)

set_option maxHeartbeats 4000000 in
set_option maxRecDepth 100000 in
theorem lw_case_14 {p : Program} {l : Launch} {e : Env} {s : State} {m : MethodId} {below : List Frame} {meth : Method} {c : Code} {dC : Nat → ClassId} {dI : Nat → Nat → Nat} {b L : Nat} {xs : Nat → Int32} (C0 : lw_At p s m meth c b L xs) (ts ks kv : Nat → Nat) (sa : Nat) (hE : q_S ts ks kv (fun q : Nat => s.heap.size ≤ q) s) (hEX : q_X sa s) (hlt : l.stackTraces = false) {a : Nat → Nat} {k : Nat → ClassId} {bm : Nat → Nat} {km : Nat → ClassId} {q3 : Nat} {k3 : ClassId} {j : Nat} (hj : 6 * j + 6 ≤ L) (hL : L ≤ 3072) {z : Nat → Int32} (hz : ∀ q, z q = xs (6 * j + q)) {x y : XS} {p1 p2 : Int32 × XS} (h1 : SX_14 x z = some p1) (h2 : SY_14 y z = some p2) {fo : Nat → Int64} {H : Heap} {locs : List Loc} {ls : Array Slot} (hK : va_K (dC, dI) vwCl (lw_T k km k3) s) (hP : va_P (dC, dI) vwCl (lw_W a k bm km q3 k3 x y fo) H) (hD : va_D (fun q : Nat => s.heap.size ≤ q) (lw_W a k bm km q3 k3 x y fo)) (hS : va_S (fun q : Nat => s.heap.size ≤ q) s.heap H locs) (hl : lv_has ls 7 [(4, .int (nI (6 * j))), (3, .ref q3), (2, .ref (bm 0)), (1, .ref (a 0)), (0, .ref b)]) (kont : ∀ (fo : Nat → Int64) (H : Heap) (locs : List Loc) (ls : Array Slot), va_P (dC, dI) vwCl (lw_W a k bm km q3 k3 p1.2 p2.2 fo) H → va_D (fun q : Nat => s.heap.size ≤ q) (lw_W a k bm km q3 k3 p1.2 p2.2 fo) → va_S (fun q : Nat => s.heap.size ≤ q) s.heap H locs → lv_has ls 7 [(4, .int (nI (6 * j))), (3, .ref q3), (2, .ref (bm 0)), (1, .ref (a 0)), (0, .ref b)] → W p l e room_1 s m #[Value.ref b] below meth c H locs (45 + j + 1) (18169 + 6 * j + 6) (lw_Z below #[Value.ref b] s) (F0 m 1344 ls [])) : W p l e room_1 s m #[Value.ref b] below meth c H locs (45 + j) (18169 + 6 * j) (lw_Z below #[Value.ref b] s) (F0 m 689 ls []) := by
  obtain ⟨hx, hb, hr, hml, hown, hts, hX, hbl, hlocks, hgv⟩ := C0
  have hown : s.vm.findClass RL = some m.cls := hown
  have hA : ∀ q : Nat, s.heap.size ≤ q → (fun q : Nat => s.heap.size ≤ q) q := fun _ h => h
  have hbA : ¬ (fun q : Nat => s.heap.size ≤ q) b := Nat.not_le.mpr hbl
  unfold SX_14 at h1
  unfold SY_14 at h2
  obtain ⟨o1, hF1, h1⟩ := q_bi h1
  have hp1 := Option.some.inj h1
  obtain ⟨o2, hF2, h2⟩ := q_bi h2
  have hp2 := Option.some.inj h2
  refine lv_aload_n hx hb dL_law_689 rfl (lv_at hl 3 rfl) ?_
  refine lv_aload_n hx hb dL_law_690 rfl (lv_at hl 4 rfl) ?_
  refine lv_iload hx hb dL_law_691 (lv_at hl 0 rfl) ?_
  refine lv_iconst (v := 1) hx hb dL_law_693 (by decide) ?_
  refine lv_iadd hx hb dL_law_694 ?_
  refine q_top (y := nI (6 * j + 1)) (nI_add (6 * j) 1) ?_
  refine va_sld hx hb hX hbl hbA hS (i := (nI (6 * j + 1))) (vp_in_nI (by omega) (by omega)) dL_law_695 ?_
  refine q_top (y := z 1) (by rw [nI_clamp (by omega), hz]) ?_
  have qxa2 : p1.2.1 2 = x.1 2 := by rw [← hp1]; try rfl
  have qxa5 : p1.2.1 5 = x.1 5 := by rw [← hp1]; try rfl
  have qxa6 : p1.2.1 6 = x.1 6 := by rw [← hp1]; try rfl
  have qxa8 : p1.2.1 8 = x.1 8 := by rw [← hp1]; try rfl
  have qxa9 : p1.2.1 9 = x.1 9 := by rw [← hp1]; try rfl
  have qxa11 : p1.2.1 11 = x.1 11 := by rw [← hp1]; try rfl
  have qxa12 : p1.2.1 12 = x.1 12 := by rw [← hp1]; try rfl
  have qxa13 : p1.2.1 13 = x.1 13 := by rw [← hp1]; try rfl
  have qxa15 : p1.2.1 15 = o1.2.2.2.2.1 := by rw [← hp1]; try rfl
  have qxa17 : p1.2.1 17 = x.1 17 := by rw [← hp1]; try rfl
  have qxa20 : p1.2.1 20 = o1.2.2.2.2.2.1 := by rw [← hp1]; try rfl
  have qxa22 : p1.2.1 22 = o1.2.2.2.2.2.2.1 := by rw [← hp1]; try rfl
  have qxa24 : p1.2.1 24 = x.1 24 := by rw [← hp1]; try rfl
  have qxa26 : p1.2.1 26 = x.1 26 := by rw [← hp1]; try rfl
  have qxa28 : p1.2.1 28 = o1.2.2.2.2.2.2.2 := by rw [← hp1]; try rfl
  have qxi0 : p1.2.2.1 0 = x.2.1 0 := by rw [← hp1]; try rfl
  have qxi1 : p1.2.2.1 1 = x.2.1 1 := by rw [← hp1]; try rfl
  have qxi2 : p1.2.2.1 2 = x.2.1 2 := by rw [← hp1]; try rfl
  have qxi3 : p1.2.2.1 3 = x.2.1 3 := by rw [← hp1]; try rfl
  have qxi4 : p1.2.2.1 4 = x.2.1 4 := by rw [← hp1]; try rfl
  have qxi5 : p1.2.2.1 5 = x.2.1 5 := by rw [← hp1]; try rfl
  have qxi6 : p1.2.2.1 6 = x.2.1 6 := by rw [← hp1]; try rfl
  have qxi7 : p1.2.2.1 7 = o1.2.1 := by rw [← hp1]; try rfl
  have qxi8 : p1.2.2.1 8 = o1.2.2.1 := by rw [← hp1]; try rfl
  have qxi9 : p1.2.2.1 9 = o1.2.2.2.1 := by rw [← hp1]; try rfl
  have qxi10 : p1.2.2.1 10 = x.2.1 10 := by rw [← hp1]; try rfl
  have qxi11 : p1.2.2.1 11 = x.2.1 11 := by rw [← hp1]; try rfl
  have qxl : p1.2.2.2 = x.2.2 := by rw [← hp1]; try rfl
  refine q_goi5 (v := o1.1) (lw_W a k bm km q3 k3 p1.2 y fo) [some 0, none, none, none, none, none, none, some 3, some 4, some 5, none, none, none, none, some 1, some 2, none, none, none, some 6, some 7, some 8, some 9, none, none, none, none, none, some 10, none, none, none, none, none, none, none, none, none, none, none, none, none, none, none, none] (va_runV (As := [.int (z 1)]) (rest := []) ⟨hx, hb, hml, hown, hts⟩ (c_X9_tick l dC dI a k (x.2.1 4) (x.2.1 7) (x.2.1 8) (x.2.1 9) (x.2.1 11) (x.1 8) (x.1 9) (x.1 15) (x.1 20) (x.1 22) (x.1 28) (z 1) (va_A [((a 0), .inr (9, [.ref (a 1), .ref (a 3), .ref (a 4), .ref (a 7), .ref (a 10), .ref (a 14), .ref (a 16), .ref (a 18), .ref (a 19), .ref (a 21), .ref (a 23), .ref (a 25), .ref (a 27), .ref (a 28), .int (x.2.1 11)])), ((a 14), .inr (0, [.ref (a 15), .ref (a 7)])), ((a 15), .inl ((k 15), 98, .inl (x.1 15))), ((a 7), .inr (5, [.ref (a 8), .ref (a 9), .int (x.2.1 4)])), ((a 8), .inl ((k 8), 8, .inl (x.1 8))), ((a 9), .inl ((k 9), 48, .inl (x.1 9))), ((a 19), .inr (4, [.ref (a 20), .int (x.2.1 7), .int (x.2.1 8)])), ((a 20), .inl ((k 20), 3920, .inl (x.1 20))), ((a 21), .inr (1, [.ref (a 22), .int (x.2.1 9)])), ((a 22), .inl ((k 22), 300, .inl (x.1 22))), ((a 28), .inl ((k 28), 4, .inl (x.1 28)))] H.size) o1 hF1) (cwV 1 hts (q_lV m_1047 m_1048 m_1049 m_2 m_1050) rfl rfl rfl hdV_yX9_tick_1 ⟨Nat.le_of_ble_eq_true rfl, Nat.le_of_ble_eq_true rfl⟩) (q_preWV hK hP hD (q := (RX9, TX9, 15)) (ci := 9) (q0 := 0) rfl rfl [0, 14, 15, 7, 8, 9, 19, 20, 21, 22, 28] (by decide) rfl rfl [8, 3, 4, 10, 11, 14] rfl) rfl rfl hl.1 rfl (lv_room (Nat.le_of_ble_eq_true rfl)) dL_law_696 ⟨by show 45 + j + 0 ≤ 1070; omega, by show 18169 + 6 * j + 0 ≤ 26367; omega⟩) hP hD hS hA [0, 14, 15, 7, 8, 9, 19, 20, 21, 22, 28] rfl (by unfold lw_W; simp only [qxa2, qxa5, qxa6, qxa8, qxa9, qxa11, qxa12, qxa13, qxa15, qxa17, qxa20, qxa22, qxa24, qxa26, qxa28, qxi0, qxi1, qxi2, qxi3, qxi4, qxi5, qxi6, qxi7, qxi8, qxi9, qxi10, qxi11, qxl]; rfl) rfl (by decide) (fun H locs hP hD hS => ?_)
  refine lv_pop hx hb dL_law_699 rfl ?_
  refine lv_aload_n hx hb dL_law_700 rfl (lv_at hl 2 rfl) ?_
  refine lv_aload_n hx hb dL_law_701 rfl (lv_at hl 4 rfl) ?_
  refine lv_iload hx hb dL_law_702 (lv_at hl 0 rfl) ?_
  refine lv_iconst (v := 1) hx hb dL_law_704 (by decide) ?_
  refine lv_iadd hx hb dL_law_705 ?_
  refine q_top (y := nI (6 * j + 1)) (nI_add (6 * j) 1) ?_
  refine va_sld hx hb hX hbl hbA hS (i := (nI (6 * j + 1))) (vp_in_nI (by omega) (by omega)) dL_law_706 ?_
  refine q_top (y := z 1) (by rw [nI_clamp (by omega), hz]) ?_
  have qya1 : p2.2.1 1 = y.1 1 := by rw [← hp2]; try rfl
  have qya2 : p2.2.1 2 = y.1 2 := by rw [← hp2]; try rfl
  have qya3 : p2.2.1 3 = y.1 3 := by rw [← hp2]; try rfl
  have qya4 : p2.2.1 4 = y.1 4 := by rw [← hp2]; try rfl
  have qya5 : p2.2.1 5 = y.1 5 := by rw [← hp2]; try rfl
  have qya6 : p2.2.1 6 = y.1 6 := by rw [← hp2]; try rfl
  have qya7 : p2.2.1 7 = y.1 7 := by rw [← hp2]; try rfl
  have qya8 : p2.2.1 8 = o2.2.2.1 := by rw [← hp2]; try rfl
  have qya9 : p2.2.1 9 = o2.2.2.2.1 := by rw [← hp2]; try rfl
  have qya10 : p2.2.1 10 = o2.2.2.2.2 := by rw [← hp2]; try rfl
  have qya11 : p2.2.1 11 = y.1 11 := by rw [← hp2]; try rfl
  have qya12 : p2.2.1 12 = y.1 12 := by rw [← hp2]; try rfl
  have qya13 : p2.2.1 13 = y.1 13 := by rw [← hp2]; try rfl
  have qya14 : p2.2.1 14 = y.1 14 := by rw [← hp2]; try rfl
  have qyi0 : p2.2.2.1 0 = y.2.1 0 := by rw [← hp2]; try rfl
  have qyi1 : p2.2.2.1 1 = y.2.1 1 := by rw [← hp2]; try rfl
  have qyi2 : p2.2.2.1 2 = y.2.1 2 := by rw [← hp2]; try rfl
  have qyi3 : p2.2.2.1 3 = y.2.1 3 := by rw [← hp2]; try rfl
  have qyi4 : p2.2.2.1 4 = y.2.1 4 := by rw [← hp2]; try rfl
  have qyi5 : p2.2.2.1 5 = y.2.1 5 := by rw [← hp2]; try rfl
  have qyi6 : p2.2.2.1 6 = y.2.1 6 := by rw [← hp2]; try rfl
  have qyi7 : p2.2.2.1 7 = o2.2.1 := by rw [← hp2]; try rfl
  have qyi8 : p2.2.2.1 8 = y.2.1 8 := by rw [← hp2]; try rfl
  have qyl : p2.2.2.2 = y.2.2 := by rw [← hp2]; try rfl
  refine q_goi5 (v := o2.1) (lw_W a k bm km q3 k3 p1.2 p2.2 fo) [none, none, none, none, none, none, none, none, none, none, none, none, none, none, none, none, none, none, none, none, none, none, none, none, none, none, none, none, none, some 0, none, none, none, some 1, some 2, none, none, some 3, some 4, some 5, none, none, none, none, none] (va_runV (As := [.int (z 1)]) (rest := []) ⟨hx, hb, hml, hown, hts⟩ (c_X10_tick l dC dI bm km (y.2.1 0) (y.2.1 1) (y.2.1 2) (y.2.1 3) (y.2.1 4) (y.2.1 5) (y.2.1 6) (y.2.1 7) (y.2.1 8) (y.2.2) (y.1 4) (y.1 5) (y.1 8) (y.1 9) (y.1 10) (z 1) (va_A [((bm 0), .inr (10, [.int (y.2.1 0), .ref (bm 1), .int (y.2.1 1), .int (y.2.1 2), .int (y.2.1 3), .ref (bm 2), .ref (bm 3), .int (y.2.1 4), .ref (bm 4), .ref (bm 5), .int (y.2.1 5), .ref (bm 6), .ref (bm 7), .int (y.2.1 6), .ref (bm 8), .ref (bm 9), .ref (bm 10), .int (y.2.1 7), .long (y.2.2), .ref (bm 11), .ref (bm 12), .ref (bm 13), .ref (bm 14), .int (y.2.1 8)])), ((bm 4), .inl ((km 4), 8, .inl (y.1 4))), ((bm 5), .inl ((km 5), 48, .inl (y.1 5))), ((bm 8), .inl ((km 8), 279, .inl (y.1 8))), ((bm 9), .inl ((km 9), 4, .inl (y.1 9))), ((bm 10), .inl ((km 10), 11160, .inl (y.1 10)))] H.size) o2 hF2) (cwV 1 hts (q_lV m_1051 m_1052 m_1053 m_5 m_1054) rfl rfl rfl hdV_yX10_tick_1 ⟨Nat.le_of_ble_eq_true rfl, Nat.le_of_ble_eq_true rfl⟩) (q_preWV hK hP hD (q := (RX10, TX10, 24)) (ci := 10) (q0 := 29) rfl rfl [29, 33, 34, 37, 38, 39] (by decide) rfl rfl [18, 19, 22, 23, 24] rfl) rfl rfl hl.1 rfl (lv_room (Nat.le_of_ble_eq_true rfl)) dL_law_707 ⟨by show 45 + j + 0 ≤ 1070; omega, by show 18169 + 6 * j + 0 ≤ 26367; omega⟩) hP hD hS hA [29, 33, 34, 37, 38, 39] rfl (by unfold lw_W; simp only [qya1, qya2, qya3, qya4, qya5, qya6, qya7, qya8, qya9, qya10, qya11, qya12, qya13, qya14, qyi0, qyi1, qyi2, qyi3, qyi4, qyi5, qyi6, qyi7, qyi8, qyl]; rfl) rfl (by decide) (fun H locs hP hD hS => ?_)
  refine lv_pop hx hb dL_law_710 rfl ?_
  refine lv_goto (tgt := 1344) hx hb dL_law_711 (by decide) ?_
  refine W.widen (k := 45 + j + 1) (n := 18169 + 6 * j + 6) (by omega) (by omega) ?_
  exact kont _ H locs ls hP hD hS (lv_sub hl [0, 1, 2, 3, 4] rfl)

set_option maxHeartbeats 4000000 in
set_option maxRecDepth 100000 in
theorem lw_case_15 {p : Program} {l : Launch} {e : Env} {s : State} {m : MethodId} {below : List Frame} {meth : Method} {c : Code} {dC : Nat → ClassId} {dI : Nat → Nat → Nat} {b L : Nat} {xs : Nat → Int32} (C0 : lw_At p s m meth c b L xs) (ts ks kv : Nat → Nat) (sa : Nat) (hE : q_S ts ks kv (fun q : Nat => s.heap.size ≤ q) s) (hEX : q_X sa s) (hlt : l.stackTraces = false) {a : Nat → Nat} {k : Nat → ClassId} {bm : Nat → Nat} {km : Nat → ClassId} {q3 : Nat} {k3 : ClassId} {j : Nat} (hj : 6 * j + 6 ≤ L) (hL : L ≤ 3072) {z : Nat → Int32} (hz : ∀ q, z q = xs (6 * j + q)) {x y : XS} {p1 p2 : Int32 × XS} (h1 : SX_15 x z = some p1) (h2 : SY_15 y z = some p2) {fo : Nat → Int64} {H : Heap} {locs : List Loc} {ls : Array Slot} (hK : va_K (dC, dI) vwCl (lw_T k km k3) s) (hP : va_P (dC, dI) vwCl (lw_W a k bm km q3 k3 x y fo) H) (hD : va_D (fun q : Nat => s.heap.size ≤ q) (lw_W a k bm km q3 k3 x y fo)) (hS : va_S (fun q : Nat => s.heap.size ≤ q) s.heap H locs) (hl : lv_has ls 7 [(4, .int (nI (6 * j))), (3, .ref q3), (2, .ref (bm 0)), (1, .ref (a 0)), (0, .ref b)]) (kont : ∀ (fo : Nat → Int64) (H : Heap) (locs : List Loc) (ls : Array Slot), va_P (dC, dI) vwCl (lw_W a k bm km q3 k3 p1.2 p2.2 fo) H → va_D (fun q : Nat => s.heap.size ≤ q) (lw_W a k bm km q3 k3 p1.2 p2.2 fo) → va_S (fun q : Nat => s.heap.size ≤ q) s.heap H locs → lv_has ls 7 [(4, .int (nI (6 * j))), (3, .ref q3), (2, .ref (bm 0)), (1, .ref (a 0)), (0, .ref b)] → W p l e room_1 s m #[Value.ref b] below meth c H locs (45 + j + 1) (18169 + 6 * j + 6) (lw_Z below #[Value.ref b] s) (F0 m 1344 ls [])) : W p l e room_1 s m #[Value.ref b] below meth c H locs (45 + j) (18169 + 6 * j) (lw_Z below #[Value.ref b] s) (F0 m 714 ls []) := by
  obtain ⟨hx, hb, hr, hml, hown, hts, hX, hbl, hlocks, hgv⟩ := C0
  have hown : s.vm.findClass RL = some m.cls := hown
  have hA : ∀ q : Nat, s.heap.size ≤ q → (fun q : Nat => s.heap.size ≤ q) q := fun _ h => h
  have hbA : ¬ (fun q : Nat => s.heap.size ≤ q) b := Nat.not_le.mpr hbl
  unfold SX_15 at h1
  unfold SY_15 at h2
  obtain ⟨o1, hF1, h1⟩ := q_bi h1
  have hp1 := Option.some.inj h1
  obtain ⟨o2, hF2, h2⟩ := q_bi h2
  have hp2 := Option.some.inj h2
  refine lv_aload_n hx hb dL_law_714 rfl (lv_at hl 3 rfl) ?_
  refine lv_aload_n hx hb dL_law_715 rfl (lv_at hl 4 rfl) ?_
  refine lv_iload hx hb dL_law_716 (lv_at hl 0 rfl) ?_
  refine lv_iconst (v := 1) hx hb dL_law_718 (by decide) ?_
  refine lv_iadd hx hb dL_law_719 ?_
  refine q_top (y := nI (6 * j + 1)) (nI_add (6 * j) 1) ?_
  refine va_sld hx hb hX hbl hbA hS (i := (nI (6 * j + 1))) (vp_in_nI (by omega) (by omega)) dL_law_720 ?_
  refine q_top (y := z 1) (by rw [nI_clamp (by omega), hz]) ?_
  have qxa2 : p1.2.1 2 = x.1 2 := by rw [← hp1]; try rfl
  have qxa5 : p1.2.1 5 = x.1 5 := by rw [← hp1]; try rfl
  have qxa6 : p1.2.1 6 = x.1 6 := by rw [← hp1]; try rfl
  have qxa8 : p1.2.1 8 = x.1 8 := by rw [← hp1]; try rfl
  have qxa9 : p1.2.1 9 = x.1 9 := by rw [← hp1]; try rfl
  have qxa11 : p1.2.1 11 = x.1 11 := by rw [← hp1]; try rfl
  have qxa12 : p1.2.1 12 = x.1 12 := by rw [← hp1]; try rfl
  have qxa13 : p1.2.1 13 = x.1 13 := by rw [← hp1]; try rfl
  have qxa15 : p1.2.1 15 = o1.2.2.2.2.1 := by rw [← hp1]; try rfl
  have qxa17 : p1.2.1 17 = x.1 17 := by rw [← hp1]; try rfl
  have qxa20 : p1.2.1 20 = o1.2.2.2.2.2.1 := by rw [← hp1]; try rfl
  have qxa22 : p1.2.1 22 = o1.2.2.2.2.2.2.1 := by rw [← hp1]; try rfl
  have qxa24 : p1.2.1 24 = x.1 24 := by rw [← hp1]; try rfl
  have qxa26 : p1.2.1 26 = x.1 26 := by rw [← hp1]; try rfl
  have qxa28 : p1.2.1 28 = o1.2.2.2.2.2.2.2 := by rw [← hp1]; try rfl
  have qxi0 : p1.2.2.1 0 = x.2.1 0 := by rw [← hp1]; try rfl
  have qxi1 : p1.2.2.1 1 = x.2.1 1 := by rw [← hp1]; try rfl
  have qxi2 : p1.2.2.1 2 = x.2.1 2 := by rw [← hp1]; try rfl
  have qxi3 : p1.2.2.1 3 = x.2.1 3 := by rw [← hp1]; try rfl
  have qxi4 : p1.2.2.1 4 = x.2.1 4 := by rw [← hp1]; try rfl
  have qxi5 : p1.2.2.1 5 = x.2.1 5 := by rw [← hp1]; try rfl
  have qxi6 : p1.2.2.1 6 = x.2.1 6 := by rw [← hp1]; try rfl
  have qxi7 : p1.2.2.1 7 = o1.2.1 := by rw [← hp1]; try rfl
  have qxi8 : p1.2.2.1 8 = o1.2.2.1 := by rw [← hp1]; try rfl
  have qxi9 : p1.2.2.1 9 = o1.2.2.2.1 := by rw [← hp1]; try rfl
  have qxi10 : p1.2.2.1 10 = x.2.1 10 := by rw [← hp1]; try rfl
  have qxi11 : p1.2.2.1 11 = x.2.1 11 := by rw [← hp1]; try rfl
  have qxl : p1.2.2.2 = x.2.2 := by rw [← hp1]; try rfl
  refine q_goi5 (v := o1.1) (lw_W a k bm km q3 k3 p1.2 y fo) [some 0, none, none, none, none, none, none, some 3, some 4, some 5, none, none, none, none, some 1, some 2, none, none, none, some 6, some 7, some 8, some 9, none, none, none, none, none, some 10, none, none, none, none, none, none, none, none, none, none, none, none, none, none, none, none] (va_runV (As := [.int (z 1)]) (rest := []) ⟨hx, hb, hml, hown, hts⟩ (c_X9_supply l dC dI a k (x.2.1 4) (x.2.1 7) (x.2.1 8) (x.2.1 9) (x.2.1 11) (x.1 8) (x.1 9) (x.1 15) (x.1 20) (x.1 22) (x.1 28) (z 1) (va_A [((a 0), .inr (9, [.ref (a 1), .ref (a 3), .ref (a 4), .ref (a 7), .ref (a 10), .ref (a 14), .ref (a 16), .ref (a 18), .ref (a 19), .ref (a 21), .ref (a 23), .ref (a 25), .ref (a 27), .ref (a 28), .int (x.2.1 11)])), ((a 14), .inr (0, [.ref (a 15), .ref (a 7)])), ((a 15), .inl ((k 15), 98, .inl (x.1 15))), ((a 7), .inr (5, [.ref (a 8), .ref (a 9), .int (x.2.1 4)])), ((a 8), .inl ((k 8), 8, .inl (x.1 8))), ((a 9), .inl ((k 9), 48, .inl (x.1 9))), ((a 19), .inr (4, [.ref (a 20), .int (x.2.1 7), .int (x.2.1 8)])), ((a 20), .inl ((k 20), 3920, .inl (x.1 20))), ((a 21), .inr (1, [.ref (a 22), .int (x.2.1 9)])), ((a 22), .inl ((k 22), 300, .inl (x.1 22))), ((a 28), .inl ((k 28), 4, .inl (x.1 28)))] H.size) o1 hF1) (cwV 1 hts (q_lV m_1055 m_1056 m_1057 m_2 m_1058) rfl rfl rfl hdV_yX9_supply_1 ⟨Nat.le_of_ble_eq_true rfl, Nat.le_of_ble_eq_true rfl⟩) (q_preWV hK hP hD (q := (RX9, TX9, 15)) (ci := 9) (q0 := 0) rfl rfl [0, 14, 15, 7, 8, 9, 19, 20, 21, 22, 28] (by decide) rfl rfl [8, 3, 4, 10, 11, 14] rfl) rfl rfl hl.1 rfl (lv_room (Nat.le_of_ble_eq_true rfl)) dL_law_721 ⟨by show 45 + j + 0 ≤ 1070; omega, by show 18169 + 6 * j + 0 ≤ 26367; omega⟩) hP hD hS hA [0, 14, 15, 7, 8, 9, 19, 20, 21, 22, 28] rfl (by unfold lw_W; simp only [qxa2, qxa5, qxa6, qxa8, qxa9, qxa11, qxa12, qxa13, qxa15, qxa17, qxa20, qxa22, qxa24, qxa26, qxa28, qxi0, qxi1, qxi2, qxi3, qxi4, qxi5, qxi6, qxi7, qxi8, qxi9, qxi10, qxi11, qxl]; rfl) rfl (by decide) (fun H locs hP hD hS => ?_)
  refine lv_pop hx hb dL_law_724 rfl ?_
  refine lv_aload_n hx hb dL_law_725 rfl (lv_at hl 2 rfl) ?_
  refine lv_aload_n hx hb dL_law_726 rfl (lv_at hl 4 rfl) ?_
  refine lv_iload hx hb dL_law_727 (lv_at hl 0 rfl) ?_
  refine lv_iconst (v := 1) hx hb dL_law_729 (by decide) ?_
  refine lv_iadd hx hb dL_law_730 ?_
  refine q_top (y := nI (6 * j + 1)) (nI_add (6 * j) 1) ?_
  refine va_sld hx hb hX hbl hbA hS (i := (nI (6 * j + 1))) (vp_in_nI (by omega) (by omega)) dL_law_731 ?_
  refine q_top (y := z 1) (by rw [nI_clamp (by omega), hz]) ?_
  have qya1 : p2.2.1 1 = y.1 1 := by rw [← hp2]; try rfl
  have qya2 : p2.2.1 2 = y.1 2 := by rw [← hp2]; try rfl
  have qya3 : p2.2.1 3 = y.1 3 := by rw [← hp2]; try rfl
  have qya4 : p2.2.1 4 = y.1 4 := by rw [← hp2]; try rfl
  have qya5 : p2.2.1 5 = y.1 5 := by rw [← hp2]; try rfl
  have qya6 : p2.2.1 6 = y.1 6 := by rw [← hp2]; try rfl
  have qya7 : p2.2.1 7 = y.1 7 := by rw [← hp2]; try rfl
  have qya8 : p2.2.1 8 = o2.2.2.1 := by rw [← hp2]; try rfl
  have qya9 : p2.2.1 9 = o2.2.2.2.1 := by rw [← hp2]; try rfl
  have qya10 : p2.2.1 10 = o2.2.2.2.2 := by rw [← hp2]; try rfl
  have qya11 : p2.2.1 11 = y.1 11 := by rw [← hp2]; try rfl
  have qya12 : p2.2.1 12 = y.1 12 := by rw [← hp2]; try rfl
  have qya13 : p2.2.1 13 = y.1 13 := by rw [← hp2]; try rfl
  have qya14 : p2.2.1 14 = y.1 14 := by rw [← hp2]; try rfl
  have qyi0 : p2.2.2.1 0 = y.2.1 0 := by rw [← hp2]; try rfl
  have qyi1 : p2.2.2.1 1 = y.2.1 1 := by rw [← hp2]; try rfl
  have qyi2 : p2.2.2.1 2 = y.2.1 2 := by rw [← hp2]; try rfl
  have qyi3 : p2.2.2.1 3 = y.2.1 3 := by rw [← hp2]; try rfl
  have qyi4 : p2.2.2.1 4 = y.2.1 4 := by rw [← hp2]; try rfl
  have qyi5 : p2.2.2.1 5 = y.2.1 5 := by rw [← hp2]; try rfl
  have qyi6 : p2.2.2.1 6 = y.2.1 6 := by rw [← hp2]; try rfl
  have qyi7 : p2.2.2.1 7 = o2.2.1 := by rw [← hp2]; try rfl
  have qyi8 : p2.2.2.1 8 = y.2.1 8 := by rw [← hp2]; try rfl
  have qyl : p2.2.2.2 = y.2.2 := by rw [← hp2]; try rfl
  refine q_goi5 (v := o2.1) (lw_W a k bm km q3 k3 p1.2 p2.2 fo) [none, none, none, none, none, none, none, none, none, none, none, none, none, none, none, none, none, none, none, none, none, none, none, none, none, none, none, none, none, some 0, none, none, none, some 1, some 2, none, none, some 3, some 4, some 5, none, none, none, none, none] (va_runV (As := [.int (z 1)]) (rest := []) ⟨hx, hb, hml, hown, hts⟩ (c_X10_supply l dC dI bm km (y.2.1 0) (y.2.1 1) (y.2.1 2) (y.2.1 3) (y.2.1 4) (y.2.1 5) (y.2.1 6) (y.2.1 7) (y.2.1 8) (y.2.2) (y.1 4) (y.1 5) (y.1 8) (y.1 9) (y.1 10) (z 1) (va_A [((bm 0), .inr (10, [.int (y.2.1 0), .ref (bm 1), .int (y.2.1 1), .int (y.2.1 2), .int (y.2.1 3), .ref (bm 2), .ref (bm 3), .int (y.2.1 4), .ref (bm 4), .ref (bm 5), .int (y.2.1 5), .ref (bm 6), .ref (bm 7), .int (y.2.1 6), .ref (bm 8), .ref (bm 9), .ref (bm 10), .int (y.2.1 7), .long (y.2.2), .ref (bm 11), .ref (bm 12), .ref (bm 13), .ref (bm 14), .int (y.2.1 8)])), ((bm 4), .inl ((km 4), 8, .inl (y.1 4))), ((bm 5), .inl ((km 5), 48, .inl (y.1 5))), ((bm 8), .inl ((km 8), 279, .inl (y.1 8))), ((bm 9), .inl ((km 9), 4, .inl (y.1 9))), ((bm 10), .inl ((km 10), 11160, .inl (y.1 10)))] H.size) o2 hF2) (cwV 1 hts (q_lV m_1059 m_1060 m_1061 m_5 m_1062) rfl rfl rfl hdV_yX10_supply_1 ⟨Nat.le_of_ble_eq_true rfl, Nat.le_of_ble_eq_true rfl⟩) (q_preWV hK hP hD (q := (RX10, TX10, 24)) (ci := 10) (q0 := 29) rfl rfl [29, 33, 34, 37, 38, 39] (by decide) rfl rfl [18, 19, 22, 23, 24] rfl) rfl rfl hl.1 rfl (lv_room (Nat.le_of_ble_eq_true rfl)) dL_law_732 ⟨by show 45 + j + 0 ≤ 1070; omega, by show 18169 + 6 * j + 0 ≤ 26367; omega⟩) hP hD hS hA [29, 33, 34, 37, 38, 39] rfl (by unfold lw_W; simp only [qya1, qya2, qya3, qya4, qya5, qya6, qya7, qya8, qya9, qya10, qya11, qya12, qya13, qya14, qyi0, qyi1, qyi2, qyi3, qyi4, qyi5, qyi6, qyi7, qyi8, qyl]; rfl) rfl (by decide) (fun H locs hP hD hS => ?_)
  refine lv_pop hx hb dL_law_735 rfl ?_
  refine lv_goto (tgt := 1344) hx hb dL_law_736 (by decide) ?_
  refine W.widen (k := 45 + j + 1) (n := 18169 + 6 * j + 6) (by omega) (by omega) ?_
  exact kont _ H locs ls hP hD hS (lv_sub hl [0, 1, 2, 3, 4] rfl)

set_option maxHeartbeats 4000000 in
set_option maxRecDepth 100000 in
theorem lw_case_16 {p : Program} {l : Launch} {e : Env} {s : State} {m : MethodId} {below : List Frame} {meth : Method} {c : Code} {dC : Nat → ClassId} {dI : Nat → Nat → Nat} {b L : Nat} {xs : Nat → Int32} (C0 : lw_At p s m meth c b L xs) (ts ks kv : Nat → Nat) (sa : Nat) (hE : q_S ts ks kv (fun q : Nat => s.heap.size ≤ q) s) (hEX : q_X sa s) (hlt : l.stackTraces = false) {a : Nat → Nat} {k : Nat → ClassId} {bm : Nat → Nat} {km : Nat → ClassId} {q3 : Nat} {k3 : ClassId} {j : Nat} (hj : 6 * j + 6 ≤ L) (hL : L ≤ 3072) {z : Nat → Int32} (hz : ∀ q, z q = xs (6 * j + q)) {x y : XS} {p1 p2 : Int32 × XS} (h1 : SX_16 x z = some p1) (h2 : SY_16 y z = some p2) {fo : Nat → Int64} {H : Heap} {locs : List Loc} {ls : Array Slot} (hK : va_K (dC, dI) vwCl (lw_T k km k3) s) (hP : va_P (dC, dI) vwCl (lw_W a k bm km q3 k3 x y fo) H) (hD : va_D (fun q : Nat => s.heap.size ≤ q) (lw_W a k bm km q3 k3 x y fo)) (hS : va_S (fun q : Nat => s.heap.size ≤ q) s.heap H locs) (hl : lv_has ls 7 [(4, .int (nI (6 * j))), (3, .ref q3), (2, .ref (bm 0)), (1, .ref (a 0)), (0, .ref b)]) (kont : ∀ (fo : Nat → Int64) (H : Heap) (locs : List Loc) (ls : Array Slot), va_P (dC, dI) vwCl (lw_W a k bm km q3 k3 p1.2 p2.2 fo) H → va_D (fun q : Nat => s.heap.size ≤ q) (lw_W a k bm km q3 k3 p1.2 p2.2 fo) → va_S (fun q : Nat => s.heap.size ≤ q) s.heap H locs → lv_has ls 7 [(4, .int (nI (6 * j))), (3, .ref q3), (2, .ref (bm 0)), (1, .ref (a 0)), (0, .ref b)] → W p l e room_1 s m #[Value.ref b] below meth c H locs (45 + j + 1) (18169 + 6 * j + 6) (lw_Z below #[Value.ref b] s) (F0 m 1344 ls [])) : W p l e room_1 s m #[Value.ref b] below meth c H locs (45 + j) (18169 + 6 * j) (lw_Z below #[Value.ref b] s) (F0 m 739 ls []) := by
  obtain ⟨hx, hb, hr, hml, hown, hts, hX, hbl, hlocks, hgv⟩ := C0
  have hown : s.vm.findClass RL = some m.cls := hown
  have hA : ∀ q : Nat, s.heap.size ≤ q → (fun q : Nat => s.heap.size ≤ q) q := fun _ h => h
  have hbA : ¬ (fun q : Nat => s.heap.size ≤ q) b := Nat.not_le.mpr hbl
  unfold SX_16 at h1
  unfold SY_16 at h2
  obtain ⟨o1, hF1, h1⟩ := q_bi h1
  have hp1 := Option.some.inj h1
  obtain ⟨o2, hF2, h2⟩ := q_bi h2
  have hp2 := Option.some.inj h2
  refine lv_aload_n hx hb dL_law_739 rfl (lv_at hl 3 rfl) ?_
  refine lv_aload_n hx hb dL_law_740 rfl (lv_at hl 4 rfl) ?_
  refine lv_iload hx hb dL_law_741 (lv_at hl 0 rfl) ?_
  refine lv_iconst (v := 1) hx hb dL_law_743 (by decide) ?_
  refine lv_iadd hx hb dL_law_744 ?_
  refine q_top (y := nI (6 * j + 1)) (nI_add (6 * j) 1) ?_
  refine va_sld hx hb hX hbl hbA hS (i := (nI (6 * j + 1))) (vp_in_nI (by omega) (by omega)) dL_law_745 ?_
  refine q_top (y := z 1) (by rw [nI_clamp (by omega), hz]) ?_
  refine lv_aload_n hx hb dL_law_746 rfl (lv_at hl 4 rfl) ?_
  refine lv_iload hx hb dL_law_747 (lv_at hl 0 rfl) ?_
  refine lv_iconst (v := 2) hx hb dL_law_749 (by decide) ?_
  refine lv_iadd hx hb dL_law_750 ?_
  refine q_top (y := nI (6 * j + 2)) (nI_add (6 * j) 2) ?_
  refine va_sld hx hb hX hbl hbA hS (i := (nI (6 * j + 2))) (vp_in_nI (by omega) (by omega)) dL_law_751 ?_
  refine q_top (y := z 2) (by rw [nI_clamp (by omega), hz]) ?_
  have qxa2 : p1.2.1 2 = x.1 2 := by rw [← hp1]; try rfl
  have qxa5 : p1.2.1 5 = x.1 5 := by rw [← hp1]; try rfl
  have qxa6 : p1.2.1 6 = x.1 6 := by rw [← hp1]; try rfl
  have qxa8 : p1.2.1 8 = x.1 8 := by rw [← hp1]; try rfl
  have qxa9 : p1.2.1 9 = x.1 9 := by rw [← hp1]; try rfl
  have qxa11 : p1.2.1 11 = x.1 11 := by rw [← hp1]; try rfl
  have qxa12 : p1.2.1 12 = x.1 12 := by rw [← hp1]; try rfl
  have qxa13 : p1.2.1 13 = x.1 13 := by rw [← hp1]; try rfl
  have qxa15 : p1.2.1 15 = o1.2.2.2.2.1 := by rw [← hp1]; try rfl
  have qxa17 : p1.2.1 17 = x.1 17 := by rw [← hp1]; try rfl
  have qxa20 : p1.2.1 20 = o1.2.2.2.2.2.1 := by rw [← hp1]; try rfl
  have qxa22 : p1.2.1 22 = o1.2.2.2.2.2.2.1 := by rw [← hp1]; try rfl
  have qxa24 : p1.2.1 24 = x.1 24 := by rw [← hp1]; try rfl
  have qxa26 : p1.2.1 26 = x.1 26 := by rw [← hp1]; try rfl
  have qxa28 : p1.2.1 28 = o1.2.2.2.2.2.2.2 := by rw [← hp1]; try rfl
  have qxi0 : p1.2.2.1 0 = x.2.1 0 := by rw [← hp1]; try rfl
  have qxi1 : p1.2.2.1 1 = x.2.1 1 := by rw [← hp1]; try rfl
  have qxi2 : p1.2.2.1 2 = x.2.1 2 := by rw [← hp1]; try rfl
  have qxi3 : p1.2.2.1 3 = x.2.1 3 := by rw [← hp1]; try rfl
  have qxi4 : p1.2.2.1 4 = x.2.1 4 := by rw [← hp1]; try rfl
  have qxi5 : p1.2.2.1 5 = x.2.1 5 := by rw [← hp1]; try rfl
  have qxi6 : p1.2.2.1 6 = x.2.1 6 := by rw [← hp1]; try rfl
  have qxi7 : p1.2.2.1 7 = o1.2.1 := by rw [← hp1]; try rfl
  have qxi8 : p1.2.2.1 8 = o1.2.2.1 := by rw [← hp1]; try rfl
  have qxi9 : p1.2.2.1 9 = o1.2.2.2.1 := by rw [← hp1]; try rfl
  have qxi10 : p1.2.2.1 10 = x.2.1 10 := by rw [← hp1]; try rfl
  have qxi11 : p1.2.2.1 11 = x.2.1 11 := by rw [← hp1]; try rfl
  have qxl : p1.2.2.2 = x.2.2 := by rw [← hp1]; try rfl
  refine q_goi5 (v := o1.1) (lw_W a k bm km q3 k3 p1.2 y fo) [some 0, none, none, none, none, none, none, some 3, some 4, some 5, none, none, none, none, some 1, some 2, none, none, none, some 6, some 7, some 8, some 9, none, none, none, none, none, some 10, none, none, none, none, none, none, none, none, none, none, none, none, none, none, none, none] (va_runV (As := [.int (z 1), .int (z 2)]) (rest := []) ⟨hx, hb, hml, hown, hts⟩ (c_X9_error l dC dI a k (x.2.1 4) (x.2.1 7) (x.2.1 8) (x.2.1 9) (x.2.1 11) (x.1 8) (x.1 9) (x.1 15) (x.1 20) (x.1 22) (x.1 28) (z 1) (z 2) (va_A [((a 0), .inr (9, [.ref (a 1), .ref (a 3), .ref (a 4), .ref (a 7), .ref (a 10), .ref (a 14), .ref (a 16), .ref (a 18), .ref (a 19), .ref (a 21), .ref (a 23), .ref (a 25), .ref (a 27), .ref (a 28), .int (x.2.1 11)])), ((a 14), .inr (0, [.ref (a 15), .ref (a 7)])), ((a 15), .inl ((k 15), 98, .inl (x.1 15))), ((a 7), .inr (5, [.ref (a 8), .ref (a 9), .int (x.2.1 4)])), ((a 8), .inl ((k 8), 8, .inl (x.1 8))), ((a 9), .inl ((k 9), 48, .inl (x.1 9))), ((a 19), .inr (4, [.ref (a 20), .int (x.2.1 7), .int (x.2.1 8)])), ((a 20), .inl ((k 20), 3920, .inl (x.1 20))), ((a 21), .inr (1, [.ref (a 22), .int (x.2.1 9)])), ((a 22), .inl ((k 22), 300, .inl (x.1 22))), ((a 28), .inl ((k 28), 4, .inl (x.1 28)))] H.size) o1 hF1) (cwV 2 hts (q_lV m_1063 m_1064 m_1065 m_2 m_1066) rfl rfl rfl hdV_yX9_error_2 ⟨Nat.le_of_ble_eq_true rfl, Nat.le_of_ble_eq_true rfl⟩) (q_preWV hK hP hD (q := (RX9, TX9, 15)) (ci := 9) (q0 := 0) rfl rfl [0, 14, 15, 7, 8, 9, 19, 20, 21, 22, 28] (by decide) rfl rfl [8, 3, 4, 10, 11, 14] rfl) rfl rfl hl.1 rfl (lv_room (Nat.le_of_ble_eq_true rfl)) dL_law_752 ⟨by show 45 + j + 0 ≤ 1070; omega, by show 18169 + 6 * j + 0 ≤ 26367; omega⟩) hP hD hS hA [0, 14, 15, 7, 8, 9, 19, 20, 21, 22, 28] rfl (by unfold lw_W; simp only [qxa2, qxa5, qxa6, qxa8, qxa9, qxa11, qxa12, qxa13, qxa15, qxa17, qxa20, qxa22, qxa24, qxa26, qxa28, qxi0, qxi1, qxi2, qxi3, qxi4, qxi5, qxi6, qxi7, qxi8, qxi9, qxi10, qxi11, qxl]; rfl) rfl (by decide) (fun H locs hP hD hS => ?_)
  refine lv_pop hx hb dL_law_755 rfl ?_
  refine lv_aload_n hx hb dL_law_756 rfl (lv_at hl 2 rfl) ?_
  refine lv_aload_n hx hb dL_law_757 rfl (lv_at hl 4 rfl) ?_
  refine lv_iload hx hb dL_law_758 (lv_at hl 0 rfl) ?_
  refine lv_iconst (v := 1) hx hb dL_law_760 (by decide) ?_
  refine lv_iadd hx hb dL_law_761 ?_
  refine q_top (y := nI (6 * j + 1)) (nI_add (6 * j) 1) ?_
  refine va_sld hx hb hX hbl hbA hS (i := (nI (6 * j + 1))) (vp_in_nI (by omega) (by omega)) dL_law_762 ?_
  refine q_top (y := z 1) (by rw [nI_clamp (by omega), hz]) ?_
  refine lv_aload_n hx hb dL_law_763 rfl (lv_at hl 4 rfl) ?_
  refine lv_iload hx hb dL_law_764 (lv_at hl 0 rfl) ?_
  refine lv_iconst (v := 2) hx hb dL_law_766 (by decide) ?_
  refine lv_iadd hx hb dL_law_767 ?_
  refine q_top (y := nI (6 * j + 2)) (nI_add (6 * j) 2) ?_
  refine va_sld hx hb hX hbl hbA hS (i := (nI (6 * j + 2))) (vp_in_nI (by omega) (by omega)) dL_law_768 ?_
  refine q_top (y := z 2) (by rw [nI_clamp (by omega), hz]) ?_
  have qya1 : p2.2.1 1 = y.1 1 := by rw [← hp2]; try rfl
  have qya2 : p2.2.1 2 = y.1 2 := by rw [← hp2]; try rfl
  have qya3 : p2.2.1 3 = y.1 3 := by rw [← hp2]; try rfl
  have qya4 : p2.2.1 4 = y.1 4 := by rw [← hp2]; try rfl
  have qya5 : p2.2.1 5 = y.1 5 := by rw [← hp2]; try rfl
  have qya6 : p2.2.1 6 = y.1 6 := by rw [← hp2]; try rfl
  have qya7 : p2.2.1 7 = y.1 7 := by rw [← hp2]; try rfl
  have qya8 : p2.2.1 8 = o2.2.2.1 := by rw [← hp2]; try rfl
  have qya9 : p2.2.1 9 = o2.2.2.2.1 := by rw [← hp2]; try rfl
  have qya10 : p2.2.1 10 = o2.2.2.2.2 := by rw [← hp2]; try rfl
  have qya11 : p2.2.1 11 = y.1 11 := by rw [← hp2]; try rfl
  have qya12 : p2.2.1 12 = y.1 12 := by rw [← hp2]; try rfl
  have qya13 : p2.2.1 13 = y.1 13 := by rw [← hp2]; try rfl
  have qya14 : p2.2.1 14 = y.1 14 := by rw [← hp2]; try rfl
  have qyi0 : p2.2.2.1 0 = y.2.1 0 := by rw [← hp2]; try rfl
  have qyi1 : p2.2.2.1 1 = y.2.1 1 := by rw [← hp2]; try rfl
  have qyi2 : p2.2.2.1 2 = y.2.1 2 := by rw [← hp2]; try rfl
  have qyi3 : p2.2.2.1 3 = y.2.1 3 := by rw [← hp2]; try rfl
  have qyi4 : p2.2.2.1 4 = y.2.1 4 := by rw [← hp2]; try rfl
  have qyi5 : p2.2.2.1 5 = y.2.1 5 := by rw [← hp2]; try rfl
  have qyi6 : p2.2.2.1 6 = y.2.1 6 := by rw [← hp2]; try rfl
  have qyi7 : p2.2.2.1 7 = o2.2.1 := by rw [← hp2]; try rfl
  have qyi8 : p2.2.2.1 8 = y.2.1 8 := by rw [← hp2]; try rfl
  have qyl : p2.2.2.2 = y.2.2 := by rw [← hp2]; try rfl
  refine q_goi5 (v := o2.1) (lw_W a k bm km q3 k3 p1.2 p2.2 fo) [none, none, none, none, none, none, none, none, none, none, none, none, none, none, none, none, none, none, none, none, none, none, none, none, none, none, none, none, none, some 0, none, none, none, some 1, some 2, none, none, some 3, some 4, some 5, none, none, none, none, none] (va_runV (As := [.int (z 1), .int (z 2)]) (rest := []) ⟨hx, hb, hml, hown, hts⟩ (c_X10_error l dC dI bm km (y.2.1 0) (y.2.1 1) (y.2.1 2) (y.2.1 3) (y.2.1 4) (y.2.1 5) (y.2.1 6) (y.2.1 7) (y.2.1 8) (y.2.2) (y.1 4) (y.1 5) (y.1 8) (y.1 9) (y.1 10) (z 1) (z 2) (va_A [((bm 0), .inr (10, [.int (y.2.1 0), .ref (bm 1), .int (y.2.1 1), .int (y.2.1 2), .int (y.2.1 3), .ref (bm 2), .ref (bm 3), .int (y.2.1 4), .ref (bm 4), .ref (bm 5), .int (y.2.1 5), .ref (bm 6), .ref (bm 7), .int (y.2.1 6), .ref (bm 8), .ref (bm 9), .ref (bm 10), .int (y.2.1 7), .long (y.2.2), .ref (bm 11), .ref (bm 12), .ref (bm 13), .ref (bm 14), .int (y.2.1 8)])), ((bm 4), .inl ((km 4), 8, .inl (y.1 4))), ((bm 5), .inl ((km 5), 48, .inl (y.1 5))), ((bm 8), .inl ((km 8), 279, .inl (y.1 8))), ((bm 9), .inl ((km 9), 4, .inl (y.1 9))), ((bm 10), .inl ((km 10), 11160, .inl (y.1 10)))] H.size) o2 hF2) (cwV 2 hts (q_lV m_1067 m_1068 m_1069 m_5 m_1070) rfl rfl rfl hdV_yX10_error_2 ⟨Nat.le_of_ble_eq_true rfl, Nat.le_of_ble_eq_true rfl⟩) (q_preWV hK hP hD (q := (RX10, TX10, 24)) (ci := 10) (q0 := 29) rfl rfl [29, 33, 34, 37, 38, 39] (by decide) rfl rfl [18, 19, 22, 23, 24] rfl) rfl rfl hl.1 rfl (lv_room (Nat.le_of_ble_eq_true rfl)) dL_law_769 ⟨by show 45 + j + 0 ≤ 1070; omega, by show 18169 + 6 * j + 0 ≤ 26367; omega⟩) hP hD hS hA [29, 33, 34, 37, 38, 39] rfl (by unfold lw_W; simp only [qya1, qya2, qya3, qya4, qya5, qya6, qya7, qya8, qya9, qya10, qya11, qya12, qya13, qya14, qyi0, qyi1, qyi2, qyi3, qyi4, qyi5, qyi6, qyi7, qyi8, qyl]; rfl) rfl (by decide) (fun H locs hP hD hS => ?_)
  refine lv_pop hx hb dL_law_772 rfl ?_
  refine lv_goto (tgt := 1344) hx hb dL_law_773 (by decide) ?_
  refine W.widen (k := 45 + j + 1) (n := 18169 + 6 * j + 6) (by omega) (by omega) ?_
  exact kont _ H locs ls hP hD hS (lv_sub hl [0, 1, 2, 3, 4] rfl)
