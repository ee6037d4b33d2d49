theorem dL_law_327 : decode cL_law 327 = .ok (.aload_n 1, 1) := q_o43 (by decide +kernel)
theorem dL_law_328 : decode cL_law 328 = .ok (.aload_n 0, 1) := q_o42 (by decide +kernel)
theorem dL_law_329 : decode cL_law 329 = .ok (.iload 4, 2) := q_o21 (a := 4) (by decide +kernel)
theorem dL_law_331 : decode cL_law 331 = .ok (.iconst 1, 1) := q_o4 (by decide +kernel)
theorem dL_law_332 : decode cL_law 332 = .ok (.iadd, 1) := q_o96 (by decide +kernel)
theorem dL_law_333 : decode cL_law 333 = .ok (.iaload, 1) := q_o46 (by decide +kernel)
theorem dL_law_334 : decode cL_law 334 = .ok (.invokevirtual 34, 3) := q_o182 (a := 0) (b := 34) (by decide +kernel)
theorem dL_law_337 : decode cL_law 337 = .ok (.pop, 1) := q_o87 (by decide +kernel)
theorem dL_law_338 : decode cL_law 338 = .ok (.aload_n 2, 1) := q_o44 (by decide +kernel)
theorem dL_law_339 : decode cL_law 339 = .ok (.aload_n 0, 1) := q_o42 (by decide +kernel)
theorem dL_law_340 : decode cL_law 340 = .ok (.iload 4, 2) := q_o21 (a := 4) (by decide +kernel)
theorem dL_law_342 : decode cL_law 342 = .ok (.iconst 1, 1) := q_o4 (by decide +kernel)
theorem dL_law_343 : decode cL_law 343 = .ok (.iadd, 1) := q_o96 (by decide +kernel)
theorem dL_law_344 : decode cL_law 344 = .ok (.iaload, 1) := q_o46 (by decide +kernel)
theorem dL_law_345 : decode cL_law 345 = .ok (.invokevirtual 37, 3) := q_o182 (a := 0) (b := 37) (by decide +kernel)
theorem dL_law_348 : decode cL_law 348 = .ok (.pop, 1) := q_o87 (by decide +kernel)
theorem dL_law_349 : decode cL_law 349 = .ok (.goto 995, 3) := q_o167 (a := 3) (b := 227) (by decide +kernel) rfl
theorem hdV_yX10_text_1 : yX10_text.cls = RX10 ∧ yX10_text.cls ≠ "java/lang/invoke/MethodHandle" ∧ yX10_text.cls ≠ "java/lang/invoke/VarHandle" ∧ (parseMethodDescriptor yX10_text.desc).map (fun d => d.parameters.length) = some 1 := by decide +kernel
theorem hdV_yX9_text_1 : yX9_text.cls = RX9 ∧ yX9_text.cls ≠ "java/lang/invoke/MethodHandle" ∧ yX9_text.cls ≠ "java/lang/invoke/VarHandle" ∧ (parseMethodDescriptor yX9_text.desc).map (fun d => d.parameters.length) = some 1 := by decide +kernel
set_option maxHeartbeats 4000000 in
set_option maxRecDepth 100000 in
theorem lw_case_3 {p : Program} {l : Launch} {e : Env} {s : State} {m : MethodId} {below : List Frame} {meth : Method} {c : Code} {dC : Nat → ClassId} {dI : Nat → Nat → Nat} {b L : Nat} {xs : Nat → Int32} (C0 : lw_At p s m meth c b L xs) (ts ks kv : Nat → Nat) (sa : Nat) (hE : q_S ts ks kv (fun q : Nat => s.heap.size ≤ q) s) (hEX : q_X sa s) (hlt : l.stackTraces = false) {a : Nat → Nat} {k : Nat → ClassId} {bm : Nat → Nat} {km : Nat → ClassId} {q3 : Nat} {k3 : ClassId} {j : Nat} (hj : 6 * j + 6 ≤ L) (hL : L ≤ 3072) {z : Nat → Int32} (hz : ∀ q, z q = xs (6 * j + q)) {x y : XS} {p1 p2 : Int32 × XS} (h1 : SX_3 x z = some p1) (h2 : SY_3 y z = some p2) {fo : Nat → Int64} {H : Heap} {locs : List Loc} {ls : Array Slot} (hK : va_K (dC, dI) vwCl (lw_T k km k3) s) (hP : va_P (dC, dI) vwCl (lw_W a k bm km q3 k3 x y fo) H) (hD : va_D (fun q : Nat => s.heap.size ≤ q) (lw_W a k bm km q3 k3 x y fo)) (hS : va_S (fun q : Nat => s.heap.size ≤ q) s.heap H locs) (hl : lv_has ls 7 [(4, .int (nI (6 * j))), (3, .ref q3), (2, .ref (bm 0)), (1, .ref (a 0)), (0, .ref b)]) (kont : ∀ (fo : Nat → Int64) (H : Heap) (locs : List Loc) (ls : Array Slot), va_P (dC, dI) vwCl (lw_W a k bm km q3 k3 p1.2 p2.2 fo) H → va_D (fun q : Nat => s.heap.size ≤ q) (lw_W a k bm km q3 k3 p1.2 p2.2 fo) → va_S (fun q : Nat => s.heap.size ≤ q) s.heap H locs → lv_has ls 7 [(4, .int (nI (6 * j))), (3, .ref q3), (2, .ref (bm 0)), (1, .ref (a 0)), (0, .ref b)] → W p l e room_1 s m #[Value.ref b] below meth c H locs (45 + j + 1) (18169 + 6 * j + 6) (lw_Z below #[Value.ref b] s) (F0 m 1344 ls [])) : W p l e room_1 s m #[Value.ref b] below meth c H locs (45 + j) (18169 + 6 * j) (lw_Z below #[Value.ref b] s) (F0 m 327 ls []) := by
  obtain ⟨hx, hb, hr, hml, hown, hts, hX, hbl, hlocks, hgv⟩ := C0
  have hown : s.vm.findClass RL = some m.cls := hown
  have hA : ∀ q : Nat, s.heap.size ≤ q → (fun q : Nat => s.heap.size ≤ q) q := fun _ h => h
  have hbA : ¬ (fun q : Nat => s.heap.size ≤ q) b := Nat.not_le.mpr hbl
  unfold SX_3 at h1
  unfold SY_3 at h2
  obtain ⟨o1, hF1, h1⟩ := q_bi h1
  have hp1 := Option.some.inj h1
  obtain ⟨o2, hF2, h2⟩ := q_bi h2
  have hp2 := Option.some.inj h2
  refine lv_aload_n hx hb dL_law_327 rfl (lv_at hl 3 rfl) ?_
  refine lv_aload_n hx hb dL_law_328 rfl (lv_at hl 4 rfl) ?_
  refine lv_iload hx hb dL_law_329 (lv_at hl 0 rfl) ?_
  refine lv_iconst (v := 1) hx hb dL_law_331 (by decide) ?_
  refine lv_iadd hx hb dL_law_332 ?_
  refine q_top (y := nI (6 * j + 1)) (nI_add (6 * j) 1) ?_
  refine va_sld hx hb hX hbl hbA hS (i := (nI (6 * j + 1))) (vp_in_nI (by omega) (by omega)) dL_law_333 ?_
  refine q_top (y := z 1) (by rw [nI_clamp (by omega), hz]) ?_
  have qxa2 : p1.2.1 2 = x.1 2 := by rw [← hp1]; try rfl
  have qxa5 : p1.2.1 5 = o1.2.2.2.2.2.2.2.2.2.2.2.1 := by rw [← hp1]; try rfl
  have qxa6 : p1.2.1 6 = o1.2.2.2.2.2.2.2.2.2.2.2.2.1 := by rw [← hp1]; try rfl
  have qxa8 : p1.2.1 8 = o1.2.2.2.2.2.2.2.2.2.2.2.2.2.1 := by rw [← hp1]; try rfl
  have qxa9 : p1.2.1 9 = o1.2.2.2.2.2.2.2.2.2.2.2.2.2.2.1 := by rw [← hp1]; try rfl
  have qxa11 : p1.2.1 11 = o1.2.2.2.2.2.2.2.2.2.2.2.2.2.2.2.1 := by rw [← hp1]; try rfl
  have qxa12 : p1.2.1 12 = o1.2.2.2.2.2.2.2.2.2.2.2.2.2.2.2.2.1 := by rw [← hp1]; try rfl
  have qxa13 : p1.2.1 13 = o1.2.2.2.2.2.2.2.2.2.2.2.2.2.2.2.2.2.1 := by rw [← hp1]; try rfl
  have qxa15 : p1.2.1 15 = o1.2.2.2.2.2.2.2.2.2.2.2.2.2.2.2.2.2.2 := by rw [← hp1]; try rfl
  have qxa17 : p1.2.1 17 = x.1 17 := by rw [← hp1]; try rfl
  have qxa20 : p1.2.1 20 = x.1 20 := by rw [← hp1]; try rfl
  have qxa22 : p1.2.1 22 = x.1 22 := by rw [← hp1]; try rfl
  have qxa24 : p1.2.1 24 = x.1 24 := by rw [← hp1]; try rfl
  have qxa26 : p1.2.1 26 = x.1 26 := by rw [← hp1]; try rfl
  have qxa28 : p1.2.1 28 = x.1 28 := by rw [← hp1]; try rfl
  have qxi0 : p1.2.2.1 0 = o1.2.1 := by rw [← hp1]; try rfl
  have qxi1 : p1.2.2.1 1 = o1.2.2.1 := by rw [← hp1]; try rfl
  have qxi2 : p1.2.2.1 2 = o1.2.2.2.1 := by rw [← hp1]; try rfl
  have qxi3 : p1.2.2.1 3 = o1.2.2.2.2.1 := by rw [← hp1]; try rfl
  have qxi4 : p1.2.2.1 4 = o1.2.2.2.2.2.1 := by rw [← hp1]; try rfl
  have qxi5 : p1.2.2.1 5 = o1.2.2.2.2.2.2.1 := by rw [← hp1]; try rfl
  have qxi6 : p1.2.2.1 6 = o1.2.2.2.2.2.2.2.1 := by rw [← hp1]; try rfl
  have qxi7 : p1.2.2.1 7 = x.2.1 7 := by rw [← hp1]; try rfl
  have qxi8 : p1.2.2.1 8 = o1.2.2.2.2.2.2.2.2.1 := by rw [← hp1]; try rfl
  have qxi9 : p1.2.2.1 9 = o1.2.2.2.2.2.2.2.2.2.1 := by rw [← hp1]; try rfl
  have qxi10 : p1.2.2.1 10 = x.2.1 10 := by rw [← hp1]; try rfl
  have qxi11 : p1.2.2.1 11 = o1.2.2.2.2.2.2.2.2.2.2.1 := by rw [← hp1]; try rfl
  have qxl : p1.2.2.2 = x.2.2 := by rw [← hp1]; try rfl
  refine q_goi5 (v := o1.1) (lw_W a k bm km q3 k3 p1.2 y fo) [some 0, some 1, some 2, some 3, some 4, some 5, some 6, some 9, some 10, some 11, some 12, some 13, some 14, some 15, some 7, some 8, none, none, none, some 16, some 17, some 18, none, none, none, none, none, none, none, none, none, none, none, none, none, none, none, none, none, none, none, none, none, none, none] (va_runV (As := [.int (z 1)]) (rest := []) ⟨hx, hb, hml, hown, hts⟩ (c_X9_text l dC dI ts ks kv a k (x.2.1 0) (x.2.1 1) (x.2.1 2) (x.2.1 3) (x.2.1 4) (x.2.1 5) (x.2.1 6) (x.2.1 7) (x.2.1 8) (x.2.1 9) (x.2.1 11) (x.1 2) (x.1 5) (x.1 6) (x.1 8) (x.1 9) (x.1 11) (x.1 12) (x.1 13) (x.1 15) (x.1 20) (z 1) (va_A [((a 0), .inr (9, [.ref (a 1), .ref (a 3), .ref (a 4), .ref (a 7), .ref (a 10), .ref (a 14), .ref (a 16), .ref (a 18), .ref (a 19), .ref (a 21), .ref (a 23), .ref (a 25), .ref (a 27), .ref (a 28), .int (x.2.1 11)])), ((a 1), .inr (8, [.ref (a 2), .int (x.2.1 0)])), ((a 2), .inl ((k 2), 240, .inl (x.1 2))), ((a 3), .inr (6, [.ref (a 1), .int (x.2.1 1), .int (x.2.1 2)])), ((a 4), .inr (5, [.ref (a 5), .ref (a 6), .int (x.2.1 3)])), ((a 5), .inl ((k 5), 8, .inl (x.1 5))), ((a 6), .inl ((k 6), 48, .inl (x.1 6))), ((a 14), .inr (0, [.ref (a 15), .ref (a 7)])), ((a 15), .inl ((k 15), 98, .inl (x.1 15))), ((a 7), .inr (5, [.ref (a 8), .ref (a 9), .int (x.2.1 4)])), ((a 8), .inl ((k 8), 8, .inl (x.1 8))), ((a 9), .inl ((k 9), 48, .inl (x.1 9))), ((a 10), .inr (7, [.ref (a 11), .ref (a 12), .ref (a 13), .int (x.2.1 5), .int (x.2.1 6)])), ((a 11), .inl ((k 11), 256, .inl (x.1 11))), ((a 12), .inl ((k 12), 4, .inl (x.1 12))), ((a 13), .inl ((k 13), 64, .inl (x.1 13))), ((a 19), .inr (4, [.ref (a 20), .int (x.2.1 7), .int (x.2.1 8)])), ((a 20), .inl ((k 20), 3920, .inl (x.1 20))), ((a 21), .inr (1, [.ref (a 22), .int (x.2.1 9)]))] H.size) o1 hF1) (cwV 1 hts (q_lV m_381 m_382 m_383 m_2 m_384) rfl rfl rfl hdV_yX9_text_1 ⟨Nat.le_of_ble_eq_true rfl, Nat.le_of_ble_eq_true rfl⟩) (q_preWVE hK hP hD (q := (RX9, TX9, 15)) (ci := 9) (q0 := 0) rfl rfl [0, 1, 2, 3, 4, 5, 6, 14, 15, 7, 8, 9, 10, 11, 12, 13, 19, 20, 21] (by decide) rfl rfl [0, 1, 2, 8, 3, 4, 5, 6, 7, 10] rfl q_S_bl (q_S_give hE hS (va_free (wc := [((a 0), .inr (9, [.ref (a 1), .ref (a 3), .ref (a 4), .ref (a 7), .ref (a 10), .ref (a 14), .ref (a 16), .ref (a 18), .ref (a 19), .ref (a 21), .ref (a 23), .ref (a 25), .ref (a 27), .ref (a 28), .int (x.2.1 11)])), ((a 1), .inr (8, [.ref (a 2), .int (x.2.1 0)])), ((a 2), .inl ((k 2), 240, .inl (x.1 2))), ((a 3), .inr (6, [.ref (a 1), .int (x.2.1 1), .int (x.2.1 2)])), ((a 4), .inr (5, [.ref (a 5), .ref (a 6), .int (x.2.1 3)])), ((a 5), .inl ((k 5), 8, .inl (x.1 5))), ((a 6), .inl ((k 6), 48, .inl (x.1 6))), ((a 14), .inr (0, [.ref (a 15), .ref (a 7)])), ((a 15), .inl ((k 15), 98, .inl (x.1 15))), ((a 7), .inr (5, [.ref (a 8), .ref (a 9), .int (x.2.1 4)])), ((a 8), .inl ((k 8), 8, .inl (x.1 8))), ((a 9), .inl ((k 9), 48, .inl (x.1 9))), ((a 10), .inr (7, [.ref (a 11), .ref (a 12), .ref (a 13), .int (x.2.1 5), .int (x.2.1 6)])), ((a 11), .inl ((k 11), 256, .inl (x.1 11))), ((a 12), .inl ((k 12), 4, .inl (x.1 12))), ((a 13), .inl ((k 13), 64, .inl (x.1 13))), ((a 19), .inr (4, [.ref (a 20), .int (x.2.1 7), .int (x.2.1 8)])), ((a 20), .inl ((k 20), 3920, .inl (x.1 20))), ((a 21), .inr (1, [.ref (a 22), .int (x.2.1 9)]))]) hD hS hA [0, 1, 2, 3, 4, 5, 6, 14, 15, 7, 8, 9, 10, 11, 12, 13, 19, 20, 21] rfl))) rfl rfl hl.1 rfl (lv_room (Nat.le_of_ble_eq_true rfl)) dL_law_334 ⟨by show 45 + j + 0 ≤ 1070; omega, by show 18169 + 6 * j + 0 ≤ 26367; omega⟩) hP hD hS hA [0, 1, 2, 3, 4, 5, 6, 14, 15, 7, 8, 9, 10, 11, 12, 13, 19, 20, 21] rfl (by unfold lw_W; simp only [qxa2, qxa5, qxa6, qxa8, qxa9, qxa11, qxa12, qxa13, qxa15, qxa17, qxa20, qxa22, qxa24, qxa26, qxa28, qxi0, qxi1, qxi2, qxi3, qxi4, qxi5, qxi6, qxi7, qxi8, qxi9, qxi10, qxi11, qxl]; rfl) rfl (by decide) (fun H locs hP hD hS => ?_)
  refine lv_pop hx hb dL_law_337 rfl ?_
  refine lv_aload_n hx hb dL_law_338 rfl (lv_at hl 2 rfl) ?_
  refine lv_aload_n hx hb dL_law_339 rfl (lv_at hl 4 rfl) ?_
  refine lv_iload hx hb dL_law_340 (lv_at hl 0 rfl) ?_
  refine lv_iconst (v := 1) hx hb dL_law_342 (by decide) ?_
  refine lv_iadd hx hb dL_law_343 ?_
  refine q_top (y := nI (6 * j + 1)) (nI_add (6 * j) 1) ?_
  refine va_sld hx hb hX hbl hbA hS (i := (nI (6 * j + 1))) (vp_in_nI (by omega) (by omega)) dL_law_344 ?_
  refine q_top (y := z 1) (by rw [nI_clamp (by omega), hz]) ?_
  have qya1 : p2.2.1 1 = y.1 1 := by rw [← hp2]; try rfl
  have qya2 : p2.2.1 2 = o2.2.2.2.2.2.2.2.2.2.1 := by rw [← hp2]; try rfl
  have qya3 : p2.2.1 3 = o2.2.2.2.2.2.2.2.2.2.2.1 := by rw [← hp2]; try rfl
  have qya4 : p2.2.1 4 = o2.2.2.2.2.2.2.2.2.2.2.2.1 := by rw [← hp2]; try rfl
  have qya5 : p2.2.1 5 = o2.2.2.2.2.2.2.2.2.2.2.2.2.1 := by rw [← hp2]; try rfl
  have qya6 : p2.2.1 6 = o2.2.2.2.2.2.2.2.2.2.2.2.2.2.1 := by rw [← hp2]; try rfl
  have qya7 : p2.2.1 7 = o2.2.2.2.2.2.2.2.2.2.2.2.2.2.2.1 := by rw [← hp2]; try rfl
  have qya8 : p2.2.1 8 = o2.2.2.2.2.2.2.2.2.2.2.2.2.2.2.2 := by rw [← hp2]; try rfl
  have qya9 : p2.2.1 9 = y.1 9 := by rw [← hp2]; try rfl
  have qya10 : p2.2.1 10 = y.1 10 := by rw [← hp2]; try rfl
  have qya11 : p2.2.1 11 = y.1 11 := by rw [← hp2]; try rfl
  have qya12 : p2.2.1 12 = y.1 12 := by rw [← hp2]; try rfl
  have qya13 : p2.2.1 13 = y.1 13 := by rw [← hp2]; try rfl
  have qya14 : p2.2.1 14 = y.1 14 := by rw [← hp2]; try rfl
  have qyi0 : p2.2.2.1 0 = y.2.1 0 := by rw [← hp2]; try rfl
  have qyi1 : p2.2.2.1 1 = o2.2.1 := by rw [← hp2]; try rfl
  have qyi2 : p2.2.2.1 2 = o2.2.2.1 := by rw [← hp2]; try rfl
  have qyi3 : p2.2.2.1 3 = o2.2.2.2.1 := by rw [← hp2]; try rfl
  have qyi4 : p2.2.2.1 4 = o2.2.2.2.2.1 := by rw [← hp2]; try rfl
  have qyi5 : p2.2.2.1 5 = o2.2.2.2.2.2.1 := by rw [← hp2]; try rfl
  have qyi6 : p2.2.2.1 6 = o2.2.2.2.2.2.2.1 := by rw [← hp2]; try rfl
  have qyi7 : p2.2.2.1 7 = o2.2.2.2.2.2.2.2.1 := by rw [← hp2]; try rfl
  have qyi8 : p2.2.2.1 8 = o2.2.2.2.2.2.2.2.2.1 := by rw [← hp2]; try rfl
  have qyl : p2.2.2.2 = y.2.2 := by rw [← hp2]; try rfl
  refine q_goi5 (v := o2.1) (lw_W a k bm km q3 k3 p1.2 p2.2 fo) [none, none, none, none, none, none, none, none, none, none, none, none, none, none, none, none, none, none, none, none, none, none, none, none, none, none, none, none, none, some 0, some 1, some 2, some 3, some 4, some 5, some 6, some 7, some 8, none, none, none, none, none, none, none] (va_runV (As := [.int (z 1)]) (rest := []) ⟨hx, hb, hml, hown, hts⟩ (c_X10_text l dC dI bm km (y.2.1 0) (y.2.1 1) (y.2.1 2) (y.2.1 3) (y.2.1 4) (y.2.1 5) (y.2.1 6) (y.2.1 7) (y.2.1 8) (y.2.2) (y.1 1) (y.1 2) (y.1 3) (y.1 4) (y.1 5) (y.1 6) (y.1 7) (y.1 8) (z 1) (va_A [((bm 0), .inr (10, [.int (y.2.1 0), .ref (bm 1), .int (y.2.1 1), .int (y.2.1 2), .int (y.2.1 3), .ref (bm 2), .ref (bm 3), .int (y.2.1 4), .ref (bm 4), .ref (bm 5), .int (y.2.1 5), .ref (bm 6), .ref (bm 7), .int (y.2.1 6), .ref (bm 8), .ref (bm 9), .ref (bm 10), .int (y.2.1 7), .long (y.2.2), .ref (bm 11), .ref (bm 12), .ref (bm 13), .ref (bm 14), .int (y.2.1 8)])), ((bm 1), .inl ((km 1), 240, .inl (y.1 1))), ((bm 2), .inl ((km 2), 8, .inl (y.1 2))), ((bm 3), .inl ((km 3), 48, .inl (y.1 3))), ((bm 4), .inl ((km 4), 8, .inl (y.1 4))), ((bm 5), .inl ((km 5), 48, .inl (y.1 5))), ((bm 6), .inl ((km 6), 320, .inl (y.1 6))), ((bm 7), .inl ((km 7), 5, .inl (y.1 7))), ((bm 8), .inl ((km 8), 279, .inl (y.1 8)))] H.size) o2 hF2) (cwV 1 hts (q_lV m_424 m_425 m_426 m_5 m_427) rfl rfl rfl hdV_yX10_text_1 ⟨Nat.le_of_ble_eq_true rfl, Nat.le_of_ble_eq_true rfl⟩) (q_preWV hK hP hD (q := (RX10, TX10, 24)) (ci := 10) (q0 := 29) rfl rfl [29, 30, 31, 32, 33, 34, 35, 36, 37] (by decide) rfl rfl [15, 16, 17, 18, 19, 20, 21, 22] rfl) rfl rfl hl.1 rfl (lv_room (Nat.le_of_ble_eq_true rfl)) dL_law_345 ⟨by show 45 + j + 0 ≤ 1070; omega, by show 18169 + 6 * j + 0 ≤ 26367; omega⟩) hP hD hS hA [29, 30, 31, 32, 33, 34, 35, 36, 37] rfl (by unfold lw_W; simp only [qya1, qya2, qya3, qya4, qya5, qya6, qya7, qya8, qya9, qya10, qya11, qya12, qya13, qya14, qyi0, qyi1, qyi2, qyi3, qyi4, qyi5, qyi6, qyi7, qyi8, qyl]; rfl) rfl (by decide) (fun H locs hP hD hS => ?_)
  refine lv_pop hx hb dL_law_348 rfl ?_
  refine lv_goto (tgt := 1344) hx hb dL_law_349 (by decide) ?_
  refine W.widen (k := 45 + j + 1) (n := 18169 + 6 * j + 6) (by omega) (by omega) ?_
  exact kont _ H locs ls hP hD hS (lv_sub hl [0, 1, 2, 3, 4] rfl)
