theorem dL_law_1268 : decode cL_law 1268 = .ok (.aload_n 1, 1) := q_o43 (by decide +kernel)
theorem dL_law_1269 : decode cL_law 1269 = .ok (.aload_n 0, 1) := q_o42 (by decide +kernel)
theorem dL_law_1270 : decode cL_law 1270 = .ok (.iload 4, 2) := q_o21 (a := 4) (by decide +kernel)
theorem dL_law_1272 : decode cL_law 1272 = .ok (.iconst 1, 1) := q_o4 (by decide +kernel)
theorem dL_law_1273 : decode cL_law 1273 = .ok (.iadd, 1) := q_o96 (by decide +kernel)
theorem dL_law_1274 : decode cL_law 1274 = .ok (.iaload, 1) := q_o46 (by decide +kernel)
theorem dL_law_1275 : decode cL_law 1275 = .ok (.invokevirtual 161, 3) := q_o182 (a := 0) (b := 161) (by decide +kernel)
theorem dL_law_1278 : decode cL_law 1278 = .ok (.pop, 1) := q_o87 (by decide +kernel)
theorem dL_law_1279 : decode cL_law 1279 = .ok (.aload_n 2, 1) := q_o44 (by decide +kernel)
theorem dL_law_1280 : decode cL_law 1280 = .ok (.aload_n 0, 1) := q_o42 (by decide +kernel)
theorem dL_law_1281 : decode cL_law 1281 = .ok (.iload 4, 2) := q_o21 (a := 4) (by decide +kernel)
theorem dL_law_1283 : decode cL_law 1283 = .ok (.iconst 1, 1) := q_o4 (by decide +kernel)
theorem dL_law_1284 : decode cL_law 1284 = .ok (.iadd, 1) := q_o96 (by decide +kernel)
theorem dL_law_1285 : decode cL_law 1285 = .ok (.iaload, 1) := q_o46 (by decide +kernel)
theorem dL_law_1286 : decode cL_law 1286 = .ok (.invokevirtual 164, 3) := q_o182 (a := 0) (b := 164) (by decide +kernel)
theorem dL_law_1289 : decode cL_law 1289 = .ok (.pop, 1) := q_o87 (by decide +kernel)
theorem dL_law_1290 : decode cL_law 1290 = .ok (.goto 54, 3) := q_o167 (a := 0) (b := 54) (by decide +kernel) rfl
theorem dL_law_1293 : decode cL_law 1293 = .ok (.aload_n 1, 1) := q_o43 (by decide +kernel)
theorem dL_law_1294 : decode cL_law 1294 = .ok (.invokevirtual 165, 3) := q_o182 (a := 0) (b := 165) (by decide +kernel)
theorem dL_law_1297 : decode cL_law 1297 = .ok (.pop, 1) := q_o87 (by decide +kernel)
theorem dL_law_1298 : decode cL_law 1298 = .ok (.aload_n 2, 1) := q_o44 (by decide +kernel)
theorem dL_law_1299 : decode cL_law 1299 = .ok (.invokevirtual 168, 3) := q_o182 (a := 0) (b := 168) (by decide +kernel)
theorem dL_law_1302 : decode cL_law 1302 = .ok (.pop, 1) := q_o87 (by decide +kernel)
theorem dL_law_1303 : decode cL_law 1303 = .ok (.goto 41, 3) := q_o167 (a := 0) (b := 41) (by decide +kernel) rfl
theorem dL_law_1306 : decode cL_law 1306 = .ok (.aload_n 1, 1) := q_o43 (by decide +kernel)
theorem dL_law_1307 : decode cL_law 1307 = .ok (.invokevirtual 169, 3) := q_o182 (a := 0) (b := 169) (by decide +kernel)
theorem dL_law_1310 : decode cL_law 1310 = .ok (.pop, 1) := q_o87 (by decide +kernel)
theorem dL_law_1311 : decode cL_law 1311 = .ok (.aload_n 2, 1) := q_o44 (by decide +kernel)
theorem dL_law_1312 : decode cL_law 1312 = .ok (.invokevirtual 172, 3) := q_o182 (a := 0) (b := 172) (by decide +kernel)
theorem dL_law_1315 : decode cL_law 1315 = .ok (.pop, 1) := q_o87 (by decide +kernel)
theorem dL_law_1316 : decode cL_law 1316 = .ok (.goto 28, 3) := q_o167 (a := 0) (b := 28) (by decide +kernel) rfl
theorem dL_law_1319 : decode cL_law 1319 = .ok (.aload_n 1, 1) := q_o43 (by decide +kernel)
theorem dL_law_1320 : decode cL_law 1320 = .ok (.aload_n 0, 1) := q_o42 (by decide +kernel)
theorem dL_law_1321 : decode cL_law 1321 = .ok (.iload 4, 2) := q_o21 (a := 4) (by decide +kernel)
theorem dL_law_1323 : decode cL_law 1323 = .ok (.iconst 1, 1) := q_o4 (by decide +kernel)
theorem dL_law_1324 : decode cL_law 1324 = .ok (.iadd, 1) := q_o96 (by decide +kernel)
theorem dL_law_1325 : decode cL_law 1325 = .ok (.iaload, 1) := q_o46 (by decide +kernel)
theorem dL_law_1326 : decode cL_law 1326 = .ok (.invokevirtual 173, 3) := q_o182 (a := 0) (b := 173) (by decide +kernel)
theorem dL_law_1329 : decode cL_law 1329 = .ok (.pop, 1) := q_o87 (by decide +kernel)
theorem dL_law_1330 : decode cL_law 1330 = .ok (.aload_n 2, 1) := q_o44 (by decide +kernel)
theorem dL_law_1331 : decode cL_law 1331 = .ok (.aload_n 0, 1) := q_o42 (by decide +kernel)
theorem dL_law_1332 : decode cL_law 1332 = .ok (.iload 4, 2) := q_o21 (a := 4) (by decide +kernel)
theorem dL_law_1334 : decode cL_law 1334 = .ok (.iconst 1, 1) := q_o4 (by decide +kernel)
theorem dL_law_1335 : decode cL_law 1335 = .ok (.iadd, 1) := q_o96 (by decide +kernel)
theorem dL_law_1336 : decode cL_law 1336 = .ok (.iaload, 1) := q_o46 (by decide +kernel)
theorem dL_law_1337 : decode cL_law 1337 = .ok (.invokevirtual 176, 3) := q_o182 (a := 0) (b := 176) (by decide +kernel)
theorem dL_law_1340 : decode cL_law 1340 = .ok (.pop, 1) := q_o87 (by decide +kernel)
theorem dL_law_1341 : decode cL_law 1341 = .ok (.goto 3, 3) := q_o167 (a := 0) (b := 3) (by decide +kernel) rfl
theorem hdV_yX10_all_1 : yX10_all.cls = RX10 ∧ yX10_all.cls ≠ "java/lang/invoke/MethodHandle" ∧ yX10_all.cls ≠ "java/lang/invoke/VarHandle" ∧ (parseMethodDescriptor yX10_all.desc).map (fun d => d.parameters.length) = some 1 := by decide +kernel
theorem hdV_yX10_back_0 : yX10_back.cls = RX10 ∧ yX10_back.cls ≠ "java/lang/invoke/MethodHandle" ∧ yX10_back.cls ≠ "java/lang/invoke/VarHandle" ∧ (parseMethodDescriptor yX10_back.desc).map (fun d => d.parameters.length) = some 0 := by decide +kernel
theorem hdV_yX10_count_1 : yX10_count.cls = RX10 ∧ yX10_count.cls ≠ "java/lang/invoke/MethodHandle" ∧ yX10_count.cls ≠ "java/lang/invoke/VarHandle" ∧ (parseMethodDescriptor yX10_count.desc).map (fun d => d.parameters.length) = some 1 := by decide +kernel
theorem hdV_yX10_image_0 : yX10_image.cls = RX10 ∧ yX10_image.cls ≠ "java/lang/invoke/MethodHandle" ∧ yX10_image.cls ≠ "java/lang/invoke/VarHandle" ∧ (parseMethodDescriptor yX10_image.desc).map (fun d => d.parameters.length) = some 0 := by decide +kernel
theorem hdV_yX9_all_1 : yX9_all.cls = RX9 ∧ yX9_all.cls ≠ "java/lang/invoke/MethodHandle" ∧ yX9_all.cls ≠ "java/lang/invoke/VarHandle" ∧ (parseMethodDescriptor yX9_all.desc).map (fun d => d.parameters.length) = some 1 := by decide +kernel
theorem hdV_yX9_back_0 : yX9_back.cls = RX9 ∧ yX9_back.cls ≠ "java/lang/invoke/MethodHandle" ∧ yX9_back.cls ≠ "java/lang/invoke/VarHandle" ∧ (parseMethodDescriptor yX9_back.desc).map (fun d => d.parameters.length) = some 0 := by decide +kernel
theorem hdV_yX9_count_1 : yX9_count.cls = RX9 ∧ yX9_count.cls ≠ "java/lang/invoke/MethodHandle" ∧ yX9_count.cls ≠ "java/lang/invoke/VarHandle" ∧ (parseMethodDescriptor yX9_count.desc).map (fun d => d.parameters.length) = some 1 := by decide +kernel
theorem hdV_yX9_image_0 : yX9_image.cls = RX9 ∧ yX9_image.cls ≠ "java/lang/invoke/MethodHandle" ∧ yX9_image.cls ≠ "java/lang/invoke/VarHandle" ∧ (parseMethodDescriptor yX9_image.desc).map (fun d => d.parameters.length) = some 0 := by decide +kernel
set_option maxHeartbeats 4000000 in
set_option maxRecDepth 100000 in
theorem lw_case_33 {p : Program} {l : Launch} {e : Env} {s : State} {m : MethodId} {below : List Frame} {meth : Method} {c : Code} {dC : Nat → ClassId} {dI : Nat → Nat → Nat} {b L : Nat} {xs : Nat → Int32} (C0 : lw_At p s m meth c b L xs) (ts ks kv : Nat → Nat) (sa : Nat) (hE : q_S ts ks kv (fun q : Nat => s.heap.size ≤ q) s) (hEX : q_X sa s) (hlt : l.stackTraces = false) {a : Nat → Nat} {k : Nat → ClassId} {bm : Nat → Nat} {km : Nat → ClassId} {q3 : Nat} {k3 : ClassId} {j : Nat} (hj : 6 * j + 6 ≤ L) (hL : L ≤ 3072) {z : Nat → Int32} (hz : ∀ q, z q = xs (6 * j + q)) {x y : XS} {p1 p2 : Int32 × XS} (h1 : SX_33 x z = some p1) (h2 : SY_33 y z = some p2) {fo : Nat → Int64} {H : Heap} {locs : List Loc} {ls : Array Slot} (hK : va_K (dC, dI) vwCl (lw_T k km k3) s) (hP : va_P (dC, dI) vwCl (lw_W a k bm km q3 k3 x y fo) H) (hD : va_D (fun q : Nat => s.heap.size ≤ q) (lw_W a k bm km q3 k3 x y fo)) (hS : va_S (fun q : Nat => s.heap.size ≤ q) s.heap H locs) (hl : lv_has ls 7 [(4, .int (nI (6 * j))), (3, .ref q3), (2, .ref (bm 0)), (1, .ref (a 0)), (0, .ref b)]) (kont : ∀ (fo : Nat → Int64) (H : Heap) (locs : List Loc) (ls : Array Slot), va_P (dC, dI) vwCl (lw_W a k bm km q3 k3 p1.2 p2.2 fo) H → va_D (fun q : Nat => s.heap.size ≤ q) (lw_W a k bm km q3 k3 p1.2 p2.2 fo) → va_S (fun q : Nat => s.heap.size ≤ q) s.heap H locs → lv_has ls 7 [(4, .int (nI (6 * j))), (3, .ref q3), (2, .ref (bm 0)), (1, .ref (a 0)), (0, .ref b)] → W p l e room_1 s m #[Value.ref b] below meth c H locs (45 + j + 1) (18169 + 6 * j + 6) (lw_Z below #[Value.ref b] s) (F0 m 1344 ls [])) : W p l e room_1 s m #[Value.ref b] below meth c H locs (45 + j) (18169 + 6 * j) (lw_Z below #[Value.ref b] s) (F0 m 1268 ls []) := by
  obtain ⟨hx, hb, hr, hml, hown, hts, hX, hbl, hlocks, hgv⟩ := C0
  have hown : s.vm.findClass RL = some m.cls := hown
  have hA : ∀ q : Nat, s.heap.size ≤ q → (fun q : Nat => s.heap.size ≤ q) q := fun _ h => h
  have hbA : ¬ (fun q : Nat => s.heap.size ≤ q) b := Nat.not_le.mpr hbl
  unfold SX_33 at h1
  unfold SY_33 at h2
  obtain ⟨o1, hF1, h1⟩ := q_bi h1
  have hp1 := Option.some.inj h1
  obtain ⟨o2, hF2, h2⟩ := q_bi h2
  have hp2 := Option.some.inj h2
  refine lv_aload_n hx hb dL_law_1268 rfl (lv_at hl 3 rfl) ?_
  refine lv_aload_n hx hb dL_law_1269 rfl (lv_at hl 4 rfl) ?_
  refine lv_iload hx hb dL_law_1270 (lv_at hl 0 rfl) ?_
  refine lv_iconst (v := 1) hx hb dL_law_1272 (by decide) ?_
  refine lv_iadd hx hb dL_law_1273 ?_
  refine q_top (y := nI (6 * j + 1)) (nI_add (6 * j) 1) ?_
  refine va_sld hx hb hX hbl hbA hS (i := (nI (6 * j + 1))) (vp_in_nI (by omega) (by omega)) dL_law_1274 ?_
  refine q_top (y := z 1) (by rw [nI_clamp (by omega), hz]) ?_
  refine q_goi (v := o1) (va_runV (As := [.int (z 1)]) (rest := []) ⟨hx, hb, hml, hown, hts⟩ (c_X9_all l dC dI a k (x.2.1 4) (x.2.1 11) (x.1 8) (x.1 9) (x.1 15) (z 1) o1 hF1) (cwV 1 hts (q_lV m_1345 m_1346 m_1347 m_2 m_1348) rfl rfl rfl hdV_yX9_all_1 ⟨Nat.le_of_ble_eq_true rfl, Nat.le_of_ble_eq_true rfl⟩) (q_preV hK hP (q := (RX9, TX9, 15)) (ci := 9) (q0 := 0) rfl rfl [0, 14, 15, 7, 8, 9] rfl [8, 3, 4] rfl) rfl rfl hl.1 rfl (lv_room (Nat.le_of_ble_eq_true rfl)) dL_law_1275 ⟨by show 45 + j + 0 ≤ 1070; omega, by show 18169 + 6 * j + 0 ≤ 26367; omega⟩) hP hS (fun H locs hP hS => ?_)
  have hP : va_P (dC, dI) vwCl (lw_W a k bm km q3 k3 p1.2 y fo) H := by rw [← hp1]; exact hP
  have hD : va_D (fun q : Nat => s.heap.size ≤ q) (lw_W a k bm km q3 k3 p1.2 y fo) := by rw [← hp1]; exact hD
  refine lv_pop hx hb dL_law_1278 rfl ?_
  refine lv_aload_n hx hb dL_law_1279 rfl (lv_at hl 2 rfl) ?_
  refine lv_aload_n hx hb dL_law_1280 rfl (lv_at hl 4 rfl) ?_
  refine lv_iload hx hb dL_law_1281 (lv_at hl 0 rfl) ?_
  refine lv_iconst (v := 1) hx hb dL_law_1283 (by decide) ?_
  refine lv_iadd hx hb dL_law_1284 ?_
  refine q_top (y := nI (6 * j + 1)) (nI_add (6 * j) 1) ?_
  refine va_sld hx hb hX hbl hbA hS (i := (nI (6 * j + 1))) (vp_in_nI (by omega) (by omega)) dL_law_1285 ?_
  refine q_top (y := z 1) (by rw [nI_clamp (by omega), hz]) ?_
  have qya1 : p2.2.1 1 = y.1 1 := by rw [← hp2]; try rfl
  have qya2 : p2.2.1 2 = y.1 2 := by rw [← hp2]; try rfl
  have qya3 : p2.2.1 3 = y.1 3 := by rw [← hp2]; try rfl
  have qya4 : p2.2.1 4 = y.1 4 := by rw [← hp2]; try rfl
  have qya5 : p2.2.1 5 = y.1 5 := by rw [← hp2]; try rfl
  have qya6 : p2.2.1 6 = y.1 6 := by rw [← hp2]; try rfl
  have qya7 : p2.2.1 7 = y.1 7 := by rw [← hp2]; try rfl
  have qya8 : p2.2.1 8 = o2.2 := by rw [← hp2]; try rfl
  have qya9 : p2.2.1 9 = y.1 9 := by rw [← hp2]; try rfl
  have qya10 : p2.2.1 10 = y.1 10 := by rw [← hp2]; try rfl
  have qya11 : p2.2.1 11 = y.1 11 := by rw [← hp2]; try rfl
  have qya12 : p2.2.1 12 = y.1 12 := by rw [← hp2]; try rfl
  have qya13 : p2.2.1 13 = y.1 13 := by rw [← hp2]; try rfl
  have qya14 : p2.2.1 14 = y.1 14 := by rw [← hp2]; try rfl
  have qyi0 : p2.2.2.1 0 = y.2.1 0 := by rw [← hp2]; try rfl
  have qyi1 : p2.2.2.1 1 = y.2.1 1 := by rw [← hp2]; try rfl
  have qyi2 : p2.2.2.1 2 = y.2.1 2 := by rw [← hp2]; try rfl
  have qyi3 : p2.2.2.1 3 = y.2.1 3 := by rw [← hp2]; try rfl
  have qyi4 : p2.2.2.1 4 = y.2.1 4 := by rw [← hp2]; try rfl
  have qyi5 : p2.2.2.1 5 = y.2.1 5 := by rw [← hp2]; try rfl
  have qyi6 : p2.2.2.1 6 = y.2.1 6 := by rw [← hp2]; try rfl
  have qyi7 : p2.2.2.1 7 = y.2.1 7 := by rw [← hp2]; try rfl
  have qyi8 : p2.2.2.1 8 = y.2.1 8 := by rw [← hp2]; try rfl
  have qyl : p2.2.2.2 = y.2.2 := by rw [← hp2]; try rfl
  refine q_goi5 (v := o2.1) (lw_W a k bm km q3 k3 p1.2 p2.2 fo) [none, none, none, none, none, none, none, none, none, none, none, none, none, none, none, none, none, none, none, none, none, none, none, none, none, none, none, none, none, some 0, none, none, none, some 1, some 2, none, none, some 3, none, none, none, none, none, none, none] (va_runV (As := [.int (z 1)]) (rest := []) ⟨hx, hb, hml, hown, hts⟩ (c_X10_all l dC dI bm km (y.2.1 0) (y.2.1 1) (y.2.1 2) (y.2.1 3) (y.2.1 4) (y.2.1 5) (y.2.1 6) (y.2.1 7) (y.2.1 8) (y.2.2) (y.1 4) (y.1 5) (y.1 8) (z 1) (va_A [((bm 0), .inr (10, [.int (y.2.1 0), .ref (bm 1), .int (y.2.1 1), .int (y.2.1 2), .int (y.2.1 3), .ref (bm 2), .ref (bm 3), .int (y.2.1 4), .ref (bm 4), .ref (bm 5), .int (y.2.1 5), .ref (bm 6), .ref (bm 7), .int (y.2.1 6), .ref (bm 8), .ref (bm 9), .ref (bm 10), .int (y.2.1 7), .long (y.2.2), .ref (bm 11), .ref (bm 12), .ref (bm 13), .ref (bm 14), .int (y.2.1 8)])), ((bm 4), .inl ((km 4), 8, .inl (y.1 4))), ((bm 5), .inl ((km 5), 48, .inl (y.1 5))), ((bm 8), .inl ((km 8), 279, .inl (y.1 8)))] H.size) o2 hF2) (cwV 1 hts (q_lV m_1373 m_1374 m_1375 m_5 m_1376) rfl rfl rfl hdV_yX10_all_1 ⟨Nat.le_of_ble_eq_true rfl, Nat.le_of_ble_eq_true rfl⟩) (q_preWV hK hP hD (q := (RX10, TX10, 24)) (ci := 10) (q0 := 29) rfl rfl [29, 33, 34, 37] (by decide) rfl rfl [18, 19, 22] rfl) rfl rfl hl.1 rfl (lv_room (Nat.le_of_ble_eq_true rfl)) dL_law_1286 ⟨by show 45 + j + 0 ≤ 1070; omega, by show 18169 + 6 * j + 0 ≤ 26367; omega⟩) hP hD hS hA [29, 33, 34, 37] rfl (by unfold lw_W; simp only [qya1, qya2, qya3, qya4, qya5, qya6, qya7, qya8, qya9, qya10, qya11, qya12, qya13, qya14, qyi0, qyi1, qyi2, qyi3, qyi4, qyi5, qyi6, qyi7, qyi8, qyl]; rfl) rfl (by decide) (fun H locs hP hD hS => ?_)
  refine lv_pop hx hb dL_law_1289 rfl ?_
  refine lv_goto (tgt := 1344) hx hb dL_law_1290 (by decide) ?_
  refine W.widen (k := 45 + j + 1) (n := 18169 + 6 * j + 6) (by omega) (by omega) ?_
  exact kont _ H locs ls hP hD hS (lv_sub hl [0, 1, 2, 3, 4] rfl)

set_option maxHeartbeats 4000000 in
set_option maxRecDepth 100000 in
theorem lw_case_34 {p : Program} {l : Launch} {e : Env} {s : State} {m : MethodId} {below : List Frame} {meth : Method} {c : Code} {dC : Nat → ClassId} {dI : Nat → Nat → Nat} {b L : Nat} {xs : Nat → Int32} (C0 : lw_At p s m meth c b L xs) (ts ks kv : Nat → Nat) (sa : Nat) (hE : q_S ts ks kv (fun q : Nat => s.heap.size ≤ q) s) (hEX : q_X sa s) (hlt : l.stackTraces = false) {a : Nat → Nat} {k : Nat → ClassId} {bm : Nat → Nat} {km : Nat → ClassId} {q3 : Nat} {k3 : ClassId} {j : Nat} (hj : 6 * j + 6 ≤ L) (hL : L ≤ 3072) {z : Nat → Int32} (hz : ∀ q, z q = xs (6 * j + q)) {x y : XS} {p1 p2 : Int32 × XS} (h1 : SX_34 x z = some p1) (h2 : SY_34 y z = some p2) {fo : Nat → Int64} {H : Heap} {locs : List Loc} {ls : Array Slot} (hK : va_K (dC, dI) vwCl (lw_T k km k3) s) (hP : va_P (dC, dI) vwCl (lw_W a k bm km q3 k3 x y fo) H) (hD : va_D (fun q : Nat => s.heap.size ≤ q) (lw_W a k bm km q3 k3 x y fo)) (hS : va_S (fun q : Nat => s.heap.size ≤ q) s.heap H locs) (hl : lv_has ls 7 [(4, .int (nI (6 * j))), (3, .ref q3), (2, .ref (bm 0)), (1, .ref (a 0)), (0, .ref b)]) (kont : ∀ (fo : Nat → Int64) (H : Heap) (locs : List Loc) (ls : Array Slot), va_P (dC, dI) vwCl (lw_W a k bm km q3 k3 p1.2 p2.2 fo) H → va_D (fun q : Nat => s.heap.size ≤ q) (lw_W a k bm km q3 k3 p1.2 p2.2 fo) → va_S (fun q : Nat => s.heap.size ≤ q) s.heap H locs → lv_has ls 7 [(4, .int (nI (6 * j))), (3, .ref q3), (2, .ref (bm 0)), (1, .ref (a 0)), (0, .ref b)] → W p l e room_1 s m #[Value.ref b] below meth c H locs (45 + j + 1) (18169 + 6 * j + 6) (lw_Z below #[Value.ref b] s) (F0 m 1344 ls [])) : W p l e room_1 s m #[Value.ref b] below meth c H locs (45 + j) (18169 + 6 * j) (lw_Z below #[Value.ref b] s) (F0 m 1293 ls []) := by
  obtain ⟨hx, hb, hr, hml, hown, hts, hX, hbl, hlocks, hgv⟩ := C0
  have hown : s.vm.findClass RL = some m.cls := hown
  have hA : ∀ q : Nat, s.heap.size ≤ q → (fun q : Nat => s.heap.size ≤ q) q := fun _ h => h
  have hbA : ¬ (fun q : Nat => s.heap.size ≤ q) b := Nat.not_le.mpr hbl
  unfold SX_34 at h1
  unfold SY_34 at h2
  obtain ⟨o1, hF1, h1⟩ := q_bi h1
  have hp1 := Option.some.inj h1
  obtain ⟨o2, hF2, h2⟩ := q_bi h2
  have hp2 := Option.some.inj h2
  refine lv_aload_n hx hb dL_law_1293 rfl (lv_at hl 3 rfl) ?_
  have qxa2 : p1.2.1 2 = x.1 2 := by rw [← hp1]; try rfl
  have qxa5 : p1.2.1 5 = x.1 5 := by rw [← hp1]; try rfl
  have qxa6 : p1.2.1 6 = x.1 6 := by rw [← hp1]; try rfl
  have qxa8 : p1.2.1 8 = x.1 8 := by rw [← hp1]; try rfl
  have qxa9 : p1.2.1 9 = x.1 9 := by rw [← hp1]; try rfl
  have qxa11 : p1.2.1 11 = x.1 11 := by rw [← hp1]; try rfl
  have qxa12 : p1.2.1 12 = x.1 12 := by rw [← hp1]; try rfl
  have qxa13 : p1.2.1 13 = x.1 13 := by rw [← hp1]; try rfl
  have qxa15 : p1.2.1 15 = x.1 15 := by rw [← hp1]; try rfl
  have qxa17 : p1.2.1 17 = x.1 17 := by rw [← hp1]; try rfl
  have qxa20 : p1.2.1 20 = x.1 20 := by rw [← hp1]; try rfl
  have qxa22 : p1.2.1 22 = x.1 22 := by rw [← hp1]; try rfl
  have qxa24 : p1.2.1 24 = o1.2.2.2.1 := by rw [← hp1]; try rfl
  have qxa26 : p1.2.1 26 = o1.2.2.2.2 := by rw [← hp1]; try rfl
  have qxa28 : p1.2.1 28 = x.1 28 := by rw [← hp1]; try rfl
  have qxi0 : p1.2.2.1 0 = x.2.1 0 := by rw [← hp1]; try rfl
  have qxi1 : p1.2.2.1 1 = x.2.1 1 := by rw [← hp1]; try rfl
  have qxi2 : p1.2.2.1 2 = x.2.1 2 := by rw [← hp1]; try rfl
  have qxi3 : p1.2.2.1 3 = x.2.1 3 := by rw [← hp1]; try rfl
  have qxi4 : p1.2.2.1 4 = x.2.1 4 := by rw [← hp1]; try rfl
  have qxi5 : p1.2.2.1 5 = x.2.1 5 := by rw [← hp1]; try rfl
  have qxi6 : p1.2.2.1 6 = x.2.1 6 := by rw [← hp1]; try rfl
  have qxi7 : p1.2.2.1 7 = x.2.1 7 := by rw [← hp1]; try rfl
  have qxi8 : p1.2.2.1 8 = x.2.1 8 := by rw [← hp1]; try rfl
  have qxi9 : p1.2.2.1 9 = x.2.1 9 := by rw [← hp1]; try rfl
  have qxi10 : p1.2.2.1 10 = o1.2.1 := by rw [← hp1]; try rfl
  have qxi11 : p1.2.2.1 11 = o1.2.2.1 := by rw [← hp1]; try rfl
  have qxl : p1.2.2.2 = x.2.2 := by rw [← hp1]; try rfl
  refine q_goi5 (v := o1.1) (lw_W a k bm km q3 k3 p1.2 y fo) [some 0, none, none, none, none, none, none, some 3, some 4, some 5, none, none, none, none, some 1, some 2, none, none, none, none, none, some 6, some 7, some 8, some 9, some 10, some 11, none, none, none, none, none, none, none, none, none, none, none, none, none, none, none, none, none, none] (va_runV (As := []) (rest := []) ⟨hx, hb, hml, hown, hts⟩ (c_X9_image l dC dI a k (x.2.1 4) (x.2.1 9) (x.2.1 10) (x.2.1 11) (x.1 8) (x.1 9) (x.1 15) (x.1 22) (x.1 24) (x.1 26) (va_A [((a 0), .inr (9, [.ref (a 1), .ref (a 3), .ref (a 4), .ref (a 7), .ref (a 10), .ref (a 14), .ref (a 16), .ref (a 18), .ref (a 19), .ref (a 21), .ref (a 23), .ref (a 25), .ref (a 27), .ref (a 28), .int (x.2.1 11)])), ((a 14), .inr (0, [.ref (a 15), .ref (a 7)])), ((a 15), .inl ((k 15), 98, .inl (x.1 15))), ((a 7), .inr (5, [.ref (a 8), .ref (a 9), .int (x.2.1 4)])), ((a 8), .inl ((k 8), 8, .inl (x.1 8))), ((a 9), .inl ((k 9), 48, .inl (x.1 9))), ((a 21), .inr (1, [.ref (a 22), .int (x.2.1 9)])), ((a 22), .inl ((k 22), 300, .inl (x.1 22))), ((a 23), .inr (0, [.ref (a 24), .ref (a 7)])), ((a 24), .inl ((k 24), 98, .inl (x.1 24))), ((a 25), .inr (1, [.ref (a 26), .int (x.2.1 10)])), ((a 26), .inl ((k 26), 300, .inl (x.1 26)))] H.size) o1 hF1) (cwV 0 hts (q_lV m_1394 m_1395 m_1396 m_2 m_1397) rfl rfl rfl hdV_yX9_image_0 ⟨Nat.le_of_ble_eq_true rfl, Nat.le_of_ble_eq_true rfl⟩) (q_preWV hK hP hD (q := (RX9, TX9, 15)) (ci := 9) (q0 := 0) rfl rfl [0, 14, 15, 7, 8, 9, 21, 22, 23, 24, 25, 26] (by decide) rfl rfl [8, 3, 4, 11, 12, 13] rfl) rfl rfl hl.1 rfl (lv_room (Nat.le_of_ble_eq_true rfl)) dL_law_1294 ⟨by show 45 + j + 0 ≤ 1070; omega, by show 18169 + 6 * j + 0 ≤ 26367; omega⟩) hP hD hS hA [0, 14, 15, 7, 8, 9, 21, 22, 23, 24, 25, 26] rfl (by unfold lw_W; simp only [qxa2, qxa5, qxa6, qxa8, qxa9, qxa11, qxa12, qxa13, qxa15, qxa17, qxa20, qxa22, qxa24, qxa26, qxa28, qxi0, qxi1, qxi2, qxi3, qxi4, qxi5, qxi6, qxi7, qxi8, qxi9, qxi10, qxi11, qxl]; rfl) rfl (by decide) (fun H locs hP hD hS => ?_)
  refine lv_pop hx hb dL_law_1297 rfl ?_
  refine lv_aload_n hx hb dL_law_1298 rfl (lv_at hl 2 rfl) ?_
  have qya1 : p2.2.1 1 = y.1 1 := by rw [← hp2]; try rfl
  have qya2 : p2.2.1 2 = y.1 2 := by rw [← hp2]; try rfl
  have qya3 : p2.2.1 3 = y.1 3 := by rw [← hp2]; try rfl
  have qya4 : p2.2.1 4 = y.1 4 := by rw [← hp2]; try rfl
  have qya5 : p2.2.1 5 = y.1 5 := by rw [← hp2]; try rfl
  have qya6 : p2.2.1 6 = y.1 6 := by rw [← hp2]; try rfl
  have qya7 : p2.2.1 7 = y.1 7 := by rw [← hp2]; try rfl
  have qya8 : p2.2.1 8 = y.1 8 := by rw [← hp2]; try rfl
  have qya9 : p2.2.1 9 = y.1 9 := by rw [← hp2]; try rfl
  have qya10 : p2.2.1 10 = y.1 10 := by rw [← hp2]; try rfl
  have qya11 : p2.2.1 11 = y.1 11 := by rw [← hp2]; try rfl
  have qya12 : p2.2.1 12 = y.1 12 := by rw [← hp2]; try rfl
  have qya13 : p2.2.1 13 = y.1 13 := by rw [← hp2]; try rfl
  have qya14 : p2.2.1 14 = o2.2.2 := by rw [← hp2]; try rfl
  have qyi0 : p2.2.2.1 0 = y.2.1 0 := by rw [← hp2]; try rfl
  have qyi1 : p2.2.2.1 1 = y.2.1 1 := by rw [← hp2]; try rfl
  have qyi2 : p2.2.2.1 2 = y.2.1 2 := by rw [← hp2]; try rfl
  have qyi3 : p2.2.2.1 3 = y.2.1 3 := by rw [← hp2]; try rfl
  have qyi4 : p2.2.2.1 4 = y.2.1 4 := by rw [← hp2]; try rfl
  have qyi5 : p2.2.2.1 5 = y.2.1 5 := by rw [← hp2]; try rfl
  have qyi6 : p2.2.2.1 6 = y.2.1 6 := by rw [← hp2]; try rfl
  have qyi7 : p2.2.2.1 7 = y.2.1 7 := by rw [← hp2]; try rfl
  have qyi8 : p2.2.2.1 8 = o2.2.1 := by rw [← hp2]; try rfl
  have qyl : p2.2.2.2 = y.2.2 := by rw [← hp2]; try rfl
  refine q_goi5 (v := o2.1) (lw_W a k bm km q3 k3 p1.2 p2.2 fo) [none, none, none, none, none, none, none, none, none, none, none, none, none, none, none, none, none, none, none, none, none, none, none, none, none, none, none, none, none, some 0, none, none, none, none, none, none, none, some 1, none, none, none, none, none, some 2, none] (va_runV (As := []) (rest := []) ⟨hx, hb, hml, hown, hts⟩ (c_X10_image l dC dI bm km (y.2.1 0) (y.2.1 1) (y.2.1 2) (y.2.1 3) (y.2.1 4) (y.2.1 5) (y.2.1 6) (y.2.1 7) (y.2.1 8) (y.2.2) (y.1 8) (y.1 14) (va_A [((bm 0), .inr (10, [.int (y.2.1 0), .ref (bm 1), .int (y.2.1 1), .int (y.2.1 2), .int (y.2.1 3), .ref (bm 2), .ref (bm 3), .int (y.2.1 4), .ref (bm 4), .ref (bm 5), .int (y.2.1 5), .ref (bm 6), .ref (bm 7), .int (y.2.1 6), .ref (bm 8), .ref (bm 9), .ref (bm 10), .int (y.2.1 7), .long (y.2.2), .ref (bm 11), .ref (bm 12), .ref (bm 13), .ref (bm 14), .int (y.2.1 8)])), ((bm 8), .inl ((km 8), 279, .inl (y.1 8))), ((bm 14), .inl ((km 14), 279, .inl (y.1 14)))] H.size) o2 hF2) (cwV 0 hts (q_lV m_1403 m_1404 m_1405 m_5 m_1406) rfl rfl rfl hdV_yX10_image_0 ⟨Nat.le_of_ble_eq_true rfl, Nat.le_of_ble_eq_true rfl⟩) (q_preWV hK hP hD (q := (RX10, TX10, 24)) (ci := 10) (q0 := 29) rfl rfl [29, 37, 43] (by decide) rfl rfl [22, 28] rfl) rfl rfl hl.1 rfl (lv_room (Nat.le_of_ble_eq_true rfl)) dL_law_1299 ⟨by show 45 + j + 0 ≤ 1070; omega, by show 18169 + 6 * j + 0 ≤ 26367; omega⟩) hP hD hS hA [29, 37, 43] rfl (by unfold lw_W; simp only [qya1, qya2, qya3, qya4, qya5, qya6, qya7, qya8, qya9, qya10, qya11, qya12, qya13, qya14, qyi0, qyi1, qyi2, qyi3, qyi4, qyi5, qyi6, qyi7, qyi8, qyl]; rfl) rfl (by decide) (fun H locs hP hD hS => ?_)
  refine lv_pop hx hb dL_law_1302 rfl ?_
  refine lv_goto (tgt := 1344) hx hb dL_law_1303 (by decide) ?_
  refine W.widen (k := 45 + j + 1) (n := 18169 + 6 * j + 6) (by omega) (by omega) ?_
  exact kont _ H locs ls hP hD hS (lv_sub hl [0, 1, 2, 3, 4] rfl)

set_option maxHeartbeats 4000000 in
set_option maxRecDepth 100000 in
theorem lw_case_35 {p : Program} {l : Launch} {e : Env} {s : State} {m : MethodId} {below : List Frame} {meth : Method} {c : Code} {dC : Nat → ClassId} {dI : Nat → Nat → Nat} {b L : Nat} {xs : Nat → Int32} (C0 : lw_At p s m meth c b L xs) (ts ks kv : Nat → Nat) (sa : Nat) (hE : q_S ts ks kv (fun q : Nat => s.heap.size ≤ q) s) (hEX : q_X sa s) (hlt : l.stackTraces = false) {a : Nat → Nat} {k : Nat → ClassId} {bm : Nat → Nat} {km : Nat → ClassId} {q3 : Nat} {k3 : ClassId} {j : Nat} (hj : 6 * j + 6 ≤ L) (hL : L ≤ 3072) {z : Nat → Int32} (hz : ∀ q, z q = xs (6 * j + q)) {x y : XS} {p1 p2 : Int32 × XS} (h1 : SX_35 x z = some p1) (h2 : SY_35 y z = some p2) {fo : Nat → Int64} {H : Heap} {locs : List Loc} {ls : Array Slot} (hK : va_K (dC, dI) vwCl (lw_T k km k3) s) (hP : va_P (dC, dI) vwCl (lw_W a k bm km q3 k3 x y fo) H) (hD : va_D (fun q : Nat => s.heap.size ≤ q) (lw_W a k bm km q3 k3 x y fo)) (hS : va_S (fun q : Nat => s.heap.size ≤ q) s.heap H locs) (hl : lv_has ls 7 [(4, .int (nI (6 * j))), (3, .ref q3), (2, .ref (bm 0)), (1, .ref (a 0)), (0, .ref b)]) (kont : ∀ (fo : Nat → Int64) (H : Heap) (locs : List Loc) (ls : Array Slot), va_P (dC, dI) vwCl (lw_W a k bm km q3 k3 p1.2 p2.2 fo) H → va_D (fun q : Nat => s.heap.size ≤ q) (lw_W a k bm km q3 k3 p1.2 p2.2 fo) → va_S (fun q : Nat => s.heap.size ≤ q) s.heap H locs → lv_has ls 7 [(4, .int (nI (6 * j))), (3, .ref q3), (2, .ref (bm 0)), (1, .ref (a 0)), (0, .ref b)] → W p l e room_1 s m #[Value.ref b] below meth c H locs (45 + j + 1) (18169 + 6 * j + 6) (lw_Z below #[Value.ref b] s) (F0 m 1344 ls [])) : W p l e room_1 s m #[Value.ref b] below meth c H locs (45 + j) (18169 + 6 * j) (lw_Z below #[Value.ref b] s) (F0 m 1306 ls []) := by
  obtain ⟨hx, hb, hr, hml, hown, hts, hX, hbl, hlocks, hgv⟩ := C0
  have hown : s.vm.findClass RL = some m.cls := hown
  have hA : ∀ q : Nat, s.heap.size ≤ q → (fun q : Nat => s.heap.size ≤ q) q := fun _ h => h
  have hbA : ¬ (fun q : Nat => s.heap.size ≤ q) b := Nat.not_le.mpr hbl
  unfold SX_35 at h1
  unfold SY_35 at h2
  obtain ⟨o1, hF1, h1⟩ := q_bi h1
  have hp1 := Option.some.inj h1
  obtain ⟨o2, hF2, h2⟩ := q_bi h2
  have hp2 := Option.some.inj h2
  refine lv_aload_n hx hb dL_law_1306 rfl (lv_at hl 3 rfl) ?_
  have qxa2 : p1.2.1 2 = x.1 2 := by rw [← hp1]; try rfl
  have qxa5 : p1.2.1 5 = x.1 5 := by rw [← hp1]; try rfl
  have qxa6 : p1.2.1 6 = x.1 6 := by rw [← hp1]; try rfl
  have qxa8 : p1.2.1 8 = x.1 8 := by rw [← hp1]; try rfl
  have qxa9 : p1.2.1 9 = x.1 9 := by rw [← hp1]; try rfl
  have qxa11 : p1.2.1 11 = x.1 11 := by rw [← hp1]; try rfl
  have qxa12 : p1.2.1 12 = x.1 12 := by rw [← hp1]; try rfl
  have qxa13 : p1.2.1 13 = x.1 13 := by rw [← hp1]; try rfl
  have qxa15 : p1.2.1 15 = o1.2.2.2.1 := by rw [← hp1]; try rfl
  have qxa17 : p1.2.1 17 = x.1 17 := by rw [← hp1]; try rfl
  have qxa20 : p1.2.1 20 = x.1 20 := by rw [← hp1]; try rfl
  have qxa22 : p1.2.1 22 = o1.2.2.2.2 := by rw [← hp1]; try rfl
  have qxa24 : p1.2.1 24 = x.1 24 := by rw [← hp1]; try rfl
  have qxa26 : p1.2.1 26 = x.1 26 := by rw [← hp1]; try rfl
  have qxa28 : p1.2.1 28 = x.1 28 := by rw [← hp1]; try rfl
  have qxi0 : p1.2.2.1 0 = x.2.1 0 := by rw [← hp1]; try rfl
  have qxi1 : p1.2.2.1 1 = x.2.1 1 := by rw [← hp1]; try rfl
  have qxi2 : p1.2.2.1 2 = x.2.1 2 := by rw [← hp1]; try rfl
  have qxi3 : p1.2.2.1 3 = x.2.1 3 := by rw [← hp1]; try rfl
  have qxi4 : p1.2.2.1 4 = x.2.1 4 := by rw [← hp1]; try rfl
  have qxi5 : p1.2.2.1 5 = x.2.1 5 := by rw [← hp1]; try rfl
  have qxi6 : p1.2.2.1 6 = x.2.1 6 := by rw [← hp1]; try rfl
  have qxi7 : p1.2.2.1 7 = x.2.1 7 := by rw [← hp1]; try rfl
  have qxi8 : p1.2.2.1 8 = o1.2.1 := by rw [← hp1]; try rfl
  have qxi9 : p1.2.2.1 9 = o1.2.2.1 := by rw [← hp1]; try rfl
  have qxi10 : p1.2.2.1 10 = x.2.1 10 := by rw [← hp1]; try rfl
  have qxi11 : p1.2.2.1 11 = x.2.1 11 := by rw [← hp1]; try rfl
  have qxl : p1.2.2.2 = x.2.2 := by rw [← hp1]; try rfl
  refine q_goi5 (v := o1.1) (lw_W a k bm km q3 k3 p1.2 y fo) [some 0, none, none, none, none, none, none, some 3, some 4, some 5, none, none, none, none, some 1, some 2, none, none, none, some 6, some 7, some 8, some 9, some 10, some 11, some 12, some 13, none, none, none, none, none, none, none, none, none, none, none, none, none, none, none, none, none, none] (va_runV (As := []) (rest := []) ⟨hx, hb, hml, hown, hts⟩ (c_X9_back l dC dI a k (x.2.1 4) (x.2.1 7) (x.2.1 8) (x.2.1 9) (x.2.1 10) (x.2.1 11) (x.1 8) (x.1 9) (x.1 15) (x.1 20) (x.1 22) (x.1 24) (x.1 26) (va_A [((a 0), .inr (9, [.ref (a 1), .ref (a 3), .ref (a 4), .ref (a 7), .ref (a 10), .ref (a 14), .ref (a 16), .ref (a 18), .ref (a 19), .ref (a 21), .ref (a 23), .ref (a 25), .ref (a 27), .ref (a 28), .int (x.2.1 11)])), ((a 14), .inr (0, [.ref (a 15), .ref (a 7)])), ((a 15), .inl ((k 15), 98, .inl (x.1 15))), ((a 7), .inr (5, [.ref (a 8), .ref (a 9), .int (x.2.1 4)])), ((a 8), .inl ((k 8), 8, .inl (x.1 8))), ((a 9), .inl ((k 9), 48, .inl (x.1 9))), ((a 19), .inr (4, [.ref (a 20), .int (x.2.1 7), .int (x.2.1 8)])), ((a 20), .inl ((k 20), 3920, .inl (x.1 20))), ((a 21), .inr (1, [.ref (a 22), .int (x.2.1 9)])), ((a 22), .inl ((k 22), 300, .inl (x.1 22))), ((a 23), .inr (0, [.ref (a 24), .ref (a 7)])), ((a 24), .inl ((k 24), 98, .inl (x.1 24))), ((a 25), .inr (1, [.ref (a 26), .int (x.2.1 10)])), ((a 26), .inl ((k 26), 300, .inl (x.1 26)))] H.size) o1 hF1) (cwV 0 hts (q_lV m_1407 m_1408 m_1409 m_2 m_1410) rfl rfl rfl hdV_yX9_back_0 ⟨Nat.le_of_ble_eq_true rfl, Nat.le_of_ble_eq_true rfl⟩) (q_preWV hK hP hD (q := (RX9, TX9, 15)) (ci := 9) (q0 := 0) rfl rfl [0, 14, 15, 7, 8, 9, 19, 20, 21, 22, 23, 24, 25, 26] (by decide) rfl rfl [8, 3, 4, 10, 11, 12, 13] rfl) rfl rfl hl.1 rfl (lv_room (Nat.le_of_ble_eq_true rfl)) dL_law_1307 ⟨by show 45 + j + 0 ≤ 1070; omega, by show 18169 + 6 * j + 0 ≤ 26367; omega⟩) hP hD hS hA [0, 14, 15, 7, 8, 9, 19, 20, 21, 22, 23, 24, 25, 26] rfl (by unfold lw_W; simp only [qxa2, qxa5, qxa6, qxa8, qxa9, qxa11, qxa12, qxa13, qxa15, qxa17, qxa20, qxa22, qxa24, qxa26, qxa28, qxi0, qxi1, qxi2, qxi3, qxi4, qxi5, qxi6, qxi7, qxi8, qxi9, qxi10, qxi11, qxl]; rfl) rfl (by decide) (fun H locs hP hD hS => ?_)
  refine lv_pop hx hb dL_law_1310 rfl ?_
  refine lv_aload_n hx hb dL_law_1311 rfl (lv_at hl 2 rfl) ?_
  have qya1 : p2.2.1 1 = y.1 1 := by rw [← hp2]; try rfl
  have qya2 : p2.2.1 2 = y.1 2 := by rw [← hp2]; try rfl
  have qya3 : p2.2.1 3 = y.1 3 := by rw [← hp2]; try rfl
  have qya4 : p2.2.1 4 = y.1 4 := by rw [← hp2]; try rfl
  have qya5 : p2.2.1 5 = y.1 5 := by rw [← hp2]; try rfl
  have qya6 : p2.2.1 6 = y.1 6 := by rw [← hp2]; try rfl
  have qya7 : p2.2.1 7 = y.1 7 := by rw [← hp2]; try rfl
  have qya8 : p2.2.1 8 = o2.2.2 := by rw [← hp2]; try rfl
  have qya9 : p2.2.1 9 = y.1 9 := by rw [← hp2]; try rfl
  have qya10 : p2.2.1 10 = y.1 10 := by rw [← hp2]; try rfl
  have qya11 : p2.2.1 11 = y.1 11 := by rw [← hp2]; try rfl
  have qya12 : p2.2.1 12 = y.1 12 := by rw [← hp2]; try rfl
  have qya13 : p2.2.1 13 = y.1 13 := by rw [← hp2]; try rfl
  have qya14 : p2.2.1 14 = y.1 14 := by rw [← hp2]; try rfl
  have qyi0 : p2.2.2.1 0 = y.2.1 0 := by rw [← hp2]; try rfl
  have qyi1 : p2.2.2.1 1 = y.2.1 1 := by rw [← hp2]; try rfl
  have qyi2 : p2.2.2.1 2 = y.2.1 2 := by rw [← hp2]; try rfl
  have qyi3 : p2.2.2.1 3 = y.2.1 3 := by rw [← hp2]; try rfl
  have qyi4 : p2.2.2.1 4 = y.2.1 4 := by rw [← hp2]; try rfl
  have qyi5 : p2.2.2.1 5 = y.2.1 5 := by rw [← hp2]; try rfl
  have qyi6 : p2.2.2.1 6 = y.2.1 6 := by rw [← hp2]; try rfl
  have qyi7 : p2.2.2.1 7 = o2.2.1 := by rw [← hp2]; try rfl
  have qyi8 : p2.2.2.1 8 = y.2.1 8 := by rw [← hp2]; try rfl
  have qyl : p2.2.2.2 = y.2.2 := by rw [← hp2]; try rfl
  refine q_goi5 (v := o2.1) (lw_W a k bm km q3 k3 p1.2 p2.2 fo) [none, none, none, none, none, none, none, none, none, none, none, none, none, none, none, none, none, none, none, none, none, none, none, none, none, none, none, none, none, some 0, none, none, none, none, none, none, none, some 1, none, none, none, none, none, some 2, none] (va_runV (As := []) (rest := []) ⟨hx, hb, hml, hown, hts⟩ (c_X10_back l dC dI bm km (y.2.1 0) (y.2.1 1) (y.2.1 2) (y.2.1 3) (y.2.1 4) (y.2.1 5) (y.2.1 6) (y.2.1 7) (y.2.1 8) (y.2.2) (y.1 8) (y.1 14) (va_A [((bm 0), .inr (10, [.int (y.2.1 0), .ref (bm 1), .int (y.2.1 1), .int (y.2.1 2), .int (y.2.1 3), .ref (bm 2), .ref (bm 3), .int (y.2.1 4), .ref (bm 4), .ref (bm 5), .int (y.2.1 5), .ref (bm 6), .ref (bm 7), .int (y.2.1 6), .ref (bm 8), .ref (bm 9), .ref (bm 10), .int (y.2.1 7), .long (y.2.2), .ref (bm 11), .ref (bm 12), .ref (bm 13), .ref (bm 14), .int (y.2.1 8)])), ((bm 8), .inl ((km 8), 279, .inl (y.1 8))), ((bm 14), .inl ((km 14), 279, .inl (y.1 14)))] H.size) o2 hF2) (cwV 0 hts (q_lV m_1411 m_1412 m_1413 m_5 m_1414) rfl rfl rfl hdV_yX10_back_0 ⟨Nat.le_of_ble_eq_true rfl, Nat.le_of_ble_eq_true rfl⟩) (q_preWV hK hP hD (q := (RX10, TX10, 24)) (ci := 10) (q0 := 29) rfl rfl [29, 37, 43] (by decide) rfl rfl [22, 28] rfl) rfl rfl hl.1 rfl (lv_room (Nat.le_of_ble_eq_true rfl)) dL_law_1312 ⟨by show 45 + j + 0 ≤ 1070; omega, by show 18169 + 6 * j + 0 ≤ 26367; omega⟩) hP hD hS hA [29, 37, 43] rfl (by unfold lw_W; simp only [qya1, qya2, qya3, qya4, qya5, qya6, qya7, qya8, qya9, qya10, qya11, qya12, qya13, qya14, qyi0, qyi1, qyi2, qyi3, qyi4, qyi5, qyi6, qyi7, qyi8, qyl]; rfl) rfl (by decide) (fun H locs hP hD hS => ?_)
  refine lv_pop hx hb dL_law_1315 rfl ?_
  refine lv_goto (tgt := 1344) hx hb dL_law_1316 (by decide) ?_
  refine W.widen (k := 45 + j + 1) (n := 18169 + 6 * j + 6) (by omega) (by omega) ?_
  exact kont _ H locs ls hP hD hS (lv_sub hl [0, 1, 2, 3, 4] rfl)

set_option maxHeartbeats 4000000 in
set_option maxRecDepth 100000 in
theorem lw_case_36 {p : Program} {l : Launch} {e : Env} {s : State} {m : MethodId} {below : List Frame} {meth : Method} {c : Code} {dC : Nat → ClassId} {dI : Nat → Nat → Nat} {b L : Nat} {xs : Nat → Int32} (C0 : lw_At p s m meth c b L xs) (ts ks kv : Nat → Nat) (sa : Nat) (hE : q_S ts ks kv (fun q : Nat => s.heap.size ≤ q) s) (hEX : q_X sa s) (hlt : l.stackTraces = false) {a : Nat → Nat} {k : Nat → ClassId} {bm : Nat → Nat} {km : Nat → ClassId} {q3 : Nat} {k3 : ClassId} {j : Nat} (hj : 6 * j + 6 ≤ L) (hL : L ≤ 3072) {z : Nat → Int32} (hz : ∀ q, z q = xs (6 * j + q)) {x y : XS} {p1 p2 : Int32 × XS} (h1 : SX_36 x z = some p1) (h2 : SY_36 y z = some p2) {fo : Nat → Int64} {H : Heap} {locs : List Loc} {ls : Array Slot} (hK : va_K (dC, dI) vwCl (lw_T k km k3) s) (hP : va_P (dC, dI) vwCl (lw_W a k bm km q3 k3 x y fo) H) (hD : va_D (fun q : Nat => s.heap.size ≤ q) (lw_W a k bm km q3 k3 x y fo)) (hS : va_S (fun q : Nat => s.heap.size ≤ q) s.heap H locs) (hl : lv_has ls 7 [(4, .int (nI (6 * j))), (3, .ref q3), (2, .ref (bm 0)), (1, .ref (a 0)), (0, .ref b)]) (kont : ∀ (fo : Nat → Int64) (H : Heap) (locs : List Loc) (ls : Array Slot), va_P (dC, dI) vwCl (lw_W a k bm km q3 k3 p1.2 p2.2 fo) H → va_D (fun q : Nat => s.heap.size ≤ q) (lw_W a k bm km q3 k3 p1.2 p2.2 fo) → va_S (fun q : Nat => s.heap.size ≤ q) s.heap H locs → lv_has ls 7 [(4, .int (nI (6 * j))), (3, .ref q3), (2, .ref (bm 0)), (1, .ref (a 0)), (0, .ref b)] → W p l e room_1 s m #[Value.ref b] below meth c H locs (45 + j + 1) (18169 + 6 * j + 6) (lw_Z below #[Value.ref b] s) (F0 m 1344 ls [])) : W p l e room_1 s m #[Value.ref b] below meth c H locs (45 + j) (18169 + 6 * j) (lw_Z below #[Value.ref b] s) (F0 m 1319 ls []) := by
  obtain ⟨hx, hb, hr, hml, hown, hts, hX, hbl, hlocks, hgv⟩ := C0
  have hown : s.vm.findClass RL = some m.cls := hown
  have hA : ∀ q : Nat, s.heap.size ≤ q → (fun q : Nat => s.heap.size ≤ q) q := fun _ h => h
  have hbA : ¬ (fun q : Nat => s.heap.size ≤ q) b := Nat.not_le.mpr hbl
  unfold SX_36 at h1
  unfold SY_36 at h2
  obtain ⟨o1, hF1, h1⟩ := q_bi h1
  have hp1 := Option.some.inj h1
  obtain ⟨o2, hF2, h2⟩ := q_bi h2
  have hp2 := Option.some.inj h2
  refine lv_aload_n hx hb dL_law_1319 rfl (lv_at hl 3 rfl) ?_
  refine lv_aload_n hx hb dL_law_1320 rfl (lv_at hl 4 rfl) ?_
  refine lv_iload hx hb dL_law_1321 (lv_at hl 0 rfl) ?_
  refine lv_iconst (v := 1) hx hb dL_law_1323 (by decide) ?_
  refine lv_iadd hx hb dL_law_1324 ?_
  refine q_top (y := nI (6 * j + 1)) (nI_add (6 * j) 1) ?_
  refine va_sld hx hb hX hbl hbA hS (i := (nI (6 * j + 1))) (vp_in_nI (by omega) (by omega)) dL_law_1325 ?_
  refine q_top (y := z 1) (by rw [nI_clamp (by omega), hz]) ?_
  refine q_goi (v := o1) (va_runV (As := [.int (z 1)]) (rest := []) ⟨hx, hb, hml, hown, hts⟩ (c_X9_count l dC dI a k (x.2.1 0) (x.2.1 4) (x.2.1 5) (x.2.1 6) (x.2.1 7) (x.2.1 8) (x.2.1 9) (x.2.1 11) (z 1) o1 hF1) (cwV 1 hts (q_lV m_1415 m_1416 m_1417 m_2 m_1418) rfl rfl rfl hdV_yX9_count_1 ⟨Nat.le_of_ble_eq_true rfl, Nat.le_of_ble_eq_true rfl⟩) (q_preV hK hP (q := (RX9, TX9, 15)) (ci := 9) (q0 := 0) rfl rfl [0, 1, 7, 10, 19, 21] rfl [] rfl) rfl rfl hl.1 rfl (lv_room (Nat.le_of_ble_eq_true rfl)) dL_law_1326 ⟨by show 45 + j + 0 ≤ 1070; omega, by show 18169 + 6 * j + 0 ≤ 26367; omega⟩) hP hS (fun H locs hP hS => ?_)
  have hP : va_P (dC, dI) vwCl (lw_W a k bm km q3 k3 p1.2 y fo) H := by rw [← hp1]; exact hP
  have hD : va_D (fun q : Nat => s.heap.size ≤ q) (lw_W a k bm km q3 k3 p1.2 y fo) := by rw [← hp1]; exact hD
  refine lv_pop hx hb dL_law_1329 rfl ?_
  refine lv_aload_n hx hb dL_law_1330 rfl (lv_at hl 2 rfl) ?_
  refine lv_aload_n hx hb dL_law_1331 rfl (lv_at hl 4 rfl) ?_
  refine lv_iload hx hb dL_law_1332 (lv_at hl 0 rfl) ?_
  refine lv_iconst (v := 1) hx hb dL_law_1334 (by decide) ?_
  refine lv_iadd hx hb dL_law_1335 ?_
  refine q_top (y := nI (6 * j + 1)) (nI_add (6 * j) 1) ?_
  refine va_sld hx hb hX hbl hbA hS (i := (nI (6 * j + 1))) (vp_in_nI (by omega) (by omega)) dL_law_1336 ?_
  refine q_top (y := z 1) (by rw [nI_clamp (by omega), hz]) ?_
  refine q_goi (v := o2) (va_runV (As := [.int (z 1)]) (rest := []) ⟨hx, hb, hml, hown, hts⟩ (c_X10_count l dC dI bm km (y.2.1 0) (y.2.1 1) (y.2.1 2) (y.2.1 3) (y.2.1 4) (y.2.1 5) (y.2.1 6) (y.2.1 7) (y.2.1 8) (y.2.2) (y.1 8) (z 1) o2 hF2) (cwV 1 hts (q_lV m_1419 m_1420 m_1421 m_5 m_1422) rfl rfl rfl hdV_yX10_count_1 ⟨Nat.le_of_ble_eq_true rfl, Nat.le_of_ble_eq_true rfl⟩) (q_preV hK hP (q := (RX10, TX10, 24)) (ci := 10) (q0 := 29) rfl rfl [29, 37] rfl [22] rfl) rfl rfl hl.1 rfl (lv_room (Nat.le_of_ble_eq_true rfl)) dL_law_1337 ⟨by show 45 + j + 0 ≤ 1070; omega, by show 18169 + 6 * j + 0 ≤ 26367; omega⟩) hP hS (fun H locs hP hS => ?_)
  have hP : va_P (dC, dI) vwCl (lw_W a k bm km q3 k3 p1.2 p2.2 fo) H := by rw [← hp2]; exact hP
  have hD : va_D (fun q : Nat => s.heap.size ≤ q) (lw_W a k bm km q3 k3 p1.2 p2.2 fo) := by rw [← hp2]; exact hD
  refine lv_pop hx hb dL_law_1340 rfl ?_
  refine lv_goto (tgt := 1344) hx hb dL_law_1341 (by decide) ?_
  refine W.widen (k := 45 + j + 1) (n := 18169 + 6 * j + 6) (by omega) (by omega) ?_
  exact kont _ H locs ls hP hD hS (lv_sub hl [0, 1, 2, 3, 4] rfl)
