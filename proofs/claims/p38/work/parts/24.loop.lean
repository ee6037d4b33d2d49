theorem dL_law_0 : decode cL_law 0 = .ok (.new 8, 3) := by decide +kernel
theorem dL_law_3 : decode cL_law 3 = .ok (.dup, 1) := q_o89 (by decide +kernel)
theorem dL_law_4 : decode cL_law 4 = .ok (.invokespecial 15, 3) := q_o183 (a := 0) (b := 15) (by decide +kernel)
theorem dL_law_7 : decode cL_law 7 = .ok (.astore_n 1, 1) := by decide +kernel
theorem dL_law_8 : decode cL_law 8 = .ok (.new 16, 3) := by decide +kernel
theorem dL_law_11 : decode cL_law 11 = .ok (.dup, 1) := q_o89 (by decide +kernel)
theorem dL_law_12 : decode cL_law 12 = .ok (.invokespecial 18, 3) := q_o183 (a := 0) (b := 18) (by decide +kernel)
theorem dL_law_15 : decode cL_law 15 = .ok (.astore_n 2, 1) := by decide +kernel
theorem dL_law_16 : decode cL_law 16 = .ok (.iconst 1, 1) := q_o4 (by decide +kernel)
theorem dL_law_17 : decode cL_law 17 = .ok (.newarray .long, 2) := by decide +kernel
theorem dL_law_19 : decode cL_law 19 = .ok (.astore_n 3, 1) := by decide +kernel
theorem dL_law_20 : decode cL_law 20 = .ok (.iconst 0, 1) := q_o3 (by decide +kernel)
theorem dL_law_21 : decode cL_law 21 = .ok (.istore 4, 2) := q_o54 (a := 4) (by decide +kernel)
theorem dL_law_23 : decode cL_law 23 = .ok (.iload 4, 2) := q_o21 (a := 4) (by decide +kernel)
theorem dL_law_25 : decode cL_law 25 = .ok (.aload_n 0, 1) := q_o42 (by decide +kernel)
theorem dL_law_26 : decode cL_law 26 = .ok (.arraylength, 1) := by decide +kernel
theorem dL_law_27 : decode cL_law 27 = .ok (.bipush 6, 2) := q_o16 (a := 6) (by decide +kernel) rfl
theorem dL_law_29 : decode cL_law 29 = .ok (.isub, 1) := q_o100 (by decide +kernel)
theorem dL_law_30 : decode cL_law 30 = .ok (.if_icmp .gt 1320, 3) := q_o163 (a := 5) (b := 40) (by decide +kernel) rfl
theorem dL_law_33 : decode cL_law 33 = .ok (.aload_n 0, 1) := q_o42 (by decide +kernel)
theorem dL_law_34 : decode cL_law 34 = .ok (.iload 4, 2) := q_o21 (a := 4) (by decide +kernel)
theorem dL_law_36 : decode cL_law 36 = .ok (.iaload, 1) := q_o46 (by decide +kernel)
theorem dL_law_37 : decode cL_law 37 = .ok (.bipush 63, 2) := q_o16 (a := 63) (by decide +kernel) rfl
theorem dL_law_39 : decode cL_law 39 = .ok (.iand, 1) := q_o126 (by decide +kernel)
theorem dL_law_40 : decode cL_law 40 = .ok (.tableswitch 1304 0 36 #[164, 237, 262, 287, 312, 337, 374, 414, 451, 488, 525, 550, 575, 624, 649, 674, 699, 736, 761, 786, 855, 880, 893, 930, 955, 992, 1005, 1030, 1055, 1080, 1117, 1166, 1203, 1228, 1253, 1266, 1279], 164) := by decide +kernel
theorem dL_law_1344 : decode cL_law 1344 = .ok (.iinc 4 6, 3) := q_o132 (a := 4) (b := 6) (by decide +kernel) rfl
theorem dL_law_1347 : decode cL_law 1347 = .ok (.goto (-1324), 3) := q_o167 (a := 250) (b := 212) (by decide +kernel) rfl
theorem dL_law_1350 : decode cL_law 1350 = .ok (.iconst 1, 1) := q_o4 (by decide +kernel)
theorem dL_law_1351 : decode cL_law 1351 = .ok (.ireturn, 1) := q_o172 (by decide +kernel)
def q_st (cmp : Bool) (SX SY : XS → (Nat → Int32) → Option (Int32 × XS)) (Inv : XS → XS → Nat → Prop) : Prop := ∀ (x y : XS) (z : Nat → Int32) (j : Nat), j < 512 → Inv x y j → ∃ p1 p2, SX x z = some p1 ∧ SY y z = some p2 ∧ Inv p1.2 p2.2 (j + 1) ∧ (cmp = true → p1.1 = p2.1)
theorem q_lp {L j : Nat} (hL : L ≤ 3072) (hj : 6 * j ≤ L) : (nI L - 6 < nI (6 * j)) ↔ L < 6 * j + 6 := by
  have e1 : (nI L - 6).toInt = (L : Int) - 6 := pk_sub_toInt (a := L) (b := 6) (by omega) (by decide)
  have e2 : (nI (6 * j)).toInt = ((6 * j : Nat) : Int) := nI_toInt (by omega)
  rw [q_lt, e1, e2]
  omega

set_option maxHeartbeats 4000000 in
set_option maxRecDepth 100000 in
/-- the loop, open in the pure steps -/
theorem lw_loop {p : Program} {l : Launch} {e : Env} {s : State} {m : MethodId} {below : List Frame} {meth : Method} {c : Code} {dC : Nat → ClassId} {dI : Nat → Nat → Nat} {b L : Nat} {xs : Nat → Int32} (C0 : lw_At p s m meth c b L xs) (ts ks kv : Nat → Nat) (sa : Nat) (hE : q_S ts ks kv (fun q : Nat => s.heap.size ≤ q) s) (hEX : q_X sa s) (hlt : l.stackTraces = false) {a : Nat → Nat} {k : Nat → ClassId} {bm : Nat → Nat} {km : Nat → ClassId} {q3 : Nat} {k3 : ClassId} (hL : L ≤ 3072) (hK : va_K (dC, dI) vwCl (lw_T k km k3) s) (Inv : XS → XS → Nat → Prop) (hq0 : q_st false SX_0 SY_0 Inv) (hq1 : q_st false SX_1 SY_1 Inv) (hq2 : q_st false SX_2 SY_2 Inv) (hq3 : q_st false SX_3 SY_3 Inv) (hq4 : q_st false SX_4 SY_4 Inv) (hq5 : q_st false SX_5 SY_5 Inv) (hq6 : q_st false SX_6 SY_6 Inv) (hq7 : q_st false SX_7 SY_7 Inv) (hq8 : q_st false SX_8 SY_8 Inv) (hq9 : q_st false SX_9 SY_9 Inv) (hq10 : q_st false SX_10 SY_10 Inv) (hq11 : q_st false SX_11 SY_11 Inv) (hq12 : q_st false SX_12 SY_12 Inv) (hq13 : q_st false SX_13 SY_13 Inv) (hq14 : q_st false SX_14 SY_14 Inv) (hq15 : q_st false SX_15 SY_15 Inv) (hq16 : q_st false SX_16 SY_16 Inv) (hq17 : q_st false SX_17 SY_17 Inv) (hq18 : q_st false SX_18 SY_18 Inv) (hq19 : q_st false SX_19 SY_19 Inv) (hq20 : q_st false SX_20 SY_20 Inv) (hq21 : q_st false SX_21 SY_21 Inv) (hq22 : q_st false SX_22 SY_22 Inv) (hq23 : q_st false SX_23 SY_23 Inv) (hq24 : q_st false SX_24 SY_24 Inv) (hq25 : q_st false SX_25 SY_25 Inv) (hq26 : q_st false SX_26 SY_26 Inv) (hq27 : q_st false SX_27 SY_27 Inv) (hq28 : q_st false SX_28 SY_28 Inv) (hq29 : q_st false SX_29 SY_29 Inv) (hq30 : q_st false SX_30 SY_30 Inv) (hq31 : q_st false SX_31 SY_31 Inv) (hq32 : q_st false SX_32 SY_32 Inv) (hq33 : q_st false SX_33 SY_33 Inv) (hq34 : q_st false SX_34 SY_34 Inv) (hq35 : q_st false SX_35 SY_35 Inv) (hq36 : q_st true SX_36 SY_36 Inv) (hqd : ∀ x y j, Inv x y j → Inv x y (j + 1)) : ∀ (n j : Nat) (x y : XS) (fo : Nat → Int64) (H : Heap) (locs : List Loc) (ls : Array Slot), 6 * j ≤ L → L < 6 * (j + n) → Inv x y j → va_P (dC, dI) vwCl (lw_W a k bm km q3 k3 x y fo) H → va_D (fun q : Nat => s.heap.size ≤ q) (lw_W a k bm km q3 k3 x y fo) → va_S (fun q : Nat => s.heap.size ≤ q) s.heap H locs → lv_has ls 7 [(4, .int (nI (6 * j))), (3, .ref q3), (2, .ref (bm 0)), (1, .ref (a 0)), (0, .ref b)] → W p l e room_1 s m #[Value.ref b] below meth c H locs (45 + j) (18169 + 6 * j) (lw_Z below #[Value.ref b] s) (F0 m 23 ls []) := by
  have C00 := C0
  obtain ⟨hx, hb, hr, hml, hown, hts, hX, hbl, hlocks, hgv⟩ := C0
  have hown : s.vm.findClass RL = some m.cls := hown
  have hA : ∀ q : Nat, s.heap.size ≤ q → (fun q : Nat => s.heap.size ≤ q) q := fun _ h => h
  have hbA : ¬ (fun q : Nat => s.heap.size ≤ q) b := Nat.not_le.mpr hbl
  intro n
  induction n with
  | zero => intro j x y fo H locs ls h1 h2; omega
  | succ n ih =>
    intro j x y fo H locs ls hj0 hjn hI hP hD hS hl
    refine lv_iload hx hb dL_law_23 (lv_at hl 0 rfl) ?_
    refine lv_aload_n hx hb dL_law_25 rfl (lv_at hl 4 rfl) ?_
    refine va_slen hx hb hX hbl hbA hS dL_law_26 ?_
    refine lv_bipush (v := 6) hx hb dL_law_27 (by decide) ?_
    refine lv_isub hx hb dL_law_29 ?_
    refine lv_icmp_gt (tgt := 1350) hx hb dL_law_30 (by decide) (fun c_9 => ?_) (fun c_9 => ?_)
    · refine lv_iconst (v := 1) hx hb dL_law_1350 (by decide) ?_
      refine va_forget (fun q hq => hS.2.2 q hq) ?_
      refine W.widen (k := 1070) (n := 26367) (by omega) (by omega) ?_
      exact lw_ret hx hb hr hlocks dL_law_1351
    have hj : 6 * j + 6 ≤ L := by
      rcases Nat.lt_or_ge L (6 * j + 6) with q | q
      · exact absurd ((q_lp hL hj0).mpr q) c_9
      · exact q
    have inc : ∀ (x' y' : XS), Inv x' y' (j + 1) → ∀ (fo : Nat → Int64) (H : Heap) (locs : List Loc) (ls : Array Slot), va_P (dC, dI) vwCl (lw_W a k bm km q3 k3 x' y' fo) H → va_D (fun q : Nat => s.heap.size ≤ q) (lw_W a k bm km q3 k3 x' y' fo) → va_S (fun q : Nat => s.heap.size ≤ q) s.heap H locs → lv_has ls 7 [(4, .int (nI (6 * j))), (3, .ref q3), (2, .ref (bm 0)), (1, .ref (a 0)), (0, .ref b)] → W p l e room_1 s m #[Value.ref b] below meth c H locs (45 + j + 1) (18169 + 6 * j + 6) (lw_Z below #[Value.ref b] s) (F0 m 1344 ls []) := by
      intro x' y' hI' fo H locs ls hP hD hS hl
      refine lv_iinc (v := nI (6 * (j + 1))) (lv' := [(4, .int (nI (6 * (j + 1)))), (3, .ref q3), (2, .ref (bm 0)), (1, .ref (a 0)), (0, .ref b)]) hx hb dL_law_1344 hl (k := 0) rfl (nI_add (6 * j) 6) (by decide) rfl (fun ls hl => ?_)
      refine lv_goto (tgt := 23) hx hb dL_law_1347 (by decide) ?_
      refine W.widen (k := 45 + (j + 1)) (n := 18169 + 6 * (j + 1)) (by omega) (by omega) ?_
      exact ih (j + 1) x' y' fo H locs ls (by omega) (by omega) hI' hP hD hS hl
    refine lv_aload_n hx hb dL_law_33 rfl (lv_at hl 4 rfl) ?_
    refine lv_iload hx hb dL_law_34 (lv_at hl 0 rfl) ?_
    refine va_sld hx hb hX hbl hbA hS (i := nI (6 * j)) (vp_in_nI (by omega) (by omega)) dL_law_36 ?_
    refine lv_bipush (v := 63) hx hb dL_law_37 (by decide) ?_
    refine lv_iand hx hb dL_law_39 ?_
    obtain ⟨kk, hkk, ek⟩ := pk_andE (xs (nI (6 * j)).toNatClampNeg) (m := 63) 6 (by decide)
    refine q_top (y := nI kk) ek ?_
    match kk, hkk with
    | 0, _ =>
      refine lv_tableIn (off := 164) (tgt := 204) hx hb dL_law_40 (by decide) (by decide) (by decide) (by decide) ?_
      obtain ⟨p1, p2, e1, e2, hI2, hc⟩ := hq0 x y (fun q => xs (6 * j + q)) j (by omega) hI
      exact lw_case_0 C00 ts ks kv sa hE hEX hlt hj hL (fun _ => rfl) e1 e2 hK hP hD hS hl (inc p1.2 p2.2 hI2)
    | 1, _ =>
      refine lv_tableIn (off := 237) (tgt := 277) hx hb dL_law_40 (by decide) (by decide) (by decide) (by decide) ?_
      obtain ⟨p1, p2, e1, e2, hI2, hc⟩ := hq1 x y (fun q => xs (6 * j + q)) j (by omega) hI
      exact lw_case_1 C00 ts ks kv sa hE hEX hlt hj hL (fun _ => rfl) e1 e2 hK hP hD hS hl (inc p1.2 p2.2 hI2)
    | 2, _ =>
      refine lv_tableIn (off := 262) (tgt := 302) hx hb dL_law_40 (by decide) (by decide) (by decide) (by decide) ?_
      obtain ⟨p1, p2, e1, e2, hI2, hc⟩ := hq2 x y (fun q => xs (6 * j + q)) j (by omega) hI
      exact lw_case_2 C00 ts ks kv sa hE hEX hlt hj hL (fun _ => rfl) e1 e2 hK hP hD hS hl (inc p1.2 p2.2 hI2)
    | 3, _ =>
      refine lv_tableIn (off := 287) (tgt := 327) hx hb dL_law_40 (by decide) (by decide) (by decide) (by decide) ?_
      obtain ⟨p1, p2, e1, e2, hI2, hc⟩ := hq3 x y (fun q => xs (6 * j + q)) j (by omega) hI
      exact lw_case_3 C00 ts ks kv sa hE hEX hlt hj hL (fun _ => rfl) e1 e2 hK hP hD hS hl (inc p1.2 p2.2 hI2)
    | 4, _ =>
      refine lv_tableIn (off := 312) (tgt := 352) hx hb dL_law_40 (by decide) (by decide) (by decide) (by decide) ?_
      obtain ⟨p1, p2, e1, e2, hI2, hc⟩ := hq4 x y (fun q => xs (6 * j + q)) j (by omega) hI
      exact lw_case_4 C00 ts ks kv sa hE hEX hlt hj hL (fun _ => rfl) e1 e2 hK hP hD hS hl (inc p1.2 p2.2 hI2)
    | 5, _ =>
      refine lv_tableIn (off := 337) (tgt := 377) hx hb dL_law_40 (by decide) (by decide) (by decide) (by decide) ?_
      obtain ⟨p1, p2, e1, e2, hI2, hc⟩ := hq5 x y (fun q => xs (6 * j + q)) j (by omega) hI
      exact lw_case_5 C00 ts ks kv sa hE hEX hlt hj hL (fun _ => rfl) e1 e2 hK hP hD hS hl (inc p1.2 p2.2 hI2)
    | 6, _ =>
      refine lv_tableIn (off := 374) (tgt := 414) hx hb dL_law_40 (by decide) (by decide) (by decide) (by decide) ?_
      obtain ⟨p1, p2, e1, e2, hI2, hc⟩ := hq6 x y (fun q => xs (6 * j + q)) j (by omega) hI
      exact lw_case_6 C00 ts ks kv sa hE hEX hlt hj hL (fun _ => rfl) e1 e2 hK hP hD hS hl (inc p1.2 p2.2 hI2)
    | 7, _ =>
      refine lv_tableIn (off := 414) (tgt := 454) hx hb dL_law_40 (by decide) (by decide) (by decide) (by decide) ?_
      obtain ⟨p1, p2, e1, e2, hI2, hc⟩ := hq7 x y (fun q => xs (6 * j + q)) j (by omega) hI
      exact lw_case_7 C00 ts ks kv sa hE hEX hlt hj hL (fun _ => rfl) e1 e2 hK hP hD hS hl (inc p1.2 p2.2 hI2)
    | 8, _ =>
      refine lv_tableIn (off := 451) (tgt := 491) hx hb dL_law_40 (by decide) (by decide) (by decide) (by decide) ?_
      obtain ⟨p1, p2, e1, e2, hI2, hc⟩ := hq8 x y (fun q => xs (6 * j + q)) j (by omega) hI
      exact lw_case_8 C00 ts ks kv sa hE hEX hlt hj hL (fun _ => rfl) e1 e2 hK hP hD hS hl (inc p1.2 p2.2 hI2)
    | 9, _ =>
      refine lv_tableIn (off := 488) (tgt := 528) hx hb dL_law_40 (by decide) (by decide) (by decide) (by decide) ?_
      obtain ⟨p1, p2, e1, e2, hI2, hc⟩ := hq9 x y (fun q => xs (6 * j + q)) j (by omega) hI
      exact lw_case_9 C00 ts ks kv sa hE hEX hlt hj hL (fun _ => rfl) e1 e2 hK hP hD hS hl (inc p1.2 p2.2 hI2)
    | 10, _ =>
      refine lv_tableIn (off := 525) (tgt := 565) hx hb dL_law_40 (by decide) (by decide) (by decide) (by decide) ?_
      obtain ⟨p1, p2, e1, e2, hI2, hc⟩ := hq10 x y (fun q => xs (6 * j + q)) j (by omega) hI
      exact lw_case_10 C00 ts ks kv sa hE hEX hlt hj hL (fun _ => rfl) e1 e2 hK hP hD hS hl (inc p1.2 p2.2 hI2)
    | 11, _ =>
      refine lv_tableIn (off := 550) (tgt := 590) hx hb dL_law_40 (by decide) (by decide) (by decide) (by decide) ?_
      obtain ⟨p1, p2, e1, e2, hI2, hc⟩ := hq11 x y (fun q => xs (6 * j + q)) j (by omega) hI
      exact lw_case_11 C00 ts ks kv sa hE hEX hlt hj hL (fun _ => rfl) e1 e2 hK hP hD hS hl (inc p1.2 p2.2 hI2)
    | 12, _ =>
      refine lv_tableIn (off := 575) (tgt := 615) hx hb dL_law_40 (by decide) (by decide) (by decide) (by decide) ?_
      obtain ⟨p1, p2, e1, e2, hI2, hc⟩ := hq12 x y (fun q => xs (6 * j + q)) j (by omega) hI
      exact lw_case_12 C00 ts ks kv sa hE hEX hlt hj hL (fun _ => rfl) e1 e2 hK hP hD hS hl (inc p1.2 p2.2 hI2)
    | 13, _ =>
      refine lv_tableIn (off := 624) (tgt := 664) hx hb dL_law_40 (by decide) (by decide) (by decide) (by decide) ?_
      obtain ⟨p1, p2, e1, e2, hI2, hc⟩ := hq13 x y (fun q => xs (6 * j + q)) j (by omega) hI
      exact lw_case_13 C00 ts ks kv sa hE hEX hlt hj hL (fun _ => rfl) e1 e2 hK hP hD hS hl (inc p1.2 p2.2 hI2)
    | 14, _ =>
      refine lv_tableIn (off := 649) (tgt := 689) hx hb dL_law_40 (by decide) (by decide) (by decide) (by decide) ?_
      obtain ⟨p1, p2, e1, e2, hI2, hc⟩ := hq14 x y (fun q => xs (6 * j + q)) j (by omega) hI
      exact lw_case_14 C00 ts ks kv sa hE hEX hlt hj hL (fun _ => rfl) e1 e2 hK hP hD hS hl (inc p1.2 p2.2 hI2)
    | 15, _ =>
      refine lv_tableIn (off := 674) (tgt := 714) hx hb dL_law_40 (by decide) (by decide) (by decide) (by decide) ?_
      obtain ⟨p1, p2, e1, e2, hI2, hc⟩ := hq15 x y (fun q => xs (6 * j + q)) j (by omega) hI
      exact lw_case_15 C00 ts ks kv sa hE hEX hlt hj hL (fun _ => rfl) e1 e2 hK hP hD hS hl (inc p1.2 p2.2 hI2)
    | 16, _ =>
      refine lv_tableIn (off := 699) (tgt := 739) hx hb dL_law_40 (by decide) (by decide) (by decide) (by decide) ?_
      obtain ⟨p1, p2, e1, e2, hI2, hc⟩ := hq16 x y (fun q => xs (6 * j + q)) j (by omega) hI
      exact lw_case_16 C00 ts ks kv sa hE hEX hlt hj hL (fun _ => rfl) e1 e2 hK hP hD hS hl (inc p1.2 p2.2 hI2)
    | 17, _ =>
      refine lv_tableIn (off := 736) (tgt := 776) hx hb dL_law_40 (by decide) (by decide) (by decide) (by decide) ?_
      obtain ⟨p1, p2, e1, e2, hI2, hc⟩ := hq17 x y (fun q => xs (6 * j + q)) j (by omega) hI
      exact lw_case_17 C00 ts ks kv sa hE hEX hlt hj hL (fun _ => rfl) e1 e2 hK hP hD hS hl (inc p1.2 p2.2 hI2)
    | 18, _ =>
      refine lv_tableIn (off := 761) (tgt := 801) hx hb dL_law_40 (by decide) (by decide) (by decide) (by decide) ?_
      obtain ⟨p1, p2, e1, e2, hI2, hc⟩ := hq18 x y (fun q => xs (6 * j + q)) j (by omega) hI
      exact lw_case_18 C00 ts ks kv sa hE hEX hlt hj hL (fun _ => rfl) e1 e2 hK hP hD hS hl (inc p1.2 p2.2 hI2)
    | 19, _ =>
      refine lv_tableIn (off := 786) (tgt := 826) hx hb dL_law_40 (by decide) (by decide) (by decide) (by decide) ?_
      obtain ⟨p1, p2, e1, e2, hI2, hc⟩ := hq19 x y (fun q => xs (6 * j + q)) j (by omega) hI
      exact lw_case_19 C00 ts ks kv sa hE hEX hlt hj hL (fun _ => rfl) e1 e2 hK hP hD hS hl (inc p1.2 p2.2 hI2)
    | 20, _ =>
      refine lv_tableIn (off := 855) (tgt := 895) hx hb dL_law_40 (by decide) (by decide) (by decide) (by decide) ?_
      obtain ⟨p1, p2, e1, e2, hI2, hc⟩ := hq20 x y (fun q => xs (6 * j + q)) j (by omega) hI
      exact lw_case_20 C00 ts ks kv sa hE hEX hlt hj hL (fun _ => rfl) e1 e2 hK hP hD hS hl (inc p1.2 p2.2 hI2)
    | 21, _ =>
      refine lv_tableIn (off := 880) (tgt := 920) hx hb dL_law_40 (by decide) (by decide) (by decide) (by decide) ?_
      obtain ⟨p1, p2, e1, e2, hI2, hc⟩ := hq21 x y (fun q => xs (6 * j + q)) j (by omega) hI
      exact lw_case_21 C00 ts ks kv sa hE hEX hlt hj hL (fun _ => rfl) e1 e2 hK hP hD hS hl (inc p1.2 p2.2 hI2)
    | 22, _ =>
      refine lv_tableIn (off := 893) (tgt := 933) hx hb dL_law_40 (by decide) (by decide) (by decide) (by decide) ?_
      obtain ⟨p1, p2, e1, e2, hI2, hc⟩ := hq22 x y (fun q => xs (6 * j + q)) j (by omega) hI
      exact lw_case_22 C00 ts ks kv sa hE hEX hlt hj hL (fun _ => rfl) e1 e2 hK hP hD hS hl (inc p1.2 p2.2 hI2)
    | 23, _ =>
      refine lv_tableIn (off := 930) (tgt := 970) hx hb dL_law_40 (by decide) (by decide) (by decide) (by decide) ?_
      obtain ⟨p1, p2, e1, e2, hI2, hc⟩ := hq23 x y (fun q => xs (6 * j + q)) j (by omega) hI
      exact lw_case_23 C00 ts ks kv sa hE hEX hlt hj hL (fun _ => rfl) e1 e2 hK hP hD hS hl (inc p1.2 p2.2 hI2)
    | 24, _ =>
      refine lv_tableIn (off := 955) (tgt := 995) hx hb dL_law_40 (by decide) (by decide) (by decide) (by decide) ?_
      obtain ⟨p1, p2, e1, e2, hI2, hc⟩ := hq24 x y (fun q => xs (6 * j + q)) j (by omega) hI
      exact lw_case_24 C00 ts ks kv sa hE hEX hlt hj hL (fun _ => rfl) e1 e2 hK hP hD hS hl (inc p1.2 p2.2 hI2)
    | 25, _ =>
      refine lv_tableIn (off := 992) (tgt := 1032) hx hb dL_law_40 (by decide) (by decide) (by decide) (by decide) ?_
      obtain ⟨p1, p2, e1, e2, hI2, hc⟩ := hq25 x y (fun q => xs (6 * j + q)) j (by omega) hI
      exact lw_case_25 C00 ts ks kv sa hE hEX hlt hj hL (fun _ => rfl) e1 e2 hK hP hD hS hl (inc p1.2 p2.2 hI2)
    | 26, _ =>
      refine lv_tableIn (off := 1005) (tgt := 1045) hx hb dL_law_40 (by decide) (by decide) (by decide) (by decide) ?_
      obtain ⟨p1, p2, e1, e2, hI2, hc⟩ := hq26 x y (fun q => xs (6 * j + q)) j (by omega) hI
      exact lw_case_26 C00 ts ks kv sa hE hEX hlt hj hL (fun _ => rfl) e1 e2 hK hP hD hS hl (inc p1.2 p2.2 hI2)
    | 27, _ =>
      refine lv_tableIn (off := 1030) (tgt := 1070) hx hb dL_law_40 (by decide) (by decide) (by decide) (by decide) ?_
      obtain ⟨p1, p2, e1, e2, hI2, hc⟩ := hq27 x y (fun q => xs (6 * j + q)) j (by omega) hI
      exact lw_case_27 C00 ts ks kv sa hE hEX hlt hj hL (fun _ => rfl) e1 e2 hK hP hD hS hl (inc p1.2 p2.2 hI2)
    | 28, _ =>
      refine lv_tableIn (off := 1055) (tgt := 1095) hx hb dL_law_40 (by decide) (by decide) (by decide) (by decide) ?_
      obtain ⟨p1, p2, e1, e2, hI2, hc⟩ := hq28 x y (fun q => xs (6 * j + q)) j (by omega) hI
      exact lw_case_28 C00 ts ks kv sa hE hEX hlt hj hL (fun _ => rfl) e1 e2 hK hP hD hS hl (inc p1.2 p2.2 hI2)
    | 29, _ =>
      refine lv_tableIn (off := 1080) (tgt := 1120) hx hb dL_law_40 (by decide) (by decide) (by decide) (by decide) ?_
      obtain ⟨p1, p2, e1, e2, hI2, hc⟩ := hq29 x y (fun q => xs (6 * j + q)) j (by omega) hI
      exact lw_case_29 C00 ts ks kv sa hE hEX hlt hj hL (fun _ => rfl) e1 e2 hK hP hD hS hl (inc p1.2 p2.2 hI2)
    | 30, _ =>
      refine lv_tableIn (off := 1117) (tgt := 1157) hx hb dL_law_40 (by decide) (by decide) (by decide) (by decide) ?_
      obtain ⟨p1, p2, e1, e2, hI2, hc⟩ := hq30 x y (fun q => xs (6 * j + q)) j (by omega) hI
      exact lw_case_30 C00 ts ks kv sa hE hEX hlt hj hL (fun _ => rfl) e1 e2 hK hP hD hS hl (inc p1.2 p2.2 hI2)
    | 31, _ =>
      refine lv_tableIn (off := 1166) (tgt := 1206) hx hb dL_law_40 (by decide) (by decide) (by decide) (by decide) ?_
      obtain ⟨p1, p2, e1, e2, hI2, hc⟩ := hq31 x y (fun q => xs (6 * j + q)) j (by omega) hI
      exact lw_case_31 C00 ts ks kv sa hE hEX hlt hj hL (fun _ => rfl) e1 e2 hK hP hD hS hl (inc p1.2 p2.2 hI2)
    | 32, _ =>
      refine lv_tableIn (off := 1203) (tgt := 1243) hx hb dL_law_40 (by decide) (by decide) (by decide) (by decide) ?_
      obtain ⟨p1, p2, e1, e2, hI2, hc⟩ := hq32 x y (fun q => xs (6 * j + q)) j (by omega) hI
      exact lw_case_32 C00 ts ks kv sa hE hEX hlt hj hL (fun _ => rfl) e1 e2 hK hP hD hS hl (inc p1.2 p2.2 hI2)
    | 33, _ =>
      refine lv_tableIn (off := 1228) (tgt := 1268) hx hb dL_law_40 (by decide) (by decide) (by decide) (by decide) ?_
      obtain ⟨p1, p2, e1, e2, hI2, hc⟩ := hq33 x y (fun q => xs (6 * j + q)) j (by omega) hI
      exact lw_case_33 C00 ts ks kv sa hE hEX hlt hj hL (fun _ => rfl) e1 e2 hK hP hD hS hl (inc p1.2 p2.2 hI2)
    | 34, _ =>
      refine lv_tableIn (off := 1253) (tgt := 1293) hx hb dL_law_40 (by decide) (by decide) (by decide) (by decide) ?_
      obtain ⟨p1, p2, e1, e2, hI2, hc⟩ := hq34 x y (fun q => xs (6 * j + q)) j (by omega) hI
      exact lw_case_34 C00 ts ks kv sa hE hEX hlt hj hL (fun _ => rfl) e1 e2 hK hP hD hS hl (inc p1.2 p2.2 hI2)
    | 35, _ =>
      refine lv_tableIn (off := 1266) (tgt := 1306) hx hb dL_law_40 (by decide) (by decide) (by decide) (by decide) ?_
      obtain ⟨p1, p2, e1, e2, hI2, hc⟩ := hq35 x y (fun q => xs (6 * j + q)) j (by omega) hI
      exact lw_case_35 C00 ts ks kv sa hE hEX hlt hj hL (fun _ => rfl) e1 e2 hK hP hD hS hl (inc p1.2 p2.2 hI2)
    | 36, _ =>
      refine lv_tableIn (off := 1279) (tgt := 1319) hx hb dL_law_40 (by decide) (by decide) (by decide) (by decide) ?_
      obtain ⟨p1, p2, e1, e2, hI2, hc⟩ := hq36 x y (fun q => xs (6 * j + q)) j (by omega) hI
      exact lw_case_36 C00 ts ks kv sa hE hEX hlt hj hL (fun _ => rfl) e1 e2 (hc rfl) hK hP hD hS hl (inc p1.2 p2.2 hI2)
    | kk + 37, hkk =>
      refine lv_tableOut (tgt := 1344) hx hb dL_law_40 (Or.inr (by rw [nI_toInt (by omega)]; omega)) (by decide) ?_
      refine W.widen (k := 45 + j + 1) (n := 18169 + 6 * j + 6) (by omega) (by omega) ?_
      exact inc x y (hqd x y j hI) fo H locs ls hP hD hS hl

set_option maxRecDepth 20000 in
theorem g_law_X9_init_15 : GoodIn lw_tbl (wq_X9_init) := fun w h => ⟨q_inC (ws := (wq_X9_init)) [(1, 29), (1, 30), (1, 31), (1, 32), (1, 33), (1, 34), (1, 2), (1, 37), (1, 38), (1, 49), (1, 39), (1, 41), (1, 36), (1, 188), (1, 50), (1, 51), (1, 3), (1, 54), (1, 55), (1, 57), (1, 58), (1, 56), (1, 52), (1, 53), (1, 189), (1, 66), (1, 67), (1, 4), (1, 70), (1, 71), (1, 91), (1, 72), (1, 76), (1, 80), (1, 69), (1, 190), (1, 191), (1, 92), (1, 93), (1, 5), (1, 96), (1, 97), (1, 98), (1, 99), (1, 101), (1, 103), (1, 105), (1, 95), (1, 192), (1, 118), (1, 119), (1, 6), (1, 122), (1, 123), (1, 124), (1, 127), (1, 120), (1, 121), (1, 193), (1, 194), (1, 133), (1, 134), (1, 7), (1, 137), (1, 138), (1, 139), (1, 140), (1, 135), (1, 136), (1, 195), (1, 146), (1, 147), (1, 8), (1, 150), (1, 151), (1, 152), (1, 153), (1, 154), (1, 149), (1, 196), (1, 163), (1, 164), (1, 9), (1, 167), (1, 168), (1, 169), (1, 170), (1, 166), (1, 197), (1, 198), (1, 199), (1, 177), (1, 178), (1, 10), (1, 181), (1, 182), (1, 183), (1, 180), (1, 200), (1, 201), (1, 202), (1, 44), (1, 46), (1, 203), (1, 205), (1, 207), (1, 209), (1, 211), (1, 213), (1, 215), (1, 217), (1, 219), (1, 221), (1, 223), (1, 225), (1, 227), (1, 229), (1, 231), (1, 59), (1, 61), (1, 63), (1, 84), (1, 86), (1, 88), (1, 107), (1, 109), (1, 111), (1, 113), (1, 115), (1, 128), (1, 130), (1, 141), (1, 143), (1, 156), (1, 158), (1, 160), (1, 172), (1, 174), (1, 185)] rfl w h, good_of_word (List.all_eq_true.mp (show List.all (wq_X9_init) goodWord = true by decide +kernel) w h)⟩
set_option maxRecDepth 20000 in
theorem g_law_X10_init_18 : GoodIn lw_tbl (wq_X10_init) := fun w h => ⟨q_inC (ws := (wq_X10_init)) [(5, 94), (5, 95), (1, 31), (1, 32), (1, 91), (5, 97), (5, 101), (5, 102), (5, 104), (5, 105), (5, 107), (5, 108), (5, 110), (5, 111), (5, 112), (5, 115), (5, 116), (5, 117), (5, 118), (5, 120), (5, 122), (5, 124), (5, 126), (5, 128), (5, 130), (5, 132), (5, 134), (5, 136), (5, 138), (5, 140), (5, 142), (5, 144), (5, 146), (5, 148), (5, 150), (5, 152), (5, 154), (5, 156), (5, 158), (5, 160), (5, 162), (5, 164), (5, 166)] rfl w h, good_of_word (List.all_eq_true.mp (show List.all (wq_X10_init) goodWord = true by decide +kernel) w h)⟩
set_option maxHeartbeats 4000000 in
set_option maxRecDepth 100000 in
/-- the law from its entry, open in the pure steps -/
theorem whole_open {p : Program} {e : Env} {s : State} {m : MethodId} {below : List Frame} {meth : Method} {c : Code} (l : Launch) (hflags : l.flags = flags0) {b L : Nat} {xs : Nat → Int32} (hL : L ≤ 3072) (C0 : lw_At p s m meth c b L xs) (Inv : XS → XS → Nat → Prop) (hq0 : q_st false SX_0 SY_0 Inv) (hq1 : q_st false SX_1 SY_1 Inv) (hq2 : q_st false SX_2 SY_2 Inv) (hq3 : q_st false SX_3 SY_3 Inv) (hq4 : q_st false SX_4 SY_4 Inv) (hq5 : q_st false SX_5 SY_5 Inv) (hq6 : q_st false SX_6 SY_6 Inv) (hq7 : q_st false SX_7 SY_7 Inv) (hq8 : q_st false SX_8 SY_8 Inv) (hq9 : q_st false SX_9 SY_9 Inv) (hq10 : q_st false SX_10 SY_10 Inv) (hq11 : q_st false SX_11 SY_11 Inv) (hq12 : q_st false SX_12 SY_12 Inv) (hq13 : q_st false SX_13 SY_13 Inv) (hq14 : q_st false SX_14 SY_14 Inv) (hq15 : q_st false SX_15 SY_15 Inv) (hq16 : q_st false SX_16 SY_16 Inv) (hq17 : q_st false SX_17 SY_17 Inv) (hq18 : q_st false SX_18 SY_18 Inv) (hq19 : q_st false SX_19 SY_19 Inv) (hq20 : q_st false SX_20 SY_20 Inv) (hq21 : q_st false SX_21 SY_21 Inv) (hq22 : q_st false SX_22 SY_22 Inv) (hq23 : q_st false SX_23 SY_23 Inv) (hq24 : q_st false SX_24 SY_24 Inv) (hq25 : q_st false SX_25 SY_25 Inv) (hq26 : q_st false SX_26 SY_26 Inv) (hq27 : q_st false SX_27 SY_27 Inv) (hq28 : q_st false SX_28 SY_28 Inv) (hq29 : q_st false SX_29 SY_29 Inv) (hq30 : q_st false SX_30 SY_30 Inv) (hq31 : q_st false SX_31 SY_31 Inv) (hq32 : q_st false SX_32 SY_32 Inv) (hq33 : q_st false SX_33 SY_33 Inv) (hq34 : q_st false SX_34 SY_34 Inv) (hq35 : q_st false SX_35 SY_35 Inv) (hq36 : q_st true SX_36 SY_36 Inv) (hqd : ∀ x y j, Inv x y j → Inv x y (j + 1)) (hI0 : Inv ((fun _ _ => 0), (fun _ => 0), 0) ((fun _ _ => 0), (fun _ => 0), 0) 0) : W p l e room_1 s m #[Value.ref b] below meth c s.heap [] 0 0 (lw_Z below #[Value.ref b] s) (entryFrame m ([Value.ref b] : List Value).toArray 7) := by
  obtain ⟨hx, hb, hr, hml, hown, hts, hX, hbl, hlocks, hgv⟩ := id C0
  have hown : s.vm.findClass RL = some m.cls := hown
  have hA : ∀ q : Nat, s.heap.size ≤ q → (fun q : Nat => s.heap.size ≤ q) q := fun _ h => h
  have hbA : ¬ (fun q : Nat => s.heap.size ≤ q) b := Nat.not_le.mpr hbl
  have hlt : l.stackTraces = false := by rw [Launch.stackTraces, hflags]; decide +kernel
  have hfl := flat_of_before _ hgv
  obtain ⟨c0, iS0, hKn0⟩ := u_known (C := RX0) (T := TX0) (N := 2) (n := 2) hts iL_0 (hts (.instantiable RX0 2) (lw_chin 1 _ (List.mem_of_getElem? (i := 119) rfl)))
  obtain ⟨c1, iS1, hKn1⟩ := u_known (C := RX1) (T := TX1) (N := 2) (n := 2) hts iL_1 (hts (.instantiable RX1 2) (lw_chin 1 _ (List.mem_of_getElem? (i := 164) rfl)))
  obtain ⟨c2, iS2, hKn2⟩ := u_known (C := RX2) (T := TX2) (N := 1) (n := 1) hts iL_2 (hts (.instantiable RX2 1) (lw_chin 1 _ (List.mem_of_getElem? (i := 178) rfl)))
  obtain ⟨c3, iS3, hKn3⟩ := u_known (C := RX3) (T := TX3) (N := 2) (n := 2) hts iL_3 (hts (.instantiable RX3 2) (lw_chin 1 _ (List.mem_of_getElem? (i := 134) rfl)))
  obtain ⟨c4, iS4, hKn4⟩ := u_known (C := RX4) (T := TX4) (N := 3) (n := 3) hts iL_4 (hts (.instantiable RX4 3) (lw_chin 1 _ (List.mem_of_getElem? (i := 147) rfl)))
  obtain ⟨c5, iS5, hKn5⟩ := u_known (C := RX5) (T := TX5) (N := 3) (n := 3) hts iL_5 (hts (.instantiable RX5 3) (lw_chin 1 _ (List.mem_of_getElem? (i := 67) rfl)))
  obtain ⟨c6, iS6, hKn6⟩ := u_known (C := RX6) (T := TX6) (N := 3) (n := 3) hts iL_6 (hts (.instantiable RX6 3) (lw_chin 1 _ (List.mem_of_getElem? (i := 51) rfl)))
  obtain ⟨c7, iS7, hKn7⟩ := u_known (C := RX7) (T := TX7) (N := 5) (n := 5) hts iL_7 (hts (.instantiable RX7 5) (lw_chin 1 _ (List.mem_of_getElem? (i := 93) rfl)))
  obtain ⟨c8, iS8, hKn8⟩ := u_known (C := RX8) (T := TX8) (N := 2) (n := 2) hts iL_8 (hts (.instantiable RX8 2) (lw_chin 1 _ (List.mem_of_getElem? (i := 34) rfl)))
  obtain ⟨c9, iS9, hKn9⟩ := u_known (C := RX9) (T := TX9) (N := 15) (n := 15) hts iL_9 (hts (.instantiable RX9 15) (lw_chin 1 _ (List.mem_of_getElem? (i := 26) rfl)))
  obtain ⟨c10, iS10, hKn10⟩ := u_known (C := RX10) (T := TX10) (N := 24) (n := 24) hts iL_10 (hts (.instantiable RX10 24) (lw_chin 5 _ (List.mem_of_getElem? (i := 91) rfl)))
  obtain ⟨dC, dI, hKc⟩ : ∃ (dC : Nat → ClassId) (dI : Nat → Nat → Nat), ∀ (k : Nat) (q : vw_C), vwCl[k]? = some q → u_Kn s q.1 q.2.1 q.2.2 (dC k) (dI k) := by
    refine ⟨fun k => [c0, c1, c2, c3, c4, c5, c6, c7, c8, c9, c10].getD k 0, fun k => [iS0, iS1, iS2, iS3, iS4, iS5, iS6, iS7, iS8, iS9, iS10].getD k (fun _ => 0), ?_⟩
    intro k q hq
    match k, hq with
    | 0, hq => cases hq; exact hKn0
    | 1, hq => cases hq; exact hKn1
    | 2, hq => cases hq; exact hKn2
    | 3, hq => cases hq; exact hKn3
    | 4, hq => cases hq; exact hKn4
    | 5, hq => cases hq; exact hKn5
    | 6, hq => cases hq; exact hKn6
    | 7, hq => cases hq; exact hKn7
    | 8, hq => cases hq; exact hKn8
    | 9, hq => cases hq; exact hKn9
    | 10, hq => cases hq; exact hKn10
    | k + 11, hq => simp [vwCl] at hq
  obtain ⟨t0, ht0, hT0⟩ := va_Tof (tm := (.static "HubTree" "RULE_LOWS" "[I")) (ty := .int) (N := 8) (f := fun j => .int (q_tab 0 j)) (A := (fun q : Nat => s.heap.size ≤ q)) (by decide) (hfl (.arrayOf (.static "HubTree" "RULE_LOWS" "[I") .int) (by decide +kernel)) (va_eqt (hfl (.eq (.length (.static "HubTree" "RULE_LOWS" "[I")) (.int 8)) (by decide +kernel))) (fun j hj => by
    match j, hj with
    | 0, _ => exact va_eqt (hfl (.eq (.elem (.static "HubTree" "RULE_LOWS" "[I") (.int 0)) (.int 1)) (by decide +kernel))
    | 1, _ => exact va_eqt (hfl (.eq (.elem (.static "HubTree" "RULE_LOWS" "[I") (.int 1)) (.int 1)) (by decide +kernel))
    | 2, _ => exact va_eqt (hfl (.eq (.elem (.static "HubTree" "RULE_LOWS" "[I") (.int 2)) (.int 1)) (by decide +kernel))
    | 3, _ => exact va_eqt (hfl (.eq (.elem (.static "HubTree" "RULE_LOWS" "[I") (.int 3)) (.int 1)) (by decide +kernel))
    | 4, _ => exact va_eqt (hfl (.eq (.elem (.static "HubTree" "RULE_LOWS" "[I") (.int 4)) (.int 1)) (by decide +kernel))
    | 5, _ => exact va_eqt (hfl (.eq (.elem (.static "HubTree" "RULE_LOWS" "[I") (.int 5)) (.int 20)) (by decide +kernel))
    | 6, _ => exact va_eqt (hfl (.eq (.elem (.static "HubTree" "RULE_LOWS" "[I") (.int 6)) (.int 10)) (by decide +kernel))
    | 7, _ => exact va_eqt (hfl (.eq (.elem (.static "HubTree" "RULE_LOWS" "[I") (.int 7)) (.int 1)) (by decide +kernel))) (fun _ h => Nat.not_le.mpr h)
  obtain ⟨t1, ht1, hT1⟩ := va_Tof (tm := (.static "HubTree" "RULE_HIGHS" "[I")) (ty := .int) (N := 8) (f := fun j => .int (q_tab 1 j)) (A := (fun q : Nat => s.heap.size ≤ q)) (by decide) (hfl (.arrayOf (.static "HubTree" "RULE_HIGHS" "[I") .int) (by decide +kernel)) (va_eqt (hfl (.eq (.length (.static "HubTree" "RULE_HIGHS" "[I")) (.int 8)) (by decide +kernel))) (fun j hj => by
    match j, hj with
    | 0, _ => exact va_eqt (hfl (.eq (.elem (.static "HubTree" "RULE_HIGHS" "[I") (.int 0)) (.int 4)) (by decide +kernel))
    | 1, _ => exact va_eqt (hfl (.eq (.elem (.static "HubTree" "RULE_HIGHS" "[I") (.int 1)) (.int 9)) (by decide +kernel))
    | 2, _ => exact va_eqt (hfl (.eq (.elem (.static "HubTree" "RULE_HIGHS" "[I") (.int 2)) (.int 9)) (by decide +kernel))
    | 3, _ => exact va_eqt (hfl (.eq (.elem (.static "HubTree" "RULE_HIGHS" "[I") (.int 3)) (.int 5)) (by decide +kernel))
    | 4, _ => exact va_eqt (hfl (.eq (.elem (.static "HubTree" "RULE_HIGHS" "[I") (.int 4)) (.int 9)) (by decide +kernel))
    | 5, _ => exact va_eqt (hfl (.eq (.elem (.static "HubTree" "RULE_HIGHS" "[I") (.int 5)) (.int 200)) (by decide +kernel))
    | 6, _ => exact va_eqt (hfl (.eq (.elem (.static "HubTree" "RULE_HIGHS" "[I") (.int 6)) (.int 99)) (by decide +kernel))
    | 7, _ => exact va_eqt (hfl (.eq (.elem (.static "HubTree" "RULE_HIGHS" "[I") (.int 7)) (.int 9)) (by decide +kernel))) (fun _ h => Nat.not_le.mpr h)
  obtain ⟨t2, ht2, hT2⟩ := va_Tof (tm := (.static "HubTree" "RULE_USUAL" "[I")) (ty := .int) (N := 8) (f := fun j => .int (q_tab 2 j)) (A := (fun q : Nat => s.heap.size ≤ q)) (by decide) (hfl (.arrayOf (.static "HubTree" "RULE_USUAL" "[I") .int) (by decide +kernel)) (va_eqt (hfl (.eq (.length (.static "HubTree" "RULE_USUAL" "[I")) (.int 8)) (by decide +kernel))) (fun j hj => by
    match j, hj with
    | 0, _ => exact va_eqt (hfl (.eq (.elem (.static "HubTree" "RULE_USUAL" "[I") (.int 0)) (.int 4)) (by decide +kernel))
    | 1, _ => exact va_eqt (hfl (.eq (.elem (.static "HubTree" "RULE_USUAL" "[I") (.int 1)) (.int 3)) (by decide +kernel))
    | 2, _ => exact va_eqt (hfl (.eq (.elem (.static "HubTree" "RULE_USUAL" "[I") (.int 2)) (.int 2)) (by decide +kernel))
    | 3, _ => exact va_eqt (hfl (.eq (.elem (.static "HubTree" "RULE_USUAL" "[I") (.int 3)) (.int 2)) (by decide +kernel))
    | 4, _ => exact va_eqt (hfl (.eq (.elem (.static "HubTree" "RULE_USUAL" "[I") (.int 4)) (.int 5)) (by decide +kernel))
    | 5, _ => exact va_eqt (hfl (.eq (.elem (.static "HubTree" "RULE_USUAL" "[I") (.int 5)) (.int 99)) (by decide +kernel))
    | 6, _ => exact va_eqt (hfl (.eq (.elem (.static "HubTree" "RULE_USUAL" "[I") (.int 6)) (.int 60)) (by decide +kernel))
    | 7, _ => exact va_eqt (hfl (.eq (.elem (.static "HubTree" "RULE_USUAL" "[I") (.int 7)) (.int 9)) (by decide +kernel))) (fun _ h => Nat.not_le.mpr h)
  obtain ⟨t3, ht3, hT3⟩ := va_Tof (tm := (.static "HubTree" "TOLD_LOWS" "[I")) (ty := .int) (N := 6) (f := fun j => .int (q_tab 3 j)) (A := (fun q : Nat => s.heap.size ≤ q)) (by decide) (hfl (.arrayOf (.static "HubTree" "TOLD_LOWS" "[I") .int) (by decide +kernel)) (va_eqt (hfl (.eq (.length (.static "HubTree" "TOLD_LOWS" "[I")) (.int 6)) (by decide +kernel))) (fun j hj => by
    match j, hj with
    | 0, _ => exact va_eqt (hfl (.eq (.elem (.static "HubTree" "TOLD_LOWS" "[I") (.int 0)) (.int 0)) (by decide +kernel))
    | 1, _ => exact va_eqt (hfl (.eq (.elem (.static "HubTree" "TOLD_LOWS" "[I") (.int 1)) (.int 0)) (by decide +kernel))
    | 2, _ => exact va_eqt (hfl (.eq (.elem (.static "HubTree" "TOLD_LOWS" "[I") (.int 2)) (.int 0)) (by decide +kernel))
    | 3, _ => exact va_eqt (hfl (.eq (.elem (.static "HubTree" "TOLD_LOWS" "[I") (.int 3)) (.int 0)) (by decide +kernel))
    | 4, _ => exact va_eqt (hfl (.eq (.elem (.static "HubTree" "TOLD_LOWS" "[I") (.int 4)) (.int 0)) (by decide +kernel))
    | 5, _ => exact va_eqt (hfl (.eq (.elem (.static "HubTree" "TOLD_LOWS" "[I") (.int 5)) (.int 0)) (by decide +kernel))) (fun _ h => Nat.not_le.mpr h)
  obtain ⟨t4, ht4, hT4⟩ := va_Tof (tm := (.static "HubTree" "TOLD_HIGHS" "[I")) (ty := .int) (N := 6) (f := fun j => .int (q_tab 4 j)) (A := (fun q : Nat => s.heap.size ≤ q)) (by decide) (hfl (.arrayOf (.static "HubTree" "TOLD_HIGHS" "[I") .int) (by decide +kernel)) (va_eqt (hfl (.eq (.length (.static "HubTree" "TOLD_HIGHS" "[I")) (.int 6)) (by decide +kernel))) (fun j hj => by
    match j, hj with
    | 0, _ => exact va_eqt (hfl (.eq (.elem (.static "HubTree" "TOLD_HIGHS" "[I") (.int 0)) (.int 4)) (by decide +kernel))
    | 1, _ => exact va_eqt (hfl (.eq (.elem (.static "HubTree" "TOLD_HIGHS" "[I") (.int 1)) (.int 2)) (by decide +kernel))
    | 2, _ => exact va_eqt (hfl (.eq (.elem (.static "HubTree" "TOLD_HIGHS" "[I") (.int 2)) (.int 9)) (by decide +kernel))
    | 3, _ => exact va_eqt (hfl (.eq (.elem (.static "HubTree" "TOLD_HIGHS" "[I") (.int 3)) (.int 1)) (by decide +kernel))
    | 4, _ => exact va_eqt (hfl (.eq (.elem (.static "HubTree" "TOLD_HIGHS" "[I") (.int 4)) (.int 99)) (by decide +kernel))
    | 5, _ => exact va_eqt (hfl (.eq (.elem (.static "HubTree" "TOLD_HIGHS" "[I") (.int 5)) (.int 3)) (by decide +kernel))) (fun _ h => Nat.not_le.mpr h)
  obtain ⟨t5, ht5, hT5⟩ := va_Tof (tm := (.static "HubTree" "TOLD_USUAL" "[I")) (ty := .int) (N := 6) (f := fun j => .int (q_tab 5 j)) (A := (fun q : Nat => s.heap.size ≤ q)) (by decide) (hfl (.arrayOf (.static "HubTree" "TOLD_USUAL" "[I") .int) (by decide +kernel)) (va_eqt (hfl (.eq (.length (.static "HubTree" "TOLD_USUAL" "[I")) (.int 6)) (by decide +kernel))) (fun j hj => by
    match j, hj with
    | 0, _ => exact va_eqt (hfl (.eq (.elem (.static "HubTree" "TOLD_USUAL" "[I") (.int 0)) (.int 0)) (by decide +kernel))
    | 1, _ => exact va_eqt (hfl (.eq (.elem (.static "HubTree" "TOLD_USUAL" "[I") (.int 1)) (.int 1)) (by decide +kernel))
    | 2, _ => exact va_eqt (hfl (.eq (.elem (.static "HubTree" "TOLD_USUAL" "[I") (.int 2)) (.int 1)) (by decide +kernel))
    | 3, _ => exact va_eqt (hfl (.eq (.elem (.static "HubTree" "TOLD_USUAL" "[I") (.int 3)) (.int 0)) (by decide +kernel))
    | 4, _ => exact va_eqt (hfl (.eq (.elem (.static "HubTree" "TOLD_USUAL" "[I") (.int 4)) (.int 4)) (by decide +kernel))
    | 5, _ => exact va_eqt (hfl (.eq (.elem (.static "HubTree" "TOLD_USUAL" "[I") (.int 5)) (.int 0)) (by decide +kernel))) (fun _ h => Nat.not_le.mpr h)
  obtain ⟨t6, ht6, hT6⟩ := va_Tof (tm := (.static "HubTree" "STEP_NUMBERS" "[I")) (ty := .int) (N := 6) (f := fun j => .int (q_tab 6 j)) (A := (fun q : Nat => s.heap.size ≤ q)) (by decide) (hfl (.arrayOf (.static "HubTree" "STEP_NUMBERS" "[I") .int) (by decide +kernel)) (va_eqt (hfl (.eq (.length (.static "HubTree" "STEP_NUMBERS" "[I")) (.int 6)) (by decide +kernel))) (fun j hj => by
    match j, hj with
    | 0, _ => exact va_eqt (hfl (.eq (.elem (.static "HubTree" "STEP_NUMBERS" "[I") (.int 0)) (.int 3)) (by decide +kernel))
    | 1, _ => exact va_eqt (hfl (.eq (.elem (.static "HubTree" "STEP_NUMBERS" "[I") (.int 1)) (.int 1)) (by decide +kernel))
    | 2, _ => exact va_eqt (hfl (.eq (.elem (.static "HubTree" "STEP_NUMBERS" "[I") (.int 2)) (.int 1)) (by decide +kernel))
    | 3, _ => exact va_eqt (hfl (.eq (.elem (.static "HubTree" "STEP_NUMBERS" "[I") (.int 3)) (.int 1)) (by decide +kernel))
    | 4, _ => exact va_eqt (hfl (.eq (.elem (.static "HubTree" "STEP_NUMBERS" "[I") (.int 4)) (.int 2)) (by decide +kernel))
    | 5, _ => exact va_eqt (hfl (.eq (.elem (.static "HubTree" "STEP_NUMBERS" "[I") (.int 5)) (.int 1)) (by decide +kernel))) (fun _ h => Nat.not_le.mpr h)
  obtain ⟨t7, ht7, hT7⟩ := va_Tof (tm := (.static "HubTree" "STEP_SORTS" "[I")) (ty := .int) (N := 6) (f := fun j => .int (q_tab 7 j)) (A := (fun q : Nat => s.heap.size ≤ q)) (by decide) (hfl (.arrayOf (.static "HubTree" "STEP_SORTS" "[I") .int) (by decide +kernel)) (va_eqt (hfl (.eq (.length (.static "HubTree" "STEP_SORTS" "[I")) (.int 6)) (by decide +kernel))) (fun j hj => by
    match j, hj with
    | 0, _ => exact va_eqt (hfl (.eq (.elem (.static "HubTree" "STEP_SORTS" "[I") (.int 0)) (.int 0)) (by decide +kernel))
    | 1, _ => exact va_eqt (hfl (.eq (.elem (.static "HubTree" "STEP_SORTS" "[I") (.int 1)) (.int 1)) (by decide +kernel))
    | 2, _ => exact va_eqt (hfl (.eq (.elem (.static "HubTree" "STEP_SORTS" "[I") (.int 2)) (.int 2)) (by decide +kernel))
    | 3, _ => exact va_eqt (hfl (.eq (.elem (.static "HubTree" "STEP_SORTS" "[I") (.int 3)) (.int 3)) (by decide +kernel))
    | 4, _ => exact va_eqt (hfl (.eq (.elem (.static "HubTree" "STEP_SORTS" "[I") (.int 4)) (.int 4)) (by decide +kernel))
    | 5, _ => exact va_eqt (hfl (.eq (.elem (.static "HubTree" "STEP_SORTS" "[I") (.int 5)) (.int 6)) (by decide +kernel))) (fun _ h => Nat.not_le.mpr h)
  have hZc : va_Z "java/lang/String" "COMPACT_STRINGS" "Z" (.int 1) (fun q : Nat => s.heap.size ≤ q) s s.heap := va_Zof (hts (.laysStatic "java/lang/String" "COMPACT_STRINGS" "Z") (lw_chin 2 _ (List.mem_of_getElem? (i := 52) rfl))) (hts (.initialized "java/lang/String") (lw_chin 1 _ (List.mem_of_getElem? (i := 13) rfl))) (va_eqi (hfl (.eq (.static "java/lang/String" "COMPACT_STRINGS" "Z") (.int 1)) (by decide +kernel))) (fun _ h => Nat.not_le.mpr h)
  obtain ⟨ks, kv, hSt, hks⟩ := vk_Sof (N := 3) (tm := fun i => .string "HubTree$Reader" ([34, 56, 104].getD i 0)) (len := q_sl) (byt := q_sb) (A := (fun q : Nat => s.heap.size ≤ q)) (fun i hi => by
    match i, hi with
    | 0, _ => decide
    | 1, _ => decide
    | 2, _ => decide) (fun i hi => by
    match i, hi with
    | 0, _ => exact hfl (.exactly (.string "HubTree$Reader" 34) "java/lang/String") (by decide +kernel)
    | 1, _ => exact hfl (.exactly (.string "HubTree$Reader" 56) "java/lang/String") (by decide +kernel)
    | 2, _ => exact hfl (.exactly (.string "HubTree$Reader" 104) "java/lang/String") (by decide +kernel)) (fun i hi => by
    match i, hi with
    | 0, _ => exact hfl (.eq (.field (.string "HubTree$Reader" 34) "java/lang/String" "coder" "B") (.int 0)) (by decide +kernel)
    | 1, _ => exact hfl (.eq (.field (.string "HubTree$Reader" 56) "java/lang/String" "coder" "B") (.int 0)) (by decide +kernel)
    | 2, _ => exact hfl (.eq (.field (.string "HubTree$Reader" 104) "java/lang/String" "coder" "B") (.int 0)) (by decide +kernel)) (fun i hi => by
    match i, hi with
    | 0, _ => exact hfl (.arrayOf (.field (.string "HubTree$Reader" 34) "java/lang/String" "value" "[B") .byte) (by decide +kernel)
    | 1, _ => exact hfl (.arrayOf (.field (.string "HubTree$Reader" 56) "java/lang/String" "value" "[B") .byte) (by decide +kernel)
    | 2, _ => exact hfl (.arrayOf (.field (.string "HubTree$Reader" 104) "java/lang/String" "value" "[B") .byte) (by decide +kernel)) (fun i hi => by
    match i, hi with
    | 0, _ => exact hfl (.eq (.length (.field (.string "HubTree$Reader" 34) "java/lang/String" "value" "[B")) (.int 8)) (by decide +kernel)
    | 1, _ => exact hfl (.eq (.length (.field (.string "HubTree$Reader" 56) "java/lang/String" "value" "[B")) (.int 6)) (by decide +kernel)
    | 2, _ => exact hfl (.eq (.length (.field (.string "HubTree$Reader" 104) "java/lang/String" "value" "[B")) (.int 6)) (by decide +kernel)) (fun i hi j hj => by
    match i, hi with
    | 0, _ =>
      match j, hj with
      | 0, _ => exact hfl (.eq (.elem (.field (.string "HubTree$Reader" 34) "java/lang/String" "value" "[B") (.int 0)) (.int 110)) (by decide +kernel)
      | 1, _ => exact hfl (.eq (.elem (.field (.string "HubTree$Reader" 34) "java/lang/String" "value" "[B") (.int 1)) (.int 100)) (by decide +kernel)
      | 2, _ => exact hfl (.eq (.elem (.field (.string "HubTree$Reader" 34) "java/lang/String" "value" "[B") (.int 2)) (.int 114)) (by decide +kernel)
      | 3, _ => exact hfl (.eq (.elem (.field (.string "HubTree$Reader" 34) "java/lang/String" "value" "[B") (.int 3)) (.int 121)) (by decide +kernel)
      | 4, _ => exact hfl (.eq (.elem (.field (.string "HubTree$Reader" 34) "java/lang/String" "value" "[B") (.int 4)) (.int 112)) (by decide +kernel)
      | 5, _ => exact hfl (.eq (.elem (.field (.string "HubTree$Reader" 34) "java/lang/String" "value" "[B") (.int 5)) (.int 109)) (by decide +kernel)
      | 6, _ => exact hfl (.eq (.elem (.field (.string "HubTree$Reader" 34) "java/lang/String" "value" "[B") (.int 6)) (.int 104)) (by decide +kernel)
      | 7, _ => exact hfl (.eq (.elem (.field (.string "HubTree$Reader" 34) "java/lang/String" "value" "[B") (.int 7)) (.int 97)) (by decide +kernel)
    | 1, _ =>
      match j, hj with
      | 0, _ => exact hfl (.eq (.elem (.field (.string "HubTree$Reader" 56) "java/lang/String" "value" "[B") (.int 0)) (.int 110)) (by decide +kernel)
      | 1, _ => exact hfl (.eq (.elem (.field (.string "HubTree$Reader" 56) "java/lang/String" "value" "[B") (.int 1)) (.int 115)) (by decide +kernel)
      | 2, _ => exact hfl (.eq (.elem (.field (.string "HubTree$Reader" 56) "java/lang/String" "value" "[B") (.int 2)) (.int 117)) (by decide +kernel)
      | 3, _ => exact hfl (.eq (.elem (.field (.string "HubTree$Reader" 56) "java/lang/String" "value" "[B") (.int 3)) (.int 111)) (by decide +kernel)
      | 4, _ => exact hfl (.eq (.elem (.field (.string "HubTree$Reader" 56) "java/lang/String" "value" "[B") (.int 4)) (.int 98)) (by decide +kernel)
      | 5, _ => exact hfl (.eq (.elem (.field (.string "HubTree$Reader" 56) "java/lang/String" "value" "[B") (.int 5)) (.int 101)) (by decide +kernel)
    | 2, _ =>
      match j, hj with
      | 0, _ => exact hfl (.eq (.elem (.field (.string "HubTree$Reader" 104) "java/lang/String" "value" "[B") (.int 0)) (.int 112)) (by decide +kernel)
      | 1, _ => exact hfl (.eq (.elem (.field (.string "HubTree$Reader" 104) "java/lang/String" "value" "[B") (.int 1)) (.int 117)) (by decide +kernel)
      | 2, _ => exact hfl (.eq (.elem (.field (.string "HubTree$Reader" 104) "java/lang/String" "value" "[B") (.int 2)) (.int 116)) (by decide +kernel)
      | 3, _ => exact hfl (.eq (.elem (.field (.string "HubTree$Reader" 104) "java/lang/String" "value" "[B") (.int 3)) (.int 111)) (by decide +kernel)
      | 4, _ => exact hfl (.eq (.elem (.field (.string "HubTree$Reader" 104) "java/lang/String" "value" "[B") (.int 4)) (.int 101)) (by decide +kernel)
      | 5, _ => exact hfl (.eq (.elem (.field (.string "HubTree$Reader" 104) "java/lang/String" "value" "[B") (.int 5)) (.int 122)) (by decide +kernel)) (fun i j hi hj hij => by
    match i, j, hi, hj with
    | 0, 0, _, _ => exact absurd rfl hij
    | 0, 1, _, _ => first | exact Or.inl (hfl (.not (.eq (.string "HubTree$Reader" 34) (.string "HubTree$Reader" 56))) (by decide +kernel)) | exact Or.inr (hfl (.not (.eq (.string "HubTree$Reader" 56) (.string "HubTree$Reader" 34))) (by decide +kernel))
    | 0, 2, _, _ => first | exact Or.inl (hfl (.not (.eq (.string "HubTree$Reader" 34) (.string "HubTree$Reader" 104))) (by decide +kernel)) | exact Or.inr (hfl (.not (.eq (.string "HubTree$Reader" 104) (.string "HubTree$Reader" 34))) (by decide +kernel))
    | 1, 0, _, _ => first | exact Or.inl (hfl (.not (.eq (.string "HubTree$Reader" 56) (.string "HubTree$Reader" 34))) (by decide +kernel)) | exact Or.inr (hfl (.not (.eq (.string "HubTree$Reader" 34) (.string "HubTree$Reader" 56))) (by decide +kernel))
    | 1, 1, _, _ => exact absurd rfl hij
    | 1, 2, _, _ => first | exact Or.inl (hfl (.not (.eq (.string "HubTree$Reader" 56) (.string "HubTree$Reader" 104))) (by decide +kernel)) | exact Or.inr (hfl (.not (.eq (.string "HubTree$Reader" 104) (.string "HubTree$Reader" 56))) (by decide +kernel))
    | 2, 0, _, _ => first | exact Or.inl (hfl (.not (.eq (.string "HubTree$Reader" 104) (.string "HubTree$Reader" 34))) (by decide +kernel)) | exact Or.inr (hfl (.not (.eq (.string "HubTree$Reader" 34) (.string "HubTree$Reader" 104))) (by decide +kernel))
    | 2, 1, _, _ => first | exact Or.inl (hfl (.not (.eq (.string "HubTree$Reader" 104) (.string "HubTree$Reader" 56))) (by decide +kernel)) | exact Or.inr (hfl (.not (.eq (.string "HubTree$Reader" 56) (.string "HubTree$Reader" 104))) (by decide +kernel))
    | 2, 2, _, _ => exact absurd rfl hij) (fun _ h => Nat.not_le.mpr h)
  have hE : q_S (fun k => [t0, t1, t2, t3, t4, t5, t6, t7].getD k 0) ks kv (fun q : Nat => s.heap.size ≤ q) s := ⟨⟨va_Nw.of rfl (hts (.fieldLinkNest RX6 36 "HubTree" "RULE_LOWS" "[I" "HubTree") (lw_chin 2 _ (List.mem_of_getElem? (i := 35) rfl))), va_Nw.of rfl (hts (.fieldLinkNest RX6 40 "HubTree" "RULE_HIGHS" "[I" "HubTree") (lw_chin 2 _ (List.mem_of_getElem? (i := 37) rfl))), va_Nw.of rfl (hts (.fieldLinkNest RX5 22 "HubTree" "RULE_USUAL" "[I" "HubTree") (lw_chin 2 _ (List.mem_of_getElem? (i := 21) rfl))), va_Nw.of rfl (hts (.fieldLinkNest RX6 58 "HubTree" "TOLD_LOWS" "[I" "HubTree") (lw_chin 2 _ (List.mem_of_getElem? (i := 149) rfl))), va_Nw.of rfl (hts (.fieldLinkNest RX6 61 "HubTree" "TOLD_HIGHS" "[I" "HubTree") (lw_chin 2 _ (List.mem_of_getElem? (i := 151) rfl))), va_Nw.of rfl (hts (.fieldLinkNest RX5 31 "HubTree" "TOLD_USUAL" "[I" "HubTree") (lw_chin 2 _ (List.mem_of_getElem? (i := 146) rfl))), va_Nw.of rfl (hts (.fieldLinkNest RX6 113 "HubTree" "STEP_NUMBERS" "[I" "HubTree") (lw_chin 2 _ (List.mem_of_getElem? (i := 169) rfl))), va_Nw.of rfl (hts (.fieldLinkNest RX7 38 "HubTree" "STEP_SORTS" "[I" "HubTree") (lw_chin 4 _ (List.mem_of_getElem? (i := 205) rfl)))⟩, fun k hk => by
    match k, hk with
    | 0, _ => exact ⟨va_Zref (hts (.laysStatic "HubTree" "RULE_LOWS" "[I") (lw_chin 2 _ (List.mem_of_getElem? (i := 36) rfl))) (hts (.initialized "HubTree") (lw_chin 1 _ (List.mem_of_getElem? (i := 1) rfl))) ht0 (fun _ h => Nat.not_le.mpr h), hT0⟩
    | 1, _ => exact ⟨va_Zref (hts (.laysStatic "HubTree" "RULE_HIGHS" "[I") (lw_chin 2 _ (List.mem_of_getElem? (i := 38) rfl))) (hts (.initialized "HubTree") (lw_chin 1 _ (List.mem_of_getElem? (i := 1) rfl))) ht1 (fun _ h => Nat.not_le.mpr h), hT1⟩
    | 2, _ => exact ⟨va_Zref (hts (.laysStatic "HubTree" "RULE_USUAL" "[I") (lw_chin 2 _ (List.mem_of_getElem? (i := 22) rfl))) (hts (.initialized "HubTree") (lw_chin 1 _ (List.mem_of_getElem? (i := 1) rfl))) ht2 (fun _ h => Nat.not_le.mpr h), hT2⟩
    | 3, _ => exact ⟨va_Zref (hts (.laysStatic "HubTree" "TOLD_LOWS" "[I") (lw_chin 2 _ (List.mem_of_getElem? (i := 150) rfl))) (hts (.initialized "HubTree") (lw_chin 1 _ (List.mem_of_getElem? (i := 1) rfl))) ht3 (fun _ h => Nat.not_le.mpr h), hT3⟩
    | 4, _ => exact ⟨va_Zref (hts (.laysStatic "HubTree" "TOLD_HIGHS" "[I") (lw_chin 2 _ (List.mem_of_getElem? (i := 152) rfl))) (hts (.initialized "HubTree") (lw_chin 1 _ (List.mem_of_getElem? (i := 1) rfl))) ht4 (fun _ h => Nat.not_le.mpr h), hT4⟩
    | 5, _ => exact ⟨va_Zref (hts (.laysStatic "HubTree" "TOLD_USUAL" "[I") (lw_chin 2 _ (List.mem_of_getElem? (i := 147) rfl))) (hts (.initialized "HubTree") (lw_chin 1 _ (List.mem_of_getElem? (i := 1) rfl))) ht5 (fun _ h => Nat.not_le.mpr h), hT5⟩
    | 6, _ => exact ⟨va_Zref (hts (.laysStatic "HubTree" "STEP_NUMBERS" "[I") (lw_chin 2 _ (List.mem_of_getElem? (i := 170) rfl))) (hts (.initialized "HubTree") (lw_chin 1 _ (List.mem_of_getElem? (i := 1) rfl))) ht6 (fun _ h => Nat.not_le.mpr h), hT6⟩
    | 7, _ => exact ⟨va_Zref (hts (.laysStatic "HubTree" "STEP_SORTS" "[I") (lw_chin 4 _ (List.mem_of_getElem? (i := 206) rfl))) (hts (.initialized "HubTree") (lw_chin 1 _ (List.mem_of_getElem? (i := 1) rfl))) ht7 (fun _ h => Nat.not_le.mpr h), hT7⟩, ⟨vk_R.of (hts (.stringRef "HubTree$Reader" 34 "ndrypmha") (lw_chin 2 _ (List.mem_of_getElem? (i := 34) rfl))) (hks 0 (by decide)), vk_R.of (hts (.stringRef "HubTree$Reader" 56 "nsuobe") (lw_chin 2 _ (List.mem_of_getElem? (i := 148) rfl))) (hks 1 (by decide)), vk_R.of (hts (.stringRef "HubTree$Reader" 104 "putoez") (lw_chin 2 _ (List.mem_of_getElem? (i := 164) rfl))) (hks 2 (by decide))⟩, hSt, hZc⟩
  have hEN : q_EN s := ⟨va_Nw.of rfl (hts (.methodLinkNest RX9 11 yX8_init "HubTree") (lw_chin 1 _ (List.mem_of_getElem? (i := 35) rfl))), va_Nw.of rfl (hts (.methodLinkNest RX9 27 yX5_init "HubTree") (lw_chin 1 _ (List.mem_of_getElem? (i := 68) rfl))), va_Nw.of rfl (hts (.methodLinkNest RX9 37 yX7_init "HubTree") (lw_chin 1 _ (List.mem_of_getElem? (i := 94) rfl))), va_Nw.of rfl (hts (.methodLinkNest RX9 65 yX4_init "HubTree") (lw_chin 1 _ (List.mem_of_getElem? (i := 148) rfl))), va_Nw.of rfl (hts (.methodLinkNest RX9 72 yX1_init "HubTree") (lw_chin 1 _ (List.mem_of_getElem? (i := 165) rfl))), va_Nw.of rfl (hts (.methodLinkNest RX9 85 yX2_init "HubTree") (lw_chin 1 _ (List.mem_of_getElem? (i := 179) rfl)))⟩
  obtain ⟨sa, -, -, -, hsa, -⟩ := Cond.exactly_spec (show (Cond.exactly (.string "HubTree" 163) "java/lang/String").holds #[Value.ref b] s none s [] = true from hfl (.exactly (.string "HubTree" 163) "java/lang/String") (by decide +kernel))
  have hEX : q_X sa s := ⟨vx_Zqof (hts (.laysStatic Bundle.tN "UNASSIGNED_STACK" Bundle.steD) (lw_chin 5 _ (List.mem_of_getElem? (i := 51) rfl))) (hts (.initialized Bundle.tN) (lw_chin 1 _ (List.mem_of_getElem? (i := 20) rfl))) (hfl (.isRef (.static Bundle.tN "UNASSIGNED_STACK" Bundle.steD)) (by decide +kernel)) (fun _ _ h => h), vx_Zqof (hts (.laysStatic Bundle.tN "SUPPRESSED_SENTINEL" Bundle.listD) (lw_chin 5 _ (List.mem_of_getElem? (i := 53) rfl))) (hts (.initialized Bundle.tN) (lw_chin 1 _ (List.mem_of_getElem? (i := 20) rfl))) (hfl (.isRef (.static Bundle.tN "SUPPRESSED_SENTINEL" Bundle.listD)) (by decide +kernel)) (fun _ _ h => h), vk_R.of (hts (.stringRef "HubTree" 163 "no such device, or nothing such is told of it") (lw_chin 5 _ (List.mem_of_getElem? (i := 63) rfl))) hsa, va_Nw.of rfl (hts (.declares (Bundle.initS "java/lang/RuntimeException")) (lw_chin 5 _ (List.mem_of_getElem? (i := 28) rfl))), va_Nw.of rfl (hts (.declares (Bundle.initS "java/lang/Exception")) (lw_chin 5 _ (List.mem_of_getElem? (i := 30) rfl))), va_Nw.of rfl (hts (.declares (Bundle.initS "java/lang/Throwable")) (lw_chin 5 _ (List.mem_of_getElem? (i := 32) rfl))), va_Nw.of rfl (hts (.castable "java/util/NoSuchElementException" "java/util/NoSuchElementException") (lw_chin 5 _ (List.mem_of_getElem? (i := 26) rfl)))⟩
  have hS : va_S (fun q : Nat => s.heap.size ≤ q) s.heap s.heap [] := va_S.rf
  have hK : va_K (dC, dI) vwCl [] s := ⟨hKc, fun k q h => by simp at h⟩
  have hP : va_P (dC, dI) vwCl [] s.heap := fun k q h => by simp at h
  have hD : va_D (fun q : Nat => s.heap.size ≤ q) [] := ⟨fun i j p q h => by simp at h, fun k q h => by simp at h⟩
  have hl := lv_entry ([.ref b]) (n := 7) (Nat.le_of_ble_eq_true rfl)
  rw [lg_entry_eq]
  generalize (lg_sl ([.ref b]) ++ List.replicate (7 - (lg_sl ([.ref b])).length) Slot.unset).toArray = ls at hl ⊢
  have hl : lv_has ls 7 [(0, .ref b)] := hl
  refine va_new (ci := 9) (fs := [.null, .null, .null, .null, .null, .null, .null, .null, .null, .null, .null, .null, .null, .null, .int 0]) (C := RX9) (T := TX9) (N := 15) hx hb hts iL_9 tyX9 tyX9_ok hown (hts (.classLink RL 8 RX9) (lw_chin 1 _ (List.mem_of_getElem? (i := 25) rfl))) (hts (.instantiable RX9 15) (lw_chin 1 _ (List.mem_of_getElem? (i := 26) rfl))) (hts (.initialized RX9) (lw_chin 1 _ (List.mem_of_getElem? (i := 1) rfl))) hK hP hD hS hA rfl q_d9 (Nat.le_of_ble_eq_true rfl) (Nat.le_of_ble_eq_true rfl) dL_law_0 (fun q_1 H hP hD hS => ?_)
  have hP : va_P (dC, dI) vwCl [(q_1, .inr (9, [.null, .null, .null, .null, .null, .null, .null, .null, .null, .null, .null, .null, .null, .null, .int 0]))] H := hP
  have hD : va_D (fun q : Nat => s.heap.size ≤ q) [(q_1, .inr (9, [.null, .null, .null, .null, .null, .null, .null, .null, .null, .null, .null, .null, .null, .null, .int 0]))] := hD
  refine W.widen (k := 1) (n := 15) (Nat.le_of_ble_eq_true rfl) (Nat.le_of_ble_eq_true rfl) ?_
  refine lv_dup hx hb dL_law_3 rfl ?_
  refine q_gov2 (wr := []) (va_runI (As := []) (rest := [.ref q_1]) ⟨hx, hb, hml, hown, hts⟩ (c_X9_init l dC dI q_1 (va_A [(q_1, .inr (9, [.null, .null, .null, .null, .null, .null, .null, .null, .null, .null, .null, .null, .null, .null, .int 0]))] H.size)) (cwI 0 hts g_law_X9_init_15 rfl rfl rfl (hts (.initialized RX9) (lw_chin 1 _ (List.mem_of_getElem? (i := 1) rfl))) (hts (.methodLink RL 15 yX9_init) (lw_chin 1 _ (List.mem_of_getElem? (i := 27) rfl))) (hts (.instanceMethod yX9_init) (lw_chin 1 _ (List.mem_of_getElem? (i := 28) rfl))) rfl (by decide +kernel) ⟨Nat.le_of_ble_eq_true rfl, Nat.le_of_ble_eq_true rfl⟩) (q_preWE hK hP hD [0] (by decide) rfl rfl [] rfl q_EN_bl (q_EN_give hEN)) rfl rfl hl.1 rfl (lv_room (Nat.le_of_ble_eq_true rfl)) dL_law_4 ⟨Nat.le_of_ble_eq_true rfl, Nat.le_of_ble_eq_true rfl⟩) hK hP hD hS hA [0] [] rfl rfl (by decide) (by decide) (fun u_2 H locs h_3 hP hD hK hS => ?_)
  obtain ⟨a, k⟩ := u_2
  have h_3 : a 0 = q_1 := h_3
  have hP9 := hP
  have hD9 := hD
  subst h_3
  have hP := hP9
  have hD := hD9
  clear hP9 hD9
  have hP : va_P (dC, dI) vwCl [((a 0), .inr (9, [.ref (a 1), .ref (a 3), .ref (a 4), .ref (a 7), .ref (a 10), .ref (a 14), .ref (a 16), .ref (a 18), .ref (a 19), .ref (a 21), .ref (a 23), .ref (a 25), .ref (a 27), .ref (a 28), .int 0])), ((a 1), .inr (8, [.ref (a 2), .int 0])), ((a 2), .inl ((k 2), 240, .inl (fun _ => 0))), ((a 3), .inr (6, [.ref (a 1), .int 0, .int 0])), ((a 4), .inr (5, [.ref (a 5), .ref (a 6), .int 0])), ((a 5), .inl ((k 5), 8, .inl (fun _ => 0))), ((a 6), .inl ((k 6), 48, .inl (fun _ => 0))), ((a 7), .inr (5, [.ref (a 8), .ref (a 9), .int 0])), ((a 8), .inl ((k 8), 8, .inl (fun _ => 0))), ((a 9), .inl ((k 9), 48, .inl (fun _ => 0))), ((a 10), .inr (7, [.ref (a 11), .ref (a 12), .ref (a 13), .int 0, .int 0])), ((a 11), .inl ((k 11), 256, .inl (fun _ => 0))), ((a 12), .inl ((k 12), 4, .inl (fun _ => 0))), ((a 13), .inl ((k 13), 64, .inl (fun _ => 0))), ((a 14), .inr (0, [.ref (a 15), .ref (a 7)])), ((a 15), .inl ((k 15), 98, .inl (fun _ => 0))), ((a 16), .inr (0, [.ref (a 17), .ref (a 7)])), ((a 17), .inl ((k 17), 98, .inl (fun _ => 0))), ((a 18), .inr (3, [.ref (a 14), .ref (a 16)])), ((a 19), .inr (4, [.ref (a 20), .int 0, .int 0])), ((a 20), .inl ((k 20), 3920, .inl (fun _ => 0))), ((a 21), .inr (1, [.ref (a 22), .int 0])), ((a 22), .inl ((k 22), 300, .inl (fun _ => 0))), ((a 23), .inr (0, [.ref (a 24), .ref (a 7)])), ((a 24), .inl ((k 24), 98, .inl (fun _ => 0))), ((a 25), .inr (1, [.ref (a 26), .int 0])), ((a 26), .inl ((k 26), 300, .inl (fun _ => 0))), ((a 27), .inr (2, [.long 0])), ((a 28), .inl ((k 28), 4, .inl (fun _ => 0)))] H := hP
  have hD : va_D (fun q : Nat => s.heap.size ≤ q) [((a 0), .inr (9, [.ref (a 1), .ref (a 3), .ref (a 4), .ref (a 7), .ref (a 10), .ref (a 14), .ref (a 16), .ref (a 18), .ref (a 19), .ref (a 21), .ref (a 23), .ref (a 25), .ref (a 27), .ref (a 28), .int 0])), ((a 1), .inr (8, [.ref (a 2), .int 0])), ((a 2), .inl ((k 2), 240, .inl (fun _ => 0))), ((a 3), .inr (6, [.ref (a 1), .int 0, .int 0])), ((a 4), .inr (5, [.ref (a 5), .ref (a 6), .int 0])), ((a 5), .inl ((k 5), 8, .inl (fun _ => 0))), ((a 6), .inl ((k 6), 48, .inl (fun _ => 0))), ((a 7), .inr (5, [.ref (a 8), .ref (a 9), .int 0])), ((a 8), .inl ((k 8), 8, .inl (fun _ => 0))), ((a 9), .inl ((k 9), 48, .inl (fun _ => 0))), ((a 10), .inr (7, [.ref (a 11), .ref (a 12), .ref (a 13), .int 0, .int 0])), ((a 11), .inl ((k 11), 256, .inl (fun _ => 0))), ((a 12), .inl ((k 12), 4, .inl (fun _ => 0))), ((a 13), .inl ((k 13), 64, .inl (fun _ => 0))), ((a 14), .inr (0, [.ref (a 15), .ref (a 7)])), ((a 15), .inl ((k 15), 98, .inl (fun _ => 0))), ((a 16), .inr (0, [.ref (a 17), .ref (a 7)])), ((a 17), .inl ((k 17), 98, .inl (fun _ => 0))), ((a 18), .inr (3, [.ref (a 14), .ref (a 16)])), ((a 19), .inr (4, [.ref (a 20), .int 0, .int 0])), ((a 20), .inl ((k 20), 3920, .inl (fun _ => 0))), ((a 21), .inr (1, [.ref (a 22), .int 0])), ((a 22), .inl ((k 22), 300, .inl (fun _ => 0))), ((a 23), .inr (0, [.ref (a 24), .ref (a 7)])), ((a 24), .inl ((k 24), 98, .inl (fun _ => 0))), ((a 25), .inr (1, [.ref (a 26), .int 0])), ((a 26), .inl ((k 26), 300, .inl (fun _ => 0))), ((a 27), .inr (2, [.long 0])), ((a 28), .inl ((k 28), 4, .inl (fun _ => 0)))] := hD
  have hK : va_K (dC, dI) vwCl [((k 2), .char), ((k 5), .int), ((k 6), .int), ((k 8), .int), ((k 9), .int), ((k 11), .int), ((k 12), .int), ((k 13), .int), ((k 15), .int), ((k 17), .int), ((k 20), .int), ((k 22), .int), ((k 24), .int), ((k 26), .int), ((k 28), .int)] s := hK
  refine W.widen (k := 29) (n := 5541) (Nat.le_of_ble_eq_true rfl) (Nat.le_of_ble_eq_true rfl) ?_
  refine lv_astore_n (lv' := [(1, .ref (a 0)), (0, .ref b)]) hx hb dL_law_7 rfl hl (by decide) rfl (fun ls hl => ?_)
  refine va_new (ci := 10) (fs := [.int 0, .null, .int 0, .int 0, .int 0, .null, .null, .int 0, .null, .null, .int 0, .null, .null, .int 0, .null, .null, .null, .int 0, .long 0, .null, .null, .null, .null, .int 0]) (C := RX10) (T := TX10) (N := 24) hx hb hts iL_10 tyX10 tyX10_ok hown (hts (.classLink RL 16 RX10) (lw_chin 5 _ (List.mem_of_getElem? (i := 90) rfl))) (hts (.instantiable RX10 24) (lw_chin 5 _ (List.mem_of_getElem? (i := 91) rfl))) (hts (.initialized RX10) (lw_chin 1 _ (List.mem_of_getElem? (i := 11) rfl))) hK hP hD hS hA rfl q_d10 (Nat.le_of_ble_eq_true rfl) (Nat.le_of_ble_eq_true rfl) dL_law_8 (fun q_4 H hP hD hS => ?_)
  have hP : va_P (dC, dI) vwCl [((a 0), .inr (9, [.ref (a 1), .ref (a 3), .ref (a 4), .ref (a 7), .ref (a 10), .ref (a 14), .ref (a 16), .ref (a 18), .ref (a 19), .ref (a 21), .ref (a 23), .ref (a 25), .ref (a 27), .ref (a 28), .int 0])), ((a 1), .inr (8, [.ref (a 2), .int 0])), ((a 2), .inl ((k 2), 240, .inl (fun _ => 0))), ((a 3), .inr (6, [.ref (a 1), .int 0, .int 0])), ((a 4), .inr (5, [.ref (a 5), .ref (a 6), .int 0])), ((a 5), .inl ((k 5), 8, .inl (fun _ => 0))), ((a 6), .inl ((k 6), 48, .inl (fun _ => 0))), ((a 7), .inr (5, [.ref (a 8), .ref (a 9), .int 0])), ((a 8), .inl ((k 8), 8, .inl (fun _ => 0))), ((a 9), .inl ((k 9), 48, .inl (fun _ => 0))), ((a 10), .inr (7, [.ref (a 11), .ref (a 12), .ref (a 13), .int 0, .int 0])), ((a 11), .inl ((k 11), 256, .inl (fun _ => 0))), ((a 12), .inl ((k 12), 4, .inl (fun _ => 0))), ((a 13), .inl ((k 13), 64, .inl (fun _ => 0))), ((a 14), .inr (0, [.ref (a 15), .ref (a 7)])), ((a 15), .inl ((k 15), 98, .inl (fun _ => 0))), ((a 16), .inr (0, [.ref (a 17), .ref (a 7)])), ((a 17), .inl ((k 17), 98, .inl (fun _ => 0))), ((a 18), .inr (3, [.ref (a 14), .ref (a 16)])), ((a 19), .inr (4, [.ref (a 20), .int 0, .int 0])), ((a 20), .inl ((k 20), 3920, .inl (fun _ => 0))), ((a 21), .inr (1, [.ref (a 22), .int 0])), ((a 22), .inl ((k 22), 300, .inl (fun _ => 0))), ((a 23), .inr (0, [.ref (a 24), .ref (a 7)])), ((a 24), .inl ((k 24), 98, .inl (fun _ => 0))), ((a 25), .inr (1, [.ref (a 26), .int 0])), ((a 26), .inl ((k 26), 300, .inl (fun _ => 0))), ((a 27), .inr (2, [.long 0])), ((a 28), .inl ((k 28), 4, .inl (fun _ => 0))), (q_4, .inr (10, [.int 0, .null, .int 0, .int 0, .int 0, .null, .null, .int 0, .null, .null, .int 0, .null, .null, .int 0, .null, .null, .null, .int 0, .long 0, .null, .null, .null, .null, .int 0]))] H := hP
  have hD : va_D (fun q : Nat => s.heap.size ≤ q) [((a 0), .inr (9, [.ref (a 1), .ref (a 3), .ref (a 4), .ref (a 7), .ref (a 10), .ref (a 14), .ref (a 16), .ref (a 18), .ref (a 19), .ref (a 21), .ref (a 23), .ref (a 25), .ref (a 27), .ref (a 28), .int 0])), ((a 1), .inr (8, [.ref (a 2), .int 0])), ((a 2), .inl ((k 2), 240, .inl (fun _ => 0))), ((a 3), .inr (6, [.ref (a 1), .int 0, .int 0])), ((a 4), .inr (5, [.ref (a 5), .ref (a 6), .int 0])), ((a 5), .inl ((k 5), 8, .inl (fun _ => 0))), ((a 6), .inl ((k 6), 48, .inl (fun _ => 0))), ((a 7), .inr (5, [.ref (a 8), .ref (a 9), .int 0])), ((a 8), .inl ((k 8), 8, .inl (fun _ => 0))), ((a 9), .inl ((k 9), 48, .inl (fun _ => 0))), ((a 10), .inr (7, [.ref (a 11), .ref (a 12), .ref (a 13), .int 0, .int 0])), ((a 11), .inl ((k 11), 256, .inl (fun _ => 0))), ((a 12), .inl ((k 12), 4, .inl (fun _ => 0))), ((a 13), .inl ((k 13), 64, .inl (fun _ => 0))), ((a 14), .inr (0, [.ref (a 15), .ref (a 7)])), ((a 15), .inl ((k 15), 98, .inl (fun _ => 0))), ((a 16), .inr (0, [.ref (a 17), .ref (a 7)])), ((a 17), .inl ((k 17), 98, .inl (fun _ => 0))), ((a 18), .inr (3, [.ref (a 14), .ref (a 16)])), ((a 19), .inr (4, [.ref (a 20), .int 0, .int 0])), ((a 20), .inl ((k 20), 3920, .inl (fun _ => 0))), ((a 21), .inr (1, [.ref (a 22), .int 0])), ((a 22), .inl ((k 22), 300, .inl (fun _ => 0))), ((a 23), .inr (0, [.ref (a 24), .ref (a 7)])), ((a 24), .inl ((k 24), 98, .inl (fun _ => 0))), ((a 25), .inr (1, [.ref (a 26), .int 0])), ((a 26), .inl ((k 26), 300, .inl (fun _ => 0))), ((a 27), .inr (2, [.long 0])), ((a 28), .inl ((k 28), 4, .inl (fun _ => 0))), (q_4, .inr (10, [.int 0, .null, .int 0, .int 0, .int 0, .null, .null, .int 0, .null, .null, .int 0, .null, .null, .int 0, .null, .null, .null, .int 0, .long 0, .null, .null, .null, .null, .int 0]))] := hD
  refine W.widen (k := 30) (n := 5565) (Nat.le_of_ble_eq_true rfl) (Nat.le_of_ble_eq_true rfl) ?_
  refine lv_dup hx hb dL_law_11 rfl ?_
  refine q_gov2 (wr := [((a 0), .inr (9, [.ref (a 1), .ref (a 3), .ref (a 4), .ref (a 7), .ref (a 10), .ref (a 14), .ref (a 16), .ref (a 18), .ref (a 19), .ref (a 21), .ref (a 23), .ref (a 25), .ref (a 27), .ref (a 28), .int 0])), ((a 1), .inr (8, [.ref (a 2), .int 0])), ((a 2), .inl ((k 2), 240, .inl (fun _ => 0))), ((a 3), .inr (6, [.ref (a 1), .int 0, .int 0])), ((a 4), .inr (5, [.ref (a 5), .ref (a 6), .int 0])), ((a 5), .inl ((k 5), 8, .inl (fun _ => 0))), ((a 6), .inl ((k 6), 48, .inl (fun _ => 0))), ((a 7), .inr (5, [.ref (a 8), .ref (a 9), .int 0])), ((a 8), .inl ((k 8), 8, .inl (fun _ => 0))), ((a 9), .inl ((k 9), 48, .inl (fun _ => 0))), ((a 10), .inr (7, [.ref (a 11), .ref (a 12), .ref (a 13), .int 0, .int 0])), ((a 11), .inl ((k 11), 256, .inl (fun _ => 0))), ((a 12), .inl ((k 12), 4, .inl (fun _ => 0))), ((a 13), .inl ((k 13), 64, .inl (fun _ => 0))), ((a 14), .inr (0, [.ref (a 15), .ref (a 7)])), ((a 15), .inl ((k 15), 98, .inl (fun _ => 0))), ((a 16), .inr (0, [.ref (a 17), .ref (a 7)])), ((a 17), .inl ((k 17), 98, .inl (fun _ => 0))), ((a 18), .inr (3, [.ref (a 14), .ref (a 16)])), ((a 19), .inr (4, [.ref (a 20), .int 0, .int 0])), ((a 20), .inl ((k 20), 3920, .inl (fun _ => 0))), ((a 21), .inr (1, [.ref (a 22), .int 0])), ((a 22), .inl ((k 22), 300, .inl (fun _ => 0))), ((a 23), .inr (0, [.ref (a 24), .ref (a 7)])), ((a 24), .inl ((k 24), 98, .inl (fun _ => 0))), ((a 25), .inr (1, [.ref (a 26), .int 0])), ((a 26), .inl ((k 26), 300, .inl (fun _ => 0))), ((a 27), .inr (2, [.long 0])), ((a 28), .inl ((k 28), 4, .inl (fun _ => 0)))]) (va_runI (As := []) (rest := [.ref q_4]) ⟨hx, hb, hml, hown, hts⟩ (c_X10_init l dC dI q_4 (va_A [(q_4, .inr (10, [.int 0, .null, .int 0, .int 0, .int 0, .null, .null, .int 0, .null, .null, .int 0, .null, .null, .int 0, .null, .null, .null, .int 0, .long 0, .null, .null, .null, .null, .int 0]))] H.size)) (cwI 0 hts g_law_X10_init_18 rfl rfl rfl (hts (.initialized RX10) (lw_chin 1 _ (List.mem_of_getElem? (i := 11) rfl))) (hts (.methodLink RL 18 yX10_init) (lw_chin 5 _ (List.mem_of_getElem? (i := 92) rfl))) (hts (.instanceMethod yX10_init) (lw_chin 5 _ (List.mem_of_getElem? (i := 93) rfl))) rfl (by decide +kernel) ⟨Nat.le_of_ble_eq_true rfl, Nat.le_of_ble_eq_true rfl⟩) (q_preW hK hP hD [29] (by decide) rfl rfl [] rfl) rfl rfl hl.1 rfl (lv_room (Nat.le_of_ble_eq_true rfl)) dL_law_12 ⟨Nat.le_of_ble_eq_true rfl, Nat.le_of_ble_eq_true rfl⟩) hK hP hD hS hA [29] [0, 1, 2, 3, 4, 5, 6, 7, 8, 9, 10, 11, 12, 13, 14, 15, 16, 17, 18, 19, 20, 21, 22, 23, 24, 25, 26, 27, 28] rfl rfl (by decide) (by decide) (fun u_5 H locs h_6 hP hD hK hS => ?_)
  obtain ⟨bm, km⟩ := u_5
  have h_6 : bm 0 = q_4 := h_6
  have hP9 := hP
  have hD9 := hD
  subst h_6
  have hP := hP9
  have hD := hD9
  clear hP9 hD9
  have hP : va_P (dC, dI) vwCl [((a 0), .inr (9, [.ref (a 1), .ref (a 3), .ref (a 4), .ref (a 7), .ref (a 10), .ref (a 14), .ref (a 16), .ref (a 18), .ref (a 19), .ref (a 21), .ref (a 23), .ref (a 25), .ref (a 27), .ref (a 28), .int 0])), ((a 1), .inr (8, [.ref (a 2), .int 0])), ((a 2), .inl ((k 2), 240, .inl (fun _ => 0))), ((a 3), .inr (6, [.ref (a 1), .int 0, .int 0])), ((a 4), .inr (5, [.ref (a 5), .ref (a 6), .int 0])), ((a 5), .inl ((k 5), 8, .inl (fun _ => 0))), ((a 6), .inl ((k 6), 48, .inl (fun _ => 0))), ((a 7), .inr (5, [.ref (a 8), .ref (a 9), .int 0])), ((a 8), .inl ((k 8), 8, .inl (fun _ => 0))), ((a 9), .inl ((k 9), 48, .inl (fun _ => 0))), ((a 10), .inr (7, [.ref (a 11), .ref (a 12), .ref (a 13), .int 0, .int 0])), ((a 11), .inl ((k 11), 256, .inl (fun _ => 0))), ((a 12), .inl ((k 12), 4, .inl (fun _ => 0))), ((a 13), .inl ((k 13), 64, .inl (fun _ => 0))), ((a 14), .inr (0, [.ref (a 15), .ref (a 7)])), ((a 15), .inl ((k 15), 98, .inl (fun _ => 0))), ((a 16), .inr (0, [.ref (a 17), .ref (a 7)])), ((a 17), .inl ((k 17), 98, .inl (fun _ => 0))), ((a 18), .inr (3, [.ref (a 14), .ref (a 16)])), ((a 19), .inr (4, [.ref (a 20), .int 0, .int 0])), ((a 20), .inl ((k 20), 3920, .inl (fun _ => 0))), ((a 21), .inr (1, [.ref (a 22), .int 0])), ((a 22), .inl ((k 22), 300, .inl (fun _ => 0))), ((a 23), .inr (0, [.ref (a 24), .ref (a 7)])), ((a 24), .inl ((k 24), 98, .inl (fun _ => 0))), ((a 25), .inr (1, [.ref (a 26), .int 0])), ((a 26), .inl ((k 26), 300, .inl (fun _ => 0))), ((a 27), .inr (2, [.long 0])), ((a 28), .inl ((k 28), 4, .inl (fun _ => 0))), ((bm 0), .inr (10, [.int 0, .ref (bm 1), .int 0, .int 0, .int 0, .ref (bm 2), .ref (bm 3), .int 0, .ref (bm 4), .ref (bm 5), .int 0, .ref (bm 6), .ref (bm 7), .int 0, .ref (bm 8), .ref (bm 9), .ref (bm 10), .int 0, .long 0, .ref (bm 11), .ref (bm 12), .ref (bm 13), .ref (bm 14), .int 0])), ((bm 1), .inl ((km 1), 240, .inl (fun _ => 0))), ((bm 2), .inl ((km 2), 8, .inl (fun _ => 0))), ((bm 3), .inl ((km 3), 48, .inl (fun _ => 0))), ((bm 4), .inl ((km 4), 8, .inl (fun _ => 0))), ((bm 5), .inl ((km 5), 48, .inl (fun _ => 0))), ((bm 6), .inl ((km 6), 320, .inl (fun _ => 0))), ((bm 7), .inl ((km 7), 5, .inl (fun _ => 0))), ((bm 8), .inl ((km 8), 279, .inl (fun _ => 0))), ((bm 9), .inl ((km 9), 4, .inl (fun _ => 0))), ((bm 10), .inl ((km 10), 11160, .inl (fun _ => 0))), ((bm 11), .inl ((km 11), 98, .inl (fun _ => 0))), ((bm 12), .inl ((km 12), 98, .inl (fun _ => 0))), ((bm 13), .inl ((km 13), 8, .inl (fun _ => 0))), ((bm 14), .inl ((km 14), 279, .inl (fun _ => 0)))] H := hP
  have hD : va_D (fun q : Nat => s.heap.size ≤ q) [((a 0), .inr (9, [.ref (a 1), .ref (a 3), .ref (a 4), .ref (a 7), .ref (a 10), .ref (a 14), .ref (a 16), .ref (a 18), .ref (a 19), .ref (a 21), .ref (a 23), .ref (a 25), .ref (a 27), .ref (a 28), .int 0])), ((a 1), .inr (8, [.ref (a 2), .int 0])), ((a 2), .inl ((k 2), 240, .inl (fun _ => 0))), ((a 3), .inr (6, [.ref (a 1), .int 0, .int 0])), ((a 4), .inr (5, [.ref (a 5), .ref (a 6), .int 0])), ((a 5), .inl ((k 5), 8, .inl (fun _ => 0))), ((a 6), .inl ((k 6), 48, .inl (fun _ => 0))), ((a 7), .inr (5, [.ref (a 8), .ref (a 9), .int 0])), ((a 8), .inl ((k 8), 8, .inl (fun _ => 0))), ((a 9), .inl ((k 9), 48, .inl (fun _ => 0))), ((a 10), .inr (7, [.ref (a 11), .ref (a 12), .ref (a 13), .int 0, .int 0])), ((a 11), .inl ((k 11), 256, .inl (fun _ => 0))), ((a 12), .inl ((k 12), 4, .inl (fun _ => 0))), ((a 13), .inl ((k 13), 64, .inl (fun _ => 0))), ((a 14), .inr (0, [.ref (a 15), .ref (a 7)])), ((a 15), .inl ((k 15), 98, .inl (fun _ => 0))), ((a 16), .inr (0, [.ref (a 17), .ref (a 7)])), ((a 17), .inl ((k 17), 98, .inl (fun _ => 0))), ((a 18), .inr (3, [.ref (a 14), .ref (a 16)])), ((a 19), .inr (4, [.ref (a 20), .int 0, .int 0])), ((a 20), .inl ((k 20), 3920, .inl (fun _ => 0))), ((a 21), .inr (1, [.ref (a 22), .int 0])), ((a 22), .inl ((k 22), 300, .inl (fun _ => 0))), ((a 23), .inr (0, [.ref (a 24), .ref (a 7)])), ((a 24), .inl ((k 24), 98, .inl (fun _ => 0))), ((a 25), .inr (1, [.ref (a 26), .int 0])), ((a 26), .inl ((k 26), 300, .inl (fun _ => 0))), ((a 27), .inr (2, [.long 0])), ((a 28), .inl ((k 28), 4, .inl (fun _ => 0))), ((bm 0), .inr (10, [.int 0, .ref (bm 1), .int 0, .int 0, .int 0, .ref (bm 2), .ref (bm 3), .int 0, .ref (bm 4), .ref (bm 5), .int 0, .ref (bm 6), .ref (bm 7), .int 0, .ref (bm 8), .ref (bm 9), .ref (bm 10), .int 0, .long 0, .ref (bm 11), .ref (bm 12), .ref (bm 13), .ref (bm 14), .int 0])), ((bm 1), .inl ((km 1), 240, .inl (fun _ => 0))), ((bm 2), .inl ((km 2), 8, .inl (fun _ => 0))), ((bm 3), .inl ((km 3), 48, .inl (fun _ => 0))), ((bm 4), .inl ((km 4), 8, .inl (fun _ => 0))), ((bm 5), .inl ((km 5), 48, .inl (fun _ => 0))), ((bm 6), .inl ((km 6), 320, .inl (fun _ => 0))), ((bm 7), .inl ((km 7), 5, .inl (fun _ => 0))), ((bm 8), .inl ((km 8), 279, .inl (fun _ => 0))), ((bm 9), .inl ((km 9), 4, .inl (fun _ => 0))), ((bm 10), .inl ((km 10), 11160, .inl (fun _ => 0))), ((bm 11), .inl ((km 11), 98, .inl (fun _ => 0))), ((bm 12), .inl ((km 12), 98, .inl (fun _ => 0))), ((bm 13), .inl ((km 13), 8, .inl (fun _ => 0))), ((bm 14), .inl ((km 14), 279, .inl (fun _ => 0)))] := hD
  have hK : va_K (dC, dI) vwCl [((k 2), .char), ((k 5), .int), ((k 6), .int), ((k 8), .int), ((k 9), .int), ((k 11), .int), ((k 12), .int), ((k 13), .int), ((k 15), .int), ((k 17), .int), ((k 20), .int), ((k 22), .int), ((k 24), .int), ((k 26), .int), ((k 28), .int), ((km 1), .int), ((km 2), .int), ((km 3), .int), ((km 4), .int), ((km 5), .int), ((km 6), .int), ((km 7), .int), ((km 8), .int), ((km 9), .int), ((km 10), .int), ((km 11), .int), ((km 12), .int), ((km 13), .int), ((km 14), .int)] s := hK
  refine W.widen (k := 44) (n := 18168) (Nat.le_of_ble_eq_true rfl) (Nat.le_of_ble_eq_true rfl) ?_
  refine lv_astore_n (lv' := [(2, .ref (bm 0)), (1, .ref (a 0)), (0, .ref b)]) hx hb dL_law_15 rfl hl (by decide) rfl (fun ls hl => ?_)
  refine lv_iconst (v := 1) hx hb dL_law_16 (by decide) ?_
  refine va_newa (atype := .long) (ty := .long) (a0 := (1, .inr (.inl (fun _ => 0)))) hx hb (hts (.arrayClass .long) (lw_chin 7 _ (List.mem_of_getElem? (i := 213) rfl))) rfl hK hP hD hS hA (fun _ => rfl) (by decide) (N' := 1) (by decide) (by decide) (Nat.le_of_ble_eq_true rfl) (Nat.le_of_ble_eq_true rfl) dL_law_17 (fun q_7 k_8 H hK hP hD hS => ?_)
  have hP : va_P (dC, dI) vwCl [((a 0), .inr (9, [.ref (a 1), .ref (a 3), .ref (a 4), .ref (a 7), .ref (a 10), .ref (a 14), .ref (a 16), .ref (a 18), .ref (a 19), .ref (a 21), .ref (a 23), .ref (a 25), .ref (a 27), .ref (a 28), .int 0])), ((a 1), .inr (8, [.ref (a 2), .int 0])), ((a 2), .inl ((k 2), 240, .inl (fun _ => 0))), ((a 3), .inr (6, [.ref (a 1), .int 0, .int 0])), ((a 4), .inr (5, [.ref (a 5), .ref (a 6), .int 0])), ((a 5), .inl ((k 5), 8, .inl (fun _ => 0))), ((a 6), .inl ((k 6), 48, .inl (fun _ => 0))), ((a 7), .inr (5, [.ref (a 8), .ref (a 9), .int 0])), ((a 8), .inl ((k 8), 8, .inl (fun _ => 0))), ((a 9), .inl ((k 9), 48, .inl (fun _ => 0))), ((a 10), .inr (7, [.ref (a 11), .ref (a 12), .ref (a 13), .int 0, .int 0])), ((a 11), .inl ((k 11), 256, .inl (fun _ => 0))), ((a 12), .inl ((k 12), 4, .inl (fun _ => 0))), ((a 13), .inl ((k 13), 64, .inl (fun _ => 0))), ((a 14), .inr (0, [.ref (a 15), .ref (a 7)])), ((a 15), .inl ((k 15), 98, .inl (fun _ => 0))), ((a 16), .inr (0, [.ref (a 17), .ref (a 7)])), ((a 17), .inl ((k 17), 98, .inl (fun _ => 0))), ((a 18), .inr (3, [.ref (a 14), .ref (a 16)])), ((a 19), .inr (4, [.ref (a 20), .int 0, .int 0])), ((a 20), .inl ((k 20), 3920, .inl (fun _ => 0))), ((a 21), .inr (1, [.ref (a 22), .int 0])), ((a 22), .inl ((k 22), 300, .inl (fun _ => 0))), ((a 23), .inr (0, [.ref (a 24), .ref (a 7)])), ((a 24), .inl ((k 24), 98, .inl (fun _ => 0))), ((a 25), .inr (1, [.ref (a 26), .int 0])), ((a 26), .inl ((k 26), 300, .inl (fun _ => 0))), ((a 27), .inr (2, [.long 0])), ((a 28), .inl ((k 28), 4, .inl (fun _ => 0))), ((bm 0), .inr (10, [.int 0, .ref (bm 1), .int 0, .int 0, .int 0, .ref (bm 2), .ref (bm 3), .int 0, .ref (bm 4), .ref (bm 5), .int 0, .ref (bm 6), .ref (bm 7), .int 0, .ref (bm 8), .ref (bm 9), .ref (bm 10), .int 0, .long 0, .ref (bm 11), .ref (bm 12), .ref (bm 13), .ref (bm 14), .int 0])), ((bm 1), .inl ((km 1), 240, .inl (fun _ => 0))), ((bm 2), .inl ((km 2), 8, .inl (fun _ => 0))), ((bm 3), .inl ((km 3), 48, .inl (fun _ => 0))), ((bm 4), .inl ((km 4), 8, .inl (fun _ => 0))), ((bm 5), .inl ((km 5), 48, .inl (fun _ => 0))), ((bm 6), .inl ((km 6), 320, .inl (fun _ => 0))), ((bm 7), .inl ((km 7), 5, .inl (fun _ => 0))), ((bm 8), .inl ((km 8), 279, .inl (fun _ => 0))), ((bm 9), .inl ((km 9), 4, .inl (fun _ => 0))), ((bm 10), .inl ((km 10), 11160, .inl (fun _ => 0))), ((bm 11), .inl ((km 11), 98, .inl (fun _ => 0))), ((bm 12), .inl ((km 12), 98, .inl (fun _ => 0))), ((bm 13), .inl ((km 13), 8, .inl (fun _ => 0))), ((bm 14), .inl ((km 14), 279, .inl (fun _ => 0))), (q_7, .inl (k_8, 1, .inr (.inl (fun _ => 0))))] H := hP
  have hD : va_D (fun q : Nat => s.heap.size ≤ q) [((a 0), .inr (9, [.ref (a 1), .ref (a 3), .ref (a 4), .ref (a 7), .ref (a 10), .ref (a 14), .ref (a 16), .ref (a 18), .ref (a 19), .ref (a 21), .ref (a 23), .ref (a 25), .ref (a 27), .ref (a 28), .int 0])), ((a 1), .inr (8, [.ref (a 2), .int 0])), ((a 2), .inl ((k 2), 240, .inl (fun _ => 0))), ((a 3), .inr (6, [.ref (a 1), .int 0, .int 0])), ((a 4), .inr (5, [.ref (a 5), .ref (a 6), .int 0])), ((a 5), .inl ((k 5), 8, .inl (fun _ => 0))), ((a 6), .inl ((k 6), 48, .inl (fun _ => 0))), ((a 7), .inr (5, [.ref (a 8), .ref (a 9), .int 0])), ((a 8), .inl ((k 8), 8, .inl (fun _ => 0))), ((a 9), .inl ((k 9), 48, .inl (fun _ => 0))), ((a 10), .inr (7, [.ref (a 11), .ref (a 12), .ref (a 13), .int 0, .int 0])), ((a 11), .inl ((k 11), 256, .inl (fun _ => 0))), ((a 12), .inl ((k 12), 4, .inl (fun _ => 0))), ((a 13), .inl ((k 13), 64, .inl (fun _ => 0))), ((a 14), .inr (0, [.ref (a 15), .ref (a 7)])), ((a 15), .inl ((k 15), 98, .inl (fun _ => 0))), ((a 16), .inr (0, [.ref (a 17), .ref (a 7)])), ((a 17), .inl ((k 17), 98, .inl (fun _ => 0))), ((a 18), .inr (3, [.ref (a 14), .ref (a 16)])), ((a 19), .inr (4, [.ref (a 20), .int 0, .int 0])), ((a 20), .inl ((k 20), 3920, .inl (fun _ => 0))), ((a 21), .inr (1, [.ref (a 22), .int 0])), ((a 22), .inl ((k 22), 300, .inl (fun _ => 0))), ((a 23), .inr (0, [.ref (a 24), .ref (a 7)])), ((a 24), .inl ((k 24), 98, .inl (fun _ => 0))), ((a 25), .inr (1, [.ref (a 26), .int 0])), ((a 26), .inl ((k 26), 300, .inl (fun _ => 0))), ((a 27), .inr (2, [.long 0])), ((a 28), .inl ((k 28), 4, .inl (fun _ => 0))), ((bm 0), .inr (10, [.int 0, .ref (bm 1), .int 0, .int 0, .int 0, .ref (bm 2), .ref (bm 3), .int 0, .ref (bm 4), .ref (bm 5), .int 0, .ref (bm 6), .ref (bm 7), .int 0, .ref (bm 8), .ref (bm 9), .ref (bm 10), .int 0, .long 0, .ref (bm 11), .ref (bm 12), .ref (bm 13), .ref (bm 14), .int 0])), ((bm 1), .inl ((km 1), 240, .inl (fun _ => 0))), ((bm 2), .inl ((km 2), 8, .inl (fun _ => 0))), ((bm 3), .inl ((km 3), 48, .inl (fun _ => 0))), ((bm 4), .inl ((km 4), 8, .inl (fun _ => 0))), ((bm 5), .inl ((km 5), 48, .inl (fun _ => 0))), ((bm 6), .inl ((km 6), 320, .inl (fun _ => 0))), ((bm 7), .inl ((km 7), 5, .inl (fun _ => 0))), ((bm 8), .inl ((km 8), 279, .inl (fun _ => 0))), ((bm 9), .inl ((km 9), 4, .inl (fun _ => 0))), ((bm 10), .inl ((km 10), 11160, .inl (fun _ => 0))), ((bm 11), .inl ((km 11), 98, .inl (fun _ => 0))), ((bm 12), .inl ((km 12), 98, .inl (fun _ => 0))), ((bm 13), .inl ((km 13), 8, .inl (fun _ => 0))), ((bm 14), .inl ((km 14), 279, .inl (fun _ => 0))), (q_7, .inl (k_8, 1, .inr (.inl (fun _ => 0))))] := hD
  have hK : va_K (dC, dI) vwCl [((k 2), .char), ((k 5), .int), ((k 6), .int), ((k 8), .int), ((k 9), .int), ((k 11), .int), ((k 12), .int), ((k 13), .int), ((k 15), .int), ((k 17), .int), ((k 20), .int), ((k 22), .int), ((k 24), .int), ((k 26), .int), ((k 28), .int), ((km 1), .int), ((km 2), .int), ((km 3), .int), ((km 4), .int), ((km 5), .int), ((km 6), .int), ((km 7), .int), ((km 8), .int), ((km 9), .int), ((km 10), .int), ((km 11), .int), ((km 12), .int), ((km 13), .int), ((km 14), .int), (k_8, .long)] s := hK
  refine W.widen (k := 45) (n := 18169) (Nat.le_of_ble_eq_true rfl) (Nat.le_of_ble_eq_true rfl) ?_
  refine lv_astore_n (lv' := [(3, .ref q_7), (2, .ref (bm 0)), (1, .ref (a 0)), (0, .ref b)]) hx hb dL_law_19 rfl hl (by decide) rfl (fun ls hl => ?_)
  refine lv_iconst (v := 0) hx hb dL_law_20 (by decide) ?_
  refine lv_istore (lv' := [(4, .int 0), (3, .ref q_7), (2, .ref (bm 0)), (1, .ref (a 0)), (0, .ref b)]) hx hb dL_law_21 hl (by decide) rfl (fun ls hl => ?_)
  exact lw_loop C0 (fun k => [t0, t1, t2, t3, t4, t5, t6, t7].getD k 0) ks kv sa hE hEX hlt hL hK Inv hq0 hq1 hq2 hq3 hq4 hq5 hq6 hq7 hq8 hq9 hq10 hq11 hq12 hq13 hq14 hq15 hq16 hq17 hq18 hq19 hq20 hq21 hq22 hq23 hq24 hq25 hq26 hq27 hq28 hq29 hq30 hq31 hq32 hq33 hq34 hq35 hq36 hqd (L + 1) 0 ((fun _ _ => 0), (fun _ => 0), 0) ((fun _ _ => 0), (fun _ => 0), 0) (fun _ => 0) H locs ls (by omega) (by omega) hI0 hP hD hS hl
