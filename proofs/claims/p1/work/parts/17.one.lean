theorem dL_law_33 : decode cL_law 33 = .ok (.aload_n 0, 1) := by decide +kernel
theorem dL_law_34 : decode cL_law 34 = .ok (.iload 4, 2) := by decide +kernel
theorem dL_law_36 : decode cL_law 36 = .ok (.iaload, 1) := by decide +kernel
theorem dL_law_37 : decode cL_law 37 = .ok (.bipush 63, 2) := by decide +kernel
theorem dL_law_39 : decode cL_law 39 = .ok (.iand, 1) := by decide +kernel
theorem dL_law_40 : decode cL_law 40 = .ok (.tableswitch 1332 0 36 #[164, 237, 262, 287, 312, 337, 374, 442, 479, 516, 553, 578, 603, 652, 677, 702, 727, 764, 789, 814, 883, 908, 921, 958, 983, 1020, 1033, 1058, 1083, 1108, 1145, 1194, 1231, 1256, 1281, 1294, 1307], 164) := by decide +kernel
set_option maxHeartbeats 4000000 in
set_option maxRecDepth 100000 in
/-- one round of the loop -/
theorem lw_one {p : Program} {l : Launch} {e : Env} {s : State} {m : MethodId} {below : List Frame} {meth : Method} {c : Code} {dC : Nat → ClassId} {dI : Nat → Nat → Nat} {b : Nat} {xs : Nat → Int32} (C0 : lw_At p s m meth c b 6 xs) (t : Nat) (f : Nat → Int32) (sa : Nat) (hE : q_E t f (fun q : Nat => s.heap.size ≤ q) s) (hEX : q_X sa s) (hlt : l.stackTraces = false) {a : Nat → Nat} {k : Nat → ClassId} {bm : Nat → Nat} {km : Nat → ClassId} {q3 : Nat} {k3 : ClassId} {H : Heap} {locs : List Loc} {ls : Array Slot} (hK : va_K (dC, dI) vwCl [((k 2), .char), ((k 5), .int), ((k 6), .int), ((k 8), .int), ((k 9), .int), ((k 11), .int), ((k 12), .int), ((k 13), .int), ((k 15), .int), ((k 17), .int), ((k 20), .int), ((k 22), .int), ((k 24), .int), ((k 26), .int), ((k 28), .int), ((km 1), .int), ((km 2), .int), ((km 3), .int), ((km 4), .int), ((km 5), .int), ((km 6), .int), ((km 7), .int), ((km 8), .int), ((km 9), .int), ((km 10), .int), ((km 11), .int), ((km 12), .int), ((km 13), .int), ((km 14), .int), (k3, .long)] s) (hP : va_P (dC, dI) vwCl [((a 0), .inr (9, [.ref (a 1), .ref (a 3), .ref (a 4), .ref (a 7), .ref (a 10), .ref (a 14), .ref (a 16), .ref (a 18), .ref (a 19), .ref (a 21), .ref (a 23), .ref (a 25), .ref (a 27), .ref (a 28), .int 0])), ((a 1), .inr (8, [.ref (a 2), .int 0])), ((a 2), .inl ((k 2), 240, .inl (fun _ => 0))), ((a 3), .inr (6, [.ref (a 1), .int 0, .int 0])), ((a 4), .inr (5, [.ref (a 5), .ref (a 6), .int 0])), ((a 5), .inl ((k 5), 8, .inl (fun _ => 0))), ((a 6), .inl ((k 6), 48, .inl (fun _ => 0))), ((a 7), .inr (5, [.ref (a 8), .ref (a 9), .int 0])), ((a 8), .inl ((k 8), 8, .inl (fun _ => 0))), ((a 9), .inl ((k 9), 48, .inl (fun _ => 0))), ((a 10), .inr (7, [.ref (a 11), .ref (a 12), .ref (a 13), .int 0, .int 0])), ((a 11), .inl ((k 11), 256, .inl (fun _ => 0))), ((a 12), .inl ((k 12), 4, .inl (fun _ => 0))), ((a 13), .inl ((k 13), 64, .inl (fun _ => 0))), ((a 14), .inr (0, [.ref (a 15), .ref (a 7)])), ((a 15), .inl ((k 15), 98, .inl (fun _ => 0))), ((a 16), .inr (0, [.ref (a 17), .ref (a 7)])), ((a 17), .inl ((k 17), 98, .inl (fun _ => 0))), ((a 18), .inr (3, [.ref (a 14), .ref (a 16)])), ((a 19), .inr (4, [.ref (a 20), .int 0, .int 0])), ((a 20), .inl ((k 20), 3920, .inl (fun _ => 0))), ((a 21), .inr (1, [.ref (a 22), .int 0])), ((a 22), .inl ((k 22), 300, .inl (fun _ => 0))), ((a 23), .inr (0, [.ref (a 24), .ref (a 7)])), ((a 24), .inl ((k 24), 98, .inl (fun _ => 0))), ((a 25), .inr (1, [.ref (a 26), .int 0])), ((a 26), .inl ((k 26), 300, .inl (fun _ => 0))), ((a 27), .inr (2, [.long 0])), ((a 28), .inl ((k 28), 4, .inl (fun _ => 0))), ((bm 0), .inr (10, [.int 0, .ref (bm 1), .int 0, .int 0, .int 0, .ref (bm 2), .ref (bm 3), .int 0, .ref (bm 4), .ref (bm 5), .int 0, .ref (bm 6), .ref (bm 7), .int 0, .ref (bm 8), .ref (bm 9), .ref (bm 10), .int 0, .long 0, .ref (bm 11), .ref (bm 12), .ref (bm 13), .ref (bm 14), .int 0])), ((bm 1), .inl ((km 1), 240, .inl (fun _ => 0))), ((bm 2), .inl ((km 2), 8, .inl (fun _ => 0))), ((bm 3), .inl ((km 3), 48, .inl (fun _ => 0))), ((bm 4), .inl ((km 4), 8, .inl (fun _ => 0))), ((bm 5), .inl ((km 5), 48, .inl (fun _ => 0))), ((bm 6), .inl ((km 6), 320, .inl (fun _ => 0))), ((bm 7), .inl ((km 7), 5, .inl (fun _ => 0))), ((bm 8), .inl ((km 8), 279, .inl (fun _ => 0))), ((bm 9), .inl ((km 9), 4, .inl (fun _ => 0))), ((bm 10), .inl ((km 10), 11160, .inl (fun _ => 0))), ((bm 11), .inl ((km 11), 98, .inl (fun _ => 0))), ((bm 12), .inl ((km 12), 98, .inl (fun _ => 0))), ((bm 13), .inl ((km 13), 8, .inl (fun _ => 0))), ((bm 14), .inl ((km 14), 279, .inl (fun _ => 0))), (q3, .inl (k3, 1, .inr (.inl (fun _ => 0))))] H) (hD : va_D (fun q : Nat => s.heap.size ≤ q) [((a 0), .inr (9, [.ref (a 1), .ref (a 3), .ref (a 4), .ref (a 7), .ref (a 10), .ref (a 14), .ref (a 16), .ref (a 18), .ref (a 19), .ref (a 21), .ref (a 23), .ref (a 25), .ref (a 27), .ref (a 28), .int 0])), ((a 1), .inr (8, [.ref (a 2), .int 0])), ((a 2), .inl ((k 2), 240, .inl (fun _ => 0))), ((a 3), .inr (6, [.ref (a 1), .int 0, .int 0])), ((a 4), .inr (5, [.ref (a 5), .ref (a 6), .int 0])), ((a 5), .inl ((k 5), 8, .inl (fun _ => 0))), ((a 6), .inl ((k 6), 48, .inl (fun _ => 0))), ((a 7), .inr (5, [.ref (a 8), .ref (a 9), .int 0])), ((a 8), .inl ((k 8), 8, .inl (fun _ => 0))), ((a 9), .inl ((k 9), 48, .inl (fun _ => 0))), ((a 10), .inr (7, [.ref (a 11), .ref (a 12), .ref (a 13), .int 0, .int 0])), ((a 11), .inl ((k 11), 256, .inl (fun _ => 0))), ((a 12), .inl ((k 12), 4, .inl (fun _ => 0))), ((a 13), .inl ((k 13), 64, .inl (fun _ => 0))), ((a 14), .inr (0, [.ref (a 15), .ref (a 7)])), ((a 15), .inl ((k 15), 98, .inl (fun _ => 0))), ((a 16), .inr (0, [.ref (a 17), .ref (a 7)])), ((a 17), .inl ((k 17), 98, .inl (fun _ => 0))), ((a 18), .inr (3, [.ref (a 14), .ref (a 16)])), ((a 19), .inr (4, [.ref (a 20), .int 0, .int 0])), ((a 20), .inl ((k 20), 3920, .inl (fun _ => 0))), ((a 21), .inr (1, [.ref (a 22), .int 0])), ((a 22), .inl ((k 22), 300, .inl (fun _ => 0))), ((a 23), .inr (0, [.ref (a 24), .ref (a 7)])), ((a 24), .inl ((k 24), 98, .inl (fun _ => 0))), ((a 25), .inr (1, [.ref (a 26), .int 0])), ((a 26), .inl ((k 26), 300, .inl (fun _ => 0))), ((a 27), .inr (2, [.long 0])), ((a 28), .inl ((k 28), 4, .inl (fun _ => 0))), ((bm 0), .inr (10, [.int 0, .ref (bm 1), .int 0, .int 0, .int 0, .ref (bm 2), .ref (bm 3), .int 0, .ref (bm 4), .ref (bm 5), .int 0, .ref (bm 6), .ref (bm 7), .int 0, .ref (bm 8), .ref (bm 9), .ref (bm 10), .int 0, .long 0, .ref (bm 11), .ref (bm 12), .ref (bm 13), .ref (bm 14), .int 0])), ((bm 1), .inl ((km 1), 240, .inl (fun _ => 0))), ((bm 2), .inl ((km 2), 8, .inl (fun _ => 0))), ((bm 3), .inl ((km 3), 48, .inl (fun _ => 0))), ((bm 4), .inl ((km 4), 8, .inl (fun _ => 0))), ((bm 5), .inl ((km 5), 48, .inl (fun _ => 0))), ((bm 6), .inl ((km 6), 320, .inl (fun _ => 0))), ((bm 7), .inl ((km 7), 5, .inl (fun _ => 0))), ((bm 8), .inl ((km 8), 279, .inl (fun _ => 0))), ((bm 9), .inl ((km 9), 4, .inl (fun _ => 0))), ((bm 10), .inl ((km 10), 11160, .inl (fun _ => 0))), ((bm 11), .inl ((km 11), 98, .inl (fun _ => 0))), ((bm 12), .inl ((km 12), 98, .inl (fun _ => 0))), ((bm 13), .inl ((km 13), 8, .inl (fun _ => 0))), ((bm 14), .inl ((km 14), 279, .inl (fun _ => 0))), (q3, .inl (k3, 1, .inr (.inl (fun _ => 0))))]) (hS : va_S (fun q : Nat => s.heap.size ≤ q) s.heap H locs) (hl : lv_has ls 7 [(4, .int 0), (3, .ref q3), (2, .ref (bm 0)), (1, .ref (a 0)), (0, .ref b)]) : W p l e room_1 s m #[Value.ref b] below meth c H locs 45 18169 (lw_Z below #[Value.ref b] s) (F0 m 23 ls []) := by
  have C00 := C0
  obtain ⟨hx, hb, hr, hml, hown, hts, hX, hbl, hlocks, hgv⟩ := C0
  have hown : s.vm.findClass RL = some m.cls := hown
  have hA : ∀ q : Nat, s.heap.size ≤ q → (fun q : Nat => s.heap.size ≤ q) q := fun _ h => h
  have hbA : ¬ (fun q : Nat => s.heap.size ≤ q) b := Nat.not_le.mpr hbl
  refine lv_iload hx hb dL_law_23 (lv_at hl 0 rfl) ?_
  refine lv_aload_n hx hb dL_law_25 rfl (lv_at hl 4 rfl) ?_
  refine va_slen hx hb hX hbl hbA hS dL_law_26 ?_
  refine q_top (y := 6) rfl ?_
  refine lv_bipush (v := 6) hx hb dL_law_27 (by decide) ?_
  refine lv_isub hx hb dL_law_29 ?_
  refine q_top (y := 0) (by decide) ?_
  refine lv_icmp_gt (tgt := 1378) hx hb dL_law_30 (by decide) (fun c_1 => ?_) (fun c_1 => ?_)
  · exact absurd c_1 (by decide)
  refine lv_aload_n hx hb dL_law_33 rfl (lv_at hl 4 rfl) ?_
  refine lv_iload hx hb dL_law_34 (lv_at hl 0 rfl) ?_
  refine va_sld hx hb hX hbl hbA hS (i := 0) (vp_in_iff.mpr (by decide)) dL_law_36 ?_
  refine W.eq (g2 := F0 m 37 ls [.int (xs 0)]) rfl ?_
  refine lv_bipush (v := 63) hx hb dL_law_37 (by decide) ?_
  refine lv_iand hx hb dL_law_39 ?_
  obtain ⟨j, hj, ej⟩ := pk_andE (xs 0) (m := 63) 6 (by decide)
  refine q_top (y := nI j) ej ?_
  match j, hj with
  | 0, _ =>
    refine lv_tableIn (off := 164) (tgt := 204) hx hb dL_law_40 (by decide) (by decide) (by decide) (by decide) ?_
    exact lw_case_0 C00 t f sa hE hEX hlt hK hP hD hS hl
  | 1, _ =>
    refine lv_tableIn (off := 237) (tgt := 277) hx hb dL_law_40 (by decide) (by decide) (by decide) (by decide) ?_
    exact lw_case_1 C00 t f sa hE hEX hlt hK hP hD hS hl
  | 2, _ =>
    refine lv_tableIn (off := 262) (tgt := 302) hx hb dL_law_40 (by decide) (by decide) (by decide) (by decide) ?_
    exact lw_case_2 C00 t f sa hE hEX hlt hK hP hD hS hl
  | 3, _ =>
    refine lv_tableIn (off := 287) (tgt := 327) hx hb dL_law_40 (by decide) (by decide) (by decide) (by decide) ?_
    exact lw_case_3 C00 t f sa hE hEX hlt hK hP hD hS hl
  | 4, _ =>
    refine lv_tableIn (off := 312) (tgt := 352) hx hb dL_law_40 (by decide) (by decide) (by decide) (by decide) ?_
    exact lw_case_4 C00 t f sa hE hEX hlt hK hP hD hS hl
  | 5, _ =>
    refine lv_tableIn (off := 337) (tgt := 377) hx hb dL_law_40 (by decide) (by decide) (by decide) (by decide) ?_
    exact lw_case_5 C00 t f sa hE hEX hlt hK hP hD hS hl
  | 6, _ =>
    refine lv_tableIn (off := 374) (tgt := 414) hx hb dL_law_40 (by decide) (by decide) (by decide) (by decide) ?_
    exact lw_case_6 C00 t f sa hE hEX hlt hK hP hD hS hl
  | 7, _ =>
    refine lv_tableIn (off := 442) (tgt := 482) hx hb dL_law_40 (by decide) (by decide) (by decide) (by decide) ?_
    exact lw_case_7 C00 t f sa hE hEX hlt hK hP hD hS hl
  | 8, _ =>
    refine lv_tableIn (off := 479) (tgt := 519) hx hb dL_law_40 (by decide) (by decide) (by decide) (by decide) ?_
    exact lw_case_8 C00 t f sa hE hEX hlt hK hP hD hS hl
  | 9, _ =>
    refine lv_tableIn (off := 516) (tgt := 556) hx hb dL_law_40 (by decide) (by decide) (by decide) (by decide) ?_
    exact lw_case_9 C00 t f sa hE hEX hlt hK hP hD hS hl
  | 10, _ =>
    refine lv_tableIn (off := 553) (tgt := 593) hx hb dL_law_40 (by decide) (by decide) (by decide) (by decide) ?_
    exact lw_case_10 C00 t f sa hE hEX hlt hK hP hD hS hl
  | 11, _ =>
    refine lv_tableIn (off := 578) (tgt := 618) hx hb dL_law_40 (by decide) (by decide) (by decide) (by decide) ?_
    exact lw_case_11 C00 t f sa hE hEX hlt hK hP hD hS hl
  | 12, _ =>
    refine lv_tableIn (off := 603) (tgt := 643) hx hb dL_law_40 (by decide) (by decide) (by decide) (by decide) ?_
    exact lw_case_12 C00 t f sa hE hEX hlt hK hP hD hS hl
  | 13, _ =>
    refine lv_tableIn (off := 652) (tgt := 692) hx hb dL_law_40 (by decide) (by decide) (by decide) (by decide) ?_
    exact lw_case_13 C00 t f sa hE hEX hlt hK hP hD hS hl
  | 14, _ =>
    refine lv_tableIn (off := 677) (tgt := 717) hx hb dL_law_40 (by decide) (by decide) (by decide) (by decide) ?_
    exact lw_case_14 C00 t f sa hE hEX hlt hK hP hD hS hl
  | 15, _ =>
    refine lv_tableIn (off := 702) (tgt := 742) hx hb dL_law_40 (by decide) (by decide) (by decide) (by decide) ?_
    exact lw_case_15 C00 t f sa hE hEX hlt hK hP hD hS hl
  | 16, _ =>
    refine lv_tableIn (off := 727) (tgt := 767) hx hb dL_law_40 (by decide) (by decide) (by decide) (by decide) ?_
    exact lw_case_16 C00 t f sa hE hEX hlt hK hP hD hS hl
  | 17, _ =>
    refine lv_tableIn (off := 764) (tgt := 804) hx hb dL_law_40 (by decide) (by decide) (by decide) (by decide) ?_
    exact lw_case_17 C00 t f sa hE hEX hlt hK hP hD hS hl
  | 18, _ =>
    refine lv_tableIn (off := 789) (tgt := 829) hx hb dL_law_40 (by decide) (by decide) (by decide) (by decide) ?_
    exact lw_case_18 C00 t f sa hE hEX hlt hK hP hD hS hl
  | 19, _ =>
    refine lv_tableIn (off := 814) (tgt := 854) hx hb dL_law_40 (by decide) (by decide) (by decide) (by decide) ?_
    exact lw_case_19 C00 t f sa hE hEX hlt hK hP hD hS hl
  | 20, _ =>
    refine lv_tableIn (off := 883) (tgt := 923) hx hb dL_law_40 (by decide) (by decide) (by decide) (by decide) ?_
    exact lw_case_20 C00 t f sa hE hEX hlt hK hP hD hS hl
  | 21, _ =>
    refine lv_tableIn (off := 908) (tgt := 948) hx hb dL_law_40 (by decide) (by decide) (by decide) (by decide) ?_
    exact lw_case_21 C00 t f sa hE hEX hlt hK hP hD hS hl
  | 22, _ =>
    refine lv_tableIn (off := 921) (tgt := 961) hx hb dL_law_40 (by decide) (by decide) (by decide) (by decide) ?_
    exact lw_case_22 C00 t f sa hE hEX hlt hK hP hD hS hl
  | 23, _ =>
    refine lv_tableIn (off := 958) (tgt := 998) hx hb dL_law_40 (by decide) (by decide) (by decide) (by decide) ?_
    exact lw_case_23 C00 t f sa hE hEX hlt hK hP hD hS hl
  | 24, _ =>
    refine lv_tableIn (off := 983) (tgt := 1023) hx hb dL_law_40 (by decide) (by decide) (by decide) (by decide) ?_
    exact lw_case_24 C00 t f sa hE hEX hlt hK hP hD hS hl
  | 25, _ =>
    refine lv_tableIn (off := 1020) (tgt := 1060) hx hb dL_law_40 (by decide) (by decide) (by decide) (by decide) ?_
    exact lw_case_25 C00 t f sa hE hEX hlt hK hP hD hS hl
  | 26, _ =>
    refine lv_tableIn (off := 1033) (tgt := 1073) hx hb dL_law_40 (by decide) (by decide) (by decide) (by decide) ?_
    exact lw_case_26 C00 t f sa hE hEX hlt hK hP hD hS hl
  | 27, _ =>
    refine lv_tableIn (off := 1058) (tgt := 1098) hx hb dL_law_40 (by decide) (by decide) (by decide) (by decide) ?_
    exact lw_case_27 C00 t f sa hE hEX hlt hK hP hD hS hl
  | 28, _ =>
    refine lv_tableIn (off := 1083) (tgt := 1123) hx hb dL_law_40 (by decide) (by decide) (by decide) (by decide) ?_
    exact lw_case_28 C00 t f sa hE hEX hlt hK hP hD hS hl
  | 29, _ =>
    refine lv_tableIn (off := 1108) (tgt := 1148) hx hb dL_law_40 (by decide) (by decide) (by decide) (by decide) ?_
    exact lw_case_29 C00 t f sa hE hEX hlt hK hP hD hS hl
  | 30, _ =>
    refine lv_tableIn (off := 1145) (tgt := 1185) hx hb dL_law_40 (by decide) (by decide) (by decide) (by decide) ?_
    exact lw_case_30 C00 t f sa hE hEX hlt hK hP hD hS hl
  | 31, _ =>
    refine lv_tableIn (off := 1194) (tgt := 1234) hx hb dL_law_40 (by decide) (by decide) (by decide) (by decide) ?_
    exact lw_case_31 C00 t f sa hE hEX hlt hK hP hD hS hl
  | 32, _ =>
    refine lv_tableIn (off := 1231) (tgt := 1271) hx hb dL_law_40 (by decide) (by decide) (by decide) (by decide) ?_
    exact lw_case_32 C00 t f sa hE hEX hlt hK hP hD hS hl
  | 33, _ =>
    refine lv_tableIn (off := 1256) (tgt := 1296) hx hb dL_law_40 (by decide) (by decide) (by decide) (by decide) ?_
    exact lw_case_33 C00 t f sa hE hEX hlt hK hP hD hS hl
  | 34, _ =>
    refine lv_tableIn (off := 1281) (tgt := 1321) hx hb dL_law_40 (by decide) (by decide) (by decide) (by decide) ?_
    exact lw_case_34 C00 t f sa hE hEX hlt hK hP hD hS hl
  | 35, _ =>
    refine lv_tableIn (off := 1294) (tgt := 1334) hx hb dL_law_40 (by decide) (by decide) (by decide) (by decide) ?_
    exact lw_case_35 C00 t f sa hE hEX hlt hK hP hD hS hl
  | 36, _ =>
    refine lv_tableIn (off := 1307) (tgt := 1347) hx hb dL_law_40 (by decide) (by decide) (by decide) (by decide) ?_
    exact lw_case_36 C00 t f sa hE hEX hlt hK hP hD hS hl
  | j + 37, hj =>
    refine lv_tableOut (tgt := 1372) hx hb dL_law_40 (Or.inr (by rw [nI_toInt (by omega)]; omega)) (by decide) ?_
    exact lw_fin C00 (Nat.le_of_ble_eq_true rfl) (Nat.le_of_ble_eq_true rfl) hS (lv_sub hl [0, 4] rfl)