theorem dL_device_0 : decode cL_device 0 = .ok (.aload_n 3, 1) := by decide +kernel
theorem dL_device_1 : decode cL_device 1 = .ok (.iconst 0, 1) := by decide +kernel
theorem dL_device_2 : decode cL_device 2 = .ok (.aload_n 0, 1) := by decide +kernel
theorem dL_device_3 : decode cL_device 3 = .ok (.iload_n 1, 1) := by decide +kernel
theorem dL_device_4 : decode cL_device 4 = .ok (.iload_n 2, 1) := by decide +kernel
theorem dL_device_5 : decode cL_device 5 = .ok (.invokevirtual 7, 3) := by decide +kernel
theorem dL_device_13 : decode cL_device 13 = .ok (.astore 4, 2) := by decide +kernel
theorem dL_device_15 : decode cL_device 15 = .ok (.iconst 1, 1) := by decide +kernel
theorem dL_device_16 : decode cL_device 16 = .ok (.ireturn, 1) := by decide +kernel
theorem dX9_device_0 : decode cX9_device 0 = .ok (.aload_n 0, 1) := by decide +kernel
theorem dX9_device_1 : decode cX9_device 1 = .ok (.getfield 32, 3) := by decide +kernel
theorem dX9_device_4 : decode cX9_device 4 = .ok (.iload_n 1, 1) := by decide +kernel
theorem dX9_device_5 : decode cX9_device 5 = .ok (.invokevirtual 153, 3) := by decide +kernel
theorem dX9_device_8 : decode cX9_device 8 = .ok (.ifCond .eq 13, 3) := by decide +kernel
theorem dX9_device_21 : decode cX9_device 21 = .ok (.new 161, 3) := by decide +kernel
theorem dX9_device_24 : decode cX9_device 24 = .ok (.dup, 1) := by decide +kernel
theorem dX9_device_25 : decode cX9_device 25 = .ok (.ldc 163, 2) := by decide +kernel
theorem dX9_device_27 : decode cX9_device 27 = .ok (.invokespecial 165, 3) := by decide +kernel
theorem dX9_device_30 : decode cX9_device 30 = .ok (.athrow, 1) := by decide +kernel

def q_wx : List Cond := ((q_at RX9 165 "java/util/NoSuchElementException" 13 prog_29_method_4_code "java/lang/RuntimeException" ["java/lang/Exception"]).filter vx_no).filter goodWord
def q_nb : List Cond := [.declares (Bundle.initS "java/lang/RuntimeException"), .declares (Bundle.initS "java/lang/Exception"), .declares (Bundle.initS "java/lang/Throwable"), .castable "java/util/NoSuchElementException" "java/util/NoSuchElementException"]
theorem q_nb_all : ∀ w ∈ ((q_at RX9 165 "java/util/NoSuchElementException" 13 prog_29_method_4_code "java/lang/RuntimeException" ["java/lang/Exception"]).filter vx_no).filter (fun w => !goodWord w), w ∈ q_nb := by decide +kernel
theorem q_wx_good : q_wx.all goodWord = true := by decide +kernel
set_option maxRecDepth 20000 in
theorem q_wx_in : ∀ w ∈ q_wx, w ∈ lw_tbl := fun w h => (goodIn_r (big := lw_tbl) q_wx [148, 1134, 1143, 1145, 1148, 1150, 1135, 1136, 159, 160, 1137, 1142, 1146, 1166, 1124, 1167, 1126, 1168, 1128, 1138, 1140, 1130, 1162, 1163, 1165, 1130, 1153, 1154, 1155, 1156, 1156, 1157, 1158, 1159, 1159, 1160, 1161, 1162, 1152, 1113, 1121, 1122, 1123, 1125, 1127, 1129, 1133, 1132, 1131] (by decide +kernel) (by decide +kernel) w h).1
theorem q_x0 : decode prog_29_method_4_code 0 = .ok (.aload_n 0, 1) := by decide +kernel
theorem q_x1 : decode prog_29_method_4_code 1 = .ok (.aload_n 1, 1) := by decide +kernel
theorem q_x2 : decode prog_29_method_4_code 2 = .ok (.invokespecial 13, 3) := by decide +kernel
theorem q_x5 : decode prog_29_method_4_code 5 = .ok (.return_, 1) := by decide +kernel
theorem q_ot : ∀ w ∈ Cond.classLink RX9 161 "java/util/NoSuchElementException" :: Cond.initialized "java/util/NoSuchElementException" :: (q_at RX9 165 "java/util/NoSuchElementException" 13 prog_29_method_4_code "java/lang/RuntimeException" ["java/lang/Exception"]).filter vx_no, vx_ot w = true := by decide +kernel
/-- what a throw stands on beside the good words -/
def q_X (sa : Nat) (U : State) : Prop := vx_Zq Bundle.tN "UNASSIGNED_STACK" Bundle.steD (fun _ => False) U U.heap ∧ vx_Zq Bundle.tN "SUPPRESSED_SENTINEL" Bundle.listD (fun _ => False) U U.heap ∧ vk_R RX9 163 "no such device, or nothing such is told of it" sa U ∧ va_Nw (.declares (Bundle.initS "java/lang/RuntimeException")) U ∧ va_Nw (.declares (Bundle.initS "java/lang/Exception")) U ∧ va_Nw (.declares (Bundle.initS "java/lang/Throwable")) U ∧ va_Nw (.castable "java/util/NoSuchElementException" "java/util/NoSuchElementException") U
theorem q_X_bl {sa : Nat} (U : State) (g : JFrame) (mk : MethodId) (a : Array Value) (h : q_X sa U) : q_X sa (U.calling g mk a) :=
  ⟨vx_Zq.moved (U := U.calling g mk a) (Vm.Alike.refl U.vm) h.1, vx_Zq.moved (U := U.calling g mk a) (Vm.Alike.refl U.vm) h.2.1, vk_R.same (U := U.calling g mk a) rfl h.2.2.1, va_Nw.same rfl (U := U.calling g mk a) rfl h.2.2.2.1, va_Nw.same rfl (U := U.calling g mk a) rfl h.2.2.2.2.1, va_Nw.same rfl (U := U.calling g mk a) rfl h.2.2.2.2.2.1, va_Nw.same rfl (U := U.calling g mk a) rfl h.2.2.2.2.2.2⟩
theorem q_X_give {sa : Nat} {s : State} {H : Heap} (h : q_X sa s) (hk : ∀ q : Nat, q < s.heap.size → H[q]? = s.heap[q]?) (U : State) (hU : U.heap = H) (hW : s.WarmedH U.vm) : q_X sa U := by
  refine ⟨?_, ?_, vk_R.warm hW h.2.2.1, va_Nw.warmD hW h.2.2.2.1, va_Nw.warmD hW h.2.2.2.2.1, va_Nw.warmD hW h.2.2.2.2.2.1, va_Nw.warmC hW h.2.2.2.2.2.2⟩
  · rw [hU]; exact vx_Zq.moved hW.alike (h.1.kept (fun a h1 _ => hk a h1))
  · rw [hU]; exact vx_Zq.moved hW.alike (h.2.1.kept (fun a h1 _ => hk a h1))
def q_RX (D : va_G) (wc : va_W) (tys : List (ClassId × FieldType)) (sa : Nat) (U : State) : Prop := va_P D vwCl wc U.heap ∧ va_K D vwCl tys U ∧ q_X sa U
section QX
variable {p : Program} {l : Launch} {e : Env} {R : Room} {s : State} {m : MethodId} {args : Array Value} {below : List Frame} {meth : Method} {c : Code} {H : Heap} {locs : List Loc} {cells slots : Nat} {Q : State → Prop}
variable {pc : Nat} {ls : Array Slot} {rest st0 : List Value} {a : Array Value} {A0 : Nat → Prop} {H0 : Heap} {D : va_G} {ws wc : va_W} {tys tyc : List (ClassId × FieldType)} {mc ms sa : Nat}
theorem q_blRX {av : List Value} : FrameBlind (va_Pc av (q_RX D wc tyc sa)) := fun a U g mk q => ⟨q.1, q.2.1, va_K.moved (u := U) (U := U.calling g mk a) (Vm.Alike.refl U.vm) q.2.2.1, q_X_bl U g mk a q.2.2.2⟩
theorem q_preXS {av : List Value} (hK : va_K D vwCl tys s) (hP : va_P D vwCl ws H) (hEU : ∀ U : State, U.heap = H → s.WarmedH U.vm → q_X sa U) (isC : List Nat) (hs : isC.filterMap (fun i => ws[i]?) = wc) (it : List Nat) (ht : it.filterMap (fun i => tys[i]?) = tyc) : PreS s H (va_Pc av (q_RX D wc tyc sa)) av :=
  ⟨q_blRX, fun U hU hW => ⟨rfl, by rw [hU]; exact hP.sub isC hs, va_K.moved hW.alike (hK.sub it ht), hEU U hU hW⟩⟩
theorem q_preXV {b : Addr} {As : List Value} {ci q0 : Nat} {q : vw_C} {fs : List Value} (hK : va_K D vwCl tys s) (hP : va_P D vwCl ws H) (hEU : ∀ U : State, U.heap = H → s.WarmedH U.vm → q_X sa U) (hc : vwCl[ci]? = some q) (he : ws[q0]? = some (b, .inr (ci, fs))) (isC : List Nat) (hs : isC.filterMap (fun i => ws[i]?) = wc) (it : List Nat) (ht : it.filterMap (fun i => tys[i]?) = tyc) : PreV s H q.1 b (va_Pc (.ref b :: As) (q_RX D wc tyc sa)) As :=
  ⟨q_blRX, va_recv hK hP hc he, (q_preXS hK hP hEU isC hs it ht).2⟩
/-- a reader that makes cells -/
theorem q_goiN {v : Int32} (hr : va_Run p l e R s m args below meth c H locs cells slots mc ms (F0 m pc ls st0) rest (q_i v a) (fun _ => False)) (hP : va_P D vwCl ws H) (hS : va_S A0 H0 H locs)
    (kk : ∀ (H1 : Heap) (locs1 : List Loc), va_P D vwCl ws H1 → va_S A0 H0 H1 locs1 → W p l e R s m args below meth c H1 locs1 (cells + mc) (slots + ms) Q (F0 m (pc + 3) ls (.int v :: rest))) : W p l e R s m args below meth c H locs cells slots Q (F0 m pc ls st0) :=
  va_calli hr hS (fun _ _ h => h.elim) (fun _ h => h.elim) (fun r u t H1 locs1 ht hvm hw _ hz hk hS1 => by rw [hw]; exact kk H1 locs1 (q_keep hP hk) hS1)
end QX

def wq_X9_device : List Cond := .code yX9_device cX9_device 3 (some .int) :: ([.fieldLink RX9 32 "HubTree" "plan" "LHubTree$Plan;", .methodLink RX9 153 yX5_has, .instanceMethod yX5_has, .selects RX5 yX5_has yX5_has, .initialized RX5, .code yX5_has cX5_has 2 (some .boolean), .fieldLink RX5 18 "HubTree$Plan" "devices" "I", .classLink RX9 161 "java/util/NoSuchElementException", .initialized "java/util/NoSuchElementException"] ++ wsX90 ++ wsX50 ++ q_wx)
set_option maxRecDepth 20000 in
theorem g_X9_device_X5_has_153 : GoodIn wq_X9_device (wsV RX9 153 RX5 yX5_has wq_X5_has) := goodIn_r _ [2, 3, 4, 5, 6, 7, 25, 26, 27] (by decide +kernel) (by decide +kernel)
theorem iq_X9_device_9 : ∀ w ∈ wsX90, w ∈ wq_X9_device := fun _ h => List.mem_cons_of_mem _ (List.mem_append_left _ (List.mem_append_left _ (List.mem_append_right _ h)))
theorem iq_X9_device_5 : ∀ w ∈ wsX50, w ∈ wq_X9_device := fun _ h => List.mem_cons_of_mem _ (List.mem_append_left _ (List.mem_append_right _ h))
set_option maxHeartbeats 4000000 in
set_option maxRecDepth 100000 in
/-- device of a fresh object throws -/
theorem c_X9_device (l : Launch) (hlt : l.stackTraces = false) (dC : Nat → ClassId) (dI : Nat → Nat → Nat) (a : Nat → Nat) (sa : Nat) (z1 z2 : Int32) : vx_Met l yX9_device wq_X9_device ({ frames := 7, cells := 1, slots := 6, locals := 90 }) (va_Pc [.ref (a 0), .int z1, .int z2] (q_RX (dC, dI) [((a 0), .inr (9, [.ref (a 1), .ref (a 3), .ref (a 4), .ref (a 7), .ref (a 10), .ref (a 14), .ref (a 16), .ref (a 18), .ref (a 19), .ref (a 21), .ref (a 23), .ref (a 25), .ref (a 27), .ref (a 28), .int 0])), ((a 7), .inr (5, [.ref (a 8), .ref (a 9), .int 0]))] [] sa)) (va_Qi (fun (_ : Int32) (_ : Unit) => False) (fun _ _ => True) (fun _ => False)) (vx_X (fun _ : Unit => True) (fun E _ _ => E = "java/util/NoSuchElementException") (fun _ => False)) 1 6 (fun _ => False) := by
  refine vx_ofW (cc := cX9_device) (maxL := 3) (ret := (some .int)) (by decide) rfl ?_
  intro p e s m args below meth c s₁ B hml hnt hv
  obtain ⟨rfl, hP, hK, hE⟩ := hv
  have hx := B.exec
  have hb := B.bytes
  have hr := B.returns
  have hts := atoms_spec (ws := wq_X9_device) B.pre
  have hown : s.vm.findClass RX9 = some m.cls := findClass_of_methodNamed B.named
  have hlocks := B.notSynchronized
  have hS : va_S (fun _ => False) s.heap s.heap [] := va_S.rf
  have hl := lv_entry ([.ref (a 0), .int z1, .int z2]) (n := 3) (Nat.le_of_ble_eq_true rfl)
  rw [lg_entry_eq]
  generalize (lg_sl ([.ref (a 0), .int z1, .int z2]) ++ List.replicate (3 - (lg_sl ([.ref (a 0), .int z1, .int z2])).length) Slot.unset).toArray = ls at hl ⊢
  have hl : lv_has ls 3 [(0, .ref (a 0)), (1, .int z1), (2, .int z2)] := hl
  refine lv_aload_n hx hb dX9_device_0 rfl (lv_at hl 0 rfl) ?_
  refine va_get (D := (dC, dI)) (ci := 9) (v := .ref (a 7)) (C := RX9) (T := TX9) (N := 15) hx hb hts iq_X9_device_9 hown hK hP 0 rfl rfl 3 (by decide) (hts (.fieldLink RX9 32 "HubTree" "plan" "LHubTree$Plan;") (List.mem_of_getElem? (i := 1) rfl)) (fun _ h9 => h9) rfl dX9_device_1 ?_
  refine lv_iload_n hx hb dX9_device_4 rfl (lv_at hl 1 rfl) ?_
  refine q_goi (v := 0) (va_runV (As := [.int z1]) (rest := []) ⟨hx, hb, hml, hown, hts⟩ (c_X5_has l dC dI (a 7) (a 8) (a 9) z1) (cwV 1 hts g_X9_device_X5_has_153 rfl rfl rfl (by decide +kernel) ⟨Nat.le_of_ble_eq_true rfl, Nat.le_of_ble_eq_true rfl⟩) (q_preV hK hP (ci := 5) (q0 := 1) rfl rfl [1] rfl [] rfl) rfl rfl hl.1 rfl (lv_room (Nat.le_of_ble_eq_true rfl)) dX9_device_5 ⟨Nat.le_of_ble_eq_true rfl, Nat.le_of_ble_eq_true rfl⟩) hP hS (fun H locs hP hS => ?_)
  refine lv_if_eq (tgt := 21) hx hb dX9_device_8 (by decide) (fun c_1 => ?_) (fun c_1 => ?_)
  · skip
    refine q_throw (A := fun _ => False) (cls := "java/util/NoSuchElementException") (Y9 := "java/lang/RuntimeException") (r9 := ["java/lang/Exception"]) (ix := 13) (rx := prog_29_method_4_code) (text := "no such device, or nothing such is told of it") hx hb hlt q_x0 q_x1 q_x2 q_x5 hown (by decide +kernel) (by decide +kernel) (by decide +kernel) (hts (.classLink RX9 161 "java/util/NoSuchElementException") (List.mem_of_getElem? (i := 8) rfl)) (hts (.initialized "java/util/NoSuchElementException") (List.mem_of_getElem? (i := 9) rfl)) hE.2.2.1 (vx_hat (fun w h => hts w (List.mem_cons_of_mem _ (List.mem_append_right _ h))) q_nb_all (vx_c (va_Nw.use rfl hE.2.2.2.1) (vx_c (va_Nw.use rfl hE.2.2.2.2.1) (vx_c (va_Nw.use rfl hE.2.2.2.2.2.1) (vx_c (va_Nw.use rfl hE.2.2.2.2.2.2) vx_n))))) q_ot hE.1 hE.2.1 hS (by rw [hml]; exact hl.1) dX9_device_21 dX9_device_24 dX9_device_25 dX9_device_27 dX9_device_30 (fun x hx9 => absurd (hnt x hx9) id) (Nat.le_of_ble_eq_true rfl) (Nat.le_of_ble_eq_true rfl) (Nat.le_of_ble_eq_true rfl) (Nat.le_of_ble_eq_true rfl) hlocks (fun t ht h1 h2 => ⟨(), trivial, rfl, Nat.le_trans hS.1 h1, fun q h3 _ => (h2 q (Nat.lt_of_lt_of_le h3 hS.1)).trans (hS.2.1 q h3 id)⟩) hS.2.2 (Nat.le_of_ble_eq_true rfl) (Nat.le_of_ble_eq_true rfl)
  · exact absurd (by decide) c_1

def wq_L_device : List Cond := .codeWith yL_device cL_device 5 (some .int) [(0, 10, 13, 13)] :: ([.classLink RL 13 "java/util/NoSuchElementException", .methodLink RL 7 yX9_device, .instanceMethod yX9_device, .selects RX9 yX9_device yX9_device, .initialized RX9, .code yX9_device cX9_device 3 (some .int), .fieldLink RX9 32 "HubTree" "plan" "LHubTree$Plan;", .methodLink RX9 153 yX5_has, .instanceMethod yX5_has, .selects RX5 yX5_has yX5_has, .initialized RX5, .code yX5_has cX5_has 2 (some .boolean), .fieldLink RX5 18 "HubTree$Plan" "devices" "I", .classLink RX9 161 "java/util/NoSuchElementException", .initialized "java/util/NoSuchElementException"] ++ wsX90 ++ wsX50 ++ q_wx)
set_option maxRecDepth 20000 in
theorem g_L_device_X9_device : GoodIn wq_L_device (wsV RL 7 RX9 yX9_device wq_X9_device) := goodIn_app (goodIn_r _ [2, 3, 4, 5] (by decide +kernel) (by decide +kernel)) (goodIn_ca (goodIn_r _ [6, 7, 8, 9, 10, 11, 12, 13, 14, 15, 16, 17, 18, 19, 20, 21, 22, 23, 24, 25, 26, 27, 28, 29, 30, 31, 32, 33] (by decide +kernel) (by decide +kernel)) (goodIn_sub (fun _ h => List.mem_cons_of_mem _ (List.mem_append_right _ h)) q_wx_good))
set_option maxHeartbeats 4000000 in
set_option maxRecDepth 100000 in
/-- the law's helper: 1 where the class throws -/
theorem c_L_device (l : Launch) (hlt : l.stackTraces = false) (dC : Nat → ClassId) (dI : Nat → Nat → Nat) (a : Nat → Nat) (sa o : Nat) (z1 z2 : Int32) : Met l yL_device wq_L_device ({ frames := 8, cells := 1, slots := 6, locals := 112 }) (va_Pc [.ref (a 0), .int z1, .int z2, .ref o] (q_RX (dC, dI) [((a 0), .inr (9, [.ref (a 1), .ref (a 3), .ref (a 4), .ref (a 7), .ref (a 10), .ref (a 14), .ref (a 16), .ref (a 18), .ref (a 19), .ref (a 21), .ref (a 23), .ref (a 25), .ref (a 27), .ref (a 28), .int 0])), ((a 7), .inr (5, [.ref (a 8), .ref (a 9), .int 0]))] [] sa)) (q_i 1) 1 6 (fun _ => False) := by
  refine va_MetW (cc := cL_device) (maxL := 5) (ret := (some .int)) (hh := [(0, 10, 13, 13)]) (by decide) rfl ?_
  intro p e s m args below meth c s₁ B hml hv
  obtain ⟨rfl, hP, hK, hE⟩ := hv
  have hx := B.exec
  have hb := B.bytes
  have hr := B.returns
  have hts := atoms_spec (ws := wq_L_device) B.pre
  have hown : s.vm.findClass RL = some m.cls := findClass_of_methodNamed B.named
  have hlocks := B.notSynchronized
  have htab := vx_table (x := yL_device) B (hts (.codeWith yL_device cL_device 5 (some .int) [(0, 10, 13, 13)]) List.mem_cons_self)
  have hS : va_S (fun _ => False) s.heap s.heap [] := va_S.rf
  have hl := lv_entry ([.ref (a 0), .int z1, .int z2, .ref o]) (n := 5) (Nat.le_of_ble_eq_true rfl)
  rw [lg_entry_eq]
  generalize (lg_sl ([.ref (a 0), .int z1, .int z2, .ref o]) ++ List.replicate (5 - (lg_sl ([.ref (a 0), .int z1, .int z2, .ref o])).length) Slot.unset).toArray = ls at hl ⊢
  have hl : lv_has ls 5 [(0, .ref (a 0)), (1, .int z1), (2, .int z2), (3, .ref o)] := hl
  refine lv_aload_n hx hb dL_device_0 rfl (lv_at hl 3 rfl) ?_
  refine lv_iconst (v := 0) hx hb dL_device_1 (by decide) ?_
  refine lv_aload_n hx hb dL_device_2 rfl (lv_at hl 0 rfl) ?_
  refine lv_iload_n hx hb dL_device_3 rfl (lv_at hl 1 rfl) ?_
  refine lv_iload_n hx hb dL_device_4 rfl (lv_at hl 2 rfl) ?_
  refine vx_calli (vx_runV (As := [.int z1, .int z2]) (rest := [.int 0, .ref o]) ⟨hx, hb, hml, hown, hts⟩ (c_X9_device l hlt dC dI a sa z1 z2) (cwV 2 hts g_L_device_X9_device rfl rfl rfl (by decide +kernel) ⟨Nat.le_of_ble_eq_true rfl, Nat.le_of_ble_eq_true rfl⟩) (q_preXV hK hP (q_X_give hE (fun _ _ => rfl)) (ci := 9) (q0 := 0) rfl rfl [0, 1] rfl [] rfl) rfl rfl hl.1 rfl (lv_room (Nat.le_of_ble_eq_true rfl)) dL_device_5 ⟨Nat.le_of_ble_eq_true rfl, Nat.le_of_ble_eq_true rfl⟩) hS (fun _ _ h => h.elim) (fun _ h => h.elim) (fun _ _ h => h.elim) (fun E ce q9 u t H1 locs1 ht hvm hw hB hz hk hS hce hcv hcl => ?_) (fun r u t H1 locs1 ht hvm hw hB hz hk hS => hw.elim)
  obtain rfl : E = "java/util/NoSuchElementException" := hB
  refine vx_catch (name := "java/util/NoSuchElementException") hown [] ⟨0, 10, 13, 13⟩ [] (by rw [htab]; rfl) (fun z hz => nomatch hz) rfl (by decide) (hts (.classLink RL 13 "java/util/NoSuchElementException") (List.mem_of_getElem? (i := 1) rfl)) (va_Nw.use rfl hE.2.2.2.2.2.2) hce hcv hcl ?_
  refine lv_astore (lv' := [(4, .ref q9), (0, .ref (a 0)), (1, .int z1), (2, .int z2), (3, .ref o)]) hx hb dL_device_13 hl (by decide) rfl (fun ls hl => ?_)
  refine lv_iconst (v := 1) hx hb dL_device_15 (by decide) ?_
  exact W.iret (v := 1) hx hb hr (fun t ht hW => ⟨⟨1, (), rfl, rfl, trivial⟩, hS.F ht⟩) hS.2.2 dL_device_16

