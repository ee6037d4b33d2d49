
/-! THE CLAIM OUT OF ONE WALK OF THE LAW'S BODY. Your part is whole_start (and what it stands on); all else here is the same for every law, but numbers. -/
def R_law : String := "HubTreeLaw"
def lw_P (b : Addr) (xs : List Int32) (args : Array Value) (s : State) : Prop := args = #[.ref b] ∧ s.IntsAt b xs ∧ xs.length ≤ 6 ∧ (Jvm.Cond.and given_1 narrow_1).before args s = true
def lw_Q (_ : Array Value) (s : State) (o : Outcome) (t : State) : Prop := o = .returned (some (.int 1)) ∧ Framed s o t [] 48 18191
def lw_Z (below : List Frame) (a : Array Value) (s : State) : State → Prop := fun t => ∃ o, t.status = .running ∧ Ended t below o ∧ lw_Q a s o t
/-- the law's own end, with 1 on the stack, nothing written that was there before, its room as the claim has it -/
theorem lw_ret {p : Program} {l : Launch} {e : Env} {s : State} {m : MethodId} {below : List Frame} {meth : Method} {c : Code} {b : Nat} (hx : p.tables.exec = Jvm.exec) (hb : c.code = code) (hr : meth.sig.returnType = ret) (hlocks : meth.locks = false) {pc : Nat} {H : Heap} {ls : Array Slot} (hdg : decode code pc = .ok (.ireturn, 1)) : W p l e room_1 s m #[Value.ref b] below meth c H [] 48 18191 (lw_Z below #[Value.ref b] s) (F0 m pc ls [.int 1]) := by
  intro T hT X
  obtain ⟨fs, hret, hrun, hended, hW, hframe⟩ := X.leave (v := some (.int 1)) (hlocks := hlocks) (fun h => by rw [hr] at h; cases h)
  have hmeth' : T.vm.method? m = some meth := X.method'
  refine ⟨T.setFrames fs, ?_, .returned (some (.int 1)), hrun, hended, rfl, ⟨_, rfl⟩, hW, hframe⟩
  jvm_step X.here [X.here.top, hx, hb, hdg, hmeth', hr, ret, narrow_b1]
  (try refine ⟨rfl, ?_⟩); (try refine ⟨rfl, ?_⟩)
  first | (intro acts; rw [hret _ acts rfl rfl rfl]) | rw [hret _ _ rfl rfl rfl]
  exact Steps.refl _
/-- what holds at the law's entry: the machine, the code, the tables' words (any of lw_tbl by 'hts w (by decide +kernel)'), the script of L ints xs at the cell b, what the Statement gives of the start (any of its parts by flat_of_before) -/
def lw_At (p : Program) (s : State) (m : MethodId) (meth : Method) (c : Code) (b L : Nat) (xs : Nat → Int32) : Prop :=
  p.tables.exec = Jvm.exec ∧ c.code = code ∧ meth.sig.returnType = ret ∧ c.maxLocals = 7 ∧ s.vm.findClass R_law = some m.cls ∧ (∀ w ∈ lw_tbl, w.before #[Value.ref b] s = true) ∧ va_X b L xs s s.heap ∧ b < s.heap.size ∧ meth.locks = false ∧ (Jvm.Cond.and given_1 narrow_1).before #[Value.ref b] s = true

set_option maxRecDepth 20000 in
theorem iL_0 : ∀ w ∈ wsX00, w ∈ lw_tbl := fun w h => (goodIn_r (big := lw_tbl) wsX00 [256, 258] (by decide +kernel) (by decide +kernel) w h).1
set_option maxRecDepth 20000 in
theorem iL_1 : ∀ w ∈ wsX10, w ∈ lw_tbl := fun w h => (goodIn_r (big := lw_tbl) wsX10 [300, 302] (by decide +kernel) (by decide +kernel) w h).1
set_option maxRecDepth 20000 in
theorem iL_2 : ∀ w ∈ wsX20, w ∈ lw_tbl := fun w h => (goodIn_r (big := lw_tbl) wsX20 [313] (by decide +kernel) (by decide +kernel) w h).1
set_option maxRecDepth 20000 in
theorem iL_3 : ∀ w ∈ wsX30, w ∈ lw_tbl := fun w h => (goodIn_r (big := lw_tbl) wsX30 [269, 271] (by decide +kernel) (by decide +kernel) w h).1
set_option maxRecDepth 20000 in
theorem iL_4 : ∀ w ∈ wsX40, w ∈ lw_tbl := fun w h => (goodIn_r (big := lw_tbl) wsX40 [284, 286, 288] (by decide +kernel) (by decide +kernel) w h).1
set_option maxRecDepth 20000 in
theorem iL_5 : ∀ w ∈ wsX50, w ∈ lw_tbl := fun w h => (goodIn_r (big := lw_tbl) wsX50 [212, 214, 216] (by decide +kernel) (by decide +kernel) w h).1
set_option maxRecDepth 20000 in
theorem iL_6 : ∀ w ∈ wsX60, w ∈ lw_tbl := fun w h => (goodIn_r (big := lw_tbl) wsX60 [187, 189, 191] (by decide +kernel) (by decide +kernel) w h).1
set_option maxRecDepth 20000 in
theorem iL_7 : ∀ w ∈ wsX70, w ∈ lw_tbl := fun w h => (goodIn_r (big := lw_tbl) wsX70 [235, 237, 239, 241, 243] (by decide +kernel) (by decide +kernel) w h).1
set_option maxRecDepth 20000 in
theorem iL_8 : ∀ w ∈ wsX80, w ∈ lw_tbl := fun w h => (goodIn_r (big := lw_tbl) wsX80 [172, 174] (by decide +kernel) (by decide +kernel) w h).1
set_option maxRecDepth 20000 in
theorem iL_9 : ∀ w ∈ wsX90, w ∈ lw_tbl := fun w h => (goodIn_r (big := lw_tbl) wsX90 [331, 333, 335, 337, 339, 341, 343, 345, 347, 349, 351, 353, 355, 357, 359] (by decide +kernel) (by decide +kernel) w h).1
set_option maxRecDepth 20000 in
theorem iL_10 : ∀ w ∈ wsX100, w ∈ lw_tbl := fun w h => (goodIn_r (big := lw_tbl) wsX100 [1208, 1210, 1212, 1214, 1216, 1218, 1220, 1222, 1224, 1226, 1228, 1230, 1232, 1234, 1236, 1238, 1240, 1242, 1244, 1246, 1248, 1250, 1252, 1254] (by decide +kernel) (by decide +kernel) w h).1
set_option maxRecDepth 20000 in
theorem g_law_X9_feed_19 : GoodIn lw_tbl (wsV RL 19 RX9 yX9_feed wq_X9_feed) := goodIn_r _ [362, 363, 364, 129, 365, 366, 367, 130, 368, 316, 170, 369, 370, 371, 372, 169, 167, 331, 333, 335, 337, 339, 341, 343, 345, 347, 349, 351, 353, 355, 357, 359, 172, 174] (by decide +kernel) (by decide +kernel)
set_option maxRecDepth 20000 in
theorem g_law_X10_feed_23 : GoodIn lw_tbl (wsV RL 23 RX10 yX10_feed wq_X10_feed) := goodIn_r _ [1261, 1262, 1263, 139, 1264, 1186, 1265, 1266, 139, 1267, 1185, 1208, 1210, 1212, 1214, 1216, 1218, 1220, 1222, 1224, 1226, 1228, 1230, 1232, 1234, 1236, 1238, 1240, 1242, 1244, 1246, 1248, 1250, 1252, 1254] (by decide +kernel) (by decide +kernel)
set_option maxRecDepth 20000 in
theorem g_law_X9_end_24 : GoodIn lw_tbl (wsV RL 24 RX9 yX9_end wq_X9_end) := goodIn_r _ [373, 374, 375, 129, 376, 316, 170, 331, 333, 335, 337, 339, 341, 343, 345, 347, 349, 351, 353, 355, 357, 359, 172, 174] (by decide +kernel) (by decide +kernel)
set_option maxRecDepth 20000 in
theorem g_law_X10_end_28 : GoodIn lw_tbl (wsV RL 28 RX10 yX10_end wq_X10_end) := goodIn_r _ [1268, 1269, 1270, 139, 1271, 1186, 1272, 1273, 139, 1274, 1208, 1210, 1212, 1214, 1216, 1218, 1220, 1222, 1224, 1226, 1228, 1230, 1232, 1234, 1236, 1238, 1240, 1242, 1244, 1246, 1248, 1250, 1252, 1254] (by decide +kernel) (by decide +kernel)
set_option maxRecDepth 20000 in
theorem g_law_X9_fault_29 : GoodIn lw_tbl (wsV RL 29 RX9 yX9_fault wq_X9_fault) := goodIn_r _ [377, 378, 379, 129, 380, 317, 320, 525, 526, 527, 131, 528, 230, 529, 530, 147, 531, 185, 394, 396, 0, 397, 184, 171, 318, 381, 382, 383, 384, 385, 386, 387, 132, 388, 200, 391, 393, 392, 140, 208, 398, 400, 1, 401, 331, 333, 335, 337, 339, 341, 343, 345, 347, 349, 351, 353, 355, 357, 359, 235, 237, 239, 241, 243, 187, 189, 191, 172, 174, 212, 214, 216] (by decide +kernel) (by decide +kernel)
set_option maxRecDepth 20000 in
theorem g_law_X10_fault_33 : GoodIn lw_tbl (wsV RL 33 RX10 yX10_fault wq_X10_fault) := goodIn_r _ [1275, 1276, 1277, 139, 1278, 1321, 1323, 50, 139, 1324, 1187, 1188, 1196, 1325, 1327, 51, 1328, 1286, 1288, 45, 1289, 1290, 1292, 46, 1293, 1186, 1329, 1330, 1331, 1317, 1319, 49, 1320, 1279, 1281, 44, 1282, 1191, 1189, 1283, 1284, 1285, 1208, 1210, 1212, 1214, 1216, 1218, 1220, 1222, 1224, 1226, 1228, 1230, 1232, 1234, 1236, 1238, 1240, 1242, 1244, 1246, 1248, 1250, 1252, 1254] (by decide +kernel) (by decide +kernel)
set_option maxRecDepth 20000 in
theorem g_law_X9_text_34 : GoodIn lw_tbl (wsV RL 34 RX9 yX9_text wq_X9_text) := goodIn_r _ [540, 541, 542, 129, 543, 569, 571, 10, 129, 572, 320, 234, 317, 525, 526, 527, 131, 528, 230, 529, 530, 147, 531, 185, 394, 396, 0, 397, 184, 171, 544, 546, 7, 547, 318, 381, 382, 383, 384, 385, 386, 387, 132, 388, 200, 391, 393, 392, 140, 208, 398, 400, 1, 401, 331, 333, 335, 337, 339, 341, 343, 345, 347, 349, 351, 353, 355, 357, 359, 235, 237, 239, 241, 243, 187, 189, 191, 172, 174, 212, 214, 216] (by decide +kernel) (by decide +kernel)
set_option maxRecDepth 20000 in
theorem g_law_X10_text_37 : GoodIn lw_tbl (wsV RL 37 RX10 yX10_text wq_X10_text) := goodIn_r _ [1336, 1337, 1338, 139, 1339, 1197, 1321, 1323, 50, 139, 1324, 1187, 1188, 1196, 1325, 1327, 51, 1328, 1286, 1288, 45, 1289, 1290, 1292, 46, 1293, 1186, 1329, 1330, 1331, 1317, 1319, 49, 1320, 1279, 1281, 44, 1282, 1191, 1189, 1283, 1284, 1285, 1208, 1210, 1212, 1214, 1216, 1218, 1220, 1222, 1224, 1226, 1228, 1230, 1232, 1234, 1236, 1238, 1240, 1242, 1244, 1246, 1248, 1250, 1252, 1254] (by decide +kernel) (by decide +kernel)
set_option maxRecDepth 20000 in
theorem g_law_X9_rule_38 : GoodIn lw_tbl (wsV RL 38 RX9 yX9_rule wq_X9_rule) := goodIn_r _ [578, 579, 580, 129, 581, 319, 582, 522, 523, 132, 524, 208, 331, 333, 335, 337, 339, 341, 343, 345, 347, 349, 351, 353, 355, 357, 359, 212, 214, 216] (by decide +kernel) (by decide +kernel)
set_option maxRecDepth 20000 in
theorem g_law_X10_rule_41 : GoodIn lw_tbl (wsV RL 41 RX10 yX10_rule wq_X10_rule) := goodIn_r _ [1648, 1649, 1650, 139, 1651, 1376, 1378, 61, 139, 1379, 1194, 1208, 1210, 1212, 1214, 1216, 1218, 1220, 1222, 1224, 1226, 1228, 1230, 1232, 1234, 1236, 1238, 1240, 1242, 1244, 1246, 1248, 1250, 1252, 1254] (by decide +kernel) (by decide +kernel)
set_option maxRecDepth 20000 in
theorem g_law_X9_told_42 : GoodIn lw_tbl (wsV RL 42 RX9 yX9_told wq_X9_told) := goodIn_r _ [583, 584, 585, 129, 586, 319, 587, 588, 589, 132, 590, 208, 331, 333, 335, 337, 339, 341, 343, 345, 347, 349, 351, 353, 355, 357, 359, 212, 214, 216] (by decide +kernel) (by decide +kernel)
set_option maxRecDepth 20000 in
theorem g_law_X10_told_45 : GoodIn lw_tbl (wsV RL 45 RX10 yX10_told wq_X10_told) := goodIn_r _ [1652, 1653, 1654, 139, 1655, 1368, 1370, 59, 139, 1371, 1194, 1272, 1273, 1274, 1208, 1210, 1212, 1214, 1216, 1218, 1220, 1222, 1224, 1226, 1228, 1230, 1232, 1234, 1236, 1238, 1240, 1242, 1244, 1246, 1248, 1250, 1252, 1254] (by decide +kernel) (by decide +kernel)
set_option maxRecDepth 20000 in
theorem g_law_X10_device_51 : GoodIn lw_tbl (wsV RL 51 RX10 yX10_device wq_X10_device) := goodIn_r _ [1656, 1657, 1658, 139, 1659, 1368, 1370, 59, 139, 1371, 1194, 1272, 1273, 1274, 1184, 1208, 1210, 1212, 1214, 1216, 1218, 1220, 1222, 1224, 1226, 1228, 1230, 1232, 1234, 1236, 1238, 1240, 1242, 1244, 1246, 1248, 1250, 1252, 1254] (by decide +kernel) (by decide +kernel)
set_option maxRecDepth 20000 in
theorem g_law_X10_thrown_52 : GoodIn lw_tbl (wsV RL 52 RX10 yX10_thrown wq_X10_thrown) := goodIn_r _ [1257, 1258, 1259, 139, 1260, 1184, 1208, 1210, 1212, 1214, 1216, 1218, 1220, 1222, 1224, 1226, 1228, 1230, 1232, 1234, 1236, 1238, 1240, 1242, 1244, 1246, 1248, 1250, 1252, 1254] (by decide +kernel) (by decide +kernel)
set_option maxRecDepth 20000 in
theorem g_law_X9_port_56 : GoodIn lw_tbl (wsV RL 56 RX9 yX9_port wq_X9_port) := goodIn_r _ [591, 592, 593, 129, 594, 319, 595, 596, 597, 132, 598, 599, 600, 601, 602, 208, 331, 333, 335, 337, 339, 341, 343, 345, 347, 349, 351, 353, 355, 357, 359, 212, 214, 216] (by decide +kernel) (by decide +kernel)
set_option maxRecDepth 20000 in
theorem g_law_X10_port_59 : GoodIn lw_tbl (wsV RL 59 RX10 yX10_port wq_X10_port) := goodIn_r _ [1660, 1661, 1662, 139, 1663, 1372, 1374, 60, 139, 1375, 1376, 1378, 61, 1379, 1194, 1368, 1370, 59, 1371, 1272, 1273, 1274, 1208, 1210, 1212, 1214, 1216, 1218, 1220, 1222, 1224, 1226, 1228, 1230, 1232, 1234, 1236, 1238, 1240, 1242, 1244, 1246, 1248, 1250, 1252, 1254] (by decide +kernel) (by decide +kernel)
set_option maxRecDepth 20000 in
theorem g_law_X9_hub_60 : GoodIn lw_tbl (wsV RL 60 RX9 yX9_hub wq_X9_hub) := goodIn_r _ [607, 608, 609, 129, 610, 319, 611, 612, 613, 132, 614, 599, 600, 601, 602, 208, 615, 331, 333, 335, 337, 339, 341, 343, 345, 347, 349, 351, 353, 355, 357, 359, 212, 214, 216] (by decide +kernel) (by decide +kernel)
set_option maxRecDepth 20000 in
theorem g_law_X10_hub_63 : GoodIn lw_tbl (wsV RL 63 RX10 yX10_hub wq_X10_hub) := goodIn_r _ [1664, 1665, 1666, 139, 1667, 1372, 1374, 60, 139, 1375, 1376, 1378, 61, 1379, 1194, 1368, 1370, 59, 1371, 1272, 1273, 1274, 1647, 1208, 1210, 1212, 1214, 1216, 1218, 1220, 1222, 1224, 1226, 1228, 1230, 1232, 1234, 1236, 1238, 1240, 1242, 1244, 1246, 1248, 1250, 1252, 1254] (by decide +kernel) (by decide +kernel)
set_option maxRecDepth 20000 in
theorem g_law_X9_octet_64 : GoodIn lw_tbl (wsV RL 64 RX9 yX9_octet wq_X9_octet) := goodIn_r _ [672, 673, 674, 129, 675, 319, 587, 588, 589, 132, 590, 208, 331, 333, 335, 337, 339, 341, 343, 345, 347, 349, 351, 353, 355, 357, 359, 212, 214, 216] (by decide +kernel) (by decide +kernel)
set_option maxRecDepth 20000 in
theorem g_law_X10_octet_67 : GoodIn lw_tbl (wsV RL 67 RX10 yX10_octet wq_X10_octet) := goodIn_r _ [1668, 1669, 1670, 139, 1671, 1368, 1370, 59, 139, 1371, 1194, 1272, 1273, 1274, 1208, 1210, 1212, 1214, 1216, 1218, 1220, 1222, 1224, 1226, 1228, 1230, 1232, 1234, 1236, 1238, 1240, 1242, 1244, 1246, 1248, 1250, 1252, 1254] (by decide +kernel) (by decide +kernel)
set_option maxRecDepth 20000 in
theorem g_law_X9_at_68 : GoodIn lw_tbl (wsV RL 68 RX9 yX9_at wq_X9_at) := goodIn_r _ [688, 689, 690, 129, 691, 321, 692, 693, 694, 134, 695, 255, 209, 331, 333, 335, 337, 339, 341, 343, 345, 347, 349, 351, 353, 355, 357, 359, 256, 258, 212, 214, 216] (by decide +kernel) (by decide +kernel)
set_option maxRecDepth 20000 in
theorem g_law_X10_at_71 : GoodIn lw_tbl (wsV RL 71 RX10 yX10_at wq_X10_at) := goodIn_r _ [1672, 1673, 1674, 139, 1675, 1560, 1562, 106, 139, 1563, 1194, 1208, 1210, 1212, 1214, 1216, 1218, 1220, 1222, 1224, 1226, 1228, 1230, 1232, 1234, 1236, 1238, 1240, 1242, 1244, 1246, 1248, 1250, 1252, 1254] (by decide +kernel) (by decide +kernel)
set_option maxRecDepth 20000 in
theorem g_law_X9_helper_72 : GoodIn lw_tbl (wsV RL 72 RX9 yX9_helper wq_X9_helper) := goodIn_r _ [696, 697, 698, 129, 699, 319, 587, 588, 589, 132, 590, 208, 331, 333, 335, 337, 339, 341, 343, 345, 347, 349, 351, 353, 355, 357, 359, 212, 214, 216] (by decide +kernel) (by decide +kernel)
set_option maxRecDepth 20000 in
theorem g_law_X10_helper_75 : GoodIn lw_tbl (wsV RL 75 RX10 yX10_helper wq_X10_helper) := goodIn_r _ [1676, 1677, 1678, 139, 1679, 1368, 1370, 59, 139, 1371, 1194, 1272, 1273, 1274, 1208, 1210, 1212, 1214, 1216, 1218, 1220, 1222, 1224, 1226, 1228, 1230, 1232, 1234, 1236, 1238, 1240, 1242, 1244, 1246, 1248, 1250, 1252, 1254] (by decide +kernel) (by decide +kernel)
set_option maxRecDepth 20000 in
theorem g_law_X9_plug_76 : GoodIn lw_tbl (wsV RL 76 RX9 yX9_plug wq_X9_plug) := goodIn_r _ [701, 702, 703, 129, 704, 321, 705, 707, 15, 129, 708, 709, 710, 711, 134, 712, 255, 718, 588, 589, 132, 590, 208, 713, 715, 16, 716, 717, 522, 523, 524, 874, 876, 40, 877, 329, 331, 333, 335, 337, 339, 341, 343, 345, 347, 349, 351, 353, 355, 357, 359, 256, 258, 212, 214, 216] (by decide +kernel) (by decide +kernel)
set_option maxRecDepth 20000 in
theorem g_law_X10_plug_80 : GoodIn lw_tbl (wsV RL 80 RX10 yX10_plug wq_X10_plug) := goodIn_r _ [1352, 1353, 1354, 139, 1355, 1356, 1358, 56, 139, 1359, 1360, 1362, 57, 1363, 1364, 1366, 58, 1367, 1368, 1370, 59, 1371, 1194, 1272, 1273, 1274, 1376, 1378, 61, 1379, 1392, 1394, 65, 1395, 1199, 1208, 1210, 1212, 1214, 1216, 1218, 1220, 1222, 1224, 1226, 1228, 1230, 1232, 1234, 1236, 1238, 1240, 1242, 1244, 1246, 1248, 1250, 1252, 1254] (by decide +kernel) (by decide +kernel)
set_option maxRecDepth 20000 in
theorem g_law_X9_unplug_81 : GoodIn lw_tbl (wsV RL 81 RX9 yX9_unplug wq_X9_unplug) := goodIn_r _ [879, 880, 881, 129, 882, 321, 883, 866, 867, 134, 868, 255, 209, 666, 667, 152, 668, 669, 670, 671, 705, 707, 15, 129, 708, 709, 710, 711, 712, 718, 588, 589, 132, 590, 208, 713, 715, 16, 716, 717, 522, 523, 524, 874, 876, 40, 877, 329, 331, 333, 335, 337, 339, 341, 343, 345, 347, 349, 351, 353, 355, 357, 359, 256, 258, 212, 214, 216] (by decide +kernel) (by decide +kernel)
set_option maxRecDepth 20000 in
theorem g_law_X10_unplug_84 : GoodIn lw_tbl (wsV RL 84 RX10 yX10_unplug wq_X10_unplug) := goodIn_r _ [1593, 1594, 1595, 139, 1596, 1356, 1358, 56, 139, 1359, 1360, 1362, 57, 1363, 1364, 1366, 58, 1367, 1368, 1370, 59, 1371, 1194, 1272, 1273, 1274, 1376, 1378, 61, 1379, 1392, 1394, 65, 1395, 1199, 1208, 1210, 1212, 1214, 1216, 1218, 1220, 1222, 1224, 1226, 1228, 1230, 1232, 1234, 1236, 1238, 1240, 1242, 1244, 1246, 1248, 1250, 1252, 1254] (by decide +kernel) (by decide +kernel)
set_option maxRecDepth 20000 in
theorem g_law_X9_tick_85 : GoodIn lw_tbl (wsV RL 85 RX9 yX9_tick wq_X9_tick) := goodIn_r _ [884, 885, 886, 129, 887, 321, 705, 707, 15, 129, 708, 709, 710, 711, 134, 712, 255, 718, 588, 589, 132, 590, 208, 713, 715, 16, 716, 717, 522, 523, 524, 874, 876, 40, 877, 329, 331, 333, 335, 337, 339, 341, 343, 345, 347, 349, 351, 353, 355, 357, 359, 256, 258, 212, 214, 216] (by decide +kernel) (by decide +kernel)
set_option maxRecDepth 20000 in
theorem g_law_X10_tick_88 : GoodIn lw_tbl (wsV RL 88 RX10 yX10_tick wq_X10_tick) := goodIn_r _ [1597, 1598, 1599, 139, 1600, 1356, 1358, 56, 139, 1359, 1360, 1362, 57, 1363, 1364, 1366, 58, 1367, 1368, 1370, 59, 1371, 1194, 1272, 1273, 1274, 1376, 1378, 61, 1379, 1392, 1394, 65, 1395, 1199, 1208, 1210, 1212, 1214, 1216, 1218, 1220, 1222, 1224, 1226, 1228, 1230, 1232, 1234, 1236, 1238, 1240, 1242, 1244, 1246, 1248, 1250, 1252, 1254] (by decide +kernel) (by decide +kernel)
set_option maxRecDepth 20000 in
theorem g_law_X9_supply_89 : GoodIn lw_tbl (wsV RL 89 RX9 yX9_supply wq_X9_supply) := goodIn_r _ [888, 889, 890, 129, 891, 321, 705, 707, 15, 129, 708, 709, 710, 711, 134, 712, 255, 718, 588, 589, 132, 590, 208, 713, 715, 16, 716, 717, 522, 523, 524, 874, 876, 40, 877, 329, 331, 333, 335, 337, 339, 341, 343, 345, 347, 349, 351, 353, 355, 357, 359, 256, 258, 212, 214, 216] (by decide +kernel) (by decide +kernel)
set_option maxRecDepth 20000 in
theorem g_law_X10_supply_92 : GoodIn lw_tbl (wsV RL 92 RX10 yX10_supply wq_X10_supply) := goodIn_r _ [1601, 1602, 1603, 139, 1604, 1356, 1358, 56, 139, 1359, 1360, 1362, 57, 1363, 1364, 1366, 58, 1367, 1368, 1370, 59, 1371, 1194, 1272, 1273, 1274, 1376, 1378, 61, 1379, 1392, 1394, 65, 1395, 1199, 1208, 1210, 1212, 1214, 1216, 1218, 1220, 1222, 1224, 1226, 1228, 1230, 1232, 1234, 1236, 1238, 1240, 1242, 1244, 1246, 1248, 1250, 1252, 1254] (by decide +kernel) (by decide +kernel)
set_option maxRecDepth 20000 in
theorem g_law_X9_error_93 : GoodIn lw_tbl (wsV RL 93 RX9 yX9_error wq_X9_error) := goodIn_r _ [892, 893, 894, 129, 895, 319, 587, 588, 589, 132, 590, 208, 321, 705, 707, 15, 129, 708, 709, 710, 711, 134, 712, 255, 718, 713, 715, 16, 716, 717, 522, 523, 524, 874, 876, 40, 877, 329, 331, 333, 335, 337, 339, 341, 343, 345, 347, 349, 351, 353, 355, 357, 359, 212, 214, 216, 256, 258] (by decide +kernel) (by decide +kernel)
set_option maxRecDepth 20000 in
theorem g_law_X10_error_96 : GoodIn lw_tbl (wsV RL 96 RX10 yX10_error wq_X10_error) := goodIn_r _ [1605, 1606, 1607, 139, 1608, 1356, 1358, 56, 139, 1359, 1360, 1362, 57, 1363, 1364, 1366, 58, 1367, 1368, 1370, 59, 1371, 1194, 1272, 1273, 1274, 1376, 1378, 61, 1379, 1392, 1394, 65, 1395, 1199, 1208, 1210, 1212, 1214, 1216, 1218, 1220, 1222, 1224, 1226, 1228, 1230, 1232, 1234, 1236, 1238, 1240, 1242, 1244, 1246, 1248, 1250, 1252, 1254] (by decide +kernel) (by decide +kernel)
set_option maxRecDepth 20000 in
theorem g_law_X9_again_97 : GoodIn lw_tbl (wsV RL 97 RX9 yX9_again wq_X9_again) := goodIn_r _ [896, 897, 898, 129, 899, 321, 705, 707, 15, 129, 708, 709, 710, 711, 134, 712, 255, 718, 588, 589, 132, 590, 208, 713, 715, 16, 716, 717, 522, 523, 524, 874, 876, 40, 877, 329, 331, 333, 335, 337, 339, 341, 343, 345, 347, 349, 351, 353, 355, 357, 359, 256, 258, 212, 214, 216] (by decide +kernel) (by decide +kernel)
set_option maxRecDepth 20000 in
theorem g_law_X10_again_100 : GoodIn lw_tbl (wsV RL 100 RX10 yX10_again wq_X10_again) := goodIn_r _ [1609, 1610, 1611, 139, 1612, 1356, 1358, 56, 139, 1359, 1360, 1362, 57, 1363, 1364, 1366, 58, 1367, 1368, 1370, 59, 1371, 1194, 1272, 1273, 1274, 1376, 1378, 61, 1379, 1392, 1394, 65, 1395, 1199, 1208, 1210, 1212, 1214, 1216, 1218, 1220, 1222, 1224, 1226, 1228, 1230, 1232, 1234, 1236, 1238, 1240, 1242, 1244, 1246, 1248, 1250, 1252, 1254] (by decide +kernel) (by decide +kernel)
set_option maxRecDepth 20000 in
theorem g_law_X9_sleep_101 : GoodIn lw_tbl (wsV RL 101 RX9 yX9_sleep wq_X9_sleep) := goodIn_r _ [900, 901, 902, 129, 903, 321, 705, 707, 15, 129, 708, 709, 710, 711, 134, 712, 255, 718, 588, 589, 132, 590, 208, 713, 715, 16, 716, 717, 522, 523, 524, 874, 876, 40, 877, 329, 331, 333, 335, 337, 339, 341, 343, 345, 347, 349, 351, 353, 355, 357, 359, 256, 258, 212, 214, 216] (by decide +kernel) (by decide +kernel)
set_option maxRecDepth 20000 in
theorem g_law_X10_sleep_104 : GoodIn lw_tbl (wsV RL 104 RX10 yX10_sleep wq_X10_sleep) := goodIn_r _ [1613, 1614, 1615, 139, 1616, 1356, 1358, 56, 139, 1359, 1360, 1362, 57, 1363, 1364, 1366, 58, 1367, 1368, 1370, 59, 1371, 1194, 1272, 1273, 1274, 1376, 1378, 61, 1379, 1392, 1394, 65, 1395, 1199, 1208, 1210, 1212, 1214, 1216, 1218, 1220, 1222, 1224, 1226, 1228, 1230, 1232, 1234, 1236, 1238, 1240, 1242, 1244, 1246, 1248, 1250, 1252, 1254] (by decide +kernel) (by decide +kernel)
set_option maxRecDepth 20000 in
theorem g_law_X9_years_107 : GoodIn lw_tbl (wsV RL 107 RX9 yX9_years wq_X9_years) := goodIn_r _ [904, 905, 906, 129, 907, 319, 582, 522, 523, 132, 524, 208, 331, 333, 335, 337, 339, 341, 343, 345, 347, 349, 351, 353, 355, 357, 359, 212, 214, 216] (by decide +kernel) (by decide +kernel)
set_option maxRecDepth 20000 in
theorem g_law_X10_years_111 : GoodIn lw_tbl (wsV RL 111 RX10 yX10_years wq_X10_years) := goodIn_r _ [1617, 1618, 1619, 139, 1620, 1376, 1378, 61, 139, 1379, 1194, 1208, 1210, 1212, 1214, 1216, 1218, 1220, 1222, 1224, 1226, 1228, 1230, 1232, 1234, 1236, 1238, 1240, 1242, 1244, 1246, 1248, 1250, 1252, 1254] (by decide +kernel) (by decide +kernel)
set_option maxRecDepth 20000 in
theorem g_law_X9_status_112 : GoodIn lw_tbl (wsV RL 112 RX9 yX9_status wq_X9_status) := goodIn_r _ [914, 915, 916, 129, 917, 329, 331, 333, 335, 337, 339, 341, 343, 345, 347, 349, 351, 353, 355, 357, 359] (by decide +kernel) (by decide +kernel)
set_option maxRecDepth 20000 in
theorem g_law_X10_status_115 : GoodIn lw_tbl (wsV RL 115 RX10 yX10_status wq_X10_status) := goodIn_r _ [1635, 1636, 1637, 139, 1638, 1272, 1273, 139, 1274, 1199, 1208, 1210, 1212, 1214, 1216, 1218, 1220, 1222, 1224, 1226, 1228, 1230, 1232, 1234, 1236, 1238, 1240, 1242, 1244, 1246, 1248, 1250, 1252, 1254] (by decide +kernel) (by decide +kernel)
set_option maxRecDepth 20000 in
theorem g_law_X9_undo_116 : GoodIn lw_tbl (wsV RL 116 RX9 yX9_undo wq_X9_undo) := goodIn_r _ [918, 919, 920, 129, 921, 324, 283, 331, 333, 335, 337, 339, 341, 343, 345, 347, 349, 351, 353, 355, 357, 359, 284, 286, 288] (by decide +kernel) (by decide +kernel)
set_option maxRecDepth 20000 in
theorem g_law_X10_undo_119 : GoodIn lw_tbl (wsV RL 119 RX10 yX10_undo wq_X10_undo) := goodIn_r _ [1639, 1640, 1641, 139, 1642, 1201, 1208, 1210, 1212, 1214, 1216, 1218, 1220, 1222, 1224, 1226, 1228, 1230, 1232, 1234, 1236, 1238, 1240, 1242, 1244, 1246, 1248, 1250, 1252, 1254] (by decide +kernel) (by decide +kernel)
set_option maxRecDepth 20000 in
theorem g_law_X9_log_120 : GoodIn lw_tbl (wsV RL 120 RX9 yX9_log wq_X9_log) := goodIn_r _ [931, 932, 933, 129, 934, 615, 325, 935, 936, 937, 137, 938, 298, 939, 444, 143, 445, 331, 333, 335, 337, 339, 341, 343, 345, 347, 349, 351, 353, 355, 357, 359, 300, 302] (by decide +kernel) (by decide +kernel)
set_option maxRecDepth 20000 in
theorem g_law_X10_log_123 : GoodIn lw_tbl (wsV RL 123 RX10 yX10_log wq_X10_log) := goodIn_r _ [1643, 1644, 1645, 139, 1646, 1198, 1272, 1273, 139, 1274, 1647, 1208, 1210, 1212, 1214, 1216, 1218, 1220, 1222, 1224, 1226, 1228, 1230, 1232, 1234, 1236, 1238, 1240, 1242, 1244, 1246, 1248, 1250, 1252, 1254] (by decide +kernel) (by decide +kernel)
set_option maxRecDepth 20000 in
theorem g_law_X9_when_124 : GoodIn lw_tbl (wsV RL 124 RX9 yX9_when wq_X9_when) := goodIn_r _ [944, 945, 946, 129, 947, 319, 587, 588, 589, 132, 590, 208, 331, 333, 335, 337, 339, 341, 343, 345, 347, 349, 351, 353, 355, 357, 359, 212, 214, 216] (by decide +kernel) (by decide +kernel)
set_option maxRecDepth 20000 in
theorem g_law_X10_when_127 : GoodIn lw_tbl (wsV RL 127 RX10 yX10_when wq_X10_when) := goodIn_r _ [1680, 1681, 1682, 139, 1683, 1368, 1370, 59, 139, 1371, 1194, 1272, 1273, 1274, 1208, 1210, 1212, 1214, 1216, 1218, 1220, 1222, 1224, 1226, 1228, 1230, 1232, 1234, 1236, 1238, 1240, 1242, 1244, 1246, 1248, 1250, 1252, 1254] (by decide +kernel) (by decide +kernel)
set_option maxRecDepth 20000 in
theorem g_law_X9_ahead_128 : GoodIn lw_tbl (wsV RL 128 RX9 yX9_ahead wq_X9_ahead) := goodIn_r _ [971, 972, 973, 129, 974, 319, 582, 522, 523, 132, 524, 208, 331, 333, 335, 337, 339, 341, 343, 345, 347, 349, 351, 353, 355, 357, 359, 212, 214, 216] (by decide +kernel) (by decide +kernel)
set_option maxRecDepth 20000 in
theorem g_law_X10_ahead__131 : GoodIn lw_tbl (wsV RL 131 RX10 yX10_ahead_ wq_X10_ahead_) := goodIn_r _ [1696, 1697, 1698, 139, 1699, 1376, 1378, 61, 139, 1379, 1194, 1208, 1210, 1212, 1214, 1216, 1218, 1220, 1222, 1224, 1226, 1228, 1230, 1232, 1234, 1236, 1238, 1240, 1242, 1244, 1246, 1248, 1250, 1252, 1254] (by decide +kernel) (by decide +kernel)
set_option maxRecDepth 20000 in
theorem g_law_X9_last_132 : GoodIn lw_tbl (wsV RL 132 RX9 yX9_last wq_X9_last) := goodIn_r _ [980, 981, 982, 129, 983, 319, 582, 522, 523, 132, 524, 208, 331, 333, 335, 337, 339, 341, 343, 345, 347, 349, 351, 353, 355, 357, 359, 212, 214, 216] (by decide +kernel) (by decide +kernel)
set_option maxRecDepth 20000 in
theorem g_law_X10_last_135 : GoodIn lw_tbl (wsV RL 135 RX10 yX10_last wq_X10_last) := goodIn_r _ [1700, 1701, 1702, 139, 1703, 1376, 1378, 61, 139, 1379, 1194, 1208, 1210, 1212, 1214, 1216, 1218, 1220, 1222, 1224, 1226, 1228, 1230, 1232, 1234, 1236, 1238, 1240, 1242, 1244, 1246, 1248, 1250, 1252, 1254] (by decide +kernel) (by decide +kernel)
set_option maxRecDepth 20000 in
theorem g_law_X9_place_136 : GoodIn lw_tbl (wsV RL 136 RX9 yX9_place wq_X9_place) := goodIn_r _ [988, 989, 990, 129, 991, 319, 587, 588, 589, 132, 590, 208, 331, 333, 335, 337, 339, 341, 343, 345, 347, 349, 351, 353, 355, 357, 359, 212, 214, 216] (by decide +kernel) (by decide +kernel)
set_option maxRecDepth 20000 in
theorem g_law_X10_place_139 : GoodIn lw_tbl (wsV RL 139 RX10 yX10_place wq_X10_place) := goodIn_r _ [1708, 1709, 1710, 139, 1711, 1368, 1370, 59, 139, 1371, 1194, 1272, 1273, 1274, 1208, 1210, 1212, 1214, 1216, 1218, 1220, 1222, 1224, 1226, 1228, 1230, 1232, 1234, 1236, 1238, 1240, 1242, 1244, 1246, 1248, 1250, 1252, 1254] (by decide +kernel) (by decide +kernel)
set_option maxRecDepth 20000 in
theorem g_law_X9_order_140 : GoodIn lw_tbl (wsV RL 140 RX9 yX9_order wq_X9_order) := goodIn_r _ [1002, 1003, 1004, 129, 1005, 319, 582, 522, 523, 132, 524, 208, 331, 333, 335, 337, 339, 341, 343, 345, 347, 349, 351, 353, 355, 357, 359, 212, 214, 216] (by decide +kernel) (by decide +kernel)
set_option maxRecDepth 20000 in
theorem g_law_X10_order_143 : GoodIn lw_tbl (wsV RL 143 RX10 yX10_order wq_X10_order) := goodIn_r _ [1716, 1717, 1718, 139, 1719, 1376, 1378, 61, 139, 1379, 1194, 1208, 1210, 1212, 1214, 1216, 1218, 1220, 1222, 1224, 1226, 1228, 1230, 1232, 1234, 1236, 1238, 1240, 1242, 1244, 1246, 1248, 1250, 1252, 1254] (by decide +kernel) (by decide +kernel)
set_option maxRecDepth 20000 in
theorem g_law_X9_lost_144 : GoodIn lw_tbl (wsV RL 144 RX9 yX9_lost wq_X9_lost) := goodIn_r _ [1014, 1015, 1016, 129, 1017, 319, 587, 588, 589, 132, 590, 208, 331, 333, 335, 337, 339, 341, 343, 345, 347, 349, 351, 353, 355, 357, 359, 212, 214, 216] (by decide +kernel) (by decide +kernel)
set_option maxRecDepth 20000 in
theorem g_law_X10_lost_147 : GoodIn lw_tbl (wsV RL 147 RX10 yX10_lost wq_X10_lost) := goodIn_r _ [1720, 1721, 1722, 139, 1723, 1368, 1370, 59, 139, 1371, 1194, 1272, 1273, 1274, 1208, 1210, 1212, 1214, 1216, 1218, 1220, 1222, 1224, 1226, 1228, 1230, 1232, 1234, 1236, 1238, 1240, 1242, 1244, 1246, 1248, 1250, 1252, 1254] (by decide +kernel) (by decide +kernel)
set_option maxRecDepth 20000 in
theorem g_law_X9_shares_148 : GoodIn lw_tbl (wsV RL 148 RX9 yX9_shares wq_X9_shares) := goodIn_r _ [1023, 1024, 1025, 129, 1026, 319, 587, 588, 589, 132, 590, 208, 331, 333, 335, 337, 339, 341, 343, 345, 347, 349, 351, 353, 355, 357, 359, 212, 214, 216] (by decide +kernel) (by decide +kernel)
set_option maxRecDepth 20000 in
theorem g_law_X10_shares_151 : GoodIn lw_tbl (wsV RL 151 RX10 yX10_shares wq_X10_shares) := goodIn_r _ [1724, 1725, 1726, 139, 1727, 1368, 1370, 59, 139, 1371, 1194, 1272, 1273, 1274, 1208, 1210, 1212, 1214, 1216, 1218, 1220, 1222, 1224, 1226, 1228, 1230, 1232, 1234, 1236, 1238, 1240, 1242, 1244, 1246, 1248, 1250, 1252, 1254] (by decide +kernel) (by decide +kernel)
set_option maxRecDepth 20000 in
theorem g_law_X9_step_152 : GoodIn lw_tbl (wsV RL 152 RX9 yX9_step wq_X9_step) := goodIn_r _ [1027, 1028, 1029, 129, 1030, 320, 1031, 1032, 1033, 133, 1034, 233, 615, 331, 333, 335, 337, 339, 341, 343, 345, 347, 349, 351, 353, 355, 357, 359, 235, 237, 239, 241, 243] (by decide +kernel) (by decide +kernel)
set_option maxRecDepth 20000 in
theorem g_law_X10_step_155 : GoodIn lw_tbl (wsV RL 155 RX10 yX10_step wq_X10_step) := goodIn_r _ [1728, 1729, 1730, 139, 1731, 1732, 1734, 122, 139, 1735, 1197, 1272, 1273, 1274, 1647, 1208, 1210, 1212, 1214, 1216, 1218, 1220, 1222, 1224, 1226, 1228, 1230, 1232, 1234, 1236, 1238, 1240, 1242, 1244, 1246, 1248, 1250, 1252, 1254] (by decide +kernel) (by decide +kernel)
set_option maxRecDepth 20000 in
theorem g_law_X9_run_156 : GoodIn lw_tbl (wsV RL 156 RX9 yX9_run wq_X9_run) := goodIn_r _ [1039, 1040, 1041, 129, 1042, 319, 582, 522, 523, 132, 524, 208, 615, 331, 333, 335, 337, 339, 341, 343, 345, 347, 349, 351, 353, 355, 357, 359, 212, 214, 216] (by decide +kernel) (by decide +kernel)
set_option maxRecDepth 20000 in
theorem g_law_X10_run_159 : GoodIn lw_tbl (wsV RL 159 RX10 yX10_run wq_X10_run) := goodIn_r _ [1736, 1737, 1738, 139, 1739, 1732, 1734, 122, 139, 1735, 1197, 1272, 1273, 1274, 1647, 1208, 1210, 1212, 1214, 1216, 1218, 1220, 1222, 1224, 1226, 1228, 1230, 1232, 1234, 1236, 1238, 1240, 1242, 1244, 1246, 1248, 1250, 1252, 1254] (by decide +kernel) (by decide +kernel)
set_option maxRecDepth 20000 in
theorem g_law_X9_perform_160 : GoodIn lw_tbl (wsV RL 160 RX9 yX9_perform wq_X9_perform) := goodIn_r _ [1055, 1056, 1057, 129, 1058, 319, 582, 522, 523, 132, 524, 208, 331, 333, 335, 337, 339, 341, 343, 345, 347, 349, 351, 353, 355, 357, 359, 212, 214, 216] (by decide +kernel) (by decide +kernel)
set_option maxRecDepth 20000 in
theorem g_law_X10_perform_163 : GoodIn lw_tbl (wsV RL 163 RX10 yX10_perform wq_X10_perform) := goodIn_r _ [1747, 1748, 1749, 139, 1750, 1732, 1734, 122, 139, 1735, 1197, 1272, 1273, 1274, 1208, 1210, 1212, 1214, 1216, 1218, 1220, 1222, 1224, 1226, 1228, 1230, 1232, 1234, 1236, 1238, 1240, 1242, 1244, 1246, 1248, 1250, 1252, 1254] (by decide +kernel) (by decide +kernel)
set_option maxRecDepth 20000 in
theorem g_law_X9_all_164 : GoodIn lw_tbl (wsV RL 164 RX9 yX9_all wq_X9_all) := goodIn_r _ [1059, 1060, 1061, 129, 1062, 319, 582, 522, 523, 132, 524, 208, 615, 331, 333, 335, 337, 339, 341, 343, 345, 347, 349, 351, 353, 355, 357, 359, 212, 214, 216] (by decide +kernel) (by decide +kernel)
set_option maxRecDepth 20000 in
theorem g_law_X10_all_167 : GoodIn lw_tbl (wsV RL 167 RX10 yX10_all wq_X10_all) := goodIn_r _ [1751, 1752, 1753, 139, 1754, 1376, 1378, 61, 139, 1379, 1194, 1647, 1208, 1210, 1212, 1214, 1216, 1218, 1220, 1222, 1224, 1226, 1228, 1230, 1232, 1234, 1236, 1238, 1240, 1242, 1244, 1246, 1248, 1250, 1252, 1254] (by decide +kernel) (by decide +kernel)
set_option maxRecDepth 20000 in
theorem g_law_X9_image_168 : GoodIn lw_tbl (wsV RL 168 RX9 yX9_image wq_X9_image) := goodIn_r _ [1087, 1088, 1089, 129, 1090, 319, 582, 522, 523, 132, 524, 208, 331, 333, 335, 337, 339, 341, 343, 345, 347, 349, 351, 353, 355, 357, 359, 212, 214, 216] (by decide +kernel) (by decide +kernel)
set_option maxRecDepth 20000 in
theorem g_law_X10_image_171 : GoodIn lw_tbl (wsV RL 171 RX10 yX10_image wq_X10_image) := goodIn_r _ [1772, 1773, 1774, 139, 1775, 1376, 1378, 61, 139, 1379, 1194, 1208, 1210, 1212, 1214, 1216, 1218, 1220, 1222, 1224, 1226, 1228, 1230, 1232, 1234, 1236, 1238, 1240, 1242, 1244, 1246, 1248, 1250, 1252, 1254] (by decide +kernel) (by decide +kernel)
set_option maxRecDepth 20000 in
theorem g_law_X9_back_172 : GoodIn lw_tbl (wsV RL 172 RX9 yX9_back wq_X9_back) := goodIn_r _ [1096, 1097, 1098, 129, 1099, 330, 331, 333, 335, 337, 339, 341, 343, 345, 347, 349, 351, 353, 355, 357, 359] (by decide +kernel) (by decide +kernel)
set_option maxRecDepth 20000 in
theorem g_law_X10_back_175 : GoodIn lw_tbl (wsV RL 175 RX10 yX10_back wq_X10_back) := goodIn_r _ [1776, 1777, 1778, 139, 1779, 1207, 1208, 1210, 1212, 1214, 1216, 1218, 1220, 1222, 1224, 1226, 1228, 1230, 1232, 1234, 1236, 1238, 1240, 1242, 1244, 1246, 1248, 1250, 1252, 1254] (by decide +kernel) (by decide +kernel)
set_option maxRecDepth 20000 in
theorem g_law_X9_count_176 : GoodIn lw_tbl (wsV RL 176 RX9 yX9_count wq_X9_count) := goodIn_r _ [1100, 1101, 1102, 129, 1103, 319, 211, 320, 234, 316, 170, 325, 935, 936, 937, 137, 938, 298, 939, 444, 143, 445, 324, 283, 615, 331, 333, 335, 337, 339, 341, 343, 345, 347, 349, 351, 353, 355, 357, 359, 212, 214, 216, 235, 237, 239, 241, 243, 172, 174, 300, 302, 284, 286, 288] (by decide +kernel) (by decide +kernel)
set_option maxRecDepth 20000 in
theorem g_law_X10_count_179 : GoodIn lw_tbl (wsV RL 179 RX10 yX10_count wq_X10_count) := goodIn_r _ [1780, 1781, 1782, 139, 1783, 1194, 1197, 1186, 1198, 1201, 1647, 1208, 1210, 1212, 1214, 1216, 1218, 1220, 1222, 1224, 1226, 1228, 1230, 1232, 1234, 1236, 1238, 1240, 1242, 1244, 1246, 1248, 1250, 1252, 1254] (by decide +kernel) (by decide +kernel)
set_option maxRecDepth 20000 in
theorem g_law_L_device : GoodIn lw_tbl (va_wsS RL 46 yL_device wq_L_device) := goodIn_app (goodIn_r _ [1104, 1105, 128] (by decide +kernel) (by decide +kernel)) (goodIn_ca (goodIn_r _ [1106, 1107, 1108, 1109, 1110, 129, 1111, 319, 587, 588, 589, 132, 590, 208, 1112, 151, 331, 333, 335, 337, 339, 341, 343, 345, 347, 349, 351, 353, 355, 357, 359, 212, 214, 216] (by decide +kernel) (by decide +kernel)) (goodIn_sub q_wx_in q_wx_good))
set_option maxRecDepth 20000 in
theorem g_law_X9_init_15 : GoodIn lw_tbl (wq_X9_init) := goodIn_r _ [157, 158, 159, 160, 161, 162, 130, 165, 166, 177, 167, 169, 164, 316, 178, 179, 131, 182, 183, 185, 186, 184, 180, 181, 317, 194, 195, 132, 198, 199, 219, 200, 204, 208, 197, 318, 319, 220, 221, 133, 224, 225, 226, 227, 229, 231, 233, 223, 320, 246, 247, 134, 250, 251, 252, 255, 248, 249, 321, 322, 261, 262, 135, 265, 266, 267, 268, 263, 264, 323, 274, 275, 136, 278, 279, 280, 281, 282, 277, 324, 291, 292, 137, 295, 296, 297, 298, 294, 325, 326, 327, 305, 306, 138, 309, 310, 311, 308, 328, 329, 330, 172, 174, 331, 333, 335, 337, 339, 341, 343, 345, 347, 349, 351, 353, 355, 357, 359, 187, 189, 191, 212, 214, 216, 235, 237, 239, 241, 243, 256, 258, 269, 271, 284, 286, 288, 300, 302, 313] (by decide +kernel) (by decide +kernel)
set_option maxRecDepth 20000 in
theorem g_law_X10_init_18 : GoodIn lw_tbl (wq_X10_init) := goodIn_r _ [1182, 1183, 159, 160, 219, 1185, 1189, 1190, 1192, 1193, 1195, 1196, 1198, 1199, 1200, 1203, 1204, 1205, 1206, 1208, 1210, 1212, 1214, 1216, 1218, 1220, 1222, 1224, 1226, 1228, 1230, 1232, 1234, 1236, 1238, 1240, 1242, 1244, 1246, 1248, 1250, 1252, 1254] (by decide +kernel) (by decide +kernel)