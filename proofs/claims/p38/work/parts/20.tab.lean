
/-! THE CLAIM OUT OF ONE WALK OF THE LAW'S BODY. Your part is whole_start (and what it stands on); all else here is the same for every law, but numbers. -/
def R_law : String := "HubTreeLaw"
def lw_P (b : Addr) (xs : List Int32) (args : Array Value) (s : State) : Prop := args = #[.ref b] ∧ s.IntsAt b xs ∧ xs.length ≤ 3072 ∧ (Jvm.Cond.and given_1 narrow_1).before args s = true
def lw_Q (_ : Array Value) (s : State) (o : Outcome) (t : State) : Prop := o = .returned (some (.int 1)) ∧ Framed s o t [] 1070 26367
def lw_Z (below : List Frame) (a : Array Value) (s : State) : State → Prop := fun t => ∃ o, t.status = .running ∧ Ended t below o ∧ lw_Q a s o t
/-- the law's own end, with 1 on the stack, nothing written that was there before, its room as the claim has it -/
theorem lw_ret {p : Program} {l : Launch} {e : Env} {s : State} {m : MethodId} {below : List Frame} {meth : Method} {c : Code} {b : Nat} (hx : p.tables.exec = Jvm.exec) (hb : c.code = code) (hr : meth.sig.returnType = ret) (hlocks : meth.locks = false) {pc : Nat} {H : Heap} {ls : Array Slot} (hdg : decode code pc = .ok (.ireturn, 1)) : W p l e room_1 s m #[Value.ref b] below meth c H [] 1070 26367 (lw_Z below #[Value.ref b] s) (F0 m pc ls [.int 1]) := by
  intro T hT X
  obtain ⟨fs, hret, hrun, hended, hW, hframe⟩ := X.leave (v := some (.int 1)) (hlocks := hlocks) (fun h => by rw [hr] at h; cases h)
  have hmeth' : T.vm.method? m = some meth := X.method'
  refine ⟨T.setFrames fs, ?_, .returned (some (.int 1)), hrun, hended, rfl, ⟨_, rfl⟩, hW, hframe⟩
  jvm_step X.here [X.here.top, hx, hb, hdg, hmeth', hr, ret, narrow_b1]
  (try refine ⟨rfl, ?_⟩); (try refine ⟨rfl, ?_⟩)
  first | (intro acts; rw [hret _ acts rfl rfl rfl]) | rw [hret _ _ rfl rfl rfl]
  exact Steps.refl _
/-- what holds at the law's entry: the machine, the code, the tables' words (any of lw_tbl by 'hts w (by decide +kernel)'), the script of L ints xs at the cell b, what the Statement gives of the start (any of its parts by flat_of_before) -/
def lw_At (p : Program) (s : State) (m : MethodId) (meth : Method) (c : Code) (b L : Nat) (xs : Nat → Int32) : Prop :=
  p.tables.exec = Jvm.exec ∧ c.code = code ∧ meth.sig.returnType = ret ∧ c.maxLocals = 7 ∧ s.vm.findClass R_law = some m.cls ∧ (∀ w ∈ lw_tbl, w.before #[Value.ref b] s = true) ∧ va_X b L xs s s.heap ∧ b < s.heap.size ∧ meth.locks = false ∧ (Jvm.Cond.and given_1 narrow_1).before #[Value.ref b] s = true

def lw_ch : Nat → List Cond
  | 0 => k2_sels lw_privs | 1 => tables_1_1 | 2 => tables_1_2 | 3 => tables_1_3 | 4 => tables_1_4 | 5 => tables_1_5 | 6 => tables_1_6 | 7 => tables_1_7 | _ => []
theorem lw_chin : ∀ (k : Nat) (w : Cond), w ∈ lw_ch k → w ∈ lw_tbl
  | 0, w, h => List.mem_append_left _ h
  | 1, w, h => List.mem_append_right _ (List.mem_append_left _ h)
  | 2, w, h => List.mem_append_right _ (List.mem_append_right _ (List.mem_append_left _ h))
  | 3, w, h => List.mem_append_right _ (List.mem_append_right _ (List.mem_append_right _ (List.mem_append_left _ h)))
  | 4, w, h => List.mem_append_right _ (List.mem_append_right _ (List.mem_append_right _ (List.mem_append_right _ (List.mem_append_left _ h))))
  | 5, w, h => List.mem_append_right _ (List.mem_append_right _ (List.mem_append_right _ (List.mem_append_right _ (List.mem_append_right _ (List.mem_append_left _ h)))))
  | 6, w, h => List.mem_append_right _ (List.mem_append_right _ (List.mem_append_right _ (List.mem_append_right _ (List.mem_append_right _ (List.mem_append_right _ (List.mem_append_left _ h))))))
  | 7, w, h => List.mem_append_right _ (List.mem_append_right _ (List.mem_append_right _ (List.mem_append_right _ (List.mem_append_right _ (List.mem_append_right _ (List.mem_append_right _ (h)))))))
  | _ + 8, w, h => absurd h (by simp [lw_ch])
theorem q_inC {ws : List Cond} (ps : List (Nat × Nat)) (hp : ws = ps.filterMap (fun q => (lw_ch q.1)[q.2]?)) : ∀ w ∈ ws, w ∈ lw_tbl := fun w h => by
  rw [hp] at h
  obtain ⟨q, -, hq⟩ := List.mem_filterMap.mp h
  exact lw_chin q.1 w (List.mem_of_getElem? hq)
set_option maxRecDepth 20000 in
theorem wAt_0 : ∀ w ∈ wA_0, w ∈ lw_tbl := q_inC [(1, 25), (1, 26), (1, 1), (5, 90), (5, 91), (1, 11), (7, 213), (7, 212), (1, 27), (1, 28), (1, 29), (1, 30), (1, 31), (1, 32), (1, 33), (1, 34), (1, 2), (1, 188), (1, 50), (1, 51), (1, 3), (1, 189), (1, 66), (1, 67), (1, 4), (1, 190), (1, 191), (1, 92), (1, 93), (1, 5), (1, 192), (1, 118), (1, 119), (1, 6), (1, 193), (1, 194), (1, 133), (1, 134), (1, 7), (1, 195)] rfl
set_option maxRecDepth 20000 in
theorem wAt_1 : ∀ w ∈ wA_1, w ∈ lw_tbl := q_inC [(1, 146), (1, 147), (1, 8), (1, 196), (1, 163), (1, 164), (1, 9), (1, 197), (1, 198), (1, 199), (1, 177), (1, 178), (1, 10), (1, 200), (1, 91), (1, 201), (1, 202), (1, 36), (1, 37), (1, 38), (1, 49), (1, 39), (1, 41), (1, 52), (1, 53), (1, 54), (1, 55), (1, 57), (1, 58), (1, 56), (1, 69), (1, 70), (1, 71), (1, 72), (1, 76), (1, 80), (1, 95), (1, 96), (1, 97), (1, 98)] rfl
set_option maxRecDepth 20000 in
theorem wAt_2 : ∀ w ∈ wA_2, w ∈ lw_tbl := q_inC [(1, 99), (1, 101), (1, 103), (1, 105), (1, 120), (1, 121), (1, 122), (1, 123), (1, 124), (1, 127), (1, 135), (1, 136), (1, 137), (1, 138), (1, 139), (1, 140), (1, 149), (1, 150), (1, 151), (1, 152), (1, 153), (1, 154), (1, 166), (1, 167), (1, 168), (1, 169), (1, 170), (1, 180), (1, 181), (1, 182), (1, 183), (5, 92), (5, 93), (5, 94), (5, 95), (5, 97), (5, 101), (5, 102), (5, 104), (5, 105)] rfl
set_option maxRecDepth 20000 in
theorem wAt_3 : ∀ w ∈ wA_3, w ∈ lw_tbl := q_inC [(5, 107), (5, 108), (5, 110), (5, 111), (5, 112), (5, 115), (5, 116), (5, 117), (5, 118), (1, 234), (1, 235), (1, 236), (1, 237), (1, 42), (1, 238), (1, 239), (2, 0), (2, 1), (2, 2), (2, 3), (2, 4), (5, 169), (5, 170), (5, 171), (5, 172), (5, 98), (5, 173), (5, 174), (5, 175), (2, 5), (2, 6), (2, 7), (2, 8), (5, 176), (5, 177), (5, 178), (5, 179), (5, 180), (5, 181), (5, 182)] rfl
set_option maxRecDepth 20000 in
theorem wAt_4 : ∀ w ∈ wA_4, w ∈ lw_tbl := q_inC [(2, 9), (2, 10), (2, 11), (2, 12), (2, 13), (2, 14), (2, 15), (2, 16), (1, 73), (1, 82), (1, 78), (1, 43), (2, 17), (2, 18), (2, 19), (2, 20), (2, 23), (2, 25), (2, 24), (1, 12), (2, 26), (2, 28), (0, 0), (2, 29), (1, 40), (2, 30), (2, 32), (0, 1), (2, 33), (2, 39), (2, 41), (0, 2), (2, 42), (2, 43), (2, 44), (2, 45), (1, 13), (2, 46), (7, 229), (2, 47)] rfl
set_option maxRecDepth 20000 in
theorem wAt_5 : ∀ w ∈ wA_5, w ∈ lw_tbl := q_inC [(2, 48), (2, 49), (2, 50), (2, 51), (7, 230), (2, 53), (2, 54), (2, 55), (2, 56), (2, 57), (2, 58), (2, 59), (2, 60), (2, 61), (2, 62), (2, 63), (2, 64), (2, 65), (2, 66), (2, 67), (1, 14), (2, 68), (2, 72), (2, 73), (1, 15), (2, 74), (2, 75), (2, 76), (2, 77), (2, 69), (2, 70), (2, 71), (2, 78), (2, 79), (2, 80), (2, 81), (2, 82), (1, 16), (2, 83), (2, 84)] rfl
set_option maxRecDepth 20000 in
theorem wAt_6 : ∀ w ∈ wA_6, w ∈ lw_tbl := q_inC [(2, 85), (2, 86), (2, 87), (2, 88), (2, 89), (2, 90), (2, 91), (2, 92), (2, 93), (2, 94), (2, 95), (2, 96), (2, 97), (2, 98), (2, 99), (2, 101), (2, 102), (1, 17), (2, 103), (2, 104), (2, 105), (2, 106), (2, 107), (2, 108), (2, 109), (2, 110), (2, 112), (2, 114), (2, 116), (2, 117), (2, 118), (2, 119), (2, 120), (1, 18), (2, 121), (2, 122), (2, 123), (2, 124), (2, 125), (2, 126)] rfl
set_option maxRecDepth 20000 in
theorem wAt_7 : ∀ w ∈ wA_7, w ∈ lw_tbl := q_inC [(2, 127), (2, 128), (2, 129), (2, 130), (2, 132), (0, 3), (2, 133), (2, 134), (2, 136), (0, 4), (2, 137), (2, 138), (2, 140), (0, 5), (2, 141), (2, 142), (2, 143), (2, 144), (2, 145), (2, 153), (2, 154), (2, 155), (2, 156), (2, 157), (2, 158), (2, 159), (2, 160), (1, 102), (1, 104), (2, 161), (2, 162), (1, 19), (2, 163), (2, 165), (2, 167), (0, 6), (2, 168), (5, 183), (5, 184), (5, 185)] rfl
set_option maxRecDepth 20000 in
theorem wAt_8 : ∀ w ∈ wA_8, w ∈ lw_tbl := q_inC [(5, 186), (5, 187), (5, 189), (0, 44), (5, 190), (5, 99), (5, 100), (5, 103), (5, 191), (5, 192), (5, 193), (5, 194), (5, 196), (0, 45), (5, 197), (5, 198), (5, 200), (0, 46), (5, 201), (5, 202), (5, 204), (0, 47), (5, 205), (5, 206), (5, 207), (5, 208), (5, 209), (5, 210), (5, 211), (5, 212), (5, 213), (5, 214), (5, 215), (5, 216), (5, 217), (5, 218), (5, 220), (0, 48), (5, 221), (5, 222)] rfl
set_option maxRecDepth 20000 in
theorem wAt_9 : ∀ w ∈ wA_9, w ∈ lw_tbl := q_inC [(5, 223), (5, 224), (5, 225), (5, 227), (0, 49), (5, 228), (5, 229), (5, 231), (0, 50), (5, 232), (5, 233), (5, 235), (0, 51), (5, 236), (5, 237), (5, 238), (5, 239), (6, 0), (6, 2), (0, 52), (6, 3), (2, 172), (2, 173), (2, 174), (2, 175), (2, 176), (2, 178), (0, 7), (2, 179), (1, 171), (1, 83), (2, 180), (2, 181), (2, 182), (2, 183), (2, 184), (2, 185), (2, 186), (2, 187), (1, 81)] rfl
set_option maxRecDepth 20000 in
theorem wAt_10 : ∀ w ∈ wA_10, w ∈ lw_tbl := q_inC [(1, 77), (2, 188), (2, 189), (2, 191), (0, 8), (2, 192), (2, 193), (2, 195), (0, 9), (2, 196), (2, 197), (2, 198), (2, 199), (2, 200), (2, 201), (2, 203), (0, 10), (2, 204), (1, 106), (2, 205), (2, 206), (2, 207), (2, 208), (2, 209), (6, 4), (6, 5), (6, 6), (6, 7), (5, 109), (6, 8), (6, 10), (0, 53), (6, 11), (5, 106), (5, 113), (5, 119), (6, 12), (6, 14), (0, 54), (6, 15)] rfl
set_option maxRecDepth 20000 in
theorem wAt_11 : ∀ w ∈ wA_11, w ∈ lw_tbl := q_inC [(6, 16), (6, 18), (0, 55), (6, 19), (2, 210), (2, 211), (2, 212), (2, 213), (1, 74), (2, 214), (7, 76), (7, 77), (7, 78), (7, 79), (6, 44), (6, 46), (0, 61), (6, 47), (2, 215), (2, 216), (2, 217), (2, 218), (1, 126), (1, 79), (2, 219), (2, 220), (2, 221), (2, 222), (7, 80), (7, 81), (7, 82), (7, 83), (6, 36), (6, 38), (0, 59), (6, 39), (5, 16), (5, 17), (1, 0), (5, 18)] rfl
set_option maxRecDepth 20000 in
theorem wAt_12 : ∀ w ∈ wA_12, w ∈ lw_tbl := q_inC [(5, 19), (5, 20), (5, 21), (5, 22), (5, 23), (5, 24), (1, 23), (4, 30), (3, 221), (3, 222), (3, 223), (5, 89), (3, 38), (3, 39), (3, 40), (7, 84), (7, 85), (7, 86), (7, 87), (5, 96), (6, 141), (6, 143), (0, 85), (6, 144), (6, 52), (6, 54), (0, 63), (6, 55), (6, 85), (6, 87), (0, 71), (6, 88), (6, 64), (6, 66), (0, 66), (6, 67), (6, 72), (6, 74), (0, 68), (6, 75)] rfl
set_option maxRecDepth 20000 in
theorem wAt_13 : ∀ w ∈ wA_13, w ∈ lw_tbl := q_inC [(2, 223), (2, 224), (2, 225), (2, 226), (2, 227), (2, 228), (2, 229), (2, 230), (2, 231), (2, 232), (2, 233), (2, 234), (2, 235), (2, 236), (2, 237), (2, 238), (7, 88), (7, 89), (7, 90), (7, 91), (6, 40), (6, 42), (0, 60), (6, 43), (6, 48), (6, 50), (0, 62), (6, 51), (6, 56), (6, 58), (0, 64), (6, 59), (2, 239), (3, 0), (3, 1), (3, 2), (3, 7), (3, 3), (3, 4), (3, 5)] rfl
set_option maxRecDepth 20000 in
theorem wAt_14 : ∀ w ∈ wA_14, w ∈ lw_tbl := q_inC [(3, 6), (3, 8), (3, 9), (3, 10), (3, 11), (3, 12), (3, 14), (0, 11), (3, 15), (3, 16), (3, 17), (3, 18), (3, 19), (3, 20), (3, 21), (3, 22), (3, 23), (1, 75), (3, 24), (3, 25), (3, 26), (3, 27), (3, 28), (3, 29), (3, 30), (3, 31), (3, 32), (3, 33), (3, 34), (3, 35), (3, 36), (3, 37), (3, 41), (3, 42), (3, 43), (3, 44), (3, 45), (3, 47), (0, 12), (3, 48)] rfl
set_option maxRecDepth 20000 in
theorem wAt_15 : ∀ w ∈ wA_15, w ∈ lw_tbl := q_inC [(3, 49), (3, 50), (3, 51), (3, 52), (3, 53), (3, 55), (0, 13), (3, 56), (3, 57), (3, 58), (3, 59), (1, 24), (3, 60), (3, 61), (3, 62), (3, 63), (7, 92), (7, 93), (7, 94), (7, 95), (7, 75), (6, 84), (6, 149), (6, 151), (0, 87), (6, 152), (6, 153), (6, 155), (0, 88), (6, 156), (6, 117), (6, 119), (0, 79), (6, 120), (6, 76), (6, 78), (0, 69), (6, 79), (6, 80), (6, 82)] rfl
set_option maxRecDepth 20000 in
theorem wAt_16 : ∀ w ∈ wA_16, w ∈ lw_tbl := q_inC [(0, 70), (6, 83), (6, 109), (6, 111), (0, 77), (6, 112), (6, 105), (6, 107), (0, 76), (6, 108), (6, 93), (6, 95), (0, 73), (6, 96), (6, 97), (6, 99), (0, 74), (6, 100), (6, 157), (6, 158), (6, 159), (3, 64), (3, 65), (3, 66), (3, 67), (3, 68), (3, 69), (3, 70), (3, 71), (3, 72), (3, 73), (3, 74), (3, 75), (3, 76), (3, 78), (0, 14), (3, 79), (7, 96), (7, 97), (7, 98)] rfl
set_option maxRecDepth 20000 in
theorem wAt_17 : ∀ w ∈ wA_17, w ∈ lw_tbl := q_inC [(7, 99), (6, 188), (6, 190), (0, 96), (6, 191), (6, 184), (6, 186), (0, 95), (6, 187), (6, 192), (6, 194), (0, 97), (6, 195), (3, 80), (3, 81), (3, 82), (3, 83), (3, 84), (3, 85), (3, 86), (3, 87), (7, 100), (7, 101), (7, 102), (7, 103), (6, 228), (6, 230), (0, 106), (6, 231), (3, 88), (3, 89), (3, 90), (3, 91), (3, 92), (7, 104), (7, 105), (7, 106), (7, 107), (3, 93), (3, 94)] rfl
set_option maxRecDepth 20000 in
theorem wAt_18 : ∀ w ∈ wA_18, w ∈ lw_tbl := q_inC [(3, 95), (3, 96), (3, 97), (3, 99), (0, 15), (3, 100), (3, 101), (3, 102), (3, 103), (3, 104), (3, 105), (3, 107), (0, 16), (3, 108), (3, 109), (3, 110), (3, 111), (3, 113), (0, 17), (3, 114), (3, 115), (3, 116), (3, 117), (3, 118), (3, 119), (3, 121), (0, 18), (3, 122), (3, 123), (3, 125), (0, 19), (3, 126), (3, 127), (3, 129), (0, 20), (3, 130), (3, 131), (3, 133), (0, 21), (3, 134)] rfl
set_option maxRecDepth 20000 in
theorem wAt_19 : ∀ w ∈ wA_19, w ∈ lw_tbl := q_inC [(3, 135), (3, 136), (3, 137), (3, 139), (0, 22), (3, 140), (3, 141), (3, 143), (0, 23), (3, 144), (3, 149), (3, 145), (3, 147), (0, 24), (3, 148), (3, 150), (3, 151), (3, 152), (3, 153), (3, 154), (3, 156), (0, 25), (3, 157), (3, 158), (3, 159), (3, 161), (0, 26), (3, 162), (3, 163), (3, 165), (0, 27), (3, 166), (3, 167), (3, 168), (3, 169), (3, 170), (1, 125), (3, 171), (3, 172), (3, 173)] rfl
set_option maxRecDepth 20000 in
theorem wAt_20 : ∀ w ∈ wA_20, w ∈ lw_tbl := q_inC [(3, 174), (3, 175), (3, 176), (3, 177), (3, 178), (3, 179), (3, 180), (3, 181), (3, 182), (3, 183), (3, 184), (3, 185), (3, 186), (3, 188), (0, 28), (3, 189), (3, 190), (3, 192), (0, 29), (3, 193), (3, 194), (3, 195), (3, 196), (3, 197), (3, 198), (3, 200), (0, 30), (3, 201), (3, 202), (3, 204), (0, 31), (3, 205), (3, 206), (3, 207), (3, 208), (3, 210), (0, 32), (3, 211), (3, 212), (3, 214)] rfl
set_option maxRecDepth 20000 in
theorem wAt_21 : ∀ w ∈ wA_21, w ∈ lw_tbl := q_inC [(0, 33), (3, 215), (3, 216), (3, 218), (0, 34), (3, 219), (3, 220), (3, 224), (3, 226), (0, 35), (3, 227), (3, 228), (3, 229), (3, 231), (0, 36), (3, 232), (3, 233), (3, 235), (0, 37), (3, 236), (3, 237), (3, 238), (3, 239), (4, 0), (4, 1), (4, 3), (0, 38), (4, 4), (4, 5), (4, 7), (0, 39), (4, 8), (4, 9), (4, 10), (4, 11), (4, 12), (4, 13), (4, 14), (4, 15), (4, 16)] rfl
set_option maxRecDepth 20000 in
theorem wAt_22 : ∀ w ∈ wA_22, w ∈ lw_tbl := q_inC [(4, 17), (4, 18), (4, 19), (4, 20), (4, 21), (4, 22), (4, 23), (4, 24), (4, 25), (4, 26), (4, 28), (0, 40), (4, 29), (6, 20), (6, 21), (6, 22), (6, 23), (6, 24), (6, 26), (0, 56), (6, 27), (6, 28), (6, 30), (0, 57), (6, 31), (6, 32), (6, 34), (0, 58), (6, 35), (6, 60), (6, 62), (0, 65), (6, 63), (6, 68), (6, 70), (0, 67), (6, 71), (6, 89), (6, 91), (0, 72)] rfl
set_option maxRecDepth 20000 in
theorem wAt_23 : ∀ w ∈ wA_23, w ∈ lw_tbl := q_inC [(6, 92), (6, 101), (6, 103), (0, 75), (6, 104), (6, 113), (6, 115), (0, 78), (6, 116), (6, 121), (6, 123), (0, 80), (6, 124), (6, 125), (6, 127), (0, 81), (6, 128), (6, 129), (6, 131), (0, 82), (6, 132), (6, 133), (6, 135), (0, 83), (6, 136), (6, 137), (6, 139), (0, 84), (6, 140), (6, 145), (6, 147), (0, 86), (6, 148), (6, 160), (6, 162), (0, 89), (6, 163), (6, 164), (6, 166), (0, 90)] rfl
set_option maxRecDepth 20000 in
theorem wAt_24 : ∀ w ∈ wA_24, w ∈ lw_tbl := q_inC [(6, 167), (6, 168), (6, 170), (0, 91), (6, 171), (6, 172), (6, 174), (0, 92), (6, 175), (6, 176), (6, 178), (0, 93), (6, 179), (6, 180), (6, 182), (0, 94), (6, 183), (6, 196), (6, 198), (0, 98), (6, 199), (6, 200), (6, 202), (0, 99), (6, 203), (6, 204), (6, 206), (0, 100), (6, 207), (6, 208), (6, 210), (0, 101), (6, 211), (6, 212), (6, 214), (0, 102), (6, 215), (6, 216), (6, 218), (0, 103)] rfl
set_option maxRecDepth 20000 in
theorem wAt_25 : ∀ w ∈ wA_25, w ∈ lw_tbl := q_inC [(6, 219), (6, 232), (6, 220), (6, 222), (0, 104), (6, 223), (6, 224), (6, 226), (0, 105), (6, 227), (6, 233), (6, 235), (0, 107), (6, 236), (6, 237), (6, 239), (0, 108), (7, 0), (7, 1), (7, 3), (0, 109), (7, 4), (7, 5), (7, 7), (0, 110), (7, 8), (7, 9), (7, 11), (0, 111), (7, 12), (7, 13), (7, 15), (0, 112), (7, 16), (7, 17), (7, 19), (0, 113), (7, 20), (4, 31), (4, 32)] rfl
set_option maxRecDepth 20000 in
theorem wAt_26 : ∀ w ∈ wA_26, w ∈ lw_tbl := q_inC [(4, 33), (4, 34), (4, 35), (7, 21), (7, 22), (7, 23), (7, 24), (4, 36), (4, 37), (4, 38), (4, 39), (7, 25), (7, 26), (7, 27), (7, 28), (4, 40), (4, 41), (4, 42), (4, 43), (7, 29), (7, 30), (7, 31), (7, 32), (4, 44), (4, 45), (4, 46), (4, 47), (7, 33), (7, 34), (7, 35), (7, 36), (4, 48), (4, 49), (4, 50), (4, 51), (7, 37), (7, 38), (7, 39), (7, 40), (4, 52)] rfl
set_option maxRecDepth 20000 in
theorem wAt_27 : ∀ w ∈ wA_27, w ∈ lw_tbl := q_inC [(4, 53), (4, 54), (4, 55), (7, 41), (7, 42), (7, 43), (7, 44), (4, 56), (4, 57), (4, 58), (4, 59), (1, 184), (4, 60), (4, 61), (4, 62), (4, 63), (4, 64), (4, 65), (7, 45), (7, 46), (7, 47), (7, 48), (5, 114), (7, 49), (7, 51), (0, 114), (7, 52), (7, 53), (7, 55), (0, 115), (7, 56), (7, 57), (7, 58), (7, 59), (7, 61), (0, 116), (7, 62), (4, 66), (4, 67), (4, 68)] rfl
set_option maxRecDepth 20000 in
theorem wAt_28 : ∀ w ∈ wA_28, w ∈ lw_tbl := q_inC [(4, 69), (7, 63), (7, 64), (7, 65), (7, 66), (4, 70), (4, 71), (4, 72), (4, 73), (1, 155), (4, 74), (4, 75), (4, 76), (4, 77), (4, 78), (4, 79), (4, 80), (4, 81), (4, 82), (7, 67), (7, 68), (7, 69), (7, 70), (4, 83), (4, 84), (4, 85), (4, 86), (4, 87), (4, 88), (4, 89), (4, 90), (4, 91), (4, 92), (4, 93), (4, 94), (4, 95), (7, 71), (7, 72), (7, 73), (7, 74)] rfl
set_option maxRecDepth 20000 in
theorem wAt_29 : ∀ w ∈ wA_29, w ∈ lw_tbl := q_inC [(4, 96), (4, 97), (4, 98), (4, 99), (4, 100), (4, 101), (4, 102), (4, 103), (4, 104), (4, 105), (4, 106), (4, 107), (4, 108), (4, 109), (4, 111), (0, 41), (4, 112), (4, 113), (4, 114), (4, 115), (4, 116), (4, 117), (4, 118), (4, 119), (4, 120), (4, 121), (4, 122), (7, 108), (7, 109), (7, 110), (7, 111), (7, 112), (7, 114), (0, 117), (7, 115), (7, 116), (7, 118), (0, 118), (7, 119), (7, 120)] rfl
set_option maxRecDepth 20000 in
theorem wAt_30 : ∀ w ∈ wA_30, w ∈ lw_tbl := q_inC [(7, 122), (0, 119), (7, 123), (4, 123), (4, 124), (4, 125), (4, 126), (4, 127), (4, 128), (4, 129), (4, 130), (4, 131), (7, 124), (7, 125), (7, 126), (7, 127), (4, 132), (4, 133), (4, 134), (4, 135), (4, 136), (4, 137), (4, 138), (4, 139), (7, 128), (7, 129), (7, 130), (7, 131), (7, 132), (7, 134), (0, 120), (7, 135), (4, 140), (4, 141), (4, 142), (4, 143), (4, 144), (4, 145), (4, 146), (4, 147)] rfl
set_option maxRecDepth 20000 in
theorem wAt_31 : ∀ w ∈ wA_31, w ∈ lw_tbl := q_inC [(4, 148), (4, 149), (4, 150), (4, 151), (4, 152), (4, 153), (7, 136), (7, 137), (7, 138), (7, 139), (7, 140), (7, 142), (0, 121), (7, 143), (4, 154), (4, 155), (4, 156), (4, 157), (4, 158), (4, 159), (4, 160), (4, 161), (4, 162), (4, 163), (4, 164), (4, 165), (7, 144), (7, 145), (7, 146), (7, 147), (4, 166), (4, 167), (4, 168), (4, 169), (4, 170), (4, 171), (4, 172), (4, 173), (4, 174), (7, 148)] rfl
set_option maxRecDepth 20000 in
theorem wAt_32 : ∀ w ∈ wA_32, w ∈ lw_tbl := q_inC [(7, 149), (7, 150), (7, 151), (4, 175), (4, 176), (4, 177), (4, 178), (7, 152), (7, 153), (7, 154), (7, 155), (4, 179), (4, 180), (4, 181), (4, 182), (1, 100), (4, 183), (4, 184), (4, 185), (4, 186), (4, 187), (4, 188), (4, 189), (4, 190), (7, 156), (7, 157), (7, 158), (7, 159), (7, 160), (7, 162), (0, 122), (7, 163), (4, 191), (4, 192), (4, 193), (4, 194), (4, 195), (4, 196), (4, 198), (0, 42)] rfl
set_option maxRecDepth 20000 in
theorem wAt_33 : ∀ w ∈ wA_33, w ∈ lw_tbl := q_inC [(4, 199), (4, 200), (4, 201), (4, 202), (4, 203), (4, 204), (7, 164), (7, 165), (7, 166), (7, 167), (7, 168), (7, 170), (0, 123), (7, 171), (7, 172), (7, 173), (7, 174), (4, 207), (4, 208), (4, 209), (4, 210), (7, 175), (7, 176), (7, 177), (7, 178), (4, 211), (4, 212), (4, 213), (4, 214), (4, 215), (4, 216), (4, 217), (4, 218), (4, 219), (4, 220), (4, 221), (4, 222), (4, 223), (4, 224), (4, 225)] rfl
set_option maxRecDepth 20000 in
theorem wAt_34 : ∀ w ∈ wA_34, w ∈ lw_tbl := q_inC [(4, 226), (4, 227), (4, 228), (4, 229), (4, 230), (4, 231), (4, 232), (4, 233), (4, 234), (4, 235), (4, 236), (4, 237), (4, 238), (7, 179), (7, 180), (7, 181), (7, 182), (7, 183), (7, 185), (0, 124), (7, 186), (7, 187), (7, 188), (7, 190), (0, 125), (7, 191), (7, 192), (7, 194), (0, 126), (7, 195), (7, 196), (7, 198), (0, 127), (7, 199), (4, 239), (5, 0), (5, 1), (5, 2), (5, 3), (5, 4)] rfl
set_option maxRecDepth 20000 in
theorem wAt_35 : ∀ w ∈ wA_35, w ∈ lw_tbl := q_inC [(5, 5), (5, 6), (5, 7), (7, 200), (7, 201), (7, 202), (7, 203), (5, 8), (5, 9), (5, 10), (5, 11), (7, 204), (7, 205), (7, 206), (7, 207), (5, 12), (5, 13), (5, 14), (5, 15), (7, 208), (7, 209), (7, 210), (7, 211)] rfl
set_option maxRecDepth 20000 in
theorem iL_0 : ∀ w ∈ wsX00, w ∈ lw_tbl := q_inC [(1, 128), (1, 130)] rfl
set_option maxRecDepth 20000 in
theorem iL_1 : ∀ w ∈ wsX10, w ∈ lw_tbl := q_inC [(1, 172), (1, 174)] rfl
set_option maxRecDepth 20000 in
theorem iL_2 : ∀ w ∈ wsX20, w ∈ lw_tbl := q_inC [(1, 185)] rfl
set_option maxRecDepth 20000 in
theorem iL_3 : ∀ w ∈ wsX30, w ∈ lw_tbl := q_inC [(1, 141), (1, 143)] rfl
set_option maxRecDepth 20000 in
theorem iL_4 : ∀ w ∈ wsX40, w ∈ lw_tbl := q_inC [(1, 156), (1, 158), (1, 160)] rfl
set_option maxRecDepth 20000 in
theorem iL_5 : ∀ w ∈ wsX50, w ∈ lw_tbl := q_inC [(1, 84), (1, 86), (1, 88)] rfl
set_option maxRecDepth 20000 in
theorem iL_6 : ∀ w ∈ wsX60, w ∈ lw_tbl := q_inC [(1, 59), (1, 61), (1, 63)] rfl
set_option maxRecDepth 20000 in
theorem iL_7 : ∀ w ∈ wsX70, w ∈ lw_tbl := q_inC [(1, 107), (1, 109), (1, 111), (1, 113), (1, 115)] rfl
set_option maxRecDepth 20000 in
theorem iL_8 : ∀ w ∈ wsX80, w ∈ lw_tbl := q_inC [(1, 44), (1, 46)] rfl
set_option maxRecDepth 20000 in
theorem iL_9 : ∀ w ∈ wsX90, w ∈ lw_tbl := q_inC [(1, 203), (1, 205), (1, 207), (1, 209), (1, 211), (1, 213), (1, 215), (1, 217), (1, 219), (1, 221), (1, 223), (1, 225), (1, 227), (1, 229), (1, 231)] rfl
set_option maxRecDepth 20000 in
theorem iL_10 : ∀ w ∈ wsX100, w ∈ lw_tbl := q_inC [(5, 120), (5, 122), (5, 124), (5, 126), (5, 128), (5, 130), (5, 132), (5, 134), (5, 136), (5, 138), (5, 140), (5, 142), (5, 144), (5, 146), (5, 148), (5, 150), (5, 152), (5, 154), (5, 156), (5, 158), (5, 160), (5, 162), (5, 164), (5, 166)] rfl
theorem wA_in : ∀ w ∈ wA, w ∈ lw_tbl := fun w h => (List.mem_append.mp h).elim (fun h => wAt_0 w h) (fun h => (List.mem_append.mp h).elim (fun h => wAt_1 w h) (fun h => (List.mem_append.mp h).elim (fun h => wAt_2 w h) (fun h => (List.mem_append.mp h).elim (fun h => wAt_3 w h) (fun h => (List.mem_append.mp h).elim (fun h => wAt_4 w h) (fun h => (List.mem_append.mp h).elim (fun h => wAt_5 w h) (fun h => (List.mem_append.mp h).elim (fun h => wAt_6 w h) (fun h => (List.mem_append.mp h).elim (fun h => wAt_7 w h) (fun h => (List.mem_append.mp h).elim (fun h => wAt_8 w h) (fun h => (List.mem_append.mp h).elim (fun h => wAt_9 w h) (fun h => (List.mem_append.mp h).elim (fun h => wAt_10 w h) (fun h => (List.mem_append.mp h).elim (fun h => wAt_11 w h) (fun h => (List.mem_append.mp h).elim (fun h => wAt_12 w h) (fun h => (List.mem_append.mp h).elim (fun h => wAt_13 w h) (fun h => (List.mem_append.mp h).elim (fun h => wAt_14 w h) (fun h => (List.mem_append.mp h).elim (fun h => wAt_15 w h) (fun h => (List.mem_append.mp h).elim (fun h => wAt_16 w h) (fun h => (List.mem_append.mp h).elim (fun h => wAt_17 w h) (fun h => (List.mem_append.mp h).elim (fun h => wAt_18 w h) (fun h => (List.mem_append.mp h).elim (fun h => wAt_19 w h) (fun h => (List.mem_append.mp h).elim (fun h => wAt_20 w h) (fun h => (List.mem_append.mp h).elim (fun h => wAt_21 w h) (fun h => (List.mem_append.mp h).elim (fun h => wAt_22 w h) (fun h => (List.mem_append.mp h).elim (fun h => wAt_23 w h) (fun h => (List.mem_append.mp h).elim (fun h => wAt_24 w h) (fun h => (List.mem_append.mp h).elim (fun h => wAt_25 w h) (fun h => (List.mem_append.mp h).elim (fun h => wAt_26 w h) (fun h => (List.mem_append.mp h).elim (fun h => wAt_27 w h) (fun h => (List.mem_append.mp h).elim (fun h => wAt_28 w h) (fun h => (List.mem_append.mp h).elim (fun h => wAt_29 w h) (fun h => (List.mem_append.mp h).elim (fun h => wAt_30 w h) (fun h => (List.mem_append.mp h).elim (fun h => wAt_31 w h) (fun h => (List.mem_append.mp h).elim (fun h => wAt_32 w h) (fun h => (List.mem_append.mp h).elim (fun h => wAt_33 w h) (fun h => (List.mem_append.mp h).elim (fun h => wAt_34 w h) (fun h => (List.mem_append.mp h).elim (fun h => wAt_35 w h) (fun h => (List.mem_append.mp h).elim (fun h => iL_0 w h) (fun h => (List.mem_append.mp h).elim (fun h => iL_1 w h) (fun h => (List.mem_append.mp h).elim (fun h => iL_2 w h) (fun h => (List.mem_append.mp h).elim (fun h => iL_3 w h) (fun h => (List.mem_append.mp h).elim (fun h => iL_4 w h) (fun h => (List.mem_append.mp h).elim (fun h => iL_5 w h) (fun h => (List.mem_append.mp h).elim (fun h => iL_6 w h) (fun h => (List.mem_append.mp h).elim (fun h => iL_7 w h) (fun h => (List.mem_append.mp h).elim (fun h => iL_8 w h) (fun h => (List.mem_append.mp h).elim (fun h => iL_9 w h) (fun h => iL_10 w h))))))))))))))))))))))))))))))))))))))))))))))
theorem q_lV {own C : String} {idx maxL : Nat} {y : MethodName} {b : ByteArray} {ret : Option FieldType} (h1 : Cond.methodLink own idx y ∈ wA) (h2 : Cond.instanceMethod y ∈ wA) (h3 : Cond.selects C y y ∈ wA) (h4 : Cond.initialized C ∈ wA) (h5 : Cond.code y b maxL ret ∈ wA) : GoodIn lw_tbl (wsV own idx C y (Cond.code y b maxL ret :: wA)) := fun w hw => ⟨wA_in w (q_inV h1 h2 h3 h4 h5 w hw), good_of_word (gd_all w (q_inV h1 h2 h3 h4 h5 w hw))⟩
set_option maxRecDepth 20000 in
theorem q_cw : GoodIn lw_tbl [Cond.codeWith yL_device cL_device 5 (some .int) [(0, 10, 13, 13)]] := goodIn_r _ [1106] (by decide +kernel) (by decide +kernel)
theorem g_law_L_device : GoodIn lw_tbl (va_wsS RL 46 yL_device (Cond.codeWith yL_device cL_device 5 (some .int) [(0, 10, 13, 13)] :: (wA ++ q_wx))) := by
  intro w hw
  simp only [va_wsS, List.mem_append, List.mem_cons, List.not_mem_nil, or_false] at hw
  have hA : ∀ w ∈ wA, w ∈ lw_tbl ∧ ((w.onTables && w.keeps) = true ∨ ∃ ty, w = .arrayClass ty) := fun w h => ⟨wA_in w h, good_of_word (gd_all w h)⟩
  rcases hw with (rfl | rfl | rfl) | (rfl | hw | hw)
  · exact hA _ m_476
  · exact hA _ m_477
  · exact hA _ m_478
  · exact q_cw _ List.mem_cons_self
  · exact hA _ hw
  · exact ⟨q_wx_in w hw, good_of_word (List.all_eq_true.mp q_wx_good w hw)⟩