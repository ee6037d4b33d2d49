
/-- arraycopy out of a row of ints that lies outside A (the proof follows the kit's row for bytes, vk_copyt) -/
theorem q_copyt {p : Program} {l : Launch} {e : Env} {R : Room} {s : State} {m : MethodId} {args : Array Value} {below : List Frame} {meth : Method} {c : Code} {H : Heap} {locs : List Loc} {cells slots : Nat} {Q : State → Prop} {cc : ByteArray} {pc : Nat} {ls : Array Slot} {rest : List Value} {D : va_G} {cl : List vw_C} {A : Nat → Prop} {a : Nat} {tys : List (ClassId × FieldType)} {ws : va_W}
    (hexec : p.tables.exec = Jvm.exec) (hb : c.code = cc) (hml : c.maxLocals = ls.size) {own : String} {index : Nat} (hown : s.vm.findClass own = some m.cls) (hlink : (Cond.methodLink own index arraycopyName).before args s = true) (hnat : (Cond.native arraycopyName).before args s = true) (hstat : (Cond.static arraycopyName).before args s = true) (hini : (Cond.initialized "java/lang/System").before args s = true)
    (hK : va_K D cl tys s) (hP : va_P D cl ws H) (hD : va_D A ws) (hS : va_S A s.heap H locs) {b0 n0 : Nat} {f : Nat → Int32} (hX : va_T .int b0 n0 (fun j => .int (f j)) A s s.heap) (q1 t1 : Nat) {c1 : ClassId} {n1 : Nat} {g : Nat → Int32} (ha1 : ws[q1]? = some (a, .inl (c1, n1, .inl g))) (ht1 : tys[t1]? = some (c1, .int))
    {sp dp n : Int32} (h1 : ¬ sp < 0) (h2 : ¬ dp < 0) (h3 : ¬ n < 0) (h4 : sp.toNatClampNeg + n.toNatClampNeg ≤ n0) (h5 : dp.toNatClampNeg + n.toNatClampNeg ≤ n1)
    (hframes : 1 ≤ R.frames) (hlocals : (rest.map fun v => v.category).sum + (nativeFrameWords "java/lang/System" "arraycopy" 5 + 11) ≤ R.locals) (hdg : decode cc pc = .ok (.invokestatic index, 3))
    (kk : ∀ (H1 : Heap) (locs1 : List Loc), va_P D cl (ws.set q1 (a, .inl (c1, n1, .inl (va_cpy f g sp.toNatClampNeg dp.toNatClampNeg n.toNatClampNeg)))) H1 → va_D A (ws.set q1 (a, .inl (c1, n1, .inl (va_cpy f g sp.toNatClampNeg dp.toNatClampNeg n.toNatClampNeg)))) → va_S A s.heap H1 locs1 → W p l e R s m args below meth c H1 locs1 cells slots Q (F0 m (pc + 3) ls rest)) : W p l e R s m args below meth c H locs cells slots Q (F0 m pc ls (.int n :: .int dp :: .ref a :: .int sp :: .ref b0 :: rest)) := by
  have nn : ∀ z : Int32, ¬ z < 0 → z.toInt = (z.toNatClampNeg : Int) := by
    intro z hz
    have hz0 : (0 : Int) ≤ z.toInt := by
      have := Int32.not_lt.mp hz
      simpa using Int32.le_iff_toInt_le.mp this
    show z.toInt = ((z.toInt.toNat : Nat) : Int)
    omega
  intro T hT X
  obtain ⟨scr, hs1, hs2, hs3, hs4, -, hs5, hs7⟩ := hX
  have hc0 : H[b0]? = some scr := by rw [hS.2.1 b0 (Array.getElem?_eq_some_iff.mp hs1).1 hs7]; exact hs1
  have hc1 : H[a]? = some (vp_cell c1 (n1, .inl g)) := hP q1 _ ha1
  obtain ⟨hs6, k0, hk0, cm0, hkk0⟩ := hs2
  obtain ⟨-, k1, hk1, cm1, hkk1⟩ := (hK.2 t1 _ ht1).1 n1 (fun j => .int (g j))
  obtain ⟨vm', X', step⟩ := X.arraycopy hexec hown hlink hnat hstat hini (src := b0) (dst := a) (cs := scr) (cd := vp_cell c1 (n1, .inl g)) (srcPos := sp) (destPos := dp) (n := n) (by rw [hT]; exact hc0) (by rw [hT]; exact hc1)
    hs6 (fun _ h => by cases h) hs3 (fun h => by cases h) hk0 hk1 hkk0 hkk1 (by simp [refKind]) h1 h2 h3
    (by rw [nn sp h1, nn n h3]; omega)
    (by rw [nn dp h2, nn n h3]; show ¬ _ > ((arrV c1 n1 (fun j => .int (g j))).slots.size : Int); rw [arrV_size]; omega)
    (fun vm₁ _ i hi => by
      have e : scr.slots.getD (sp.toNatClampNeg + i) .null = .int (f (sp.toNatClampNeg + i)) := by
        rw [Array.getD_eq_getD_getElem?, hs5 _ (by omega)]
        rfl
      refine ⟨?_, ?_⟩
      · rw [e]
        rfl
      · rw [e]
        exact trivial)
    (g := F0 m pc ls (.int n :: .int dp :: .ref a :: .int sp :: .ref b0 :: rest)) rfl (by rw [hml]) (rest := rest) rfl (by rw [hb]; exact hdg) hframes (by show 2 * 0 + _ + _ ≤ _; omega)
  have e1 : copied scr (vp_cell c1 (n1, .inl g)) sp dp n = vp_cell c1 (n1, .inl (va_cpy f g sp.toNatClampNeg dp.toNatClampNeg n.toNatClampNeg)) := va_copiedX (fun z => .int z) scr c1 f g hs5 h4
  rw [e1] at X' step
  have hl : a < H.size := (Array.getElem?_eq_some_iff.mp hc1).1
  have hheap : ((T.setVm vm').setCell a (vp_cell c1 (n1, .inl (va_cpy f g sp.toNatClampNeg dp.toNatClampNeg n.toNatClampNeg)))).heap = H.setIfInBounds a (vp_cell c1 (n1, .inl (va_cpy f g sp.toNatClampNeg dp.toNatClampNeg n.toNatClampNeg))) := by rw [← hT]; rfl
  have oq : ∀ q : Nat, q ≠ a → (H.setIfInBounds a (vp_cell c1 (n1, .inl (va_cpy f g sp.toNatClampNeg dp.toNatClampNeg n.toNatClampNeg))))[q]? = H[q]? := fun q hq => by simp [Array.getElem?_setIfInBounds, Ne.symm hq]
  obtain ⟨t, a1, b1⟩ := kk _ _ (hP.set hD ha1 (show (H.setIfInBounds a _)[a]? = some _ by simp [Array.getElem?_setIfInBounds, hl]) oq) (hD.set ha1) ⟨by simp; exact hS.1, fun q g1 g2 => by
      rw [oq q (fun e => g2 (by rw [e]; exact hD.2 q1 _ ha1))]
      exact hS.2.1 q g1 g2, fun q hq => by
      rcases List.mem_append.mp hq with h | h
      · exact hS.2.2 q h
      · obtain ⟨z, -, hz⟩ := List.mem_map.mp h
        rw [← hz]
        exact hD.2 q1 _ ha1⟩ _ hheap X'
  exact ⟨t, step t a1, b1⟩

/-! what lies outside: the class's static rows, the texts of the letters -/
def q_nm (k : Nat) : String := (["RULE_LOWS", "RULE_HIGHS", "RULE_USUAL", "TOLD_LOWS", "TOLD_HIGHS", "TOLD_USUAL", "STEP_NUMBERS", "STEP_SORTS"] : List String).getD k ""
def q_len (k : Nat) : Nat := [8, 8, 8, 6, 6, 6, 6, 6].getD k 0
def q_tab (k j : Nat) : Int32 := (([[1, 1, 1, 1, 1, 20, 10, 1], [4, 9, 9, 5, 9, 200, 99, 9], [4, 3, 2, 2, 5, 99, 60, 9], [0, 0, 0, 0, 0, 0], [4, 2, 9, 1, 99, 3], [0, 1, 1, 0, 4, 0], [3, 1, 1, 1, 2, 1], [0, 1, 2, 3, 4, 6]] : List (List Int32)).getD k []).getD j 0
abbrev q_sl : List Nat := [8, 6, 6]
abbrev q_sb : List (List Int32) := [[110, 100, 114, 121, 112, 109, 104, 97], [110, 115, 117, 111, 98, 101], [112, 117, 116, 111, 101, 122]]
def q_SL (U : State) : Prop := va_Nw (.fieldLinkNest RX6 36 "HubTree" "RULE_LOWS" "[I" "HubTree") U ∧ va_Nw (.fieldLinkNest RX6 40 "HubTree" "RULE_HIGHS" "[I" "HubTree") U ∧ va_Nw (.fieldLinkNest RX5 22 "HubTree" "RULE_USUAL" "[I" "HubTree") U ∧ va_Nw (.fieldLinkNest RX6 58 "HubTree" "TOLD_LOWS" "[I" "HubTree") U ∧ va_Nw (.fieldLinkNest RX6 61 "HubTree" "TOLD_HIGHS" "[I" "HubTree") U ∧ va_Nw (.fieldLinkNest RX5 31 "HubTree" "TOLD_USUAL" "[I" "HubTree") U ∧ va_Nw (.fieldLinkNest RX6 113 "HubTree" "STEP_NUMBERS" "[I" "HubTree") U ∧ va_Nw (.fieldLinkNest RX7 38 "HubTree" "STEP_SORTS" "[I" "HubTree") U
def q_SR (ks : Nat → Nat) (U : State) : Prop := vk_R RX6 34 "ndrypmha" (ks 0) U ∧ vk_R RX6 56 "nsuobe" (ks 1) U ∧ vk_R RX6 104 "putoez" (ks 2) U
def q_S (ts ks kv : Nat → Nat) (A : Nat → Prop) (U : State) : Prop := q_SL U ∧ (∀ k, k < 8 → va_Z "HubTree" (q_nm k) "[I" (.ref (ts k)) A U U.heap ∧ va_T .int (ts k) (q_len k) (fun j => .int (q_tab k j)) A U U.heap) ∧ q_SR ks U ∧ vk_S 3 q_sl q_sb ks kv A U U.heap ∧ va_Z "java/lang/String" "COMPACT_STRINGS" "Z" (.int 1) A U U.heap
theorem q_S_l0 {ts ks kv : Nat → Nat} {A : Nat → Prop} {U : State} (h : q_S ts ks kv A U) : va_Nw (.fieldLinkNest RX6 36 "HubTree" "RULE_LOWS" "[I" "HubTree") U := h.1.1
theorem q_S_l1 {ts ks kv : Nat → Nat} {A : Nat → Prop} {U : State} (h : q_S ts ks kv A U) : va_Nw (.fieldLinkNest RX6 40 "HubTree" "RULE_HIGHS" "[I" "HubTree") U := h.1.2.1
theorem q_S_l2 {ts ks kv : Nat → Nat} {A : Nat → Prop} {U : State} (h : q_S ts ks kv A U) : va_Nw (.fieldLinkNest RX5 22 "HubTree" "RULE_USUAL" "[I" "HubTree") U := h.1.2.2.1
theorem q_S_l3 {ts ks kv : Nat → Nat} {A : Nat → Prop} {U : State} (h : q_S ts ks kv A U) : va_Nw (.fieldLinkNest RX6 58 "HubTree" "TOLD_LOWS" "[I" "HubTree") U := h.1.2.2.2.1
theorem q_S_l4 {ts ks kv : Nat → Nat} {A : Nat → Prop} {U : State} (h : q_S ts ks kv A U) : va_Nw (.fieldLinkNest RX6 61 "HubTree" "TOLD_HIGHS" "[I" "HubTree") U := h.1.2.2.2.2.1
theorem q_S_l5 {ts ks kv : Nat → Nat} {A : Nat → Prop} {U : State} (h : q_S ts ks kv A U) : va_Nw (.fieldLinkNest RX5 31 "HubTree" "TOLD_USUAL" "[I" "HubTree") U := h.1.2.2.2.2.2.1
theorem q_S_l6 {ts ks kv : Nat → Nat} {A : Nat → Prop} {U : State} (h : q_S ts ks kv A U) : va_Nw (.fieldLinkNest RX6 113 "HubTree" "STEP_NUMBERS" "[I" "HubTree") U := h.1.2.2.2.2.2.2.1
theorem q_S_l7 {ts ks kv : Nat → Nat} {A : Nat → Prop} {U : State} (h : q_S ts ks kv A U) : va_Nw (.fieldLinkNest RX7 38 "HubTree" "STEP_SORTS" "[I" "HubTree") U := h.1.2.2.2.2.2.2.2
theorem q_S_t {ts ks kv : Nat → Nat} {A : Nat → Prop} {U : State} (h : q_S ts ks kv A U) (k : Nat) (hk : k < 8) : va_Z "HubTree" (q_nm k) "[I" (.ref (ts k)) A U U.heap ∧ va_T .int (ts k) (q_len k) (fun j => .int (q_tab k j)) A U U.heap := h.2.1 k hk
theorem q_S_r0 {ts ks kv : Nat → Nat} {A : Nat → Prop} {U : State} (h : q_S ts ks kv A U) : vk_R RX6 34 "ndrypmha" (ks 0) U := h.2.2.1.1
theorem q_S_r1 {ts ks kv : Nat → Nat} {A : Nat → Prop} {U : State} (h : q_S ts ks kv A U) : vk_R RX6 56 "nsuobe" (ks 1) U := h.2.2.1.2.1
theorem q_S_r2 {ts ks kv : Nat → Nat} {A : Nat → Prop} {U : State} (h : q_S ts ks kv A U) : vk_R RX6 104 "putoez" (ks 2) U := h.2.2.1.2.2
theorem q_S_s {ts ks kv : Nat → Nat} {A : Nat → Prop} {U : State} (h : q_S ts ks kv A U) : vk_S 3 q_sl q_sb ks kv A U U.heap := h.2.2.2.1
theorem q_S_c {ts ks kv : Nat → Nat} {A : Nat → Prop} {U : State} (h : q_S ts ks kv A U) : va_Z "java/lang/String" "COMPACT_STRINGS" "Z" (.int 1) A U U.heap := h.2.2.2.2
theorem q_S_bl {ts ks kv : Nat → Nat} {A : Nat → Prop} (U : State) (g : JFrame) (mk : MethodId) (a : Array Value) (h : q_S ts ks kv A U) : q_S ts ks kv A (U.calling g mk a) :=
  ⟨⟨va_Nw.same rfl (U := U.calling g mk a) rfl h.1.1, va_Nw.same rfl (U := U.calling g mk a) rfl h.1.2.1, va_Nw.same rfl (U := U.calling g mk a) rfl h.1.2.2.1, va_Nw.same rfl (U := U.calling g mk a) rfl h.1.2.2.2.1, va_Nw.same rfl (U := U.calling g mk a) rfl h.1.2.2.2.2.1, va_Nw.same rfl (U := U.calling g mk a) rfl h.1.2.2.2.2.2.1, va_Nw.same rfl (U := U.calling g mk a) rfl h.1.2.2.2.2.2.2.1, va_Nw.same rfl (U := U.calling g mk a) rfl h.1.2.2.2.2.2.2.2⟩, fun k hk => ⟨va_Z.moved (U := U.calling g mk a) (Vm.Alike.refl U.vm) (h.2.1 k hk).1, va_T.moved (U := U.calling g mk a) (Vm.Alike.refl U.vm) (h.2.1 k hk).2⟩, ⟨vk_R.same (U := U.calling g mk a) rfl h.2.2.1.1, vk_R.same (U := U.calling g mk a) rfl h.2.2.1.2.1, vk_R.same (U := U.calling g mk a) rfl h.2.2.1.2.2⟩, vk_S.moved (U := U.calling g mk a) (Vm.Alike.refl U.vm) h.2.2.2.1, va_Z.moved (U := U.calling g mk a) (Vm.Alike.refl U.vm) h.2.2.2.2⟩
theorem q_S_give {ts ks kv : Nat → Nat} {A : Nat → Prop} {B : Nat → Prop} {s : State} {H : Heap} {locs : List Loc} (h : q_S ts ks kv A s) (hS : va_S A s.heap H locs) (hAB : ∀ q, B q → A q) (U : State) (hU : U.heap = H) (hW : s.WarmedH U.vm) : q_S ts ks kv B U := by
  have hq : ∀ a : Nat, a < s.heap.size → ¬ A a → H[a]? = s.heap[a]? := fun a h1 h2 => hS.2.1 a h1 h2
  refine ⟨⟨va_Nw.warmF hW h.1.1, va_Nw.warmF hW h.1.2.1, va_Nw.warmF hW h.1.2.2.1, va_Nw.warmF hW h.1.2.2.2.1, va_Nw.warmF hW h.1.2.2.2.2.1, va_Nw.warmF hW h.1.2.2.2.2.2.1, va_Nw.warmF hW h.1.2.2.2.2.2.2.1, va_Nw.warmF hW h.1.2.2.2.2.2.2.2⟩, fun k hk => ⟨?_, ?_⟩, ⟨vk_R.warm hW h.2.2.1.1, vk_R.warm hW h.2.2.1.2.1, vk_R.warm hW h.2.2.1.2.2⟩, ?_, ?_⟩
  · rw [hU]; exact (((h.2.1 k hk).1.kept hq).narrow hAB).moved hW.alike
  · rw [hU]; exact (((h.2.1 k hk).2.kept hq).narrow hAB).moved hW.alike
  · rw [hU]; exact vk_S.moved hW.alike (vk_S.narrow (vk_S.kept h.2.2.2.1 hq) hAB)
  · rw [hU]; exact ((h.2.2.2.2.kept hq).narrow hAB).moved hW.alike
def q_RE (D : va_G) (wc : va_W) (tys : List (ClassId × FieldType)) (E : State → Prop) (U : State) : Prop := va_P D vwCl wc U.heap ∧ va_K D vwCl tys U ∧ E U
section QE
variable {s : State} {H : Heap} {D : va_G} {ws wc : va_W} {tys tyc : List (ClassId × FieldType)} {E : State → Prop}
theorem q_blRE {av : List Value} (hE : ∀ (U : State) (g : JFrame) (mk : MethodId) (a : Array Value), E U → E (U.calling g mk a)) : FrameBlind (va_Pc av (q_RE D wc tyc E)) := fun a U g mk q => ⟨q.1, q.2.1, va_K.moved (u := U) (U := U.calling g mk a) (Vm.Alike.refl U.vm) q.2.2.1, hE U g mk a q.2.2.2⟩
theorem q_preSE {av : List Value} (hK : va_K D vwCl tys s) (hP : va_P D vwCl ws H) (isC : List Nat) (hs : isC.filterMap (fun i => ws[i]?) = wc) (it : List Nat) (ht : it.filterMap (fun i => tys[i]?) = tyc) (hE : ∀ (U : State) (g : JFrame) (mk : MethodId) (a : Array Value), E U → E (U.calling g mk a)) (hEU : ∀ U : State, U.heap = H → s.WarmedH U.vm → E U) : PreS s H (va_Pc av (q_RE D wc tyc E)) av :=
  ⟨q_blRE hE, fun U hU hW => ⟨rfl, by rw [hU]; exact hP.sub isC hs, va_K.moved hW.alike (hK.sub it ht), hEU U hU hW⟩⟩
theorem q_preVE {b : Addr} {As : List Value} {ci q0 : Nat} {q : vw_C} {fs : List Value} (hK : va_K D vwCl tys s) (hP : va_P D vwCl ws H) (hc : vwCl[ci]? = some q) (he : ws[q0]? = some (b, .inr (ci, fs))) (isC : List Nat) (hs : isC.filterMap (fun i => ws[i]?) = wc) (it : List Nat) (ht : it.filterMap (fun i => tys[i]?) = tyc) (hE : ∀ (U : State) (g : JFrame) (mk : MethodId) (a : Array Value), E U → E (U.calling g mk a)) (hEU : ∀ U : State, U.heap = H → s.WarmedH U.vm → E U) : PreV s H q.1 b (va_Pc (.ref b :: As) (q_RE D wc tyc E)) As :=
  ⟨q_blRE hE, va_recv hK hP hc he, (q_preSE hK hP isC hs it ht hE hEU).2⟩
theorem q_preVEs {b : Addr} {C : String} {As : List Value} (hK : va_K D vwCl tys s) (hP : va_P D vwCl ws H) (hrec : ∃ cell : Cell, H[b]? = some cell ∧ cell.vm.isStatics = false ∧ s.vm.findClass C = some cell.cls) (isC : List Nat) (hs : isC.filterMap (fun i => ws[i]?) = wc) (it : List Nat) (ht : it.filterMap (fun i => tys[i]?) = tyc) (hE : ∀ (U : State) (g : JFrame) (mk : MethodId) (a : Array Value), E U → E (U.calling g mk a)) (hEU : ∀ U : State, U.heap = H → s.WarmedH U.vm → E U) : PreV s H C b (va_Pc (.ref b :: As) (q_RE D wc tyc E)) As :=
  ⟨q_blRE hE, hrec, (q_preSE hK hP isC hs it ht hE hEU).2⟩
end QE
