/-! rows of our own: callers of contracts in two forms, 'readers' (q_R: nothing is written) and 'writers' (q_W: only what lies in A is written) -/
theorem q_lt (a b : Int32) : a < b ↔ a.toInt < b.toInt := Int32.lt_iff_toInt_lt
theorem q_le (a b : Int32) : a ≤ b ↔ a.toInt ≤ b.toInt := Int32.le_iff_toInt_le
theorem q_eq (a b : Int32) : a = b ↔ a.toInt = b.toInt := ⟨fun h => by rw [h], fun h => Int32.toInt_inj.mp h⟩
def q_R (D : va_G) (wc : va_W) (tys : List (ClassId × FieldType)) (U : State) : Prop := va_P D vwCl wc U.heap ∧ va_K D vwCl tys U
def q_W (D : va_G) (A : Nat → Prop) (wc : va_W) (tys : List (ClassId × FieldType)) (U : State) : Prop := va_P D vwCl wc U.heap ∧ va_K D vwCl tys U ∧ va_D A wc ∧ ∀ q : Nat, U.heap.size ≤ q → A q
def q_WE (D : va_G) (A : Nat → Prop) (wc : va_W) (tys : List (ClassId × FieldType)) (E : State → Prop) (U : State) : Prop := va_P D vwCl wc U.heap ∧ va_K D vwCl tys U ∧ va_D A wc ∧ (∀ q : Nat, U.heap.size ≤ q → A q) ∧ E U
def q_B (D : va_G) (A : Nat → Prop) (w1 : va_W) (t1 : List (ClassId × FieldType)) (t : State) : Prop := va_P D vwCl w1 t.heap ∧ va_K D vwCl t1 t ∧ va_D A w1
abbrev q_i (v : Int32) : Array Value → State → Outcome → State → Prop := va_Qi (fun (r : Int32) (_ : Unit) => r = v) (fun _ _ => True) (fun _ => False)
abbrev q_v : Array Value → State → Outcome → State → Prop := va_Qv (fun (_ : Unit) => True) (fun _ _ => True) (fun _ => False)
abbrev q_wi (v : Int32) (A : Nat → Prop) : Array Value → State → Outcome → State → Prop := va_Qi (fun (r : Int32) (_ : Unit) => r = v) (fun _ _ => True) A
abbrev q_wv (A : Nat → Prop) : Array Value → State → Outcome → State → Prop := va_Qv (fun (_ : Unit) => True) (fun _ _ => True) A
def q_f (l : List Nat) : Nat → Nat := fun i => l.getD i 0
def q_g (l : List ClassId) : Nat → ClassId := fun i => l.getD i 0
section QH
variable {p : Program} {l : Launch} {e : Env} {R : Room} {s : State} {m : MethodId} {args : Array Value} {below : List Frame} {meth : Method} {c : Code} {H : Heap} {locs : List Loc} {cells slots : Nat} {Q : State → Prop}
variable {pc : Nat} {ls : Array Slot} {rest st0 : List Value} {a : Array Value} {A0 : Nat → Prop} {H0 : Heap} {D : va_G} {ws wc wr : va_W} {tys tyc : List (ClassId × FieldType)} {mc ms : Nat}
theorem q_top {x y : Int32} (h : x = y) (k : W p l e R s m args below meth c H locs cells slots Q (F0 m pc ls (.int y :: rest))) : W p l e R s m args below meth c H locs cells slots Q (F0 m pc ls (.int x :: rest)) := by rw [h]; exact k
theorem q_keep {H1 : Heap} (hP : va_P D vwCl ws H) (hk : ∀ q : Nat, q < H.size → ¬ (fun _ : Nat => False) q → H1[q]? = H[q]?) : va_P D vwCl ws H1 := hP.kept (fun k q h => hk q.1 (hP k q h).lt id)
theorem q_blR {av : List Value} : FrameBlind (va_Pc av (q_R D wc tyc)) := fun a U g mk q => ⟨q.1, q.2.1, va_K.moved (u := U) (U := U.calling g mk a) (Vm.Alike.refl U.vm) q.2.2⟩
theorem q_blW {av : List Value} {A : Nat → Prop} : FrameBlind (va_Pc av (q_W D A wc tyc)) := fun a U g mk q => ⟨q.1, q.2.1, va_K.moved (u := U) (U := U.calling g mk a) (Vm.Alike.refl U.vm) q.2.2.1, q.2.2.2.1, q.2.2.2.2⟩
theorem q_blWE {av : List Value} {A : Nat → Prop} {E : State → Prop} (hE : ∀ (U : State) (g : JFrame) (mk : MethodId) (a : Array Value), E U → E (U.calling g mk a)) : FrameBlind (va_Pc av (q_WE D A wc tyc E)) := fun a U g mk q => ⟨q.1, q.2.1, va_K.moved (u := U) (U := U.calling g mk a) (Vm.Alike.refl U.vm) q.2.2.1, q.2.2.2.1, q.2.2.2.2.1, hE U g mk a q.2.2.2.2.2⟩
theorem q_preS {av : List Value} (hK : va_K D vwCl tys s) (hP : va_P D vwCl ws H) (isC : List Nat) (hs : isC.filterMap (fun i => ws[i]?) = wc) (it : List Nat) (ht : it.filterMap (fun i => tys[i]?) = tyc) : PreS s H (va_Pc av (q_R D wc tyc)) av :=
  ⟨q_blR, fun U hU hW => ⟨rfl, by rw [hU]; exact hP.sub isC hs, va_K.moved hW.alike (hK.sub it ht)⟩⟩
theorem q_preV {b : Addr} {As : List Value} {ci q0 : Nat} {q : vw_C} {fs : List Value} (hK : va_K D vwCl tys s) (hP : va_P D vwCl ws H) (hc : vwCl[ci]? = some q) (he : ws[q0]? = some (b, .inr (ci, fs))) (isC : List Nat) (hs : isC.filterMap (fun i => ws[i]?) = wc) (it : List Nat) (ht : it.filterMap (fun i => tys[i]?) = tyc) : PreV s H q.1 b (va_Pc (.ref b :: As) (q_R D wc tyc)) As :=
  ⟨q_blR, va_recv hK hP hc he, (q_preS hK hP isC hs it ht).2⟩
theorem q_preW {av : List Value} (hK : va_K D vwCl tys s) (hP : va_P D vwCl ws H) (hD : va_D A0 ws) (isC : List Nat) (hn : va_nd isC = true) (hs : isC.filterMap (fun i => ws[i]?) = wc) (hC : isC.map (fun i => ws[i]?) = wc.map some) (it : List Nat) (ht : it.filterMap (fun i => tys[i]?) = tyc) : PreS s H (va_Pc av (q_W D (va_A wc H.size) wc tyc)) av :=
  ⟨q_blW, fun U hU hW => ⟨rfl, by rw [hU]; exact hP.sub isC hs, va_K.moved hW.alike (hK.sub it ht), (hD.sub isC hn hC).self, fun q h => Or.inr (by rw [hU] at h; exact h)⟩⟩
theorem q_preWV {b : Addr} {As : List Value} {ci q0 : Nat} {q : vw_C} {fs : List Value} (hK : va_K D vwCl tys s) (hP : va_P D vwCl ws H) (hD : va_D A0 ws) (hc : vwCl[ci]? = some q) (he : ws[q0]? = some (b, .inr (ci, fs))) (isC : List Nat) (hn : va_nd isC = true) (hs : isC.filterMap (fun i => ws[i]?) = wc) (hC : isC.map (fun i => ws[i]?) = wc.map some) (it : List Nat) (ht : it.filterMap (fun i => tys[i]?) = tyc) : PreV s H q.1 b (va_Pc (.ref b :: As) (q_W D (va_A wc H.size) wc tyc)) As :=
  ⟨q_blW, va_recv hK hP hc he, (q_preW hK hP hD isC hn hs hC it ht).2⟩
theorem q_preWE {av : List Value} {E : State → Prop} (hK : va_K D vwCl tys s) (hP : va_P D vwCl ws H) (hD : va_D A0 ws) (isC : List Nat) (hn : va_nd isC = true) (hs : isC.filterMap (fun i => ws[i]?) = wc) (hC : isC.map (fun i => ws[i]?) = wc.map some) (it : List Nat) (ht : it.filterMap (fun i => tys[i]?) = tyc) (hE : ∀ (U : State) (g : JFrame) (mk : MethodId) (a : Array Value), E U → E (U.calling g mk a)) (hEU : ∀ U : State, U.heap = H → s.WarmedH U.vm → E U) : PreS s H (va_Pc av (q_WE D (va_A wc H.size) wc tyc E)) av :=
  ⟨q_blWE hE, fun U hU hW => ⟨rfl, by rw [hU]; exact hP.sub isC hs, va_K.moved hW.alike (hK.sub it ht), (hD.sub isC hn hC).self, fun q h => Or.inr (by rw [hU] at h; exact h), hEU U hU hW⟩⟩
theorem q_preWVE {b : Addr} {As : List Value} {ci q0 : Nat} {q : vw_C} {fs : List Value} {E : State → Prop} (hK : va_K D vwCl tys s) (hP : va_P D vwCl ws H) (hD : va_D A0 ws) (hc : vwCl[ci]? = some q) (he : ws[q0]? = some (b, .inr (ci, fs))) (isC : List Nat) (hn : va_nd isC = true) (hs : isC.filterMap (fun i => ws[i]?) = wc) (hC : isC.map (fun i => ws[i]?) = wc.map some) (it : List Nat) (ht : it.filterMap (fun i => tys[i]?) = tyc) (hE : ∀ (U : State) (g : JFrame) (mk : MethodId) (a : Array Value), E U → E (U.calling g mk a)) (hEU : ∀ U : State, U.heap = H → s.WarmedH U.vm → E U) : PreV s H q.1 b (va_Pc (.ref b :: As) (q_WE D (va_A wc H.size) wc tyc E)) As :=
  ⟨q_blWE hE, va_recv hK hP hc he, (q_preWE hK hP hD isC hn hs hC it ht hE hEU).2⟩
/-- a reader that answers v: the world stays -/
theorem q_goi {v : Int32} (hr : va_Run p l e R s m args below meth c H locs cells slots 0 0 (F0 m pc ls st0) rest (q_i v a) (fun _ => False)) (hP : va_P D vwCl ws H) (hS : va_S A0 H0 H locs)
    (kk : ∀ (H1 : Heap) (locs1 : List Loc), va_P D vwCl ws H1 → va_S A0 H0 H1 locs1 → W p l e R s m args below meth c H1 locs1 cells slots Q (F0 m (pc + 3) ls (.int v :: rest))) : W p l e R s m args below meth c H locs cells slots Q (F0 m pc ls st0) :=
  va_calli hr hS (fun _ _ h => h.elim) (fun _ h => h.elim) (fun r u t H1 locs1 ht hvm hw _ hz hk hS1 => by rw [hw]; exact kk H1 locs1 (q_keep hP hk) hS1)
theorem q_gov (hr : va_Run p l e R s m args below meth c H locs cells slots 0 0 (F0 m pc ls st0) rest (q_v a) (fun _ => False)) (hP : va_P D vwCl ws H) (hS : va_S A0 H0 H locs)
    (kk : ∀ (H1 : Heap) (locs1 : List Loc), va_P D vwCl ws H1 → va_S A0 H0 H1 locs1 → W p l e R s m args below meth c H1 locs1 cells slots Q (F0 m (pc + 3) ls rest)) : W p l e R s m args below meth c H locs cells slots Q (F0 m pc ls st0) :=
  va_callv hr hS (fun _ _ h => h.elim) (fun _ h => h.elim) (fun u t H1 locs1 ht hvm hw _ hz hk hS1 => kk H1 locs1 (q_keep hP hk) hS1)
/-- what is apart from the callee's cells stays -/
theorem q_rest {H1 : Heap} (hP : va_P D vwCl ws H) (hD : va_D A0 ws) (isC isR : List Nat) (hC : isC.map (fun i => ws[i]?) = wc.map some) (hR : isR.map (fun i => ws[i]?) = wr.map some) (hn : va_nd isR = true) (hdis : ∀ i ∈ isR, i ∉ isC) (hk : ∀ q : Nat, q < H.size → ¬ va_A wc H.size q → H1[q]? = H[q]?) (hF : ∀ q, va_A wc H.size q → A0 q) : va_P D vwCl wr H1 ∧ va_D A0 wr := by
  have h := va_join (w1 := []) hP hD isC isR hC hR hn hdis hk hF (fun k q h => by simp at h) ⟨fun i j p q h => by simp at h, fun k q h => by simp at h⟩
  rw [List.append_nil] at h
  exact h
/-- a writer that answers v: the rest stays, of its own cells nothing is said -/
theorem q_goiF {v : Int32} (hr : va_Run p l e R s m args below meth c H locs cells slots mc ms (F0 m pc ls st0) rest (q_wi v (va_A wc H.size) a) (va_A wc H.size)) (hP : va_P D vwCl ws H) (hD : va_D A0 ws) (hS : va_S A0 H0 H locs) (hA : ∀ q, H0.size ≤ q → A0 q) (isC isR : List Nat) (hC : isC.map (fun i => ws[i]?) = wc.map some) (hR : isR.map (fun i => ws[i]?) = wr.map some) (hn : va_nd isR = true) (hdis : ∀ i ∈ isR, i ∉ isC)
    (kk : ∀ (H1 : Heap) (locs1 : List Loc), va_P D vwCl wr H1 → va_D A0 wr → va_S A0 H0 H1 locs1 → W p l e R s m args below meth c H1 locs1 (cells + mc) (slots + ms) Q (F0 m (pc + 3) ls (.int v :: rest))) : W p l e R s m args below meth c H locs cells slots Q (F0 m pc ls st0) :=
  va_calli hr hS (fun q _ h => va_free hD hS hA isC hC q h) (va_free hD hS hA isC hC) (fun r u t H1 locs1 ht hvm hw _ hz hk hS1 => by
    rw [hw]
    exact kk H1 locs1 (q_rest hP hD isC isR hC hR hn hdis hk (va_free hD hS hA isC hC)).1 (q_rest hP hD isC isR hC hR hn hdis hk (va_free hD hS hA isC hC)).2 hS1)
theorem q_govF (hr : va_Run p l e R s m args below meth c H locs cells slots mc ms (F0 m pc ls st0) rest (q_wv (va_A wc H.size) a) (va_A wc H.size)) (hP : va_P D vwCl ws H) (hD : va_D A0 ws) (hS : va_S A0 H0 H locs) (hA : ∀ q, H0.size ≤ q → A0 q) (isC isR : List Nat) (hC : isC.map (fun i => ws[i]?) = wc.map some) (hR : isR.map (fun i => ws[i]?) = wr.map some) (hn : va_nd isR = true) (hdis : ∀ i ∈ isR, i ∉ isC)
    (kk : ∀ (H1 : Heap) (locs1 : List Loc), va_P D vwCl wr H1 → va_D A0 wr → va_S A0 H0 H1 locs1 → W p l e R s m args below meth c H1 locs1 (cells + mc) (slots + ms) Q (F0 m (pc + 3) ls rest)) : W p l e R s m args below meth c H locs cells slots Q (F0 m pc ls st0) :=
  va_callv hr hS (fun q _ h => va_free hD hS hA isC hC q h) (va_free hD hS hA isC hC) (fun u t H1 locs1 ht hvm hw _ hz hk hS1 =>
    kk H1 locs1 (q_rest hP hD isC isR hC hR hn hdis hk (va_free hD hS hA isC hC)).1 (q_rest hP hD isC isR hC hR hn hdis hk (va_free hD hS hA isC hC)).2 hS1)
/-- a writer, with what its cells are behind it -/
theorem q_gov2 {S : Type} {post : S → Prop} {w1 : S → va_W} {t1 : S → List (ClassId × FieldType)} (hr : va_Run p l e R s m args below meth c H locs cells slots mc ms (F0 m pc ls st0) rest (va_Qv post (fun u t => q_B D (va_A wc H.size) (w1 u) (t1 u) t) (va_A wc H.size) a) (va_A wc H.size)) (hK : va_K D vwCl tys s) (hP : va_P D vwCl ws H) (hD : va_D A0 ws) (hS : va_S A0 H0 H locs) (hA : ∀ q, H0.size ≤ q → A0 q) (isC isR : List Nat) (hC : isC.map (fun i => ws[i]?) = wc.map some) (hR : isR.map (fun i => ws[i]?) = wr.map some) (hn : va_nd isR = true) (hdis : ∀ i ∈ isR, i ∉ isC)
    (kk : ∀ (u : S) (H1 : Heap) (locs1 : List Loc), post u → va_P D vwCl (wr ++ w1 u) H1 → va_D A0 (wr ++ w1 u) → va_K D vwCl (tys ++ t1 u) s → va_S A0 H0 H1 locs1 → W p l e R s m args below meth c H1 locs1 (cells + mc) (slots + ms) Q (F0 m (pc + 3) ls rest)) : W p l e R s m args below meth c H locs cells slots Q (F0 m pc ls st0) :=
  va_callv hr hS (fun q _ h => va_free hD hS hA isC hC q h) (va_free hD hS hA isC hC) (fun u t H1 locs1 ht hvm hw hB hz hk hS1 => by
    obtain ⟨hP1, hK1, hD1⟩ := hB
    rw [ht] at hP1
    obtain ⟨hP2, hD2⟩ := va_join (wr := wr) (w1 := w1 u) hP hD isC isR hC hR hn hdis hk (va_free hD hS hA isC hC) hP1 hD1
    exact kk u H1 locs1 hw hP2 hD2 (hK.app (va_K.moved hvm.symm hK1)) hS1)
theorem q_goi2 {S : Type} {v : Int32} {post : S → Prop} {w1 : S → va_W} {t1 : S → List (ClassId × FieldType)} (hr : va_Run p l e R s m args below meth c H locs cells slots mc ms (F0 m pc ls st0) rest (va_Qi (fun (r : Int32) (u : S) => r = v ∧ post u) (fun u t => q_B D (va_A wc H.size) (w1 u) (t1 u) t) (va_A wc H.size) a) (va_A wc H.size)) (hK : va_K D vwCl tys s) (hP : va_P D vwCl ws H) (hD : va_D A0 ws) (hS : va_S A0 H0 H locs) (hA : ∀ q, H0.size ≤ q → A0 q) (isC isR : List Nat) (hC : isC.map (fun i => ws[i]?) = wc.map some) (hR : isR.map (fun i => ws[i]?) = wr.map some) (hn : va_nd isR = true) (hdis : ∀ i ∈ isR, i ∉ isC)
    (kk : ∀ (u : S) (H1 : Heap) (locs1 : List Loc), post u → va_P D vwCl (wr ++ w1 u) H1 → va_D A0 (wr ++ w1 u) → va_K D vwCl (tys ++ t1 u) s → va_S A0 H0 H1 locs1 → W p l e R s m args below meth c H1 locs1 (cells + mc) (slots + ms) Q (F0 m (pc + 3) ls (.int v :: rest))) : W p l e R s m args below meth c H locs cells slots Q (F0 m pc ls st0) :=
  va_calli hr hS (fun q _ h => va_free hD hS hA isC hC q h) (va_free hD hS hA isC hC) (fun r u t H1 locs1 ht hvm hw hB hz hk hS1 => by
    obtain ⟨hP1, hK1, hD1⟩ := hB
    rw [ht] at hP1
    obtain ⟨hP2, hD2⟩ := va_join (wr := wr) (w1 := w1 u) hP hD isC isR hC hR hn hdis hk (va_free hD hS hA isC hC) hP1 hD1
    rw [hw.1]
    exact kk u H1 locs1 hw.2 hP2 hD2 (hK.app (va_K.moved hvm.symm hK1)) hS1)
end QH
/-- the reference's 'in' -/
def q_in (v lo hi : Int32) : Int32 := if v < lo then 0 else if hi < v then 0 else 1
theorem q_in_none (v : Int32) : q_in v 0 (-1) = 0 := by
  unfold q_in
  split
  · rfl
  · split
    · rfl
    · rename_i h1 h2
      exfalso
      have e0 : (0 : Int32).toInt = 0 := by decide
      have e1 : ((-1 : Int32)).toInt = -1 := by decide
      simp only [q_lt] at h1 h2
      omega
theorem q_in_1 {v lo hi : Int32} (h : ¬ q_in v lo hi = 0) : q_in v lo hi = 1 := by
  unfold q_in at h ⊢
  split
  · rename_i h1; exact absurd (by rw [if_pos h1]) h
  · rename_i h1
    split
    · rename_i h2; exact absurd (by rw [if_neg h1, if_pos h2]) h
    · rfl
