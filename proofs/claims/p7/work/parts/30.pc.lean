/-! the reference's readers -/
theorem pE8 {a : Nat} (h : a < 2147483648) : (nI a = 8) = (a = 8) := pEq h (by decide)
theorem pIy {α : Type} {i N : Nat} {a : Option α} [Decidable (nI i < 0 ∨ N ≤ i)] (h : i < N) (hN : N < 2147483648) : (if nI i < 0 ∨ N ≤ i then none else a) = a := if_neg (fun c => c.elim (nI_pos (by omega)) (fun c => by omega))
theorem pIw {α : Type} {i N : Nat} {a : Option α} [Decidable (False ∨ N ≤ i)] (h : i < N) : (if False ∨ N ≤ i then none else a) = a := if_neg (fun c => c.elim id (fun c => by omega))
theorem pLe0 {a : Nat} (h : a < 2147483648) : (nI a ≤ 0) = (a = 0) := (pLe h (by decide)).trans (propext ⟨fun h => Nat.le_zero.mp h, fun h => h ▸ Nat.le_refl _⟩)
theorem pLt0 {a : Nat} (h : a < 2147483648) : (nI a < 0) = False := eq_false (nI_pos h)
def nz (N : Nat → Int32) : Nat → Int32 := fun k => if k < 24 ∨ (32 ≤ k ∧ k < 96) ∨ k = 97 then N k else 0
theorem pNz {N : Nat → Int32} {k : Nat} (h : k < 24 ∨ (32 ≤ k ∧ k < 96) ∨ k = 97) : nz N k = N k := if_pos h
def pb (b : Bool) : Int32 := if b = true then 1 else 0
theorem pb0 (b : Bool) : (pb b = 0) = (b = false) := by cases b <;> decide
theorem pb1 (b : Bool) : (pb b = 1) = (b = true) := by cases b <;> decide
theorem pbo (b : Bool) {α : Type} (x y : α) : (if pb b = 0 ∨ pb b = 1 then x else y) = x := by cases b <;> rfl
theorem pbq (b : Bool) {α : Type} (x y : α) [Decidable (b = false ∨ b = true)] : (if b = false ∨ b = true then x else y) = x := if_pos (by cases b <;> simp)
theorem pbi {c : Prop} [Decidable c] : (if c then some (1 : Int32) else some 0) = some (pb (decide c)) := by by_cases h : c <;> simp [h, pb]
theorem pbi' {c : Prop} [Decidable c] : (if c then some (0 : Int32) else some 1) = some (pb (!decide c)) := by by_cases h : c <;> simp [h, pb]
/-- what is told of one, in the reference's row -/
def tT (m : Nat) (td : Nat → Int32) (d k : Nat) : Int32 := if d < m ∧ k < 6 then td (6 * d + k) else 0
theorem rTold {m : Nat} {td : Nat → Int32} {d k : Nat} (hm : m ≤ 8) (h : d < m) (hk : k < 6) : F_X10_toldOf td (nI d) (nI k) = some (tT m td d k) := by
  have e : (6 : Int32) * nI d + nI k = nI (6 * d + k) := by
    rw [show (6 : Int32) = nI 6 from rfl, ← nI_add]
    unfold nI; rw [Int32.ofNat_mul]
  unfold F_X10_toldOf; rw [e, pIx (by omega) (by omega), pCl (by omega)]
  unfold tT; rw [if_pos ⟨h, hk⟩]
theorem rTold0 {m : Nat} {td : Nat → Int32} {d : Nat} (hm : m ≤ 8) (h : d < m) : F_X10_toldOf td (nI d) 0 = some (tT m td d 0) := rTold hm h (by decide)
theorem rTold1 {m : Nat} {td : Nat → Int32} {d : Nat} (hm : m ≤ 8) (h : d < m) : F_X10_toldOf td (nI d) 1 = some (tT m td d 1) := rTold hm h (by decide)
theorem rTold2 {m : Nat} {td : Nat → Int32} {d : Nat} (hm : m ≤ 8) (h : d < m) : F_X10_toldOf td (nI d) 2 = some (tT m td d 2) := rTold hm h (by decide)
theorem rTold3 {m : Nat} {td : Nat → Int32} {d : Nat} (hm : m ≤ 8) (h : d < m) : F_X10_toldOf td (nI d) 3 = some (tT m td d 3) := rTold hm h (by decide)
theorem rTold4 {m : Nat} {td : Nat → Int32} {d : Nat} (hm : m ≤ 8) (h : d < m) : F_X10_toldOf td (nI d) 4 = some (tT m td d 4) := rTold hm h (by decide)
theorem rTold5 {m : Nat} {td : Nat → Int32} {d : Nat} (hm : m ≤ 8) (h : d < m) : F_X10_toldOf td (nI d) 5 = some (tT m td d 5) := rTold hm h (by decide)
theorem rState {nw : Nat → Int32} {d : Nat} (h : d < 8) : F_X10_state nw (nI d) = some (nw d) := by
  unfold F_X10_state; simp (disch := omega) only [pIx, pCl, pLe, pLt, pEq, pNm, pS1, pA0, pA8, pA16, pA24, pA32, pA40, pA48, pA56, pA64, pA72, pA80, pA88, pBs, pE8, pb0, pb1, pbo, if_true, if_false, pIy, pbq, pNz, pIw]
def zSlp (N : Nat → Int32) (h : Nat) : Bool := !decide (h = 8) && decide (N (88 + h) = 1)
theorem rAsleep {nw : Nat → Int32} {h : Nat} (hh : h ≤ 8) : F_X10_isAsleep nw (nI h) = some (pb (zSlp (nz nw) h)) := by
  unfold F_X10_isAsleep zSlp
  by_cases c : h = 8
  · subst c; simp (disch := omega) only [pIx, pCl, pLe, pLt, pEq, pNm, pS1, pA0, pA8, pA16, pA24, pA32, pA40, pA48, pA56, pA64, pA72, pA80, pA88, pBs, pE8, pb0, pb1, pbo, if_true, if_false, pIy, pbq, pNz, pIw]; simp [pb]
  · simp (disch := omega) only [pIx, pCl, pLe, pLt, pEq, pNm, pS1, pA0, pA8, pA16, pA24, pA32, pA40, pA48, pA56, pA64, pA72, pA80, pA88, pBs, pE8, pb0, pb1, pbo, if_true, if_false, pIy, pbq, pNz, pIw]
    by_cases c2 : nw (88 + h) = 1 <;> simp [c, c2, pb]
def zRun (N : Nat → Int32) (h : Nat) : Bool := decide (h = 8) || decide (N h = 6)
theorem rRunning {nw : Nat → Int32} {h : Nat} (hh : h ≤ 8) : F_X10_isRunning nw (nI h) = some (pb (zRun (nz nw) h)) := by
  unfold F_X10_isRunning zRun
  by_cases c : h = 8
  · subst c; rfl
  · simp (disch := omega) only [pIx, pCl, pLe, pLt, pEq, pNm, pS1, pA0, pA8, pA16, pA24, pA32, pA40, pA48, pA56, pA64, pA72, pA80, pA88, pBs, pE8, pb0, pb1, pbo, if_true, if_false, pIy, pbq, pNz, pIw, rState, c]
    by_cases c2 : nw h = 6 <;> simp [c2, pb]
def zSpd (N : Nat → Int32) (h : Nat) : Int32 := if h = 8 then 2 else N (48 + h)
theorem rSpeed {nw : Nat → Int32} {h : Nat} (hh : h ≤ 8) : F_X10_speedOf nw (nI h) = some (zSpd (nz nw) h) := by
  unfold F_X10_speedOf zSpd; simp (disch := omega) only [pIx, pCl, pLe, pLt, pEq, pNm, pS1, pA0, pA8, pA16, pA24, pA32, pA40, pA48, pA56, pA64, pA72, pA80, pA88, pBs, pE8, pb0, pb1, pbo, if_true, if_false, pIy, pbq, pNz, pIw]
  by_cases c : h = 8 <;> simp [c]
theorem rIn {v lo hi : Int32} : F_X10_in v lo hi = some (pb (!decide (v < lo) && !decide (hi < v))) := by
  unfold F_X10_in
  by_cases c : v < lo <;> by_cases c2 : hi < v <;> simp [c, c2, pb]
theorem rTree {m : Nat} (hm : m ≤ 8) : F_X10_isTree (nI m) = some (pb (decide (0 < m))) := by
  unfold F_X10_isTree
  simp (disch := omega) only [pLe0]
  by_cases c : 0 < m
  · rw [if_neg (by omega)]; simp [c, pb]
  · rw [if_pos (by omega)]; simp [c, pb]
def zDev (m : Nat) (z : Int32) : Bool := !decide (z < 0) && !decide (nI m - 1 < z)
theorem rDev {m : Nat} {z : Int32} : F_X10_isDevice (nI m) z = some (pb (zDev m z)) := by
  unfold F_X10_isDevice; simp only [rIn, pBs, pbo]; rfl
theorem zDev_lt {m : Nat} {z : Int32} (hm : m ≤ 8) (h : zDev m z = true) : ∃ d, d < m ∧ z = nI d := by
  unfold zDev at h
  simp only [Bool.and_eq_true, Bool.not_eq_true', decide_eq_false_iff_not] at h
  obtain ⟨j, hj, rfl⟩ := nI_of h.1
  refine ⟨j, ?_, rfl⟩
  rcases Nat.lt_or_ge j m with c | c
  · exact c
  · exfalso
    apply h.2
    have e1 : (nI m - 1).toInt = (m : Int) - 1 := pk_sub_toInt (a := m) (b := 1) (by omega) (by decide)
    rw [q_lt, e1, nI_toInt hj]
    omega
theorem zDev_nI {m d : Nat} (hm : m ≤ 8) (hd : d < 2147483648) : zDev m (nI d) = decide (d < m) := by
  unfold zDev
  have e1 : (nI m - 1).toInt = (m : Int) - 1 := pk_sub_toInt (a := m) (b := 1) (by omega) (by decide)
  have e2 : (nI d).toInt = d := nI_toInt hd
  have e3 : ¬ nI d < 0 := nI_pos hd
  by_cases c : d < m
  · have : ¬ nI m - 1 < nI d := by rw [q_lt, e1, e2]; omega
    simp [e3, this, c]
  · have : nI m - 1 < nI d := by rw [q_lt, e1, e2]; omega
    simp [e3, this, c]
def zHub (m : Nat) (T : Nat → Nat → Int32) (z : Int32) : Bool := (decide (0 < m) && decide (z = 8)) || (zDev m z && !decide (T z.toNatClampNeg 0 ≤ 0))
theorem rHub {m : Nat} {td : Nat → Int32} {z : Int32} (hm : m ≤ 8) : F_X10_isHub (nI m) td z = some (pb (zHub m (tT m td) z)) := by
  unfold F_X10_isHub zHub
  simp only [rTree hm, rDev, pBs, pb0]
  by_cases c : zDev m z = true
  · obtain ⟨d, hd, rfl⟩ := zDev_lt hm c
    simp (disch := omega) only [rTold0 (m := m), pBs, c, pCl, pE8]
    by_cases c1 : 0 < m <;> by_cases c2 : d = 8 <;> by_cases c3 : tT m td d 0 ≤ 0 <;> simp [c1, c2, c3, pb] <;> omega
  · simp only [c, Bool.not_eq_true] at c ⊢
    by_cases c1 : 0 < m <;> by_cases c2 : z = 8 <;> simp [c1, c2, c, pb]
theorem rPorts8 {ru td : Nat → Int32} : F_X10_portsOf ru td 8 = some (ru 0) := rfl
theorem rPorts {m : Nat} {ru td : Nat → Int32} {d : Nat} (hm : m ≤ 8) (h : d < m) : F_X10_portsOf ru td (nI d) = some (tT m td d 0) := by
  unfold F_X10_portsOf; simp (disch := omega) only [pIx, pCl, pLe, pLt, pEq, pNm, pS1, pA0, pA8, pA16, pA24, pA32, pA40, pA48, pA56, pA64, pA72, pA80, pA88, pBs, pE8, pb0, pb1, pbo, if_true, if_false, pIy, pbq, pNz, pIw, rTold0 (m := m)]
  rw [if_neg (by omega)]
theorem rThose {m : Nat} {nw : Nat → Int32} {w : Int32} (hm : m ≤ 8) : F_X10_those (nI m) nw w = some (pSet (fun d => decide (nz nw d = w)) m) := by
  unfold F_X10_those
  refine pLoop0 (L := fun n i a => FL_X10_those_4 (nI m) nw w n a i) (fin := id) (fun n j a hj => ?_) (fun n a => ?_) 1000 0 (by omega)
  · show FL_X10_those_4 (nI m) nw w (n + 1) a (nI j) = _
    simp (disch := omega) only [FL_X10_those_4, pIx, pCl, pLe, pLt, pEq, pNm, pS1, pA0, pA8, pA16, pA24, pA32, pA40, pA48, pA56, pA64, pA72, pA80, pA88, pBs, pE8, pb0, pb1, pbo, if_true, if_false, pIy, pbq, pNz, pIw, rState, pSb]
    rw [if_neg (by omega)]
    by_cases c : nw j = w <;> simp [c]
  · show FL_X10_those_4 (nI m) nw w (n + 1) a (nI m) = _
    simp (disch := omega) only [FL_X10_those_4, pIx, pCl, pLe, pLt, pEq, pNm, pS1, pA0, pA8, pA16, pA24, pA32, pA40, pA48, pA56, pA64, pA72, pA80, pA88, pBs, pE8, pb0, pb1, pbo, if_true, if_false, pIy, pbq, pNz, pIw]
    rw [if_pos (Nat.le_refl m)]; rfl
