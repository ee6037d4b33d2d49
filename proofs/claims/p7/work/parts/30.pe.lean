/-! the readers of the reference with loops -/
theorem pE0z {a : Nat} (h : a < 2147483648) : (nI a = 0) = (a = 0) := pEq h (by decide)
theorem pE1z {a : Nat} (h : a < 2147483648) : (nI a = 1) = (a = 1) := pEq h (by decide)
theorem pE2z {a : Nat} (h : a < 2147483648) : (nI a = 2) = (a = 2) := pEq h (by decide)
theorem pE3z {a : Nat} (h : a < 2147483648) : (nI a = 3) = (a = 3) := pEq h (by decide)
theorem pE4z {a : Nat} (h : a < 2147483648) : (nI a = 4) = (a = 4) := pEq h (by decide)
theorem pE5z {a : Nat} (h : a < 2147483648) : (nI a = 5) = (a = 5) := pEq h (by decide)
theorem pE6z {a : Nat} (h : a < 2147483648) : (nI a = 6) = (a = 6) := pEq h (by decide)
theorem rRight {m : Nat} {nw : Nat → Int32} {z : Int32} (hm : m ≤ 8) : F_X10_rightAt (nI m) nw z = some (pSet (fun d => !decide (nz nw d = 0) && decide (nz nw (32 + d) = z)) m) := by
  unfold F_X10_rightAt
  refine pLoop0 (L := fun n i a => FL_X10_rightAt_4 (nI m) nw z n a i) (fin := id) (fun n j a hj => ?_) (fun n a => ?_) 1000 0 (by omega)
  · show FL_X10_rightAt_4 (nI m) nw z (n + 1) a (nI j) = _
    simp (disch := omega) only [FL_X10_rightAt_4, pIx, pCl, pLe, pLt, pEq, pNm, pS1, pA0, pA8, pA16, pA24, pA32, pA40, pA48, pA56, pA64, pA72, pA80, pA88, pBs, pE8, pb0, pb1, pbo, if_true, if_false, pIy, pbq, pNz, pIw, pSb, rState]
    rw [if_neg (by omega)]
    by_cases c : nw j = 0 <;> by_cases c2 : nw (32 + j) = z <;> simp [c, c2]
  · show FL_X10_rightAt_4 (nI m) nw z (n + 1) a (nI m) = _
    simp (disch := omega) only [FL_X10_rightAt_4, pIx, pCl, pLe, pLt, pEq, pNm, pS1, pA0, pA8, pA16, pA24, pA32, pA40, pA48, pA56, pA64, pA72, pA80, pA88, pBs, pE8, pb0, pb1, pbo, if_true, if_false, pIy, pbq, pNz, pIw]
    rw [if_pos (Nat.le_refl m)]; rfl
theorem rBeneath {m : Nat} {nw : Nat → Int32} {r : Nat → Nat} {h : Nat} (hm : m ≤ 8) (hw : wR m (nz nw) r) (hf : wF m (nz nw)) (hh : h ≤ 8) : F_X10_beneath (nI m) nw (nI h) = some (pSet (fun d => zHang (nz nw) d (nI h)) m) := by
  unfold F_X10_beneath
  refine pLoop0 (L := fun n i a => FL_X10_beneath_4 (nI m) nw (nI h) n a i) (fin := id) (fun n j a hj => ?_) (fun n a => ?_) 1000 0 (by omega)
  · show FL_X10_beneath_4 (nI m) nw (nI h) (n + 1) a (nI j) = _
    simp (disch := omega) only [FL_X10_beneath_4, pIx, pCl, pLe, pLt, pEq, pNm, pS1, pA0, pA8, pA16, pA24, pA32, pA40, pA48, pA56, pA64, pA72, pA80, pA88, pBs, pE8, pb0, pb1, pbo, if_true, if_false, pIy, pbq, pNz, pIw, pSb, rBeneath1 hm hw hf hj hh]
    rw [if_neg (by omega)]
    by_cases c : zHang (nz nw) j (nI h) = true <;> simp [c]
  · show FL_X10_beneath_4 (nI m) nw (nI h) (n + 1) a (nI m) = _
    simp (disch := omega) only [FL_X10_beneath_4, pIx, pCl, pLe, pLt, pEq, pNm, pS1, pA0, pA8, pA16, pA24, pA32, pA40, pA48, pA56, pA64, pA72, pA80, pA88, pBs, pE8, pb0, pb1, pbo, if_true, if_false, pIy, pbq, pNz, pIw]
    rw [if_pos (Nat.le_refl m)]; rfl
theorem rInPort {m : Nat} {nw : Nat → Int32} {z z2 : Int32} (hm : m ≤ 8) : F_X10_inPort (nI m) nw z z2 = some (pFd (fun d => !decide (nz nw d = 0) && decide (nz nw (32 + d) = z) && decide (nz nw (40 + d) = z2)) m 0) := by
  unfold F_X10_inPort
  refine pFind (m := m) (L := fun n i => FL_X10_inPort_2 (nI m) nw z z2 n i) (p := (fun d => !decide (nz nw d = 0) && decide (nz nw (32 + d) = z) && decide (nz nw (40 + d) = z2))) (r := fun j => nI j) (e := -1) id (fun _ _ => rfl) rfl (fun n j hj => ?_) (fun n => ?_) m 1000 0 (by omega) (by omega)
  · show FL_X10_inPort_2 (nI m) nw z z2 (n + 1) (nI j) = _
    simp (disch := omega) only [FL_X10_inPort_2, pIx, pCl, pLe, pLt, pEq, pNm, pS1, pA0, pA8, pA16, pA24, pA32, pA40, pA48, pA56, pA64, pA72, pA80, pA88, pBs, pE8, pb0, pb1, pbo, if_true, if_false, pIy, pbq, pNz, pIw, rState]
    rw [if_neg (by omega)]
    by_cases c : nw j = 0 <;> by_cases c2 : nw (32 + j) = z <;> by_cases c3 : nw (40 + j) = z2 <;> simp [c, c2, c3]
  · show FL_X10_inPort_2 (nI m) nw z z2 (n + 1) (nI m) = _
    simp (disch := omega) only [FL_X10_inPort_2, pIx, pCl, pLe, pLt, pEq, pNm, pS1, pA0, pA8, pA16, pA24, pA32, pA40, pA48, pA56, pA64, pA72, pA80, pA88, pBs, pE8, pb0, pb1, pbo, if_true, if_false, pIy, pbq, pNz, pIw]
    rw [if_pos (Nat.le_refl m)]
def zNeed (T : Nat → Nat → Int32) (N : Nat → Int32) (d : Nat) : Int32 := if N (72 + d) = 1 then 0 else T d 2
theorem rNeed {m : Nat} {td nw : Nat → Int32} {d : Nat} (hm : m ≤ 8) (h : d < m) : F_X10_needOf td nw (nI d) = some (zNeed (tT m td) (nz nw) d) := by
  unfold F_X10_needOf zNeed; simp (disch := omega) only [pIx, pCl, pLe, pLt, pEq, pNm, pS1, pA0, pA8, pA16, pA24, pA32, pA40, pA48, pA56, pA64, pA72, pA80, pA88, pBs, pE8, pb0, pb1, pbo, if_true, if_false, pIy, pbq, pNz, pIw, rTold2 (m := m)]
  by_cases c : nw (72 + d) = 1 <;> simp [c]
def zTakes (T : Nat → Nat → Int32) (N : Nat → Int32) (d : Nat) : Int32 := if N (88 + d) = 1 then 0 else zNeed T N d
theorem zSlp_d {N : Nat → Int32} {d : Nat} (h : d < 8) : zSlp N d = decide (N (88 + d) = 1) := by
  unfold zSlp; simp (disch := omega) [show ¬ d = 8 from by omega]
theorem rTakes {m : Nat} {td nw : Nat → Int32} {d : Nat} (hm : m ≤ 8) (h : d < m) : F_X10_takesOf td nw (nI d) = some (zTakes (tT m td) (nz nw) d) := by
  unfold F_X10_takesOf zTakes; simp (disch := omega) only [pIx, pCl, pLe, pLt, pEq, pNm, pS1, pA0, pA8, pA16, pA24, pA32, pA40, pA48, pA56, pA64, pA72, pA80, pA88, pBs, pE8, pb0, pb1, pbo, if_true, if_false, pIy, pbq, pNz, pIw, rAsleep, rNeed (m := m), zSlp_d]
  by_cases c : nw (88 + d) = 1 <;> simp [c]
def zGv (R : Nat → Int32) (N : Nat → Int32) (x : Int32) : Int32 := if x = 8 then R 4 else if (¬ x < 0 ∧ ¬ 8 ≤ x) ∧ N (72 + x.toNatClampNeg) = 1 then 5 else 1
theorem rGives {ru nw : Nat → Int32} {c : Nat} (h : c ≤ 8) : F_X10_givesOf ru nw (nI c) = some (zGv ru (nz nw) (nI c)) := by
  unfold F_X10_givesOf zGv; simp (disch := omega) only [pIx, pCl, pLe, pLt, pEq, pNm, pS1, pA0, pA8, pA16, pA24, pA32, pA40, pA48, pA56, pA64, pA72, pA80, pA88, pBs, pE8, pb0, pb1, pbo, if_true, if_false, pIy, pbq, pNz, pIw, pLt0, p8Le]
  by_cases c8 : c = 8
  · simp [c8]
  · by_cases c2 : nw (72 + c) = 1 <;> simp [c8, c2] <;> omega
def zLf (T : Nat → Nat → Int32) (N : Nat → Int32) (h : Nat) (out : Int32) (d : Nat) (a : Int32) : Int32 := if N d = 6 ∧ N (32 + d) = nI h ∧ ¬ nI d = out then a - zTakes T N d else a
def zLeft (m : Nat) (R : Nat → Int32) (T : Nat → Nat → Int32) (N : Nat → Int32) (h : Nat) (out : Int32) : Int32 := pF (zLf T N h out) m 0 (zGv R N (N (32 + h)) - T h 2)
theorem p_sub0 (a : Int32) : a - 0 = a := by simp
theorem p_add0 (a : Int32) : a + 0 = a := by simp
theorem rLeftL {m : Nat} {ru td nw : Nat → Int32} {h : Nat} {out b : Int32} (hm : m ≤ 8) (hh : h ≤ 8) : FL_X10_leftOf_46 (nI m) ru td nw (nI h) out 1000 b 0 = some (pF (zLf (tT m td) (nz nw) h out) m 0 b) := by
  refine pLoop0 (L := fun n i a => FL_X10_leftOf_46 (nI m) ru td nw (nI h) out n a i) (fin := id) (fun n j a hj => ?_) (fun n a => ?_) 1000 _ (by omega)
  · show FL_X10_leftOf_46 (nI m) ru td nw (nI h) out (n + 1) a (nI j) = _
    simp (disch := omega) only [FL_X10_leftOf_46, pIx, pCl, pLe, pLt, pEq, pNm, pS1, pA0, pA8, pA16, pA24, pA32, pA40, pA48, pA56, pA64, pA72, pA80, pA88, pBs, pE8, pb0, pb1, pbo, if_true, if_false, pIy, pbq, pNz, pIw, rState, rTakes (m := m), zLf, p_sub0]
    rw [if_neg (by omega)]
    by_cases c : nw j = 6 <;> by_cases c2 : nw (32 + j) = nI h <;> by_cases c3 : nI j = out <;> simp [c, c2, c3]
  · show FL_X10_leftOf_46 (nI m) ru td nw (nI h) out (n + 1) a (nI m) = _
    simp (disch := omega) only [FL_X10_leftOf_46, pIx, pCl, pLe, pLt, pEq, pNm, pS1, pA0, pA8, pA16, pA24, pA32, pA40, pA48, pA56, pA64, pA72, pA80, pA88, pBs, pE8, pb0, pb1, pbo, if_true, if_false, pIy, pbq, pNz, pIw]
    rw [if_pos (Nat.le_refl m)]; rfl
theorem rLeft {m : Nat} {ru td nw : Nat → Int32} {h : Nat} {out : Int32} (hm : m ≤ 8) (hh : h ≤ 8) (hub : h = 8 ∨ (h < m ∧ ∃ c, c ≤ 8 ∧ nz nw (32 + h) = nI c)) : F_X10_leftOf (nI m) ru td nw (nI h) out = some (if h = 8 ∨ nz nw (72 + h) = 1 then 1000000 else zLeft m ru (tT m td) (nz nw) h out) := by
  unfold F_X10_leftOf
  by_cases c8 : h = 8
  · simp (disch := omega) only [pIx, pCl, pLe, pLt, pEq, pNm, pS1, pA0, pA8, pA16, pA24, pA32, pA40, pA48, pA56, pA64, pA72, pA80, pA88, pBs, pE8, pb0, pb1, pbo, if_true, if_false, pIy, pbq, pNz, pIw]; simp [c8]
  · rcases hub with hub | ⟨hm', c, hc, e⟩
    · exact absurd hub c8
    · have e' : nw (32 + h) = nI c := by rw [← e, pNz (by omega)]
      simp (disch := omega) only [pIx, pCl, pLe, pLt, pEq, pNm, pS1, pA0, pA8, pA16, pA24, pA32, pA40, pA48, pA56, pA64, pA72, pA80, pA88, pBs, pE8, pb0, pb1, pbo, if_true, if_false, pIy, pbq, pNz, pIw, e', rGives, rTold2 (m := m), rLeftL hm hh]
      by_cases c2 : nw (72 + h) = 1
      · simp [c8, c2]
      · simp [c8, c2, zLeft, e]
def zAwk (N : Nat → Int32) (d : Nat) : Bool := decide (N d = 6) && !decide (N (88 + d) = 1)
theorem rAwake {nw : Nat → Int32} {d : Nat} (h : d < 8) : F_X10_isAwake nw (nI d) = some (pb (zAwk (nz nw) d)) := by
  unfold F_X10_isAwake zAwk; simp (disch := omega) only [pIx, pCl, pLe, pLt, pEq, pNm, pS1, pA0, pA8, pA16, pA24, pA32, pA40, pA48, pA56, pA64, pA72, pA80, pA88, pBs, pE8, pb0, pb1, pbo, if_true, if_false, pIy, pbq, pNz, pIw, rState, rAsleep, zSlp_d]
  by_cases c : nw d = 6 <;> by_cases c2 : nw (88 + d) = 1 <;> simp [c, c2, pb]
/-- who runs is not away -/
def wQ (m : Nat) (N : Nat → Int32) : Prop := ∀ d, d < m → N (48 + d) ≠ -1 → N d ≠ 0
def zHf (T : Nat → Nat → Int32) (N : Nat → Int32) (z : Int32) (d : Nat) (a : Int32) : Int32 := if zAwk N d = true ∧ zHlp N d = z then a + T d 4 * (if N (48 + d) = 0 then 8 else 2) else a
def zHelp (m : Nat) (T : Nat → Nat → Int32) (N : Nat → Int32) (z : Int32) : Int32 := pF (zHf T N z) m 0 0
theorem rHelpL {m : Nat} {td nw : Nat → Int32} {r : Nat → Nat} {z : Int32} (hm : m ≤ 8) (hw : wR m (nz nw) r) (hq : wQ m (nz nw)) : FL_X10_helpOf_4 (nI m) td nw z 1000 0 0 = some (pF (zHf (tT m td) (nz nw) z) m 0 0) := by
  refine pLoop0 (L := fun n i a => FL_X10_helpOf_4 (nI m) td nw z n a i) (fin := id) (fun n j a hj => ?_) (fun n a => ?_) 1000 _ (by omega)
  · show FL_X10_helpOf_4 (nI m) td nw z (n + 1) a (nI j) = _
    simp (disch := omega) only [FL_X10_helpOf_4, pIx, pCl, pLe, pLt, pEq, pNm, pS1, pA0, pA8, pA16, pA24, pA32, pA40, pA48, pA56, pA64, pA72, pA80, pA88, pBs, pE8, pb0, pb1, pbo, if_true, if_false, pIy, pbq, pNz, pIw, rAwake, rTold4 (m := m), zHf, rHelper hm hw hj (hq j hj)]
    rw [if_neg (by omega)]
    by_cases c : zAwk (nz nw) j = true <;> by_cases c2 : zHlp (nz nw) j = z <;> by_cases c3 : nw (48 + j) = 0 <;> simp [c, c2, c3]
  · show FL_X10_helpOf_4 (nI m) td nw z (n + 1) a (nI m) = _
    simp (disch := omega) only [FL_X10_helpOf_4, pIx, pCl, pLe, pLt, pEq, pNm, pS1, pA0, pA8, pA16, pA24, pA32, pA40, pA48, pA56, pA64, pA72, pA80, pA88, pBs, pE8, pb0, pb1, pbo, if_true, if_false, pIy, pbq, pNz, pIw]
    rw [if_pos (Nat.le_refl m)]; rfl
theorem rHelp {m : Nat} {td nw : Nat → Int32} {r : Nat → Nat} {z : Int32} (hm : m ≤ 8) (hw : wR m (nz nw) r) (hq : wQ m (nz nw)) : F_X10_helpOf (nI m) td nw z = some (zHelp m (tT m td) (nz nw) z) := rHelpL hm hw hq
def zBf (T : Nat → Nat → Int32) (N : Nat → Int32) (d : Nat) (a : Int32) : Int32 := if zAwk N d = true then a + (T d 4 + (if zHlp N d = -1 ∨ T d 4 ≤ 0 then 0 else 4)) else a
def zBus (m : Nat) (T : Nat → Nat → Int32) (N : Nat → Int32) : Int32 := pF (zBf T N) m 0 0
theorem rBusL {m : Nat} {td nw : Nat → Int32} {r : Nat → Nat} (hm : m ≤ 8) (hw : wR m (nz nw) r) (hq : wQ m (nz nw)) : FL_X10_busOfAll_4 (nI m) td nw 1000 0 0 = some (pF (zBf (tT m td) (nz nw)) m 0 0) := by
  refine pLoop0 (L := fun n i a => FL_X10_busOfAll_4 (nI m) td nw n a i) (fin := id) (fun n j a hj => ?_) (fun n a => ?_) 1000 _ (by omega)
  · show FL_X10_busOfAll_4 (nI m) td nw (n + 1) a (nI j) = _
    simp (disch := omega) only [FL_X10_busOfAll_4, pIx, pCl, pLe, pLt, pEq, pNm, pS1, pA0, pA8, pA16, pA24, pA32, pA40, pA48, pA56, pA64, pA72, pA80, pA88, pBs, pE8, pb0, pb1, pbo, if_true, if_false, pIy, pbq, pNz, pIw, rAwake, rTold4 (m := m), zBf, rHelper hm hw hj (hq j hj)]
    rw [if_neg (by omega)]
    by_cases c : zAwk (nz nw) j = true <;> by_cases c2 : zHlp (nz nw) j = -1 <;> by_cases c3 : tT m td j 4 ≤ 0 <;> simp [c, c2, c3]
  · show FL_X10_busOfAll_4 (nI m) td nw (n + 1) a (nI m) = _
    simp (disch := omega) only [FL_X10_busOfAll_4, pIx, pCl, pLe, pLt, pEq, pNm, pS1, pA0, pA8, pA16, pA24, pA32, pA40, pA48, pA56, pA64, pA72, pA80, pA88, pBs, pE8, pb0, pb1, pbo, if_true, if_false, pIy, pbq, pNz, pIw]
    rw [if_pos (Nat.le_refl m)]; rfl
theorem rBus {m : Nat} {td nw : Nat → Int32} {r : Nat → Nat} (hm : m ≤ 8) (hw : wR m (nz nw) r) (hq : wQ m (nz nw)) : F_X10_busOfAll (nI m) td nw = some (zBus m (tT m td) (nz nw)) := rBusL hm hw hq
def zTime (m : Nat) (R : Nat → Int32) (T : Nat → Nat → Int32) (N : Nat → Int32) (d : Nat) : Bool := !decide (R 5 < zBus m T N) && (decide (zHlp N d = -1) || !decide (R 6 < zHelp m T N (zHlp N d)))
theorem rTime {m : Nat} {ru td nw : Nat → Int32} {r : Nat → Nat} {d : Nat} (hm : m ≤ 8) (hw : wR m (nz nw) r) (hq : wQ m (nz nw)) (hd : d < m) : F_X10_hasTime (nI m) ru td nw (nI d) = some (pb (zTime m ru (tT m td) (nz nw) d)) := by
  unfold F_X10_hasTime zTime
  simp only [rHelper hm hw hd (hq d hd), rBus hm hw hq, rHelp hm hw hq, pBs]
  by_cases c : ru 5 < zBus m (tT m td) (nz nw) <;> by_cases c2 : zHlp (nz nw) d = -1 <;> by_cases c3 : ru 6 < zHelp m (tT m td) (nz nw) (zHlp (nz nw) d) <;> simp [c, c2, c3, pb]
def zWho (m : Nat) (N : Nat → Int32) (z : Int32) : Int32 := pFd (fun d => decide (N d = 6) && decide (N (56 + d) = z)) m 0
theorem rWho_ {m : Nat} {nw : Nat → Int32} {z : Int32} (hm : m ≤ 8) : F_X10_whoHas (nI m) nw z = some (pFd (fun d => decide (nz nw d = 6) && decide (nz nw (56 + d) = z)) m 0) := by
  unfold F_X10_whoHas
  refine pFind (m := m) (L := fun n i => FL_X10_whoHas_2 (nI m) nw z n i) (p := (fun d => decide (nz nw d = 6) && decide (nz nw (56 + d) = z))) (r := fun j => nI j) (e := -1) id (fun _ _ => rfl) rfl (fun n j hj => ?_) (fun n => ?_) m 1000 0 (by omega) (by omega)
  · show FL_X10_whoHas_2 (nI m) nw z (n + 1) (nI j) = _
    simp (disch := omega) only [FL_X10_whoHas_2, pIx, pCl, pLe, pLt, pEq, pNm, pS1, pA0, pA8, pA16, pA24, pA32, pA40, pA48, pA56, pA64, pA72, pA80, pA88, pBs, pE8, pb0, pb1, pbo, if_true, if_false, pIy, pbq, pNz, pIw, rState]
    rw [if_neg (by omega)]
    by_cases c : nw j = 6 <;> by_cases c2 : nw (56 + j) = z <;> simp [c, c2]
  · show FL_X10_whoHas_2 (nI m) nw z (n + 1) (nI m) = _
    simp (disch := omega) only [FL_X10_whoHas_2, pIx, pCl, pLe, pLt, pEq, pNm, pS1, pA0, pA8, pA16, pA24, pA32, pA40, pA48, pA56, pA64, pA72, pA80, pA88, pBs, pE8, pb0, pb1, pbo, if_true, if_false, pIy, pbq, pNz, pIw]
    rw [if_pos (Nat.le_refl m)]
theorem rWho {m : Nat} {nw : Nat → Int32} {z : Int32} (hm : m ≤ 8) : F_X10_whoHas (nI m) nw z = some (zWho m (nz nw) z) := rWho_ hm
def zAddr (m t : Nat) (N : Nat → Int32) : Int32 := pFd (fun a => decide (zWho m N (nI a) = -1)) t 1
theorem rAddr {m t : Nat} {ru nw : Nat → Int32} (hm : m ≤ 8) (ht : t ≤ 200) (h7 : ru 7 = nI t) : F_X10_freeAddress (nI m) ru nw = some (zAddr m t (nz nw)) := by
  unfold F_X10_freeAddress
  refine pFind (m := t + 1) (L := fun n i => FL_X10_freeAddress_2 (nI m) ru nw n i) (p := fun a => decide (zWho m (nz nw) (nI a) = -1)) (r := fun j => nI j) (e := -1) id (fun _ _ => rfl) rfl (fun n j hj => ?_) (fun n => ?_) t 1000 1 (by omega) (by omega)
  · show FL_X10_freeAddress_2 (nI m) ru nw (n + 1) (nI j) = _
    simp (disch := omega) only [FL_X10_freeAddress_2, pIx, pCl, pLe, pLt, pEq, pNm, pS1, pA0, pA8, pA16, pA24, pA32, pA40, pA48, pA56, pA64, pA72, pA80, pA88, pBs, pE8, pb0, pb1, pbo, if_true, if_false, pIy, pbq, pNz, pIw, h7, rWho hm]
    rw [if_neg (by omega)]
    by_cases c : zWho m (nz nw) (nI j) = -1 <;> simp [c]
  · show FL_X10_freeAddress_2 (nI m) ru nw (n + 1) (nI (t + 1)) = _
    simp (disch := omega) only [FL_X10_freeAddress_2, pIx, pCl, pLe, pLt, pEq, pNm, pS1, pA0, pA8, pA16, pA24, pA32, pA40, pA48, pA56, pA64, pA72, pA80, pA88, pBs, pE8, pb0, pb1, pbo, if_true, if_false, pIy, pbq, pNz, pIw, h7]
    rw [if_pos (by omega)]
def zBsy (N : Nat → Int32) (d : Nat) : Bool := !decide (N d < 3) && !decide (5 < N d)
theorem rBusy1 {nw : Nat → Int32} {d : Nat} (h : d < 8) : F_X10_isBusy nw (nI d) = some (pb (zBsy (nz nw) d)) := by
  unfold F_X10_isBusy zBsy; simp (disch := omega) only [pIx, pCl, pLe, pLt, pEq, pNm, pS1, pA0, pA8, pA16, pA24, pA32, pA40, pA48, pA56, pA64, pA72, pA80, pA88, pBs, pE8, pb0, pb1, pbo, if_true, if_false, pIy, pbq, pNz, pIw, rState, rIn]
theorem rBusy {m : Nat} {nw : Nat → Int32} (hm : m ≤ 8) : F_X10_busy (nI m) nw = some (pFd (zBsy (nz nw)) m 0) := by
  unfold F_X10_busy
  refine pFind (m := m) (L := fun n i => FL_X10_busy_2 (nI m) nw n i) (p := (zBsy (nz nw))) (r := fun j => nI j) (e := -1) id (fun _ _ => rfl) rfl (fun n j hj => ?_) (fun n => ?_) m 1000 0 (by omega) (by omega)
  · show FL_X10_busy_2 (nI m) nw (n + 1) (nI j) = _
    simp (disch := omega) only [FL_X10_busy_2, pIx, pCl, pLe, pLt, pEq, pNm, pS1, pA0, pA8, pA16, pA24, pA32, pA40, pA48, pA56, pA64, pA72, pA80, pA88, pBs, pE8, pb0, pb1, pbo, if_true, if_false, pIy, pbq, pNz, pIw, rBusy1]
    rw [if_neg (by omega)]
    by_cases c : zBsy (nz nw) j = true <;> simp [c]
  · show FL_X10_busy_2 (nI m) nw (n + 1) (nI m) = _
    simp (disch := omega) only [FL_X10_busy_2, pIx, pCl, pLe, pLt, pEq, pNm, pS1, pA0, pA8, pA16, pA24, pA32, pA40, pA48, pA56, pA64, pA72, pA80, pA88, pBs, pE8, pb0, pb1, pbo, if_true, if_false, pIy, pbq, pNz, pIw]
    rw [if_pos (Nat.le_refl m)]
def wB (m : Nat) (b : Int32) : Prop := b = -1 ∨ ∃ e, e < m ∧ b = nI e
def zGf (T : Nat → Nat → Int32) (N : Nat → Int32) (z : Int32) (d : Nat) (b : Int32) : Int32 := if N d = 6 ∧ N (32 + d) = z then (if b = -1 then nI d else if zTakes T N d < zTakes T N b.toNatClampNeg then b else nI d) else b
def zGrd (m : Nat) (T : Nat → Nat → Int32) (N : Nat → Int32) (z : Int32) : Int32 := pF (zGf T N z) m 0 (-1)
theorem rGreed {m : Nat} {td nw : Nat → Int32} {z : Int32} (hm : m ≤ 8) : F_X10_greediest (nI m) td nw z = some (zGrd m (tT m td) (nz nw) z) ∧ wB m (zGrd m (tT m td) (nz nw) z) := by
  unfold F_X10_greediest
  refine pLoop (m := m) (L := fun n i a => FL_X10_greediest_4 (nI m) td nw z n a i) (g := zGf (tT m td) (nz nw) z) (fin := id) (fun j b => wB m b) (fun n j b hj hb => ?_) (fun n b hb => ?_) m 1000 0 (-1) (by omega) (by omega) (Or.inl rfl)
  · refine ⟨?_, ?_⟩
    · show FL_X10_greediest_4 (nI m) td nw z (n + 1) b (nI j) = _
      rcases hb with rfl | ⟨e, he, rfl⟩
      · simp (disch := omega) only [FL_X10_greediest_4, pIx, pCl, pLe, pLt, pEq, pNm, pS1, pA0, pA8, pA16, pA24, pA32, pA40, pA48, pA56, pA64, pA72, pA80, pA88, pBs, pE8, pb0, pb1, pbo, if_true, if_false, pIy, pbq, pNz, pIw, rState, rTakes (m := m), zGf]
        rw [if_neg (by omega)]
        by_cases c : nw j = 6 <;> by_cases c2 : nw (32 + j) = z <;> simp [c, c2]
      · simp (disch := omega) only [FL_X10_greediest_4, pIx, pCl, pLe, pLt, pEq, pNm, pS1, pA0, pA8, pA16, pA24, pA32, pA40, pA48, pA56, pA64, pA72, pA80, pA88, pBs, pE8, pb0, pb1, pbo, if_true, if_false, pIy, pbq, pNz, pIw, rState, rTakes (m := m), zGf]
        rw [if_neg (by omega)]
        by_cases c : nw j = 6 <;> by_cases c2 : nw (32 + j) = z <;> by_cases c3 : zTakes (tT m td) (nz nw) j < zTakes (tT m td) (nz nw) e <;> simp [c, c2, c3]
    · unfold zGf
      by_cases c : nz nw j = 6 ∧ nz nw (32 + j) = z
      · rw [if_pos c]
        by_cases c1 : b = -1
        · rw [if_pos c1]; exact Or.inr ⟨j, hj, rfl⟩
        · rw [if_neg c1]
          by_cases c3 : zTakes (tT m td) (nz nw) j < zTakes (tT m td) (nz nw) b.toNatClampNeg
          · rw [if_pos c3]; exact hb
          · rw [if_neg c3]; exact Or.inr ⟨j, hj, rfl⟩
      · rw [if_neg c]; exact hb
  · show FL_X10_greediest_4 (nI m) td nw z (n + 1) b (nI m) = _
    simp (disch := omega) only [FL_X10_greediest_4, pIx, pCl, pLe, pLt, pEq, pNm, pS1, pA0, pA8, pA16, pA24, pA32, pA40, pA48, pA56, pA64, pA72, pA80, pA88, pBs, pE8, pb0, pb1, pbo, if_true, if_false, pIy, pbq, pNz, pIw]
    rw [if_pos (Nat.le_refl m)]; rfl
def zNf (N : Nat → Int32) (d : Nat) (b : Int32) : Int32 := if N d = 2 ∧ (N (32 + d) = 8 ∨ N (N (32 + d)).toNatClampNeg = 6 ∧ ¬ N (88 + (N (32 + d)).toNatClampNeg) = 1) then (if b = -1 then nI d else if N (16 + b.toNatClampNeg) ≤ N (16 + d) then b else nI d) else b
def zNext (m : Nat) (N : Nat → Int32) : Int32 := pF (zNf N) m 0 (-1)
/-- of all that are not away the hub is one -/
def wH (m : Nat) (N : Nat → Int32) : Prop := ∀ d, d < m → N d ≠ 0 → ∃ c, c ≤ 8 ∧ N (32 + d) = nI c
theorem wR.h {m : Nat} {N : Nat → Int32} {r : Nat → Nat} (hm : m ≤ 8) (hw : wR m N r) : wH m N := fun d hd h => by
  obtain ⟨_, c, h1, h2⟩ := hw d hd h
  exact ⟨c, by rcases h2 with h2 | ⟨h2, _, _⟩ <;> omega, h1⟩
theorem rNext {m : Nat} {nw : Nat → Int32} (hm : m ≤ 8) (hh : wH m (nz nw)) : F_X10_nextOne (nI m) nw = some (zNext m (nz nw)) ∧ wB m (zNext m (nz nw)) := by
  unfold F_X10_nextOne
  refine pLoop (m := m) (L := fun n i a => FL_X10_nextOne_4 (nI m) nw n a i) (g := zNf (nz nw)) (fin := id) (fun j b => wB m b) (fun n j b hj hb => ?_) (fun n b hb => ?_) m 1000 0 (-1) (by omega) (by omega) (Or.inl rfl)
  · refine ⟨?_, ?_⟩
    · show FL_X10_nextOne_4 (nI m) nw (n + 1) b (nI j) = _
      by_cases c : nw j = 2
      · obtain ⟨h, h1, h2⟩ := hh j hj (by rw [pNz (by omega), c]; decide)
        rw [pNz (by omega)] at h2
        rcases hb with rfl | ⟨e, he, rfl⟩
        · simp (disch := omega) only [FL_X10_nextOne_4, pIx, pCl, pLe, pLt, pEq, pNm, pS1, pA0, pA8, pA16, pA24, pA32, pA40, pA48, pA56, pA64, pA72, pA80, pA88, pBs, pE8, pb0, pb1, pbo, if_true, if_false, pIy, pbq, pNz, pIw, rState, zNf, c, h2, rRunning, rAsleep, zRun, zSlp]
          rw [if_neg (by omega)]
          by_cases c8 : h = 8 <;> by_cases c6 : nw h = 6 <;> by_cases c1 : nw (88 + h) = 1 <;> simp (disch := omega) [c8, c6, c1, pNz]
        · simp (disch := omega) only [FL_X10_nextOne_4, pIx, pCl, pLe, pLt, pEq, pNm, pS1, pA0, pA8, pA16, pA24, pA32, pA40, pA48, pA56, pA64, pA72, pA80, pA88, pBs, pE8, pb0, pb1, pbo, if_true, if_false, pIy, pbq, pNz, pIw, rState, zNf, c, h2, rRunning, rAsleep, zRun, zSlp]
          rw [if_neg (by omega)]
          by_cases c8 : h = 8 <;> by_cases c6 : nw h = 6 <;> by_cases c1 : nw (88 + h) = 1 <;> by_cases c9 : nw (16 + e) ≤ nw (16 + j) <;> simp (disch := omega) [c8, c6, c1, c9, pNz]
      · simp (disch := omega) only [FL_X10_nextOne_4, pIx, pCl, pLe, pLt, pEq, pNm, pS1, pA0, pA8, pA16, pA24, pA32, pA40, pA48, pA56, pA64, pA72, pA80, pA88, pBs, pE8, pb0, pb1, pbo, if_true, if_false, pIy, pbq, pNz, pIw, rState, zNf, c]
        rw [if_neg (by omega)]; simp
    · unfold zNf
      split
      · split
        · exact Or.inr ⟨j, hj, rfl⟩
        · split
          · exact hb
          · exact Or.inr ⟨j, hj, rfl⟩
      · exact hb
  · show FL_X10_nextOne_4 (nI m) nw (n + 1) b (nI m) = _
    simp (disch := omega) only [FL_X10_nextOne_4, pIx, pCl, pLe, pLt, pEq, pNm, pS1, pA0, pA8, pA16, pA24, pA32, pA40, pA48, pA56, pA64, pA72, pA80, pA88, pBs, pE8, pb0, pb1, pbo, if_true, if_false, pIy, pbq, pNz, pIw]
    rw [if_pos (Nat.le_refl m)]; rfl
theorem rHas {p : Nat → Bool} {m k : Nat} (hm : m ≤ 8) (hk : k < m) : F_X10_has (pSet p m) (nI k) = some (pb (p k)) := by
  unfold F_X10_has
  rw [pHas hm (by omega)]
  cases h : p k <;> simp [hk, pb]
def zRt (N : Nat → Int32) (z : Int32) (d : Nat) : Bool := !decide (N d = 0) && decide (N (32 + d) = z)
def zMp (R : Nat → Int32) (T : Nat → Nat → Int32) (N : Nat → Int32) (z : Int32) (d : Nat) : Bool := zRt N z d && decide (N d = 6) && !decide (zTakes T N d ≤ zGv R N z)
def zMuch (m : Nat) (R : Nat → Int32) (T : Nat → Nat → Int32) (N : Nat → Int32) (h : Nat) : Bool := !decide (pFd (zMp R T N (nI h)) m 0 = -1) || (!(decide (h = 8) || decide (N (72 + h) = 1)) && decide (zLeft m R T N h (-1) < 0))
theorem rMuch {m : Nat} {ru td nw : Nat → Int32} {h : Nat} (hm : m ≤ 8) (hh : h < m) (hub : ∃ c, c ≤ 8 ∧ nz nw (32 + h) = nI c) : F_X10_isTooMuch (nI m) ru td nw (nI h) = some (pb (zMuch m ru (tT m td) (nz nw) h)) := by
  unfold F_X10_isTooMuch
  rw [rRight hm, pBs]
  have e := pFind (m := m) (L := fun n i => FL_X10_isTooMuch_8 (nI m) ru td nw (nI h) n (pSet (fun d => !decide (nz nw d = 0) && decide (nz nw (32 + d) = nI h)) m) i) (p := zMp ru (tT m td) (nz nw) (nI h)) (r := fun j => 1) (e := pb (!(decide (h = 8) || decide (nz nw (72 + h) = 1)) && decide (zLeft m ru (tT m td) (nz nw) h (-1) < 0))) (fun x => if x = -1 then pb (!(decide (h = 8) || decide (nz nw (72 + h) = 1)) && decide (zLeft m ru (tT m td) (nz nw) h (-1) < 0)) else 1) (fun j hj => by simp (disch := omega) only [pNm, if_false]) (if_pos rfl) (fun n j hj => ?_) (fun n => ?_) m 1000 0 (by omega) (by omega)
  · refine e.trans ?_
    unfold zMuch
    by_cases c : pFd (zMp ru (tT m td) (nz nw) (nI h)) m 0 = -1 <;> simp [c, pb]
  · show FL_X10_isTooMuch_8 (nI m) ru td nw (nI h) (n + 1) _ (nI j) = _
    simp (disch := omega) only [FL_X10_isTooMuch_8, pIx, pCl, pLe, pLt, pEq, pNm, pS1, pA0, pA8, pA16, pA24, pA32, pA40, pA48, pA56, pA64, pA72, pA80, pA88, pBs, pE8, pb0, pb1, pbo, if_true, if_false, pIy, pbq, pNz, pIw, rHas hm hj, rState, rTakes (m := m), rGives, zMp, zRt]
    rw [if_neg (by omega)]
    by_cases c : nw j = 0 <;> by_cases c2 : nw (32 + j) = nI h <;> by_cases c3 : nw j = 6 <;> by_cases c4 : zTakes (tT m td) (nz nw) j ≤ zGv ru (nz nw) (nI h) <;> first | (simp [c, c2, c3, c4]; done) | simp_all
  · show FL_X10_isTooMuch_8 (nI m) ru td nw (nI h) (n + 1) _ (nI m) = _
    simp (disch := omega) only [FL_X10_isTooMuch_8, pIx, pCl, pLe, pLt, pEq, pNm, pS1, pA0, pA8, pA16, pA24, pA32, pA40, pA48, pA56, pA64, pA72, pA80, pA88, pBs, pE8, pb0, pb1, pbo, if_true, if_false, pIy, pbq, pNz, pIw, rLeft hm (by omega : h ≤ 8) (Or.inr ⟨hh, hub⟩)]
    rw [if_pos (Nat.le_refl m)]
    by_cases c : h = 8 ∨ nw (72 + h) = 1
    · rw [if_pos c]
      have : (decide (h = 8) || decide (nw (72 + h) = 1)) = true := by simpa using c
      simp [this, pb]
    · rw [if_neg c]
      have : (decide (h = 8) || decide (nw (72 + h) = 1)) = false := by simpa using c
      by_cases c0 : 0 ≤ zLeft m ru (tT m td) (nz nw) h (-1)
      · have c1 : ¬ zLeft m ru (tT m td) (nz nw) h (-1) < 0 := by rw [q_lt]; rw [q_le] at c0; omega
        simp [this, c0, c1, pb]
      · have c1 : zLeft m ru (tT m td) (nz nw) h (-1) < 0 := by rw [q_lt]; rw [q_le] at c0; omega
        simp [this, c0, c1, pb]
def zCp (N : Nat → Int32) (z : Int32) (d : Nat) : Bool := zRt N z d && (zBsy N d || zAwk N d)
def zCanFall (m : Nat) (N : Nat → Int32) (z : Int32) : Bool := decide (pFd (zCp N z) m 0 = -1)
theorem rCanFall {m : Nat} {nw : Nat → Int32} {z : Int32} (hm : m ≤ 8) : F_X10_canFall (nI m) nw z = some (pb (zCanFall m (nz nw) z)) := by
  unfold F_X10_canFall
  rw [rRight hm, pBs]
  have e := pFind (m := m) (L := fun n i => FL_X10_canFall_8 (nI m) nw z n (pSet (fun d => !decide (nz nw d = 0) && decide (nz nw (32 + d) = z)) m) i) (p := zCp (nz nw) z) (r := fun j => 0) (e := 1) (fun x => if x = -1 then 1 else 0) (fun j hj => by simp (disch := omega) only [pNm, if_false]) (if_pos rfl) (fun n j hj => ?_) (fun n => ?_) m 1000 0 (by omega) (by omega)
  · refine e.trans ?_
    unfold zCanFall
    by_cases c : pFd (zCp (nz nw) z) m 0 = -1 <;> simp [c, pb]
  · show FL_X10_canFall_8 (nI m) nw z (n + 1) _ (nI j) = _
    simp (disch := omega) only [FL_X10_canFall_8, pIx, pCl, pLe, pLt, pEq, pNm, pS1, pA0, pA8, pA16, pA24, pA32, pA40, pA48, pA56, pA64, pA72, pA80, pA88, pBs, pE8, pb0, pb1, pbo, if_true, if_false, pIy, pbq, pNz, pIw, rHas hm hj, rBusy1, rAwake, zCp, zRt]
    rw [if_neg (by omega)]
    by_cases c : nw j = 0 <;> by_cases c2 : nw (32 + j) = z <;> by_cases c3 : zBsy (nz nw) j = true <;> by_cases c4 : zAwk (nz nw) j = true <;> first | (simp [c, c2, c3, c4]; done) | simp_all
  · show FL_X10_canFall_8 (nI m) nw z (n + 1) _ (nI m) = _
    simp (disch := omega) only [FL_X10_canFall_8, pIx, pCl, pLe, pLt, pEq, pNm, pS1, pA0, pA8, pA16, pA24, pA32, pA40, pA48, pA56, pA64, pA72, pA80, pA88, pBs, pE8, pb0, pb1, pbo, if_true, if_false, pIy, pbq, pNz, pIw]
    rw [if_pos (Nat.le_refl m)]
