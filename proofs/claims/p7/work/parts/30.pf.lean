/-! the program's readers of the bus -/
def tP (m : Nat) (fp : Nat → Int32) (d k : Nat) : Int32 := if d < m ∧ k < 6 then fp (8 * k + d) else 0
theorem tP0 {m : Nat} {fp : Nat → Int32} {d : Nat} (hm : m ≤ 8) (h : d < m) : tP m fp d 0 = fp d := by unfold tP; rw [if_pos ⟨h, by decide⟩, Nat.mul_zero, Nat.zero_add]
theorem tP1 {m : Nat} {fp : Nat → Int32} {d : Nat} (hm : m ≤ 8) (h : d < m) : tP m fp d 1 = fp (8 + d) := if_pos ⟨h, by decide⟩
theorem tP2 {m : Nat} {fp : Nat → Int32} {d : Nat} (hm : m ≤ 8) (h : d < m) : tP m fp d 2 = fp (16 + d) := if_pos ⟨h, by decide⟩
theorem tP3 {m : Nat} {fp : Nat → Int32} {d : Nat} (hm : m ≤ 8) (h : d < m) : tP m fp d 3 = fp (24 + d) := if_pos ⟨h, by decide⟩
theorem tP4 {m : Nat} {fp : Nat → Int32} {d : Nat} (hm : m ≤ 8) (h : d < m) : tP m fp d 4 = fp (32 + d) := if_pos ⟨h, by decide⟩
theorem tP5 {m : Nat} {fp : Nat → Int32} {d : Nat} (hm : m ≤ 8) (h : d < m) : tP m fp d 5 = fp (40 + d) := if_pos ⟨h, by decide⟩
theorem pX3 (x : Int32) : x < 0 ∨ 8 ≤ x ∨ ∃ c, c < 8 ∧ x = nI c := by
  by_cases h : x < 0
  · exact Or.inl h
  · obtain ⟨j, hj, rfl⟩ := nI_of h
    by_cases h8 : 8 ≤ j
    · exact Or.inr (Or.inl ((p8Le (by omega)).mpr h8))
    · exact Or.inr (Or.inr ⟨j, by omega, rfl⟩)
theorem cTold {m : Nat} (hm : m ≤ 8) : F_X5_isTold (nI m) = some (pb (decide (0 < m))) := by
  unfold F_X5_isTold
  simp (disch := omega) only [pLe0]
  by_cases c : 0 < m
  · rw [if_neg (by omega)]; simp [c, pb]
  · rw [if_pos (by omega)]; simp [c, pb]
theorem cHas {m : Nat} {z : Int32} (hm : m ≤ 8) : F_X5_has (nI m) z = some (pb (zDev m z)) := by
  unfold F_X5_has
  by_cases c : z < 0
  · have : zDev m z = false := by unfold zDev; simp [c]
    rw [if_pos c, this]; rfl
  · obtain ⟨j, hj, rfl⟩ := nI_of c
    rw [zDev_nI hm hj, if_neg c]
    simp (disch := omega) only [pLe]
    by_cases c2 : j < m
    · rw [if_neg (by omega)]; simp [c2, pb]
    · rw [if_pos (by omega)]; simp [c2, pb]
theorem cIs {m : Nat} {fr fu fp : Nat → Int32} {c : Nat} {e : Int32} (h : c ≤ 8) : F_X0_is fr (nI m) fu fp (nI c) e = some (pb (!decide (c = 8) && decide (nz fr c = e))) := by
  unfold F_X0_is
  by_cases c8 : c = 8
  · subst c8
    simp [show ¬ nI 8 < 0 from by decide, show (8 : Int32) ≤ nI 8 from by decide, pb]
  · simp (disch := omega) only [pIx, pCl, pLe, pLt, pEq, pNm, pS1, pA0, pA8, pA16, pA24, pA32, pA40, pA48, pA56, pA64, pA72, pA80, pA88, pBs, pE8, pb0, pb1, pbo, if_true, if_false, pIy, pbq, pNz, pIw, pLt0, p8Le]
    rw [if_neg (by omega)]
    by_cases c2 : fr c = e <;> simp [c8, c2, pb]
theorem cIsm {m : Nat} {fr fu fp : Nat → Int32} {e : Int32} : F_X0_is fr (nI m) fu fp (-1) e = some (pb false) := rfl
theorem cAsleep {m : Nat} {fr fu fp : Nat → Int32} {c : Nat} (h : c ≤ 8) : F_X0_isAsleep fr (nI m) fu fp (nI c) = some (pb (zSlp (nz fr) c)) := by
  unfold F_X0_isAsleep zSlp
  by_cases c8 : c = 8
  · subst c8
    simp [show ¬ nI 8 < 0 from by decide, show (8 : Int32) ≤ nI 8 from by decide, pb]
  · simp (disch := omega) only [pIx, pCl, pLe, pLt, pEq, pNm, pS1, pA0, pA8, pA16, pA24, pA32, pA40, pA48, pA56, pA64, pA72, pA80, pA88, pBs, pE8, pb0, pb1, pbo, if_true, if_false, pIy, pbq, pNz, pIw, pLt0, p8Le]
    rw [if_neg (by omega)]
    by_cases c2 : fr (88 + c) = 1 <;> simp [c8, c2, pb]
/-- asleep is 0 or 1 -/
def wS (m : Nat) (N : Nat → Int32) : Prop := ∀ d, d < m → N (88 + d) = 0 ∨ N (88 + d) = 1
theorem cAwake {m : Nat} {fr fu fp : Nat → Int32} {d : Nat} (h : d < 8) (hs : nz fr (88 + d) = 0 ∨ nz fr (88 + d) = 1) : F_X0_isAwake fr (nI m) fu fp (nI d) = some (pb (zAwk (nz fr) d)) := by
  rw [pNz (by omega)] at hs
  unfold F_X0_isAwake zAwk; simp (disch := omega) only [pIx, pCl, pLe, pLt, pEq, pNm, pS1, pA0, pA8, pA16, pA24, pA32, pA40, pA48, pA56, pA64, pA72, pA80, pA88, pBs, pE8, pb0, pb1, pbo, if_true, if_false, pIy, pbq, pNz, pIw]
  rcases hs with hs | hs <;> by_cases c : fr d = 6 <;> simp [c, hs, pb]
theorem cStand1 {m : Nat} {fr fu fp : Nat → Int32} {d : Nat} (h : d < 8) : F_X0_isStanding fr (nI m) fu fp (nI d) = some (pb (zBsy (nz fr) d)) := by
  unfold F_X0_isStanding zBsy; simp (disch := omega) only [pIx, pCl, pLe, pLt, pEq, pNm, pS1, pA0, pA8, pA16, pA24, pA32, pA40, pA48, pA56, pA64, pA72, pA80, pA88, pBs, pE8, pb0, pb1, pbo, if_true, if_false, pIy, pbq, pNz, pIw]
  by_cases c : fr d < 3 <;> by_cases c2 : 5 < fr d <;> simp [c, c2, pb]
theorem cAll {m : Nat} {fr fu fp : Nat → Int32} {e : Int32} (hm : m ≤ 8) : F_X0_allThatAre fr (nI m) fu fp e = some (pSet (fun d => decide (nz fr d = e)) m) := by
  unfold F_X0_allThatAre
  refine pLoop0 (L := fun n i a => FL_X0_allThatAre_4 fr (nI m) fu fp e n a i) (fin := id) (fun n j a hj => ?_) (fun n a => ?_) 1000 0 (by omega)
  · show FL_X0_allThatAre_4 fr (nI m) fu fp e (n + 1) a (nI j) = _
    simp (disch := omega) only [FL_X0_allThatAre_4, pIx, pCl, pLe, pLt, pEq, pNm, pS1, pA0, pA8, pA16, pA24, pA32, pA40, pA48, pA56, pA64, pA72, pA80, pA88, pBs, pE8, pb0, pb1, pbo, if_true, if_false, pIy, pbq, pNz, pIw, pSb]
    rw [if_neg (by omega)]
    by_cases c : fr j = e <;> simp [c]
  · show FL_X0_allThatAre_4 fr (nI m) fu fp e (n + 1) a (nI m) = _
    simp (disch := omega) only [FL_X0_allThatAre_4, pIx, pCl, pLe, pLt, pEq, pNm, pS1, pA0, pA8, pA16, pA24, pA32, pA40, pA48, pA56, pA64, pA72, pA80, pA88, pBs, pE8, pb0, pb1, pbo, if_true, if_false, pIy, pbq, pNz, pIw]
    rw [if_pos (Nat.le_refl m)]; rfl
theorem cRunning {m : Nat} {fr fu fp : Nat → Int32} (hm : m ≤ 8) : F_X0_running fr (nI m) fu fp = some (nI (pNum (fun d => decide (nz fr d = 6)) m)) := by
  unfold F_X0_running; rw [cAll hm, pBs, pCount hm, pBs]
theorem cStanding {m : Nat} {fr fu fp : Nat → Int32} (hm : m ≤ 8) : F_X0_standing fr (nI m) fu fp = some (pFd (zBsy (nz fr)) m 0) := by
  unfold F_X0_standing
  refine pFind (m := m) (L := fun n i => FL_X0_standing_2 fr (nI m) fu fp n i) (p := (zBsy (nz fr))) (r := fun j => nI j) (e := -1) id (fun _ _ => rfl) rfl (fun n j hj => ?_) (fun n => ?_) m 1000 0 (by omega) (by omega)
  · show FL_X0_standing_2 fr (nI m) fu fp (n + 1) (nI j) = _
    simp (disch := omega) only [FL_X0_standing_2, pIx, pCl, pLe, pLt, pEq, pNm, pS1, pA0, pA8, pA16, pA24, pA32, pA40, pA48, pA56, pA64, pA72, pA80, pA88, pBs, pE8, pb0, pb1, pbo, if_true, if_false, pIy, pbq, pNz, pIw, cStand1]
    rw [if_neg (by omega)]
    by_cases c : zBsy (nz fr) j = true <;> simp [c]
  · show FL_X0_standing_2 fr (nI m) fu fp (n + 1) (nI m) = _
    simp (disch := omega) only [FL_X0_standing_2, pIx, pCl, pLe, pLt, pEq, pNm, pS1, pA0, pA8, pA16, pA24, pA32, pA40, pA48, pA56, pA64, pA72, pA80, pA88, pBs, pE8, pb0, pb1, pbo, if_true, if_false, pIy, pbq, pNz, pIw]
    rw [if_pos (Nat.le_refl m)]
theorem cPlugged_ {m : Nat} {fr fu fp : Nat → Int32} {z z2 : Int32} (hm : m ≤ 8) : F_X0_pluggedInto fr (nI m) fu fp z z2 = some (pFd (fun d => decide (nz fr (32 + d) = z) && decide (nz fr (40 + d) = z2)) m 0) := by
  unfold F_X0_pluggedInto
  refine pFind (m := m) (L := fun n i => FL_X0_pluggedInto_2 fr (nI m) fu fp z z2 n i) (p := (fun d => decide (nz fr (32 + d) = z) && decide (nz fr (40 + d) = z2))) (r := fun j => nI j) (e := -1) id (fun _ _ => rfl) rfl (fun n j hj => ?_) (fun n => ?_) m 1000 0 (by omega) (by omega)
  · show FL_X0_pluggedInto_2 fr (nI m) fu fp z z2 (n + 1) (nI j) = _
    simp (disch := omega) only [FL_X0_pluggedInto_2, pIx, pCl, pLe, pLt, pEq, pNm, pS1, pA0, pA8, pA16, pA24, pA32, pA40, pA48, pA56, pA64, pA72, pA80, pA88, pBs, pE8, pb0, pb1, pbo, if_true, if_false, pIy, pbq, pNz, pIw]
    rw [if_neg (by omega)]
    by_cases c2 : fr (32 + j) = z <;> by_cases c3 : fr (40 + j) = z2 <;> simp [c2, c3]
  · show FL_X0_pluggedInto_2 fr (nI m) fu fp z z2 (n + 1) (nI m) = _
    simp (disch := omega) only [FL_X0_pluggedInto_2, pIx, pCl, pLe, pLt, pEq, pNm, pS1, pA0, pA8, pA16, pA24, pA32, pA40, pA48, pA56, pA64, pA72, pA80, pA88, pBs, pE8, pb0, pb1, pbo, if_true, if_false, pIy, pbq, pNz, pIw]
    rw [if_pos (Nat.le_refl m)]
theorem cPlugged {m : Nat} {fr fu fp : Nat → Int32} {z z2 : Int32} (hm : m ≤ 8) (hf : wF m (nz fr)) (hz : z ≠ -1) : F_X0_pluggedInto fr (nI m) fu fp z z2 = some (pFd (fun d => !decide (nz fr d = 0) && decide (nz fr (32 + d) = z) && decide (nz fr (40 + d) = z2)) m 0) := by
  rw [cPlugged_ hm]; congr 1
  refine pFd_congr m 0 (fun i _ h => ?_)
  by_cases c : nz fr i = 0
  · have e := hf i (by omega) c
    have : ¬ nz fr (32 + i) = z := by rw [e]; exact fun h => hz h.symm
    simp [this]
  · simp [c]
theorem cRight_ {m : Nat} {fr fu fp : Nat → Int32} {z : Int32} (hm : m ≤ 8) : F_X0_rightAt fr (nI m) fu fp z = some (pSet (fun d => decide (nz fr (32 + d) = z)) m) := by
  unfold F_X0_rightAt
  refine pLoop0 (L := fun n i a => FL_X0_rightAt_4 fr (nI m) fu fp z n a i) (fin := id) (fun n j a hj => ?_) (fun n a => ?_) 1000 0 (by omega)
  · show FL_X0_rightAt_4 fr (nI m) fu fp z (n + 1) a (nI j) = _
    simp (disch := omega) only [FL_X0_rightAt_4, pIx, pCl, pLe, pLt, pEq, pNm, pS1, pA0, pA8, pA16, pA24, pA32, pA40, pA48, pA56, pA64, pA72, pA80, pA88, pBs, pE8, pb0, pb1, pbo, if_true, if_false, pIy, pbq, pNz, pIw, pSb]
    rw [if_neg (by omega)]
    by_cases c2 : fr (32 + j) = z <;> simp [c2]
  · show FL_X0_rightAt_4 fr (nI m) fu fp z (n + 1) a (nI m) = _
    simp (disch := omega) only [FL_X0_rightAt_4, pIx, pCl, pLe, pLt, pEq, pNm, pS1, pA0, pA8, pA16, pA24, pA32, pA40, pA48, pA56, pA64, pA72, pA80, pA88, pBs, pE8, pb0, pb1, pbo, if_true, if_false, pIy, pbq, pNz, pIw]
    rw [if_pos (Nat.le_refl m)]; rfl
theorem cRight {m : Nat} {fr fu fp : Nat → Int32} {z : Int32} (hm : m ≤ 8) (hf : wF m (nz fr)) (hz : z ≠ -1) : F_X0_rightAt fr (nI m) fu fp z = some (pSet (fun d => !decide (nz fr d = 0) && decide (nz fr (32 + d) = z)) m) := by
  rw [cRight_ hm]; congr 1
  refine pSet_congr (fun i h => ?_)
  by_cases c : nz fr i = 0
  · have e := hf i (by omega) c
    have : ¬ nz fr (32 + i) = z := by rw [e]; exact fun h => hz h.symm
    simp [this]
  · simp [c]
theorem cHangL {m : Nat} {fr fu fp : Nat → Int32} {y z : Int32} : ∀ (k n j : Nat) (x : Int32), j + k = 8 → k < n → FL_X0_hangsOn_13 fr (nI m) fu fp y z n x (nI j) = some (pb (decide (zCl (nz fr) (fun h => decide (h = z)) k x = z)))
  | _, 0, j, x, hj, hn => absurd hn (by omega)
  | 0, n + 1, j, x, hj, hn => by
    obtain rfl : j = 8 := by omega
    simp only [FL_X0_hangsOn_13, zCl]
    rw [if_pos (by decide)]
    exact pbi
  | k + 1, n + 1, j, x, hj, hn => by
    simp (disch := omega) only [FL_X0_hangsOn_13, zCl, pIx, pCl, pLe, pLt, pEq, pNm, pS1, pA0, pA8, pA16, pA24, pA32, pA40, pA48, pA56, pA64, pA72, pA80, pA88, pBs, pE8, pb0, pb1, pbo, if_true, if_false, pIy, pbq, pNz, pIw, p8Le]
    rw [if_neg (by omega)]
    rcases pX3 x with c | c | ⟨c, hc, rfl⟩
    · by_cases e : x = z <;> simp [c, e, pb]
    · by_cases c0 : x < 0
      · by_cases e : x = z <;> simp [c0, e, pb]
      · by_cases e : x = z <;> simp [c, c0, e, pb]
    · have ih := cHangL (m := m) (fr := fr) (fu := fu) (fp := fp) (y := y) (z := z) k n (j + 1) (fr (32 + c)) (by omega) (by omega)
      simp (disch := omega) only [pIx, pCl, pLe, pLt, pEq, pNm, pS1, pA0, pA8, pA16, pA24, pA32, pA40, pA48, pA56, pA64, pA72, pA80, pA88, pBs, pE8, pb0, pb1, pbo, if_true, if_false, pIy, pbq, pNz, pIw, p8Le, pLt0, ih]
      by_cases e : nI c = z
      · simp [e, pb, hc]
      · simp (disch := omega) [e, hc, show ¬ 8 ≤ c from by omega]
theorem cHang {m : Nat} {fr fu fp : Nat → Int32} {d : Nat} {z : Int32} (hd : d < 8) : F_X0_hangsOn fr (nI m) fu fp (nI d) z = some (pb (zHang (nz fr) d z)) := by
  unfold F_X0_hangsOn zHang
  simp (disch := omega) only [pIx, pCl, pLe, pLt, pEq, pNm, pS1, pA0, pA8, pA16, pA24, pA32, pA40, pA48, pA56, pA64, pA72, pA80, pA88, pBs, pE8, pb0, pb1, pbo, if_true, if_false, pIy, pbq, pNz, pIw]
  exact cHangL 8 1000 0 _ (by omega) (by omega)
theorem cBeneath {m : Nat} {fr fu fp : Nat → Int32} {z : Int32} (hm : m ≤ 8) : F_X0_beneath fr (nI m) fu fp z = some (pSet (fun d => zHang (nz fr) d z) m) := by
  unfold F_X0_beneath
  refine pLoop0 (L := fun n i a => FL_X0_beneath_4 fr (nI m) fu fp z n a i) (fin := id) (fun n j a hj => ?_) (fun n a => ?_) 1000 0 (by omega)
  · show FL_X0_beneath_4 fr (nI m) fu fp z (n + 1) a (nI j) = _
    simp (disch := omega) only [FL_X0_beneath_4, pIx, pCl, pLe, pLt, pEq, pNm, pS1, pA0, pA8, pA16, pA24, pA32, pA40, pA48, pA56, pA64, pA72, pA80, pA88, pBs, pE8, pb0, pb1, pbo, if_true, if_false, pIy, pbq, pNz, pIw, pSb, cHang]
    rw [if_neg (by omega)]
    by_cases c : zHang (nz fr) j z = true <;> simp [c]
  · show FL_X0_beneath_4 fr (nI m) fu fp z (n + 1) a (nI m) = _
    simp (disch := omega) only [FL_X0_beneath_4, pIx, pCl, pLe, pLt, pEq, pNm, pS1, pA0, pA8, pA16, pA24, pA32, pA40, pA48, pA56, pA64, pA72, pA80, pA88, pBs, pE8, pb0, pb1, pbo, if_true, if_false, pIy, pbq, pNz, pIw]
    rw [if_pos (Nat.le_refl m)]; rfl
theorem cDepL {m : Nat} {fr fu fp : Nat → Int32} {y : Int32} : ∀ (k n j : Nat) (x a : Int32), j + k = 8 → k < n → FL_X0_depthOf_7 fr (nI m) fu fp y n a x (nI j) = some (zDp (nz fr) k x a)
  | _, 0, j, x, a, hj, hn => absurd hn (by omega)
  | 0, n + 1, j, x, a, hj, hn => by
    obtain rfl : j = 8 := by omega
    simp only [FL_X0_depthOf_7, zDp]
    rw [if_pos (by decide)]
  | k + 1, n + 1, j, x, a, hj, hn => by
    simp (disch := omega) only [FL_X0_depthOf_7, zDp, pIx, pCl, pLe, pLt, pEq, pNm, pS1, pA0, pA8, pA16, pA24, pA32, pA40, pA48, pA56, pA64, pA72, pA80, pA88, pBs, pE8, pb0, pb1, pbo, if_true, if_false, pIy, pbq, pNz, pIw, p8Le]
    rw [if_neg (by omega)]
    rcases pX3 x with c | c | ⟨c, hc, rfl⟩
    · simp [c]
    · by_cases c0 : x < 0
      · simp [c0]
      · simp [c, c0]
    · have ih := fun a => cDepL (m := m) (fr := fr) (fu := fu) (fp := fp) (y := y) k n (j + 1) (fr (32 + c)) a (by omega) (by omega)
      simp (disch := omega) only [pIx, pCl, pLe, pLt, pEq, pNm, pS1, pA0, pA8, pA16, pA24, pA32, pA40, pA48, pA56, pA64, pA72, pA80, pA88, pBs, pE8, pb0, pb1, pbo, if_true, if_false, pIy, pbq, pNz, pIw, p8Le, pLt0, ih]
      by_cases e : fr (32 + c) = -1
      · simp [e, show ¬ 8 ≤ c from by omega]
      · simp [e, show ¬ 8 ≤ c from by omega]
theorem cDepth {m : Nat} {fr fu fp : Nat → Int32} {d : Nat} (hd : d < 8) : F_X0_depthOf fr (nI m) fu fp (nI d) = some (zDepth (nz fr) d) := by
  unfold F_X0_depthOf zDepth
  exact cDepL 8 1000 0 _ _ (by omega) (by omega)
theorem cAbvL {m : Nat} {fr fu fp : Nat → Int32} {y : Int32} : ∀ (k n j : Nat) (x : Int32), j + k = 8 → k < n → FL_X0_helperAbove_12 fr (nI m) fu fp y n x (nI j) = some (zCl (nz fr) (fun h => decide (nz fr (48 + h.toNatClampNeg) = 2)) k x)
  | _, 0, j, x, hj, hn => absurd hn (by omega)
  | 0, n + 1, j, x, hj, hn => by
    obtain rfl : j = 8 := by omega
    simp only [FL_X0_helperAbove_12, zCl]
    rw [if_pos (by decide)]
  | k + 1, n + 1, j, x, hj, hn => by
    simp (disch := omega) only [FL_X0_helperAbove_12, zCl, pIx, pCl, pLe, pLt, pEq, pNm, pS1, pA0, pA8, pA16, pA24, pA32, pA40, pA48, pA56, pA64, pA72, pA80, pA88, pBs, pE8, pb0, pb1, pbo, if_true, if_false, pIy, pbq, pNz, pIw, p8Le]
    rw [if_neg (by omega)]
    rcases pX3 x with c | c | ⟨c, hc, rfl⟩
    · simp [c]
    · by_cases c0 : x < 0
      · simp [c0]
      · simp [c, c0]
    · have ih := cAbvL (m := m) (fr := fr) (fu := fu) (fp := fp) (y := y) k n (j + 1) (fr (32 + c)) (by omega) (by omega)
      simp (disch := omega) only [pIx, pCl, pLe, pLt, pEq, pNm, pS1, pA0, pA8, pA16, pA24, pA32, pA40, pA48, pA56, pA64, pA72, pA80, pA88, pBs, pE8, pb0, pb1, pbo, if_true, if_false, pIy, pbq, pNz, pIw, p8Le, pLt0, ih]
      by_cases e : fr (48 + c) = 2
      · simp [e, show ¬ 8 ≤ c from by omega]
      · simp [e, show ¬ 8 ≤ c from by omega]
theorem cAbv {m : Nat} {fr fu fp : Nat → Int32} {d : Nat} (hd : d < 8) : F_X0_helperAbove fr (nI m) fu fp (nI d) = some (zAbv (nz fr) d) := by
  unfold F_X0_helperAbove zAbv
  simp (disch := omega) only [pIx, pCl, pLe, pLt, pEq, pNm, pS1, pA0, pA8, pA16, pA24, pA32, pA40, pA48, pA56, pA64, pA72, pA80, pA88, pBs, pE8, pb0, pb1, pbo, if_true, if_false, pIy, pbq, pNz, pIw]
  exact cAbvL 8 1000 0 _ (by omega) (by omega)
/-- who is not configured has no address -/
def wAd (m : Nat) (N : Nat → Int32) : Prop := ∀ d, d < m → N d ≠ 6 → N (56 + d) = 0
theorem cWith_ {m : Nat} {fr fu fp : Nat → Int32} {z : Int32} (hm : m ≤ 8) : F_X0_withAddress fr (nI m) fu fp z = some (pFd (fun d => decide (nz fr (56 + d) = z)) m 0) := by
  unfold F_X0_withAddress
  refine pFind (m := m) (L := fun n i => FL_X0_withAddress_2 fr (nI m) fu fp z n i) (p := (fun d => decide (nz fr (56 + d) = z))) (r := fun j => nI j) (e := -1) id (fun _ _ => rfl) rfl (fun n j hj => ?_) (fun n => ?_) m 1000 0 (by omega) (by omega)
  · show FL_X0_withAddress_2 fr (nI m) fu fp z (n + 1) (nI j) = _
    simp (disch := omega) only [FL_X0_withAddress_2, pIx, pCl, pLe, pLt, pEq, pNm, pS1, pA0, pA8, pA16, pA24, pA32, pA40, pA48, pA56, pA64, pA72, pA80, pA88, pBs, pE8, pb0, pb1, pbo, if_true, if_false, pIy, pbq, pNz, pIw]
    rw [if_neg (by omega)]
    by_cases c2 : fr (56 + j) = z <;> simp [c2]
  · show FL_X0_withAddress_2 fr (nI m) fu fp z (n + 1) (nI m) = _
    simp (disch := omega) only [FL_X0_withAddress_2, pIx, pCl, pLe, pLt, pEq, pNm, pS1, pA0, pA8, pA16, pA24, pA32, pA40, pA48, pA56, pA64, pA72, pA80, pA88, pBs, pE8, pb0, pb1, pbo, if_true, if_false, pIy, pbq, pNz, pIw]
    rw [if_pos (Nat.le_refl m)]
theorem cWith {m : Nat} {fr fu fp : Nat → Int32} {z : Int32} (hm : m ≤ 8) (ha : wAd m (nz fr)) (hz : z ≠ 0) : F_X0_withAddress fr (nI m) fu fp z = some (zWho m (nz fr) z) := by
  rw [cWith_ hm]; congr 1
  refine pFd_congr m 0 (fun i _ h => ?_)
  by_cases c : nz fr i = 6
  · simp [c]
  · have e := ha i (by omega) c
    have : ¬ nz fr (56 + i) = z := by rw [e]; exact fun h => hz h.symm
    simp [this]
theorem cAddr {m : Nat} {fr fu fp : Nat → Int32} {t : Nat} (hm : m ≤ 8) (ht : t ≤ 200) (h7 : fu 7 = nI t) (ha : wAd m (nz fr)) : F_X0_freeAddress fr (nI m) fu fp = some (zAddr m t (nz fr)) := by
  unfold F_X0_freeAddress
  have hc := pFind (m := t + 1) (L := fun n i => FL_X0_freeAddress_2 fr (nI m) fu fp n i) (p := fun a => decide (pFd (fun d => decide (nz fr (56 + d) = nI a)) m 0 = -1)) (r := fun j => nI j) (e := -1) id (fun _ _ => rfl) rfl (fun n j hj => ?_) (fun n => ?_) t 1000 1 (by omega) (by omega)
  · refine hc.trans ?_
    show some (pFd _ _ _) = some (zAddr m t (nz fr))
    unfold zAddr; congr 1
    refine pFd_congr t 1 (fun i h1 h2 => ?_)
    have e := Option.some.inj ((cWith_ (fu := fu) (fp := fp) (fr := fr) (z := nI i) hm).symm.trans (cWith hm ha (by rw [Ne, pE0z (by omega)]; omega)))
    show decide (_ = -1) = decide (_ = -1)
    rw [e]
  · show FL_X0_freeAddress_2 fr (nI m) fu fp (n + 1) (nI j) = _
    simp (disch := omega) only [FL_X0_freeAddress_2, pIx, pCl, pLe, pLt, pEq, pNm, pS1, pA0, pA8, pA16, pA24, pA32, pA40, pA48, pA56, pA64, pA72, pA80, pA88, pBs, pE8, pb0, pb1, pbo, if_true, if_false, pIy, pbq, pNz, pIw, h7, cWith_ hm]
    rw [if_neg (by omega)]
    by_cases c : pFd (fun d => decide (nz fr (56 + d) = nI j)) m 0 = -1 <;> simp [c]
  · show FL_X0_freeAddress_2 fr (nI m) fu fp (n + 1) (nI (t + 1)) = _
    simp (disch := omega) only [FL_X0_freeAddress_2, pIx, pCl, pLe, pLt, pEq, pNm, pS1, pA0, pA8, pA16, pA24, pA32, pA40, pA48, pA56, pA64, pA72, pA80, pA88, pBs, pE8, pb0, pb1, pbo, if_true, if_false, pIy, pbq, pNz, pIw, h7]
    rw [if_pos (by omega)]
theorem cTakes {m : Nat} {fr fu fp : Nat → Int32} {d : Nat} (hm : m ≤ 8) (h : d < m) : F_X0_takesOf fr (nI m) fu fp (nI d) = some (zTakes (tP m fp) (nz fr) d) := by
  unfold F_X0_takesOf zTakes zNeed; simp (disch := omega) only [pIx, pCl, pLe, pLt, pEq, pNm, pS1, pA0, pA8, pA16, pA24, pA32, pA40, pA48, pA56, pA64, pA72, pA80, pA88, pBs, pE8, pb0, pb1, pbo, if_true, if_false, pIy, pbq, pNz, pIw, tP2 (m := m)]
  by_cases c : fr (72 + d) = 1 <;> by_cases c2 : fr (88 + d) = 1 <;> simp [c, c2]
theorem cGives {m : Nat} {fr fu fp : Nat → Int32} {x : Int32} : F_X0_portGives fr (nI m) fu fp x = some (zGv fu (nz fr) x) := by
  unfold F_X0_portGives zGv
  by_cases c8 : x = 8
  · simp [c8]
  · rcases pX3 x with c | c | ⟨c, hc, rfl⟩
    · simp [c8, c]
    · by_cases c0 : x < 0
      · simp [c8, c0]
      · simp [c8, c, c0]
    · simp (disch := omega) only [pIx, pCl, pLe, pLt, pEq, pNm, pS1, pA0, pA8, pA16, pA24, pA32, pA40, pA48, pA56, pA64, pA72, pA80, pA88, pBs, pE8, pb0, pb1, pbo, if_true, if_false, pIy, pbq, pNz, pIw, p8Le, pLt0]
      by_cases c2 : fr (72 + c) = 1 <;> simp [c2, show ¬ 8 ≤ c from by omega, show ¬ c = 8 from by omega]
theorem cBound {m : Nat} {fr fu fp : Nat → Int32} {c : Nat} (hc : c ≤ 8) : F_X0_isBoundless fr (nI m) fu fp (nI c) = some (pb (decide (c = 8) || decide (nz fr (72 + c) = 1))) := by
  unfold F_X0_isBoundless
  simp (disch := omega) only [pIx, pCl, pLe, pLt, pEq, pNm, pS1, pA0, pA8, pA16, pA24, pA32, pA40, pA48, pA56, pA64, pA72, pA80, pA88, pBs, pE8, pb0, pb1, pbo, if_true, if_false, pIy, pbq, pNz, pIw, p8Le, pLt0]
  by_cases c8 : c = 8
  · simp [c8, pb]
  · by_cases c2 : fr (72 + c) = 1 <;> simp [c2, c8, show ¬ 8 ≤ c from by omega, pb]
theorem cLeftL {m : Nat} {fr fu fp : Nat → Int32} {h : Nat} {out b : Int32} (hm : m ≤ 8) (hh : h ≤ 8) : FL_X0_leftOf_42 fr (nI m) fu fp (nI h) out 1000 b 0 = some (pF (zLf (tP m fp) (nz fr) h out) m 0 b) := by
  refine pLoop0 (L := fun n i a => FL_X0_leftOf_42 fr (nI m) fu fp (nI h) out n a i) (fin := id) (fun n j a hj => ?_) (fun n a => ?_) 1000 _ (by omega)
  · show FL_X0_leftOf_42 fr (nI m) fu fp (nI h) out (n + 1) a (nI j) = _
    simp (disch := omega) only [FL_X0_leftOf_42, pIx, pCl, pLe, pLt, pEq, pNm, pS1, pA0, pA8, pA16, pA24, pA32, pA40, pA48, pA56, pA64, pA72, pA80, pA88, pBs, pE8, pb0, pb1, pbo, if_true, if_false, pIy, pbq, pNz, pIw, cTakes, zLf]
    rw [if_neg (by omega)]
    by_cases c : fr j = 6 <;> by_cases c2 : fr (32 + j) = nI h <;> by_cases c3 : nI j = out <;> simp [c, c2, c3]
  · show FL_X0_leftOf_42 fr (nI m) fu fp (nI h) out (n + 1) a (nI m) = _
    simp (disch := omega) only [FL_X0_leftOf_42, pIx, pCl, pLe, pLt, pEq, pNm, pS1, pA0, pA8, pA16, pA24, pA32, pA40, pA48, pA56, pA64, pA72, pA80, pA88, pBs, pE8, pb0, pb1, pbo, if_true, if_false, pIy, pbq, pNz, pIw]
    rw [if_pos (Nat.le_refl m)]; rfl
theorem cLeft {m : Nat} {fr fu fp : Nat → Int32} {h : Nat} {out : Int32} (hm : m ≤ 8) (hh : h < m) : F_X0_leftOf fr (nI m) fu fp (nI h) out = some (zLeft m fu (tP m fp) (nz fr) h out) := by
  unfold F_X0_leftOf zLeft
  simp (disch := omega) only [pIx, pCl, pLe, pLt, pEq, pNm, pS1, pA0, pA8, pA16, pA24, pA32, pA40, pA48, pA56, pA64, pA72, pA80, pA88, pBs, pE8, pb0, pb1, pbo, if_true, if_false, pIy, pbq, pNz, pIw, cGives, cLeftL hm (by omega : h ≤ 8), pLt0, tP2 (m := m)]
  rw [if_pos (show nI h < 8 from (pLt (a := h) (b := 8) (by omega) (by decide)).mpr (by omega))]
def zPow (m : Nat) (R : Nat → Int32) (T : Nat → Nat → Int32) (N : Nat → Int32) (c : Nat) (u out : Int32) : Bool := !decide (zGv R N (nI c) < u) && (decide (c = 8) || decide (N (72 + c) = 1) || !decide (zLeft m R T N c out < u))
theorem cPow {m : Nat} {fr fu fp : Nat → Int32} {d c : Nat} {u : Int32} (hm : m ≤ 8) (hd : d < m) (hc : c ≤ 8) (hcm : c = 8 ∨ c < m) (hh : nz fr (32 + d) = nI c) : F_X0_powerSuffices fr (nI m) fu fp (nI d) u = some (pb (zPow m fu (tP m fp) (nz fr) c u (nI d))) := by
  have hh' : fr (32 + d) = nI c := by rw [← hh, pNz (by omega)]
  unfold F_X0_powerSuffices zPow
  simp (disch := omega) only [pIx, pCl, pLe, pLt, pEq, pNm, pS1, pA0, pA8, pA16, pA24, pA32, pA40, pA48, pA56, pA64, pA72, pA80, pA88, pBs, pE8, pb0, pb1, pbo, if_true, if_false, pIy, pbq, pNz, pIw, hh', cGives, cBound]
  by_cases c8 : c = 8
  · subst c8
    by_cases c1 : zGv fu (nz fr) (nI 8) < u <;> simp [c1, pb]
  · rw [cLeft hm (by omega), pBs]
    by_cases c1 : zGv fu (nz fr) (nI c) < u <;> by_cases c2 : fr (72 + c) = 1 <;> by_cases c3 : zLeft m fu (tP m fp) (nz fr) c (nI d) < u <;> simp [c1, c2, c3, c8, pb]
theorem cRuns {m : Nat} {fr fu fp : Nat → Int32} {c : Nat} (hc : c ≤ 8) : F_X0_runsAt fr (nI m) fu fp (nI c) = some (zSpd (nz fr) c) := by
  unfold F_X0_runsAt zSpd
  simp (disch := omega) only [pIx, pCl, pLe, pLt, pEq, pNm, pS1, pA0, pA8, pA16, pA24, pA32, pA40, pA48, pA56, pA64, pA72, pA80, pA88, pBs, pE8, pb0, pb1, pbo, if_true, if_false, pIy, pbq, pNz, pIw, p8Le, pLt0]
  by_cases c8 : c = 8
  · simp [c8]
  · simp [c8, show ¬ 8 ≤ c from by omega]
def zSp (T : Nat → Nat → Int32) (N : Nat → Int32) (c d : Nat) : Int32 := if zSpd N c = 2 then T d 1 else if T d 1 < 1 then T d 1 else 1
theorem p_min1 (x : Int32) : (if 1 < x then 1 else x) = if x < 1 then x else 1 := by
  by_cases c : 1 < x
  · have : ¬ x < 1 := by rw [q_lt] at c ⊢; omega
    rw [if_pos c, if_neg this]
  · rw [if_neg c]
    by_cases c2 : x < 1
    · rw [if_pos c2]
    · rw [if_neg c2]
      rw [q_lt] at c c2
      apply Int32.toInt_inj.mp; omega
theorem cSpeed {m : Nat} {fr fu fp : Nat → Int32} {d c : Nat} (hm : m ≤ 8) (hd : d < m) (hc : c ≤ 8) (hh : nz fr (32 + d) = nI c) : F_X0_speedOf fr (nI m) fu fp (nI d) = some (zSp (tP m fp) (nz fr) c d) := by
  have hh' : fr (32 + d) = nI c := by rw [← hh, pNz (by omega)]
  unfold F_X0_speedOf zSp
  simp (disch := omega) only [pIx, pCl, pLe, pLt, pEq, pNm, pS1, pA0, pA8, pA16, pA24, pA32, pA40, pA48, pA56, pA64, pA72, pA80, pA88, pBs, pE8, pb0, pb1, pbo, if_true, if_false, pIy, pbq, pNz, pIw, hh', cRuns, tP1 (m := m)]
  rw [p_min1]
  by_cases c1 : zSpd (nz fr) c = 2 <;> by_cases c3 : fp (8 + d) < 1 <;> simp [c1, c3]
def zHFor (T : Nat → Nat → Int32) (d : Nat) (s : Int32) : Int32 := T d 4 * (if s = 0 then 8 else 2)
theorem cHFor {m : Nat} {fr fu fp : Nat → Int32} {d : Nat} {s : Int32} (hm : m ≤ 8) (hd : d < m) : F_X0_helpFor fr (nI m) fu fp (nI d) s = some (zHFor (tP m fp) d s) := by
  unfold F_X0_helpFor zHFor
  simp (disch := omega) only [pIx, pCl, pLe, pLt, pEq, pNm, pS1, pA0, pA8, pA16, pA24, pA32, pA40, pA48, pA56, pA64, pA72, pA80, pA88, pBs, pE8, pb0, pb1, pbo, if_true, if_false, pIy, pbq, pNz, pIw, tP4 (m := m)]
  by_cases c : s = 0 <;> simp [c]
def zBFor (T : Nat → Nat → Int32) (d : Nat) (s : Int32) : Int32 := T d 4 + (if 2 ≤ s ∨ T d 4 ≤ 0 then 0 else 4)
theorem cBFor {m : Nat} {fr fu fp : Nat → Int32} {d : Nat} {s : Int32} (hm : m ≤ 8) (hd : d < m) : F_X0_busFor fr (nI m) fu fp (nI d) s = some (zBFor (tP m fp) d s) := by
  unfold F_X0_busFor zBFor
  simp (disch := omega) only [pIx, pCl, pLe, pLt, pEq, pNm, pS1, pA0, pA8, pA16, pA24, pA32, pA40, pA48, pA56, pA64, pA72, pA80, pA88, pBs, pE8, pb0, pb1, pbo, if_true, if_false, pIy, pbq, pNz, pIw, tP4 (m := m)]
  by_cases c : 2 ≤ s <;> by_cases c2 : fp (32 + d) ≤ 0 <;> simp [c, c2]
/-- who is configured runs at 0, 1 or 2 -/
def wRn (m : Nat) (N : Nat → Int32) : Prop := ∀ d, d < m → N d = 6 → N (48 + d) = 0 ∨ N (48 + d) = 1 ∨ N (48 + d) = 2
theorem zAwk_6 {N : Nat → Int32} {d : Nat} (h : zAwk N d = true) : N d = 6 := by unfold zAwk at h; simp at h; exact h.1
theorem cHelpL {m : Nat} {fr fu fp : Nat → Int32} {z : Int32} (hm : m ≤ 8) (hs : wS m (nz fr)) (hr : wRn m (nz fr)) (hz : z ≠ -1) : FL_X0_helpOf_4 fr (nI m) fu fp z 1000 0 0 = some (pF (zHf (tP m fp) (nz fr) z) m 0 0) := by
  refine pLoop0 (L := fun n i a => FL_X0_helpOf_4 fr (nI m) fu fp z n a i) (fin := id) (fun n j a hj => ?_) (fun n a => ?_) 1000 _ (by omega)
  · show FL_X0_helpOf_4 fr (nI m) fu fp z (n + 1) a (nI j) = _
    simp (disch := omega) only [FL_X0_helpOf_4, pIx, pCl, pLe, pLt, pEq, pNm, pS1, pA0, pA8, pA16, pA24, pA32, pA40, pA48, pA56, pA64, pA72, pA80, pA88, pBs, pE8, pb0, pb1, pbo, if_true, if_false, pIy, pbq, pNz, pIw, cAwake (d := j) (by omega) (hs j hj), zHf, cAbv, cHFor, zHFor, zHlp]
    rw [if_neg (by omega)]
    by_cases c : zAwk (nz fr) j = true
    · have h6 := hr j hj (zAwk_6 c)
      rw [pNz (by omega)] at h6
      rcases h6 with h6 | h6 | h6
      · by_cases c2 : zAbv (nz fr) j = z <;> simp [c, c2, h6, show ¬ (2 : Int32) ≤ 0 from by decide, show ¬ (0 : Int32) = -1 from by decide, show ¬ (0 : Int32) = 2 from by decide]
      · by_cases c2 : zAbv (nz fr) j = z <;> simp [c, c2, h6, show ¬ (2 : Int32) ≤ 1 from by decide, show ¬ (1 : Int32) = -1 from by decide, show ¬ (1 : Int32) = 2 from by decide]
      · have hz' : ¬ (-1 : Int32) = z := fun h => hz h.symm
        simp [c, h6, show (2 : Int32) ≤ 2 from by decide, hz']
    · simp [c]
  · show FL_X0_helpOf_4 fr (nI m) fu fp z (n + 1) a (nI m) = _
    simp (disch := omega) only [FL_X0_helpOf_4, pIx, pCl, pLe, pLt, pEq, pNm, pS1, pA0, pA8, pA16, pA24, pA32, pA40, pA48, pA56, pA64, pA72, pA80, pA88, pBs, pE8, pb0, pb1, pbo, if_true, if_false, pIy, pbq, pNz, pIw]
    rw [if_pos (Nat.le_refl m)]; rfl
theorem cHelp {m : Nat} {fr fu fp : Nat → Int32} {z : Int32} (hm : m ≤ 8) (hs : wS m (nz fr)) (hr : wRn m (nz fr)) (hz : z ≠ -1) : F_X0_helpOf fr (nI m) fu fp z = some (zHelp m (tP m fp) (nz fr) z) := cHelpL hm hs hr hz
theorem zCl_p {m : Nat} {N : Nat → Int32} {r : Nat → Nat} {p : Int32 → Bool} (hm : m ≤ 8) (hw : wR m N r) : ∀ (k c : Nat), wP m N r 8 c → ∃ b, b ≤ 8 ∧ zCl N p k (nI c) = nI b ∧ wP m N r 8 b
  | 0, c, hc => ⟨c, hc.le hm, rfl, hc⟩
  | k + 1, c, hc => by
    by_cases c8 : c = 8
    · subst c8; exact ⟨8, Nat.le_refl 8, zCl_8 N p _, hc⟩
    · obtain ⟨h1, b, h2, h3⟩ := hc.up hw c8
      rw [zCl_s (by omega), h2]
      by_cases cp : p (nI c) = true
      · rw [if_pos cp]; exact ⟨c, by omega, rfl, hc⟩
      · rw [if_neg cp]
        refine zCl_p hm hw k b ?_
        rcases h3 with h3 | ⟨h3, h4, h5⟩
        · exact Or.inl h3
        · exact Or.inr ⟨h3, h4, by omega⟩
theorem zAbv_nI {m : Nat} {N : Nat → Int32} {r : Nat → Nat} {d : Nat} (hm : m ≤ 8) (hw : wR m N r) (hd : d < m) (h : N d ≠ 0) : ∃ b, b ≤ 8 ∧ zAbv N d = nI b ∧ wP m N r 8 b := by
  obtain ⟨c, h1, h2⟩ := wP.of hw hd h
  unfold zAbv
  rw [h1]
  refine zCl_p hm hw 8 c ?_
  rcases h2 with h2 | ⟨h3, h4, h5⟩
  · exact Or.inl h2
  · exact Or.inr ⟨h3, h4, by omega⟩
theorem cBusL {m : Nat} {fr fu fp : Nat → Int32} {r : Nat → Nat} (hm : m ≤ 8) (hw : wR m (nz fr) r) (hs : wS m (nz fr)) (hr : wRn m (nz fr)) : FL_X0_busUsed_4 fr (nI m) fu fp 1000 0 0 = some (pF (zBf (tP m fp) (nz fr)) m 0 0) := by
  refine pLoop0 (L := fun n i a => FL_X0_busUsed_4 fr (nI m) fu fp n a i) (fin := id) (fun n j a hj => ?_) (fun n a => ?_) 1000 _ (by omega)
  · show FL_X0_busUsed_4 fr (nI m) fu fp (n + 1) a (nI j) = _
    simp (disch := omega) only [FL_X0_busUsed_4, pIx, pCl, pLe, pLt, pEq, pNm, pS1, pA0, pA8, pA16, pA24, pA32, pA40, pA48, pA56, pA64, pA72, pA80, pA88, pBs, pE8, pb0, pb1, pbo, if_true, if_false, pIy, pbq, pNz, pIw, cAwake (d := j) (by omega) (hs j hj), zBf, cBFor, zBFor, zHlp]
    rw [if_neg (by omega)]
    by_cases c : zAwk (nz fr) j = true
    · have h60 := zAwk_6 c
      have h6 := hr j hj h60
      obtain ⟨b, hb, hab, _⟩ := zAbv_nI hm hw hj (by rw [h60]; decide)
      have hn : ¬ zAbv (nz fr) j = -1 := by rw [hab, pNm (by omega)]; exact id
      rw [pNz (by omega)] at h6
      rcases h6 with h6 | h6 | h6
      · simp [c, h6, hn, show ¬ (2 : Int32) ≤ 0 from by decide, show ¬ (0 : Int32) = -1 from by decide, show ¬ (0 : Int32) = 2 from by decide]
      · simp [c, h6, hn, show ¬ (2 : Int32) ≤ 1 from by decide, show ¬ (1 : Int32) = -1 from by decide, show ¬ (1 : Int32) = 2 from by decide]
      · simp [c, h6, show (2 : Int32) ≤ 2 from by decide]
    · simp [c]
  · show FL_X0_busUsed_4 fr (nI m) fu fp (n + 1) a (nI m) = _
    simp (disch := omega) only [FL_X0_busUsed_4, pIx, pCl, pLe, pLt, pEq, pNm, pS1, pA0, pA8, pA16, pA24, pA32, pA40, pA48, pA56, pA64, pA72, pA80, pA88, pBs, pE8, pb0, pb1, pbo, if_true, if_false, pIy, pbq, pNz, pIw]
    rw [if_pos (Nat.le_refl m)]; rfl
theorem cBus {m : Nat} {fr fu fp : Nat → Int32} {r : Nat → Nat} (hm : m ≤ 8) (hw : wR m (nz fr) r) (hs : wS m (nz fr)) (hr : wRn m (nz fr)) : F_X0_busUsed fr (nI m) fu fp = some (zBus m (tP m fp) (nz fr)) := cBusL hm hw hs hr
theorem cGreed {m : Nat} {fr fu fp : Nat → Int32} {z : Int32} (hm : m ≤ 8) : F_X0_greatestTaker fr (nI m) fu fp z = some (zGrd m (tP m fp) (nz fr) z) ∧ wB m (zGrd m (tP m fp) (nz fr) z) := by
  unfold F_X0_greatestTaker
  refine pLoop (m := m) (L := fun n i a => FL_X0_greatestTaker_4 fr (nI m) fu fp z n a i) (g := zGf (tP m fp) (nz fr) z) (fin := id) (fun j b => wB m b) (fun n j b hj hb => ?_) (fun n b hb => ?_) m 1000 0 (-1) (by omega) (by omega) (Or.inl rfl)
  · refine ⟨?_, ?_⟩
    · show FL_X0_greatestTaker_4 fr (nI m) fu fp z (n + 1) b (nI j) = _
      rcases hb with rfl | ⟨e, he, rfl⟩
      · simp (disch := omega) only [FL_X0_greatestTaker_4, pIx, pCl, pLe, pLt, pEq, pNm, pS1, pA0, pA8, pA16, pA24, pA32, pA40, pA48, pA56, pA64, pA72, pA80, pA88, pBs, pE8, pb0, pb1, pbo, if_true, if_false, pIy, pbq, pNz, pIw, cTakes, zGf]
        rw [if_neg (by omega)]
        by_cases c : fr j = 6 <;> by_cases c2 : fr (32 + j) = z <;> simp [c, c2]
      · simp (disch := omega) only [FL_X0_greatestTaker_4, pIx, pCl, pLe, pLt, pEq, pNm, pS1, pA0, pA8, pA16, pA24, pA32, pA40, pA48, pA56, pA64, pA72, pA80, pA88, pBs, pE8, pb0, pb1, pbo, if_true, if_false, pIy, pbq, pNz, pIw, cTakes, zGf]
        rw [if_neg (by omega)]
        by_cases c : fr j = 6 <;> by_cases c2 : fr (32 + j) = z <;> by_cases c3 : zTakes (tP m fp) (nz fr) j < zTakes (tP m fp) (nz fr) e <;> simp [c, c2, c3]
    · unfold zGf
      split
      · split
        · exact Or.inr ⟨j, hj, rfl⟩
        · split
          · exact hb
          · exact Or.inr ⟨j, hj, rfl⟩
      · exact hb
  · show FL_X0_greatestTaker_4 fr (nI m) fu fp z (n + 1) b (nI m) = _
    simp (disch := omega) only [FL_X0_greatestTaker_4, pIx, pCl, pLe, pLt, pEq, pNm, pS1, pA0, pA8, pA16, pA24, pA32, pA40, pA48, pA56, pA64, pA72, pA80, pA88, pBs, pE8, pb0, pb1, pbo, if_true, if_false, pIy, pbq, pNz, pIw]
    rw [if_pos (Nat.le_refl m)]; rfl
theorem cNext {m : Nat} {fr fu fp : Nat → Int32} (hm : m ≤ 8) (hh : wH m (nz fr)) (hf : wF m (nz fr)) : F_X0_firstInLine fr (nI m) fu fp = some (zNext m (nz fr)) ∧ wB m (zNext m (nz fr)) := by
  unfold F_X0_firstInLine
  refine pLoop (m := m) (L := fun n i a => FL_X0_firstInLine_4 fr (nI m) fu fp n a i) (g := zNf (nz fr)) (fin := id) (fun j b => wB m b) (fun n j b hj hb => ?_) (fun n b hb => ?_) m 1000 0 (-1) (by omega) (by omega) (Or.inl rfl)
  · refine ⟨?_, ?_⟩
    · show FL_X0_firstInLine_4 fr (nI m) fu fp (n + 1) b (nI j) = _
      by_cases c0 : nz fr j = 0
      · have h2 := hf j hj c0
        rw [pNz (by omega)] at h2 c0
        simp (disch := omega) only [FL_X0_firstInLine_4, pIx, pCl, pLe, pLt, pEq, pNm, pS1, pA0, pA8, pA16, pA24, pA32, pA40, pA48, pA56, pA64, pA72, pA80, pA88, pBs, pE8, pb0, pb1, pbo, if_true, if_false, pIy, pbq, pNz, pIw, zNf, c0, h2, cIsm]
        rw [if_neg (by omega)]
        simp [show ¬ (-1 : Int32) = 8 from by decide, show ¬ (0 : Int32) = 2 from by decide]
      · obtain ⟨h, h1, h2⟩ := hh j hj c0
        rw [pNz (by omega)] at h2
        rcases hb with rfl | ⟨e, he, rfl⟩
        · simp (disch := omega) only [FL_X0_firstInLine_4, pIx, pCl, pLe, pLt, pEq, pNm, pS1, pA0, pA8, pA16, pA24, pA32, pA40, pA48, pA56, pA64, pA72, pA80, pA88, pBs, pE8, pb0, pb1, pbo, if_true, if_false, pIy, pbq, pNz, pIw, zNf, h2, cIs, cAsleep, zSlp]
          rw [if_neg (by omega)]
          by_cases c : fr j = 2 <;> by_cases c8 : h = 8 <;> by_cases c6 : fr h = 6 <;> by_cases c1 : fr (88 + h) = 1 <;> simp (disch := omega) [c, c8, c6, c1, pNz]
        · simp (disch := omega) only [FL_X0_firstInLine_4, pIx, pCl, pLe, pLt, pEq, pNm, pS1, pA0, pA8, pA16, pA24, pA32, pA40, pA48, pA56, pA64, pA72, pA80, pA88, pBs, pE8, pb0, pb1, pbo, if_true, if_false, pIy, pbq, pNz, pIw, zNf, h2, cIs, cAsleep, zSlp]
          rw [if_neg (by omega)]
          by_cases c : fr j = 2 <;> by_cases c8 : h = 8 <;> by_cases c6 : fr h = 6 <;> by_cases c1 : fr (88 + h) = 1 <;> by_cases c9 : fr (16 + e) ≤ fr (16 + j) <;> simp (disch := omega) [c, c8, c6, c1, c9, pNz]
    · unfold zNf
      split
      · split
        · exact Or.inr ⟨j, hj, rfl⟩
        · split
          · exact hb
          · exact Or.inr ⟨j, hj, rfl⟩
      · exact hb
  · show FL_X0_firstInLine_4 fr (nI m) fu fp (n + 1) b (nI m) = _
    simp (disch := omega) only [FL_X0_firstInLine_4, pIx, pCl, pLe, pLt, pEq, pNm, pS1, pA0, pA8, pA16, pA24, pA32, pA40, pA48, pA56, pA64, pA72, pA80, pA88, pBs, pE8, pb0, pb1, pbo, if_true, if_false, pIy, pbq, pNz, pIw]
    rw [if_pos (Nat.le_refl m)]; rfl
def zStill (m : Nat) (N : Nat → Int32) : Bool := decide (pSet (fun d => decide (N d = 1)) m = 0) && decide (pFd (zBsy N) m 0 = -1) && decide (zNext m N = -1)
theorem cStill {m : Nat} {fr fu fp : Nat → Int32} (hm : m ≤ 8) (hh : wH m (nz fr)) (hf : wF m (nz fr)) : F_X0_isStill fr (nI m) fu fp = some (pb (zStill m (nz fr))) := by
  unfold F_X0_isStill zStill
  simp only [cAll hm, cStanding hm, (cNext hm hh hf).1, pBs]
  by_cases c : pSet (fun d => decide (nz fr d = 1)) m = 0 <;> by_cases c2 : pFd (zBsy (nz fr)) m 0 = -1 <;> by_cases c3 : zNext m (nz fr) = -1 <;> simp [c, c2, c3, pb]
theorem cCanFall {m : Nat} {fr fu fp : Nat → Int32} {d : Nat} (hm : m ≤ 8) (hd : d < m) (hf : wF m (nz fr)) (hs : wS m (nz fr)) : F_X0_canFallAsleep fr (nI m) fu fp (nI d) = some (pb (zCanFall m (nz fr) (nI d) && decide (nz fr d = 6))) := by
  unfold F_X0_canFallAsleep
  have e := pFind (m := m) (L := fun n i => FL_X0_canFallAsleep_2 fr (nI m) fu fp (nI d) n i) (p := zCp (nz fr) (nI d)) (r := fun j => 0) (e := pb (decide (nz fr d = 6))) (fun x => if x = -1 then pb (decide (nz fr d = 6)) else 0) (fun j hj => by simp (disch := omega) only [pNm, if_false]) (if_pos rfl) (fun n j hj => ?_) (fun n => ?_) m 1000 0 (by omega) (by omega)
  · refine e.trans ?_
    unfold zCanFall
    by_cases c : pFd (zCp (nz fr) (nI d)) m 0 = -1 <;> simp [c, pb]
  · show FL_X0_canFallAsleep_2 fr (nI m) fu fp (nI d) (n + 1) (nI j) = _
    have hz := hf j hj
    rw [pNz (by omega), pNz (by omega)] at hz
    simp (disch := omega) only [FL_X0_canFallAsleep_2, pIx, pCl, pLe, pLt, pEq, pNm, pS1, pA0, pA8, pA16, pA24, pA32, pA40, pA48, pA56, pA64, pA72, pA80, pA88, pBs, pE8, pb0, pb1, pbo, if_true, if_false, pIy, pbq, pNz, pIw, cStand1, cAwake (d := j) (by omega) (hs j hj), zCp, zRt]
    rw [if_neg (by omega)]
    by_cases c : fr j = 0
    · have : ¬ fr (32 + j) = nI d := by rw [hz c]; intro e; have := pNm (a := d) (by omega); rw [← this]; exact e.symm
      simp [c, this]
    · by_cases c2 : fr (32 + j) = nI d <;> by_cases c3 : zBsy (nz fr) j = true <;> by_cases c4 : zAwk (nz fr) j = true <;> simp [c, c2, c3, c4]
  · show FL_X0_canFallAsleep_2 fr (nI m) fu fp (nI d) (n + 1) (nI m) = _
    simp (disch := omega) only [FL_X0_canFallAsleep_2, pIx, pCl, pLe, pLt, pEq, pNm, pS1, pA0, pA8, pA16, pA24, pA32, pA40, pA48, pA56, pA64, pA72, pA80, pA88, pBs, pE8, pb0, pb1, pbo, if_true, if_false, pIy, pbq, pNz, pIw]
    rw [if_pos (Nat.le_refl m)]
    by_cases c : fr d = 6 <;> simp [c, pb]
