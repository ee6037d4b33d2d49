/-! what one tells of itself -/
def wT (m : Nat) (T : Nat → Nat → Int32) : Prop := ∀ d, d < m → (∃ p, p ≤ 4 ∧ T d 0 = nI p) ∧ (∃ s, s ≤ 2 ∧ T d 1 = nI s) ∧ (∃ u, u ≤ 9 ∧ T d 2 = nI u) ∧ (∃ o, o ≤ 1 ∧ T d 3 = nI o) ∧ (∃ b, b ≤ 99 ∧ T d 4 = nI b) ∧ (∃ e, e ≤ 3 ∧ T d 5 = nI e)
def zTB (T : Nat → Nat → Int32) (d k : Nat) : Int32 := if k = 0 then 8 + T d 0 else if k = 1 then (if T d 0 ≤ 0 then 1 else 9) else if k = 2 then T d 1 else if k = 3 then T d 2 else if k = 4 then T d 0 else if k = 5 then T d 4 else if k = 6 then T d 3 else (10 + nI k) - 7
def zCk (T : Nat → Nat → Int32) (N : Nat → Int32) (d k : Nat) : Int32 := if k = 4 ∧ N (80 + d) = 3 then 7 else zTB T d k
def zCf (T : Nat → Nat → Int32) (N : Nat → Int32) (d k : Nat) (a : Int32) : Int32 := a + zCk T N d k
theorem zCk_b {m : Nat} {T : Nat → Nat → Int32} {N : Nat → Int32} {d k : Nat} (hT : wT m T) (hd : d < m) (hk : k < 11) : ∃ c, zCk T N d k = nI c ∧ c ≤ (if k = 5 then 99 else 14) := by
  obtain ⟨⟨p, hp, e0⟩, ⟨s, hs, e1⟩, ⟨u, hu, e2⟩, ⟨o, ho, e3⟩, ⟨b, hb, e4⟩, -⟩ := hT d hd
  unfold zCk
  by_cases c : k = 4 ∧ N (80 + d) = 3
  · rw [if_pos c]; exact ⟨7, rfl, by rw [if_neg (by omega)]; omega⟩
  · rw [if_neg c]
    unfold zTB
    rw [e0, e1, e2, e3, e4]
    by_cases c0 : k = 0
    · rw [if_pos c0]; exact ⟨8 + p, pA8 p, by rw [if_neg (by omega)]; omega⟩
    rw [if_neg c0]
    by_cases c1 : k = 1
    · rw [if_pos c1]
      by_cases c : nI p ≤ 0
      · rw [if_pos c]; exact ⟨1, rfl, by rw [if_neg (by omega)]; omega⟩
      · rw [if_neg c]; exact ⟨9, rfl, by rw [if_neg (by omega)]; omega⟩
    rw [if_neg c1]
    by_cases c2 : k = 2
    · rw [if_pos c2]; exact ⟨s, rfl, by rw [if_neg (by omega)]; omega⟩
    rw [if_neg c2]
    by_cases c3 : k = 3
    · rw [if_pos c3]; exact ⟨u, rfl, by rw [if_neg (by omega)]; omega⟩
    rw [if_neg c3]
    by_cases c4 : k = 4
    · rw [if_pos c4]; exact ⟨p, rfl, by rw [if_neg (by omega)]; omega⟩
    rw [if_neg c4]
    by_cases c5 : k = 5
    · rw [if_pos c5]; exact ⟨b, rfl, by rw [if_pos c5]; omega⟩
    rw [if_neg c5]
    by_cases c6 : k = 6
    · rw [if_pos c6]; exact ⟨o, rfl, by rw [if_neg (by omega)]; omega⟩
    rw [if_neg c6]
    refine ⟨3 + k, ?_, by rw [if_neg (by omega)]; omega⟩
    have : ∀ k : Fin 11, (10 + nI k.1) - 7 = nI (3 + k.1) := by decide
    exact this ⟨k, hk⟩
theorem zSum_b {m : Nat} {T : Nat → Nat → Int32} {N : Nat → Int32} {d n : Nat} (hT : wT m T) (hd : d < m) (hn : n ≤ 11) : ∃ s, s < 256 ∧ pF (zCf T N d) n 0 0 = nI s := by
  have := pF_inv (g := zCf T N d) (fun j a => ∃ s, a = nI s ∧ s ≤ 14 * j + (if j > 5 then 85 else 0)) n 0 0 (fun i a _ hi hI => by
    obtain ⟨s, rfl, hs⟩ := hI
    obtain ⟨c, hc, hb⟩ := zCk_b (N := N) hT hd (show i < 11 from by omega)
    refine ⟨s + c, ?_, ?_⟩
    · unfold zCf; rw [hc, nI_add]
    · split at hs <;> split at hb <;> split <;> omega) ⟨0, rfl, by simp⟩
  obtain ⟨s, h1, h2⟩ := this
  refine ⟨s, ?_, h1⟩
  rw [Nat.zero_add] at h2
  split at h2 <;> omega
def zPt (T : Nat → Nat → Int32) (d : Nat) : Nat := (T d 0).toNatClampNeg
def zBy (T : Nat → Nat → Int32) (N : Nat → Int32) (d i : Nat) : Int32 := if i < 7 + zPt T d then (if i = 0 ∧ N (80 + d) = 1 then 3 else zCk T N d i) else (if N (80 + d) = 2 then 1 - pF (zCf T N d) (7 + zPt T d) 0 0 else -(pF (zCf T N d) (7 + zPt T d) 0 0)) &&& 255
theorem zPt_e {m : Nat} {T : Nat → Nat → Int32} {d : Nat} (hT : wT m T) (hd : d < m) : zPt T d ≤ 4 ∧ T d 0 = nI (zPt T d) := by
  obtain ⟨⟨p, hp, e0⟩, -⟩ := hT d hd
  unfold zPt
  rw [e0, pCl (by omega)]
  exact ⟨hp, rfl⟩
theorem p_chk : ∀ s : Fin 256, (-(nI s.1)) &&& 255 = (256 - (nI s.1 - nI s.1 / 256 * 256)) - (256 - (nI s.1 - nI s.1 / 256 * 256)) / 256 * 256 := by decide +kernel
theorem p_chk2 : ∀ s : Fin 256, (1 - nI s.1) &&& 255 = (((256 - (nI s.1 - nI s.1 / 256 * 256)) - (256 - (nI s.1 - nI s.1 / 256 * 256)) / 256 * 256) + 1) - (((256 - (nI s.1 - nI s.1 / 256 * 256)) - (256 - (nI s.1 - nI s.1 / 256 * 256)) / 256 * 256) + 1) / 256 * 256 := by decide +kernel
theorem rLong {m : Nat} {td : Nat → Int32} {d : Nat} (hm : m ≤ 8) (hd : d < m) : F_X10_longOf td (nI d) = some (8 + tT m td d 0) := by
  unfold F_X10_longOf; simp (disch := omega) only [rTold0 (m := m), pBs]
theorem rTB {m : Nat} {td : Nat → Int32} {d k : Nat} (hm : m ≤ 8) (hd : d < m) (hk : k < 12) : F_X10_trueByte td (nI d) (nI k) = some (zTB (tT m td) d k) := by
  unfold F_X10_trueByte zTB
  simp (disch := omega) only [rLong (m := m), rTold0 (m := m), rTold1 (m := m), rTold2 (m := m), rTold3 (m := m), rTold4 (m := m), pBs, pE0z, pE1z, pE2z, pE3z, pE4z, pE5z, pE6z]
  by_cases c0 : k = 0
  · simp [c0]
  by_cases c1 : k = 1
  · by_cases c : tT m td d 0 ≤ 0 <;> simp [c1, c]
  by_cases c2 : k = 2
  · simp [c2]
  by_cases c3 : k = 3
  · simp [c3]
  by_cases c4 : k = 4
  · simp [c4]
  by_cases c5 : k = 5
  · simp [c5]
  by_cases c6 : k = 6
  · simp [c6]
  simp [c0, c1, c2, c3, c4, c5, c6]
theorem p_87 (p : Nat) : nI (8 + p) - 1 = nI (7 + p) := by
  rw [show 8 + p = (7 + p) + 1 from by omega, nI_pred]
theorem rByte {m : Nat} {td nw : Nat → Int32} {d i : Nat} (hm : m ≤ 8) (hT : wT m (tT m td)) (hd : d < m) (hi : i < 12) : F_X10_byteAt td nw (nI d) (nI i) = some (zBy (tT m td) (nz nw) d i) := by
  obtain ⟨hp, e0⟩ := zPt_e hT hd
  unfold F_X10_byteAt zBy
  simp (disch := omega) only [pIx, pCl, pLe, pLt, pEq, pNm, pS1, pA0, pA8, pA16, pA24, pA32, pA40, pA48, pA56, pA64, pA72, pA80, pA88, pBs, pE8, pb0, pb1, pbo, if_true, if_false, pIy, pbq, pNz, pIw, rLong (m := m), e0, pE0z, pE4z]
  rw [p_87]
  simp (disch := omega) only [pIx, pCl, pLe, pLt, pEq, pNm, pS1, pA0, pA8, pA16, pA24, pA32, pA40, pA48, pA56, pA64, pA72, pA80, pA88, pBs, pE8, pb0, pb1, pbo, if_true, if_false, pIy, pbq, pNz, pIw, rTB (m := m)]
  by_cases c : i < 7 + zPt (tT m td) d
  · rw [if_neg (by omega), if_pos c]
    unfold zCk
    simp (disch := omega) only [pNz]
    by_cases c1 : nw (80 + d) = 1 <;> by_cases c3 : nw (80 + d) = 3 <;> by_cases ci : i = 0 <;> by_cases c4 : i = 4 <;> simp_all
  · rw [if_pos (by omega), if_neg c]
    have hl := pLoop0 (m := 7 + zPt (tT m td) d) (L := fun n x a => FL_X10_byteAt_62 td nw (nI d) (nI i) n (nw (80 + d)) a x) (g := zCf (tT m td) (nz nw) d) (fin := fun a => if nw (80 + d) = 2 then ((((256 - (a - a / 256 * 256)) - (256 - (a - a / 256 * 256)) / 256 * 256) + 1) - (((256 - (a - a / 256 * 256)) - (256 - (a - a / 256 * 256)) / 256 * 256) + 1) / 256 * 256) else ((256 - (a - a / 256 * 256)) - (256 - (a - a / 256 * 256)) / 256 * 256)) (fun n j a hj => ?_) (fun n a => ?_) 1000 0 (by omega)
    · refine hl.trans ?_
      obtain ⟨s, hs, es⟩ := zSum_b (N := nz nw) hT hd (show 7 + zPt (tT m td) d ≤ 11 from by omega)
      rw [es]
      have h1 := p_chk ⟨s, hs⟩
      have h2 := p_chk2 ⟨s, hs⟩
      by_cases c2 : nw (80 + d) = 2
      · simp only [c2, if_true]; rw [← h2]
      · simp only [c2, if_false]; rw [← h1]
    · show FL_X10_byteAt_62 td nw (nI d) (nI i) (n + 1) (nw (80 + d)) a (nI j) = _
      simp (disch := omega) only [FL_X10_byteAt_62, pIx, pCl, pLe, pLt, pEq, pNm, pS1, pA0, pA8, pA16, pA24, pA32, pA40, pA48, pA56, pA64, pA72, pA80, pA88, pBs, pE8, pb0, pb1, pbo, if_true, if_false, pIy, pbq, pNz, pIw, rLong (m := m), e0, rTB (m := m), pE4z]
      rw [p_87]
      simp (disch := omega) only [pIx, pCl, pLe, pLt, pEq, pNm, pS1, pA0, pA8, pA16, pA24, pA32, pA40, pA48, pA56, pA64, pA72, pA80, pA88, pBs, pE8, pb0, pb1, pbo, if_true, if_false, pIy, pbq, pNz, pIw, zCf, zCk]
      rw [if_neg (by omega)]
      by_cases c3 : nw (80 + d) = 3 <;> by_cases c4 : j = 4 <;> simp [c3, c4]
    · show FL_X10_byteAt_62 td nw (nI d) (nI i) (n + 1) (nw (80 + d)) a (nI (7 + zPt (tT m td) d)) = _
      simp (disch := omega) only [FL_X10_byteAt_62, pIx, pCl, pLe, pLt, pEq, pNm, pS1, pA0, pA8, pA16, pA24, pA32, pA40, pA48, pA56, pA64, pA72, pA80, pA88, pBs, pE8, pb0, pb1, pbo, if_true, if_false, pIy, pbq, pNz, pIw, rLong (m := m), e0]
      rw [p_87]
      simp (disch := omega) only [pIx, pCl, pLe, pLt, pEq, pNm, pS1, pA0, pA8, pA16, pA24, pA32, pA40, pA48, pA56, pA64, pA72, pA80, pA88, pBs, pE8, pb0, pb1, pbo, if_true, if_false, pIy, pbq, pNz, pIw]
      rw [if_pos (Nat.le_refl _)]
      by_cases c2 : nw (80 + d) = 2 <;> simp [c2]
def zSf (T : Nat → Nat → Int32) (N : Nat → Int32) (d i : Nat) (a : Int32) : Int32 := a + zBy T N d i
def zRight (T : Nat → Nat → Int32) (N : Nat → Int32) (d : Nat) : Bool := decide ((pF (zSf T N d) (8 + zPt T d) 0 0) &&& 255 = 0) && decide (zBy T N d 0 = 8 + zBy T N d 4)
theorem zBy_b {m : Nat} {T : Nat → Nat → Int32} {N : Nat → Int32} {d i : Nat} (hT : wT m T) (hd : d < m) (hi : i < 12) : ∃ c, zBy T N d i = nI c ∧ c < 256 := by
  unfold zBy
  by_cases c : i < 7 + zPt T d
  · rw [if_pos c]
    by_cases c2 : i = 0 ∧ N (80 + d) = 1
    · rw [if_pos c2]; exact ⟨3, rfl, by omega⟩
    · rw [if_neg c2]
      have := (zPt_e hT hd).1
      obtain ⟨b, h1, h2⟩ := zCk_b (N := N) hT hd (show i < 11 from by omega)
      refine ⟨b, h1, ?_⟩
      split at h2 <;> omega
  · rw [if_neg c]
    have := (zPt_e hT hd).1
    obtain ⟨s, hs, es⟩ := zSum_b (N := N) hT hd (show 7 + zPt T d ≤ 11 from by omega)
    rw [es]
    have h1 : ∀ s : Fin 256, (-(nI s.1)) &&& 255 = nI ((256 - s.1) % 256) := by decide +kernel
    have h2 : ∀ s : Fin 256, (1 - (nI s.1)) &&& 255 = nI ((257 - s.1) % 256) := by decide +kernel
    by_cases c2 : N (80 + d) = 2
    · rw [if_pos c2]; exact ⟨_, h2 ⟨s, hs⟩, by omega⟩
    · rw [if_neg c2]; exact ⟨_, h1 ⟨s, hs⟩, by omega⟩
theorem zSum2_b {m : Nat} {T : Nat → Nat → Int32} {N : Nat → Int32} {d n : Nat} (hT : wT m T) (hd : d < m) (hn : n ≤ 12) : ∃ s, s < 4096 ∧ pF (zSf T N d) n 0 0 = nI s := by
  have := pF_inv (g := zSf T N d) (fun j a => ∃ s, a = nI s ∧ s ≤ 256 * j) n 0 0 (fun i a _ hi hI => by
    obtain ⟨s, rfl, hs⟩ := hI
    obtain ⟨c, hc, hb⟩ := zBy_b (N := N) hT hd (show i < 12 from by omega)
    exact ⟨s + c, by unfold zSf; rw [hc, nI_add], by omega⟩) ⟨0, rfl, by simp⟩
  obtain ⟨s, h1, h2⟩ := this
  exact ⟨s, by omega, h1⟩
theorem p_mod0 : ∀ (h : Fin 16) (l : Fin 256), (nI (256 * h.1 + l.1) - nI (256 * h.1 + l.1) / 256 * 256 = 0) ↔ (nI (256 * h.1 + l.1) &&& 255 = 0) := by decide +kernel
theorem p_mod (s : Nat) (hs : s < 4096) : (nI s - nI s / 256 * 256 = 0) ↔ (nI s &&& 255 = 0) := by
  have := p_mod0 ⟨s / 256, by omega⟩ ⟨s % 256, by omega⟩
  simp only [Nat.div_add_mod] at this
  exact this
theorem p_80 (p : Nat) : (8 : Int32) + nI p = nI (8 + p) := pA8 p
theorem rRight1 {m : Nat} {td nw : Nat → Int32} {d : Nat} (hm : m ≤ 8) (hT : wT m (tT m td)) (hd : d < m) : F_X10_isRight td nw (nI d) = some (pb (zRight (tT m td) (nz nw) d)) := by
  obtain ⟨hp, e0⟩ := zPt_e hT hd
  unfold F_X10_isRight zRight
  have hl := pLoop0 (m := 8 + zPt (tT m td) d) (L := fun n x a => FL_X10_isRight_4 td nw (nI d) n a x) (g := zSf (tT m td) (nz nw) d) (fin := fun a => pb (decide (a - a / 256 * 256 = 0) && decide (zBy (tT m td) (nz nw) d 0 = 8 + zBy (tT m td) (nz nw) d 4))) (fun n j a hj => ?_) (fun n a => ?_) 1000 0 (by omega)
  · refine hl.trans ?_
    obtain ⟨s, hs, es⟩ := zSum2_b (N := nz nw) hT hd (show 8 + zPt (tT m td) d ≤ 12 from by omega)
    rw [es]
    have h1 := p_mod s hs
    congr 2
    rw [decide_eq_decide.mpr h1]
  · show FL_X10_isRight_4 td nw (nI d) (n + 1) a (nI j) = _
    simp (disch := omega) only [FL_X10_isRight_4, pIx, pCl, pLe, pLt, pEq, pNm, pS1, pA0, pA8, pA16, pA24, pA32, pA40, pA48, pA56, pA64, pA72, pA80, pA88, pBs, pE8, pb0, pb1, pbo, if_true, if_false, pIy, pbq, pNz, pIw, rLong (m := m), e0, rByte hm hT hd (show j < 12 from by omega), zSf]
    rw [if_neg (by omega)]
  · show FL_X10_isRight_4 td nw (nI d) (n + 1) a (nI (8 + zPt (tT m td) d)) = _
    have b0 := rByte (nw := nw) hm hT hd (show 0 < 12 from by omega)
    have b4 := rByte (nw := nw) hm hT hd (show 4 < 12 from by omega)
    simp (disch := omega) only [FL_X10_isRight_4, pIx, pCl, pLe, pLt, pEq, pNm, pS1, pA0, pA8, pA16, pA24, pA32, pA40, pA48, pA56, pA64, pA72, pA80, pA88, pBs, pE8, pb0, pb1, pbo, if_true, if_false, pIy, pbq, pNz, pIw, rLong (m := m), e0]
    rw [if_pos (Nat.le_refl _), show F_X10_byteAt td nw (nI d) 0 = _ from b0, show F_X10_byteAt td nw (nI d) 4 = _ from b4]
    simp only [pBs]
    by_cases c : a - a / 256 * 256 = 0 <;> by_cases c2 : zBy (tT m td) (nz nw) d 0 = 8 + zBy (tT m td) (nz nw) d 4 <;> simp [c, c2, pb]
theorem cCk {m : Nat} {fr fu fp : Nat → Int32} {d k : Nat} (hm : m ≤ 8) (hd : d < m) (hk : k < 12) : F_X0_byteChecked fr (nI m) fu fp (nI d) (nI k) = some (zCk (tP m fp) (nz fr) d k) := by
  unfold F_X0_byteChecked zCk zTB
  simp (disch := omega) only [pIx, pCl, pLe, pLt, pEq, pNm, pS1, pA0, pA8, pA16, pA24, pA32, pA40, pA48, pA56, pA64, pA72, pA80, pA88, pBs, pE8, pb0, pb1, pbo, if_true, if_false, pIy, pbq, pNz, pIw, tP0 (m := m), tP1 (m := m), tP2 (m := m), tP3 (m := m), tP4 (m := m), pE0z, pE1z, pE2z, pE3z, pE4z, pE5z, pE6z]
  by_cases c0 : k = 0
  · simp [c0]
  by_cases c1 : k = 1
  · by_cases c : fp d ≤ 0 <;> simp [c1, c]
  by_cases c2 : k = 2
  · simp [c2]
  by_cases c3 : k = 3
  · simp [c3]
  by_cases c4 : k = 4
  · by_cases c : fr (80 + d) = 3 <;> simp [c4, c]
  by_cases c5 : k = 5
  · simp [c5]
  by_cases c6 : k = 6
  · simp [c6]
  simp [c0, c1, c2, c3, c4, c5, c6]
theorem p_7 (p : Nat) : (7 : Int32) + nI p = nI (7 + p) := nI_add 7 p
theorem cByte {m : Nat} {fr fu fp : Nat → Int32} {d i : Nat} (hm : m ≤ 8) (hT : wT m (tP m fp)) (hd : d < m) (hi : i < 12) : F_X0_byteOf fr (nI m) fu fp (nI d) (nI i) = some (zBy (tP m fp) (nz fr) d i) := by
  obtain ⟨hp, e0⟩ := zPt_e hT hd
  rw [tP0 hm (by omega)] at e0
  unfold F_X0_byteOf zBy
  simp (disch := omega) only [pIx, pCl, pLe, pLt, pEq, pNm, pS1, pA0, pA8, pA16, pA24, pA32, pA40, pA48, pA56, pA64, pA72, pA80, pA88, pBs, pE8, pb0, pb1, pbo, if_true, if_false, pIy, pbq, pNz, pIw, e0, pE0z, p_7, cCk]
  by_cases c : i < 7 + zPt (tP m fp) d
  · rw [if_neg (by omega), if_pos c]
    by_cases c1 : fr (80 + d) = 1 <;> by_cases ci : i = 0 <;> simp [c1, ci]
  · rw [if_pos (by omega), if_neg c]
    have hl := pLoop0 (m := 7 + zPt (tP m fp) d) (L := fun n x a => FL_X0_byteOf_54 fr (nI m) fu fp (nI d) (nI i) n (nI (7 + zPt (tP m fp) d)) a x) (g := zCf (tP m fp) (nz fr) d) (fin := fun a => (if nz fr (80 + d) = 2 then 1 - a else -a) &&& 255) (fun n j a hj => ?_) (fun n a => ?_) 1000 0 (by omega)
    · rw [pNz (by omega)] at hl; exact hl
    · show FL_X0_byteOf_54 fr (nI m) fu fp (nI d) (nI i) (n + 1) _ a (nI j) = _
      simp (disch := omega) only [FL_X0_byteOf_54, pIx, pCl, pLe, pLt, pEq, pNm, pS1, pA0, pA8, pA16, pA24, pA32, pA40, pA48, pA56, pA64, pA72, pA80, pA88, pBs, pE8, pb0, pb1, pbo, if_true, if_false, pIy, pbq, pNz, pIw, cCk, zCf]
      rw [if_neg (by omega)]
    · show FL_X0_byteOf_54 fr (nI m) fu fp (nI d) (nI i) (n + 1) _ a (nI (7 + zPt (tP m fp) d)) = _
      simp (disch := omega) only [FL_X0_byteOf_54, pIx, pCl, pLe, pLt, pEq, pNm, pS1, pA0, pA8, pA16, pA24, pA32, pA40, pA48, pA56, pA64, pA72, pA80, pA88, pBs, pE8, pb0, pb1, pbo, if_true, if_false, pIy, pbq, pNz, pIw]
      rw [if_pos (Nat.le_refl _)]
      by_cases c2 : fr (80 + d) = 2 <;> simp [c2]
theorem cSound {m : Nat} {fr fu fp : Nat → Int32} {d : Nat} (hm : m ≤ 8) (hT : wT m (tP m fp)) (hd : d < m) : F_X0_isSound fr (nI m) fu fp (nI d) = some (pb (zRight (tP m fp) (nz fr) d)) := by
  obtain ⟨hp, e0⟩ := zPt_e hT hd
  rw [tP0 hm (by omega)] at e0
  unfold F_X0_isSound zRight
  have hl := pLoop0 (m := 8 + zPt (tP m fp) d) (L := fun n x a => FL_X0_isSound_4 fr (nI m) fu fp (nI d) n a x) (g := zSf (tP m fp) (nz fr) d) (fin := fun a => pb (decide (a &&& 255 = 0) && decide (zBy (tP m fp) (nz fr) d 0 = 8 + zBy (tP m fp) (nz fr) d 4))) (fun n j a hj => ?_) (fun n a => ?_) 1000 0 (by omega)
  · exact hl
  · show FL_X0_isSound_4 fr (nI m) fu fp (nI d) (n + 1) a (nI j) = _
    simp (disch := omega) only [FL_X0_isSound_4, F_X5_lengthOf, pIx, pCl, pLe, pLt, pEq, pNm, pS1, pA0, pA8, pA16, pA24, pA32, pA40, pA48, pA56, pA64, pA72, pA80, pA88, pBs, pE8, pb0, pb1, pbo, if_true, if_false, pIy, pbq, pNz, pIw, e0, cByte hm hT hd (show j < 12 from by omega), zSf]
    rw [if_neg (by omega)]
  · show FL_X0_isSound_4 fr (nI m) fu fp (nI d) (n + 1) a (nI (8 + zPt (tP m fp) d)) = _
    have b0 := cByte (fr := fr) (fu := fu) hm hT hd (show 0 < 12 from by omega)
    have b4 := cByte (fr := fr) (fu := fu) hm hT hd (show 4 < 12 from by omega)
    simp (disch := omega) only [FL_X0_isSound_4, F_X5_lengthOf, pIx, pCl, pLe, pLt, pEq, pNm, pS1, pA0, pA8, pA16, pA24, pA32, pA40, pA48, pA56, pA64, pA72, pA80, pA88, pBs, pE8, pb0, pb1, pbo, if_true, if_false, pIy, pbq, pNz, pIw, e0]
    rw [if_pos (Nat.le_refl _), show F_X0_byteOf fr (nI m) fu fp (nI d) 0 = _ from b0, show F_X0_byteOf fr (nI m) fu fp (nI d) 4 = _ from b4]
    simp only [pBs]
    by_cases c : a &&& 255 = 0 <;> by_cases c2 : zBy (tP m fp) (nz fr) d 0 = 8 + zBy (tP m fp) (nz fr) d 4 <;> simp [c, c2, pb]
