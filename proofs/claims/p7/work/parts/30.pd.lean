/-! the tree: who hangs where, climbing -/
def wR (m : Nat) (N : Nat → Int32) (r : Nat → Nat) : Prop := ∀ d, d < m → N d ≠ 0 → r d < 8 ∧ ∃ h, N (32 + d) = nI h ∧ (h = 8 ∨ (h < m ∧ N h ≠ 0 ∧ r h < r d))
def wF (m : Nat) (N : Nat → Int32) : Prop := ∀ d, d < m → N d = 0 → N (32 + d) = -1
def wP (m : Nat) (N : Nat → Int32) (r : Nat → Nat) (k c : Nat) : Prop := c = 8 ∨ (c < m ∧ N c ≠ 0 ∧ r c < k)
theorem wP.up {m : Nat} {N : Nat → Int32} {r : Nat → Nat} {k c : Nat} (hw : wR m N r) (h : wP m N r (k + 1) c) (h8 : c ≠ 8) : c < m ∧ ∃ h, N (32 + c) = nI h ∧ wP m N r k h := by
  rcases h with h | ⟨h1, h2, h3⟩
  · exact absurd h h8
  · obtain ⟨h4, h, h5, h6⟩ := hw c h1 h2
    refine ⟨h1, h, h5, ?_⟩
    rcases h6 with h6 | ⟨h6, h7, h9⟩
    · exact Or.inl h6
    · exact Or.inr ⟨h6, h7, by omega⟩
theorem wP.zero {m : Nat} {N : Nat → Int32} {r : Nat → Nat} {c : Nat} (h : wP m N r 0 c) : c = 8 := by
  rcases h with h | ⟨_, _, h⟩
  · exact h
  · omega
theorem wP.le {m : Nat} {N : Nat → Int32} {r : Nat → Nat} {k c : Nat} (hm : m ≤ 8) (h : wP m N r k c) : c ≤ 8 := by
  rcases h with h | ⟨h, _, _⟩ <;> omega
theorem wP.of {m : Nat} {N : Nat → Int32} {r : Nat → Nat} {d : Nat} (hw : wR m N r) (hd : d < m) (h : N d ≠ 0) : ∃ c, N (32 + d) = nI c ∧ wP m N r 7 c := by
  obtain ⟨h1, c, h2, h3⟩ := hw d hd h
  refine ⟨c, h2, ?_⟩
  rcases h3 with h3 | ⟨h3, h4, h5⟩
  · exact Or.inl h3
  · exact Or.inr ⟨h3, h4, by omega⟩
theorem p8Le {c : Nat} (h : c < 2147483648) : (8 ≤ nI c) = (8 ≤ c) := pLe (a := 8) (by decide) h
/-- climbing, up to so many steps, till it stops -/
def zCl (N : Nat → Int32) (p : Int32 → Bool) : Nat → Int32 → Int32
  | 0, h => h
  | k + 1, h => if h < 0 ∨ 8 ≤ h then h else if p h = true then h else zCl N p k (N (32 + h.toNatClampNeg))
theorem zCl_8 (N : Nat → Int32) (p : Int32 → Bool) : ∀ k, zCl N p k (nI 8) = nI 8
  | 0 => rfl
  | k + 1 => by unfold zCl; exact if_pos (by decide)
theorem zCl_m (N : Nat → Int32) (p : Int32 → Bool) : ∀ k, zCl N p k (-1) = -1
  | 0 => rfl
  | k + 1 => by unfold zCl; exact if_pos (by decide)
theorem zCl_s {N : Nat → Int32} {p : Int32 → Bool} {k c : Nat} (h : c < 8) : zCl N p (k + 1) (nI c) = if p (nI c) = true then nI c else zCl N p k (N (32 + c)) := by
  show (if nI c < 0 ∨ 8 ≤ nI c then _ else _) = _
  rw [if_neg (fun e => e.elim (nI_pos (by omega)) (fun e => by rw [p8Le (by omega)] at e; omega)), pCl (by omega)]
def zHang (N : Nat → Int32) (d : Nat) (hub : Int32) : Bool := decide (zCl N (fun h => decide (h = hub)) 8 (N (32 + d)) = hub)
theorem rBenL {m : Nat} {nw : Nat → Int32} {r : Nat → Nat} {z : Int32} {h : Nat} (hm : m ≤ 8) (hw : wR m (nz nw) r) (hh : h ≤ 8) : ∀ (k n c : Nat), k < n → wP m (nz nw) r k c → FL_X10_isBeneath_22 nw z (nI h) n (nI c) = some (pb (decide (zCl (nz nw) (fun x => decide (x = nI h)) (k + 1) (nI c) = nI h)))
  | _, 0, c, hn, hc => absurd hn (by omega)
  | 0, n + 1, c, hn, hc => by
    obtain rfl := hc.zero
    rw [zCl_8]
    simp (disch := omega) only [FL_X10_isBeneath_22, pIx, pCl, pLe, pLt, pEq, pNm, pS1, pA0, pA8, pA16, pA24, pA32, pA40, pA48, pA56, pA64, pA72, pA80, pA88, pBs, pE8, pb0, pb1, pbo, if_true, if_false, pIy, pbq, pNz, pIw]
    by_cases c1 : 8 = h
    · simp [c1, pb]
    · simp [c1, pb]
  | k + 1, n + 1, c, hn, hc => by
    by_cases c8 : c = 8
    · subst c8
      rw [zCl_8]
      simp (disch := omega) only [FL_X10_isBeneath_22, pIx, pCl, pLe, pLt, pEq, pNm, pS1, pA0, pA8, pA16, pA24, pA32, pA40, pA48, pA56, pA64, pA72, pA80, pA88, pBs, pE8, pb0, pb1, pbo, if_true, if_false, pIy, pbq, pNz, pIw]
      by_cases c1 : 8 = h
      · simp [c1, pb]
      · simp [c1, pb]
    · obtain ⟨h1, b, h2, h3⟩ := hc.up hw c8
      have h2' : nw (32 + c) = nI b := by rw [← h2, pNz (by omega)]
      rw [zCl_s (by omega), h2]
      by_cases c1 : c = h
      · subst c1
        simp (disch := omega) only [FL_X10_isBeneath_22, pIx, pCl, pLe, pLt, pEq, pNm, pS1, pA0, pA8, pA16, pA24, pA32, pA40, pA48, pA56, pA64, pA72, pA80, pA88, pBs, pE8, pb0, pb1, pbo, if_true, if_false, pIy, pbq, pNz, pIw]
        simp [c8, pb]
      · have := rBenL (z := z) hm hw hh k n b (by omega) h3
        simp (disch := omega) only [FL_X10_isBeneath_22, pIx, pCl, pLe, pLt, pEq, pNm, pS1, pA0, pA8, pA16, pA24, pA32, pA40, pA48, pA56, pA64, pA72, pA80, pA88, pBs, pE8, pb0, pb1, pbo, if_true, if_false, pIy, pbq, pNz, pIw, h2']
        rw [if_neg c8, if_neg c1, this]
        simp (disch := omega) only [pEq, c1, decide_false, Bool.false_eq_true, if_false]
theorem zCl_more {m : Nat} {N : Nat → Int32} {r : Nat → Nat} {p : Int32 → Bool} (hm : m ≤ 8) (hw : wR m N r) : ∀ (k j c : Nat), wP m N r k c → zCl N p (j + k) (nI c) = zCl N p k (nI c)
  | 0, j, c, hc => by obtain rfl := hc.zero; rw [zCl_8, zCl_8]
  | k + 1, j, c, hc => by
    by_cases c8 : c = 8
    · subst c8; rw [zCl_8, zCl_8]
    · obtain ⟨h1, b, h2, h3⟩ := hc.up hw c8
      rw [show j + (k + 1) = (j + k) + 1 from by omega, zCl_s (by omega), zCl_s (by omega), h2, zCl_more hm hw k j b h3]
theorem rBeneath1 {m : Nat} {nw : Nat → Int32} {r : Nat → Nat} {d h : Nat} (hm : m ≤ 8) (hw : wR m (nz nw) r) (hf : wF m (nz nw)) (hd : d < m) (hh : h ≤ 8) : F_X10_isBeneath nw (nI d) (nI h) = some (pb (zHang (nz nw) d (nI h))) := by
  unfold F_X10_isBeneath zHang
  by_cases cz : nz nw d = 0
  · have c : nw d = 0 := by rw [← cz, pNz (by omega)]
    rw [hf d hd cz, zCl_m]
    simp (disch := omega) only [pIx, pCl, pLe, pLt, pEq, pNm, pS1, pA0, pA8, pA16, pA24, pA32, pA40, pA48, pA56, pA64, pA72, pA80, pA88, pBs, pE8, pb0, pb1, pbo, if_true, if_false, pIy, pbq, pNz, pIw, rState]
    rw [if_pos c]
    have e : ¬ (-1 : Int32) = nI h := fun e => by have := pNm (a := h) (by omega); rw [← this]; exact e.symm
    have g : ∀ n, FL_X10_isBeneath_22 nw (nI d) (nI h) (n + 1) (-1) = some (pb (decide (-1 = nI h))) := fun n => by
      simp only [FL_X10_isBeneath_22]
      simp [e, pb]
    exact g 999
  · have c : ¬ nw d = 0 := by rw [← pNz (N := nw) (k := d) (by omega)]; exact cz
    obtain ⟨c2, h2, h3⟩ := wP.of hw hd cz
    have h2' : nw (32 + d) = nI c2 := by rw [← h2, pNz (by omega)]
    rw [h2]
    simp (disch := omega) only [pIx, pCl, pLe, pLt, pEq, pNm, pS1, pA0, pA8, pA16, pA24, pA32, pA40, pA48, pA56, pA64, pA72, pA80, pA88, pBs, pE8, pb0, pb1, pbo, if_true, if_false, pIy, pbq, pNz, pIw, rState, h2']
    rw [if_neg c]
    exact rBenL hm hw hh 7 1000 c2 (by omega) h3
def zDp (N : Nat → Int32) : Nat → Int32 → Int32 → Int32
  | 0, _, a => a
  | k + 1, h, a => if h < 0 ∨ 8 ≤ h then a else zDp N k (N (32 + h.toNatClampNeg)) (if N (32 + h.toNatClampNeg) = -1 then a + 0 else a + 1)
theorem zDp_8 (N : Nat → Int32) (a : Int32) : ∀ k, zDp N k (nI 8) a = a
  | 0 => rfl
  | k + 1 => by unfold zDp; exact if_pos (by decide)
theorem zDp_m (N : Nat → Int32) (a : Int32) : ∀ k, zDp N k (-1) a = a
  | 0 => rfl
  | k + 1 => by unfold zDp; exact if_pos (by decide)
theorem zDp_s {N : Nat → Int32} {k c : Nat} {a : Int32} (h : c < 8) : zDp N (k + 1) (nI c) a = zDp N k (N (32 + c)) (if N (32 + c) = -1 then a + 0 else a + 1) := by
  show (if nI c < 0 ∨ 8 ≤ nI c then _ else _) = _
  rw [if_neg (fun e => e.elim (nI_pos (by omega)) (fun e => by rw [p8Le (by omega)] at e; omega)), pCl (by omega)]
def zDepth (N : Nat → Int32) (d : Nat) : Int32 := zDp N 8 (nI d) 0
theorem rDepL {m : Nat} {nw : Nat → Int32} {r : Nat → Nat} {d : Nat} (hm : m ≤ 8) (hw : wR m (nz nw) r) (hd : d < m) (hn : nz nw d ≠ 0) : ∀ (k n c : Nat) (a : Int32), k < n → wP m (nz nw) r k c → FL_X10_depthOf_4 nw (nI d) n a (nI c) = some (zDp (nz nw) k (nI c) a)
  | _, 0, c, a, hn, hc => absurd hn (by omega)
  | 0, n + 1, c, a, _, hc => by
    obtain rfl := hc.zero
    rw [zDp_8]
    simp (disch := omega) only [FL_X10_depthOf_4, pIx, pCl, pLe, pLt, pEq, pNm, pS1, pA0, pA8, pA16, pA24, pA32, pA40, pA48, pA56, pA64, pA72, pA80, pA88, pBs, pE8, pb0, pb1, pbo, if_true, if_false, pIy, pbq, pNz, pIw, rState]
    have hn' : ¬ nw d = 0 := by rw [← pNz (N := nw) (k := d) (by omega)]; exact hn
    simp [hn']
  | k + 1, n + 1, c, a, hk, hc => by
    by_cases c8 : c = 8
    · subst c8
      rw [zDp_8]
      simp (disch := omega) only [FL_X10_depthOf_4, pIx, pCl, pLe, pLt, pEq, pNm, pS1, pA0, pA8, pA16, pA24, pA32, pA40, pA48, pA56, pA64, pA72, pA80, pA88, pBs, pE8, pb0, pb1, pbo, if_true, if_false, pIy, pbq, pNz, pIw, rState]
      have hn' : ¬ nw d = 0 := by rw [← pNz (N := nw) (k := d) (by omega)]; exact hn
      simp [hn']
    · obtain ⟨h1, b, h2, h3⟩ := hc.up hw c8
      have h2' : nw (32 + c) = nI b := by rw [← h2, pNz (by omega)]
      rw [zDp_s (by omega), h2]
      have := rDepL hm hw hd hn k n b (a + 1) (by omega) h3
      have hb := h3.le hm
      simp (disch := omega) only [FL_X10_depthOf_4, pIx, pCl, pLe, pLt, pEq, pNm, pS1, pA0, pA8, pA16, pA24, pA32, pA40, pA48, pA56, pA64, pA72, pA80, pA88, pBs, pE8, pb0, pb1, pbo, if_true, if_false, pIy, pbq, pNz, pIw, h2']
      rw [if_neg c8, this]
theorem rDepth {m : Nat} {nw : Nat → Int32} {r : Nat → Nat} {d : Nat} (hm : m ≤ 8) (hw : wR m (nz nw) r) (hf : wF m (nz nw)) (hd : d < m) : F_X10_depthOf nw (nI d) = some (zDepth (nz nw) d) := by
  unfold F_X10_depthOf zDepth
  by_cases cz : nz nw d = 0
  · have c : nw d = 0 := by rw [← cz, pNz (by omega)]
    have h' : nw (32 + d) = -1 := by rw [← hf d hd cz, pNz (by omega)]
    rw [zDp_s (by omega), hf d hd cz, zDp_m]
    have g : ∀ n, FL_X10_depthOf_4 nw (nI d) (n + 1 + 1) 0 (nI d) = some 0 := fun n => by
      simp (disch := omega) only [FL_X10_depthOf_4, pIx, pCl, pLe, pLt, pEq, pNm, pS1, pA0, pA8, pA16, pA24, pA32, pA40, pA48, pA56, pA64, pA72, pA80, pA88, pBs, pE8, pb0, pb1, pbo, if_true, if_false, pIy, pbq, pNz, pIw, h', rState, c]
      rw [if_neg (by omega)]
      rfl
    rw [if_pos rfl]
    exact g 998
  · exact rDepL hm hw hd cz 8 1000 d 0 (by omega) (Or.inr ⟨hd, cz, (hw d hd cz).1⟩)
def zAbv (N : Nat → Int32) (d : Nat) : Int32 := zCl N (fun h => decide (N (48 + h.toNatClampNeg) = 2)) 8 (N (32 + d))
def zHlp (N : Nat → Int32) (d : Nat) : Int32 := if N (48 + d) = -1 ∨ N (48 + d) = 2 then -1 else zAbv N d
theorem rHlpL {m : Nat} {nw : Nat → Int32} {r : Nat → Nat} {z : Int32} (hm : m ≤ 8) (hw : wR m (nz nw) r) : ∀ (k n c : Nat), k < n → wP m (nz nw) r k c → FL_X10_helperOf_38 nw z n (nI c) = some (zCl (nz nw) (fun h => decide (nz nw (48 + h.toNatClampNeg) = 2)) (k + 1) (nI c))
  | _, 0, c, hn, hc => absurd hn (by omega)
  | 0, n + 1, c, _, hc => by
    obtain rfl := hc.zero
    rw [zCl_8]
    rfl
  | k + 1, n + 1, c, hk, hc => by
    by_cases c8 : c = 8
    · subst c8
      rw [zCl_8]
      rfl
    · obtain ⟨h1, b, h2, h3⟩ := hc.up hw c8
      have h2' : nw (32 + c) = nI b := by rw [← h2, pNz (by omega)]
      have := rHlpL (z := z) hm hw k n b (by omega) h3
      rw [zCl_s (by omega), h2, pCl (by omega)]
      simp (disch := omega) only [FL_X10_helperOf_38, pIx, pCl, pLe, pLt, pEq, pNm, pS1, pA0, pA8, pA16, pA24, pA32, pA40, pA48, pA56, pA64, pA72, pA80, pA88, pBs, pE8, pb0, pb1, pbo, if_true, if_false, pIy, pbq, pNz, pIw, rSpeed, zSpd, h2', this, c8]
      by_cases c2 : nw (48 + c) = 2 <;> simp [c2]
theorem rHelper {m : Nat} {nw : Nat → Int32} {r : Nat → Nat} {d : Nat} (hm : m ≤ 8) (hw : wR m (nz nw) r) (hd : d < m) (hr : nz nw (48 + d) ≠ -1 → nz nw d ≠ 0) : F_X10_helperOf nw (nI d) = some (zHlp (nz nw) d) := by
  unfold F_X10_helperOf zHlp
  simp (disch := omega) only [pIx, pCl, pLe, pLt, pEq, pNm, pS1, pA0, pA8, pA16, pA24, pA32, pA40, pA48, pA56, pA64, pA72, pA80, pA88, pBs, pE8, pb0, pb1, pbo, if_true, if_false, pIy, pbq, pNz, pIw]
  have hr' : nw (48 + d) ≠ -1 → nz nw d ≠ 0 := by rw [← pNz (N := nw) (k := 48 + d) (by omega)]; exact hr
  by_cases c : nw (48 + d) = -1
  · simp [c]
  · by_cases c2 : nw (48 + d) = 2
    · simp [c2]
    · obtain ⟨b, h2, h3⟩ := wP.of hw hd (hr' c)
      have h2' : nw (32 + d) = nI b := by rw [← h2, pNz (by omega)]
      rw [if_neg c, if_neg c2, if_neg (by simp [c, c2])]
      unfold zAbv
      rw [h2, h2']
      exact rHlpL hm hw 7 1000 b (by omega) h3
