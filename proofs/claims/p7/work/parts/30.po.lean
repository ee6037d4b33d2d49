/-! a tick -/
def zS (m : Nat) (N : Nat → Int32) : Int32 := pFd (zBsy (nSettle m N)) m 0
def zF (m : Nat) (T : Nat → Nat → Int32) (N : Nat → Int32) : Bool := !decide (zS m N = -1) && zFlG T (nSettle m N) (zS m N).toNatClampNeg
def zGone (m t : Nat) (R : Nat → Int32) (T : Nat → Nat → Int32) (N : Nat → Int32) (v : Int32) : Nat → Int32 := if zS m N = -1 then nSettle m N else nGo m t R T (nSettle m N) (zS m N).toNatClampNeg v
/-- a tick but for the time -/
def zTk (m t : Nat) (R : Nat → Int32) (T : Nat → Nat → Int32) (N : Nat → Int32) (v : Int32) : Nat → Int32 := nTail m R (zGone m t R T N v)
def zV (m : Nat) (N f : Nat → Int32) : Int32 := f (24 + (zS m N).toNatClampNeg)
def nfT (m : Nat) (T : Nat → Nat → Int32) (N f : Nat → Int32) : Nat → Int32 := if zF m T N = true then upd (nf f) (24 + (zS m N).toNatClampNeg) (zV m N f + 1) else nf f
theorem zS_c (m : Nat) (N : Nat → Int32) : zS m N = -1 ∨ ∃ d, d < m ∧ zS m N = nI d ∧ zBsy (nSettle m N) d = true := by
  rcases pFd_cases (zBsy (nSettle m N)) m 0 with ⟨h, -⟩ | ⟨i, -, hi, h, hb, -⟩
  · exact Or.inl h
  · exact Or.inr ⟨i, by omega, h, hb⟩
theorem zGone_iT {m t : Nat} {R : Nat → Int32} {T : Nat → Nat → Int32} {N : Nat → Int32} {v : Int32} (hm : m ≤ 8) (hT : wT m T) (h : iT m T N) : iT m T (zGone m t R T N v) := by
  unfold zGone
  rcases zS_c m N with q | ⟨d, hd, q, hb⟩
  · rw [if_pos q]; exact nSettle_iT hm h
  · rw [q, if_neg (by rw [pNm (by omega)]; exact id), pCl (by omega)]
    exact nGo_iT hm hT (nSettle_iT hm h) hd hb
theorem zTk_iT {m t : Nat} {R : Nat → Int32} {T : Nat → Nat → Int32} {N : Nat → Int32} {v : Int32} (hm : m ≤ 8) (hR : wRu R t) (hT : wT m T) (h : iT m T N) : iT m T (zTk m t R T N v) :=
  nTail_iT hm hR.2.2.2.1 (zGone_iT hm hT h)
theorem rTail {m : Nat} {ru f : Nat → Int32} (hm : m ≤ 8) (hi : iN m (nz f)) : ∃ g, ((F_X10_busy (nI m) f).bind fun o_6 => (if o_6 = (-1) then ((F_X10_nextOne (nI m) f).bind fun o_10 => (if o_10 = (-1) then some ((upd f 96 ((f 96) + 1))) else (if (0 + o_10) < 0 ∨ 279 ≤ ((0 + o_10)).toNatClampNeg then none else (if (8 + o_10) < 0 ∨ 279 ≤ ((8 + o_10)).toNatClampNeg then none else (if (16 + o_10) < 0 ∨ 279 ≤ ((16 + o_10)).toNatClampNeg then none else ((some (((upd (upd (upd f (0 + o_10).toNatClampNeg 3) (8 + o_10).toNatClampNeg (ru 2)) (16 + o_10).toNatClampNeg 0) 96) + 1)).bind fun v_16 => some ((upd (upd (upd (upd f (0 + o_10).toNatClampNeg 3) (8 + o_10).toNatClampNeg (ru 2)) (16 + o_10).toNatClampNeg 0) 96 v_16)))))))) else some ((upd f 96 ((f 96) + 1))))) = some g ∧ nz g = nTail m ru (nz f) ∧ nf g = upd (nf f) 96 (f 96 + 1) := by
  rw [rBusy hm, pBs, (rNext hm (hi.h hm)).1]
  unfold nTail
  rw [nz_nz]
  by_cases c : pFd (zBsy (nz f)) m 0 = -1
  · rw [if_pos c, if_pos c, pBs]
    rcases next_q (m := m) (N := nz f) with q | ⟨q, hq, e, q2, q3⟩
    · rw [if_pos q, if_pos q]
      exact ⟨_, rfl, nzO (by omega), nfO (by omega)⟩
    · rw [e]
      simp (disch := omega) only [pIx, pCl, pLe, pLt, pEq, pNm, pS1, pA0, pA8, pA16, pA24, pA32, pA40, pA48, pA56, pA64, pA72, pA80, pA88, pBs, pE8, pb0, pb1, pbo, if_true, if_false, pIy, pbq, pNz, pIw]
      obtain ⟨o1, o2, o3, o4, o5, o6, o7, o8, o9⟩ := hi.2.1 q hq
      have t6 := o6 (by rw [q2]; decide)
      have t8 := o8 (by rw [q2]; decide)
      refine ⟨_, rfl, ?_, ?_⟩
      · rw [pUn (by omega), pUn (by omega), pUn (by omega), nzO (by omega), nzU (by omega), nzU (by omega), nzU (by omega)]
        funext k; simp only [nLow, upd]; grind
      · rw [pUn (by omega), pUn (by omega), pUn (by omega), nfO (by omega), nfU (by omega), nfU (by omega), nfU (by omega)]
  · rw [if_neg c, if_neg c]
    exact ⟨_, rfl, nzO (by omega), nfO (by omega)⟩
theorem rTick {m t : Nat} {ru td nw : Nat → Int32} (hm : m ≤ 8) (hR : wRu ru t) (hT : wT m (tT m td)) (hi : iT m (tT m td) (nz nw)) : ∃ f, F_X10_tickNow (nI m) ru td nw = some f ∧ nz f = zTk m t ru (tT m td) (nz nw) (zV m (nz nw) nw) ∧ nf f = upd (nfT m (tT m td) (nz nw) nw) 96 (nw 96 + 1) := by
  obtain ⟨f1, g1, z1, n1⟩ := rSettles hm hi.1
  have i1 : iT m (tT m td) (nz f1) := by rw [z1]; exact nSettle_iT hm hi
  have hfl : ∀ d, d < 8 → f1 (24 + d) = nw (24 + d) := fun d hd => by
    have this : nf f1 (24 + d) = nf nw (24 + d) := by rw [n1]
    rw [nfE (by omega), nfE (by omega)] at this; exact this
  have h96 : f1 96 = nw 96 := by
    have this : nf f1 96 = nf nw 96 := by rw [n1]
    rw [nfE (by omega), nfE (by omega)] at this; exact this
  unfold F_X10_tickNow
  rw [g1, pBs, rBusy hm, pBs]
  have es : pFd (zBsy (nz f1)) m 0 = zS m (nz nw) := by unfold zS; rw [z1]
  rw [es]
  unfold zTk zGone nfT zF
  rcases zS_c m (nz nw) with q | ⟨d, hd, q, hb⟩
  · rw [if_pos q, if_pos q]
    obtain ⟨g, h1, h2, h3⟩ := rTail (ru := ru) (f := f1) hm i1.1
    rw [rBusy hm, es] at h1
    refine ⟨g, h1, ?_, ?_⟩
    · rw [h2, z1]
    · rw [h3, n1, q, h96]; simp
  · have hne : ¬ (nI d : Int32) = -1 := by rw [pNm (by omega)]; exact id
    rw [q, if_neg hne, if_neg hne, pCl (by omega)]
    rw [← z1] at hb
    obtain ⟨f2, g2, z2, n2⟩ := rGoesOn (ru := ru) (td := td) hm hR hT i1.1 hd hb
    have i2 : iT m (tT m td) (nz f2) := by rw [z2]; exact nGo_iT hm hT i1 hd hb
    rw [pBs, g2, pBs]
    obtain ⟨g, h1, h2, h3⟩ := rTail (ru := ru) (f := f2) hm i2.1
    have ev : f1 (24 + d) = zV m (nz nw) nw := by
      unfold zV; rw [q, pCl (by omega)]; exact hfl d (by omega)
    refine ⟨g, h1, ?_, ?_⟩
    · rw [h2, z2, z1, ev]
    · have h96' : f2 96 = nw 96 := by
        have this : nf f2 96 = nf f1 96 := by rw [n2]; split; exact pUn (by omega); rfl
        rw [nfE (by omega), nfE (by omega)] at this; exact this.trans h96
      rw [h3, n2, z1, n1, ev, h96']
      by_cases c : zFlG (tT m td) (nSettle m (nz nw)) d = true
      · simp [c, hne]
      · simp [c, hne]
