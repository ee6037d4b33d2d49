/-! a tick, the program's -/
def cCap (x : Int32) : Int32 := if 9999 < x + 1 then 9999 else x + 1
theorem cTail {m : Nat} {fu fp f : Nat → Int32} (hm : m ≤ 8) (hi : iN m (nz f)) : ∃ g, ((F_X0_standing f (nI m) fu fp).bind fun o_6 => (if o_6 = (-1) then ((F_X0_firstInLine f (nI m) fu fp).bind fun o_10 => (if o_10 = (-1) then some (upd f 96 (if 9999 < ((f 96) + 1) then 9999 else ((f 96) + 1))) else ((F_X0_lower f (nI m) fu fp o_10 3).bind fun o_13 => (if (8 + o_10) < 0 ∨ 98 ≤ ((8 + o_10)).toNatClampNeg then none else some (upd (upd (o_13) (8 + o_10).toNatClampNeg (fu 2)) 96 (if 9999 < (((upd (o_13) (8 + o_10).toNatClampNeg (fu 2)) 96) + 1) then 9999 else (((upd (o_13) (8 + o_10).toNatClampNeg (fu 2)) 96) + 1))))))) else some (upd f 96 (if 9999 < ((f 96) + 1) then 9999 else ((f 96) + 1))))) = some g ∧ nz g = nTail m fu (nz f) ∧ nf g = upd (nf f) 96 (cCap (f 96)) := by
  rw [cStanding hm, pBs, (cNext hm (hi.h hm) hi.f).1]
  unfold nTail cCap
  rw [nz_nz]
  by_cases c : pFd (zBsy (nz f)) m 0 = -1
  · rw [if_pos c, if_pos c, pBs]
    rcases next_q (m := m) (N := nz f) with q | ⟨q, hq, e, q2, q3⟩
    · rw [if_pos q, if_pos q]
      exact ⟨_, rfl, nzO (by omega), nfO (by omega)⟩
    · rw [e]
      simp (disch := omega) only [pIx, pCl, pLe, pLt, pEq, pNm, pS1, pA0, pA8, pA16, pA24, pA32, pA40, pA48, pA56, pA64, pA72, pA80, pA88, pBs, pE8, pb0, pb1, pbo, if_true, if_false, pIy, pbq, pNz, pIw, cLower]
      have h96 : upd (nLow f q 3) (8 + q) (fu 2) 96 = f 96 := by simp (disch := omega) only [nLow, pUn]
      rw [h96]
      refine ⟨_, rfl, ?_, ?_⟩
      · rw [nzO (by omega), nzU (by omega), nLow_nz (by omega)]
      · rw [nfO (by omega), nfU (by omega), nLow_nf (by omega)]
  · rw [if_neg c, if_neg c]
    exact ⟨_, rfl, nzO (by omega), nfO (by omega)⟩
theorem cPasses {m : Nat} {fr fu fp : Nat → Int32} {d : Nat} (hm : m ≤ 8) (hT : wT m (tP m fp)) (hd : d < m) (hs : nz fr d = 3 ∨ nz fr d = 4 ∨ nz fr d = 5) : ∃ f, F_X0_passes fr (nI m) fu fp (nI d) = some (pb (!zFlG (tP m fp) (nz fr) d), f) ∧ nf f = nf fr ∧ nz f = (if nz fr d = 3 then upd (upd (nz fr) (8 + d) (nz fr (8 + d) - 1)) d (if nz fr (8 + d) - 1 ≤ 0 then 4 else 3) else if nz fr d = 4 then (if zOk8 (tP m fp) (nz fr) d = true then upd (nz fr) d 5 else nz fr) else nz fr) := by
  have ez : nz fr d = fr d := pNz (by omega)
  have ez8 : nz fr (8 + d) = fr (8 + d) := pNz (by omega)
  unfold F_X0_passes zFlG
  rw [ez, ez8]
  rw [ez] at hs
  simp (disch := omega) only [pIx, pCl, pLe, pLt, pEq, pNm, pS1, pA0, pA8, pA16, pA24, pA32, pA40, pA48, pA56, pA64, pA72, pA80, pA88, pBs, pE8, pb0, pb1, pbo, if_true, if_false, pIy, pbq, pNz, pIw, cSound hm hT hd, pUs]
  by_cases c5 : fr d = 5
  · simp only [c5]
    exact ⟨fr, by simp, rfl, by simp⟩
  · rw [if_neg c5]
    by_cases c4 : fr d = 4
    · rw [if_pos c4]
      rw [show F_X0_byteOf fr (nI m) fu fp (nI d) 0 = _ from cByte (i := 0) hm hT hd (by omega), pBs]
      have hb : zOk8 (tP m fp) (nz fr) d = (!decide (zBy (tP m fp) (nz fr) d 0 < 8) && !decide (12 < zBy (tP m fp) (nz fr) d 0)) := rfl
      have u4 : upd fr d 4 = fr := by funext k; simp only [upd]; grind
      by_cases c : zBy (tP m fp) (nz fr) d 0 < 8
      · have hb' : zOk8 (tP m fp) (nz fr) d = false := by rw [hb]; simp [c]
        refine ⟨fr, ?_, rfl, ?_⟩
        · rw [if_pos c, u4]; simp [c4, hb', pb]
        · simp [c4, hb']
      · by_cases c' : 12 < zBy (tP m fp) (nz fr) d 0
        · have hb' : zOk8 (tP m fp) (nz fr) d = false := by rw [hb]; simp [c']
          refine ⟨fr, ?_, rfl, ?_⟩
          · rw [if_neg c, if_pos c', u4]; simp [c4, hb', pb]
          · simp [c4, hb']
        · have hb' : zOk8 (tP m fp) (nz fr) d = true := by rw [hb]; simp [c, c']
          refine ⟨upd fr d 5, ?_, nfU (by omega), ?_⟩
          · rw [if_neg c, if_neg c']; simp [c4, hb', pb]
          · rw [nzU (by omega)]; simp [c4, hb']
    · have c3 : fr d = 3 := by rcases hs with q | q | q; exact q; exact absurd q c4; exact absurd q c5
      rw [if_neg c4]
      by_cases c : fr (8 + d) - 1 ≤ 0
      · refine ⟨upd (upd fr (8 + d) (fr (8 + d) - 1)) d 4, ?_, by rw [nfU (by omega), nfU (by omega)], ?_⟩
        · rw [if_pos c]; simp [c3, pb]
        · rw [nzU (by omega), nzU (by omega)]; simp [c3, c]
      · refine ⟨upd (upd fr (8 + d) (fr (8 + d) - 1)) d 3, ?_, by rw [nfU (by omega), nfU (by omega)], ?_⟩
        · rw [if_neg c]; simp [c3, pb]
        · rw [nzU (by omega), nzU (by omega)]; simp [c3, c]
theorem cTick {m t : Nat} {fr fu fp : Nat → Int32} (hm : m ≤ 8) (hR : wRu fu t) (hT : wT m (tP m fp)) (hi : iT m (tP m fp) (nz fr)) : ∃ f, F_X0_passTick fr (nI m) fu fp = some f ∧ nz f = zTk m t fu (tP m fp) (nz fr) (zV m (nz fr) fr) ∧ nf f = upd (nfT m (tP m fp) (nz fr) fr) 96 (cCap (fr 96)) := by
  have z1 : nz (nSettle m fr) = nSettle m (nz fr) := nSettle_nz hm
  have n1 : nf (nSettle m fr) = nf fr := nSettle_nf hm
  have i1 : iT m (tP m fp) (nz (nSettle m fr)) := by rw [z1]; exact nSettle_iT hm hi
  have hfl : ∀ d, d < 8 → nSettle m fr (24 + d) = fr (24 + d) := fun d hd => by
    have this : nf (nSettle m fr) (24 + d) = nf fr (24 + d) := by rw [n1]
    rw [nfE (by omega), nfE (by omega)] at this; exact this
  have h96 : nSettle m fr 96 = fr 96 := by
    have this : nf (nSettle m fr) 96 = nf fr 96 := by rw [n1]
    rw [nfE (by omega), nfE (by omega)] at this; exact this
  unfold F_X0_passTick
  rw [cSettle hm, pBs]
  generalize nSettle m fr = f1 at z1 n1 i1 hfl h96 ⊢
  rw [cStanding hm, pBs]
  have es : pFd (zBsy (nz f1)) m 0 = zS m (nz fr) := by unfold zS; rw [z1]
  rw [es]
  unfold zTk zGone nfT zF
  rcases zS_c m (nz fr) with q | ⟨d, hd, q, hb⟩
  · rw [if_pos q, if_pos q]
    obtain ⟨g, h1, h2, h3⟩ := cTail (fu := fu) (fp := fp) (f := f1) hm i1.1
    rw [cStanding hm, es] at h1
    refine ⟨g, h1, ?_, ?_⟩
    · rw [h2, z1]
    · rw [h3, n1, q, h96]; simp
  · have hne : ¬ (nI d : Int32) = -1 := by rw [pNm (by omega)]; exact id
    rw [q, if_neg hne, if_neg hne, pCl (by omega)]
    rw [← z1] at hb
    have hO := i1.1.2.1 d hd
    have hs := (bsy_c hO.1).mp hb
    have h0 : nz f1 d ≠ 0 := by rcases hs with q | q | q <;> rw [q] <;> decide
    obtain ⟨p, p1, p2, p3⟩ := cPasses (fr := f1) (fu := fu) (fp := fp) hm hT hd hs
    have ev : f1 (24 + d) = zV m (nz fr) fr := by
      unfold zV; rw [q, pCl (by omega)]; exact hfl d (by omega)
    have ef : p (24 + d) = f1 (24 + d) := by
      have this : nf p (24 + d) = nf f1 (24 + d) := by rw [p2]
      rw [nfE (by omega), nfE (by omega)] at this; exact this
    have p96 : p 96 = fr 96 := by
      have this : nf p 96 = nf f1 96 := by rw [p2]
      rw [nfE (by omega), nfE (by omega)] at this; exact this.trans h96
    rw [pA0, pIx (by omega) (by omega), pCl (by omega), p1, pBs, pBs]
    dsimp only
    have e0 : nz f1 d = f1 d := pNz (by omega)
    by_cases cf : zFlG (tP m fp) (nz f1) d = true
    · -- it fails
      obtain ⟨g, g1, g2, g3⟩ := cFail (fr := p) (fu := fu) (fp := fp) (d := d) hm (by omega)
      have c3 : ¬ nz f1 d = 3 := fun c => by unfold zFlG at cf; rw [if_pos c] at cf; exact Bool.false_ne_true cf
      have pz : nz p = nz f1 := by
        rw [p3, if_neg c3]
        by_cases c4 : nz f1 d = 4
        · rw [if_pos c4]
          unfold zFlG at cf; rw [if_neg c3, if_pos c4] at cf
          have cf : zOk8 (tP m fp) (nz f1) d = false := by simpa using cf
          rw [cf]; rfl
        · rw [if_neg c4]
      have hgo : nGo m t fu (tP m fp) (nz f1) d (f1 (24 + d)) = nFail m fu (nz f1) d (f1 (24 + d)) := by
        unfold nGo; unfold zFlG at cf
        rw [if_neg c3] at cf ⊢
        by_cases c4 : nz f1 d = 4
        · rw [if_pos c4] at cf ⊢
          rw [if_neg (by simpa using cf)]
        · rw [if_neg c4] at cf ⊢
          rw [if_neg (by simpa using cf)]
      have gz : nz g = nGo m t fu (tP m fp) (nz f1) d (f1 (24 + d)) := by rw [g2, pz, ef, hgo]
      have ig : iT m (tP m fp) (nz g) := by rw [gz]; exact nGo_iT hm hT i1 hd hb
      obtain ⟨k, h1, h2, h3⟩ := cTail (fu := fu) (fp := fp) (f := g) hm ig.1
      refine ⟨k, ?_, ?_, ?_⟩
      · rw [cf]
        rw [if_pos (show pb (!true) = 0 from rfl), if_pos (show pb (!true) = 0 from rfl), g1, pBs]
        by_cases c5 : f1 d = 5
        · rw [if_pos c5]; exact h1
        · rw [if_neg c5]; exact h1
      · rw [h2, gz, z1, ev]
      · have g96 : g 96 = fr 96 := by
          have this : nf g 96 = nf p 96 := by rw [g3]; exact pUn (by omega)
          rw [nfE (by omega), nfE (by omega)] at this; exact this.trans p96
        rw [h3, g3, p2, n1, ef, ev, ← z1, cf, g96]; simp [hne]
    · have cf' : zFlG (tP m fp) (nz f1) d = false := by simpa using cf
      rw [cf', if_neg (show ¬ pb (!false) = 0 from by decide), if_neg (show ¬ pb (!false) = 0 from by decide)]
      by_cases c5 : f1 d = 5
      · rw [if_pos c5]
        have c5z : nz f1 d = 5 := e0.trans c5
        have pz : nz p = nz f1 := by
          rw [p3, c5z]; rfl
        have rt : zRight (tP m fp) (nz f1) d = true := by
          unfold zFlG at cf'; rw [c5z] at cf'
          simpa using cf'
        obtain ⟨b, hb', hh, hc6⟩ := hub36 hm i1.1.2.2 hd (by rw [c5z]; exact Or.inr (Or.inr (Or.inl rfl)))
        rw [← pz] at hh hc6
        rw [cWhy (fr := p) hm hR (by rw [pz]; exact i1.1) hd (by rw [pz]; exact h0) hb' hh, pBs]
        obtain ⟨g, g1, g2, g3⟩ := cConclude (fr := p) (fu := fu) (fp := fp) hm hR (by rw [pz]; exact i1.1) hd (by rw [pz]; exact c5z) hb' hh hc6
        rw [g1, pBs]
        rw [pz] at hh
        have gz : nz g = nGo m t fu (tP m fp) (nz f1) d (f1 (24 + d)) := by
          rw [g2, pz]; unfold nGo
          rw [c5z, if_neg (by decide), if_neg (by decide), if_pos rt, hh, pCl (by omega)]
        have ig : iT m (tP m fp) (nz g) := by rw [gz]; exact nGo_iT hm hT i1 hd hb
        obtain ⟨k, h1, h2, h3⟩ := cTail (fu := fu) (fp := fp) (f := g) hm ig.1
        refine ⟨k, h1, ?_, ?_⟩
        · rw [h2, gz, z1, ev]
        · have g96 : g 96 = fr 96 := by
            have this : nf g 96 = nf p 96 := by rw [g3]
            rw [nfE (by omega), nfE (by omega)] at this; exact this.trans p96
          rw [h3, g3, p2, n1, ← z1, cf', g96]; simp [hne]
      · rw [if_neg c5]
        have gz : nz p = nGo m t fu (tP m fp) (nz f1) d (f1 (24 + d)) := by
          rw [p3]; unfold nGo
          by_cases c3 : nz f1 d = 3
          · rw [if_pos c3, if_pos c3]
          · have c4 : nz f1 d = 4 := by rcases hs with q | q | q; exact absurd q c3; exact q; exact absurd (e0.symm.trans q) c5
            rw [if_neg c3, if_neg c3, if_pos c4, if_pos c4]
            unfold zFlG at cf'; rw [if_neg c3, if_pos c4] at cf'
            have : zOk8 (tP m fp) (nz f1) d = true := by simpa using cf'
            rw [if_pos this, if_pos this]
        have ig : iT m (tP m fp) (nz p) := by rw [gz]; exact nGo_iT hm hT i1 hd hb
        obtain ⟨k, h1, h2, h3⟩ := cTail (fu := fu) (fp := fp) (f := p) hm ig.1
        refine ⟨k, h1, ?_, ?_⟩
        · rw [h2, gz, z1, ev]
        · rw [h3, p2, n1, ← z1, cf', p96]; simp [hne]
