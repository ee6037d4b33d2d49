/-! refusing, the reference's; failing -/
theorem hang_up {m : Nat} {N : Nat → Int32} {r : Nat → Nat} {e h : Nat} {z : Int32} (hm : m ≤ 8) (hw : wR m N r) (hh : h < m) (h0 : N h ≠ 0) (hub : N (32 + e) = nI h) (hg : zHang N h z = true) : zHang N e z = true := by
  unfold zHang at hg ⊢
  have hg := of_decide_eq_true hg
  apply decide_eq_true
  rw [hub, zCl_s (by omega)]
  by_cases c : nI h = z
  · rw [if_pos (by simpa using c)]; exact c
  · rw [if_neg (by simpa using c)]
    obtain ⟨b, h2, h3⟩ := wP.of hw hh h0
    rw [h2] at hg ⊢
    rw [← zCl_more (p := fun h => decide (h = z)) hm hw 7 1 b h3]
    exact hg
theorem hang_at {N : Nat → Int32} {e d : Nat} (hd : d < 8) (hub : N (32 + e) = nI d) : zHang N e (nI d) = true := by
  unfold zHang
  rw [hub, zCl_s hd, if_pos (by simp)]
  simp
theorem nRefuse_iN {m : Nat} {N : Nat → Int32} {d : Nat} {why : Int32} (hm : m ≤ 8) (hd : d < m) (hz : nz N = N) (h : iN m N) (h0 : N d ≠ 0) : iN m (nRefuse m N d why) := by
  obtain ⟨r, hr⟩ := h.r hm
  have hC := h.2.2
  obtain ⟨hL, hO, hH, hE, hz'⟩ := nRefuse_I (why := why) hm hd hz ⟨h.1, h.2.1⟩ h0
  refine ⟨hL, hO, fun e he hs => ?_⟩
  have hs' : ¬ (e < m ∧ zHang (nRef0 N d why) e (nI d) = true ∧ runs36 (nRef0 N d why e)) := fun c => by
    rw [(hE e he).1 c] at hs
    rcases hs with hs | hs | hs | hs <;> exact absurd hs (by decide)
  have e0 := (hE e he).2 hs'
  rw [e0] at hs
  have hed : e ≠ d := fun c => by
    subst c; rw [nRef0_0 (by omega)] at hs
    rcases hs with hs | hs | hs | hs <;> exact absurd hs (by decide)
  have hgn : zHang (nRef0 N d why) e (nI d) ≠ true := fun c => hs' ⟨he, c, hs⟩
  have n0 : ∀ q, q < m → q ≠ d → nRef0 N d why q = N q := fun q hq hn => by
    have := nRef0_same (N := N) (why := why) (d := d) (e := q) (j := 0) (by omega) (by omega) hn (by decide)
    simpa using this
  rw [n0 e he hed] at hs
  rw [zHang_congr (N := N) (fun c hc => nRef0_32 (by omega) hc) (by omega)] at hgn
  rw [hH e (by omega), nRef0_32 (by omega) (by omega)]
  rcases hC e he hs with h1 | ⟨b, hb, h1, h2⟩
  · exact Or.inl h1
  · have hbd : b ≠ d := fun c => by subst c; exact hgn (hang_at (by omega) h1)
    refine Or.inr ⟨b, hb, h1, ?_⟩
    rw [(hE b hb).2 (fun c => ?_), n0 b hb hbd]
    · exact h2
    · have c1 := c.2.1
      rw [zHang_congr (N := N) (fun c hc => nRef0_32 (by omega) hc) (by omega)] at c1
      exact hgn (hang_up hm hr hb (by rw [h2]; decide) h1 c1)
def rFf (z : Int32) (e : Nat) (f : Nat → Int32) : Nat → Int32 := if zHang (nz f) e z = true ∧ (zBsy (nz f) e = true ∨ nz f e = 6) then rW (rU f e) e else f
theorem rWU {N : Nat → Int32} {e : Nat} (he : e < 8) (h : N (64 + e) = 0) : rW (rU N e) e = nQ N e := by
  funext k; simp only [rW, rU, nQ, nLow, upd]; grind
theorem rFf_nz {z : Int32} {e : Nat} {f : Nat → Int32} (he : e < 8) (h : dOK (nz f) e) : nz (rFf z e f) = cRf z e (nz f) := by
  unfold rFf cRf
  rw [nz_nz]
  by_cases c : zHang (nz f) e z = true
  · by_cases c2 : runs36 (nz f e)
    · have h1 := (bsy36 h.1).mpr c2
      have h2 := (st36 h.1).mpr c2
      rw [if_pos ⟨c, h1⟩, if_pos ⟨c, h2⟩, rW_nz he, rU_nz he]
      exact rWU he (h.2.2.2.2.2.2.2.1 (by rcases c2 with c2 | c2 | c2 | c2 <;> rw [c2] <;> decide))
    · rw [if_neg (fun q => c2 ((bsy36 h.1).mp q.2)), if_neg (fun q => c2 ((st36 h.1).mp q.2))]
  · rw [if_neg (fun q => c q.1), if_neg (fun q => c q.1)]
theorem rFf_nf {z : Int32} {e : Nat} {f : Nat → Int32} (he : e < 8) : nf (rFf z e f) = nf f := by
  unfold rFf
  split
  · rw [rW_nf he, rU_nf he]
  · rfl
theorem rFallsL {m : Nat} {nw f0 : Nat → Int32} {d : Nat} {N0 : Nat → Int32} (hm : m ≤ 8) (hd : d < m) (h : rfI m N0 (nI d) 0 (nz f0)) : ∃ f, FL_X10_falls_7 (nI m) nw (nI d) 1000 0 f0 = some f ∧ nz f = pF (cRf (nI d)) m 0 (nz f0) ∧ nf f = nf f0 := by
  have hl := pLoop (m := m) (L := fun n i a => FL_X10_falls_7 (nI m) nw (nI d) n i a) (g := rFf (nI d)) (fin := id) (fun j f => rfI m N0 (nI d) j (nz f)) (fun n j a hj hI => ?_) (fun n a hI => ?_) m 1000 0 f0 (by omega) (by omega) h
  · refine ⟨_, hl.1, ?_, ?_⟩
    · exact pF_map (fun j N => rfI m N0 (nI d) j N) m 0 f0 (fun i a _ hi hI => rFf_nz (by omega) (hI.2.1 i (by omega))) (fun i b _ hi hI => rfI_step hm (by omega) hI) h
    · exact pF_const (φ := nf) m 0 f0 (fun i a _ hi => rFf_nf (by omega))
  · refine ⟨?_, by rw [rFf_nz (by omega) (hI.2.1 j hj)]; exact rfI_step hm hj hI⟩
    show FL_X10_falls_7 (nI m) nw (nI d) (n + 1) (nI j) a = _
    obtain ⟨⟨L, hL⟩, hO, -⟩ := hI
    have hf : wF m (nz a) := fun e he h0 => ((hO e he).2.1 h0).1
    simp (disch := omega) only [FL_X10_falls_7, pIx, pCl, pLe, pLt, pEq, pNm, pS1, pA0, pA8, pA16, pA24, pA32, pA40, pA48, pA56, pA64, pA72, pA80, pA88, pBs, pE8, pb0, pb1, pbo, if_true, if_false, pIy, pbq, pNz, pIw, rBeneath1 (nw := a) hm (hL.r hm) hf hj (by omega : d ≤ 8), rBusy1, rState, rUnset, rWaits, rFf]
    rw [if_neg (by omega)]
    by_cases c : zHang (nz a) j (nI d) = true <;> by_cases c2 : zBsy (nz a) j = true <;> by_cases c3 : a j = 6 <;> simp [c, c2, c3]
  · show FL_X10_falls_7 (nI m) nw (nI d) (n + 1) (nI m) a = _
    simp (disch := omega) only [FL_X10_falls_7, pIx, pCl, pLe, pLt, pEq, pNm, pS1, pA0, pA8, pA16, pA24, pA32, pA40, pA48, pA56, pA64, pA72, pA80, pA88, pBs, pE8, pb0, pb1, pbo, if_true, if_false, pIy, pbq, pNz, pIw]
    rw [if_pos (Nat.le_refl m)]; rfl
def rRf (f : Nat → Int32) (d : Nat) (why : Int32) : Nat → Int32 := upd (upd (upd (upd f d 7) (8 + d) 0) (16 + d) 0) (64 + d) why
theorem rRf_nz {f : Nat → Int32} {d : Nat} {why : Int32} (hd : d < 8) : nz (rRf f d why) = rRf (nz f) d why := by
  unfold rRf; simp (disch := omega) only [nzU]
theorem rRf_nf {f : Nat → Int32} {d : Nat} {why : Int32} (hd : d < 8) : nf (rRf f d why) = nf f := by
  unfold rRf; simp (disch := omega) only [nfU]
theorem rRefuses {m : Nat} {nw : Nat → Int32} {d : Nat} {why : Int32} (hm : m ≤ 8) (hi : iN m (nz nw)) (hd : d < m) (h0 : nz nw d ≠ 0) : ∃ f, F_X10_refuses (nI m) nw (nI d) why = some f ∧ nz f = nRefuse m (nz nw) d why ∧ nf f = nf nw := by
  unfold F_X10_refuses
  simp (disch := omega) only [pIx, pCl, pLe, pLt, pEq, pNm, pS1, pA0, pA8, pA16, pA24, pA32, pA40, pA48, pA56, pA64, pA72, pA80, pA88, pBs, pE8, pb0, pb1, pbo, if_true, if_false, pIy, pbq, pNz, pIw, rState]
  by_cases c : nz nw d = 6
  · have c' : nw d = 6 := by rw [← c, pNz (by omega)]
    rw [if_pos c']
    unfold F_X10_falls
    have e1 : nz (rU (rRf nw d why) d) = nRef0 (nz nw) d why := by
      rw [rU_nz (by omega), rRf_nz (by omega)]
      funext k; simp only [rU, rRf, nRef0, nLow, upd]; grind
    obtain ⟨f, h1, h2, h3⟩ := rFallsL (nw := rRf nw d why) (f0 := rU (rRf nw d why) d) (N0 := nRef0 (nz nw) d why) hm hd (by rw [e1]; exact rfI_0 hm hd (nz_nz nw) ⟨hi.1, hi.2.1⟩ h0)
    refine ⟨f, ?_, by rw [h2, e1]; rfl, by rw [h3, rU_nf (by omega), rRf_nf (by omega)]⟩
    show Option.bind (Option.bind (F_X10_unset (rRf nw d why) (nI d)) _) _ = _
    rw [rUnset (by omega), pBs]
    show (FL_X10_falls_7 (nI m) (rRf nw d why) (nI d) 1000 0 (rU (rRf nw d why) d)).bind _ = _
    rw [h1]; rfl
  · have c' : ¬ nw d = 6 := by rw [← pNz (N := nw) (k := d) (by omega)]; exact c
    rw [if_neg c']
    have hO := hi.2.1 d hd
    have h6 := hO.2.2.2.2.2.1 c
    refine ⟨rRf nw d why, rfl, ?_, rRf_nf (by omega)⟩
    have e1 : nz (rRf nw d why) = nRef0 (nz nw) d why := by
      rw [rRf_nz (by omega)]
      funext k; simp only [rRf, nRef0, nLow, upd]; grind
    rw [e1]
    unfold nRefuse
    refine (pF_id m 0 (fun e _ he => ?_)).symm
    unfold cRf
    rw [nRef0_nz (by omega), nz_nz]
    rw [zHang_congr (N := nz nw) (fun c hc => nRef0_32 (by omega) hc) (by omega)]
    by_cases ce : e = d
    · subst ce
      rw [nRef0_0 (by omega), if_neg (fun q => q.2.2 (by decide))]
    · have := nRef0_same (N := nz nw) (why := why) (d := d) (e := e) (j := 0) (by omega) (by omega) ce (by decide)
      simp only [Nat.mul_zero, Nat.zero_add] at this
      rw [this, if_neg (fun q => c (chain hm hi.2.2 hd (by omega) ((st36 (hi.2.1 e (by omega)).1).mp q.2) q.1))]
/-- waiting, of one that is no more than that -/
theorem rW_q {N : Nat → Int32} {d : Nat} (hd : d < 8) (h6 : N (48 + d) = -1 ∧ N (56 + d) = 0 ∧ N (88 + d) = 0) (h7 : N (64 + d) = 0) : rW N d = nQ N d := by
  funext k; simp only [rW, nQ, nLow, upd]; grind
theorem nQ_iN {m : Nat} {N : Nat → Int32} {d : Nat} (hm : m ≤ 8) (h : iN m N) (hd : d < m) (h0 : N d ≠ 0) (h6 : N d ≠ 6) : iN m (nQ N d) := by
  refine iN.one hm h hd (fun e j he hn hj => nQ_same (by omega) (by omega) hn hj) h0 (by rw [nQ_0 (by omega)]; decide) (nQ_32 (by omega) (by omega)) (nQ_ok (by omega) (h.2.1 d hd)) (fun c => ?_) (fun c => absurd c h6)
  rw [nQ_0 (by omega)] at c
  rcases c with c | c | c | c <;> exact absurd c (by decide)
/-- failing at a bite -/
def nFail (m : Nat) (R N : Nat → Int32) (d : Nat) (v : Int32) : Nat → Int32 := if v + 1 < R 3 then nQ N d else nRefuse m N d 1
theorem cFail {m : Nat} {fr fu fp : Nat → Int32} {d : Nat} (hm : m ≤ 8) (hd : d < 8) : ∃ f, F_X0_fail fr (nI m) fu fp (nI d) = some f ∧ nz f = nFail m fu (nz fr) d (fr (24 + d)) ∧ nf f = upd (nf fr) (24 + d) (fr (24 + d) + 1) := by
  unfold F_X0_fail nFail
  simp (disch := omega) only [pIx, pCl, pLe, pLt, pEq, pNm, pS1, pA0, pA8, pA16, pA24, pA32, pA40, pA48, pA56, pA64, pA72, pA80, pA88, pBs, pE8, pb0, pb1, pbo, if_true, if_false, pIy, pbq, pNz, pIw, cQueue, cRefuse hm, pUs]
  by_cases c : fr (24 + d) + 1 < fu 3
  · rw [if_pos c, if_pos c]
    refine ⟨_, rfl, ?_, ?_⟩
    · rw [nQ_nz hd, nzO (by omega)]
    · rw [nQ_nf hd, nfO (by omega)]
  · rw [if_neg c, if_neg c]
    refine ⟨_, rfl, ?_, ?_⟩
    · rw [nRefuse_nz hm hd, nzO (by omega)]
    · rw [nRefuse_nf hm hd, nfO (by omega)]
theorem rFails {m : Nat} {ru nw : Nat → Int32} {d : Nat} (hm : m ≤ 8) (hi : iN m (nz nw)) (hd : d < m) (h0 : nz nw d ≠ 0) (h6 : nz nw d ≠ 6) (h7 : nz nw d ≠ 7) : ∃ f, F_X10_fails (nI m) ru nw (nI d) = some f ∧ nz f = nFail m ru (nz nw) d (nw (24 + d)) ∧ nf f = upd (nf nw) (24 + d) (nw (24 + d) + 1) := by
  unfold F_X10_fails nFail
  simp (disch := omega) only [pIx, pCl, pLe, pLt, pEq, pNm, pS1, pA0, pA8, pA16, pA24, pA32, pA40, pA48, pA56, pA64, pA72, pA80, pA88, pBs, pE8, pb0, pb1, pbo, if_true, if_false, pIy, pbq, pNz, pIw, rWaits, pUs]
  have hO := hi.2.1 d hd
  have ez : nz (upd nw (24 + d) (nw (24 + d) + 1)) = nz nw := nzO (by omega)
  by_cases c : nw (24 + d) + 1 < ru 3
  · rw [if_pos c, if_pos c]
    refine ⟨_, rfl, ?_, ?_⟩
    · rw [rW_nz (by omega), ez, rW_q (by omega) (hO.2.2.2.2.2.1 h6) (hO.2.2.2.2.2.2.2.1 h7)]
    · rw [rW_nf (by omega), nfO (by omega)]
  · rw [if_neg c, if_neg c]
    obtain ⟨f, h1, h2, h3⟩ := rRefuses (nw := upd nw (24 + d) (nw (24 + d) + 1)) (why := 1) hm (by rw [ez]; exact hi) hd (by rw [ez]; exact h0)
    refine ⟨f, by rw [h1, pBs], by rw [h2, ez], by rw [h3, nfO (by omega)]⟩
theorem nFail_iN {m : Nat} {R N : Nat → Int32} {d : Nat} {v : Int32} (hm : m ≤ 8) (hz : nz N = N) (h : iN m N) (hd : d < m) (h0 : N d ≠ 0) (h6 : N d ≠ 6) : iN m (nFail m R N d v) := by
  unfold nFail
  split
  · exact nQ_iN hm h hd h0 h6
  · exact nRefuse_iN hm hd hz h h0
