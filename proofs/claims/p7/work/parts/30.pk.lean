/-! settling; time of the bus -/
def nSt (d : Nat) (f : Nat → Int32) : Nat → Int32 := if f d = 1 then (if 0 < f (8 + d) - 1 then upd f (8 + d) (f (8 + d) - 1) else nQ (upd f (8 + d) (f (8 + d) - 1)) d) else f
def nSettle (m : Nat) (f : Nat → Int32) : Nat → Int32 := pF nSt m 0 f
theorem cSettle {m : Nat} {fr fu fp : Nat → Int32} (hm : m ≤ 8) : F_X0_settle fr (nI m) fu fp = some (nSettle m fr) := by
  unfold F_X0_settle nSettle
  refine pLoop0 (m := m) (L := fun n i a => FL_X0_settle_2 fr (nI m) fu fp n i a) (g := nSt) (fin := id) (fun n j a hj => ?_) (fun n a => ?_) 1000 _ (by omega)
  · show FL_X0_settle_2 fr (nI m) fu fp (n + 1) (nI j) a = _
    simp (disch := omega) only [FL_X0_settle_2, pIx, pCl, pLe, pLt, pEq, pNm, pS1, pA0, pA8, pA16, pA24, pA32, pA40, pA48, pA56, pA64, pA72, pA80, pA88, pBs, pE8, pb0, pb1, pbo, if_true, if_false, pIy, pbq, pNz, pIw, cQueue, nSt, pUs]
    rw [if_neg (by omega)]
    by_cases c : a j = 1 <;> by_cases c2 : 0 < a (8 + j) - 1 <;> simp [c, c2]
  · show FL_X0_settle_2 fr (nI m) fu fp (n + 1) (nI m) a = _
    simp (disch := omega) only [FL_X0_settle_2, pIx, pCl, pLe, pLt, pEq, pNm, pS1, pA0, pA8, pA16, pA24, pA32, pA40, pA48, pA56, pA64, pA72, pA80, pA88, pBs, pE8, pb0, pb1, pbo, if_true, if_false, pIy, pbq, pNz, pIw]
    rw [if_pos (Nat.le_refl m)]; rfl
theorem nSt_nz {d : Nat} {f : Nat → Int32} (hd : d < 8) : nz (nSt d f) = nSt d (nz f) := by
  unfold nSt
  simp (disch := omega) only [pNz]
  split
  · split
    · rw [nzU (by omega)]
    · rw [nQ_nz hd, nzU (by omega)]
  · rfl
theorem nSt_nf {d : Nat} {f : Nat → Int32} (hd : d < 8) : nf (nSt d f) = nf f := by
  unfold nSt
  split
  · split
    · rw [nfU (by omega)]
    · rw [nQ_nf hd, nfU (by omega)]
  · rfl
theorem nSettle_nz {m : Nat} {f : Nat → Int32} (hm : m ≤ 8) : nz (nSettle m f) = nSettle m (nz f) :=
  pF_map (fun _ _ => True) m 0 _ (fun i a _ hi _ => nSt_nz (by omega)) (fun _ _ _ _ _ => trivial) trivial
theorem nSettle_nf {m : Nat} {f : Nat → Int32} (hm : m ≤ 8) : nf (nSettle m f) = nf f :=
  pF_const (φ := nf) m 0 f (fun i a _ hi => nSt_nf (by omega))
theorem nQ_upd8 {N : Nat → Int32} {d : Nat} {v : Int32} (hd : d < 8) : nQ (upd N (8 + d) v) d = nQ N d := by
  funext k; simp only [nQ, nLow, upd]; grind
theorem nSt_iN {m : Nat} {N : Nat → Int32} {d : Nat} (hm : m ≤ 8) (h : iN m N) (hd : d < m) : iN m (nSt d N) := by
  unfold nSt
  by_cases c : N d = 1
  · rw [if_pos c]
    by_cases c2 : 0 < N (8 + d) - 1
    · rw [if_pos c2]
      have e0 : upd N (8 + d) (N (8 + d) - 1) d = N d := pUn (by omega)
      refine iN.one hm h hd (fun e j he hn hj => ?_) (by rw [c]; decide) (by rw [e0, c]; decide) (pUn (by omega)) ?_ (fun c' => ?_) (fun c' => by rw [c] at c'; exact absurd c' (by decide))
      · simp only [upd]; grind
      · have hO := h.2.1 d hd
        obtain ⟨h1, h2, h3, h4, h5, h6, h7, h8, h9⟩ := hO
        unfold dOK
        rw [e0, pUs, pUn (by omega), pUn (by omega), pUn (by omega), pUn (by omega), pUn (by omega), pUn (by omega), pUn (by omega), pUn (by omega)]
        exact ⟨h1, h2, fun _ => c2, fun q => absurd (Or.inl c) q, h5, h6, h7, h8, h9⟩
      · rw [e0, c] at c'; rcases c' with c' | c' | c' | c' <;> exact absurd c' (by decide)
    · rw [if_neg c2, nQ_upd8 (by omega)]
      exact nQ_iN hm h hd (by rw [c]; decide) (by rw [c]; decide)
  · rw [if_neg c]; exact h
theorem nSettle_iN {m : Nat} {N : Nat → Int32} (hm : m ≤ 8) (h : iN m N) : iN m (nSettle m N) := by
  have := pF_inv (g := nSt) (fun _ a => iN m a) m 0 N (fun i a _ hi hI => nSt_iN hm hI (by omega)) h
  exact this
def rSt (d : Nat) (f : Nat → Int32) : Nat → Int32 := if f d = 1 then (if f (8 + d) - 1 = 0 then rW (upd f (8 + d) (f (8 + d) - 1)) d else upd f (8 + d) (f (8 + d) - 1)) else f
theorem pos_dec {t : Int32} (h : 0 < t) : (t - 1 = 0) ↔ ¬ 0 < t - 1 := by
  rw [q_lt] at h
  have h0 : (0 : Int32).toInt = 0 := by decide
  have h1 : (1 : Int32).toInt = 1 := by decide
  have hr := Int32.toInt_lt t
  have e : (t - 1).toInt = t.toInt - 1 := by
    rw [Int32.toInt_sub, h1, Int.bmod_eq_of_le (by omega) (by omega)]
  rw [q_lt, q_eq, e, h0]
  omega
theorem rSt_nz {d : Nat} {f : Nat → Int32} (hd : d < 8) (h : dOK (nz f) d) : nz (rSt d f) = nSt d (nz f) := by
  unfold rSt nSt
  simp (disch := omega) only [pNz]
  by_cases c : f d = 1
  · have c' : nz f d = 1 := by rw [pNz (by omega)]; exact c
    have ht := h.2.2.1 (Or.inl c')
    rw [pNz (by omega)] at ht
    have hp := pos_dec ht
    rw [if_pos c, if_pos c]
    by_cases c2 : f (8 + d) - 1 = 0
    · rw [if_pos c2, if_neg (hp.mp c2), rW_nz hd, nzU (by omega)]
      apply rW_q hd
      · rw [pUn (by omega), pUn (by omega), pUn (by omega)]; exact h.2.2.2.2.2.1 (by rw [c']; decide)
      · rw [pUn (by omega)]; exact h.2.2.2.2.2.2.2.1 (by rw [c']; decide)
    · rw [if_neg c2, if_pos (Decidable.byContradiction (fun q => c2 (hp.mpr q))), nzU (by omega)]
  · rw [if_neg c, if_neg c]
theorem rSt_nf {d : Nat} {f : Nat → Int32} (hd : d < 8) : nf (rSt d f) = nf f := by
  unfold rSt
  split
  · split
    · rw [rW_nf hd, nfU (by omega)]
    · rw [nfU (by omega)]
  · rfl
theorem rSettles {m : Nat} {nw : Nat → Int32} (hm : m ≤ 8) (hi : iN m (nz nw)) : ∃ f, F_X10_settles (nI m) nw = some f ∧ nz f = nSettle m (nz nw) ∧ nf f = nf nw := by
  unfold F_X10_settles
  have hl := pLoop0 (m := m) (L := fun n i a => FL_X10_settles_2 (nI m) nw n i a) (g := rSt) (fin := id) (fun n j a hj => ?_) (fun n a => ?_) 1000 nw (by omega)
  · refine ⟨_, hl, ?_, ?_⟩
    · exact pF_map (fun _ N => iN m N) m 0 nw (fun i a _ hi hI => rSt_nz (by omega) (hI.2.1 i (by omega))) (fun i b _ hi hI => nSt_iN hm hI (by omega)) hi
    · exact pF_const (φ := nf) m 0 nw (fun i a _ hi => rSt_nf (by omega))
  · show FL_X10_settles_2 (nI m) nw (n + 1) (nI j) a = _
    simp (disch := omega) only [FL_X10_settles_2, pIx, pCl, pLe, pLt, pEq, pNm, pS1, pA0, pA8, pA16, pA24, pA32, pA40, pA48, pA56, pA64, pA72, pA80, pA88, pBs, pE8, pb0, pb1, pbo, if_true, if_false, pIy, pbq, pNz, pIw, rState, rWaits, rSt, pUs]
    rw [if_neg (by omega)]
    by_cases c : a j = 1 <;> by_cases c2 : a (8 + j) - 1 = 0 <;> simp [c, c2]
  · show FL_X10_settles_2 (nI m) nw (n + 1) (nI m) a = _
    simp (disch := omega) only [FL_X10_settles_2, pIx, pCl, pLe, pLt, pEq, pNm, pS1, pA0, pA8, pA16, pA24, pA32, pA40, pA48, pA56, pA64, pA72, pA80, pA88, pBs, pE8, pb0, pb1, pbo, if_true, if_false, pIy, pbq, pNz, pIw]
    rw [if_pos (Nat.le_refl m)]; rfl
/-! sums with one more -/
theorem pF_one {g g' : Nat → Int32 → Int32} {d : Nat} {x : Int32} (ha : ∀ e a b, g e (a + b) = g e a + b) (hd : ∀ a, g d a = a) (hd' : ∀ a, g' d a = a + x) : ∀ (k j : Nat) (a : Int32), (∀ e a, j ≤ e → e < j + k → e ≠ d → g' e a = g e a) → pF g' k j a = if j ≤ d ∧ d < j + k then pF g k j a + x else pF g k j a
  | 0, j, a, _ => by rw [if_neg (by omega)]; rfl
  | k + 1, j, a, h => by
    have add : ∀ (k j : Nat) (a b : Int32), pF g k j (a + b) = pF g k j a + b := by
      intro k
      induction k with
      | zero => intro j a b; rfl
      | succ k ih => intro j a b; show pF g k (j + 1) (g j (a + b)) = pF g k (j + 1) (g j a) + b; rw [ha, ih]
    show pF g' k (j + 1) (g' j a) = if _ then pF g k (j + 1) (g j a) + x else pF g k (j + 1) (g j a)
    have ih := pF_one ha hd hd' k (j + 1) (g' j a) (fun e a p q r => h e a (by omega) (by omega) r)
    rw [ih]
    by_cases c : j = d
    · subst c
      rw [if_neg (by omega), if_pos (by omega), hd', hd, add]
    · rw [h j a (by omega) (by omega) c]
      by_cases c2 : j + 1 ≤ d ∧ d < j + 1 + k
      · rw [if_pos c2, if_pos (by omega)]
      · rw [if_neg c2, if_neg (by omega)]
def zTimeC (m : Nat) (R : Nat → Int32) (T : Nat → Nat → Int32) (N : Nat → Int32) (d : Nat) (sp : Int32) : Bool := !decide (R 5 < zBus m T N + zBFor T d sp) && (decide (sp = 2) || !decide (R 6 < zHelp m T N (zAbv N d) + zHFor T d sp))
theorem cTime {m : Nat} {fr fu fp : Nat → Int32} {d c : Nat} (hm : m ≤ 8) (hi : iN m (nz fr)) (hd : d < m) (h0 : nz fr d ≠ 0) (hc : c ≤ 8) (hh : nz fr (32 + d) = nI c) : F_X0_timeSuffices fr (nI m) fu fp (nI d) = some (pb (zTimeC m fu (tP m fp) (nz fr) d (zSp (tP m fp) (nz fr) c d))) := by
  obtain ⟨r, hr⟩ := hi.r hm
  obtain ⟨b, hb, hab, -⟩ := zAbv_nI hm hr hd h0
  have hne : zAbv (nz fr) d ≠ -1 := by rw [hab, Ne, pNm (by omega)]; exact id
  unfold F_X0_timeSuffices zTimeC
  simp (disch := omega) only [cSpeed (m := m) (fr := fr) (fu := fu) (fp := fp) (d := d) (c := c) hm (by omega) hc hh, cBus hm hr hi.s hi.rn, cBFor, cAbv, cHelp hm hi.s hi.rn hne, cHFor, pBs]
  generalize zSp (tP m fp) (nz fr) c d = sp
  by_cases c1 : zBus m (tP m fp) (nz fr) + zBFor (tP m fp) d sp ≤ fu 5
  · have c1' : ¬ fu 5 < zBus m (tP m fp) (nz fr) + zBFor (tP m fp) d sp := by rw [q_lt]; rw [q_le] at c1; omega
    by_cases c2 : sp = 2 <;> by_cases c3 : fu 6 < zHelp m (tP m fp) (nz fr) (zAbv (nz fr) d) + zHFor (tP m fp) d sp <;> simp_all [pb]
  · have c1' : fu 5 < zBus m (tP m fp) (nz fr) + zBFor (tP m fp) d sp := by rw [q_lt]; rw [q_le] at c1; omega
    simp [c1, c1', pb]
theorem time_eq {m : Nat} {R : Nat → Int32} {T : Nat → Nat → Int32} {N N' : Nat → Int32} {d : Nat} {sp : Int32} (hd : d < m) (ha : ∀ e, e < m → e ≠ d → zAwk N' e = zAwk N e) (h1 : zAwk N' d = true) (h2 : zAwk N d = false) (h3 : ∀ e, e < m → e ≠ d → zAwk N e = true → zHlp N' e = zHlp N e ∧ N' (48 + e) = N (48 + e)) (hsp : N' (48 + d) = sp) (hs3 : sp = 0 ∨ sp = 1 ∨ sp = 2) (hab : zAbv N' d = zAbv N d) (hne : zAbv N d ≠ -1) : zTime m R T N' d = zTimeC m R T N d sp := by
  have hl : zHlp N' d = if sp = 2 then -1 else zAbv N d := by
    unfold zHlp; rw [hsp, hab]
    rcases hs3 with rfl | rfl | rfl <;> simp
  have eb : zBus m T N' = zBus m T N + zBFor T d sp := by
    unfold zBus
    have := pF_one (g := zBf T N) (g' := zBf T N') (d := d) (x := zBFor T d sp) (fun e a b => ?_) (fun a => ?_) (fun a => ?_) m 0 0 (fun e a _ he hn => ?_)
    · rw [this, if_pos (by omega)]
    · unfold zBf; split
      · rw [Int32.add_assoc, Int32.add_assoc, Int32.add_comm b]
      · rfl
    · unfold zBf; rw [h2]; rfl
    · unfold zBf zBFor
      rw [if_pos h1, hl]
      rcases hs3 with rfl | rfl | rfl
      · rw [if_neg (show ¬ (0 : Int32) = 2 from by decide)]; simp [hne, show ¬ (2 : Int32) ≤ 0 from by decide]
      · rw [if_neg (show ¬ (1 : Int32) = 2 from by decide)]; simp [hne, show ¬ (2 : Int32) ≤ 1 from by decide]
      · simp
    · unfold zBf
      rw [ha e (by omega) hn]
      by_cases c : zAwk N e = true
      · rw [if_pos c, if_pos c, (h3 e (by omega) hn c).1]
      · rw [if_neg c, if_neg c]
  have eh : ∀ z, zHlp N' d = z → zHelp m T N' z = zHelp m T N z + zHFor T d sp := fun z hz => by
    unfold zHelp
    have := pF_one (g := zHf T N z) (g' := zHf T N' z) (d := d) (x := zHFor T d sp) (fun e a b => ?_) (fun a => ?_) (fun a => ?_) m 0 0 (fun e a _ he hn => ?_)
    · rw [this, if_pos (by omega)]
    · unfold zHf; split
      · rw [Int32.add_assoc, Int32.add_assoc, Int32.add_comm b]
      · rfl
    · unfold zHf; rw [h2]; simp
    · unfold zHf zHFor
      rw [if_pos ⟨h1, hz⟩, hsp]
    · unfold zHf
      rw [ha e (by omega) hn]
      by_cases c : zAwk N e = true
      · obtain ⟨q1, q2⟩ := h3 e (by omega) hn c
        rw [q1, q2]
      · rw [if_neg (fun q => c q.1), if_neg (fun q => c q.1)]
  unfold zTime zTimeC
  rw [eb, eh _ rfl, hl]
  by_cases c : sp = 2
  · simp [c]
  · simp [c, hne]
