/-! years by draws -/
theorem i64_ne {k : Nat} (h1 : 1 ≤ k) (h2 : k < 2147483648) : ¬ (nI k : Int32).toInt64 = 0 := fun q => by
  have := congrArg Int64.toInt q
  rw [Int32.toInt_toInt64, nI_toInt h2] at this
  have h0 : (0 : Int64).toInt = 0 := by decide
  omega
theorem nxt {xx : Int64} {k : Nat} (h1 : 1 ≤ k) (h2 : k < 2147483648) : ∃ o, F_X2_next xx (nI k) = some o ∧ F_X10_draw xx (nI k) = some o := by
  unfold F_X2_next F_X10_draw
  rw [if_pos (show (1 : Int32) ≤ nI k from (pLe (a := 1) (by omega) h2).mpr h1), if_pos (i64_ne h1 h2)]
  exact ⟨_, rfl, rfl⟩
theorem lt_le1 {x : Int32} {k : Nat} (hk : k < 1000) : (nI k < x) ↔ (nI (k + 1) ≤ x) := by
  rw [q_lt, q_le, nI_toInt (by omega), nI_toInt (by omega)]; omega
theorem try_sim {m t : Nat} {ru fp td fr fq fd nw kp : Nat → Int32} {nx p tt : Nat} {z a b c b' c' : Int32} (h : WW m t ru fp td fr fq nx p fd tt nw kp) (ht : tt < 268435456) (h0 : z = 0 → b' = b ∧ c' = c) (h4 : z = 4 → b' = b) :
    ∃ w fr' fq' nx' p' fd' tt' nw' kp', F_X9_attempt (nI m) (nI nx) (nI p) (nI tt) fr ru fp fq fd 1 z a b c = some (w, nI nx', nI p', nI tt', fr', fq', fd') ∧ F_X10_tryOne (nI m) (nI p) ru td nw kp z a b' c' = some (nI p', nw', kp') ∧ WW m t ru fp td fr' fq' nx' p' fd' tt' nw' kp' ∧ tt' ≤ tt + 1 := by
  unfold F_X10_tryOne
  rcases act_sim (a := a) h ht h0 h4 with ⟨k, hk, w, x⟩ | ⟨w, fr', fq', nx', p', fd', nw', kp', r, x, y, hw, ha⟩
  · rw [w, pBs]
    refine ⟨_, fr, fq, nx, p, fd, tt, nw, kp, x _ _ _ _ _ _, ?_, h, by omega⟩
    show (if nI k = -1 then _ else _) = _
    rw [if_neg (by rw [pNm (by omega)]; exact id)]
  · rw [w, pBs]
    refine ⟨_, fr', fq', nx', p', fd', tt + 1, nw', kp', x, ?_, hw, by omega⟩
    show (if (-1 : Int32) = -1 then (F_X10_act (nI m) (nI p) ru td nw kp z a b' c').bind _ else _) = _
    rw [if_pos rfl, y, pBs]
theorem years_L {m t q : Nat} {ru fp td fr0 fq0 fd0 nw0 kp0 : Nat → Int32} {nx0 p0 t0 a0 : Int32} {x0 d0 z2 z2' : Int64} (h0 : 0 < m) (hq : q ≤ 40) : ∀ (k j n n' : Nat) (fr fq fd nw kp : Nat → Int32) (nx p tt : Nat) (xx : Int64), j + k = q → k < n → k < n' → WW m t ru fp td fr fq nx p fd tt nw kp → tt + k < 268435456 →
    ∃ r fr' fq' nx' p' fd' tt' nw' kp' xx', FL_X9_years_34 (nI m) nx0 p0 t0 x0 ru fp fr0 fq0 fd0 (nI q) z2 n (nI j) (nI nx) (nI p) (nI tt) xx fr fq fd = some (r, nI nx', nI p', nI tt', xx', fr', fq', fd') ∧ FL_X10_years_27 (nI m) a0 d0 ru td nw0 kp0 (nI q) z2' n' (nI j) (nI p) xx nw kp = some (r, nI p', xx', nw', kp') ∧ WW m t ru fp td fr' fq' nx' p' fd' tt' nw' kp' ∧ tt' ≤ tt + k
  | k, j, 0, n', fr, fq, fd, nw, kp, nx, p, tt, xx, _, h, _, _, _ => absurd h (by omega)
  | k, j, n + 1, 0, fr, fq, fd, nw, kp, nx, p, tt, xx, _, _, h, _, _ => absurd h (by omega)
  | 0, j, n + 1, n' + 1, fr, fq, fd, nw, kp, nx, p, tt, xx, h1, _, _, hw, _ => by
    obtain rfl : j = q := by omega
    rw [FL_X9_years_34, FL_X10_years_27, if_pos (le_rfl32 _), if_pos (le_rfl32 _)]
    obtain ⟨u, hu, e1, e2⟩ := hw.2.1.2.2.1
    exact ⟨_, fr, fq, nx, p, fd, tt, nw, kp, xx, rfl, by rw [e1, e2], hw, by omega⟩
  | k + 1, j, n + 1, n' + 1, fr, fq, fd, nw, kp, nx, p, tt, xx, h1, h2, h3, hw, ht => by
    have hm := hw.1.1
    have hj : ¬ nI q ≤ nI j := by rw [pLe (by omega) (by omega)]; omega
    rw [FL_X9_years_34, FL_X10_years_27, if_neg hj, if_neg hj]
    unfold F_X10_drawYear
    obtain ⟨o, o1, o2⟩ := nxt (xx := xx) (k := 8) (by omega) (by omega)
    rw [show (8 : Int32) = nI 8 from rfl] at *
    rw [o1, o2, pBs, pBs]
    have c2 : (2 < o.1) ↔ (3 ≤ o.1) := lt_le1 (k := 2) (by omega)
    have c6 : (6 < o.1) ↔ (7 ≤ o.1) := lt_le1 (k := 6) (by omega)
    have goon : ∀ {w : Int32} {fr' fq' fd' nw' kp' : Nat → Int32} {nx' p' tt' : Nat} {xx' : Int64}, WW m t ru fp td fr' fq' nx' p' fd' tt' nw' kp' → tt' ≤ tt + 1 → ∃ r fr2 fq2 nx2 p2 fd2 tt2 nw2 kp2 xx2, FL_X9_years_34 (nI m) nx0 p0 t0 x0 ru fp fr0 fq0 fd0 (nI q) z2 n (nI j + 1) (nI nx') (nI p') (nI tt') xx' fr' fq' fd' = some (r, nI nx2, nI p2, nI tt2, xx2, fr2, fq2, fd2) ∧ FL_X10_years_27 (nI m) a0 d0 ru td nw0 kp0 (nI q) z2' n' (nI j + 1) (nI p') xx' nw' kp' = some (r, nI p2, xx2, nw2, kp2) ∧ WW m t ru fp td fr2 fq2 nx2 p2 fd2 tt2 nw2 kp2 ∧ tt2 ≤ tt + (k + 1) := fun {w} {fr'} {fq'} {fd'} {nw'} {kp'} {nx'} {p'} {tt'} {xx'} hw' ht' => by
      rw [pS1]
      obtain ⟨r, fr2, fq2, nx2, p2, fd2, tt2, nw2, kp2, xx2, a1, a2, a3, a4⟩ := years_L (t := t) (td := td) (fr0 := fr0) (fq0 := fq0) (fd0 := fd0) (nw0 := nw0) (kp0 := kp0) (nx0 := nx0) (p0 := p0) (t0 := t0) (a0 := a0) (x0 := x0) (d0 := d0) (z2 := z2) (z2' := z2') h0 hq k (j + 1) n n' fr' fq' fd' nw' kp' nx' p' tt' xx' (by omega) (by omega) (by omega) hw' (by omega)
      exact ⟨r, fr2, fq2, nx2, p2, fd2, tt2, nw2, kp2, xx2, a1, a2, a3, by omega⟩
    by_cases c : 2 < o.1
    · rw [if_pos c, if_pos (c2.mp c)]
      by_cases c3 : o.1 = 3
      · rw [if_pos c3, if_pos c3]
        obtain ⟨v, v1, v2⟩ := nxt (xx := o.2) (k := m) (by omega) (by omega)
        rw [v1, v2, pBs, pBs]
        obtain ⟨w, fr', fq', nx', p', fd', tt', nw', kp', b1, b2, b3, b4⟩ := try_sim (z := 1) (a := v.1) (b := -1) (c := -1) (b' := 0) (c' := 0) hw (by omega) (fun q => absurd q (by decide)) (fun q => absurd q (by decide))
        rw [b1, b2, pBs, pBs, pBs]
        exact goon (w := w) b3 b4
      · rw [if_neg c3, if_neg c3]
        by_cases c7 : 6 < o.1
        · rw [if_pos c7, if_pos (c6.mp c7)]
          obtain ⟨v, v1, v2⟩ := nxt (xx := o.2) (k := m) (by omega) (by omega)
          rw [v1, v2, pBs, pBs]
          obtain ⟨w, fr', fq', nx', p', fd', tt', nw', kp', b1, b2, b3, b4⟩ := try_sim (z := 3) (a := v.1) (b := -1) (c := -1) (b' := 0) (c' := 0) hw (by omega) (fun q => absurd q (by decide)) (fun q => absurd q (by decide))
          rw [b1, b2, pBs, pBs, pBs]
          exact goon (w := w) b3 b4
        · rw [if_neg c7, if_neg (fun q => c7 (c6.mpr q))]
          obtain ⟨v, v1, v2⟩ := nxt (xx := o.2) (k := 9) (by omega) (by omega)
          rw [show (9 : Int32) = nI 9 from rfl, v1, v2, pBs, pBs]
          obtain ⟨w, fr', fq', nx', p', fd', tt', nw', kp', b1, b2, b3, b4⟩ := try_sim (z := 2) (a := v.1 + 1) (b := -1) (c := -1) (b' := 0) (c' := 0) hw (by omega) (fun q => absurd q (by decide)) (fun q => absurd q (by decide))
          rw [b1, b2, pBs, pBs, pBs]
          exact goon (w := w) b3 b4
    · rw [if_neg c, if_neg (fun q => c (c2.mpr q))]
      obtain ⟨v, v1, v2⟩ := nxt (xx := o.2) (k := m) (by omega) (by omega)
      obtain ⟨y, y1, y2⟩ := nxt (xx := v.2) (k := m + 1) (by omega) (by omega)
      rw [v1, v2, pBs, pBs, pS1, y1, y2, pBs, pBs]
      obtain ⟨x, x1, x2⟩ := nxt (xx := y.2) (k := 4) (by omega) (by omega)
      rw [show (4 : Int32) = nI 4 from rfl, x1, x2]
      by_cases cm : y.1 = nI m
      · rw [if_pos cm, if_pos cm, pBs, pBs]
        obtain ⟨w, fr', fq', nx', p', fd', tt', nw', kp', b1, b2, b3, b4⟩ := try_sim (z := 0) (a := v.1) (b := nI 8) (c := x.1) (b' := nI 8) (c' := x.1) hw (by omega) (fun q => ⟨rfl, rfl⟩) (fun q => rfl)
        rw [b1, b2, pBs, pBs, pBs]
        exact goon (w := w) b3 b4
      · rw [if_neg cm, if_neg cm, pBs, pBs]
        obtain ⟨w, fr', fq', nx', p', fd', tt', nw', kp', b1, b2, b3, b4⟩ := try_sim (z := 0) (a := v.1) (b := y.1) (c := x.1) (b' := y.1) (c' := x.1) hw (by omega) (fun q => ⟨rfl, rfl⟩) (fun q => rfl)
        rw [b1, b2, pBs, pBs, pBs]
        exact goon (w := w) b3 b4
theorem years_sim {m t : Nat} {ru fp td fr fq fd nw kp : Nat → Int32} {nx p tt : Nat} {xx z2 : Int64} {z1 : Int32} (hw : WW m t ru fp td fr fq nx p fd tt nw kp) (ht : tt < 134217728) : ∃ r fr' fq' nx' p' fd' tt' nw' kp' xx', F_X9_years (nI m) (nI nx) (nI p) (nI tt) xx ru fp fr fq fd z1 z2 = some (r, nI nx', nI p', nI tt', xx', fr', fq', fd') ∧ F_X10_years (nI m) (nI p) xx ru td nw kp z1 z2 = some (r, nI p', xx', nw', kp') ∧ WW m t ru fp td fr' fq' nx' p' fd' tt' nw' kp' ∧ tt' ≤ tt + 40 := by
  have hm := hw.1.1
  unfold F_X9_years F_X10_years F_X5_isTold
  rw [rTree hm, pBs, rIn, pBs]
  by_cases m0 : m = 0
  · subst m0
    exact ⟨_, fr, fq, nx, p, fd, tt, nw, kp, xx, rfl, rfl, hw, by omega⟩
  · have m0' : 0 < m := by omega
    have hp1 : ¬ pb (decide (0 < m)) = 0 := by simp [m0', pb]
    rw [if_neg (by rw [pLe0 (by omega)]; exact m0), pBs, if_neg (show ¬ (1 : Int32) = 0 from by decide), if_neg hp1]
    have c4 : (40 < z1) ↔ ¬ (z1 ≤ 40) := not_le.symm
    by_cases c1 : z1 < 1
    · rw [if_pos c1, if_pos (show pb (!decide (z1 < 1) && !decide (40 < z1)) = 0 by simp [c1, pb])]
      exact ⟨_, fr, fq, nx, p, fd, tt, nw, kp, xx, rfl, rfl, hw, by omega⟩
    · rw [if_neg c1]
      by_cases c2 : z1 ≤ 40
      · rw [if_pos c2, if_neg (show ¬ pb (!decide (z1 < 1) && !decide (40 < z1)) = 0 by simp [c1, c4, c2, pb])]
        obtain ⟨q, hq, rfl⟩ := nI_of (lt01 c1)
        have hq40 : q ≤ 40 := by rw [show (40 : Int32) = nI 40 from rfl, pLe hq (by omega)] at c2; exact c2
        obtain ⟨r, fr2, fq2, nx2, p2, fd2, tt2, nw2, kp2, xx2, a1, a2, a3, a4⟩ := years_L (t := t) (td := td) (fr0 := fr) (fq0 := fq) (fd0 := fd) (nw0 := nw) (kp0 := kp) (nx0 := nI nx) (p0 := nI p) (t0 := nI tt) (a0 := nI p) (x0 := xx) (d0 := xx) (z2 := z2) (z2' := z2) m0' hq40 q 0 1000 1000 fr fq fd nw kp nx p tt z2 (by omega) (by omega) (by omega) hw (by omega)
        exact ⟨r, fr2, fq2, nx2, p2, fd2, tt2, nw2, kp2, xx2, a1, a2, a3, by omega⟩
      · rw [if_neg c2, if_pos (show pb (!decide (z1 < 1) && !decide (40 < z1)) = 0 by simp [c4, c2, pb])]
        exact ⟨_, fr, fq, nx, p, fd, tt, nw, kp, xx, rfl, rfl, hw, by omega⟩
/-! undoing, images, counting -/
theorem undo_L {ac : Int32} {nw0 kp : Nat → Int32} {a : Nat} {nw : Nat → Int32} (ha : a < 40) : ∃ g, FL_X10_undo_21 ac nw0 kp 1000 0 (nI a) nw = some (nI a, nI a, g) ∧ ∀ k, k < 279 → g k = rwY kp a k := by
  have hl := pLoop (m := 279) (L := fun n i x => FL_X10_undo_21 ac nw0 kp n i (nI a) x) (g := fun j x => upd x j (kp (279 * a + j))) (fin := fun x => (nI a, nI a, x)) (fun j x => ∀ k, k < j → x k = rwY kp a k) (fun n j x hj hI => ?_) (fun n x hI => ?_) 279 1000 0 nw (by omega) (by omega) (fun k hk => by omega)
  · exact ⟨_, hl.1, hl.2⟩
  · refine ⟨?_, fun k hk => ?_⟩
    · show FL_X10_undo_21 ac nw0 kp (n + 1) (nI j) (nI a) x = FL_X10_undo_21 ac nw0 kp n (nI (j + 1)) (nI a) _
      have e1 : (279 : Int32) * nI a = nI (279 * a) := pM 279 a
      rw [FL_X10_undo_21, if_neg (by rw [show (279 : Int32) = nI 279 from rfl, pLe (by omega) (by omega)]; omega), e1, nI_add, pIx (by omega) (by omega), pIx (by omega) (by omega), pCl (by omega), pCl (by omega), pS1]
    · by_cases c : k = j
      · subst c; exact pUs
      · show upd x j _ k = _
        rw [pUn c]; exact hI k (by omega)
  · show FL_X10_undo_21 ac nw0 kp (n + 1) (nI 279) (nI a) x = _
    rw [FL_X10_undo_21, if_pos (show (279 : Int32) ≤ nI 279 from by decide)]
theorem undo_sim {m t : Nat} {ru fp td fr fq fd nw kp : Nat → Int32} {nx p tt : Nat} (hw : WW m t ru fp td fr fq nx p fd tt nw kp) (ht : tt < 268435456) : ∃ r fr' nx' p' tt' nw', F_X9_undo (nI nx) (nI p) (nI tt) fr fq = some (r, nI nx', nI p', nI tt', fr') ∧ F_X10_undo (nI p) nw kp = some (r, nI p', nw') ∧ WW m t ru fp td fr' fq nx' p' fd tt' nw' kp ∧ tt' ≤ tt := by
  obtain ⟨hc, hs, hk1, hk2, hk3, hk4⟩ := hw
  have hm := hc.1
  unfold F_X9_undo F_X10_undo
  by_cases c : p = 0
  · subst c
    exact ⟨_, fr, nx, 0, tt, nw, rfl, rfl, ⟨hc, hs, hk1, hk2, hk3, hk4⟩, by omega⟩
  · have hp0 : ¬ nI p = 0 := by rw [show (0 : Int32) = nI 0 from rfl, pEq (by omega) (by omega)]; exact c
    have ep : nI p - 1 = nI (p - 1) := by rw [show (1 : Int32) = nI 1 from rfl, pSub (by omega) (by omega)]
    rw [if_neg hp0, if_neg hp0, ep]
    obtain ⟨g, g1, g2⟩ := undo_L (ac := nI p) (nw0 := nw) (kp := kp) (a := p - 1) (nw := nw) (by omega)
    rw [g1]
    unfold F_X4_restore F_X1_forgetLatest
    have e1 : (nI nx + 40) - 1 = nI (nx + 39) := by
      rw [show (40 : Int32) = nI 40 from rfl, nI_add, show (1 : Int32) = nI 1 from rfl, pSub (by omega) (by omega)]; congr 1
    have e2 : nI (nx + 39) - nI (nx + 39) / 40 * 40 = nI ((nx + 39) % 40) := pMod (a := nx + 39) (b := 40) (by omega) (by decide)
    have e3 : nI ((nx + 39) % 40) * 98 = nI ((nx + 39) % 40 * 98) := pM _ 98
    have et : nI tt - 1 = nI (tt - 1) := by rw [show (1 : Int32) = nI 1 from rfl, pSub (by omega) (by omega)]
    rw [if_neg (by rw [pLe0 (by omega)]; exact c), e1, e2, e3, if_pos (nI_pos (by omega)), pCl (by omega), if_pos (by omega), pBs, pBs, et, if_neg (nI_pos (by omega)), ep]
    refine ⟨_, _, (nx + 39) % 40, p - 1, tt - 1, g, rfl, rfl, ⟨hc, ?_, by omega, by omega, by omega, fun i hi => ?_⟩, by omega⟩
    · have h0 := hk4 0 (by omega)
      rw [show tt - 1 - 0 = tt - 1 from by omega, show p - 1 - 0 = p - 1 from by omega, show nx + 39 - 0 = nx + 39 from by omega] at h0
      refine SR_congr hm (fun k hk => ?_) g2 h0
      simp only [va_cpy, rwX]
      rw [if_pos (by omega)]; congr 1; omega
    · have h1 := hk4 (i + 1) (by omega)
      rw [show tt - 1 - (i + 1) = tt - 1 - 1 - i from by omega, show p - 1 - (i + 1) = p - 1 - 1 - i from by omega, show (nx + 39 - (i + 1)) % 40 = ((nx + 39) % 40 + 39 - i) % 40 from by omega] at h1
      exact h1
/-- the image, as both hold it -/
def IM (m : Nat) (R : Nat → Int32) (T : Nat → Nat → Int32) (hi : Int32) (fk fe : Nat → Int32) (te : Nat) (im : Nat → Int32) : Prop := hi = 0 ∨ (hi = 1 ∧ SR m R T fk fe te im)
theorem image_L {mn hi : Int32} {nw im0 im : Nat → Int32} {h : Int32} : ∃ g, FL_X10_image_11 mn hi nw im0 1000 0 h im = some (nw 96, 1, g) ∧ ∀ k, k < 279 → g k = nw k := by
  have hl := pLoop (m := 279) (L := fun n i x => FL_X10_image_11 mn hi nw im0 n i h x) (g := fun j x => upd x j (nw j)) (fin := fun x => (nw 96, 1, x)) (fun j x => ∀ k, k < j → x k = nw k) (fun n j x hj hI => ?_) (fun n x hI => ?_) 279 1000 0 im (by omega) (by omega) (fun k hk => by omega)
  · exact ⟨_, hl.1, hl.2⟩
  · refine ⟨?_, fun k hk => ?_⟩
    · show FL_X10_image_11 mn hi nw im0 (n + 1) (nI j) h x = FL_X10_image_11 mn hi nw im0 n (nI (j + 1)) h _
      rw [FL_X10_image_11, if_neg (by rw [show (279 : Int32) = nI 279 from rfl, pLe (by omega) (by omega)]; omega), pIx (by omega) (by omega), pIx (by omega) (by omega), pCl (by omega), pS1]
    · by_cases c : k = j
      · subst c; exact pUs
      · show upd x j _ k = _
        rw [pUn c]; exact hI k (by omega)
  · show FL_X10_image_11 mn hi nw im0 (n + 1) (nI 279) h x = _
    rw [FL_X10_image_11, if_pos (show (279 : Int32) ≤ nI 279 from by decide)]
theorem back_L {ac hi : Int32} {nw0 im nw : Nat → Int32} {h : Int32} : ∃ g, FL_X10_back_11 ac hi nw0 im 1000 0 h nw = some (g 96, 0, g) ∧ ∀ k, k < 279 → g k = im k := by
  have hl := pLoop (m := 279) (L := fun n i x => FL_X10_back_11 ac hi nw0 im n i h x) (g := fun j x => upd x j (im j)) (fin := fun x => (x 96, 0, x)) (fun j x => ∀ k, k < j → x k = im k) (fun n j x hj hI => ?_) (fun n x hI => ?_) 279 1000 0 nw (by omega) (by omega) (fun k hk => by omega)
  · exact ⟨_, hl.1, hl.2⟩
  · refine ⟨?_, fun k hk => ?_⟩
    · show FL_X10_back_11 ac hi nw0 im (n + 1) (nI j) h x = FL_X10_back_11 ac hi nw0 im n (nI (j + 1)) h _
      rw [FL_X10_back_11, if_neg (by rw [show (279 : Int32) = nI 279 from rfl, pLe (by omega) (by omega)]; omega), pIx (by omega) (by omega), pIx (by omega) (by omega), pCl (by omega), pS1]
    · by_cases c : k = j
      · subst c; exact pUs
      · show upd x j _ k = _
        rw [pUn c]; exact hI k (by omega)
  · show FL_X10_back_11 ac hi nw0 im (n + 1) (nI 279) h x = _
    rw [FL_X10_back_11, if_pos (show (279 : Int32) ≤ nI 279 from by decide)]
theorem DV_fd {fd fd' nw : Nat → Int32} {tt : Nat} (h : ∀ k, k < 300 → fd' k = fd k) (hd : DV fd tt nw) : DV fd' tt nw :=
  ⟨hd.1, fun i c hi hc => by rw [h _ (by omega)]; exact hd.2 i c hi hc⟩
theorem image_sim {m t : Nat} {ru fp td fr fq fd nw kp fk fe im : Nat → Int32} {nx p tt te : Nat} {hi : Int32} (hw : WW m t ru fp td fr fq nx p fd tt nw kp) (him : IM m ru (tT m td) hi fk fe te im) : ∃ r hi' fk' fe' te' im', F_X9_image (nI m) (nI tt) (nI te) hi fr fd fk fe = some (r, nI te', hi', fk', fe') ∧ F_X10_image (nI m) hi nw im = some (r, hi', im') ∧ IM m ru (tT m td) hi' fk' fe' te' im' ∧ te' ≤ max te tt := by
  have hm := hw.1.1
  unfold F_X9_image F_X10_image F_X5_isTold
  rw [rTree hm, pBs]
  by_cases m0 : m = 0
  · subst m0
    exact ⟨_, hi, fk, fe, te, im, rfl, rfl, him, by omega⟩
  · have m0' : 0 < m := by omega
    have hp1 : ¬ pb (decide (0 < m)) = 0 := by simp [m0', pb]
    rw [if_neg (by rw [pLe0 (by omega)]; exact m0), pBs, if_neg (show ¬ (1 : Int32) = 0 from by decide), if_neg hp1]
    obtain ⟨g, g1, g2⟩ := image_L (mn := nI m) (hi := hi) (nw := nw) (im0 := im) (im := im) (h := hi)
    rw [g1]
    unfold F_X0_copyFrom F_X1_copyFrom
    rw [pBs, pBs]
    obtain ⟨u, hu, e1, e2⟩ := hw.2.1.2.2.1
    refine ⟨fr 96, 1, _, _, tt, g, rfl, by rw [e1, e2], Or.inr ⟨rfl, ?_⟩, by omega⟩
    have hs := SR_congr (fr' := va_cpy fr fk 0 0 98) (nw' := g) hm (fun k hk => by simp only [va_cpy]; rw [if_pos (by omega), show 0 + (k - 0) = k from by omega]) g2 hw.2.1
    exact ⟨hs.1, hs.2.1, hs.2.2.1, DV_fd (fun k hk => by simp only [va_cpy]; rw [if_pos (by omega), show 0 + (k - 0) = k from by omega]) hs.2.2.2⟩
theorem back_sim {m t : Nat} {ru fp td fr fq fd nw kp fk fe im : Nat → Int32} {nx p tt te : Nat} {hi : Int32} (hw : WW m t ru fp td fr fq nx p fd tt nw kp) (him : IM m ru (tT m td) hi fk fe te im) : ∃ r p' fr' fd' tt' nw', F_X9_back (nI p) (nI tt) (nI te) hi fr fd fk fe = some (r, nI p', nI tt', fr', fd') ∧ F_X10_back (nI p) hi nw im = some (r, nI p', nw') ∧ WW m t ru fp td fr' fq nx p' fd' tt' nw' kp ∧ tt' ≤ max te tt := by
  have hm := hw.1.1
  unfold F_X9_back F_X10_back
  rcases him with rfl | ⟨rfl, hs0⟩
  · exact ⟨_, p, fr, fd, tt, nw, rfl, rfl, hw, by omega⟩
  · obtain ⟨g, g1, g2⟩ := back_L (ac := nI p) (hi := 1) (nw0 := nw) (im := im) (nw := nw) (h := nI p)
    rw [if_neg (by decide), if_neg (by decide), g1]
    unfold F_X0_copyFrom F_X1_copyFrom F_X4_forget
    rw [pBs, pBs, pBs]
    have hs := SR_congr (fr' := va_cpy fk fr 0 0 98) (nw' := g) hm (fun k hk => by simp only [va_cpy]; rw [if_pos (by omega), show 0 + (k - 0) = k from by omega]) g2 hs0
    have hs2 : SR m ru (tT m td) (va_cpy fk fr 0 0 98) (va_cpy fe fd 0 0 300) te g := ⟨hs.1, hs.2.1, hs.2.2.1, DV_fd (fun k hk => by simp only [va_cpy]; rw [if_pos (by omega), show 0 + (k - 0) = k from by omega]) hs.2.2.2⟩
    obtain ⟨u, hu, e1, e2⟩ := hs2.2.2.1
    refine ⟨va_cpy fk fr 0 0 98 96, 0, _, _, te, g, rfl, by rw [e1, e2]; rfl, ⟨hw.1, hs2, by omega, hw.2.2.2.1, by omega, fun i hi => by omega⟩, by omega⟩
theorem log_sim {m t : Nat} {ru fp td fr fq fd nw kp : Nat → Int32} {nx p tt : Nat} {z1 z2 : Int32} (hw : WW m t ru fp td fr fq nx p fd tt nw kp) (ht : tt < 268435456) : ∃ r, F_X9_log (nI tt) fd z1 z2 = some r ∧ F_X10_log nw z1 z2 = some r := by
  obtain ⟨h98, hd⟩ := hw.2.1.2.2.2
  have es : (if (60 : Int32) < nI tt then (60 : Int32) else nI tt) = nI (min tt 60) := by
    rw [show (60 : Int32) = nI 60 from rfl]
    by_cases c : 60 < tt
    · rw [if_pos (by rw [pLt (by omega) (by omega)]; exact c)]; congr 1; omega
    · rw [if_neg (by rw [pLt (by omega) (by omega)]; exact c)]; congr 1; omega
  unfold F_X9_log F_X10_log F_X1_shown
  rw [h98, rIn, pBs, rIn, pBs, pBs, es]
  by_cases c1 : z1 < 0
  · rw [if_pos c1, if_pos (show pb (!decide (z1 < 0) && !decide (nI (min tt 60) - 1 < z1)) = 0 by simp [c1, pb])]; exact ⟨_, rfl, rfl⟩
  · rw [if_neg c1]
    obtain ⟨i, hi, rfl⟩ := nI_of c1
    have e1 : (nI (min tt 60) - 1 < nI i) ↔ min tt 60 ≤ i := by
      rw [q_lt, show (1 : Int32) = nI 1 from rfl, pk_sub_toInt (by omega) (by omega), nI_toInt hi]; omega
    by_cases c2 : min tt 60 ≤ i
    · rw [if_pos ((pLe (by omega) hi).mpr c2), if_pos (show pb (!decide (nI i < 0) && !decide (nI (min tt 60) - 1 < nI i)) = 0 by simp [e1.mpr c2, pb])]; exact ⟨_, rfl, rfl⟩
    · have c2' : ¬ nI (min tt 60) - 1 < nI i := fun q => c2 (e1.mp q)
      rw [if_neg (fun q => c2 ((pLe (by omega) hi).mp q)), if_neg (show ¬ pb (!decide (nI i < 0) && !decide (nI (min tt 60) - 1 < nI i)) = 0 by simp [c1, c2', pb])]
      have c4 : (2 < z2) ↔ ¬ (z2 < 3) := by
        rw [q_lt, q_lt]
        have h2 : (2 : Int32).toInt = 2 := by decide
        have h3 : (3 : Int32).toInt = 3 := by decide
        omega
      by_cases c3 : z2 < 0
      · rw [if_pos c3, if_pos (show pb (!decide (z2 < 0) && !decide (2 < z2)) = 0 by simp [c3, pb])]; exact ⟨_, rfl, rfl⟩
      · rw [if_neg c3]
        by_cases c5 : z2 < 3
        · have c5' : ¬ 2 < z2 := fun q => (c4.mp q) c5
          rw [if_pos c5, if_neg (show ¬ pb (!decide (z2 < 0) && !decide (2 < z2)) = 0 by simp [c3, c5', pb])]
          obtain ⟨c, hc, rfl⟩ := nI_of c3
          have hc3 : c < 3 := by rw [show (3 : Int32) = nI 3 from rfl, pLt hc (by omega)] at c5; exact c5
          unfold F_X1_read
          have x1 : nI tt - 1 - nI i = nI (tt - 1 - i) := by
            rw [show (1 : Int32) = nI 1 from rfl, pSub (by omega) (by omega), pSub (by omega) (by omega)]
          have x2 : nI (tt - 1 - i) - nI (tt - 1 - i) / 100 * 100 = nI ((tt - 1 - i) % 100) := pMod (a := tt - 1 - i) (b := 100) (by omega) (by decide)
          have x3 : nI ((tt - 1 - i) % 100) * 3 = nI ((tt - 1 - i) % 100 * 3) := pM _ 3
          have y1 : nI (min tt 60) - 1 - nI i = nI (min tt 60 - 1 - i) := by
            rw [show (1 : Int32) = nI 1 from rfl, pSub (by omega) (by omega), pSub (by omega) (by omega)]
          have y2 : (3 : Int32) * nI (min tt 60 - 1 - i) = nI (3 * (min tt 60 - 1 - i)) := pM 3 _
          have y3 : (99 : Int32) + nI (3 * (min tt 60 - 1 - i)) = nI (99 + 3 * (min tt 60 - 1 - i)) := nI_add 99 _
          rw [x1, x2, x3, nI_add, pIx (by omega) (by omega), pCl (by omega), pBs, y1, y2, y3, nI_add, pIx (by omega) (by omega), pCl (by omega)]
          exact ⟨_, rfl, by rw [hd i c (by omega) hc3]⟩
        · rw [if_neg c5, if_pos (show pb (!decide (z2 < 0) && !decide (2 < z2)) = 0 by simp [c4.mpr c5, pb])]; exact ⟨_, rfl, rfl⟩
theorem count_sim {m t s : Nat} {ru fp td fr fq fd nw kp : Nat → Int32} {nx p tt : Nat} {tl z1 : Int32} (hw : WW m t ru fp td fr fq nx p fd tt nw kp) (ht : tt < 268435456) : ∃ r, F_X9_count tl (nI m) (nI s) (nI p) (nI tt) z1 = some r ∧ F_X10_count tl (nI m) (nI s) (nI p) nw z1 = some r := by
  obtain ⟨h98, hd⟩ := hw.2.1.2.2.2
  have es : (if (60 : Int32) < nI tt then (60 : Int32) else nI tt) = nI (min tt 60) := by
    rw [show (60 : Int32) = nI 60 from rfl]
    by_cases c : 60 < tt
    · rw [if_pos (by rw [pLt (by omega) (by omega)]; exact c)]; congr 1; omega
    · rw [if_neg (by rw [pLt (by omega) (by omega)]; exact c)]; congr 1; omega
  unfold F_X9_count F_X10_count F_X1_shown
  rw [h98, es]
  by_cases c0 : z1 = 0 <;> by_cases c1 : z1 = 1 <;> by_cases c2 : z1 = 2 <;> by_cases c3 : z1 = 3 <;> by_cases c4 : z1 = 4 <;> simp [c0, c1, c2, c3, c4]
theorem status_sim {fz : Nat → Int32} {z1 : Int32} : ∃ r, F_X9_status fz z1 = some r ∧ F_X10_status fz z1 = some r := by
  unfold F_X9_status F_X10_status
  rw [rIn, pBs]
  by_cases c1 : z1 < 0
  · rw [if_pos c1, if_pos (show pb (!decide (z1 < 0) && !decide (3 < z1)) = 0 by simp [c1, pb])]; exact ⟨_, rfl, rfl⟩
  · rw [if_neg c1]
    have c4 : (3 < z1) ↔ (4 ≤ z1) := lt_le1 (k := 3) (by omega)
    by_cases c2 : 4 ≤ z1
    · rw [if_pos c2, if_pos (show pb (!decide (z1 < 0) && !decide (3 < z1)) = 0 by simp [c4.mpr c2, pb])]; exact ⟨_, rfl, rfl⟩
    · have c2' : ¬ 3 < z1 := fun q => c2 (c4.mp q)
      rw [if_neg c2, if_neg (show ¬ pb (!decide (z1 < 0) && !decide (3 < z1)) = 0 by simp [c1, c2', pb])]
      obtain ⟨i, hi, rfl⟩ := nI_of c1
      rw [show (4 : Int32) = nI 4 from rfl, pLe (by omega) hi] at c2
      rw [pIx (by omega) (by omega)]
      exact ⟨_, rfl, rfl⟩
