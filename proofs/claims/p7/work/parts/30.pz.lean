/-! scripts -/
def ScR (f1 f2 sq sl : Nat → Int32) (s : Nat) : Prop := s ≤ 4 ∧ ∀ i, i < s → ∃ l, l ≤ 16 ∧ f2 i = nI l ∧ sl i = nI l ∧ ∀ j, j < l → (∃ k, k ≤ 5 ∧ f1 (i * 64 + j * 4) = nI k) ∧ ∀ c, c < 4 → sq (4 * (16 * i + j) + c) = f1 (i * 64 + j * 4 + c)
theorem sHas {s : Nat} {z : Int32} (hs : s ≤ 8) : F_X7_has (nI s) z = some (pb (zDev s z)) := cHas (m := s) hs
theorem sIs {s : Nat} {z : Int32} : F_X10_isScript (nI s) z = some (pb (zDev s z)) := rDev (m := s)
theorem x7_read {f1 : Nat → Int32} {i j c : Nat} (hi : i < 4) (hj : j < 16) (hc : c < 4) : F_X7_read f1 (nI i) (nI j) (nI c) = some (f1 (i * 64 + j * 4 + c)) := by
  unfold F_X7_read
  have e1 : nI i * 64 = nI (i * 64) := pM i 64
  have e2 : nI j * 4 = nI (j * 4) := pM j 4
  rw [e1, e2, nI_add, nI_add, pIx (by omega) (by omega), pCl (by omega)]
theorem sq_ix {i j c : Nat} : (4 : Int32) * ((16 : Int32) * nI i + nI j) + nI c = nI (4 * (16 * i + j) + c) := by
  have e1 : (16 : Int32) * nI i = nI (16 * i) := pM 16 i
  rw [e1, nI_add]
  have e2 : (4 : Int32) * nI (16 * i + j) = nI (4 * (16 * i + j)) := pM 4 _
  rw [e2, nI_add]
theorem kind_c : ∀ k : Fin 6, F_X10_actOf (nI k.1) = some (q_tab 7 k.1) := by decide
theorem sort_sim {f1 f2 sq sl : Nat → Int32} {s i j l : Nat} (hj : j < l) (hl : l ≤ 16) (hi : i < 4) (hS : (∃ k, k ≤ 5 ∧ f1 (i * 64 + j * 4) = nI k) ∧ ∀ c, c < 4 → sq (4 * (16 * i + j) + c) = f1 (i * 64 + j * 4 + c)) : ∃ z, F_X7_sortOf f1 (nI i) (nI j) = some z ∧ F_X10_actOf (sq (4 * (16 * i + j))) = some z := by
  obtain ⟨⟨k, hk, e⟩, hq⟩ := hS
  have e0 := hq 0 (by omega)
  rw [Nat.add_zero, Nat.add_zero] at e0
  refine ⟨q_tab 7 k, ?_, ?_⟩
  · unfold F_X7_sortOf
    have := x7_read (f1 := f1) (i := i) (j := j) (c := 0) hi (by omega) (by omega)
    rw [show F_X7_read f1 (nI i) (nI j) 0 = _ from this, pBs, Nat.add_zero, e, if_neg (nI_pos (by omega)), if_neg (by rw [show (6 : Int32) = nI 6 from rfl, pLe (by omega) (by omega)]; omega), pIx (by omega) (by omega), pCl (by omega)]
  · rw [e0, e]; exact kind_c ⟨k, by omega⟩
theorem stX_end {dv nx0 p0 t0 z0 nx p tt : Int32} {fr0 fu fp f1 f2 fq0 fd0 fr fq fd : Nat → Int32} {i l n : Nat} (hi : i < 4) (hl : l ≤ 16) (hf2 : f2 i = nI l) : FL_X9_stepsDone_3 dv nx0 p0 t0 fr0 fu fp f1 f2 fq0 fd0 z0 (nI i) (n + 1) (nI l) nx p tt fr fq fd = some (nI l, nx, p, tt, fr, fq, fd) := by
  rw [FL_X9_stepsDone_3, pIx (by omega) (by omega), pIx (by omega) (by omega), pCl (by omega), hf2, if_pos (le_rfl32 _)]
theorem stX_go {dv nx0 p0 t0 z0 nx p tt z a b c : Int32} {fr0 fu fp f1 f2 fq0 fd0 fr fq fd : Nat → Int32} {i j l n : Nat} (hi : i < 4) (hl : l ≤ 16) (hj : j < l) (hf2 : f2 i = nI l) (hz : F_X7_sortOf f1 (nI i) (nI j) = some z) (ha : F_X7_read f1 (nI i) (nI j) 1 = some a) (hb : F_X7_read f1 (nI i) (nI j) 2 = some b) (hc : F_X7_read f1 (nI i) (nI j) 3 = some c) : FL_X9_stepsDone_3 dv nx0 p0 t0 fr0 fu fp f1 f2 fq0 fd0 z0 (nI i) (n + 1) (nI j) nx p tt fr fq fd = (F_X9_attempt dv nx p tt fr fu fp fq fd z0 z a b c).bind fun o => if o.1 = -1 then FL_X9_stepsDone_3 dv nx0 p0 t0 fr0 fu fp f1 f2 fq0 fd0 z0 (nI i) n (nI (j + 1)) o.2.1 o.2.2.1 o.2.2.2.1 o.2.2.2.2.1 o.2.2.2.2.2.1 o.2.2.2.2.2.2 else some (nI j, o.2.1, o.2.2.1, o.2.2.2.1, o.2.2.2.2.1, o.2.2.2.2.2.1, o.2.2.2.2.2.2) := by
  have hj' : ¬ nI l ≤ nI j := by rw [pLe (by omega) (by omega)]; omega
  rw [FL_X9_stepsDone_3, pIx (by omega) (by omega), pCl (by omega), hf2, if_neg hj', hz, pBs, ha, pBs, hb, pBs, hc, pBs, pS1]
theorem goY_end {mn a0 z2 ac : Int32} {ru td sq sl nw0 kp0 nw kp : Nat → Int32} {i l n : Nat} (hi : i < 4) (hl : l ≤ 16) (hsl : sl i = nI l) : FL_X10_goSteps_2 mn a0 ru td sq sl nw0 kp0 (nI i) z2 (n + 1) (nI l) ac nw kp = some (nI l, ac, nw, kp) := by
  rw [FL_X10_goSteps_2, pIx (by omega) (by omega), pIx (by omega) (by omega), pCl (by omega), hsl, if_pos (le_rfl32 _)]
theorem goY_go {mn a0 z2 ac z : Int32} {ru td sq sl nw0 kp0 nw kp : Nat → Int32} {i j l n : Nat} (hi : i < 4) (hl : l ≤ 16) (hj : j < l) (hsl : sl i = nI l) (hz : F_X10_actOf (sq (4 * (16 * i + j))) = some z) : FL_X10_goSteps_2 mn a0 ru td sq sl nw0 kp0 (nI i) z2 (n + 1) (nI j) ac nw kp = (F_X10_whyNot mn ru td nw z (sq (4 * (16 * i + j) + 1)) (sq (4 * (16 * i + j) + 2)) (sq (4 * (16 * i + j) + 3))).bind fun o => if o.1 = -1 then (if z2 = 0 then (F_X10_doNow mn ru td o.2 z (sq (4 * (16 * i + j) + 1)) (sq (4 * (16 * i + j) + 2)) (sq (4 * (16 * i + j) + 3))).bind fun w => FL_X10_goSteps_2 mn a0 ru td sq sl nw0 kp0 (nI i) z2 n (nI (j + 1)) ac w.2 kp else (F_X10_act mn ac ru td o.2 kp z (sq (4 * (16 * i + j) + 1)) (sq (4 * (16 * i + j) + 2)) (sq (4 * (16 * i + j) + 3))).bind fun w => FL_X10_goSteps_2 mn a0 ru td sq sl nw0 kp0 (nI i) z2 n (nI (j + 1)) w.2.1 w.2.2.1 w.2.2.2) else some (nI j, ac, o.2, kp) := by
  have hj' : ¬ nI l ≤ nI j := by rw [pLe (by omega) (by omega)]; omega
  have q0 : (4 : Int32) * ((16 : Int32) * nI i + nI j) = nI (4 * (16 * i + j)) := by
    have e1 : (16 : Int32) * nI i = nI (16 * i) := pM 16 i
    rw [e1, nI_add]; exact pM 4 _
  have q1 : nI (4 * (16 * i + j)) + 1 = nI (4 * (16 * i + j) + 1) := nI_add _ 1
  have q2 : nI (4 * (16 * i + j)) + 2 = nI (4 * (16 * i + j) + 2) := nI_add _ 2
  have q3 : nI (4 * (16 * i + j)) + 3 = nI (4 * (16 * i + j) + 3) := nI_add _ 3
  have x0 : ¬ (nI (4 * (16 * i + j)) < 0 ∨ 320 ≤ (nI (4 * (16 * i + j))).toNatClampNeg) := nI_in (by omega) (by omega)
  have x1 : ¬ (nI (4 * (16 * i + j) + 1) < 0 ∨ 320 ≤ (nI (4 * (16 * i + j) + 1)).toNatClampNeg) := nI_in (by omega) (by omega)
  have x2 : ¬ (nI (4 * (16 * i + j) + 2) < 0 ∨ 320 ≤ (nI (4 * (16 * i + j) + 2)).toNatClampNeg) := nI_in (by omega) (by omega)
  have x3 : ¬ (nI (4 * (16 * i + j) + 3) < 0 ∨ 320 ≤ (nI (4 * (16 * i + j) + 3)).toNatClampNeg) := nI_in (by omega) (by omega)
  rw [FL_X10_goSteps_2, pIx (by omega) (by omega), q0, q1, q2, q3, pS1]
  simp only [if_neg x0, if_neg x1, if_neg x2, if_neg x3]
  rw [pCl (show i < 2147483648 by omega), hsl, if_neg hj', pCl (show 4 * (16 * i + j) < 2147483648 by omega), pCl (show 4 * (16 * i + j) + 1 < 2147483648 by omega), pCl (show 4 * (16 * i + j) + 2 < 2147483648 by omega), pCl (show 4 * (16 * i + j) + 3 < 2147483648 by omega), hz, pBs]
theorem steps1 {m t s i l : Nat} {ru fp td f1 f2 sq sl fr0 fq0 fd0 nw0 kp0 : Nat → Int32} {nx0 p0 t0 a0 : Int32} (hS : ScR f1 f2 sq sl s) (hi : i < s) (hl : l ≤ 16) (hf2 : f2 i = nI l) (hsl : sl i = nI l) (hst : ∀ j, j < l → (∃ k, k ≤ 5 ∧ f1 (i * 64 + j * 4) = nI k) ∧ ∀ c, c < 4 → sq (4 * (16 * i + j) + c) = f1 (i * 64 + j * 4 + c)) : ∀ (k j n n' : Nat) (fr fq fd nw kp : Nat → Int32) (nx p tt : Nat), j + k = l → k < n → k < n' → WW m t ru fp td fr fq nx p fd tt nw kp → tt + k < 268435456 →
    ∃ r fr' fq' nx' p' fd' tt' nw' kp', FL_X9_stepsDone_3 (nI m) nx0 p0 t0 fr0 ru fp f1 f2 fq0 fd0 1 (nI i) n (nI j) (nI nx) (nI p) (nI tt) fr fq fd = some (r, nI nx', nI p', nI tt', fr', fq', fd') ∧ FL_X10_goSteps_2 (nI m) a0 ru td sq sl nw0 kp0 (nI i) 1 n' (nI j) (nI p) nw kp = some (r, nI p', nw', kp') ∧ WW m t ru fp td fr' fq' nx' p' fd' tt' nw' kp' ∧ tt' ≤ tt + k
  | k, j, 0, n', fr, fq, fd, nw, kp, nx, p, tt, _, h, _, _, _ => absurd h (by omega)
  | k, j, n + 1, 0, fr, fq, fd, nw, kp, nx, p, tt, _, _, h, _, _ => absurd h (by omega)
  | 0, j, n + 1, n' + 1, fr, fq, fd, nw, kp, nx, p, tt, h1, _, _, hw, _ => by
    obtain rfl : j = l := by omega
    have hs4 := hS.1
    rw [stX_end (by omega) hl hf2, goY_end (by omega) hl hsl]
    exact ⟨_, fr, fq, nx, p, fd, tt, nw, kp, rfl, rfl, hw, by omega⟩
  | k + 1, j, n + 1, n' + 1, fr, fq, fd, nw, kp, nx, p, tt, h1, h2, h3, hw, ht => by
    have hs4 := hS.1
    have hst' := hst j (by omega)
    obtain ⟨z, z1, z2⟩ := sort_sim (f1 := f1) (f2 := f2) (sq := sq) (sl := sl) (s := s) (i := i) (j := j) (l := l) (by omega) hl (by omega) hst'
    have hj : ¬ nI l ≤ nI j := by rw [pLe (by omega) (by omega)]; omega
    have r1 := x7_read (f1 := f1) (i := i) (j := j) (c := 1) (by omega) (by omega) (by omega)
    have r2 := x7_read (f1 := f1) (i := i) (j := j) (c := 2) (by omega) (by omega) (by omega)
    have r3 := x7_read (f1 := f1) (i := i) (j := j) (c := 3) (by omega) (by omega) (by omega)
    rw [← hst'.2 1 (by omega)] at r1
    rw [← hst'.2 2 (by omega)] at r2
    rw [← hst'.2 3 (by omega)] at r3
    rw [stX_go (by omega) hl (by omega) hf2 z1 r1 r2 r3, goY_go (by omega) hl (by omega) hsl z2]
    rcases act_sim (z := z) (a := sq (4 * (16 * i + j) + 1)) (b := sq (4 * (16 * i + j) + 2)) (c := sq (4 * (16 * i + j) + 3)) (b' := sq (4 * (16 * i + j) + 2)) (c' := sq (4 * (16 * i + j) + 3)) hw (by omega) (fun _ => ⟨rfl, rfl⟩) (fun _ => rfl) with ⟨k4, hk4, w, x⟩ | ⟨w, fr', fq', nx', p', fd', nw', kp', r, x, y, hw', ha⟩
    · rw [x, w, pBs, pBs]
      have hne : ¬ (nI k4 : Int32) = -1 := by rw [pNm (by omega)]; exact id
      refine ⟨nI j, fr, fq, nx, p, fd, tt, nw, kp, if_neg hne, if_neg hne, hw, by omega⟩
    · rw [x, w, pBs, pBs]
      obtain ⟨r', fr2, fq2, nx2, p2, fd2, tt2, nw2, kp2, a1, a2, a3, a4⟩ := steps1 (t := t) (td := td) (fr0 := fr0) (fq0 := fq0) (fd0 := fd0) (nw0 := nw0) (kp0 := kp0) (nx0 := nx0) (p0 := p0) (t0 := t0) (a0 := a0) hS hi hl hf2 hsl hst k (j + 1) n n' fr' fq' fd' nw' kp' nx' p' (tt + 1) (by omega) (by omega) (by omega) hw' (by omega)
      refine ⟨r', fr2, fq2, nx2, p2, fd2, tt2, nw2, kp2, ?_, ?_, a3, by omega⟩
      · show (if (-1 : Int32) = -1 then _ else _) = _
        rw [if_pos rfl]; exact a1
      · show (if (-1 : Int32) = -1 then (if (1 : Int32) = 0 then _ else (F_X10_act (nI m) (nI p) ru td nw kp z (sq (4 * (16 * i + j) + 1)) (sq (4 * (16 * i + j) + 2)) (sq (4 * (16 * i + j) + 3))).bind _) else _) = _
        rw [if_pos rfl, if_neg (by decide), y, pBs]; exact a2
theorem why_dry {m t u : Nat} {ru fp td fr nw : Nat → Int32} {z a b c : Int32} (hc : Cx m t ru fp td) (hr : Rl m fr nw) (hi : iU m ru (tT m td) (nz nw)) (hu : u ≤ 9999) (e1 : fr 96 = nI u) (e2 : nw 96 = nI u) :
    (∃ k, k < 4 ∧ F_X10_whyNot (nI m) ru td nw z a b c = some (nI k, nw) ∧ ∀ nx ph tt fq fd z0, F_X9_attempt (nI m) nx ph tt fr ru fp fq fd z0 z a b c = some (nI k, nx, ph, tt, fr, fq, fd)) ∨ (F_X10_whyNot (nI m) ru td nw z a b c = some (-1, nw) ∧ ∃ f g r, doS m ru fp td fr nw z a b c f g r) := by
  have hm := hc.1
  have hw : F_X10_whyNot (nI m) ru td nw z a b c = some (zBar m ru (tT m td) (nz nw) (nw 96) z a b c, nw) := rBar hm hc.2.1 hc.2.2.1 hi.1
  have hbar : F_X0_barOf fr (nI m) ru fp z a b c = some (zBar m ru (tT m td) (nz nw) (nw 96) z a b c) := by
    rw [cBar hm hc.2.1 (by rw [hr.1]; exact hi.1.1), hc.2.2.2, hr.1, e1, ← e2]
  rcases zBar_4 (m := m) (R := ru) (T := tT m td) (N := nz nw) (tm := nw 96) (z := z) (a := a) (b := b) (c := c) with q | ⟨k, hk4, q⟩
  · exact Or.inr ⟨by rw [hw, q], do_sim hc hr hi hu e1 e2 q⟩
  · refine Or.inl ⟨k, hk4, by rw [hw, q], fun nx ph tt fq fd z0 => ?_⟩
    unfold F_X9_attempt
    rw [hbar, pBs, q, if_neg (by rw [pNm (by omega)]; exact id)]
theorem steps0 {m t s i l : Nat} {ru fp td f1 f2 sq sl fr0 fq0 fd0 nw0 kp0 fq fd kp : Nat → Int32} {nx0 p0 t0 a0 nx p tt : Int32} (hc : Cx m t ru fp td) (hS : ScR f1 f2 sq sl s) (hi : i < s) (hl : l ≤ 16) (hf2 : f2 i = nI l) (hsl : sl i = nI l) (hst : ∀ j, j < l → (∃ k, k ≤ 5 ∧ f1 (i * 64 + j * 4) = nI k) ∧ ∀ c, c < 4 → sq (4 * (16 * i + j) + c) = f1 (i * 64 + j * 4 + c)) : ∀ (k j n n' u : Nat) (fr nw : Nat → Int32), j + k = l → k < n → k < n' → Rl m fr nw → iU m ru (tT m td) (nz nw) → u ≤ 9999 → fr 96 = nI u → nw 96 = nI u →
    ∃ r f g, FL_X9_stepsDone_3 (nI m) nx0 p0 t0 fr0 ru fp f1 f2 fq0 fd0 0 (nI i) n (nI j) nx p tt fr fq fd = some (r, nx, p, tt, f, fq, fd) ∧ FL_X10_goSteps_2 (nI m) a0 ru td sq sl nw0 kp0 (nI i) 0 n' (nI j) p nw kp = some (r, p, g, kp) ∧ Rl m f g ∧ iU m ru (tT m td) (nz g) ∧ kD nw g
  | k, j, 0, n', u, fr, nw, _, h, _, _, _, _, _, _ => absurd h (by omega)
  | k, j, n + 1, 0, u, fr, nw, _, _, h, _, _, _, _, _ => absurd h (by omega)
  | 0, j, n + 1, n' + 1, u, fr, nw, h1, _, _, hr, hi', _, _, _ => by
    obtain rfl : j = l := by omega
    have hs4 := hS.1
    rw [stX_end (by omega) hl hf2, goY_end (by omega) hl hsl]
    exact ⟨_, fr, nw, rfl, rfl, hr, hi', fun k _ => rfl⟩
  | k + 1, j, n + 1, n' + 1, u, fr, nw, h1, h2, h3, hr, hi', hu, e1, e2 => by
    have hs4 := hS.1
    have hst' := hst j (by omega)
    obtain ⟨z, z1, z2⟩ := sort_sim (f1 := f1) (f2 := f2) (sq := sq) (sl := sl) (s := s) (i := i) (j := j) (l := l) (by omega) hl (by omega) hst'
    have hj : ¬ nI l ≤ nI j := by rw [pLe (by omega) (by omega)]; omega
    have r1 := x7_read (f1 := f1) (i := i) (j := j) (c := 1) (by omega) (by omega) (by omega)
    have r2 := x7_read (f1 := f1) (i := i) (j := j) (c := 2) (by omega) (by omega) (by omega)
    have r3 := x7_read (f1 := f1) (i := i) (j := j) (c := 3) (by omega) (by omega) (by omega)
    rw [← hst'.2 1 (by omega)] at r1
    rw [← hst'.2 2 (by omega)] at r2
    rw [← hst'.2 3 (by omega)] at r3
    rw [stX_go (by omega) hl (by omega) hf2 z1 r1 r2 r3, goY_go (by omega) hl (by omega) hsl z2]
    rcases why_dry (z := z) (a := sq (4 * (16 * i + j) + 1)) (b := sq (4 * (16 * i + j) + 2)) (c := sq (4 * (16 * i + j) + 3)) hc hr hi' hu e1 e2 with ⟨k4, hk4, w, x⟩ | ⟨w, f, g, r, d1, d2, d3, ⟨u', hu', d4, d5⟩, d6, d7, d8⟩
    · rw [x, w, pBs, pBs]
      have hne : ¬ (nI k4 : Int32) = -1 := by rw [pNm (by omega)]; exact id
      exact ⟨nI j, fr, nw, if_neg hne, if_neg hne, hr, hi', fun k _ => rfl⟩
    · have x := d8 nx p tt fq fd 0
      rw [if_pos rfl] at x
      unfold cEnd at x
      rw [if_pos rfl] at x
      rw [x, w, pBs, pBs]
      obtain ⟨r', f2', g2', a1, a2, a3, a4, a5⟩ := steps0 (t := t) (td := td) (fr0 := fr0) (fq0 := fq0) (fd0 := fd0) (nw0 := nw0) (kp0 := kp0) (nx0 := nx0) (p0 := p0) (t0 := t0) (a0 := a0) (fq := fq) (fd := fd) (kp := kp) (nx := nx) (p := p) (tt := tt) hc hS hi hl hf2 hsl hst k (j + 1) n n' u' f g (by omega) (by omega) (by omega) d2 d3 hu' d4 d5
      refine ⟨r', f2', g2', ?_, ?_, a3, a4, fun k hk => (a5 k hk).trans (d6 k hk)⟩
      · show (if (-1 : Int32) = -1 then _ else _) = _
        rw [if_pos rfl]; exact a1
      · show (if (-1 : Int32) = -1 then (if (0 : Int32) = 0 then (F_X10_doNow (nI m) ru td nw z (sq (4 * (16 * i + j) + 1)) (sq (4 * (16 * i + j) + 2)) (sq (4 * (16 * i + j) + 3))).bind _ else _) else _) = _
        rw [if_pos rfl, if_pos rfl, d1, pBs]; exact a2
theorem aside_L {nw as_ : Nat → Int32} : ∃ g, F_X10_putAside nw as_ = some g ∧ ∀ k, k < 98 → g k = nw k := by
  unfold F_X10_putAside
  have hl := pLoop (m := 98) (L := fun n i x => FL_X10_putAside_2 nw as_ n i x) (g := fun j x => upd x j (nw j)) (fin := id) (fun j x => ∀ k, k < j → x k = nw k) (fun n j x hj hI => ?_) (fun n x hI => ?_) 98 1000 0 as_ (by omega) (by omega) (fun k hk => by omega)
  · exact ⟨_, hl.1, hl.2⟩
  · refine ⟨?_, fun k hk => ?_⟩
    · show FL_X10_putAside_2 nw as_ (n + 1) (nI j) x = FL_X10_putAside_2 nw as_ n (nI (j + 1)) _
      rw [FL_X10_putAside_2, if_neg (by rw [show (98 : Int32) = nI 98 from rfl, pLe (by omega) (by omega)]; omega), pIx (by omega) (by omega), pIx (by omega) (by omega), pCl (by omega), pS1]
    · by_cases c : k = j
      · subst c; exact pUs
      · show upd x j _ k = _
        rw [pUn c]; exact hI k (by omega)
  · show FL_X10_putAside_2 nw as_ (n + 1) (nI 98) x = _
    rw [FL_X10_putAside_2, if_pos (show (98 : Int32) ≤ nI 98 from by decide)]; rfl
theorem bring_L {nw as_ : Nat → Int32} : ∃ g, F_X10_bringBack nw as_ = some g ∧ (∀ k, k < 98 → g k = as_ k) ∧ ∀ k, 98 ≤ k → g k = nw k := by
  unfold F_X10_bringBack
  have hl := pLoop (m := 98) (L := fun n i x => FL_X10_bringBack_2 nw as_ n i x) (g := fun j x => upd x j (as_ j)) (fin := id) (fun j x => j ≤ 98 ∧ (∀ k, k < j → x k = as_ k) ∧ ∀ k, 98 ≤ k → x k = nw k) (fun n j x hj hI => ?_) (fun n x hI => ?_) 98 1000 0 nw (by omega) (by omega) ⟨by omega, fun k hk => by omega, fun k hk => rfl⟩
  · exact ⟨_, hl.1, hl.2.2⟩
  · refine ⟨?_, by omega, fun k hk => ?_, fun k hk => ?_⟩
    · show FL_X10_bringBack_2 nw as_ (n + 1) (nI j) x = FL_X10_bringBack_2 nw as_ n (nI (j + 1)) _
      rw [FL_X10_bringBack_2, if_neg (by rw [show (98 : Int32) = nI 98 from rfl, pLe (by omega) (by omega)]; omega), pIx (by omega) (by omega), pIx (by omega) (by omega), pCl (by omega), pS1]
    · by_cases c : k = j
      · subst c; exact pUs
      · show upd x j _ k = _
        rw [pUn c]; exact hI.2.1 k (by omega)
    · show upd x j _ k = _
      rw [pUn (by omega)]; exact hI.2.2 k hk
  · show FL_X10_bringBack_2 nw as_ (n + 1) (nI 98) x = _
    rw [FL_X10_bringBack_2, if_pos (show (98 : Int32) ≤ nI 98 from by decide)]; rfl
/-- aside and back again: as it was -/
theorem bring_eq {nw a g : Nat → Int32} (h1 : ∀ k, k < 98 → a k = nw k) (h2 : kD nw g) : F_X10_bringBack g a = some nw := by
  obtain ⟨g', e, e1, e2⟩ := bring_L (nw := g) (as_ := a)
  rw [e]
  have hh : g' = nw := by
    funext k
    by_cases c : k < 98
    · rw [e1 k c, h1 k c]
    · rw [e2 k (by omega), h2 k (by omega)]
  rw [hh]
theorem perform_sim {m t s : Nat} {ru fp td f1 f2 sq sl fr fq fd nw kp : Nat → Int32} {nx p tt : Nat} {z1 : Int32} (hw : WW m t ru fp td fr fq nx p fd tt nw kp) (ht : tt < 134217728) (hS : ScR f1 f2 sq sl s) : ∃ r fr' fq' nx' p' fd' tt' nw' kp', F_X9_perform (nI m) (nI s) (nI nx) (nI p) (nI tt) ru fp f1 f2 fr fq fd z1 = some (r, nI nx', nI p', nI tt', fr', fq', fd') ∧ F_X10_perform (nI m) (nI s) (nI p) ru td sq sl nw kp z1 = some (r, nI p', nw', kp') ∧ WW m t ru fp td fr' fq' nx' p' fd' tt' nw' kp' ∧ tt' ≤ tt + 40 := by
  have hm := hw.1.1
  have hs4 := hS.1
  unfold F_X9_perform F_X10_perform F_X5_isTold
  rw [sHas (by omega), sIs, pBs, pBs, rTree hm, pBs]
  by_cases m0 : m = 0
  · subst m0
    refine ⟨-1, fr, fq, nx, p, fd, tt, nw, kp, rfl, ?_, hw, by omega⟩
    by_cases c : zDev s z1 = true <;> simp [c, pb]
  · have m0' : 0 < m := by omega
    have hp1 : ¬ pb (decide (0 < m)) = 0 := by simp [m0', pb]
    rw [if_neg (by rw [pLe0 (by omega)]; exact m0), pBs, if_neg (show ¬ (1 : Int32) = 0 from by decide), if_neg hp1]
    by_cases c : zDev s z1 = true
    · rw [c, if_neg (show ¬ pb true = 0 from by decide), if_neg (show ¬ pb true = 0 from by decide)]
      obtain ⟨i, hi, rfl⟩ := zDev_lt (by omega) c
      obtain ⟨l, hl, hf2, hsl, hst⟩ := hS.2 i hi
      obtain ⟨r, fr2, fq2, nx2, p2, fd2, tt2, nw2, kp2, a1, a2, a3, a4⟩ := steps1 (t := t) (td := td) (fr0 := fr) (fq0 := fq) (fd0 := fd) (nw0 := nw) (kp0 := kp) (nx0 := nI nx) (p0 := nI p) (t0 := nI tt) (a0 := nI p) hS hi hl hf2 hsl hst l 0 1000 1000 fr fq fd nw kp nx p tt (by omega) (by omega) (by omega) hw (by omega)
      unfold F_X9_stepsDone F_X10_goSteps
      rw [show (0 : Int32) = nI 0 from rfl, a1, a2, pBs, pBs]
      exact ⟨r, fr2, fq2, nx2, p2, fd2, tt2, nw2, kp2, rfl, rfl, a3, by omega⟩
    · have c' : zDev s z1 = false := by simpa using c
      rw [c', if_pos (show pb false = 0 from rfl), if_pos (show pb false = 0 from rfl)]
      exact ⟨_, fr, fq, nx, p, fd, tt, nw, kp, rfl, rfl, hw, by omega⟩
theorem run_sim {m t s : Nat} {ru fp td f1 f2 sq sl fr fa fq fd nw kp as_ : Nat → Int32} {nx p tt : Nat} {z1 z2 : Int32} (hw : WW m t ru fp td fr fq nx p fd tt nw kp) (hS : ScR f1 f2 sq sl s) : ∃ r fa' as', F_X9_run (nI m) (nI s) (nI nx) (nI p) (nI tt) ru fp f1 f2 fr fa fq fd z1 z2 = some (r, nI nx, nI p, nI tt, fa', fq, fd) ∧ F_X10_run (nI m) (nI s) (nI p) ru td sq sl nw kp as_ z1 z2 = some (r, nI p, nw, kp, as') := by
  have hm := hw.1.1
  have hs4 := hS.1
  unfold F_X9_run F_X10_run F_X5_isTold
  rw [sHas (by omega), sIs, pBs, pBs, rTree hm, pBs, rIn, pBs]
  by_cases m0 : m = 0
  · subst m0
    refine ⟨-1000000, fa, as_, rfl, ?_⟩
    by_cases c : zDev s z1 = true <;> simp [c, pb]
  · have m0' : 0 < m := by omega
    have hp1 : ¬ pb (decide (0 < m)) = 0 := by simp [m0', pb]
    rw [if_neg (by rw [pLe0 (by omega)]; exact m0), pBs, if_neg (show ¬ (1 : Int32) = 0 from by decide), if_neg hp1]
    by_cases c : zDev s z1 = true
    · rw [c, if_neg (show ¬ pb true = 0 from by decide), if_neg (show ¬ pb true = 0 from by decide)]
      obtain ⟨i, hi, rfl⟩ := zDev_lt (by omega) c
      obtain ⟨l, hl, hf2, hsl, hst⟩ := hS.2 i hi
      have key : (!decide (z2 < 0) && !decide (1 < z2)) = (decide (z2 = 0) || decide (z2 = 1)) := by
        have h0 : (0 : Int32).toInt = 0 := by decide
        have h1 : (1 : Int32).toInt = 1 := by decide
        have e0 : (z2 = 0) ↔ z2.toInt = 0 := by rw [q_eq, h0]
        have e1 : (z2 = 1) ↔ z2.toInt = 1 := by rw [q_eq, h1]
        have e2 : (z2 < 0) ↔ z2.toInt < 0 := by rw [q_lt, h0]
        have e3 : (1 < z2) ↔ 1 < z2.toInt := by rw [q_lt, h1]
        by_cases c0 : z2 < 0
        · have : ¬ z2 = 0 := by rw [e0]; rw [e2] at c0; omega
          have hh1 : ¬ z2 = 1 := by rw [e1]; rw [e2] at c0; omega
          simp [c0, this, hh1]
        · by_cases c1 : 1 < z2
          · have : ¬ z2 = 0 := by rw [e0]; rw [e3] at c1; omega
            have hh1 : ¬ z2 = 1 := by rw [e1]; rw [e3] at c1; omega
            simp [c1, this, hh1]
          · have : z2 = 0 ∨ z2 = 1 := by rw [e0, e1]; rw [e2] at c0; rw [e3] at c1; omega
            rcases this with q | q <;> simp [q]
      rw [key]
      obtain ⟨u, hu, e1, e2⟩ := hw.2.1.2.2.1
      have hcp : ∀ k, k < 98 → va_cpy fr fa 0 0 98 k = fr k := fun k hk => by simp only [va_cpy]; rw [if_pos (by omega), show 0 + (k - 0) = k from by omega]
      obtain ⟨a, b1, b2⟩ := aside_L (nw := nw) (as_ := as_)
      obtain ⟨r, f, g, a1, a2, a3, a4, a5⟩ := steps0 (t := t) (td := td) (fr0 := va_cpy fr fa 0 0 98) (fq0 := fq) (fd0 := fd) (nw0 := nw) (kp0 := kp) (nx0 := nI nx) (p0 := nI p) (t0 := nI tt) (a0 := nI p) (fq := fq) (fd := fd) (kp := kp) (nx := nI nx) (p := nI p) (tt := nI tt) hw.1 hS hi hl hf2 hsl hst l 0 1000 1000 u (va_cpy fr fa 0 0 98) nw (by omega) (by omega) (by omega) (Rl_congr hm hcp (fun _ _ => rfl) hw.2.1.1) hw.2.1.2.1 hu (by rw [hcp 96 (by omega)]; exact e1) e2
      unfold F_X0_copyFrom F_X9_stepsDone F_X10_goSteps
      by_cases c0 : z2 = 0
      · subst c0
        rw [if_pos rfl, if_neg (show ¬ pb (decide ((0 : Int32) = 0) || decide ((0 : Int32) = 1)) = 0 from by decide), pBs, show (nI 0 : Int32) = 0 from rfl] at *
        rw [a1, pBs, b1, pBs, a2, pBs, rThose hm, pBs, pBits hm, pBs, bring_eq b2 a5, pBs, if_neg (show ¬ (0 : Int32) = 1 from by decide), if_neg (show ¬ (0 : Int32) = 1 from by decide)]
        simp (disch := omega) only [pIx, pIy, pCl, hf2, hsl]
        by_cases cr : r = nI l
        · exact ⟨-1, f, a, if_pos cr, if_pos cr⟩
        · exact ⟨r, f, a, if_neg cr, if_neg cr⟩
      · rw [if_neg c0]
        by_cases c1 : z2 = 1
        · subst c1
          rw [if_pos rfl, if_neg (show ¬ pb (decide ((1 : Int32) = 0) || decide ((1 : Int32) = 1)) = 0 from by decide), pBs, show (nI 0 : Int32) = 0 from rfl] at *
          rw [a1, pBs, b1, pBs, a2, pBs, rThose hm, pBs, pBits hm, pBs, bring_eq b2 a5, pBs, if_pos rfl, if_pos rfl]
          have ec : F_X0_running f (nI m) ru fp = some (nI (pNum (fun d => decide (nz g d = 6)) m)) := by rw [cRunning hm, a3.1]
          show ∃ r' fa' as', (F_X0_running f (nI m) ru fp).bind _ = _ ∧ _
          rw [ec, pBs]
          exact ⟨_, f, a, rfl, rfl⟩
        · rw [if_neg c1, if_pos (show pb (decide (z2 = 0) || decide (z2 = 1)) = 0 by simp [c0, c1, pb])]
          exact ⟨_, fa, as_, rfl, rfl⟩
    · have c' : zDev s z1 = false := by simpa using c
      rw [c', if_pos (show pb false = 0 from rfl), if_pos (show pb false = 0 from rfl)]
      exact ⟨_, fa, as_, rfl, rfl⟩
theorem step_sim {s : Nat} {f1 f2 sq sl : Nat → Int32} {z1 z2 z3 : Int32} (hS : ScR f1 f2 sq sl s) : ∃ r, F_X9_step (nI s) f1 f2 z1 z2 z3 = some r ∧ F_X10_step (nI s) sq sl z1 z2 z3 = some r := by
  have hs4 := hS.1
  unfold F_X9_step F_X10_step
  rw [sHas (by omega), sIs, pBs, pBs]
  by_cases c : zDev s z1 = true
  · rw [c, if_neg (show ¬ pb true = 0 from by decide), if_neg (show ¬ pb true = 0 from by decide)]
    obtain ⟨i, hi, rfl⟩ := zDev_lt (by omega) c
    obtain ⟨l, hl, hf2, hsl, hst⟩ := hS.2 i hi
    simp (disch := omega) only [pIx, pIy, pCl, hf2, hsl, rIn, pBs]
    by_cases c1 : z2 < 0
    · rw [if_pos c1, if_pos (show pb (!decide (z2 < 0) && !decide (nI l - 1 < z2)) = 0 by simp [c1, pb])]; exact ⟨_, rfl, rfl⟩
    · rw [if_neg c1]
      obtain ⟨j, hj, rfl⟩ := nI_of c1
      have e1 : (nI l - 1 < nI j) ↔ l ≤ j := by
        rw [q_lt, show (1 : Int32) = nI 1 from rfl, pk_sub_toInt (by omega) (by omega), nI_toInt hj]; omega
      by_cases c2 : l ≤ j
      · rw [if_pos ((pLe (by omega) hj).mpr c2), if_pos (show pb (!decide (nI j < 0) && !decide (nI l - 1 < nI j)) = 0 by simp [e1.mpr c2, pb])]; exact ⟨_, rfl, rfl⟩
      · have c2' : ¬ nI l - 1 < nI j := fun q => c2 (e1.mp q)
        rw [if_neg (fun q => c2 ((pLe (by omega) hj).mp q)), if_neg (show ¬ pb (!decide (nI j < 0) && !decide (nI l - 1 < nI j)) = 0 by simp [c1, c2', pb])]
        by_cases c3 : z3 < 0
        · rw [if_pos c3, if_pos (show pb (!decide (z3 < 0) && !decide (3 < z3)) = 0 by simp [c3, pb])]; exact ⟨_, rfl, rfl⟩
        · rw [if_neg c3]
          have c4 : (3 < z3) ↔ ¬ (z3 < 4) := by
            rw [q_lt, q_lt]
            have h3 : (3 : Int32).toInt = 3 := by decide
            have h4 : (4 : Int32).toInt = 4 := by decide
            omega
          by_cases c5 : z3 < 4
          · have c5' : ¬ 3 < z3 := fun q => (c4.mp q) c5
            rw [if_pos c5, if_neg (show ¬ pb (!decide (z3 < 0) && !decide (3 < z3)) = 0 by simp [c3, c5', pb])]
            obtain ⟨x, hx, rfl⟩ := nI_of c3
            have hx4 : x < 4 := by rw [show (4 : Int32) = nI 4 from rfl, pLt hx (by omega)] at c5; exact c5
            rw [x7_read (by omega) (by omega) hx4, pBs, sq_ix, pIx (by omega) (by omega), pCl (by omega), (hst j (by omega)).2 x hx4]
            exact ⟨_, rfl, rfl⟩
          · rw [if_neg c5, if_pos (show pb (!decide (z3 < 0) && !decide (3 < z3)) = 0 by simp [c4.mpr c5, pb])]; exact ⟨_, rfl, rfl⟩
  · have c' : zDev s z1 = false := by simpa using c
    rw [c', if_pos (show pb false = 0 from rfl), if_pos (show pb false = 0 from rfl)]
    exact ⟨_, rfl, rfl⟩
