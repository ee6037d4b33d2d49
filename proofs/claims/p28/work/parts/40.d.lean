section
/-! foresight side by side: lost, ahead, when -/
theorem nlt32 {a b : Int32} (h : ¬ a < b) : b ≤ a := by rw [q_lt] at h; rw [q_le]; omega
theorem pSet_0 {p : Nat → Bool} {m k : Nat} (hm : m ≤ 8) (hk : k < m) (h : pSet p m = 0) : p k = false := by
  have q := pHas (p := p) hm (show k < 8 by omega)
  have z : ∀ k : Fin 8, (((0 : Int32) >>> (nI k.1 &&& 31)) &&& 1) = 0 := by decide
  rw [h, z ⟨k, by omega⟩] at q
  cases hp : p k with
  | false => rfl
  | true => rw [hp, if_pos (by simp [hk])] at q; exact absurd q (by decide)
theorem nSettle_id {m : Nat} {N : Nat → Int32} (h : ∀ d, d < m → N d ≠ 1) : nSettle m N = N := by
  have := pF_inv (g := nSt) (fun _ a => a = N) m 0 N (fun i a _ hi e => by
    rw [e]; unfold nSt; rw [if_neg (h i (by omega))]) rfl
  exact this
theorem still_c {m : Nat} {N : Nat → Int32} (hm : m ≤ 8) (h : zStill m N = true) : (∀ d, d < m → N d ≠ 1) ∧ pFd (zBsy N) m 0 = -1 ∧ zNext m N = -1 := by
  unfold zStill at h
  simp only [Bool.and_eq_true, decide_eq_true_eq] at h
  exact ⟨fun d hd => by simpa using pSet_0 hm hd h.1.1, h.1.2, h.2⟩
theorem still_tk {m t : Nat} {R : Nat → Int32} {T : Nat → Nat → Int32} {N : Nat → Int32} {v : Int32} (hm : m ≤ 8) (hz : nz N = N) (h : zStill m N = true) : zTk m t R T N v = N := by
  obtain ⟨h1, h2, h3⟩ := still_c hm h
  have e := nSettle_id h1
  have es : zS m N = -1 := by unfold zS; rw [e]; exact h2
  unfold zTk zGone
  rw [if_pos es, e]
  unfold nTail
  rw [hz, if_pos h2, if_pos h3]
section
variable {m t : Nat} {ru fp td : Nat → Int32}
theorem still_r {g : Nat → Int32} (hc : Cx m t ru fp td) (h0 : 0 < m) (hi : iU m ru (tT m td) (nz g)) (hs : zStill m (nz g) = true) : ∃ g', F_X10_tickNow (nI m) ru td g = some g' ∧ nz g' = nz g ∧ g' 96 = g 96 + 1 := by
  obtain ⟨g', g1, g2, g3⟩ := rTick (nw := g) hc.1 (hc.2.1 h0) hc.2.2.1 hi.1
  refine ⟨g', g1, by rw [g2, still_tk hc.1 (nz_nz _) hs], ?_⟩
  have : g' 96 = nf g' 96 := (nfE (by omega)).symm
  rw [this, g3, pUs]
theorem whenR {nw0 : Nat → Int32} {d : Nat} (hc : Cx m t ru fp td) (h0 : 0 < m) (hd : d < m) : ∀ (k j n : Nat) (g : Nat → Int32), j + k = 201 → k < n → iU m ru (tT m td) (nz g) → ∃ w g', FL_X10_whenNow_2 (nI m) ru td nw0 (nI d) n (nI j) g = some (w, g') ∧ kD g g' ∧ (w = -1 ∨ ∃ x, j ≤ x ∧ x ≤ 200 ∧ w = nI x)
  | k, j, 0, g, _, h, _ => absurd h (by omega)
  | 0, j, n + 1, g, h1, h2, hi => by
    obtain rfl : j = 201 := by omega
    rw [FL_X10_whenNow_2, if_pos (show (200 : Int32) < nI 201 from by decide)]
    exact ⟨_, _, rfl, fun _ _ => rfl, Or.inl rfl⟩
  | k + 1, j, n + 1, g, h1, h2, hi => by
    have hm := hc.1
    rw [FL_X10_whenNow_2, if_neg (by rw [show (200 : Int32) = nI 200 from rfl, pLt (by omega) (by omega)]; omega), rState (by omega), pBs]
    split
    · exact ⟨_, _, rfl, fun _ _ => rfl, Or.inr ⟨j, by omega, by omega, rfl⟩⟩
    · split
      · exact ⟨_, _, rfl, fun _ _ => rfl, Or.inl rfl⟩
      · obtain ⟨g', g1, g2, g3⟩ := rTick_t hc h0 hi
        rw [g1, pBs, pS1]
        obtain ⟨w, g'', a, b, c⟩ := whenR (nw0 := nw0) hc h0 hd k (j + 1) n g' (by omega) (by omega) g2
        refine ⟨w, g'', a, fun x hx => (b x hx).trans (g3 x hx), ?_⟩
        rcases c with c | ⟨x, c1, c2, c3⟩
        · exact Or.inl c
        · exact Or.inr ⟨x, by omega, c2, c3⟩
theorem when_stuck {nw0 : Nat → Int32} {d : Nat} (hc : Cx m t ru fp td) (h0 : 0 < m) (hd : d < m) : ∀ (k j n : Nat) (g : Nat → Int32), j + k = 201 → k < n → iU m ru (tT m td) (nz g) → zStill m (nz g) = true → nz g d ≠ 6 → ∃ g', FL_X10_whenNow_2 (nI m) ru td nw0 (nI d) n (nI j) g = some (-1, g')
  | k, j, 0, g, _, h, _, _, _ => absurd h (by omega)
  | 0, j, n + 1, g, h1, h2, hi, _, _ => by
    obtain rfl : j = 201 := by omega
    rw [FL_X10_whenNow_2, if_pos (show (200 : Int32) < nI 201 from by decide)]
    exact ⟨_, rfl⟩
  | k + 1, j, n + 1, g, h1, h2, hi, hs, h6 => by
    have hm := hc.1
    have ed : nz g d = g d := if_pos (by omega)
    rw [FL_X10_whenNow_2, if_neg (by rw [show (200 : Int32) = nI 200 from rfl, pLt (by omega) (by omega)]; omega), rState (by omega), pBs, if_neg (by rw [← ed]; exact h6)]
    split
    · exact ⟨_, rfl⟩
    · obtain ⟨g', g1, g2, -⟩ := still_r hc h0 hi hs
      rw [g1, pBs, pS1]
      exact when_stuck hc h0 hd k (j + 1) n g' (by omega) (by omega) (by rw [g2]; exact hi) (by rw [g2]; exact hs) (by rw [g2]; exact h6)
theorem over_c {f : Nat → Int32} {dv : Int32} {fu fp' : Nat → Int32} {u : Nat} (hu : u ≤ 9999) (e : f 96 = nI u) : F_X0_isOver f dv fu fp' = some (pb (decide (u = 9999))) := by
  unfold F_X0_isOver
  have h : (f 96 < 9999) = (u < 9999) := by rw [e]; exact pLt (b := 9999) (by omega) (by omega)
  by_cases c : u = 9999
  · rw [if_neg (fun w => by rw [h] at w; omega)]; simp [c, pb]
  · rw [if_pos (by rw [h]; omega)]; simp [c, pb]
theorem tick_u {f g : Nat → Int32} {u : Nat} (hc : Cx m t ru fp td) (h0 : 0 < m) (hr : Rl m f g) (hi : iU m ru (tT m td) (nz g)) (hu : u < 9999) (e1 : f 96 = nI u) (e2 : g 96 = nI u) : ∃ f' g', F_X0_passTick f (nI m) ru fp = some f' ∧ F_X10_tickNow (nI m) ru td g = some g' ∧ Rl m f' g' ∧ iU m ru (tT m td) (nz g') ∧ f' 96 = nI (u + 1) ∧ g' 96 = nI (u + 1) ∧ kD g g' ∧ ∃ v, nz g' = zTk m t ru (tT m td) (nz g) v := by
  obtain ⟨f', g', a1, a2, a3, a4, a5, a6, a7⟩ := tick_sim hc h0 hr hi
  obtain ⟨g'', b1, b2, -⟩ := rTick (nw := g) hc.1 (hc.2.1 h0) hc.2.2.1 hi.1
  have eg : g' = g'' := Option.some.inj (a2.symm.trans b1)
  refine ⟨f', g', a1, a2, a3, a4, ?_, by rw [a6, e2, pS1], a7, _, by rw [eg]; exact b2⟩
  rw [a5, e1]; unfold cCap; rw [pS1, show (9999 : Int32) = nI 9999 from rfl, if_neg (by rw [pLt (by omega) (by omega)]; omega)]
theorem e9999 {u : Nat} (hu : u ≤ 9999) : ((nI u : Int32) = 9999) = (u = 9999) := by
  rw [show (9999 : Int32) = nI 9999 from rfl]; exact pEq (by omega) (by omega)
/-- how long till it runs, with a bound on the one side -/
theorem play_when {fa0 fr0 nw0 : Nat → Int32} {d : Nat} {z2 : Int32} (hc : Cx m t ru fp td) (h0 : 0 < m) (hd : d < m) (hz : z2 ≤ 200) : ∀ (k j n n' u : Nat) (f g : Nat → Int32), j + k = 201 → k < n → k < n' → Rl m f g → iU m ru (tT m td) (nz g) → u ≤ 9999 → f 96 = nI u → g 96 = nI u → ∃ r f' w g', FL_X3_playTillRunning_2 fa0 fr0 (nI m) ru fp (nI d) z2 n (nI j) f = some (r, f') ∧ FL_X10_whenNow_2 (nI m) ru td nw0 (nI d) n' (nI j) g = some (w, g') ∧ kD g g' ∧ ((w = -1 ∧ r = -1) ∨ ∃ x, j ≤ x ∧ x ≤ 200 ∧ w = nI x ∧ ((nI x ≤ z2 ∧ r = nI x) ∨ (z2 < nI x ∧ r = -1)))
  | k, j, 0, n', u, f, g, _, h, _, _, _, _, _, _ => absurd h (by omega)
  | k, j, n + 1, 0, u, f, g, _, _, h, _, _, _, _, _ => absurd h (by omega)
  | 0, j, n + 1, n' + 1, u, f, g, h1, _, _, hr, hi, _, _, _ => by
    obtain rfl : j = 201 := by omega
    have : z2 < nI 201 := by
      rw [q_le] at hz; rw [q_lt]
      have a : (200 : Int32).toInt = 200 := by decide
      have b : (nI 201).toInt = 201 := nI_toInt (by omega)
      omega
    rw [FL_X3_playTillRunning_2, if_pos this, FL_X10_whenNow_2, if_pos (show (200 : Int32) < nI 201 from by decide)]
    exact ⟨_, _, _, _, rfl, rfl, fun _ _ => rfl, Or.inl ⟨rfl, rfl⟩⟩
  | k + 1, j, n + 1, n' + 1, u, f, g, h1, h2, h3, hr, hi, hu, e1, e2 => by
    have hm := hc.1
    have ed : nz g d = g d := if_pos (by omega)
    by_cases c : z2 < nI j
    · obtain ⟨w, g', a, b, cc⟩ := whenR (nw0 := nw0) hc h0 hd (k + 1) j (n' + 1) g h1 h3 hi
      rw [FL_X3_playTillRunning_2, if_pos c]
      refine ⟨_, _, w, g', rfl, a, b, ?_⟩
      rcases cc with cc | ⟨x, c1, c2, c3⟩
      · exact Or.inl ⟨cc, rfl⟩
      · refine Or.inr ⟨x, c1, c2, c3, Or.inr ⟨?_, rfl⟩⟩
        rw [q_lt] at c ⊢
        rw [nI_toInt (by omega)] at c ⊢
        omega
    · have d8 : ¬ d = 8 := by omega
      have hY : FL_X10_whenNow_2 (nI m) ru td nw0 (nI d) (n' + 1) (nI j) g = if nz g d = 6 then some (nI j, g) else if u = 9999 then some (-1, g) else (F_X10_tickNow (nI m) ru td g).bind fun o => FL_X10_whenNow_2 (nI m) ru td nw0 (nI d) n' (nI (j + 1)) o := by
        rw [FL_X10_whenNow_2, if_neg (by rw [show (200 : Int32) = nI 200 from rfl, pLt (by omega) (by omega)]; omega), rState (by omega), pBs, ← ed, e2, pS1]
        simp only [e9999 hu]
      have hX : FL_X3_playTillRunning_2 fa0 fr0 (nI m) ru fp (nI d) z2 (n + 1) (nI j) f = if nz g d = 6 then some (nI j, f) else if u = 9999 then some (-1, f) else if zStill m (nz g) = true then some (-1, f) else (F_X0_passTick f (nI m) ru fp).bind fun o => FL_X3_playTillRunning_2 fa0 fr0 (nI m) ru fp (nI d) z2 n (nI (j + 1)) o := by
        rw [FL_X3_playTillRunning_2, if_neg c, cIs (by omega), pBs, over_c hu e1, pBs, cStill hm (by rw [hr.1]; exact hi.1.1.h hm) (by rw [hr.1]; exact hi.1.1.f), pBs, hr.1, pS1]
        by_cases c6 : nz g d = 6 <;> by_cases cu : u = 9999 <;> by_cases cs : zStill m (nz g) = true <;> simp [c6, cu, cs, d8, pb]
      by_cases c6 : nz g d = 6
      · rw [hX, hY, if_pos c6, if_pos c6]
        exact ⟨_, _, _, _, rfl, rfl, fun _ _ => rfl, Or.inr ⟨j, by omega, by omega, rfl, Or.inl ⟨nlt32 c, rfl⟩⟩⟩
      · by_cases cu : u = 9999
        · rw [hX, hY, if_neg c6, if_neg c6, if_pos cu, if_pos cu]
          exact ⟨_, _, _, _, rfl, rfl, fun _ _ => rfl, Or.inl ⟨rfl, rfl⟩⟩
        · by_cases cs : zStill m (nz g) = true
          · obtain ⟨g', a1⟩ := when_stuck (nw0 := nw0) hc h0 hd (k + 1) j (n' + 1) g h1 h3 hi cs c6
            obtain ⟨w, g2, a2, a3, -⟩ := whenR (nw0 := nw0) hc h0 hd (k + 1) j (n' + 1) g h1 h3 hi
            rw [a1] at a2
            obtain ⟨rfl, rfl⟩ := Prod.mk.inj (Option.some.inj a2)
            rw [hX, if_neg c6, if_neg cu, if_pos cs, a1]
            exact ⟨_, _, _, _, rfl, rfl, a3, Or.inl ⟨rfl, rfl⟩⟩
          · obtain ⟨f', g', a1, a2, a3, a4, a5, a6, a7, -⟩ := tick_u hc h0 hr hi (by omega) e1 e2
            rw [hX, hY, if_neg c6, if_neg c6, if_neg cu, if_neg cu, if_neg cs, a1, a2, pBs, pBs]
            obtain ⟨r, f'', w, g'', b1, b2, b3, b4⟩ := play_when (fa0 := fa0) (fr0 := fr0) (nw0 := nw0) hc h0 hd hz k (j + 1) n n' (u + 1) f' g' (by omega) (by omega) (by omega) a3 a4 (by omega) a5 a6
            refine ⟨r, f'', w, g'', b1, b2, fun x hx => (b3 x hx).trans (a7 x hx), ?_⟩
            rcases b4 with b4 | ⟨x, q1, q2, q3, q4⟩
            · exact Or.inl b4
            · exact Or.inr ⟨x, by omega, q2, q3, q4⟩
theorem cpyR {fr fa nw : Nat → Int32} (hm : m ≤ 8) (hr : Rl m fr nw) : Rl m (va_cpy fr fa 0 0 98) nw ∧ va_cpy fr fa 0 0 98 96 = fr 96 := by
  have e : ∀ k, k < 98 → va_cpy fr fa 0 0 98 k = fr k := fun k hk => by
    simp only [va_cpy]; rw [if_pos (by omega), show 0 + (k - 0) = k from by omega]
  exact ⟨⟨by rw [cpy98]; exact hr.1, fun d hd h => by rw [e _ (by omega)]; exact hr.2 d hd h⟩, e 96 (by omega)⟩
theorem when_sim {fr fa nw as_ : Nat → Int32} {z1 : Int32} {u : Nat} (hc : Cx m t ru fp td) (hr : Rl m fr nw) (hi : iU m ru (tT m td) (nz nw)) (hu : u ≤ 9999) (e1 : fr 96 = nI u) (e2 : nw 96 = nI u) : ∃ r fa' as', F_X9_when (nI m) ru fp fr fa z1 = some (r, fa') ∧ F_X10_when (nI m) ru td nw as_ z1 = some (r, nw, as') := by
  have hm := hc.1
  unfold F_X9_when F_X10_when
  rw [cHas hm, pBs, rDev, pBs]
  by_cases hd : pb (zDev m z1) = 0
  · rw [if_pos hd, if_pos hd]; exact ⟨_, _, _, rfl, rfl⟩
  · rw [if_neg hd, if_neg hd]
    obtain ⟨d, hd', rfl⟩ := dev_c hm hd
    have ed : nz nw d = nw d := if_pos (by omega)
    rw [cIs (by omega), pBs, rState (by omega), pBs, hr.1, ← ed]
    by_cases c0 : nz nw d = 0
    · rw [if_neg (by simp [c0, pb]; omega), if_pos c0]; exact ⟨_, _, _, rfl, rfl⟩
    · rw [if_pos (by simp [c0, pb]), if_neg c0]
      unfold F_X3_ticksTillRunning F_X0_copyFrom F_X3_playTillRunning F_X10_whenNow
      obtain ⟨a, a1, a2⟩ := aside_L (nw := nw) (as_ := as_)
      obtain ⟨k1, k2⟩ := cpyR (fa := fa) hm hr
      obtain ⟨r, f', w, g', b1, b2, b3, b4⟩ := play_when (fa0 := va_cpy fr fa 0 0 98) (fr0 := fr) (nw0 := nw) (z2 := 200) hc (by omega) hd' (le_rfl32 _) 201 0 1000 1000 u (va_cpy fr fa 0 0 98) nw (by omega) (by omega) (by omega) k1 hi hu (k2.trans e1) e2
      have ew : r = w := by
        rcases b4 with ⟨q1, q2⟩ | ⟨x, q1, q2, q3, ⟨q4, q5⟩ | ⟨q4, q5⟩⟩
        · rw [q1, q2]
        · rw [q3, q5]
        · rw [show (200 : Int32) = nI 200 from rfl, pLt (by omega) (by omega)] at q4; omega
      rw [pBs, show FL_X3_playTillRunning_2 (va_cpy fr fa 0 0 98) fr (nI m) ru fp (nI d) 200 1000 0 (va_cpy fr fa 0 0 98) = _ from b1, pBs, pBs, a1, pBs, show FL_X10_whenNow_2 (nI m) ru td nw (nI d) 1000 0 nw = _ from b2, pBs, bring_eq a2 b3, pBs]
      exact ⟨r, f', a, rfl, by rw [ew]⟩
theorem lost_sim {fr fa nw as_ : Nat → Int32} {z1 : Int32} (hc : Cx m t ru fp td) (hr : Rl m fr nw) (hi : iU m ru (tT m td) (nz nw)) : ∃ r fa' as', F_X9_lost (nI m) ru fp fr fa z1 = some (r, fa') ∧ F_X10_lost (nI m) ru td nw as_ z1 = some (r, nw, as') := by
  have hm := hc.1
  unfold F_X9_lost F_X10_lost
  rw [cHas hm, pBs, rDev, pBs]
  by_cases hd : pb (zDev m z1) = 0
  · rw [if_pos hd, if_pos hd]; exact ⟨_, _, _, rfl, rfl⟩
  · rw [if_neg hd, if_neg hd]
    obtain ⟨d, hd', rfl⟩ := dev_c hm hd
    rw [pA72, pIx (by omega) (by omega), pIx (by omega) (by omega), pCl (by omega)]
    have ef : fr (72 + d) = nz nw (72 + d) := by rw [← hr.1]; exact (if_pos (by omega)).symm
    have eg : nw (72 + d) = nz nw (72 + d) := (if_pos (by omega)).symm
    rw [ef, eg]
    have h01 := (hi.1.1.2.1 d hd').2.2.2.2.2.2.2.2
    by_cases c1 : nz nw (72 + d) = 1
    · rw [if_pos c1, if_neg (by rw [c1]; decide)]
      unfold F_X3_lostWithout F_X0_copyFrom
      obtain ⟨k1, k2⟩ := cpyR (fa := fa) hm hr
      obtain ⟨f, g, a1, a2, a3, -, -, -, a4⟩ := sup_sim hc k1 hi hd'
      obtain ⟨a, b1, b2⟩ := aside_L (nw := nw) (as_ := as_)
      rw [pBs, a1, pBs, cAll hm, pBs, cAll hm, pBs, pBs, b1, pBs, rThose hm, pBs, a2, pBs, rThose hm, pBs, bring_eq b2 a4, pBs, hr.1, a3.1]
      exact ⟨_, _, _, rfl, rfl⟩
    · rw [if_neg c1, if_pos (h01.resolve_right c1)]; exact ⟨_, _, _, rfl, rfl⟩
theorem behind_sim {fa0 fr0 nw0 : Nat → Int32} {q : Nat} {z2 : Int32} (hc : Cx m t ru fp td) (h0 : 0 < m) (hq : q ≤ 200) : ∀ (k j n n' u : Nat) (f g : Nat → Int32), j + k = q → k < n → k < n' → Rl m f g → iU m ru (tT m td) (nz g) → u + k ≤ 9999 → f 96 = nI u → g 96 = nI u → ∃ f' r g', FL_X3_allBehind_13 fa0 fr0 (nI m) ru fp (nI q) z2 n (nI j) f = some (pSet (fun d => decide (nz g' d = z2)) m, f') ∧ FL_X10_ticks_2 (nI m) ru td nw0 (nI q) n' (nI j) g = some (r, g') ∧ kD g g'
  | k, j, 0, n', u, f, g, _, h, _, _, _, _, _, _ => absurd h (by omega)
  | k, j, n + 1, 0, u, f, g, _, _, h, _, _, _, _, _ => absurd h (by omega)
  | 0, j, n + 1, n' + 1, u, f, g, h1, _, _, hr, hi, _, _, _ => by
    obtain rfl : j = q := by omega
    rw [FL_X3_allBehind_13, if_pos (le_rfl32 _), cAll hc.1, pBs, FL_X10_ticks_2, if_pos (le_rfl32 _), rThose hc.1, pBs, pBits hc.1, pBs, hr.1]
    exact ⟨_, _, _, rfl, rfl, fun _ _ => rfl⟩
  | k + 1, j, n + 1, n' + 1, u, f, g, h1, h2, h3, hr, hi, hu, e1, e2 => by
    obtain ⟨f', g', a1, a2, a3, a4, a5, a6, a7, -⟩ := tick_u hc h0 hr hi (by omega) e1 e2
    rw [FL_X3_allBehind_13, if_neg (by rw [pLe (by omega) (by omega)]; omega), a1, pBs, pS1, FL_X10_ticks_2, if_neg (by rw [pLe (by omega) (by omega)]; omega), a2, pBs, pS1]
    obtain ⟨f'', r, g'', b1, b2, b3⟩ := behind_sim (fa0 := fa0) (fr0 := fr0) (nw0 := nw0) (z2 := z2) hc h0 hq k (j + 1) n n' (u + 1) f' g' (by omega) (by omega) (by omega) a3 a4 (by omega) a5 a6
    exact ⟨f'', r, g'', b1, b2, fun x hx => (b3 x hx).trans (a7 x hx)⟩
theorem ahead_sim {fr fa nw as_ : Nat → Int32} {z1 z2 : Int32} {u : Nat} (hc : Cx m t ru fp td) (hr : Rl m fr nw) (hi : iU m ru (tT m td) (nz nw)) (hu : u ≤ 9999) (e1 : fr 96 = nI u) (e2 : nw 96 = nI u) : ∃ r fa' as', F_X9_ahead (nI m) ru fp fr fa z1 z2 = some (r, fa') ∧ F_X10_ahead_ (nI m) ru td nw as_ z1 z2 = some (r, nw, as') := by
  have hm := hc.1
  unfold F_X9_ahead F_X10_ahead_ F_X5_isTold
  rw [rTree hm, pBs, rIn, pBs, rIn, pBs]
  by_cases m0 : m = 0
  · subst m0; exact ⟨_, _, _, rfl, rfl⟩
  · have hm0 : pb (decide (0 < m)) = 1 := by rw [decide_eq_true (by omega)]; rfl
    rw [if_neg (by rw [pLe0 (by omega)]; exact m0), pBs, hm0, if_neg (show ¬ (1 : Int32) = 0 from by decide), if_neg (show ¬ (1 : Int32) = 0 from by decide)]
    by_cases c1 : z1 < 0
    · rw [if_pos c1, if_pos (show pb (!decide (z1 < 0) && !decide (200 < z1)) = 0 from by simp [c1, pb])]; exact ⟨_, _, _, rfl, rfl⟩
    · rw [if_neg c1]
      by_cases c2 : 200 < z1
      · rw [if_pos c2, if_pos (show pb (!decide (z1 < 0) && !decide (200 < z1)) = 0 from by simp [c2, pb])]; exact ⟨_, _, _, rfl, rfl⟩
      · rw [if_neg c2, if_neg (show ¬ pb (!decide (z1 < 0) && !decide (200 < z1)) = 0 from by simp [c1, c2, pb])]
        obtain ⟨q, hq, rfl⟩ := nI_of c1
        have hq2 : q ≤ 200 := by rw [show (200 : Int32) = nI 200 from rfl, pLt (by omega) hq] at c2; omega
        have zc : (z2 = 0 ∨ z2 = 1) ∨ (z2 ≠ 0 ∧ z2 ≠ 1) := by
          by_cases a : z2 = 0
          · exact Or.inl (Or.inl a)
          · by_cases b : z2 = 1
            · exact Or.inl (Or.inr b)
            · exact Or.inr ⟨a, b⟩
        have hp : (pb (!decide (z2 < 0) && !decide (1 < z2)) = 0) ↔ (z2 ≠ 0 ∧ z2 ≠ 1) := by
          rcases zc with (rfl | rfl) | ⟨a, b⟩
          · simp [pb]
          · simp [pb]
          · refine ⟨fun _ => ⟨a, b⟩, fun _ => ?_⟩
            have z0 : (0 : Int32).toInt = 0 := by decide
            have z1 : (1 : Int32).toInt = 1 := by decide
            have : z2 < 0 ∨ 1 < z2 := by
              rw [q_lt, q_lt, z0, z1]
              have na : z2.toInt ≠ 0 := fun h => a ((q_eq _ _).mpr (by rw [h, z0]))
              have nb : z2.toInt ≠ 1 := fun h => b ((q_eq _ _).mpr (by rw [h, z1]))
              omega
            rcases this with h | h <;> simp [h, pb]
        by_cases zz : z2 ≠ 0 ∧ z2 ≠ 1
        · rw [if_neg zz.1, if_neg zz.2, if_pos (hp.mpr zz)]; exact ⟨_, _, _, rfl, rfl⟩
        · rw [if_neg (fun w => zz (hp.mp w)), e1, e2]
          have eadd : (nI u : Int32) + nI q = nI (u + q) := nI_add u q
          rw [eadd]
          have hle : (nI (u + q) ≤ (9999 : Int32)) = (u + q ≤ 9999) := pLe (b := 9999) (by omega) (by omega)
          by_cases cu : u + q ≤ 9999
          · have cu' : nI (u + q) ≤ (9999 : Int32) := by rw [hle]; exact cu
            simp only [if_pos cu']
            obtain ⟨k1, k2⟩ := cpyR (fa := fa) hm hr
            obtain ⟨a, b1, b2⟩ := aside_L (nw := nw) (as_ := as_)
            have key := fun z => behind_sim (fa0 := fa) (fr0 := fr) (nw0 := nw) (z2 := z) hc (by omega) hq2 q 0 1000 1000 u (va_cpy fr fa 0 0 98) nw (by omega) (by omega) (by omega) k1 hi (by omega) (k2.trans e1) e2
            unfold F_X3_allBehind F_X0_copyFrom F_X10_ticks
            by_cases c0 : z2 = 0
            · obtain ⟨f', r, g', d1, d2, d3⟩ := key 6
              rw [if_pos c0, if_pos c0, pBs, show FL_X3_allBehind_13 fa fr (nI m) ru fp (nI q) 6 1000 0 (va_cpy fr fa 0 0 98) = _ from d1, pBs, b1, pBs, show FL_X10_ticks_2 (nI m) ru td nw (nI q) 1000 0 nw = _ from d2, pBs, if_pos c0, rThose hm, pBs, bring_eq b2 d3, pBs]
              exact ⟨_, _, _, rfl, rfl⟩
            · have c1' : z2 = 1 := Decidable.byContradiction (fun w => zz ⟨c0, w⟩)
              obtain ⟨f', r, g', d1, d2, d3⟩ := key 7
              rw [if_neg c0, if_pos c1', if_neg c0, pBs, show FL_X3_allBehind_13 fa fr (nI m) ru fp (nI q) 7 1000 0 (va_cpy fr fa 0 0 98) = _ from d1, pBs, b1, pBs, show FL_X10_ticks_2 (nI m) ru td nw (nI q) 1000 0 nw = _ from d2, pBs, if_neg c0, rThose hm, pBs, bring_eq b2 d3, pBs]
              exact ⟨_, _, _, rfl, rfl⟩
          · have cu' : ¬ nI (u + q) ≤ (9999 : Int32) := by rw [hle]; exact cu
            simp only [if_neg cu']
            refine ⟨-1, fa, as_, ?_, rfl⟩
            split
            · rfl
            · split <;> rfl
end
end

section
/-! a port's number tells nobody's time -/
def e40 (N N' : Nat → Int32) : Prop := ∀ k, ¬ (40 ≤ k ∧ k < 48) → N' k = N k
theorem e40.u {N N' : Nat → Int32} {i : Nat} {v v' : Int32} (h : e40 N N') (hv : v' = v) : e40 (upd N i v) (upd N' i v') := fun k hk => by
  by_cases c : k = i
  · subst c; rw [pUs, pUs]; exact hv
  · rw [pUn c, pUn c]; exact h k hk
theorem e40_nz {N N' : Nat → Int32} (h : e40 N N') : e40 (nz N) (nz N') := fun k hk => by
  simp only [nz]; rw [h k hk]
theorem pF_two {α : Type} {E : α → α → Prop} {g g' : Nat → α → α} : ∀ (k j : Nat) (a a' : α), (∀ i a a', j ≤ i → i < j + k → E a a' → E (g i a) (g' i a')) → E a a' → E (pF g k j a) (pF g' k j a')
  | 0, _, _, _, _, h => h
  | k + 1, j, a, a', hs, h => pF_two k (j + 1) _ _ (fun i a a' p q => hs i a a' (by omega) (by omega)) (hs j a a' (by omega) (by omega) h)
theorem pF_cgI {α : Type} {g g' : Nat → α → α} (I : α → Prop) : ∀ (k j : Nat) (a : α), (∀ i a, j ≤ i → i < j + k → I a → g' i a = g i a) → (∀ i a, j ≤ i → i < j + k → I a → I (g i a)) → I a → pF g' k j a = pF g k j a
  | 0, _, _, _, _, _ => rfl
  | k + 1, j, a, h1, h2, h => by
    show pF g' k (j + 1) (g' j a) = pF g k (j + 1) (g j a)
    rw [h1 j a (by omega) (by omega) h]
    exact pF_cgI I k (j + 1) _ (fun i a p q => h1 i a (by omega) (by omega)) (fun i a p q => h2 i a (by omega) (by omega)) (h2 j a (by omega) (by omega) h)
theorem zCl_cg {N N' : Nat → Int32} {p p' : Int32 → Bool} (h : ∀ c, c < 8 → N' (32 + c) = N (32 + c)) (hp : ∀ c, c < 8 → p' (nI c) = p (nI c)) : ∀ (k : Nat) (x : Int32), zCl N' p' k x = zCl N p k x
  | 0, _ => rfl
  | k + 1, x => by
    rcases pX3 x with c | c | ⟨c, hc, rfl⟩
    · simp only [zCl, c, true_or, if_true]
    · simp only [zCl, c, or_true, if_true]
    · rw [zCl_s hc, zCl_s hc, h c hc, hp c hc]
      split
      · rfl
      · exact zCl_cg h hp k _
theorem zDp_cg {N N' : Nat → Int32} (h : ∀ c, c < 8 → N' (32 + c) = N (32 + c)) : ∀ (k : Nat) (x a : Int32), zDp N' k x a = zDp N k x a
  | 0, _, _ => rfl
  | k + 1, x, a => by
    rcases pX3 x with c | c | ⟨c, hc, rfl⟩
    · simp only [zDp, c, true_or, if_true]
    · simp only [zDp, c, or_true, if_true]
    · rw [zDp_s hc, zDp_s hc, h c hc]
      exact zDp_cg h k _ _
section
variable {m t : Nat} {R : Nat → Int32} {T : Nat → Nat → Int32} {N N' : Nat → Int32}
theorem e32 (h : e40 N N') : ∀ c, c < 8 → N' (32 + c) = N (32 + c) := fun c hc => h _ (by omega)
theorem g_bsy (h : e40 N N') {d : Nat} (hd : d < 8) : zBsy N' d = zBsy N d := by unfold zBsy; rw [h d (by omega)]
theorem g_bsyF (h : e40 N N') (hm : m ≤ 8) : pFd (zBsy N') m 0 = pFd (zBsy N) m 0 := pFd_congr m 0 (fun i _ hi => g_bsy h (by omega))
theorem g_abv (h : e40 N N') {d : Nat} (hd : d < 8) : zAbv N' d = zAbv N d := by
  unfold zAbv
  rw [e32 h d hd]
  exact zCl_cg (e32 h) (fun c hc => by rw [pCl (by omega), h (48 + c) (by omega)]) 8 _
theorem g_hlp (h : e40 N N') {d : Nat} (hd : d < 8) : zHlp N' d = zHlp N d := by unfold zHlp; rw [h (48 + d) (by omega), g_abv h hd]
theorem g_awk (h : e40 N N') {d : Nat} (hd : d < 8) : zAwk N' d = zAwk N d := by unfold zAwk; rw [h d (by omega), h (88 + d) (by omega)]
theorem g_takes (h : e40 N N') {d : Nat} (hd : d < 8) : zTakes T N' d = zTakes T N d := by unfold zTakes zNeed; rw [h (88 + d) (by omega), h (72 + d) (by omega)]
theorem g_gv (h : e40 N N') (x : Int32) : zGv R N' x = zGv R N x := by
  unfold zGv
  rcases pX3 x with c | c | ⟨c, hc, rfl⟩
  · simp [c]
  · simp [c]
  · rw [pCl (by omega), h (72 + c) (by omega)]
theorem g_left (h : e40 N N') (hm : m ≤ 8) {c : Nat} (hc : c < 8) (out : Int32) : zLeft m R T N' c out = zLeft m R T N c out := by
  unfold zLeft
  rw [e32 h c hc, g_gv h]
  refine (pF_congr m 0 _ (fun i a _ hi => ?_)).symm
  unfold zLf
  rw [h i (by omega), e32 h i (by omega), g_takes h (by omega)]
theorem g_pow (h : e40 N N') (hm : m ≤ 8) {c : Nat} (hc : c ≤ 8) (u out : Int32) : zPow m R T N' c u out = zPow m R T N c u out := by
  unfold zPow
  by_cases c8 : c = 8
  · subst c8; rw [g_gv h]; simp
  · rw [g_gv h, h (72 + c) (by omega), g_left h hm (by omega)]
theorem g_help (h : e40 N N') (hm : m ≤ 8) (z : Int32) : zHelp m T N' z = zHelp m T N z := by
  unfold zHelp
  refine (pF_congr m 0 _ (fun i a _ hi => ?_)).symm
  unfold zHf
  rw [g_awk h (by omega), g_hlp h (by omega), h (48 + i) (by omega)]
theorem g_bus (h : e40 N N') (hm : m ≤ 8) : zBus m T N' = zBus m T N := by
  unfold zBus
  refine (pF_congr m 0 _ (fun i a _ hi => ?_)).symm
  unfold zBf
  rw [g_awk h (by omega), g_hlp h (by omega)]
theorem g_sp (h : e40 N N') {c : Nat} (hc : c ≤ 8) (d : Nat) : zSp T N' c d = zSp T N c d := by
  unfold zSp zSpd
  by_cases c8 : c = 8
  · subst c8; simp
  · rw [h (48 + c) (by omega)]
theorem g_timeC (h : e40 N N') (hm : m ≤ 8) {d : Nat} (hd : d < 8) (sp : Int32) : zTimeC m R T N' d sp = zTimeC m R T N d sp := by
  unfold zTimeC; rw [g_bus h hm, g_abv h hd, g_help h hm]
theorem g_addr (h : e40 N N') (hm : m ≤ 8) : zAddr m t N' = zAddr m t N := by
  unfold zAddr
  refine pFd_congr t 1 (fun a _ _ => ?_)
  have : zWho m N' (nI a) = zWho m N (nI a) := by
    unfold zWho
    exact pFd_congr m 0 (fun i _ hi => by rw [h i (by omega), h (56 + i) (by omega)])
  rw [this]
theorem g_why (h : e40 N N') (hm : m ≤ 8) {d c : Nat} (hd : d < 8) (hc : c ≤ 8) : zWhy m t R T N' d c = zWhy m t R T N d c := by
  unfold zWhy zDepth
  rw [zDp_cg (e32 h), g_addr h hm, g_takes h hd, g_pow h hm hc, g_sp h hc, g_timeC h hm hd]
theorem g_by (h : e40 N N') {d : Nat} (hd : d < 8) (i : Nat) : zBy T N' d i = zBy T N d i := by
  have e : zCf T N' d = zCf T N d := by funext k a; unfold zCf zCk; rw [h (80 + d) (by omega)]
  unfold zBy
  rw [e, h (80 + d) (by omega)]
  unfold zCk
  rw [h (80 + d) (by omega)]
theorem g_right (h : e40 N N') {d : Nat} (hd : d < 8) : zRight T N' d = zRight T N d := by
  have e : zSf T N' d = zSf T N d := by funext k a; unfold zSf; rw [g_by h hd]
  unfold zRight; rw [e, g_by h hd, g_by h hd]
theorem g_ok8 (h : e40 N N') {d : Nat} (hd : d < 8) : zOk8 T N' d = zOk8 T N d := by unfold zOk8; rw [g_by h hd]
theorem g_low (h : e40 N N') {d : Nat} (s : Int32) : e40 (nLow N d s) (nLow N' d s) := by
  unfold nLow; exact ((((((h.u rfl).u rfl).u rfl).u rfl).u rfl).u rfl).u rfl
theorem g_q (h : e40 N N') {d : Nat} : e40 (nQ N d) (nQ N' d) := by
  unfold nQ
  have e : N' 97 + 1 = N 97 + 1 := by rw [h 97 (by omega)]
  exact ((g_low h 2).u e).u e
theorem g_st (h : e40 N N') {d : Nat} (hd : d < 8) : e40 (nSt d N) (nSt d N') := by
  unfold nSt
  rw [h d (by omega), h (8 + d) (by omega)]
  split
  · split
    · exact h.u rfl
    · exact g_q (h.u rfl)
  · exact h
theorem g_settle (h : e40 N N') (hm : m ≤ 8) : e40 (nSettle m N) (nSettle m N') := by
  unfold nSettle
  exact pF_two (E := e40) m 0 N N' (fun i a a' _ hi hE => g_st hE (by omega)) h
theorem g_refuse (h : e40 N N') (hm : m ≤ 8) {d : Nat} (why : Int32) : e40 (nRefuse m N d why) (nRefuse m N' d why) := by
  unfold nRefuse
  refine pF_two (E := e40) m 0 _ _ (fun i a a' _ hi hE => ?_) (by unfold nRef0; exact (g_low h 7).u rfl)
  unfold cRf
  rw [zHang_congr (N := nz a) (N' := nz a') (fun c hc => e40_nz hE _ (by omega)) (by omega), hE i (by omega)]
  split
  · exact g_q hE
  · exact hE
theorem g_fail (h : e40 N N') (hm : m ≤ 8) {d : Nat} (v : Int32) : e40 (nFail m R N d v) (nFail m R N' d v) := by
  unfold nFail
  split
  · exact g_q h
  · exact g_refuse h hm 1
theorem g_go (h : e40 N N') (hm : m ≤ 8) {d : Nat} (hd : d < 8) (hc : (N (32 + d)).toNatClampNeg ≤ 8) (v : Int32) : e40 (nGo m t R T N d v) (nGo m t R T N' d v) := by
  unfold nGo
  rw [h d (by omega), h (8 + d) (by omega), g_ok8 h hd, g_right h hd, e32 h d hd]
  split
  · exact (h.u rfl).u rfl
  · split
    · split
      · exact h.u rfl
      · exact g_fail h hm v
    · split
      · unfold nJudge
        rw [g_why h hm hd hc, g_addr h hm, g_sp h hc]
        split
        · unfold nConf; exact ((g_low h 6).u rfl).u rfl
        · exact g_refuse h hm _
      · exact g_fail h hm v
theorem g_next (h : e40 N N') (hm : m ≤ 8) (hh : wH m N) : zNext m N' = zNext m N := by
  unfold zNext
  refine pF_cgI (fun b => b = -1 ∨ ∃ e, e < m ∧ b = nI e) m 0 (-1) (fun i a _ hi hI => ?_) (fun i a _ hi hI => ?_) (Or.inl rfl)
  · unfold zNf
    rw [h i (by omega), e32 h i (by omega), h (16 + i) (by omega)]
    by_cases c2 : N i = 2
    · obtain ⟨c, hc, ec⟩ := hh i (by omega) (by rw [c2]; decide)
      rw [ec, pCl (by omega), h c (by omega), h (88 + c) (by omega)]
      rcases hI with rfl | ⟨e, he, rfl⟩
      · simp
      · rw [pCl (by omega), h (16 + e) (by omega)]
    · simp [c2]
  · unfold zNf
    split
    · split
      · exact Or.inr ⟨i, by omega, rfl⟩
      · split
        · exact hI
        · exact Or.inr ⟨i, by omega, rfl⟩
    · exact hI
theorem g_tail (h : e40 N N') (hm : m ≤ 8) (hz : nz N = N) (hz' : nz N' = N') (hh : wH m N) : e40 (nTail m R N) (nTail m R N') := by
  unfold nTail
  rw [hz, hz', g_bsyF h hm, g_next h hm hh]
  split
  · split
    · exact h
    · exact (g_low h 3).u rfl
  · exact h
theorem g_zS (h : e40 N N') (hm : m ≤ 8) : zS m N' = zS m N := by unfold zS; exact g_bsyF (g_settle h hm) hm
theorem g_gone (h : e40 N N') (hm : m ≤ 8) (hi : iT m T N) (v : Int32) : e40 (zGone m t R T N v) (zGone m t R T N' v) := by
  unfold zGone
  rw [g_zS h hm]
  rcases zS_c m N with q | ⟨d, hd, q, hb⟩
  · rw [if_pos q, if_pos q]; exact g_settle h hm
  · rw [q, if_neg (by rw [pNm (by omega)]; exact id), if_neg (by rw [pNm (by omega)]; exact id), pCl (by omega)]
    refine g_go (g_settle h hm) hm (by omega) ?_ v
    have hs := nSettle_iT hm hi
    obtain ⟨c, hc, ec⟩ := hs.1.h hm d hd (fun w => by unfold zBsy at hb; rw [w] at hb; exact absurd hb (by decide))
    rw [ec, pCl (by omega)]; exact hc
theorem g_tk (h : e40 N N') (hm : m ≤ 8) (hT : wT m T) (hi : iT m T N) (hi' : iT m T N') (v : Int32) : e40 (zTk m t R T N v) (zTk m t R T N' v) := by
  unfold zTk
  have a := zGone_iT (t := t) (R := R) (v := v) hm hT hi
  have b := zGone_iT (t := t) (R := R) (v := v) hm hT hi'
  exact g_tail (g_gone h hm hi v) hm a.2.2 b.2.2 (a.1.h hm)
theorem g_F (h : e40 N N') (hm : m ≤ 8) : zF m T N' = zF m T N := by
  unfold zF
  rw [g_zS h hm]
  rcases zS_c m N with q | ⟨d, hd, q, hb⟩
  · rw [q]; simp
  · rw [q, pCl (by omega)]
    have hs := g_settle (m := m) h hm
    unfold zFlG
    rw [hs d (by omega), g_ok8 hs (by omega), g_right hs (by omega)]
end
/-- the same but for ports -/
def r40 (g g' : Nat → Int32) : Prop := e40 (nz g) (nz g') ∧ (∀ d, d < 8 → g' (24 + d) = g (24 + d)) ∧ g' 96 = g 96
section
variable {m t : Nat} {ru fp td : Nat → Int32}
theorem tick_40 {g g' : Nat → Int32} (hc : Cx m t ru fp td) (h0 : 0 < m) (h : r40 g g') (hi : iU m ru (tT m td) (nz g)) (hi' : iU m ru (tT m td) (nz g')) : ∃ f f', F_X10_tickNow (nI m) ru td g = some f ∧ F_X10_tickNow (nI m) ru td g' = some f' ∧ r40 f f' ∧ iU m ru (tT m td) (nz f) ∧ iU m ru (tT m td) (nz f') := by
  have hm := hc.1
  obtain ⟨f, f1, f2, f3⟩ := rTick (nw := g) hm (hc.2.1 h0) hc.2.2.1 hi.1
  obtain ⟨f', q1, q2, q3⟩ := rTick (nw := g') hm (hc.2.1 h0) hc.2.2.1 hi'.1
  have hS := g_zS (m := m) h.1 hm
  have hv : zS m (nz g) = -1 ∨ zV m (nz g') g' = zV m (nz g) g := by
    rcases zS_c m (nz g) with q | ⟨d, hd, q, hb⟩
    · exact Or.inl q
    · refine Or.inr ?_
      unfold zV; rw [hS, q, pCl (by omega)]; exact h.2.1 d (by omega)
  refine ⟨f, f', f1, q1, ⟨?_, fun d hd => ?_, ?_⟩, by rw [f2]; exact zTk_iU hm (hc.2.1 h0) hc.2.2.1 hi, by rw [q2]; exact zTk_iU hm (hc.2.1 h0) hc.2.2.1 hi'⟩
  · rw [f2, q2]
    have key := g_tk (t := t) (R := ru) h.1 hm hc.2.2.1 hi.1 hi'.1 (zV m (nz g) g)
    rcases hv with hv | hv
    · rw [zTk_v (v := zV m (nz g') g') (v' := zV m (nz g) g) (by rw [hS]; exact hv)]; exact key
    · rw [hv]; exact key
  · have e1 : f (24 + d) = nf f (24 + d) := (nfE (by omega)).symm
    have e2 : f' (24 + d) = nf f' (24 + d) := (nfE (by omega)).symm
    rw [e1, e2, f3, q3, pUn (by omega), pUn (by omega)]
    unfold nfT
    rw [g_F h.1 hm]
    by_cases cf : zF m (tT m td) (nz g) = true
    · rw [if_pos cf, if_pos cf]
      rcases hv with hv | hv
      · unfold zF at cf; rw [hv] at cf; exact absurd cf (by simp)
      · rw [hv, hS]
        by_cases ce : 24 + d = 24 + (zS m (nz g)).toNatClampNeg
        · rw [ce, pUs, pUs]
        · rw [pUn ce, pUn ce, nfE (by omega), nfE (by omega)]; exact h.2.1 d hd
    · rw [if_neg cf, if_neg cf, nfE (by omega), nfE (by omega)]; exact h.2.1 d hd
  · have e1 : f 96 = nf f 96 := (nfE (by omega)).symm
    have e2 : f' 96 = nf f' 96 := (nfE (by omega)).symm
    rw [e1, e2, f3, q3, pUs, pUs, h.2.2]
theorem when_40 {nw0 nw1 : Nat → Int32} {d : Nat} (hc : Cx m t ru fp td) (h0 : 0 < m) (hd : d < m) : ∀ (k j n : Nat) (g g' : Nat → Int32), j + k = 201 → k < n → r40 g g' → iU m ru (tT m td) (nz g) → iU m ru (tT m td) (nz g') → ∃ w f f', FL_X10_whenNow_2 (nI m) ru td nw0 (nI d) n (nI j) g = some (w, f) ∧ FL_X10_whenNow_2 (nI m) ru td nw1 (nI d) n (nI j) g' = some (w, f')
  | k, j, 0, g, g', _, h, _, _, _ => absurd h (by omega)
  | 0, j, n + 1, g, g', h1, h2, hr, hi, hi' => by
    obtain rfl : j = 201 := by omega
    rw [FL_X10_whenNow_2, if_pos (show (200 : Int32) < nI 201 from by decide), FL_X10_whenNow_2, if_pos (show (200 : Int32) < nI 201 from by decide)]
    exact ⟨_, _, _, rfl, rfl⟩
  | k + 1, j, n + 1, g, g', h1, h2, hr, hi, hi' => by
    have hm := hc.1
    have ed : g' d = g d := by
      have a1 : nz g d = g d := if_pos (by omega)
      have a2 : nz g' d = g' d := if_pos (by omega)
      rw [← a1, ← a2]; exact hr.1 d (by omega)
    rw [FL_X10_whenNow_2, if_neg (by rw [show (200 : Int32) = nI 200 from rfl, pLt (by omega) (by omega)]; omega), rState (by omega), pBs]
    rw [show FL_X10_whenNow_2 (nI m) ru td nw1 (nI d) (n + 1) (nI j) g' = if g d = 6 then some (nI j, g') else if g 96 = 9999 then some (-1, g') else (F_X10_tickNow (nI m) ru td g').bind fun o => FL_X10_whenNow_2 (nI m) ru td nw1 (nI d) n (nI j + 1) o from by
      rw [FL_X10_whenNow_2, if_neg (by rw [show (200 : Int32) = nI 200 from rfl, pLt (by omega) (by omega)]; omega), rState (by omega), pBs, ed, hr.2.2]]
    by_cases c6 : g d = 6
    · rw [if_pos c6, if_pos c6]; exact ⟨_, _, _, rfl, rfl⟩
    · rw [if_neg c6, if_neg c6]
      by_cases cu : g 96 = 9999
      · rw [if_pos cu, if_pos cu]; exact ⟨_, _, _, rfl, rfl⟩
      · rw [if_neg cu, if_neg cu]
        obtain ⟨f, f', a1, a2, a3, a4, a5⟩ := tick_40 hc h0 hr hi hi'
        rw [a1, a2, pBs, pBs, pS1]
        exact when_40 hc h0 hd k (j + 1) n f f' (by omega) (by omega) a3 a4 a5
end
end

section
/-! the best port, side by side -/
section
variable {m t : Nat} {ru fp td : Nat → Int32}
theorem plug_r40 {nw g g' : Nat → Int32} {d : Nat} {c p p' : Int32} (hd : d < 8) (h1 : nz g = nPlug ru (nz nw) d c p) (h2 : nf g = upd (nf nw) (24 + d) 0) (h3 : nz g' = nPlug ru (nz nw) d c p') (h4 : nf g' = upd (nf nw) (24 + d) 0) : r40 g g' := by
  refine ⟨fun k hk => ?_, fun e he => ?_, ?_⟩
  · rw [h1, h3]; unfold nPlug; rw [pUn (show k ≠ 40 + d by omega), pUn (show k ≠ 40 + d by omega)]
  · exact nf_at (h4.trans h2.symm) (by omega)
  · exact nf_at (h4.trans h2.symm) (by omega)
theorem whenAt_40 {nw as_ g0 g0' : Nat → Int32} {d c p p0 : Nat} {w : Int32} (hc : Cx m t ru fp td) (h0 : 0 < m) (hi : iU m ru (tT m td) (nz nw)) (hd : d < m) (hd0 : nz nw d = 0) (hcc : c = 8 ∨ (c < m ∧ nz nw c ≠ 0)) (hp : p < 4) (hpp : (c = 8 ∧ nI p < ru 0) ∨ (c < m ∧ nI p < tT m td c 0)) (q1 : nz g0 = nPlug ru (nz nw) d (nI c) (nI p0)) (q2 : nf g0 = upd (nf nw) (24 + d) 0) (q3 : iU m ru (tT m td) (nz g0)) (q4 : FL_X10_whenNow_2 (nI m) ru td g0 (nI d) 1000 (nI 0) g0 = some (w, g0')) : ∃ as', F_X10_whenAt (nI m) ru td nw as_ (nI d) (nI c) (nI p) = some (w, nw, as') := by
  have hm := hc.1
  unfold F_X10_whenAt F_X10_whenNow
  obtain ⟨a, a1, a2⟩ := aside_L (nw := nw) (as_ := as_)
  obtain ⟨g, g1, g2, g3⟩ := rPlug (nw := nw) hm (hc.2.1 h0) hi hd hd0 hcc hp hpp
  have hig : iU m ru (tT m td) (nz g) := by rw [g2]; exact nPlug_iU hm (hc.2.1 h0) hi hd hd0 hcc hp hpp
  obtain ⟨w', f0, f1, b1, b2⟩ := when_40 (nw0 := g0) (nw1 := g) hc h0 hd 201 0 1000 g0 g (by omega) (by omega) (plug_r40 (by omega) q1 q2 g2 g3) q3 hig
  obtain ⟨w2, f2, c1, c2, -⟩ := whenR (nw0 := g) hc h0 hd 201 0 1000 g (by omega) (by omega) hig
  rw [q4] at b1
  obtain ⟨rfl, -⟩ := Prod.mk.inj (Option.some.inj b1)
  rw [b2] at c1
  obtain ⟨rfl, rfl⟩ := Prod.mk.inj (Option.some.inj c1)
  have hk : kD nw f1 := fun k hk => by
    have e1 : g k = nf g k := (nfE (by omega)).symm
    rw [c2 k hk, e1, g3, pUn (by omega), nfE (by omega)]
  rw [a1, pBs, g1, pBs, show FL_X10_whenNow_2 (nI m) ru td g (nI d) 1000 0 g = _ from b2, pBs, bring_eq a2 hk, pBs]
  exact ⟨_, rfl⟩
end
section
variable {m t : Nat} {ru fp td : Nat → Int32}
/-- whether one may be plugged there -/
def fre (m : Nat) (ru : Nat → Int32) (T : Nat → Nat → Int32) (N : Nat → Int32) (d h p : Nat) : Prop := zBarP m ru T N d (nI h) (nI p) = -1
theorem full_c {N : Nat → Int32} {h : Nat} {z : Int32} (hm : m ≤ 8) (hh : h < 2147483648) (hf : wF m N) : pFd (fun d => decide (N (32 + d) = nI h) && decide (N (40 + d) = z)) m 0 = zFull m N (nI h) z := by
  unfold zFull
  refine pFd_congr m 0 (fun d _ hd => ?_)
  by_cases c : N d = 0
  · have e := hf d (by omega) c
    have ne : ¬ (-1 : Int32) = nI h := fun q => by have w := q.symm; rw [pNm hh] at w; exact w
    simp [c, e, ne]
  · simp [c]
/-- the first free port of a hub, and none before it -/
theorem free_e {fr nw : Nat → Int32} {d h P : Nat} (hc : Cx m t ru fp td) (hr : Rl m fr nw) (hi : iU m ru (tT m td) (nz nw)) (hd0 : nz nw d = 0) (hh : h ≤ 8) (hP : P ≤ 4) (hub : zHub m (tT m td) (nI h) = true) (hpr : zPrt ru (tT m td) (nI h) = nI P) (hst : h = 8 ∨ nz nw h ≠ 0) (hp : F_X5_portsOf (nI m) ru fp (nI h) = some (nI P)) : ∀ (k j n : Nat), j + k = P → k < n → (∀ p, p < j → ¬ fre m ru (tT m td) (nz nw) d h p) → ∃ r, FL_X0_firstFreePort_13 fr (nI m) ru fp (nI h) n (nI j) = some r ∧ ((r = -1 ∧ ∀ p, p < P → ¬ fre m ru (tT m td) (nz nw) d h p) ∨ ∃ p0, p0 < P ∧ r = nI p0 ∧ fre m ru (tT m td) (nz nw) d h p0 ∧ ∀ p, p < p0 → ¬ fre m ru (tT m td) (nz nw) d h p)
  | k, j, 0, _, h, _ => absurd h (by omega)
  | 0, j, n + 1, h1, h2, hb => by
    obtain rfl : j = P := by omega
    rw [FL_X0_firstFreePort_13, hp, pBs, if_pos (le_rfl32 _)]
    exact ⟨_, rfl, Or.inl ⟨rfl, hb⟩⟩
  | k + 1, j, n + 1, h1, h2, hb => by
    have hm := hc.1
    have hst' : (nI h : Int32) = 8 ∨ nz nw (nI h).toNatClampNeg ≠ 0 := by
      rcases hst with q | q
      · exact Or.inl (by rw [q]; rfl)
      · exact Or.inr (by rw [pCl (by omega)]; exact q)
    have hfr : fre m ru (tT m td) (nz nw) d h j ↔ zFull m (nz nw) (nI h) (nI j) = -1 := by
      unfold fre zBarP
      rw [if_pos hub, if_neg (fun q => q.elim (nI_pos (by omega)) (fun q => by rw [hpr, pLe (by omega) (by omega)] at q; omega))]
      by_cases c : zFull m (nz nw) (nI h) (nI j) = -1
      · rw [if_pos ⟨hd0, hst', c⟩]; exact ⟨fun _ => c, fun _ => rfl⟩
      · rw [if_neg (fun q => c q.2.2)]; exact ⟨fun q => absurd q (by decide), fun q => absurd q c⟩
    rw [FL_X0_firstFreePort_13, hp, pBs, if_neg (by rw [pLe (by omega) (by omega)]; omega), cPlugged_ hm, pBs, hr.1, full_c hm (by omega) hi.1.1.f]
    by_cases c : zFull m (nz nw) (nI h) (nI j) = -1
    · rw [if_pos c]
      exact ⟨_, rfl, Or.inr ⟨j, by omega, rfl, hfr.mpr c, hb⟩⟩
    · rw [if_neg c, pS1]
      refine free_e hc hr hi hd0 hh hP hub hpr hst hp k (j + 1) n (by omega) (by omega) (fun p hp' => ?_)
      by_cases cp : p = j
      · subst cp; exact fun q => c (hfr.mp q)
      · exact hb p (by omega)
/-- what the reference makes of a hub's further ports: nothing -/
theorem hub_rest {nw nw0 as0 g0 g0' : Nat → Int32} {d h P p0 : Nat} {w x y : Int32} {kk : Int32 → Int32 → Int32 → (Nat → Int32) → (Nat → Int32) → Option (Int32 × (Nat → Int32) × (Nat → Int32))} (hc : Cx m t ru fp td) (h0 : 0 < m) (hi : iU m ru (tT m td) (nz nw)) (hd : d < m) (hh : h ≤ 8) (hP : P ≤ 4) (hp : F_X10_portsOf ru td (nI h) = some (nI P)) (hub : F_X10_isHub (nI m) td (nI h) = some 1) (q1 : nz g0 = nPlug ru (nz nw) d (nI h) (nI p0)) (q2 : nf g0 = upd (nf nw) (24 + d) 0) (q3 : iU m ru (tT m td) (nz g0)) (q4 : FL_X10_whenNow_2 (nI m) ru td g0 (nI d) 1000 (nI 0) g0 = some (w, g0')) (hw : w = -1 ∨ (x ≠ -1 ∧ y ≤ w)) : ∀ (k j n : Nat) (a : Nat → Int32), j + k = P → k < n → ∃ a', FL_X10_place_35 (nI m) ru td nw0 as0 (nI d) kk n x y (nI h) (nI j) nw a = kk x y (nI (h + 1)) nw a'
  | k, j, 0, a, _, h => absurd h (by omega)
  | 0, j, n + 1, a, h1, h2 => by
    obtain rfl : j = P := by omega
    rw [FL_X10_place_35, hub, pBs, if_neg (by decide), hp, pBs, if_pos (le_rfl32 _), pS1]
    exact ⟨a, rfl⟩
  | k + 1, j, n + 1, a, h1, h2 => by
    have hm := hc.1
    have ih := fun a => hub_rest (nw0 := nw0) (as0 := as0) (kk := kk) hc h0 hi hd hh hP hp hub q1 q2 q3 q4 hw k (j + 1) n a (by omega) (by omega)
    rw [FL_X10_place_35, hub, pBs, if_neg (by decide), hp, pBs, if_neg (by rw [pLe (by omega) (by omega)]; omega), rBarP hm hc.2.1 hd, pBs, pS1]
    by_cases hb : zBarP m ru (tT m td) (nz nw) d (nI h) (nI j) = -1
    · rw [if_pos hb]
      obtain ⟨c, e1, e2, e3, e4, e5⟩ := barP_f hc h0 hd (by omega) hb
      obtain rfl : h = c := (nI_eq (by omega) (by rcases e3 with q | q <;> omega)).mp e1
      obtain ⟨as', e⟩ := whenAt_40 (as_ := a) hc h0 hi hd e2 e3 e4 e5 q1 q2 q3 q4
      rw [e, pBs]
      dsimp only
      obtain ⟨a', ia⟩ := ih as'
      rcases hw with hw | ⟨hx, hy⟩
      · rw [if_pos hw]; exact ⟨a', ia⟩
      · by_cases cw : w = -1
        · rw [if_pos cw]; exact ⟨a', ia⟩
        · rw [if_neg cw, if_neg hx, if_pos hy]; exact ⟨a', ia⟩
    · rw [if_neg hb]; exact ih a
/-- a hub without a free port -/
theorem hub_none {nw nw0 as0 : Nat → Int32} {d h P : Nat} {x y : Int32} {kk : Int32 → Int32 → Int32 → (Nat → Int32) → (Nat → Int32) → Option (Int32 × (Nat → Int32) × (Nat → Int32))} (hc : Cx m t ru fp td) (hd : d < m) (hh : h ≤ 8) (hP : P ≤ 4) (hp : F_X10_portsOf ru td (nI h) = some (nI P)) (hub : F_X10_isHub (nI m) td (nI h) = some 1) : ∀ (k j n e : Nat) (a : Nat → Int32), j + k = e → e ≤ P → k < n → (∀ p, p < e → ¬ fre m ru (tT m td) (nz nw) d h p) → FL_X10_place_35 (nI m) ru td nw0 as0 (nI d) kk n x y (nI h) (nI j) nw a = FL_X10_place_35 (nI m) ru td nw0 as0 (nI d) kk (n - k) x y (nI h) (nI e) nw a
  | k, j, 0, e, a, _, _, h, _ => absurd h (by omega)
  | 0, j, n + 1, e, a, h1, h2, h3, hb => by
    obtain rfl : j = e := by omega
    rfl
  | k + 1, j, n + 1, e, a, h1, h2, h3, hb => by
    have hm := hc.1
    rw [FL_X10_place_35, hub, pBs, if_neg (by decide), hp, pBs, if_neg (by rw [pLe (by omega) (by omega)]; omega), rBarP hm hc.2.1 hd, pBs, if_neg (show ¬ zBarP m ru (tT m td) (nz nw) d (nI h) (nI j) = -1 from hb j (by omega)), pS1]
    rw [hub_none (nw0 := nw0) (as0 := as0) (kk := kk) hc hd hh hP hp hub k (j + 1) n e a (by omega) h2 (by omega) hb, show n + 1 - (k + 1) = n - k from by omega]
def plK (x lim x3 : Int32) : Prop := (x = -1 ∧ lim = 200) ∨ (x ≠ -1 ∧ ∃ q, q ≤ 200 ∧ x3 = nI q ∧ lim = nI q - 1)
theorem plK_le {x lim x3 : Int32} (h : plK x lim x3) : lim ≤ 200 := by
  rcases h with ⟨-, rfl⟩ | ⟨-, q, hq, -, rfl⟩
  · exact le_rfl32 _
  · rw [q_le, show (nI q : Int32) - 1 = nI q - nI 1 from rfl, pk_sub_toInt (by omega) (by omega), show (200 : Int32).toInt = 200 from by decide]; omega
theorem place_simL {fa0 fr nw nw0 as0 : Nat → Int32} {d u : Nat} (hc : Cx m t ru fp td) (h0 : 0 < m) (hr : Rl m fr nw) (hi : iU m ru (tT m td) (nz nw)) (hd : d < m) (hd0 : nz nw d = 0) (hu : u ≤ 9999) (u1 : fr 96 = nI u) (u2 : nw 96 = nI u) : ∀ (k j n n' : Nat) (x lim x3 : Int32) (f a : Nat → Int32), j + k = 9 → k < n → k < n' → plK x lim x3 → ∃ r f' a', FL_X3_bestPort_9 fa0 fr (nI m) ru fp (nI d) n x lim (nI j) f = some (r, f') ∧ FL_X10_place_25 (nI m) ru td nw0 as0 (nI d) n' x x3 (nI j) nw a = some (r, nw, a')
  | k, j, 0, n', x, lim, x3, f, a, _, h, _, _ => absurd h (by omega)
  | k, j, n + 1, 0, x, lim, x3, f, a, _, _, h, _ => absurd h (by omega)
  | 0, j, n + 1, n' + 1, x, lim, x3, f, a, h1, _, _, hK => by
    obtain rfl : j = 9 := by omega
    rw [FL_X3_bestPort_9, if_pos (show (8 : Int32) < nI 9 from by decide), FL_X10_place_25, if_pos (show (8 : Int32) < nI 9 from by decide)]
    exact ⟨_, _, _, rfl, rfl⟩
  | k + 1, j, n + 1, n' + 1, x, lim, x3, f, a, h1, h2, h3, hK => by
    have hm := hc.1
    have ih := fun x lim x3 f a hK => place_simL (fa0 := fa0) (nw0 := nw0) (as0 := as0) hc h0 hr hi hd hd0 hu u1 u2 k (j + 1) n n' x lim x3 f a (by omega) (by omega) (by omega) hK
    have j8 : ¬ (8 : Int32) < nI j := by rw [show (8 : Int32) = nI 8 from rfl, pLt (by omega) (by omega)]; omega
    -- what the reference does at this hub, as one step
    have hY : FL_X10_place_25 (nI m) ru td nw0 as0 (nI d) (n' + 1) x x3 (nI j) nw a = FL_X10_place_35 (nI m) ru td nw0 as0 (nI d) (fun y0 y1 y2 y3 y4 => FL_X10_place_25 (nI m) ru td nw0 as0 (nI d) n' y0 y1 y2 y3 y4) 1000 x x3 (nI j) (nI 0) nw a := by
      rw [FL_X10_place_25, if_neg j8]; rfl
    have skip : ∀ a' : Nat → Int32, FL_X10_place_25 (nI m) ru td nw0 as0 (nI d) (n' + 1) x x3 (nI j) nw a = FL_X10_place_25 (nI m) ru td nw0 as0 (nI d) n' x x3 (nI (j + 1)) nw a' → F_X0_firstFreePort fr (nI m) ru fp (nI j) = some (-1) → ∃ r f' a', FL_X3_bestPort_9 fa0 fr (nI m) ru fp (nI d) (n + 1) x lim (nI j) f = some (r, f') ∧ FL_X10_place_25 (nI m) ru td nw0 as0 (nI d) (n' + 1) x x3 (nI j) nw a = some (r, nw, a') := fun a' e1 e2 => by
      rw [FL_X3_bestPort_9, if_neg j8, e2, pBs, if_pos rfl, pS1, e1]
      exact ih x lim x3 f a' hK
    by_cases hub : zHub m (tT m td) (nI j) = true
    · obtain ⟨x', hx', ex, hx2⟩ := hub_nI hm hub
      obtain rfl : j = x' := (nI_eq (by omega) (by omega)).mp ex
      obtain ⟨P, hP, hp⟩ := ports_r (h := j) hc (Or.inr hub) (by omega) h0 hx2
      have hpr : zPrt ru (tT m td) (nI j) = nI P := by
        unfold zPrt
        by_cases c8 : j = 8
        · subst c8
          rw [if_pos (show (nI 8 : Int32) = 8 from rfl)]
          have := rPorts8 (ru := ru) (td := td)
          rw [show F_X10_portsOf ru td 8 = some (nI P) from hp] at this
          exact (Option.some.inj this).symm
        · have cm := hx2.resolve_left c8
          rw [if_neg (by rw [pE8 (by omega)]; exact c8), pCl (by omega)]
          have := rPorts (ru := ru) (td := td) (m := m) hm cm
          rw [hp] at this
          exact (Option.some.inj this).symm
      have hub1 : F_X10_isHub (nI m) td (nI j) = some 1 := by rw [rHub hm, hub]; rfl
      have hpc : F_X5_portsOf (nI m) ru fp (nI j) = some (nI P) := by
        rw [cPorts hm (by
          rcases hx2 with q | q
          · exact Or.inl ⟨h0, by rw [q]; rfl⟩
          · exact Or.inr (by rw [zDev_nI hm (by omega)]; simpa using q)), hc.2.2.2, hpr]
      by_cases hst : j = 8 ∨ nz nw j ≠ 0
      · have hfirst : F_X0_firstFreePort fr (nI m) ru fp (nI j) = FL_X0_firstFreePort_13 fr (nI m) ru fp (nI j) 1000 (nI 0) := by
          unfold F_X0_firstFreePort
          rw [cIs (by omega), pBs, hr.1]
          rcases hst with q | q
          · rw [if_pos (by simp [q, pb])]; rfl
          · rw [if_pos (by simp [q, pb])]; rfl
        obtain ⟨r, r1, r2⟩ := free_e (d := d) hc hr hi hd0 (by omega) hP hub hpr hst hpc P 0 1000 (by omega) (by omega) (fun p hp => by omega)
        rcases r2 with ⟨rfl, hno⟩ | ⟨p0, hp0, rfl, hfr, hbe⟩
        · refine skip a ?_ (hfirst.trans r1)
          rw [hY, hub_none hc hd (by omega) hP hp hub1 P 0 1000 P a (by omega) (by omega) (by omega) hno]
          obtain ⟨z, hz⟩ : ∃ z, 1000 - P = z + 1 := ⟨999 - P, by omega⟩
          rw [hz, FL_X10_place_35, hub1, pBs, if_neg (by decide), hp, pBs, if_pos (le_rfl32 _), pS1]
        · obtain ⟨c, e1, e2, e3, e4, e5⟩ := barP_f hc h0 hd (by omega) hfr
          obtain rfl : j = c := (nI_eq (by omega) (by rcases e3 with q | q <;> omega)).mp e1
          obtain ⟨k1, k2⟩ := cpyR (fa := f) hm hr
          obtain ⟨f1, g, b1, b2, b3, b4, b5, b6, b7⟩ := plug_sim hc h0 k1 hi hd hd0 e3 e4 e5
          obtain ⟨g2, c1, c2, c3⟩ := rPlug (nw := nw) hm (hc.2.1 h0) hi hd hd0 e3 e4 e5
          obtain rfl : g = g2 := by
            have := b2.symm.trans c1
            exact (Prod.mk.inj (Option.some.inj this)).2
          obtain ⟨r, f2, w, g', p1, p2, p3, p4⟩ := play_when (fa0 := f1) (fr0 := fr) (nw0 := g) (z2 := lim) hc h0 hd (plK_le hK) 201 0 1000 1000 u f1 g (by omega) (by omega) (by omega) b3 b4 hu (b5.trans (k2.trans u1)) (b6.trans u2)
          have hX : FL_X3_bestPort_9 fa0 fr (nI m) ru fp (nI d) (n + 1) x lim (nI j) f = if r = -1 then FL_X3_bestPort_9 fa0 fr (nI m) ru fp (nI d) n x lim (nI (j + 1)) f2 else FL_X3_bestPort_9 fa0 fr (nI m) ru fp (nI d) n (10 * nI j + nI p0) (r - 1) (nI (j + 1)) f2 := by
            rw [FL_X3_bestPort_9, if_neg j8, hfirst.trans r1, pBs, if_neg (by rw [pNm (by omega)]; exact id)]
            unfold F_X0_copyFrom F_X3_playTillRunning
            rw [pBs, b1, pBs, show FL_X3_playTillRunning_2 f1 fr (nI m) ru fp (nI d) lim 1000 0 f1 = _ from p1, pBs, pS1]
          obtain ⟨as', ea⟩ := whenAt_40 (as_ := a) hc h0 hi hd hd0 e3 e4 e5 c2 c3 b4 p2
          obtain ⟨z, hz⟩ : ∃ z, 1000 - p0 = z + 1 := ⟨999 - p0, by omega⟩
          have hY2 : FL_X10_place_25 (nI m) ru td nw0 as0 (nI d) (n' + 1) x x3 (nI j) nw a = if w = -1 then FL_X10_place_35 (nI m) ru td nw0 as0 (nI d) (fun y0 y1 y2 y3 y4 => FL_X10_place_25 (nI m) ru td nw0 as0 (nI d) n' y0 y1 y2 y3 y4) z x x3 (nI j) (nI (p0 + 1)) nw as' else if x = -1 ∨ ¬ x3 ≤ w then FL_X10_place_35 (nI m) ru td nw0 as0 (nI d) (fun y0 y1 y2 y3 y4 => FL_X10_place_25 (nI m) ru td nw0 as0 (nI d) n' y0 y1 y2 y3 y4) z (10 * nI j + nI p0) w (nI j) (nI (p0 + 1)) nw as' else FL_X10_place_35 (nI m) ru td nw0 as0 (nI d) (fun y0 y1 y2 y3 y4 => FL_X10_place_25 (nI m) ru td nw0 as0 (nI d) n' y0 y1 y2 y3 y4) z x x3 (nI j) (nI (p0 + 1)) nw as' := by
            rw [hY, hub_none hc hd (by omega) hP hp hub1 p0 0 1000 p0 a (by omega) (by omega) (by omega) hbe, hz, FL_X10_place_35, hub1, pBs, if_neg (by decide), hp, pBs, if_neg (by rw [pLe (by omega) (by omega)]; omega), rBarP hm hc.2.1 hd, pBs, if_pos (show zBarP m ru (tT m td) (nz nw) d (nI j) (nI p0) = -1 from hfr), ea, pBs, pS1]
            dsimp only
            by_cases cw : w = -1
            · rw [if_pos cw, if_pos cw]
            · rw [if_neg cw, if_neg cw]
              by_cases cx : x = -1
              · rw [if_pos cx, if_pos (Or.inl cx)]
              · rw [if_neg cx]
                by_cases cy : x3 ≤ w
                · rw [if_pos cy, if_neg (fun q => q.elim cx (fun q => q cy))]
                · rw [if_neg cy, if_pos (Or.inr cy)]
          have rest := fun x y hw a => hub_rest (nw0 := nw0) (as0 := as0) (x := x) (y := y) (kk := fun y0 y1 y2 y3 y4 => FL_X10_place_25 (nI m) ru td nw0 as0 (nI d) n' y0 y1 y2 y3 y4) hc h0 hi hd (by omega) hP hp hub1 c2 c3 b4 p2 hw (P - (p0 + 1)) (p0 + 1) z a (by omega) (by omega)
          rw [hX, hY2]
          have keep : r = -1 → (w = -1 ∨ (x ≠ -1 ∧ x3 ≤ w)) → ∃ r' f' a', (if r = -1 then FL_X3_bestPort_9 fa0 fr (nI m) ru fp (nI d) n x lim (nI (j + 1)) f2 else FL_X3_bestPort_9 fa0 fr (nI m) ru fp (nI d) n (10 * nI j + nI p0) (r - 1) (nI (j + 1)) f2) = some (r', f') ∧ (if w = -1 then FL_X10_place_35 (nI m) ru td nw0 as0 (nI d) (fun y0 y1 y2 y3 y4 => FL_X10_place_25 (nI m) ru td nw0 as0 (nI d) n' y0 y1 y2 y3 y4) z x x3 (nI j) (nI (p0 + 1)) nw as' else if x = -1 ∨ ¬ x3 ≤ w then FL_X10_place_35 (nI m) ru td nw0 as0 (nI d) (fun y0 y1 y2 y3 y4 => FL_X10_place_25 (nI m) ru td nw0 as0 (nI d) n' y0 y1 y2 y3 y4) z (10 * nI j + nI p0) w (nI j) (nI (p0 + 1)) nw as' else FL_X10_place_35 (nI m) ru td nw0 as0 (nI d) (fun y0 y1 y2 y3 y4 => FL_X10_place_25 (nI m) ru td nw0 as0 (nI d) n' y0 y1 y2 y3 y4) z x x3 (nI j) (nI (p0 + 1)) nw as') = some (r', nw, a') := fun hr1 hw => by
            obtain ⟨a', ra⟩ := rest x x3 hw as'
            have e : (if w = -1 then FL_X10_place_35 (nI m) ru td nw0 as0 (nI d) (fun y0 y1 y2 y3 y4 => FL_X10_place_25 (nI m) ru td nw0 as0 (nI d) n' y0 y1 y2 y3 y4) z x x3 (nI j) (nI (p0 + 1)) nw as' else if x = -1 ∨ ¬ x3 ≤ w then FL_X10_place_35 (nI m) ru td nw0 as0 (nI d) (fun y0 y1 y2 y3 y4 => FL_X10_place_25 (nI m) ru td nw0 as0 (nI d) n' y0 y1 y2 y3 y4) z (10 * nI j + nI p0) w (nI j) (nI (p0 + 1)) nw as' else FL_X10_place_35 (nI m) ru td nw0 as0 (nI d) (fun y0 y1 y2 y3 y4 => FL_X10_place_25 (nI m) ru td nw0 as0 (nI d) n' y0 y1 y2 y3 y4) z x x3 (nI j) (nI (p0 + 1)) nw as') = FL_X10_place_25 (nI m) ru td nw0 as0 (nI d) n' x x3 (nI (j + 1)) nw a' := by
              by_cases cw : w = -1
              · rw [if_pos cw]; exact ra
              · obtain ⟨hx, hy⟩ := hw.resolve_left cw
                rw [if_neg cw, if_neg (fun q => q.elim hx (fun q => q hy))]; exact ra
            rw [if_pos hr1, e]
            exact ih x lim x3 f2 a' hK
          rcases p4 with ⟨w1, w2⟩ | ⟨q, -, hq, w1, ⟨w2, w3⟩ | ⟨w2, w3⟩⟩
          · exact keep w2 (Or.inl w1)
          · have hrn : ¬ r = -1 := by rw [w3, pNm (by omega)]; exact id
            have hwn : ¬ w = -1 := by rw [w1, pNm (by omega)]; exact id
            have hxw : x = -1 ∨ ¬ x3 ≤ w := by
              rcases hK with ⟨hx, -⟩ | ⟨-, q', hq', hx3, hl⟩
              · exact Or.inl hx
              · refine Or.inr (fun c => ?_)
                rw [hx3, w1, pLe (by omega) (by omega)] at c
                rw [hl, q_le, nI_toInt (by omega), show (nI q' : Int32) - 1 = nI q' - nI 1 from rfl, pk_sub_toInt (by omega) (by omega)] at w2
                omega
            have e10 : (10 : Int32) * nI j + nI p0 = nI (10 * j + p0) := by
              have q1 : (10 : Int32) * nI j = nI (10 * j) := pM 10 j
              rw [q1, nI_add]
            have hxn : (10 : Int32) * nI j + nI p0 ≠ -1 := by rw [e10, Ne, pNm (by omega)]; exact id
            obtain ⟨a', ra⟩ := rest (10 * nI j + nI p0) w (Or.inr ⟨hxn, le_rfl32 _⟩) as'
            rw [if_neg hrn, if_neg hwn, if_pos hxw, ra]
            exact ih _ _ _ f2 a' (Or.inr ⟨hxn, q, hq, w1, by rw [w3]⟩)
          · refine keep w3 (Or.inr ?_)
            rcases hK with ⟨-, hl⟩ | ⟨hx, q', hq', hx3, hl⟩
            · rw [hl, show (200 : Int32) = nI 200 from rfl, pLt (by omega) (by omega)] at w2; omega
            · refine ⟨hx, ?_⟩
              rw [hx3, w1, pLe (by omega) (by omega)]
              rw [hl, q_lt, nI_toInt (by omega), show (nI q' : Int32) - 1 = nI q' - nI 1 from rfl, pk_sub_toInt (by omega) (by omega)] at w2
              omega
      · -- an absent hub
        have hj8 : j ≠ 8 := fun q => hst (Or.inl q)
        have hn0 : nz nw j = 0 := Decidable.byContradiction (fun q => hst (Or.inr q))
        refine skip a ?_ ?_
        · rw [hY, hub_none hc hd (by omega) hP hp hub1 P 0 1000 P a (by omega) (by omega) (by omega) (fun p hp' q => by
            obtain ⟨c, e1, -, e3, -, -⟩ := barP_f hc h0 hd (by omega) q
            obtain rfl : j = c := (nI_eq (by omega) (by rcases e3 with q | q <;> omega)).mp e1
            rcases e3 with e3 | e3
            · exact hj8 e3
            · exact e3.2 hn0)]
          obtain ⟨z, hz⟩ : ∃ z, 1000 - P = z + 1 := ⟨999 - P, by omega⟩
          rw [hz, FL_X10_place_35, hub1, pBs, if_neg (by decide), hp, pBs, if_pos (le_rfl32 _), pS1]
        · unfold F_X0_firstFreePort
          rw [cIs (by omega), pBs, hr.1, if_neg (by simp [hj8, hn0, pb])]
    · -- no hub
      have ch' : zHub m (tT m td) (nI j) = false := by simpa using hub
      refine skip a ?_ ?_
      · rw [hY, show (1000 : Nat) = 999 + 1 from rfl, FL_X10_place_35, rHub hm, ch', pBs, if_pos (by decide), pS1]
      · obtain ⟨r, r1, r2⟩ := free_c (fr := fr) (h := j) hc h0 (by omega)
        rcases r2 with rfl | ⟨p, hp4, -, h1', h2'⟩
        · exact r1
        · exfalso
          apply hub
          unfold zHub
          rcases h2' with ⟨q, -⟩ | ⟨q1, q2⟩
          · have e : (nI j : Int32) = 8 := by rw [q]; rfl
            simp [e, h0]
          · rw [zDev_nI hm (by omega), pCl (by omega)]
            obtain ⟨⟨pp, hpp4, e⟩, -⟩ := hc.2.2.1 j q1
            have : ¬ tT m td j 0 ≤ 0 := by
              rw [e, pLe0 (by omega)]
              rw [e, pLt (by omega) (by omega)] at q2; omega
            simp [q1, this]
theorem place_sim {fr fa nw as_ : Nat → Int32} {z1 : Int32} {u : Nat} (hc : Cx m t ru fp td) (hr : Rl m fr nw) (hi : iU m ru (tT m td) (nz nw)) (hu : u ≤ 9999) (e1 : fr 96 = nI u) (e2 : nw 96 = nI u) : ∃ r fa' as', F_X9_place (nI m) ru fp fr fa z1 = some (r, fa') ∧ F_X10_place (nI m) ru td nw as_ z1 = some (r, nw, as') := by
  have hm := hc.1
  unfold F_X9_place F_X10_place
  rw [cHas hm, pBs, rDev, pBs]
  by_cases hd : pb (zDev m z1) = 0
  · rw [if_pos hd, if_pos hd]; exact ⟨_, _, _, rfl, rfl⟩
  · rw [if_neg hd, if_neg hd]
    obtain ⟨d, hd', rfl⟩ := dev_c hm hd
    have ed : nz nw d = nw d := if_pos (by omega)
    rw [cIs (by omega), pBs, rState (by omega), pBs, hr.1, ← ed]
    by_cases c0 : nz nw d = 0
    · rw [if_neg (by simp [c0, pb]; omega), if_pos c0]
      unfold F_X3_bestPort
      obtain ⟨r, f', a', b1, b2⟩ := place_simL (fa0 := fa) (nw0 := nw) (as0 := as_) hc (by omega) hr hi hd' c0 hu e1 e2 9 0 1000 1000 (-1) 200 0 fa as_ (by omega) (by omega) (by omega) (Or.inl ⟨rfl, rfl⟩)
      rw [show FL_X3_bestPort_9 fa fr (nI m) ru fp (nI d) 1000 (-1) 200 0 fa = _ from b1, pBs]
      exact ⟨r, f', a', rfl, b2⟩
    · rw [if_pos (by simp [c0, pb]), if_neg c0]; exact ⟨_, _, _, rfl, rfl⟩
end
end

section
theorem st_26e {cmp : Bool} : q_st cmp SX_26 SY_26 iv_I := by
  intro x y z j hj h
  obtain ⟨xa, xi, xl⟩ := x
  obtain ⟨ya, yi, yl⟩ := y
  have h : iv_H xa xi xl ya yi yl j := h
  obtain ⟨m, t, nx, p, tt, te, l, s, e1, e2, h3, e4, h5, e6, e7, e8, e9, e10, h11, e12, e13, e14, e15, e16, e17, hW, hI, e20, e21, h22, h23, h24⟩ := h
  have hC := hW.1
  have hR := hW.2.1.1
  have hU := hW.2.1.2.1
  have hF : iU m (ya 4) (tT m (ya 5)) (nz (xa 15)) := by rw [hR.1]; exact hU
  obtain ⟨u, hu, u1, u2⟩ := hW.2.1.2.2.1
  obtain ⟨r, fa', as', q1, q2⟩ := place_sim (fa := xa 17) (as_ := ya 11) (z1 := z 1) hC hR hU hu u1 u2
  have X : F_X9_place (xi 4) (xa 8) (xa 9) (xa 15) (xa 17) (z 1) = some (r, fa') := by rw [e6, e8]; exact q1
  have Y : F_X10_place (yi 5) (ya 4) (ya 5) (ya 8) (ya 11) (z 1) = some (r, ya 8, as') := by rw [e7]; exact q2
  exact ⟨_, _, pBi X, pBi Y, iv_mk m t nx p tt te l s e1 e2 h3 e4 h5 e6 e7 e8 e9 e10 h11 e12 e13 e14 e15 e16 e17 hW hI e20 e21 (by omega) (by omega) h24, fun _ => rfl⟩
end
