section
/-! foresight side by side: lost, ahead, when -/
theorem nlt32 {a b : Int32} (h : ¬ a < b) : b ≤ a := by rw [q_lt] at h; rw [q_le]; omega
theorem pSet_0 {p : Nat → Bool} {m k : Nat} (hm : m ≤ 8) (hk : k < m) (h : pSet p m = 0) : p k = false := by
  have q := pHas (p := p) hm (show k < 8 by omega)
  have z : ∀ k : Fin 8, (((0 : Int32) >>> (nI k.1 &&& 31)) &&& 1) = 0 := by decide
  rw [h, z ⟨k, by omega⟩] at q
  cases hp : p k with
  | false => rfl
  | true => rw [hp, if_pos (by simp [hk])] at q; exact absurd q (by decide)
theorem nSettle_id {m : Nat} {N : Nat → Int32} (h : ∀ d, d < m → N d ≠ 1) : nSettle m N = N := by
  have := pF_inv (g := nSt) (fun _ a => a = N) m 0 N (fun i a _ hi e => by
    rw [e]; unfold nSt; rw [if_neg (h i (by omega))]) rfl
  exact this
theorem still_c {m : Nat} {N : Nat → Int32} (hm : m ≤ 8) (h : zStill m N = true) : (∀ d, d < m → N d ≠ 1) ∧ pFd (zBsy N) m 0 = -1 ∧ zNext m N = -1 := by
  unfold zStill at h
  simp only [Bool.and_eq_true, decide_eq_true_eq] at h
  exact ⟨fun d hd => by simpa using pSet_0 hm hd h.1.1, h.1.2, h.2⟩
theorem still_tk {m t : Nat} {R : Nat → Int32} {T : Nat → Nat → Int32} {N : Nat → Int32} {v : Int32} (hm : m ≤ 8) (hz : nz N = N) (h : zStill m N = true) : zTk m t R T N v = N := by
  obtain ⟨h1, h2, h3⟩ := still_c hm h
  have e := nSettle_id h1
  have es : zS m N = -1 := by unfold zS; rw [e]; exact h2
  unfold zTk zGone
  rw [if_pos es, e]
  unfold nTail
  rw [hz, if_pos h2, if_pos h3]
section
variable {m t : Nat} {ru fp td : Nat → Int32}
theorem still_r {g : Nat → Int32} (hc : Cx m t ru fp td) (h0 : 0 < m) (hi : iU m ru (tT m td) (nz g)) (hs : zStill m (nz g) = true) : ∃ g', F_X10_tickNow (nI m) ru td g = some g' ∧ nz g' = nz g ∧ g' 96 = g 96 + 1 := by
  obtain ⟨g', g1, g2, g3⟩ := rTick (nw := g) hc.1 (hc.2.1 h0) hc.2.2.1 hi.1
  refine ⟨g', g1, by rw [g2, still_tk hc.1 (nz_nz _) hs], ?_⟩
  have : g' 96 = nf g' 96 := (nfE (by omega)).symm
  rw [this, g3, pUs]
theorem whenR {nw0 : Nat → Int32} {d : Nat} (hc : Cx m t ru fp td) (h0 : 0 < m) (hd : d < m) : ∀ (k j n : Nat) (g : Nat → Int32), j + k = 201 → k < n → iU m ru (tT m td) (nz g) → ∃ w g', FL_X10_whenNow_2 (nI m) ru td nw0 (nI d) n (nI j) g = some (w, g') ∧ kD g g' ∧ (w = -1 ∨ ∃ x, j ≤ x ∧ x ≤ 200 ∧ w = nI x)
  | k, j, 0, g, _, h, _ => absurd h (by omega)
  | 0, j, n + 1, g, h1, h2, hi => by
    obtain rfl : j = 201 := by omega
    rw [FL_X10_whenNow_2, if_pos (show (200 : Int32) < nI 201 from by decide)]
    exact ⟨_, _, rfl, fun _ _ => rfl, Or.inl rfl⟩
  | k + 1, j, n + 1, g, h1, h2, hi => by
    have hm := hc.1
    rw [FL_X10_whenNow_2, if_neg (by rw [show (200 : Int32) = nI 200 from rfl, pLt (by omega) (by omega)]; omega), rState (by omega), pBs]
    split
    · exact ⟨_, _, rfl, fun _ _ => rfl, Or.inr ⟨j, by omega, by omega, rfl⟩⟩
    · split
      · exact ⟨_, _, rfl, fun _ _ => rfl, Or.inl rfl⟩
      · obtain ⟨g', g1, g2, g3⟩ := rTick_t hc h0 hi
        rw [g1, pBs, pS1]
        obtain ⟨w, g'', a, b, c⟩ := whenR (nw0 := nw0) hc h0 hd k (j + 1) n g' (by omega) (by omega) g2
        refine ⟨w, g'', a, fun x hx => (b x hx).trans (g3 x hx), ?_⟩
        rcases c with c | ⟨x, c1, c2, c3⟩
        · exact Or.inl c
        · exact Or.inr ⟨x, by omega, c2, c3⟩
theorem when_stuck {nw0 : Nat → Int32} {d : Nat} (hc : Cx m t ru fp td) (h0 : 0 < m) (hd : d < m) : ∀ (k j n : Nat) (g : Nat → Int32), j + k = 201 → k < n → iU m ru (tT m td) (nz g) → zStill m (nz g) = true → nz g d ≠ 6 → ∃ g', FL_X10_whenNow_2 (nI m) ru td nw0 (nI d) n (nI j) g = some (-1, g')
  | k, j, 0, g, _, h, _, _, _ => absurd h (by omega)
  | 0, j, n + 1, g, h1, h2, hi, _, _ => by
    obtain rfl : j = 201 := by omega
    rw [FL_X10_whenNow_2, if_pos (show (200 : Int32) < nI 201 from by decide)]
    exact ⟨_, rfl⟩
  | k + 1, j, n + 1, g, h1, h2, hi, hs, h6 => by
    have hm := hc.1
    have ed : nz g d = g d := if_pos (by omega)
    rw [FL_X10_whenNow_2, if_neg (by rw [show (200 : Int32) = nI 200 from rfl, pLt (by omega) (by omega)]; omega), rState (by omega), pBs, if_neg (by rw [← ed]; exact h6)]
    split
    · exact ⟨_, rfl⟩
    · obtain ⟨g', g1, g2, -⟩ := still_r hc h0 hi hs
      rw [g1, pBs, pS1]
      exact when_stuck hc h0 hd k (j + 1) n g' (by omega) (by omega) (by rw [g2]; exact hi) (by rw [g2]; exact hs) (by rw [g2]; exact h6)
theorem over_c {f : Nat → Int32} {dv : Int32} {fu fp' : Nat → Int32} {u : Nat} (hu : u ≤ 9999) (e : f 96 = nI u) : F_X0_isOver f dv fu fp' = some (pb (decide (u = 9999))) := by
  unfold F_X0_isOver
  have h : (f 96 < 9999) = (u < 9999) := by rw [e]; exact pLt (b := 9999) (by omega) (by omega)
  by_cases c : u = 9999
  · rw [if_neg (fun w => by rw [h] at w; omega)]; simp [c, pb]
  · rw [if_pos (by rw [h]; omega)]; simp [c, pb]
theorem tick_u {f g : Nat → Int32} {u : Nat} (hc : Cx m t ru fp td) (h0 : 0 < m) (hr : Rl m f g) (hi : iU m ru (tT m td) (nz g)) (hu : u < 9999) (e1 : f 96 = nI u) (e2 : g 96 = nI u) : ∃ f' g', F_X0_passTick f (nI m) ru fp = some f' ∧ F_X10_tickNow (nI m) ru td g = some g' ∧ Rl m f' g' ∧ iU m ru (tT m td) (nz g') ∧ f' 96 = nI (u + 1) ∧ g' 96 = nI (u + 1) ∧ kD g g' ∧ ∃ v, nz g' = zTk m t ru (tT m td) (nz g) v := by
  obtain ⟨f', g', a1, a2, a3, a4, a5, a6, a7⟩ := tick_sim hc h0 hr hi
  obtain ⟨g'', b1, b2, -⟩ := rTick (nw := g) hc.1 (hc.2.1 h0) hc.2.2.1 hi.1
  have eg : g' = g'' := Option.some.inj (a2.symm.trans b1)
  refine ⟨f', g', a1, a2, a3, a4, ?_, by rw [a6, e2, pS1], a7, _, by rw [eg]; exact b2⟩
  rw [a5, e1]; unfold cCap; rw [pS1, show (9999 : Int32) = nI 9999 from rfl, if_neg (by rw [pLt (by omega) (by omega)]; omega)]
theorem e9999 {u : Nat} (hu : u ≤ 9999) : ((nI u : Int32) = 9999) = (u = 9999) := by
  rw [show (9999 : Int32) = nI 9999 from rfl]; exact pEq (by omega) (by omega)
/-- how long till it runs, with a bound on the one side -/
theorem play_when {fa0 fr0 nw0 : Nat → Int32} {d : Nat} {z2 : Int32} (hc : Cx m t ru fp td) (h0 : 0 < m) (hd : d < m) (hz : z2 ≤ 200) : ∀ (k j n n' u : Nat) (f g : Nat → Int32), j + k = 201 → k < n → k < n' → Rl m f g → iU m ru (tT m td) (nz g) → u ≤ 9999 → f 96 = nI u → g 96 = nI u → ∃ r f' w g', FL_X3_playTillRunning_2 fa0 fr0 (nI m) ru fp (nI d) z2 n (nI j) f = some (r, f') ∧ FL_X10_whenNow_2 (nI m) ru td nw0 (nI d) n' (nI j) g = some (w, g') ∧ kD g g' ∧ ((w = -1 ∧ r = -1) ∨ ∃ x, j ≤ x ∧ x ≤ 200 ∧ w = nI x ∧ ((nI x ≤ z2 ∧ r = nI x) ∨ (z2 < nI x ∧ r = -1)))
  | k, j, 0, n', u, f, g, _, h, _, _, _, _, _, _ => absurd h (by omega)
  | k, j, n + 1, 0, u, f, g, _, _, h, _, _, _, _, _ => absurd h (by omega)
  | 0, j, n + 1, n' + 1, u, f, g, h1, _, _, hr, hi, _, _, _ => by
    obtain rfl : j = 201 := by omega
    have : z2 < nI 201 := by
      rw [q_le] at hz; rw [q_lt]
      have a : (200 : Int32).toInt = 200 := by decide
      have b : (nI 201).toInt = 201 := nI_toInt (by omega)
      omega
    rw [FL_X3_playTillRunning_2, if_pos this, FL_X10_whenNow_2, if_pos (show (200 : Int32) < nI 201 from by decide)]
    exact ⟨_, _, _, _, rfl, rfl, fun _ _ => rfl, Or.inl ⟨rfl, rfl⟩⟩
  | k + 1, j, n + 1, n' + 1, u, f, g, h1, h2, h3, hr, hi, hu, e1, e2 => by
    have hm := hc.1
    have ed : nz g d = g d := if_pos (by omega)
    by_cases c : z2 < nI j
    · obtain ⟨w, g', a, b, cc⟩ := whenR (nw0 := nw0) hc h0 hd (k + 1) j (n' + 1) g h1 h3 hi
      rw [FL_X3_playTillRunning_2, if_pos c]
      refine ⟨_, _, w, g', rfl, a, b, ?_⟩
      rcases cc with cc | ⟨x, c1, c2, c3⟩
      · exact Or.inl ⟨cc, rfl⟩
      · refine Or.inr ⟨x, c1, c2, c3, Or.inr ⟨?_, rfl⟩⟩
        rw [q_lt] at c ⊢
        rw [nI_toInt (by omega)] at c ⊢
        omega
    · have d8 : ¬ d = 8 := by omega
      have hY : FL_X10_whenNow_2 (nI m) ru td nw0 (nI d) (n' + 1) (nI j) g = if nz g d = 6 then some (nI j, g) else if u = 9999 then some (-1, g) else (F_X10_tickNow (nI m) ru td g).bind fun o => FL_X10_whenNow_2 (nI m) ru td nw0 (nI d) n' (nI (j + 1)) o := by
        rw [FL_X10_whenNow_2, if_neg (by rw [show (200 : Int32) = nI 200 from rfl, pLt (by omega) (by omega)]; omega), rState (by omega), pBs, ← ed, e2, pS1]
        simp only [e9999 hu]
      have hX : FL_X3_playTillRunning_2 fa0 fr0 (nI m) ru fp (nI d) z2 (n + 1) (nI j) f = if nz g d = 6 then some (nI j, f) else if u = 9999 then some (-1, f) else if zStill m (nz g) = true then some (-1, f) else (F_X0_passTick f (nI m) ru fp).bind fun o => FL_X3_playTillRunning_2 fa0 fr0 (nI m) ru fp (nI d) z2 n (nI (j + 1)) o := by
        rw [FL_X3_playTillRunning_2, if_neg c, cIs (by omega), pBs, over_c hu e1, pBs, cStill hm (by rw [hr.1]; exact hi.1.1.h hm) (by rw [hr.1]; exact hi.1.1.f), pBs, hr.1, pS1]
        by_cases c6 : nz g d = 6 <;> by_cases cu : u = 9999 <;> by_cases cs : zStill m (nz g) = true <;> simp [c6, cu, cs, d8, pb]
      by_cases c6 : nz g d = 6
      · rw [hX, hY, if_pos c6, if_pos c6]
        exact ⟨_, _, _, _, rfl, rfl, fun _ _ => rfl, Or.inr ⟨j, by omega, by omega, rfl, Or.inl ⟨nlt32 c, rfl⟩⟩⟩
      · by_cases cu : u = 9999
        · rw [hX, hY, if_neg c6, if_neg c6, if_pos cu, if_pos cu]
          exact ⟨_, _, _, _, rfl, rfl, fun _ _ => rfl, Or.inl ⟨rfl, rfl⟩⟩
        · by_cases cs : zStill m (nz g) = true
          · obtain ⟨g', a1⟩ := when_stuck (nw0 := nw0) hc h0 hd (k + 1) j (n' + 1) g h1 h3 hi cs c6
            obtain ⟨w, g2, a2, a3, -⟩ := whenR (nw0 := nw0) hc h0 hd (k + 1) j (n' + 1) g h1 h3 hi
            rw [a1] at a2
            obtain ⟨rfl, rfl⟩ := Prod.mk.inj (Option.some.inj a2)
            rw [hX, if_neg c6, if_neg cu, if_pos cs, a1]
            exact ⟨_, _, _, _, rfl, rfl, a3, Or.inl ⟨rfl, rfl⟩⟩
          · obtain ⟨f', g', a1, a2, a3, a4, a5, a6, a7, -⟩ := tick_u hc h0 hr hi (by omega) e1 e2
            rw [hX, hY, if_neg c6, if_neg c6, if_neg cu, if_neg cu, if_neg cs, a1, a2, pBs, pBs]
            obtain ⟨r, f'', w, g'', b1, b2, b3, b4⟩ := play_when (fa0 := fa0) (fr0 := fr0) (nw0 := nw0) hc h0 hd hz k (j + 1) n n' (u + 1) f' g' (by omega) (by omega) (by omega) a3 a4 (by omega) a5 a6
            refine ⟨r, f'', w, g'', b1, b2, fun x hx => (b3 x hx).trans (a7 x hx), ?_⟩
            rcases b4 with b4 | ⟨x, q1, q2, q3, q4⟩
            · exact Or.inl b4
            · exact Or.inr ⟨x, by omega, q2, q3, q4⟩
theorem cpyR {fr fa nw : Nat → Int32} (hm : m ≤ 8) (hr : Rl m fr nw) : Rl m (va_cpy fr fa 0 0 98) nw ∧ va_cpy fr fa 0 0 98 96 = fr 96 := by
  have e : ∀ k, k < 98 → va_cpy fr fa 0 0 98 k = fr k := fun k hk => by
    simp only [va_cpy]; rw [if_pos (by omega), show 0 + (k - 0) = k from by omega]
  exact ⟨⟨by rw [cpy98]; exact hr.1, fun d hd h => by rw [e _ (by omega)]; exact hr.2 d hd h⟩, e 96 (by omega)⟩
theorem when_sim {fr fa nw as_ : Nat → Int32} {z1 : Int32} {u : Nat} (hc : Cx m t ru fp td) (hr : Rl m fr nw) (hi : iU m ru (tT m td) (nz nw)) (hu : u ≤ 9999) (e1 : fr 96 = nI u) (e2 : nw 96 = nI u) : ∃ r fa' as', F_X9_when (nI m) ru fp fr fa z1 = some (r, fa') ∧ F_X10_when (nI m) ru td nw as_ z1 = some (r, nw, as') := by
  have hm := hc.1
  unfold F_X9_when F_X10_when
  rw [cHas hm, pBs, rDev, pBs]
  by_cases hd : pb (zDev m z1) = 0
  · rw [if_pos hd, if_pos hd]; exact ⟨_, _, _, rfl, rfl⟩
  · rw [if_neg hd, if_neg hd]
    obtain ⟨d, hd', rfl⟩ := dev_c hm hd
    have ed : nz nw d = nw d := if_pos (by omega)
    rw [cIs (by omega), pBs, rState (by omega), pBs, hr.1, ← ed]
    by_cases c0 : nz nw d = 0
    · rw [if_neg (by simp [c0, pb]; omega), if_pos c0]; exact ⟨_, _, _, rfl, rfl⟩
    · rw [if_pos (by simp [c0, pb]), if_neg c0]
      unfold F_X3_ticksTillRunning F_X0_copyFrom F_X3_playTillRunning F_X10_whenNow
      obtain ⟨a, a1, a2⟩ := aside_L (nw := nw) (as_ := as_)
      obtain ⟨k1, k2⟩ := cpyR (fa := fa) hm hr
      obtain ⟨r, f', w, g', b1, b2, b3, b4⟩ := play_when (fa0 := va_cpy fr fa 0 0 98) (fr0 := fr) (nw0 := nw) (z2 := 200) hc (by omega) hd' (le_rfl32 _) 201 0 1000 1000 u (va_cpy fr fa 0 0 98) nw (by omega) (by omega) (by omega) k1 hi hu (k2.trans e1) e2
      have ew : r = w := by
        rcases b4 with ⟨q1, q2⟩ | ⟨x, q1, q2, q3, ⟨q4, q5⟩ | ⟨q4, q5⟩⟩
        · rw [q1, q2]
        · rw [q3, q5]
        · rw [show (200 : Int32) = nI 200 from rfl, pLt (by omega) (by omega)] at q4; omega
      rw [pBs, show FL_X3_playTillRunning_2 (va_cpy fr fa 0 0 98) fr (nI m) ru fp (nI d) 200 1000 0 (va_cpy fr fa 0 0 98) = _ from b1, pBs, pBs, a1, pBs, show FL_X10_whenNow_2 (nI m) ru td nw (nI d) 1000 0 nw = _ from b2, pBs, bring_eq a2 b3, pBs]
      exact ⟨r, f', a, rfl, by rw [ew]⟩
theorem lost_sim {fr fa nw as_ : Nat → Int32} {z1 : Int32} (hc : Cx m t ru fp td) (hr : Rl m fr nw) (hi : iU m ru (tT m td) (nz nw)) : ∃ r fa' as', F_X9_lost (nI m) ru fp fr fa z1 = some (r, fa') ∧ F_X10_lost (nI m) ru td nw as_ z1 = some (r, nw, as') := by
  have hm := hc.1
  unfold F_X9_lost F_X10_lost
  rw [cHas hm, pBs, rDev, pBs]
  by_cases hd : pb (zDev m z1) = 0
  · rw [if_pos hd, if_pos hd]; exact ⟨_, _, _, rfl, rfl⟩
  · rw [if_neg hd, if_neg hd]
    obtain ⟨d, hd', rfl⟩ := dev_c hm hd
    rw [pA72, pIx (by omega) (by omega), pIx (by omega) (by omega), pCl (by omega)]
    have ef : fr (72 + d) = nz nw (72 + d) := by rw [← hr.1]; exact (if_pos (by omega)).symm
    have eg : nw (72 + d) = nz nw (72 + d) := (if_pos (by omega)).symm
    rw [ef, eg]
    have h01 := (hi.1.1.2.1 d hd').2.2.2.2.2.2.2.2
    by_cases c1 : nz nw (72 + d) = 1
    · rw [if_pos c1, if_neg (by rw [c1]; decide)]
      unfold F_X3_lostWithout F_X0_copyFrom
      obtain ⟨k1, k2⟩ := cpyR (fa := fa) hm hr
      obtain ⟨f, g, a1, a2, a3, -, -, -, a4⟩ := sup_sim hc k1 hi hd'
      obtain ⟨a, b1, b2⟩ := aside_L (nw := nw) (as_ := as_)
      rw [pBs, a1, pBs, cAll hm, pBs, cAll hm, pBs, pBs, b1, pBs, rThose hm, pBs, a2, pBs, rThose hm, pBs, bring_eq b2 a4, pBs, hr.1, a3.1]
      exact ⟨_, _, _, rfl, rfl⟩
    · rw [if_neg c1, if_pos (h01.resolve_right c1)]; exact ⟨_, _, _, rfl, rfl⟩
theorem behind_sim {fa0 fr0 nw0 : Nat → Int32} {q : Nat} {z2 : Int32} (hc : Cx m t ru fp td) (h0 : 0 < m) (hq : q ≤ 200) : ∀ (k j n n' u : Nat) (f g : Nat → Int32), j + k = q → k < n → k < n' → Rl m f g → iU m ru (tT m td) (nz g) → u + k ≤ 9999 → f 96 = nI u → g 96 = nI u → ∃ f' r g', FL_X3_allBehind_13 fa0 fr0 (nI m) ru fp (nI q) z2 n (nI j) f = some (pSet (fun d => decide (nz g' d = z2)) m, f') ∧ FL_X10_ticks_2 (nI m) ru td nw0 (nI q) n' (nI j) g = some (r, g') ∧ kD g g'
  | k, j, 0, n', u, f, g, _, h, _, _, _, _, _, _ => absurd h (by omega)
  | k, j, n + 1, 0, u, f, g, _, _, h, _, _, _, _, _ => absurd h (by omega)
  | 0, j, n + 1, n' + 1, u, f, g, h1, _, _, hr, hi, _, _, _ => by
    obtain rfl : j = q := by omega
    rw [FL_X3_allBehind_13, if_pos (le_rfl32 _), cAll hc.1, pBs, FL_X10_ticks_2, if_pos (le_rfl32 _), rThose hc.1, pBs, pBits hc.1, pBs, hr.1]
    exact ⟨_, _, _, rfl, rfl, fun _ _ => rfl⟩
  | k + 1, j, n + 1, n' + 1, u, f, g, h1, h2, h3, hr, hi, hu, e1, e2 => by
    obtain ⟨f', g', a1, a2, a3, a4, a5, a6, a7, -⟩ := tick_u hc h0 hr hi (by omega) e1 e2
    rw [FL_X3_allBehind_13, if_neg (by rw [pLe (by omega) (by omega)]; omega), a1, pBs, pS1, FL_X10_ticks_2, if_neg (by rw [pLe (by omega) (by omega)]; omega), a2, pBs, pS1]
    obtain ⟨f'', r, g'', b1, b2, b3⟩ := behind_sim (fa0 := fa0) (fr0 := fr0) (nw0 := nw0) (z2 := z2) hc h0 hq k (j + 1) n n' (u + 1) f' g' (by omega) (by omega) (by omega) a3 a4 (by omega) a5 a6
    exact ⟨f'', r, g'', b1, b2, fun x hx => (b3 x hx).trans (a7 x hx)⟩
theorem ahead_sim {fr fa nw as_ : Nat → Int32} {z1 z2 : Int32} {u : Nat} (hc : Cx m t ru fp td) (hr : Rl m fr nw) (hi : iU m ru (tT m td) (nz nw)) (hu : u ≤ 9999) (e1 : fr 96 = nI u) (e2 : nw 96 = nI u) : ∃ r fa' as', F_X9_ahead (nI m) ru fp fr fa z1 z2 = some (r, fa') ∧ F_X10_ahead_ (nI m) ru td nw as_ z1 z2 = some (r, nw, as') := by
  have hm := hc.1
  unfold F_X9_ahead F_X10_ahead_ F_X5_isTold
  rw [rTree hm, pBs, rIn, pBs, rIn, pBs]
  by_cases m0 : m = 0
  · subst m0; exact ⟨_, _, _, rfl, rfl⟩
  · have hm0 : pb (decide (0 < m)) = 1 := by rw [decide_eq_true (by omega)]; rfl
    rw [if_neg (by rw [pLe0 (by omega)]; exact m0), pBs, hm0, if_neg (show ¬ (1 : Int32) = 0 from by decide), if_neg (show ¬ (1 : Int32) = 0 from by decide)]
    by_cases c1 : z1 < 0
    · rw [if_pos c1, if_pos (show pb (!decide (z1 < 0) && !decide (200 < z1)) = 0 from by simp [c1, pb])]; exact ⟨_, _, _, rfl, rfl⟩
    · rw [if_neg c1]
      by_cases c2 : 200 < z1
      · rw [if_pos c2, if_pos (show pb (!decide (z1 < 0) && !decide (200 < z1)) = 0 from by simp [c2, pb])]; exact ⟨_, _, _, rfl, rfl⟩
      · rw [if_neg c2, if_neg (show ¬ pb (!decide (z1 < 0) && !decide (200 < z1)) = 0 from by simp [c1, c2, pb])]
        obtain ⟨q, hq, rfl⟩ := nI_of c1
        have hq2 : q ≤ 200 := by rw [show (200 : Int32) = nI 200 from rfl, pLt (by omega) hq] at c2; omega
        have zc : (z2 = 0 ∨ z2 = 1) ∨ (z2 ≠ 0 ∧ z2 ≠ 1) := by
          by_cases a : z2 = 0
          · exact Or.inl (Or.inl a)
          · by_cases b : z2 = 1
            · exact Or.inl (Or.inr b)
            · exact Or.inr ⟨a, b⟩
        have hp : (pb (!decide (z2 < 0) && !decide (1 < z2)) = 0) ↔ (z2 ≠ 0 ∧ z2 ≠ 1) := by
          rcases zc with (rfl | rfl) | ⟨a, b⟩
          · simp [pb]
          · simp [pb]
          · refine ⟨fun _ => ⟨a, b⟩, fun _ => ?_⟩
            have z0 : (0 : Int32).toInt = 0 := by decide
            have z1 : (1 : Int32).toInt = 1 := by decide
            have : z2 < 0 ∨ 1 < z2 := by
              rw [q_lt, q_lt, z0, z1]
              have na : z2.toInt ≠ 0 := fun h => a ((q_eq _ _).mpr (by rw [h, z0]))
              have nb : z2.toInt ≠ 1 := fun h => b ((q_eq _ _).mpr (by rw [h, z1]))
              omega
            rcases this with h | h <;> simp [h, pb]
        by_cases zz : z2 ≠ 0 ∧ z2 ≠ 1
        · rw [if_neg zz.1, if_neg zz.2, if_pos (hp.mpr zz)]; exact ⟨_, _, _, rfl, rfl⟩
        · rw [if_neg (fun w => zz (hp.mp w)), e1, e2]
          have eadd : (nI u : Int32) + nI q = nI (u + q) := nI_add u q
          rw [eadd]
          have hle : (nI (u + q) ≤ (9999 : Int32)) = (u + q ≤ 9999) := pLe (b := 9999) (by omega) (by omega)
          by_cases cu : u + q ≤ 9999
          · have cu' : nI (u + q) ≤ (9999 : Int32) := by rw [hle]; exact cu
            simp only [if_pos cu']
            obtain ⟨k1, k2⟩ := cpyR (fa := fa) hm hr
            obtain ⟨a, b1, b2⟩ := aside_L (nw := nw) (as_ := as_)
            have key := fun z => behind_sim (fa0 := fa) (fr0 := fr) (nw0 := nw) (z2 := z) hc (by omega) hq2 q 0 1000 1000 u (va_cpy fr fa 0 0 98) nw (by omega) (by omega) (by omega) k1 hi (by omega) (k2.trans e1) e2
            unfold F_X3_allBehind F_X0_copyFrom F_X10_ticks
            by_cases c0 : z2 = 0
            · obtain ⟨f', r, g', d1, d2, d3⟩ := key 6
              rw [if_pos c0, if_pos c0, pBs, show FL_X3_allBehind_13 fa fr (nI m) ru fp (nI q) 6 1000 0 (va_cpy fr fa 0 0 98) = _ from d1, pBs, b1, pBs, show FL_X10_ticks_2 (nI m) ru td nw (nI q) 1000 0 nw = _ from d2, pBs, if_pos c0, rThose hm, pBs, bring_eq b2 d3, pBs]
              exact ⟨_, _, _, rfl, rfl⟩
            · have c1' : z2 = 1 := Decidable.byContradiction (fun w => zz ⟨c0, w⟩)
              obtain ⟨f', r, g', d1, d2, d3⟩ := key 7
              rw [if_neg c0, if_pos c1', if_neg c0, pBs, show FL_X3_allBehind_13 fa fr (nI m) ru fp (nI q) 7 1000 0 (va_cpy fr fa 0 0 98) = _ from d1, pBs, b1, pBs, show FL_X10_ticks_2 (nI m) ru td nw (nI q) 1000 0 nw = _ from d2, pBs, if_neg c0, rThose hm, pBs, bring_eq b2 d3, pBs]
              exact ⟨_, _, _, rfl, rfl⟩
          · have cu' : ¬ nI (u + q) ≤ (9999 : Int32) := by rw [hle]; exact cu
            simp only [if_neg cu']
            refine ⟨-1, fa, as_, ?_, rfl⟩
            split
            · rfl
            · split <;> rfl
end
end

section
/-! who runs after a tick; the order side by side -/
theorem u0 {f : Nat → Int32} {d e : Nat} {v : Int32} (hd : d < 8) (he : e < 8) (hn : e ≠ d) : nQ f d e = f e := by
  have := nQ_same (N := f) (d := d) (e := e) (j := 0) hd he hn (by decide)
  simpa using this
theorem nSt_6 {f : Nat → Int32} {d e : Nat} (hd : d < 8) (he : e < 8) : nSt d f e = 6 ↔ f e = 6 := by
  unfold nSt
  by_cases c : f d = 1
  · rw [if_pos c]
    by_cases ce : e = d
    · subst ce
      have h1 : ¬ f e = 6 := by rw [c]; decide
      split
      · rw [pUn (by omega)]
      · rw [nQ_0 hd]; exact ⟨fun q => absurd q (by decide), fun q => absurd q h1⟩
    · split
      · rw [pUn (by omega)]
      · rw [u0 (v := 0) hd he ce, pUn (by omega)]
  · rw [if_neg c]
theorem nSettle_6 {m : Nat} {N : Nat → Int32} (hm : m ≤ 8) : ∀ e, e < 8 → (nSettle m N e = 6 ↔ N e = 6) := by
  have := pF_inv (g := nSt) (fun _ a => ∀ e, e < 8 → (a e = 6 ↔ N e = 6)) m 0 N (fun i a _ hi hI e he => (nSt_6 (by omega) he).trans (hI e he)) (fun _ _ => Iff.rfl)
  exact this
/-- from one state to the next the ones that run stay, and only d may join them -/
def s6d (m d : Nat) (N N' : Nat → Int32) : Prop := (∀ e, e < m → N e = 6 → N' e = 6) ∧ ∀ e, e < m → e ≠ d → N' e = 6 → N e = 6
theorem s6d_one {m d : Nat} {N N' : Nat → Int32} (h6 : N d ≠ 6) (h : ∀ e, e < m → e ≠ d → N' e = N e) : s6d m d N N' :=
  ⟨fun e he q => by
    by_cases c : e = d
    · subst c; exact absurd q h6
    · rw [h e he c]; exact q, fun e he c q => by rw [h e he c] at q; exact q⟩
theorem clm6 {m : Nat} {N : Nat → Int32} {d : Nat} (hm : m ≤ 8) (hC : wC m N) (hd : d < m) (h6 : N d ≠ 6) : ∀ (k c : Nat), (c = 8 ∨ (c < m ∧ N c = 6)) → zCl N (fun h => decide (h = nI d)) k (nI c) ≠ nI d
  | 0, c, hc => fun q => by
    have e : c = d := (nI_eq (by omega) (by omega)).mp q
    rcases hc with hc | ⟨hc, hc6⟩
    · omega
    · rw [e] at hc6; exact h6 hc6
  | k + 1, c, hc => by
    by_cases c8 : c = 8
    · rw [c8, zCl_8]; intro q
      have e : 8 = d := (nI_eq (by omega) (by omega)).mp q
      omega
    · obtain ⟨hcm, hc6⟩ := hc.resolve_left c8
      rw [zCl_s (by omega)]
      by_cases ce : nI c = nI d
      · have e : c = d := (nI_eq (by omega) (by omega)).mp ce
        rw [e] at hc6; exact absurd hc6 h6
      · rw [if_neg (by simpa using ce)]
        rcases hC c hcm (Or.inr (Or.inr (Or.inr hc6))) with q | ⟨h, hh, e1, e2⟩
        · rw [q]; exact clm6 hm hC hd h6 k 8 (Or.inl rfl)
        · rw [e1]; exact clm6 hm hC hd h6 k h (Or.inr ⟨hh, e2⟩)
theorem hang6 {m : Nat} {N : Nat → Int32} {d e : Nat} (hm : m ≤ 8) (hC : wC m N) (hd : d < m) (h6 : N d ≠ 6) (he : e < m) (e6 : N e = 6) : zHang N e (nI d) = false := by
  unfold zHang
  rw [decide_eq_false]
  rcases hC e he (Or.inr (Or.inr (Or.inr e6))) with q | ⟨h, hh, e1, e2⟩
  · rw [q]; exact clm6 hm hC hd h6 8 8 (Or.inl rfl)
  · rw [e1]; exact clm6 hm hC hd h6 8 h (Or.inr ⟨hh, e2⟩)
theorem s6d_refuse {m : Nat} {T : Nat → Nat → Int32} {N : Nat → Int32} {d : Nat} {why : Int32} (hm : m ≤ 8) (h : iT m T N) (hd : d < m) (h0 : N d ≠ 0) (h6 : N d ≠ 6) : s6d m d N (nRefuse m N d why) := by
  refine ⟨fun e he q => ?_, fun e he _ q => (nRefuse_k6 hm hd e he q).1⟩
  have hI := nRefuse_I (why := why) hm hd h.2.2 ⟨h.1.1, h.1.2.1⟩ h0
  have ne : e ≠ d := fun w => h6 (by rw [← w]; exact q)
  have s0 : nRef0 N d why e = N e := by
    have := nRef0_same (N := N) (why := why) (d := d) (e := e) (j := 0) (by omega) (by omega) ne (by decide)
    simpa using this
  have hg : zHang (nRef0 N d why) e (nI d) = false := by
    rw [zHang_congr (N := N) (fun c hc => ?_) (by omega)]
    · exact hang6 hm h.1.2.2 hd h6 he q
    · by_cases cd : c = d
      · subst cd; simp (disch := omega) only [nRef0, nLow, pUn]
      · have := nRef0_same (N := N) (why := why) (d := d) (e := c) (j := 4) (by omega) (by omega) cd (by decide)
        simpa using this
  rw [(hI.2.2.2.1 e he).2 (fun w => by rw [hg] at w; exact absurd w.2.1 (by decide)), s0]; exact q
theorem s6d_q {m : Nat} {N : Nat → Int32} {d : Nat} (hm : m ≤ 8) (hd : d < m) (h6 : N d ≠ 6) : s6d m d N (nQ N d) := s6d_one h6 (fun e he c => u0 (v := 0) (by omega) (by omega) c)
theorem s6d_fail {m : Nat} {R : Nat → Int32} {T : Nat → Nat → Int32} {N : Nat → Int32} {d : Nat} {v : Int32} (hm : m ≤ 8) (h : iT m T N) (hd : d < m) (h0 : N d ≠ 0) (h6 : N d ≠ 6) : s6d m d N (nFail m R N d v) := by
  unfold nFail
  split
  · exact s6d_q hm hd h6
  · exact s6d_refuse hm h hd h0 h6
theorem s6d_go {m t : Nat} {R : Nat → Int32} {T : Nat → Nat → Int32} {N : Nat → Int32} {d : Nat} {v : Int32} (hm : m ≤ 8) (h : iT m T N) (hd : d < m) (hb : zBsy N d = true) : s6d m d N (nGo m t R T N d v) := by
  have hk := (bsy_c (h.1.2.1 d hd).1).mp hb
  have h0 : N d ≠ 0 := by rcases hk with q | q | q <;> rw [q] <;> decide
  have h6 : N d ≠ 6 := by rcases hk with q | q | q <;> rw [q] <;> decide
  unfold nGo
  split
  · exact s6d_one h6 (fun e he c => by rw [pUn c, pUn (by omega)])
  · split
    · split
      · exact s6d_one h6 (fun e he c => pUn c)
      · exact s6d_fail hm h hd h0 h6
    · split
      · unfold nJudge
        split
        · exact s6d_one h6 (fun e he c => by simp (disch := omega) only [nConf, nLow, pUn])
        · exact s6d_refuse hm h hd h0 h6
      · exact s6d_fail hm h hd h0 h6
theorem nTail_6 {m : Nat} {R N : Nat → Int32} (hm : m ≤ 8) (hz : nz N = N) : ∀ e, e < m → (nTail m R N e = 6 ↔ N e = 6) := fun e he => by
  unfold nTail
  rw [hz]
  split
  · split
    · exact Iff.rfl
    · rename_i hx
      rcases next_q (m := m) (N := N) with q | ⟨q, hq, e1, q2, -⟩
      · exact absurd q hx
      · rw [e1, pCl (by omega)]
        by_cases c : e = q
        · subst c
          have : upd (nLow N e 3) (8 + e) (R 2) e = 3 := by simp only [nLow, upd]; grind
          rw [this, q2]; decide
        · have : upd (nLow N q 3) (8 + q) (R 2) e = N e := by simp (disch := omega) only [nLow, pUn]
          rw [this]
  · exact Iff.rfl
theorem tk6 {m t : Nat} {R : Nat → Int32} {T : Nat → Nat → Int32} {N : Nat → Int32} {v : Int32} (hm : m ≤ 8) (hT : wT m T) (h : iT m T N) : (∀ e, e < m → N e = 6 → zTk m t R T N v e = 6) ∧ ∀ e, e < m → zTk m t R T N v e = 6 → N e = 6 ∨ zS m N = nI e := by
  have hs := nSettle_6 (N := N) hm
  have hg := zGone_iT (t := t) (R := R) (v := v) hm hT h
  have ht := nTail_6 (R := R) (N := zGone m t R T N v) hm hg.2.2
  have hi := nSettle_iT hm h
  unfold zTk
  rcases zS_c m N with q | ⟨d, hd, q, hb⟩
  · have e : zGone m t R T N v = nSettle m N := by unfold zGone; rw [if_pos q]
    rw [e] at ht ⊢
    exact ⟨fun e he w => (ht e he).mpr ((hs e (by omega)).mpr w), fun e he w => Or.inl ((hs e (by omega)).mp ((ht e he).mp w))⟩
  · have e : zGone m t R T N v = nGo m t R T (nSettle m N) d v := by unfold zGone; rw [q, if_neg (by rw [pNm (by omega)]; exact id), pCl (by omega)]
    rw [e] at ht ⊢
    obtain ⟨g1, g2⟩ := s6d_go (t := t) (R := R) (v := v) hm hi hd hb
    refine ⟨fun e he w => (ht e he).mpr (g1 e he ((hs e (by omega)).mpr w)), fun e he w => ?_⟩
    by_cases c : e = d
    · exact Or.inr (by rw [q, c])
    · exact Or.inl ((hs e (by omega)).mp (g2 e he c ((ht e he).mp w)))
/-! the order -/
def s6 (m : Nat) (N : Nat → Int32) : Int32 := pSet (fun d => decide (N d = 6)) m
def n6 (m : Nat) (N : Nat → Int32) : Nat := pNum (fun d => decide (N d = 6)) m
theorem pSet_none {w : Nat → Bool} {m : Nat} (h : ∀ d, d < m → w d = false) : pSet w m = 0 := by
  have := pF_inv (g := pSb w) (fun _ a => a = 0) m 0 0 (fun i a _ hi e => by rw [e]; unfold pSb; rw [h i (by omega)]; simp) rfl
  exact this
theorem one_ntz : ∀ (e : Fin 8) (m : Fin 9), e.1 < m.1 → F_J6_numberOfTrailingZeros_0f7a4 (pSet (fun d => decide (d = e.1)) m.1) = some (nI e.1) ∧ pSet (fun d => decide (d = e.1)) m.1 ≠ 0 := by decide +kernel
section
variable {m t : Nat} {ru fp td : Nat → Int32}
theorem ord_0 {nw0 as0 od0 g a : Nat → Int32} {z1 x2 x4 : Int32} {w : Nat → Bool} {c : Nat} {kk : Int32 → Int32 → Int32 → (Nat → Int32) → (Nat → Int32) → (Nat → Int32) → Option (Int32 × (Nat → Int32) × (Nat → Int32) × (Nat → Int32))} (hm : m ≤ 8) : ∀ (k j n : Nat) (od : Nat → Int32), j + k = m → k < n → (∀ d, j ≤ d → d < m → w d = false) → FL_X10_order_65 (nI m) ru td nw0 as0 od0 z1 kk n x2 (nI c) x4 (pSet w m) (nI j) g a od = kk (x2 ||| pSet w m) (nI c) (x4 + 1) g a od
  | k, j, 0, od, _, h, _ => absurd h (by omega)
  | 0, j, n + 1, od, h1, _, _ => by
    obtain rfl : j = m := by omega
    rw [FL_X10_order_65, if_pos (le_rfl32 _)]
  | k + 1, j, n + 1, od, h1, h2, h3 => by
    rw [FL_X10_order_65, if_neg (by rw [pLe (by omega) (by omega)]; omega), pBit w m j hm (by omega), pBs, if_pos (by simp [h3 j (by omega) (by omega), pb]), pS1]
    exact ord_0 hm k (j + 1) n od (by omega) (by omega) (fun d a b => h3 d (by omega) b)
theorem ord_1 {nw0 as0 od0 g a : Nat → Int32} {z1 x2 x4 : Int32} {w : Nat → Bool} {c e : Nat} {kk : Int32 → Int32 → Int32 → (Nat → Int32) → (Nat → Int32) → (Nat → Int32) → Option (Int32 × (Nat → Int32) × (Nat → Int32) × (Nat → Int32))} (hm : m ≤ 8) (hc8 : c < 8) (he : e < m) (hw : ∀ d, d < m → (w d = true ↔ d = e)) : ∀ (k j n : Nat) (od : Nat → Int32), j + k = m → k < n → j ≤ e → FL_X10_order_65 (nI m) ru td nw0 as0 od0 z1 kk n x2 (nI c) x4 (pSet w m) (nI j) g a od = kk (x2 ||| pSet w m) (nI (c + 1)) (x4 + 1) g a (upd od c (nI e))
  | k, j, 0, od, _, h, _ => absurd h (by omega)
  | 0, j, n + 1, od, h1, _, h3 => absurd h3 (by omega)
  | k + 1, j, n + 1, od, h1, h2, h3 => by
    have hjm : j < m := by omega
    rw [FL_X10_order_65, if_neg (by rw [pLe (by omega) (by omega)]; omega), pBit w m j hm (by omega), pBs]
    by_cases ce : j = e
    · have hwj : w j = true := (hw j hjm).mpr ce
      rw [if_neg (by simp [hwj, hjm, pb]), pIx (by omega) (by omega), pCl (by omega), pS1, pS1, ord_0 hm k (j + 1) n _ (by omega) (by omega) (fun d a b => by
        cases h : w d with
        | false => rfl
        | true => have := (hw d b).mp h; omega), ce]
    · have hwj : w j = false := by
        cases h : w j with
        | false => rfl
        | true => exact absurd ((hw j hjm).mp h) ce
      rw [if_pos (by simp [hwj, pb]), pS1]
      exact ord_1 hm hc8 he hw k (j + 1) n od (by omega) (by omega) (by omega)
/-- what the reference answers at the end -/
def ordF (z1 : Int32) (c : Nat) (nw a od : Nat → Int32) : Option (Int32 × (Nat → Int32) × (Nat → Int32) × (Nat → Int32)) := (F_X10_in z1 0 (nI c - 1)).bind fun o_11 => (if o_11 = 0 then some ((-1 : Int32), nw, a, od) else (if z1 < 0 ∨ 8 ≤ (z1).toNatClampNeg then none else some ((od (z1).toNatClampNeg), nw, a, od)))
theorem ord_fin {nw a od : Nat → Int32} {c i : Nat} (hc : c ≤ 8) (hi : i < 8) : ordF (nI i) c nw a od = some (if i < c then od i else -1, nw, a, od) := by
  unfold ordF
  have h1 : ¬ nI i < 0 := nI_pos (by omega)
  have h2 : (nI c - 1 < nI i) ↔ c ≤ i := by
    rw [q_lt, show (nI c : Int32) - 1 = nI c - nI 1 from rfl, pk_sub_toInt (by omega) (by omega), nI_toInt (by omega)]; omega
  rw [rIn, pBs, pIx (by omega) (by omega), pCl (by omega)]
  by_cases cc : c ≤ i
  · rw [if_pos (by simp [h2.mpr cc, pb]), if_neg (by omega)]
  · have h3 : ¬ nI c - 1 < nI i := fun q => cc (h2.mp q)
    rw [if_neg (by simp [h1, h3, pb]), if_pos (by omega)]
theorem ord_bad {nw a od : Nat → Int32} {c : Nat} {z1 : Int32} (hc : c ≤ 8) (hz : z1 < 0 ∨ 8 ≤ z1) : ordF z1 c nw a od = some (-1, nw, a, od) := by
  unfold ordF
  rw [rIn, pBs, if_pos]
  rcases hz with h | h
  · simp [h, pb]
  · have : nI c - 1 < z1 := by
      rw [q_le, show (8 : Int32).toInt = 8 from by decide] at h
      rw [q_lt, show (nI c : Int32) - 1 = nI c - nI 1 from rfl, pk_sub_toInt (by omega) (by omega)]; omega
    simp [this, pb]
theorem ord_e {nw nw0 as0 od0 a g od : Nat → Int32} {z1 x2 : Int32} {u j c n : Nat} (ha : ∀ k, k < 98 → a k = nw k) (hk : kD nw g) (e2 : g 96 = nI u) (h : j = 200 ∨ (j < 200 ∧ u = 9999)) : FL_X10_order_25 (nI m) ru td nw0 as0 od0 z1 (n + 1) x2 (nI c) (nI j) g a od = ordF z1 c nw a od := by
  rcases h with rfl | ⟨hj, rfl⟩
  · rw [FL_X10_order_25, if_pos (show (200 : Int32) ≤ nI 200 from by decide), bring_eq ha hk, pBs]; rfl
  · rw [FL_X10_order_25, if_neg (by rw [show (200 : Int32) = nI 200 from rfl, pLe (by omega) (by omega)]; omega), if_pos (by rw [e2]; decide), bring_eq ha hk, pBs]; rfl
theorem ord_step {nw0 as0 od0 a g g' od : Nat → Int32} {z1 v : Int32} {u j c n : Nat} (hc : Cx m t ru fp td) (hi : iU m ru (tT m td) (nz g)) (hu : u < 9999) (e2 : g 96 = nI u) (hj : j < 200) (hg : F_X10_tickNow (nI m) ru td g = some g') (hz : nz g' = zTk m t ru (tT m td) (nz g) v) (hcn : c ≤ n6 m (nz g)) :
    ((∀ d, d < m → (nz g' d = 6 ↔ nz g d = 6)) ∧ FL_X10_order_25 (nI m) ru td nw0 as0 od0 z1 (n + 1) (s6 m (nz g)) (nI c) (nI j) g a od = FL_X10_order_25 (nI m) ru td nw0 as0 od0 z1 n (s6 m (nz g')) (nI c) (nI (j + 1)) g' a od ∧ c ≤ n6 m (nz g')) ∨
    (∃ e, e < m ∧ nz g e ≠ 6 ∧ nz g' e = 6 ∧ (∀ d, d < m → d ≠ e → (nz g' d = 6 ↔ nz g d = 6)) ∧ FL_X10_order_25 (nI m) ru td nw0 as0 od0 z1 (n + 1) (s6 m (nz g)) (nI c) (nI j) g a od = FL_X10_order_25 (nI m) ru td nw0 as0 od0 z1 n (s6 m (nz g')) (nI (c + 1)) (nI (j + 1)) g' a (upd od c (nI e)) ∧ c + 1 ≤ n6 m (nz g')) := by
  have hm := hc.1
  obtain ⟨k1, k2⟩ := tk6 (t := t) (R := ru) (v := v) hm hc.2.2.1 hi.1
  rw [← hz] at k1 k2
  have hw : FL_X10_order_25 (nI m) ru td nw0 as0 od0 z1 (n + 1) (s6 m (nz g)) (nI c) (nI j) g a od = FL_X10_order_65 (nI m) ru td nw0 as0 od0 z1 (fun y0 y1 y2 y3 y4 y5 => FL_X10_order_25 (nI m) ru td nw0 as0 od0 z1 n y0 y1 y2 y3 y4 y5) 1000 (s6 m (nz g)) (nI c) (nI j) (pSet (fun d => decide (nz g' d = 6) && !decide (nz g d = 6)) m) (nI 0) g' a od := by
    unfold s6
    rw [FL_X10_order_25, if_neg (by rw [show (200 : Int32) = nI 200 from rfl, pLe (by omega) (by omega)]; omega), if_neg (by rw [e2, show (9999 : Int32) = nI 9999 from rfl, pLe (by omega) (by omega)]; omega), hg, pBs, rThose hm, pBs, pDif hm]; rfl
  have hb : ∀ d, d < m → decide (nz g' d = 6) = (decide (nz g d = 6) || (decide (nz g' d = 6) && !decide (nz g d = 6))) := fun d hd => by
    by_cases c1 : nz g d = 6
    · simp [c1, k1 d hd c1]
    · by_cases c2 : nz g' d = 6 <;> simp [c1, c2]
  have hor : s6 m (nz g) ||| pSet (fun d => decide (nz g' d = 6) && !decide (nz g d = 6)) m = s6 m (nz g') := by
    unfold s6; rw [pSet_or]; exact pSet_congr (fun d hd => (hb d hd).symm)
  have hnum : n6 m (nz g') = n6 m (nz g) + pNum (fun d => decide (nz g' d = 6) && !decide (nz g d = 6)) m :=
    pNum_add (fun d hd => ⟨hb d hd, by by_cases c1 : nz g d = 6 <;> simp [c1]⟩)
  have hle : n6 m (nz g') ≤ m := pNum_le _ m
  by_cases hx : ∃ e, e < m ∧ nz g e ≠ 6 ∧ nz g' e = 6
  · obtain ⟨e, he, h1, h2⟩ := hx
    have hS := (k2 e he h2).resolve_left h1
    have huq : ∀ d, d < m → nz g' d = 6 → nz g d ≠ 6 → d = e := fun d hd q1 q2 => by
      have := (k2 d hd q1).resolve_left q2
      rw [hS] at this
      exact ((nI_eq (by omega) (by omega)).mp this).symm
    have hwd : ∀ d, d < m → ((decide (nz g' d = 6) && !decide (nz g d = 6)) = true ↔ d = e) := fun d hd =>
      ⟨fun q => by simp only [Bool.and_eq_true, Bool.not_eq_true', decide_eq_true_eq, decide_eq_false_iff_not] at q; exact huq d hd q.1 q.2, fun q => by subst q; simp [h1, h2]⟩
    have hp : 1 ≤ pNum (fun d => decide (nz g' d = 6) && !decide (nz g d = 6)) m := by
      have q1 := pNum_s (fun d => decide (nz g' d = 6) && !decide (nz g d = 6)) e
      rw [if_pos ((hwd e he).mpr rfl)] at q1
      have q2 := pNum_mono (fun d => decide (nz g' d = 6) && !decide (nz g d = 6)) (show e + 1 ≤ m by omega)
      omega
    refine Or.inr ⟨e, he, h1, h2, fun d hd hn => ⟨fun q => Decidable.byContradiction (fun w => hn (huq d hd q w)), k1 d hd⟩, ?_, by omega⟩
    rw [hw, ord_1 hm (by omega) he hwd m 0 1000 od (by omega) (by omega) (by omega), hor, pS1]
  · have hno : ∀ d, d < m → nz g' d = 6 → nz g d = 6 := fun d hd q => Decidable.byContradiction (fun w => hx ⟨d, hd, w, q⟩)
    refine Or.inl ⟨fun d hd => ⟨hno d hd, k1 d hd⟩, ?_, by omega⟩
    rw [hw, ord_0 hm m 0 1000 od (by omega) (by omega) (fun d _ hd => ?_), hor, pS1]
    by_cases c2 : nz g' d = 6
    · simp [hno d hd c2]
    · simp [c2]
/-- a value that no further entry changes is the answer -/
theorem ord_G {nw nw0 as0 od0 a : Nat → Int32} {z1 v0 : Int32} (I : Nat → (Nat → Int32) → Prop) (hc : Cx m t ru fp td) (h0 : 0 < m) (ha : ∀ k, k < 98 → a k = nw k) (hI : ∀ c od x, I c od → I (c + 1) (upd od c x)) (hF : ∀ c od, c ≤ 8 → I c od → ordF z1 c nw a od = some (v0, nw, a, od)) : ∀ (k j n c u : Nat) (g od : Nat → Int32), j + k = 200 → k < n → iU m ru (tT m td) (nz g) → u ≤ 9999 → g 96 = nI u → kD nw g → c ≤ n6 m (nz g) → I c od → ∃ od', FL_X10_order_25 (nI m) ru td nw0 as0 od0 z1 n (s6 m (nz g)) (nI c) (nI j) g a od = some (v0, nw, a, od')
  | k, j, 0, c, u, g, od, _, h, _, _, _, _, _, _ => absurd h (by omega)
  | 0, j, n + 1, c, u, g, od, h1, _, hi, hu, e2, hk, hcn, hi0 => by
    have hle : n6 m (nz g) ≤ m := pNum_le _ m
    have hm := hc.1
    exact ⟨od, (ord_e ha hk e2 (Or.inl (by omega))).trans (hF c od (by omega) hi0)⟩
  | k + 1, j, n + 1, c, u, g, od, h1, h2, hi, hu, e2, hk, hcn, hi0 => by
    have hle : n6 m (nz g) ≤ m := pNum_le _ m
    have hm := hc.1
    by_cases cu : u = 9999
    · exact ⟨od, (ord_e ha hk e2 (Or.inr ⟨by omega, cu⟩)).trans (hF c od (by omega) hi0)⟩
    · obtain ⟨f', g', -, a2, -, a4, -, a6, a7, v, a8⟩ := tick_u hc h0 (⟨rfl, fun _ _ _ => rfl⟩ : Rl m g g) hi (by omega) e2 e2
      have hk' : kD nw g' := fun x hx => (a7 x hx).trans (hk x hx)
      rcases ord_step (nw0 := nw0) (as0 := as0) (od0 := od0) (a := a) (od := od) (z1 := z1) (n := n) hc hi (by omega) e2 (show j < 200 by omega) a2 a8 hcn with ⟨-, b2, b3⟩ | ⟨e, -, -, -, -, b2, b3⟩
      · rw [b2]; exact ord_G I hc h0 ha hI hF k (j + 1) n c (u + 1) g' od (by omega) (by omega) a4 (by omega) a6 hk' b3 hi0
      · rw [b2]; exact ord_G I hc h0 ha hI hF k (j + 1) n (c + 1) (u + 1) g' _ (by omega) (by omega) a4 (by omega) a6 hk' b3 (hI c od _ hi0)
theorem ord_stuck {nw nw0 as0 od0 a : Nat → Int32} {i : Nat} (hc : Cx m t ru fp td) (h0 : 0 < m) (ha : ∀ k, k < 98 → a k = nw k) (hi8 : i < 8) : ∀ (k j n c u : Nat) (g od : Nat → Int32), j + k = 200 → k < n → iU m ru (tT m td) (nz g) → u ≤ 9999 → g 96 = nI u → kD nw g → c ≤ n6 m (nz g) → c ≤ i → zStill m (nz g) = true → ∃ od', FL_X10_order_25 (nI m) ru td nw0 as0 od0 (nI i) n (s6 m (nz g)) (nI c) (nI j) g a od = some (-1, nw, a, od')
  | k, j, 0, c, u, g, od, _, h, _, _, _, _, _, _, _ => absurd h (by omega)
  | 0, j, n + 1, c, u, g, od, h1, _, hi, hu, e2, hk, hcn, hci, hs => by
    exact ⟨od, (ord_e ha hk e2 (Or.inl (by omega))).trans (by rw [ord_fin (by omega) hi8, if_neg (by omega)])⟩
  | k + 1, j, n + 1, c, u, g, od, h1, h2, hi, hu, e2, hk, hcn, hci, hs => by
    by_cases cu : u = 9999
    · exact ⟨od, (ord_e ha hk e2 (Or.inr ⟨by omega, cu⟩)).trans (by rw [ord_fin (by omega) hi8, if_neg (by omega)])⟩
    · obtain ⟨f', g', -, a2, -, a4, -, a6, a7, v, a8⟩ := tick_u hc h0 (⟨rfl, fun _ _ _ => rfl⟩ : Rl m g g) hi (by omega) e2 e2
      have hk' : kD nw g' := fun x hx => (a7 x hx).trans (hk x hx)
      have es : nz g' = nz g := by rw [a8, still_tk hc.1 (nz_nz _) hs]
      rcases ord_step (nw0 := nw0) (as0 := as0) (od0 := od0) (a := a) (od := od) (z1 := nI i) (n := n) hc hi (by omega) e2 (show j < 200 by omega) a2 a8 hcn with ⟨-, b2, b3⟩ | ⟨e, -, b4, b5, -, b2, b3⟩
      · rw [b2]; exact ord_stuck hc h0 ha hi8 k (j + 1) n c (u + 1) g' od (by omega) (by omega) a4 (by omega) a6 hk' b3 hci (by rw [es]; exact hs)
      · rw [es] at b5; exact absurd b5 b4
theorem next_sim {fa0 fr0 nw nw0 as0 od0 a : Nat → Int32} {i : Nat} (hc : Cx m t ru fp td) (h0 : 0 < m) (ha : ∀ k, k < 98 → a k = nw k) (hi8 : i < 8) : ∀ (k j n n' c u : Nat) (f g od : Nat → Int32), j + k = 200 → k < n → k < n' → Rl m f g → iU m ru (tT m td) (nz g) → u ≤ 9999 → f 96 = nI u → g 96 = nI u → kD nw g → c ≤ n6 m (nz g) → c ≤ i → ∃ r f' od', FL_X3_nextToRun_15 fa0 fr0 (nI m) ru fp (nI i) n (nI c) (nI j) f = some (r, f') ∧ FL_X10_order_25 (nI m) ru td nw0 as0 od0 (nI i) n' (s6 m (nz g)) (nI c) (nI j) g a od = some (r, nw, a, od')
  | k, j, 0, n', c, u, f, g, od, _, h, _, _, _, _, _, _, _, _, _ => absurd h (by omega)
  | k, j, n + 1, 0, c, u, f, g, od, _, _, h, _, _, _, _, _, _, _, _ => absurd h (by omega)
  | 0, j, n + 1, n' + 1, c, u, f, g, od, h1, _, _, hr, hi, hu, e1, e2, hk, hcn, hci => by
    obtain rfl : j = 200 := by omega
    rw [FL_X3_nextToRun_15, if_pos (show (200 : Int32) ≤ nI 200 from by decide)]
    exact ⟨-1, f, od, rfl, (ord_e ha hk e2 (Or.inl rfl)).trans (by rw [ord_fin (by omega) hi8, if_neg (by omega)])⟩
  | k + 1, j, n + 1, n' + 1, c, u, f, g, od, h1, h2, h3, hr, hi, hu, e1, e2, hk, hcn, hci => by
    have hm := hc.1
    have hX0 : FL_X3_nextToRun_15 fa0 fr0 (nI m) ru fp (nI i) (n + 1) (nI c) (nI j) f = if u = 9999 then some (-1, f) else if zStill m (nz g) = true then some (-1, f) else (F_X0_passTick f (nI m) ru fp).bind fun o => if pSet (fun d => decide (nz o d = 6) && !decide (nz f d = 6)) m = 0 then FL_X3_nextToRun_15 fa0 fr0 (nI m) ru fp (nI i) n (nI c) (nI (j + 1)) o else if (nI c : Int32) = nI i then (F_J6_numberOfTrailingZeros_0f7a4 (pSet (fun d => decide (nz o d = 6) && !decide (nz f d = 6)) m)).bind fun q => some (q, o) else FL_X3_nextToRun_15 fa0 fr0 (nI m) ru fp (nI i) n (nI (c + 1)) (nI (j + 1)) o := by
      rw [FL_X3_nextToRun_15, if_neg (by rw [show (200 : Int32) = nI 200 from rfl, pLe (by omega) (by omega)]; omega), over_c hu e1, pBs, cStill hm (by rw [hr.1]; exact hi.1.1.h hm) (by rw [hr.1]; exact hi.1.1.f), pBs, cAll hm, pBs, hr.1]
      by_cases cu : u = 9999
      · rw [if_neg (by simp [cu, pb]), if_pos cu]
      · rw [if_pos (by simp [cu, pb]), if_neg cu]
        by_cases cs : zStill m (nz g) = true
        · rw [if_neg (by simp [cs, pb]), if_pos cs]
        · rw [if_pos (by simp [cs, pb]), if_neg cs]
          cases F_X0_passTick f (nI m) ru fp with
          | none => rfl
          | some o =>
            rw [pBs, pBs, cAll hm, pBs, pDif hm, pS1, pS1]
            by_cases cd : pSet (fun d => decide (nz o d = 6) && !decide (nz g d = 6)) m = 0
            · rw [if_pos cd, if_pos cd, if_pos cd, show (nI c : Int32) + 0 = nI c from nI_add c 0]
            · rw [if_neg cd, if_neg cd, if_neg cd]
    by_cases cu : u = 9999
    · rw [hX0, if_pos cu]
      exact ⟨-1, f, od, rfl, (ord_e ha hk e2 (Or.inr ⟨by omega, cu⟩)).trans (by rw [ord_fin (by omega) hi8, if_neg (by omega)])⟩
    · by_cases cs : zStill m (nz g) = true
      · obtain ⟨od', q⟩ := ord_stuck (nw0 := nw0) (as0 := as0) (od0 := od0) hc h0 ha hi8 (k + 1) j (n' + 1) c u g od h1 h3 hi hu e2 hk hcn hci cs
        rw [hX0, if_neg cu, if_pos cs]
        exact ⟨-1, f, od', rfl, q⟩
      · obtain ⟨f', g', a1, a2, a3, a4, a5, a6, a7, v, a8⟩ := tick_u hc h0 hr hi (by omega) e1 e2
        have hk' : kD nw g' := fun x hx => (a7 x hx).trans (hk x hx)
        rw [hX0, if_neg cu, if_neg cs, a1, pBs, a3.1, hr.1]
        rcases ord_step (nw0 := nw0) (as0 := as0) (od0 := od0) (a := a) (od := od) (z1 := nI i) (n := n') hc hi (by omega) e2 (show j < 200 by omega) a2 a8 hcn with ⟨b1, b2, b3⟩ | ⟨e, he, b4, b5, b6, b2, b3⟩
        · rw [if_pos (pSet_none (fun d hd => by
            by_cases c2 : nz g' d = 6
            · simp [(b1 d hd).mp c2]
            · simp [c2])), b2]
          exact next_sim hc h0 ha hi8 k (j + 1) n n' c (u + 1) f' g' od (by omega) (by omega) (by omega) a3 a4 (by omega) a5 a6 hk' b3 hci
        · have hp : pSet (fun d => decide (nz g' d = 6) && !decide (nz g d = 6)) m = pSet (fun d => decide (d = e)) m := pSet_congr (fun d hd => by
            by_cases cd : d = e
            · subst cd; simp [b4, b5]
            · by_cases c2 : nz g' d = 6
              · simp [cd, (b6 d hd cd).mp c2]
              · simp [cd, c2])
          obtain ⟨n1, n2⟩ := one_ntz ⟨e, by omega⟩ ⟨m, by omega⟩ he
          rw [hp, if_neg n2, b2]
          by_cases ci : c = i
          · subst ci
            rw [if_pos rfl, show F_J6_numberOfTrailingZeros_0f7a4 (pSet (fun d => decide (d = e)) m) = some (nI e) from n1, pBs]
            obtain ⟨od', q⟩ := ord_G (nw0 := nw0) (as0 := as0) (od0 := od0) (z1 := nI c) (v0 := nI e) (fun c' od => c < c' ∧ od c = nI e) hc h0 ha (fun c' od x hI => ⟨by omega, by rw [pUn (by omega)]; exact hI.2⟩) (fun c' od h8 hI => by rw [ord_fin h8 hi8, if_pos hI.1, hI.2]) k (j + 1) n' (c + 1) (u + 1) g' (upd od c (nI e)) (by omega) (by omega) a4 (by omega) a6 hk' b3 ⟨by omega, pUs⟩
            exact ⟨nI e, f', od', rfl, q⟩
          · rw [if_neg (fun q => ci ((nI_eq (by omega) (by omega)).mp q))]
            exact next_sim hc h0 ha hi8 k (j + 1) n n' (c + 1) (u + 1) f' g' _ (by omega) (by omega) (by omega) a3 a4 (by omega) a5 a6 hk' b3 (by omega)
theorem order_sim {fr fa nw as_ od : Nat → Int32} {z1 : Int32} {u : Nat} (hc : Cx m t ru fp td) (hr : Rl m fr nw) (hi : iU m ru (tT m td) (nz nw)) (hu : u ≤ 9999) (e1 : fr 96 = nI u) (e2 : nw 96 = nI u) : ∃ r fa' as' od', F_X9_order (nI m) ru fp fr fa z1 = some (r, fa') ∧ F_X10_order (nI m) ru td nw as_ od z1 = some (r, nw, as', od') := by
  have hm := hc.1
  unfold F_X9_order F_X10_order F_X5_isTold
  rw [rTree hm, pBs]
  by_cases m0 : m = 0
  · subst m0; exact ⟨_, _, _, _, rfl, rfl⟩
  · have hm0 : pb (decide (0 < m)) = 1 := by rw [decide_eq_true (by omega)]; rfl
    rw [if_neg (by rw [pLe0 (by omega)]; exact m0), pBs, hm0, if_neg (show ¬ (1 : Int32) = 0 from by decide), if_neg (show ¬ (1 : Int32) = 0 from by decide)]
    obtain ⟨a, a1, a2⟩ := aside_L (nw := nw) (as_ := as_)
    rw [a1, pBs, rThose hm, pBs]
    have bad : (z1 < 0 ∨ 8 ≤ z1) → ∃ od', FL_X10_order_25 (nI m) ru td nw as_ od z1 1000 (pSet (fun d => decide (nz nw d = 6)) m) 0 0 nw a od = some (-1, nw, a, od') := fun hz =>
      ord_G (nw0 := nw) (as0 := as_) (od0 := od) (z1 := z1) (v0 := -1) (fun _ _ => True) hc (by omega) a2 (fun _ _ _ _ => trivial) (fun c od h8 _ => ord_bad h8 hz) 200 0 1000 0 u nw od (by omega) (by omega) hi hu e2 (fun _ _ => rfl) (by omega) trivial
    by_cases c1 : z1 < 0
    · obtain ⟨od', q⟩ := bad (Or.inl c1)
      rw [if_pos c1]
      exact ⟨_, _, _, _, rfl, q⟩
    · rw [if_neg c1]
      by_cases c2 : 8 ≤ z1
      · obtain ⟨od', q⟩ := bad (Or.inr c2)
        rw [if_pos c2]
        exact ⟨_, _, _, _, rfl, q⟩
      · rw [if_neg c2]
        obtain ⟨i, hi', rfl⟩ := nI_of c1
        have hi8 : i < 8 := by rw [p8Le hi'] at c2; omega
        unfold F_X3_nextToRun F_X0_copyFrom
        obtain ⟨k1, k2⟩ := cpyR (fa := fa) hm hr
        obtain ⟨r, f', od', b1, b2⟩ := next_sim (fa0 := fa) (fr0 := fr) (nw := nw) (nw0 := nw) (as0 := as_) (od0 := od) (a := a) hc (by omega) a2 hi8 200 0 1000 1000 0 u (va_cpy fr fa 0 0 98) nw od (by omega) (by omega) (by omega) k1 hi hu (k2.trans e1) e2 (fun _ _ => rfl) (by omega) (by omega)
        rw [pBs, show FL_X3_nextToRun_15 fa fr (nI m) ru fp (nI i) 1000 0 0 (va_cpy fr fa 0 0 98) = _ from b1, pBs]
        exact ⟨r, f', a, od', rfl, b2⟩
end
end

section
/-! when nothing moves any more: last side by side -/
theorem dec_ne {t : Int32} (h : 0 < t) : t - 1 ≠ t := fun q => by
  rw [q_lt, show (0 : Int32).toInt = 0 from by decide] at h
  have e := congrArg Int32.toInt q
  have b := Int32.toInt_lt t
  rw [Int32.toInt_sub, show (1 : Int32).toInt = 1 from by decide, Int.bmod_eq_of_le (by omega) (by omega)] at e
  omega
theorem nQ_8 {f : Nat → Int32} {d e : Nat} (hd : d < 8) (he : e < 8) (hn : e ≠ d) : nQ f d (8 + e) = f (8 + e) := by
  have := nQ_same (N := f) (d := d) (e := e) (j := 1) hd he hn (by decide)
  simpa using this
theorem nSt_o {f : Nat → Int32} {d e : Nat} (hd : d < 8) (he : e < 8) (hn : e ≠ d) : nSt d f e = f e ∧ nSt d f (8 + e) = f (8 + e) := by
  unfold nSt
  split
  · split
    · exact ⟨pUn (by omega), pUn (by omega)⟩
    · exact ⟨by rw [u0 (v := 0) hd he hn, pUn (by omega)], by rw [nQ_8 hd he hn, pUn (by omega)]⟩
  · exact ⟨rfl, rfl⟩
/-- one that settles, after the settling -/
theorem nSettle_1 {m : Nat} {N : Nat → Int32} {d : Nat} (hm : m ≤ 8) (hd : d < m) (h1 : N d = 1) : (nSettle m N d = 1 ∧ nSettle m N (8 + d) = N (8 + d) - 1) ∨ nSettle m N d = 2 := by
  have := pF_inv (g := nSt) (fun i a => (i ≤ d → a d = N d ∧ a (8 + d) = N (8 + d)) ∧ (d < i → (a d = 1 ∧ a (8 + d) = N (8 + d) - 1) ∨ a d = 2)) m 0 N (fun i a _ hi hI => ?_) ⟨fun _ => ⟨rfl, rfl⟩, fun q => by omega⟩
  · exact this.2 (by omega)
  · by_cases c : i = d
    · subst c
      refine ⟨fun q => by omega, fun _ => ?_⟩
      obtain ⟨e1, e2⟩ := hI.1 (Nat.le_refl _)
      unfold nSt
      rw [e1, if_pos h1, e2]
      split
      · exact Or.inl ⟨by rw [pUn (by omega), e1]; exact h1, pUs⟩
      · exact Or.inr (nQ_0 (by omega))
    · obtain ⟨s1, s2⟩ := nSt_o (f := a) (d := i) (e := d) (by omega) (by omega) (fun q => c q.symm)
      rw [s1, s2]
      exact ⟨fun q => hI.1 (by omega), fun q => hI.2 (by omega)⟩
/-- one that does not settle, after the settling -/
theorem nSettle_n {m : Nat} {N : Nat → Int32} {d : Nat} (hm : m ≤ 8) (hd : d < m) (h1 : N d ≠ 1) : nSettle m N d = N d ∧ nSettle m N (8 + d) = N (8 + d) := by
  have := pF_inv (g := nSt) (fun _ a => a d = N d ∧ a (8 + d) = N (8 + d)) m 0 N (fun i a _ hi hI => ?_) ⟨rfl, rfl⟩
  · exact this
  · by_cases c : i = d
    · subst c
      unfold nSt
      rw [if_neg (by rw [hI.1]; exact h1)]; exact hI
    · obtain ⟨s1, s2⟩ := nSt_o (f := a) (d := i) (e := d) (by omega) (by omega) (fun q => c q.symm)
      rw [s1, s2]; exact hI
theorem nRefuse_o {m : Nat} {N : Nat → Int32} {d e : Nat} {why : Int32} (hm : m ≤ 8) (hd : d < m) (he : e < m) (hn : e ≠ d) (h3 : N e < 3) : nRefuse m N d why e = N e ∧ nRefuse m N d why (8 + e) = N (8 + e) := by
  have := pF_inv (g := cRf (nI d)) (fun _ a => a e = N e ∧ a (8 + e) = N (8 + e)) m 0 (nRef0 N d why) (fun i a _ hi hI => ?_) ⟨?_, ?_⟩
  · exact this
  · unfold cRf
    by_cases c : i = e
    · subst c
      rw [if_neg (fun q => q.2.1 (by rw [hI.1]; exact h3))]; exact hI
    · split
      · rw [u0 (v := 0) (by omega) (by omega) (fun q => c q.symm), nQ_8 (by omega) (by omega) (fun q => c q.symm)]; exact hI
      · exact hI
  · have := nRef0_same (N := N) (why := why) (d := d) (e := e) (j := 0) (by omega) (by omega) hn (by decide)
    simpa using this
  · have := nRef0_same (N := N) (why := why) (d := d) (e := e) (j := 1) (by omega) (by omega) hn (by decide)
    simpa using this
theorem nRefuse_d {m : Nat} {T : Nat → Nat → Int32} {N : Nat → Int32} {d : Nat} {why : Int32} (hm : m ≤ 8) (h : iT m T N) (hd : d < m) (h0 : N d ≠ 0) : nRefuse m N d why d = 7 ∨ nRefuse m N d why d = 2 := by
  have hI := (nRefuse_I (why := why) hm hd h.2.2 ⟨h.1.1, h.1.2.1⟩ h0).2.2.2.1 d hd
  by_cases c : d < m ∧ zHang (nRef0 N d why) d (nI d) = true ∧ runs36 (nRef0 N d why d)
  · exact Or.inr (hI.1 c)
  · exact Or.inl ((hI.2 c).trans (nRef0_0 (by omega)))
theorem nFail_o {m : Nat} {R : Nat → Int32} {N : Nat → Int32} {d e : Nat} {v : Int32} (hm : m ≤ 8) (hd : d < m) (he : e < m) (hn : e ≠ d) (h3 : N e < 3) : nFail m R N d v e = N e ∧ nFail m R N d v (8 + e) = N (8 + e) := by
  unfold nFail
  split
  · exact ⟨u0 (v := 0) (by omega) (by omega) hn, nQ_8 (by omega) (by omega) hn⟩
  · exact nRefuse_o hm hd he hn h3
theorem nFail_d {m : Nat} {R : Nat → Int32} {T : Nat → Nat → Int32} {N : Nat → Int32} {d : Nat} {v : Int32} (hm : m ≤ 8) (h : iT m T N) (hd : d < m) (h0 : N d ≠ 0) : nFail m R N d v d = 7 ∨ nFail m R N d v d = 2 := by
  unfold nFail
  split
  · exact Or.inr (nQ_0 (by omega))
  · exact nRefuse_d hm h hd h0
theorem nGo_o {m t : Nat} {R : Nat → Int32} {T : Nat → Nat → Int32} {N : Nat → Int32} {d e : Nat} {v : Int32} (hm : m ≤ 8) (hd : d < m) (he : e < m) (hn : e ≠ d) (h3 : N e < 3) : nGo m t R T N d v e = N e ∧ nGo m t R T N d v (8 + e) = N (8 + e) := by
  unfold nGo
  split
  · exact ⟨by rw [pUn hn, pUn (by omega)], by rw [pUn (by omega), pUn (by omega)]⟩
  · split
    · split
      · exact ⟨pUn hn, pUn (by omega)⟩
      · exact nFail_o hm hd he hn h3
    · split
      · unfold nJudge
        split
        · exact ⟨by simp (disch := omega) only [nConf, nLow, pUn], by simp (disch := omega) only [nConf, nLow, pUn]⟩
        · exact nRefuse_o hm hd he hn h3
      · exact nFail_o hm hd he hn h3
/-- where one goes on, it moves -/
theorem nGo_d {m t : Nat} {R : Nat → Int32} {T : Nat → Nat → Int32} {N : Nat → Int32} {d : Nat} {v : Int32} (hm : m ≤ 8) (h : iT m T N) (hd : d < m) (hb : zBsy N d = true) : ((nGo m t R T N d v d = 3 ∨ nGo m t R T N d v d = 4) ∧ N d = 3 ∧ nGo m t R T N d v (8 + d) = N (8 + d) - 1) ∨ (N d = 4 ∧ (nGo m t R T N d v d = 5 ∨ nGo m t R T N d v d = 7 ∨ nGo m t R T N d v d = 2)) ∨ (N d = 5 ∧ (nGo m t R T N d v d = 6 ∨ nGo m t R T N d v d = 7 ∨ nGo m t R T N d v d = 2)) := by
  have hk := (bsy_c (h.1.2.1 d hd).1).mp hb
  have h0 : N d ≠ 0 := by rcases hk with q | q | q <;> rw [q] <;> decide
  unfold nGo
  rcases hk with q | q | q
  · refine Or.inl ⟨?_, q, ?_⟩
    · rw [if_pos q, pUs]; split
      · exact Or.inr rfl
      · exact Or.inl rfl
    · rw [if_pos q, pUn (by omega), pUs]
  · refine Or.inr (Or.inl ⟨q, ?_⟩)
    rw [if_neg (by rw [q]; decide), if_pos q]
    split
    · exact Or.inl pUs
    · exact Or.inr (nFail_d hm h hd h0)
  · refine Or.inr (Or.inr ⟨q, ?_⟩)
    rw [if_neg (by rw [q]; decide), if_neg (by rw [q]; decide)]
    split
    · unfold nJudge
      split
      · exact Or.inl (by simp only [nConf, nLow, upd]; grind)
      · exact Or.inr (nRefuse_d hm h hd h0)
    · exact Or.inr (nFail_d hm h hd h0)
/-- what the end of a tick leaves -/
theorem nTail_o {m : Nat} {R N : Nat → Int32} {e : Nat} (hm : m ≤ 8) (hz : nz N = N) (he : e < m) : (nTail m R N e = N e ∧ nTail m R N (8 + e) = N (8 + e)) ∨ (N e = 2 ∧ nTail m R N e = 3) := by
  unfold nTail
  rw [hz]
  split
  · split
    · exact Or.inl ⟨rfl, rfl⟩
    · rename_i hx
      rcases next_q (m := m) (N := N) with q | ⟨q, hq, e1, q2, -⟩
      · exact absurd q hx
      · rw [e1, pCl (by omega)]
        by_cases c : e = q
        · subst c
          exact Or.inr ⟨q2, by simp only [nLow, upd]; grind⟩
        · exact Or.inl ⟨by simp (disch := omega) only [nLow, pUn], by simp (disch := omega) only [nLow, pUn]⟩
  · exact Or.inl ⟨rfl, rfl⟩
/-- what is not still moves -/
theorem tk_moves {m t : Nat} {R : Nat → Int32} {T : Nat → Nat → Int32} {N : Nat → Int32} {v : Int32} (hm : m ≤ 8) (hT : wT m T) (h : iT m T N) (hs : zStill m N ≠ true) : ∃ k, k < 24 ∧ zTk m t R T N v k ≠ N k := by
  have hg := zGone_iT (t := t) (R := R) (v := v) hm hT h
  have hi := nSettle_iT hm h
  have ht := fun e he => nTail_o (R := R) (N := zGone m t R T N v) (e := e) hm hg.2.2 he
  have hgo : ∀ e, e < m → nSettle m N e < 3 → zGone m t R T N v e = nSettle m N e ∧ zGone m t R T N v (8 + e) = nSettle m N (8 + e) := fun e he h3 => by
    unfold zGone
    rcases zS_c m N with q | ⟨d, hd, q, hb⟩
    · rw [if_pos q]; exact ⟨rfl, rfl⟩
    · rw [q, if_neg (by rw [pNm (by omega)]; exact id), pCl (by omega)]
      have ne : e ≠ d := fun w => by
        subst w
        unfold zBsy at hb
        rw [decide_eq_true h3] at hb; exact absurd hb (by simp)
      exact nGo_o hm hd he ne h3
  by_cases c1 : ∃ d, d < m ∧ N d = 1
  · obtain ⟨d, hd, h1⟩ := c1
    have hpos := (h.1.2.1 d hd).2.2.1 (Or.inl h1)
    rcases nSettle_1 hm hd h1 with ⟨s1, s2⟩ | s1
    · obtain ⟨g1, g2⟩ := hgo d hd (by rw [s1]; decide)
      rcases ht d hd with ⟨t1, t2⟩ | ⟨t1, t2⟩
      · refine ⟨8 + d, by omega, ?_⟩
        show nTail m R _ _ ≠ _
        rw [t2, g2, s2]; exact dec_ne hpos
      · rw [g1, s1] at t1; exact absurd t1 (by decide)
    · obtain ⟨g1, g2⟩ := hgo d hd (by rw [s1]; decide)
      refine ⟨d, by omega, ?_⟩
      show nTail m R _ _ ≠ _
      rcases ht d hd with ⟨t1, t2⟩ | ⟨t1, t2⟩
      · rw [t1, g1, s1, h1]; decide
      · rw [t2, h1]; decide
  · have n1 : ∀ d, d < m → N d ≠ 1 := fun d hd q => c1 ⟨d, hd, q⟩
    have e := nSettle_id n1
    rcases zS_c m N with q | ⟨d, hd, q, hb⟩
    · have e' : zGone m t R T N v = N := by unfold zGone; rw [if_pos q, e]
      have hq : pFd (zBsy N) m 0 = -1 := by unfold zS at q; rw [e] at q; exact q
      rcases next_q (m := m) (N := N) with qn | ⟨w, hw, e1, w2, -⟩
      · refine absurd ?_ hs
        unfold zStill
        rw [pSet_none (fun d hd => by simpa using n1 d hd), hq, qn]; rfl
      · refine ⟨w, by omega, ?_⟩
        unfold zTk
        rw [e']
        unfold nTail
        rw [h.2.2, if_pos hq, e1, if_neg (by rw [pNm (by omega)]; exact id), pCl (by omega), w2]
        have : upd (nLow N w 3) (8 + w) (R 2) w = 3 := by simp only [nLow, upd]; grind
        rw [this]; decide
    · have e' : zGone m t R T N v = nGo m t R T N d v := by unfold zGone; rw [q, if_neg (by rw [pNm (by omega)]; exact id), pCl (by omega), e]
      rw [e] at hb
      rw [e'] at ht
      have hpos := (h.1.2.1 d hd).2.2.1
      have hgd := nGo_d (t := t) (R := R) (v := v) hm h hd hb
      have hzt : zTk m t R T N v = nTail m R (nGo m t R T N d v) := by unfold zTk; rw [e']
      rw [hzt]
      rcases hgd with ⟨a1, a2, a3⟩ | ⟨a1, a2⟩ | ⟨a1, a2⟩
      · refine ⟨8 + d, by omega, ?_⟩
        rcases ht d hd with ⟨t1, t2⟩ | ⟨t1, t2⟩
        · rw [t2, a3]; exact dec_ne (hpos (Or.inr a2))
        · rcases a1 with a1 | a1 <;> rw [a1] at t1 <;> exact absurd t1 (by decide)
      · refine ⟨d, by omega, ?_⟩
        rcases ht d hd with ⟨t1, t2⟩ | ⟨t1, t2⟩
        · rw [t1, a1]; rcases a2 with a2 | a2 | a2 <;> rw [a2] <;> decide
        · rw [t2, a1]; decide
      · refine ⟨d, by omega, ?_⟩
        rcases ht d hd with ⟨t1, t2⟩ | ⟨t1, t2⟩
        · rw [t1, a1]; rcases a2 with a2 | a2 | a2 <;> rw [a2] <;> decide
        · rw [t2, a1]; decide
section
variable {m t : Nat} {ru fp td : Nat → Int32}
theorem cmp_1 {nw0 bf0 g b : Nat → Int32} (h : ∀ i, i < 98 → i ≠ 96 → b i = g i) : ∀ (k j n : Nat), j + k = 98 → k < n → FL_X10_isStill_32 (nI m) ru td nw0 bf0 n (nI j) g b = some (1, g, b)
  | k, j, 0, _, h => absurd h (by omega)
  | 0, j, n + 1, h1, h2 => by
    obtain rfl : j = 98 := by omega
    rw [FL_X10_isStill_32, if_pos (show (98 : Int32) ≤ nI 98 from by decide)]
  | k + 1, j, n + 1, h1, h2 => by
    rw [FL_X10_isStill_32, if_neg (by rw [show (98 : Int32) = nI 98 from rfl, pLe (by omega) (by omega)]; omega), pS1]
    have ih := cmp_1 (nw0 := nw0) (bf0 := bf0) h k (j + 1) n (by omega) (by omega)
    by_cases c : j = 96
    · rw [if_pos (by rw [c]; rfl)]; exact ih
    · rw [if_neg (show ¬ nI j = (96 : Int32) from fun q => c ((nI_eq (b := 96) (by omega) (by omega)).mp q)), pIx (by omega) (by omega), pIx (by omega) (by omega), pCl (by omega), if_pos (h j (by omega) c)]; exact ih
theorem cmp_0 {nw0 bf0 g b : Nat → Int32} {i : Nat} (hi : i < 98) (h96 : i ≠ 96) (h : b i ≠ g i) : ∀ (k j n : Nat), j + k = 98 → k < n → j ≤ i → FL_X10_isStill_32 (nI m) ru td nw0 bf0 n (nI j) g b = some (0, g, b)
  | k, j, 0, _, h, _ => absurd h (by omega)
  | 0, j, n + 1, h1, _, h3 => absurd h3 (by omega)
  | k + 1, j, n + 1, h1, h2, h3 => by
    rw [FL_X10_isStill_32, if_neg (by rw [show (98 : Int32) = nI 98 from rfl, pLe (by omega) (by omega)]; omega), pS1]
    by_cases ci : j = i
    · subst ci
      rw [if_neg (show ¬ nI j = (96 : Int32) from fun q => h96 ((nI_eq (b := 96) (by omega) (by omega)).mp q)), pIx (by omega) (by omega), pIx (by omega) (by omega), pCl (by omega), if_neg h]
    · have ih := cmp_0 (nw0 := nw0) (bf0 := bf0) hi h96 h k (j + 1) n (by omega) (by omega) (by omega)
      rw [pIx (by omega) (by omega), pIx (by omega) (by omega), pCl (by omega), ih]
      repeat' split
      all_goals rfl
theorem isStill_s {g bf : Nat → Int32} (hc : Cx m t ru fp td) (h0 : 0 < m) (hi : iU m ru (tT m td) (nz g)) : ∃ g' b', F_X10_isStill (nI m) ru td g bf = some (pb (zStill m (nz g)), g', b') ∧ F_X10_tickNow (nI m) ru td g = some g' ∧ iU m ru (tT m td) (nz g') ∧ kD g g' ∧ g' 96 = g 96 + 1 := by
  have hm := hc.1
  obtain ⟨g', g1, g2, g3⟩ := rTick (nw := g) hm (hc.2.1 h0) hc.2.2.1 hi.1
  obtain ⟨g'', q1, q2, q3⟩ := rTick_t hc h0 hi
  obtain rfl : g' = g'' := Option.some.inj (g1.symm.trans q1)
  have e96 : g' 96 = g 96 + 1 := by
    have : g' 96 = nf g' 96 := (nfE (by omega)).symm
    rw [this, g3, pUs]
  have hcmp : ∀ b : Nat → Int32, (∀ i, i < 98 → b i = g i) → FL_X10_isStill_32 (nI m) ru td g bf 1000 (nI 0) g' b = some (pb (zStill m (nz g)), g', b) := fun b hb => by
    by_cases cs : zStill m (nz g) = true
    · rw [cs]
      refine cmp_1 (fun i hi' h96 => ?_) 98 0 1000 (by omega) (by omega)
      rw [hb i hi']
      by_cases cz : i < 24 ∨ (32 ≤ i ∧ i < 96) ∨ i = 97
      · have a1 : nz g' i = g' i := if_pos cz
        have a2 : nz g i = g i := if_pos cz
        rw [← a1, ← a2, g2, still_tk hm (nz_nz _) cs]
      · have a1 : nf g' i = g' i := nfE cz
        have a2 : nf g i = g i := nfE cz
        rw [← a1, ← a2, g3, pUn h96]
        unfold nfT zF
        obtain ⟨h1, h2, h3⟩ := still_c hm cs
        have es : zS m (nz g) = -1 := by unfold zS; rw [nSettle_id h1]; exact h2
        rw [es]; simp
    · obtain ⟨k, hk, hne⟩ := tk_moves (t := t) (R := ru) (v := zV m (nz g) g) hm hc.2.2.1 hi.1 cs
      rw [← g2] at hne
      have a1 : nz g' k = g' k := if_pos (Or.inl hk)
      have a2 : nz g k = g k := if_pos (Or.inl hk)
      rw [a1, a2] at hne
      have : zStill m (nz g) = false := by simpa using cs
      rw [this]
      exact cmp_0 (i := k) (by omega) (by omega) (by rw [hb k (by omega)]; exact fun q => hne q.symm) 98 0 1000 (by omega) (by omega) (by omega)
  unfold F_X10_isStill
  have hl : ∀ (k j n : Nat) (b : Nat → Int32), j + k = 98 → k < n → (∀ i, i < j → b i = g i) → ∃ b', FL_X10_isStill_2 (nI m) ru td g bf n (nI j) g b = some (pb (zStill m (nz g)), g', b') := by
    intro k
    induction k with
    | zero =>
      intro j n b h1 h2 hb
      obtain rfl : j = 98 := by omega
      obtain ⟨n, rfl⟩ : ∃ x, n = x + 1 := ⟨n - 1, by omega⟩
      rw [FL_X10_isStill_2, if_pos (show (98 : Int32) ≤ nI 98 from by decide), g1, pBs]
      exact ⟨b, hcmp b hb⟩
    | succ k ih =>
      intro j n b h1 h2 hb
      obtain ⟨n, rfl⟩ : ∃ x, n = x + 1 := ⟨n - 1, by omega⟩
      rw [FL_X10_isStill_2, if_neg (by rw [show (98 : Int32) = nI 98 from rfl, pLe (by omega) (by omega)]; omega), pIx (by omega) (by omega), pIx (by omega) (by omega), pCl (by omega), pS1]
      refine ih (j + 1) n _ (by omega) (by omega) (fun i hi' => ?_)
      by_cases c : i = j
      · subst c; exact pUs
      · rw [pUn c]; exact hb i (by omega)
  obtain ⟨b', e⟩ := hl 98 0 1000 bf (by omega) (by omega) (fun i hi' => by omega)
  exact ⟨g', b', e, g1, q2, q3, e96⟩
theorem last_back {nw nw0 as0 bf0 a g b : Nat → Int32} {j n : Nat} {x : Int32} (ha : ∀ k, k < 98 → a k = nw k) (hk : kD nw g) (h : j = 201 ∨ (j ≤ 200 ∧ (x ≠ -1 ∨ 9999 < g 96))) : FL_X10_last_17 (nI m) ru td nw0 as0 bf0 (n + 1) x (nI j) g a b = some (x, nw, a, b) := by
  rcases h with rfl | ⟨hj, h⟩
  · rw [FL_X10_last_17, if_pos (show (200 : Int32) < nI 201 from by decide), bring_eq ha hk, pBs]
  · rw [FL_X10_last_17, if_neg (by rw [show (200 : Int32) = nI 200 from rfl, pLt (by omega) (by omega)]; omega), bring_eq ha hk, pBs]
    by_cases cx : x = -1
    · rw [if_pos cx, if_pos (h.resolve_left (fun q => q cx))]
    · rw [if_neg cx]
theorem last_L2 {fa0 fr0 nw nw0 as0 bf0 a : Nat → Int32} (hc : Cx m t ru fp td) (h0 : 0 < m) (ha : ∀ k, k < 98 → a k = nw k) : ∀ (k j n n' u : Nat) (f g b : Nat → Int32), j + k = 201 → k < n → k + 1 < n' → Rl m f g → iU m ru (tT m td) (nz g) → u ≤ 9999 → f 96 = nI u → g 96 = nI u → kD nw g → ∃ r f' b', FL_X3_ticksTillStill_13 fa0 fr0 (nI m) ru fp n (nI j) f = some (r, f') ∧ FL_X10_last_17 (nI m) ru td nw0 as0 bf0 n' (-1) (nI j) g a b = some (r, nw, a, b')
  | k, j, 0, n', u, f, g, b, _, h, _, _, _, _, _, _, _ => absurd h (by omega)
  | k, j, n + 1, 0, u, f, g, b, _, _, h, _, _, _, _, _, _ => absurd h (by omega)
  | 0, j, n + 1, n' + 1, u, f, g, b, h1, _, _, hr, hi, hu, e1, e2, hk => by
    obtain rfl : j = 201 := by omega
    rw [FL_X3_ticksTillStill_13, if_pos (show (200 : Int32) < nI 201 from by decide)]
    exact ⟨_, _, _, rfl, last_back ha hk (Or.inl rfl)⟩
  | k + 1, j, n + 1, n' + 1, u, f, g, b, h1, h2, h3, hr, hi, hu, e1, e2, hk => by
    have hm := hc.1
    obtain ⟨n2, rfl⟩ : ∃ x, n' = x + 1 := ⟨n' - 1, by omega⟩
    obtain ⟨g', b', s1, s2, s3, s4, s5⟩ := isStill_s (bf := b) hc h0 hi
    have hk' : kD nw g' := fun x hx => (s4 x hx).trans (hk x hx)
    have hX : FL_X3_ticksTillStill_13 fa0 fr0 (nI m) ru fp (n + 1) (nI j) f = if zStill m (nz g) = true then some (nI j, f) else if u = 9999 then some (-1, f) else (F_X0_passTick f (nI m) ru fp).bind fun o => FL_X3_ticksTillStill_13 fa0 fr0 (nI m) ru fp n (nI (j + 1)) o := by
      rw [FL_X3_ticksTillStill_13, if_neg (by rw [show (200 : Int32) = nI 200 from rfl, pLt (by omega) (by omega)]; omega), cStill hm (by rw [hr.1]; exact hi.1.1.h hm) (by rw [hr.1]; exact hi.1.1.f), pBs, over_c hu e1, pBs, hr.1, pS1]
      by_cases cs : zStill m (nz g) = true <;> by_cases cu : u = 9999 <;> simp [cs, cu, pb]
    have hY : FL_X10_last_17 (nI m) ru td nw0 as0 bf0 (n2 + 1 + 1) (-1) (nI j) g a b = if zStill m (nz g) = true then FL_X10_last_17 (nI m) ru td nw0 as0 bf0 (n2 + 1) (nI j) (nI (j + 1)) g' a b' else FL_X10_last_17 (nI m) ru td nw0 as0 bf0 (n2 + 1) (-1) (nI (j + 1)) g' a b' := by
      rw [FL_X10_last_17, if_neg (by rw [show (200 : Int32) = nI 200 from rfl, pLt (by omega) (by omega)]; omega), if_pos rfl, if_neg (by rw [e2, show (9999 : Int32) = nI 9999 from rfl, pLt (by omega) (by omega)]; omega), s1, pBs, pS1]
      by_cases cs : zStill m (nz g) = true <;> simp [cs, pb]
    rw [hX, hY]
    by_cases cs : zStill m (nz g) = true
    · rw [if_pos cs, if_pos cs]
      refine ⟨nI j, f, b', rfl, last_back ha hk' ?_⟩
      by_cases c : j = 200
      · exact Or.inl (by omega)
      · exact Or.inr ⟨by omega, Or.inl (by rw [Ne, pNm (by omega)]; exact id)⟩
    · rw [if_neg cs, if_neg cs]
      by_cases cu : u = 9999
      · rw [if_pos cu]
        refine ⟨-1, f, b', rfl, last_back ha hk' ?_⟩
        by_cases c : j = 200
        · exact Or.inl (by omega)
        · exact Or.inr ⟨by omega, Or.inr (by rw [s5, e2, cu]; decide)⟩
      · rw [if_neg cu]
        obtain ⟨f', g2, a1, a2, a3, a4, a5, a6, a7, -⟩ := tick_u hc h0 hr hi (by omega) e1 e2
        obtain rfl : g2 = g' := Option.some.inj (a2.symm.trans s2)
        rw [a1, pBs]
        exact last_L2 hc h0 ha k (j + 1) n (n2 + 1) (u + 1) f' g2 b' (by omega) (by omega) (by omega) a3 a4 (by omega) a5 a6 hk'
theorem last_sim {fr fa nw as_ bf : Nat → Int32} {u : Nat} (hc : Cx m t ru fp td) (hr : Rl m fr nw) (hi : iU m ru (tT m td) (nz nw)) (hu : u ≤ 9999) (e1 : fr 96 = nI u) (e2 : nw 96 = nI u) : ∃ r fa' as' bf', F_X9_last (nI m) ru fp fr fa = some (r, fa') ∧ F_X10_last (nI m) ru td nw as_ bf = some (r, nw, as', bf') := by
  have hm := hc.1
  unfold F_X9_last F_X10_last F_X5_isTold
  rw [rTree hm, pBs]
  by_cases m0 : m = 0
  · subst m0; exact ⟨_, _, _, _, rfl, rfl⟩
  · have hm0 : pb (decide (0 < m)) = 1 := by rw [decide_eq_true (by omega)]; rfl
    rw [if_neg (by rw [pLe0 (by omega)]; exact m0), pBs, hm0, if_neg (show ¬ (1 : Int32) = 0 from by decide), if_neg (show ¬ (1 : Int32) = 0 from by decide)]
    obtain ⟨a, a1, a2⟩ := aside_L (nw := nw) (as_ := as_)
    unfold F_X3_ticksTillStill F_X0_copyFrom
    obtain ⟨k1, k2⟩ := cpyR (fa := fa) hm hr
    obtain ⟨r, f', b', b1, b2⟩ := last_L2 (fa0 := fa) (fr0 := fr) (nw := nw) (nw0 := nw) (as0 := as_) (bf0 := bf) (a := a) hc (by omega) a2 201 0 1000 1000 u (va_cpy fr fa 0 0 98) nw bf (by omega) (by omega) (by omega) k1 hi hu (k2.trans e1) e2 (fun _ _ => rfl)
    rw [pBs, show FL_X3_ticksTillStill_13 fa fr (nI m) ru fp 1000 0 (va_cpy fr fa 0 0 98) = _ from b1, pBs, a1, pBs]
    exact ⟨r, f', a, b', rfl, b2⟩
end
end

section
/-! the calls that look ahead, with their answers -/
theorem st_23e {cmp : Bool} : q_st cmp SX_23 SY_23 iv_I := by
  intro x y z j hj h
  obtain ⟨xa, xi, xl⟩ := x
  obtain ⟨ya, yi, yl⟩ := y
  have h : iv_H xa xi xl ya yi yl j := h
  obtain ⟨m, t, nx, p, tt, te, l, s, e1, e2, h3, e4, h5, e6, e7, e8, e9, e10, h11, e12, e13, e14, e15, e16, e17, hW, hI, e20, e21, h22, h23, h24⟩ := h
  have hC := hW.1
  have hR := hW.2.1.1
  have hU := hW.2.1.2.1
  have hF : iU m (ya 4) (tT m (ya 5)) (nz (xa 15)) := by rw [hR.1]; exact hU
  obtain ⟨u, hu, u1, u2⟩ := hW.2.1.2.2.1
  obtain ⟨r, fa', as', q1, q2⟩ := when_sim (fa := xa 17) (as_ := ya 11) (z1 := z 1) hC hR hU hu u1 u2
  have X : F_X9_when (xi 4) (xa 8) (xa 9) (xa 15) (xa 17) (z 1) = some (r, fa') := by rw [e6, e8]; exact q1
  have Y : F_X10_when (yi 5) (ya 4) (ya 5) (ya 8) (ya 11) (z 1) = some (r, ya 8, as') := by rw [e7]; exact q2
  exact ⟨_, _, pBi X, pBi Y, iv_mk m t nx p tt te l s e1 e2 h3 e4 h5 e6 e7 e8 e9 e10 h11 e12 e13 e14 e15 e16 e17 hW hI e20 e21 (by omega) (by omega) h24, fun _ => rfl⟩
theorem st_24e {cmp : Bool} : q_st cmp SX_24 SY_24 iv_I := by
  intro x y z j hj h
  obtain ⟨xa, xi, xl⟩ := x
  obtain ⟨ya, yi, yl⟩ := y
  have h : iv_H xa xi xl ya yi yl j := h
  obtain ⟨m, t, nx, p, tt, te, l, s, e1, e2, h3, e4, h5, e6, e7, e8, e9, e10, h11, e12, e13, e14, e15, e16, e17, hW, hI, e20, e21, h22, h23, h24⟩ := h
  have hC := hW.1
  have hR := hW.2.1.1
  have hU := hW.2.1.2.1
  have hF : iU m (ya 4) (tT m (ya 5)) (nz (xa 15)) := by rw [hR.1]; exact hU
  obtain ⟨u, hu, u1, u2⟩ := hW.2.1.2.2.1
  obtain ⟨r, fa', as', q1, q2⟩ := ahead_sim (fa := xa 17) (as_ := ya 11) (z1 := z 1) (z2 := z 2) hC hR hU hu u1 u2
  have X : F_X9_ahead (xi 4) (xa 8) (xa 9) (xa 15) (xa 17) (z 1) (z 2) = some (r, fa') := by rw [e6, e8]; exact q1
  have Y : F_X10_ahead_ (yi 5) (ya 4) (ya 5) (ya 8) (ya 11) (z 1) (z 2) = some (r, ya 8, as') := by rw [e7]; exact q2
  exact ⟨_, _, pBi X, pBi Y, iv_mk m t nx p tt te l s e1 e2 h3 e4 h5 e6 e7 e8 e9 e10 h11 e12 e13 e14 e15 e16 e17 hW hI e20 e21 (by omega) (by omega) h24, fun _ => rfl⟩
theorem st_28e {cmp : Bool} : q_st cmp SX_28 SY_28 iv_I := by
  intro x y z j hj h
  obtain ⟨xa, xi, xl⟩ := x
  obtain ⟨ya, yi, yl⟩ := y
  have h : iv_H xa xi xl ya yi yl j := h
  obtain ⟨m, t, nx, p, tt, te, l, s, e1, e2, h3, e4, h5, e6, e7, e8, e9, e10, h11, e12, e13, e14, e15, e16, e17, hW, hI, e20, e21, h22, h23, h24⟩ := h
  have hC := hW.1
  have hR := hW.2.1.1
  have hU := hW.2.1.2.1
  have hF : iU m (ya 4) (tT m (ya 5)) (nz (xa 15)) := by rw [hR.1]; exact hU
  obtain ⟨r, fa', as', q1, q2⟩ := lost_sim (fa := xa 17) (as_ := ya 11) (z1 := z 1) hC hR hU
  have X : F_X9_lost (xi 4) (xa 8) (xa 9) (xa 15) (xa 17) (z 1) = some (r, fa') := by rw [e6, e8]; exact q1
  have Y : F_X10_lost (yi 5) (ya 4) (ya 5) (ya 8) (ya 11) (z 1) = some (r, ya 8, as') := by rw [e7]; exact q2
  exact ⟨_, _, pBi X, pBi Y, iv_mk m t nx p tt te l s e1 e2 h3 e4 h5 e6 e7 e8 e9 e10 h11 e12 e13 e14 e15 e16 e17 hW hI e20 e21 (by omega) (by omega) h24, fun _ => rfl⟩
theorem st_25e {cmp : Bool} : q_st cmp SX_25 SY_25 iv_I := by
  intro x y z j hj h
  obtain ⟨xa, xi, xl⟩ := x
  obtain ⟨ya, yi, yl⟩ := y
  have h : iv_H xa xi xl ya yi yl j := h
  obtain ⟨m, t, nx, p, tt, te, l, s, e1, e2, h3, e4, h5, e6, e7, e8, e9, e10, h11, e12, e13, e14, e15, e16, e17, hW, hI, e20, e21, h22, h23, h24⟩ := h
  have hC := hW.1
  have hR := hW.2.1.1
  have hU := hW.2.1.2.1
  have hF : iU m (ya 4) (tT m (ya 5)) (nz (xa 15)) := by rw [hR.1]; exact hU
  obtain ⟨u, hu, u1, u2⟩ := hW.2.1.2.2.1
  obtain ⟨r, fa', as', bf', q1, q2⟩ := last_sim (fa := xa 17) (as_ := ya 11) (bf := ya 12) hC hR hU hu u1 u2
  have X : F_X9_last (xi 4) (xa 8) (xa 9) (xa 15) (xa 17) = some (r, fa') := by rw [e6, e8]; exact q1
  have Y : F_X10_last (yi 5) (ya 4) (ya 5) (ya 8) (ya 11) (ya 12) = some (r, ya 8, as', bf') := by rw [e7]; exact q2
  exact ⟨_, _, pBi X, pBi Y, iv_mk m t nx p tt te l s e1 e2 h3 e4 h5 e6 e7 e8 e9 e10 h11 e12 e13 e14 e15 e16 e17 hW hI e20 e21 (by omega) (by omega) h24, fun _ => rfl⟩
theorem st_27e {cmp : Bool} : q_st cmp SX_27 SY_27 iv_I := by
  intro x y z j hj h
  obtain ⟨xa, xi, xl⟩ := x
  obtain ⟨ya, yi, yl⟩ := y
  have h : iv_H xa xi xl ya yi yl j := h
  obtain ⟨m, t, nx, p, tt, te, l, s, e1, e2, h3, e4, h5, e6, e7, e8, e9, e10, h11, e12, e13, e14, e15, e16, e17, hW, hI, e20, e21, h22, h23, h24⟩ := h
  have hC := hW.1
  have hR := hW.2.1.1
  have hU := hW.2.1.2.1
  have hF : iU m (ya 4) (tT m (ya 5)) (nz (xa 15)) := by rw [hR.1]; exact hU
  obtain ⟨u, hu, u1, u2⟩ := hW.2.1.2.2.1
  obtain ⟨r, fa', as', od', q1, q2⟩ := order_sim (fa := xa 17) (as_ := ya 11) (od := ya 13) (z1 := z 1) hC hR hU hu u1 u2
  have X : F_X9_order (xi 4) (xa 8) (xa 9) (xa 15) (xa 17) (z 1) = some (r, fa') := by rw [e6, e8]; exact q1
  have Y : F_X10_order (yi 5) (ya 4) (ya 5) (ya 8) (ya 11) (ya 13) (z 1) = some (r, ya 8, as', od') := by rw [e7]; exact q2
  exact ⟨_, _, pBi X, pBi Y, iv_mk m t nx p tt te l s e1 e2 h3 e4 h5 e6 e7 e8 e9 e10 h11 e12 e13 e14 e15 e16 e17 hW hI e20 e21 (by omega) (by omega) h24, fun _ => rfl⟩
end
