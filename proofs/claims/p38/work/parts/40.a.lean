section
/-! foresight: it ends, and leaves what it must -/
theorem ntz_tot (z : Int32) : ∃ r, F_J6_numberOfTrailingZeros_0f7a4 z = some r := by
  unfold F_J6_numberOfTrailingZeros_0f7a4
  simp only [pBs]
  repeat' split
  all_goals exact ⟨_, rfl⟩
theorem cTick_t {m t : Nat} {ru fp td fr : Nat → Int32} (hc : Cx m t ru fp td) (h0 : 0 < m) (hi : iU m ru (tT m td) (nz fr)) : ∃ f, F_X0_passTick fr (nI m) ru fp = some f ∧ iU m ru (tT m td) (nz f) := by
  obtain ⟨hm, hR, hT, hTT⟩ := hc
  obtain ⟨f, f1, f2, f3⟩ := cTick (fr := fr) (fu := ru) (fp := fp) hm (hR h0) (by rw [hTT]; exact hT) (by rw [hTT]; exact hi.1)
  rw [hTT] at f2
  exact ⟨f, f1, by rw [f2]; exact zTk_iU hm (hR h0) hT hi⟩
theorem rTick_t {m t : Nat} {ru fp td nw : Nat → Int32} (hc : Cx m t ru fp td) (h0 : 0 < m) (hi : iU m ru (tT m td) (nz nw)) : ∃ g, F_X10_tickNow (nI m) ru td nw = some g ∧ iU m ru (tT m td) (nz g) ∧ kD nw g := by
  obtain ⟨f, g, -, g1, -, g2, -, -, g3⟩ := tick_sim hc h0 (⟨rfl, fun _ _ _ => rfl⟩ : Rl m nw nw) hi
  exact ⟨g, g1, g2, g3⟩
section
variable {m t : Nat} {ru fp td : Nat → Int32}
theorem play_L {fa0 fr0 : Nat → Int32} {d : Nat} {z2 : Int32} (hc : Cx m t ru fp td) (h0 : 0 < m) (hd : d < m) (hz : z2 ≤ 200) : ∀ (k j n : Nat) (f : Nat → Int32), j + k = 201 → k < n → iU m ru (tT m td) (nz f) → ∃ r f', FL_X3_playTillRunning_2 fa0 fr0 (nI m) ru fp (nI d) z2 n (nI j) f = some (r, f') ∧ (r = -1 ∨ ∃ x, x ≤ 200 ∧ r = nI x)
  | k, j, 0, f, _, h, _ => absurd h (by omega)
  | 0, j, n + 1, f, h1, h2, hi => by
    obtain rfl : j = 201 := by omega
    have : z2 < nI 201 := by
      rw [q_le] at hz; rw [q_lt]
      have a : (200 : Int32).toInt = 200 := by decide
      have b : (nI 201).toInt = 201 := nI_toInt (by omega)
      omega
    rw [FL_X3_playTillRunning_2, if_pos this]
    exact ⟨_, _, rfl, Or.inl rfl⟩
  | k + 1, j, n + 1, f, h1, h2, hi => by
    have hm := hc.1
    rw [FL_X3_playTillRunning_2]
    by_cases c : z2 < nI j
    · rw [if_pos c]; exact ⟨_, _, rfl, Or.inl rfl⟩
    · rw [if_neg c, cIs (by omega), pBs]
      split
      · unfold F_X0_isOver
        split
        · rw [pBs, if_pos rfl, cStill hm (hi.1.1.h hm) hi.1.1.f, pBs]
          split
          · obtain ⟨f', f1, f2⟩ := cTick_t hc h0 hi
            rw [f1, pBs, pS1]
            exact play_L hc h0 hd hz k (j + 1) n f' (by omega) (by omega) f2
          · exact ⟨_, _, rfl, Or.inl rfl⟩
        · rw [pBs, if_neg (by decide)]; exact ⟨_, _, rfl, Or.inl rfl⟩
      · exact ⟨_, _, rfl, Or.inr ⟨j, by omega, rfl⟩⟩
theorem cpy98 {f g : Nat → Int32} : nz (va_cpy f g 0 0 98) = nz f := nz_congr (fun k hk => by simp only [va_cpy]; rw [if_pos (by omega), show 0 + (k - 0) = k from by omega])
theorem when_c {fr fa : Nat → Int32} {z1 : Int32} (hc : Cx m t ru fp td) (hi : iU m ru (tT m td) (nz fr)) : ∃ r fa', F_X9_when (nI m) ru fp fr fa z1 = some (r, fa') := by
  have hm := hc.1
  unfold F_X9_when
  rw [cHas hm, pBs]
  split
  · exact ⟨_, _, rfl⟩
  · rename_i hd
    obtain ⟨d, hd', rfl⟩ := zDev_lt hm (show zDev m z1 = true by cases h : zDev m z1 with | true => rfl | false => rw [h] at hd; exact absurd rfl hd)
    rw [cIs (by omega), pBs]
    split
    · unfold F_X3_ticksTillRunning F_X0_copyFrom F_X3_playTillRunning
      rw [pBs]
      obtain ⟨r, f', e, -⟩ := play_L (fa0 := va_cpy fr fa 0 0 98) (fr0 := fr) (z2 := 200) hc (by omega) hd' (le_rfl32 _) 201 0 1000 (va_cpy fr fa 0 0 98) (by omega) (by omega) (by rw [cpy98]; exact hi)
      rw [show FL_X3_playTillRunning_2 (va_cpy fr fa 0 0 98) fr (nI m) ru fp (nI d) 200 1000 0 (va_cpy fr fa 0 0 98) = _ from e, pBs, pBs]
      exact ⟨_, _, rfl⟩
    · exact ⟨_, _, rfl⟩
theorem behind_L {fa0 fr0 : Nat → Int32} {q : Nat} {z2 : Int32} (hc : Cx m t ru fp td) (h0 : 0 < m) (hq : q ≤ 200) : ∀ (k j n : Nat) (f : Nat → Int32), j + k = q → k < n → iU m ru (tT m td) (nz f) → ∃ r f', FL_X3_allBehind_13 fa0 fr0 (nI m) ru fp (nI q) z2 n (nI j) f = some (r, f')
  | k, j, 0, f, _, h, _ => absurd h (by omega)
  | 0, j, n + 1, f, h1, h2, hi => by
    obtain rfl : j = q := by omega
    rw [FL_X3_allBehind_13, if_pos (le_rfl32 _), cAll hc.1, pBs]
    exact ⟨_, _, rfl⟩
  | k + 1, j, n + 1, f, h1, h2, hi => by
    obtain ⟨f', f1, f2⟩ := cTick_t hc h0 hi
    rw [FL_X3_allBehind_13, if_neg (by rw [pLe (by omega) (by omega)]; omega), f1, pBs, pS1]
    exact behind_L hc h0 hq k (j + 1) n f' (by omega) (by omega) f2
theorem ahead_c {fr fa : Nat → Int32} {z1 z2 : Int32} (hc : Cx m t ru fp td) (hi : iU m ru (tT m td) (nz fr)) : ∃ r fa', F_X9_ahead (nI m) ru fp fr fa z1 z2 = some (r, fa') := by
  have hm := hc.1
  unfold F_X9_ahead F_X5_isTold
  by_cases m0 : m = 0
  · subst m0; exact ⟨_, _, rfl⟩
  · rw [if_neg (by rw [pLe0 (by omega)]; exact m0), pBs, if_neg (by decide)]
    by_cases c1 : z1 < 0
    · rw [if_pos c1]; exact ⟨_, _, rfl⟩
    · rw [if_neg c1]
      by_cases c2 : 200 < z1
      · rw [if_pos c2]; exact ⟨_, _, rfl⟩
      · rw [if_neg c2]
        obtain ⟨q, hq, rfl⟩ := nI_of c1
        have hq2 : q ≤ 200 := by rw [show (200 : Int32) = nI 200 from rfl, pLt (by omega) hq] at c2; omega
        have key : ∀ z, ∃ r fa', F_X3_allBehind fa fr (nI m) ru fp (nI q) z = some (r, fa') := fun z => by
          unfold F_X3_allBehind F_X0_copyFrom
          rw [pBs]
          exact behind_L (fa0 := fa) (fr0 := fr) (z2 := z) hc (by omega) hq2 q 0 1000 (va_cpy fr fa 0 0 98) (by omega) (by omega) (by rw [cpy98]; exact hi)
        obtain ⟨r6, f6, e6⟩ := key 6
        obtain ⟨r7, f7, e7⟩ := key 7
        rw [e6, e7]
        simp only [pBs]
        repeat' split
        all_goals exact ⟨_, _, rfl⟩
theorem still_L {fa0 fr0 : Nat → Int32} (hc : Cx m t ru fp td) (h0 : 0 < m) : ∀ (k j n : Nat) (f : Nat → Int32), j + k = 201 → k < n → iU m ru (tT m td) (nz f) → ∃ r f', FL_X3_ticksTillStill_13 fa0 fr0 (nI m) ru fp n (nI j) f = some (r, f')
  | k, j, 0, f, _, h, _ => absurd h (by omega)
  | 0, j, n + 1, f, h1, h2, hi => by
    obtain rfl : j = 201 := by omega
    rw [FL_X3_ticksTillStill_13, if_pos (show (200 : Int32) < nI 201 from by decide)]
    exact ⟨_, _, rfl⟩
  | k + 1, j, n + 1, f, h1, h2, hi => by
    have hm := hc.1
    rw [FL_X3_ticksTillStill_13, if_neg (by rw [show (200 : Int32) = nI 200 from rfl, pLt (by omega) (by omega)]; omega), cStill hm (hi.1.1.h hm) hi.1.1.f, pBs]
    split
    · unfold F_X0_isOver
      split
      · rw [pBs, if_pos rfl]
        obtain ⟨f', f1, f2⟩ := cTick_t hc h0 hi
        rw [f1, pBs, pS1]
        exact still_L hc h0 k (j + 1) n f' (by omega) (by omega) f2
      · rw [pBs, if_neg (by decide)]; exact ⟨_, _, rfl⟩
    · exact ⟨_, _, rfl⟩
theorem last_c {fr fa : Nat → Int32} (hc : Cx m t ru fp td) (hi : iU m ru (tT m td) (nz fr)) : ∃ r fa', F_X9_last (nI m) ru fp fr fa = some (r, fa') := by
  have hm := hc.1
  unfold F_X9_last F_X5_isTold
  by_cases m0 : m = 0
  · subst m0; exact ⟨_, _, rfl⟩
  · rw [if_neg (by rw [pLe0 (by omega)]; exact m0), pBs, if_neg (by decide)]
    unfold F_X3_ticksTillStill F_X0_copyFrom
    rw [pBs]
    obtain ⟨r, f', e⟩ := still_L (fa0 := fa) (fr0 := fr) hc (by omega) 201 0 1000 (va_cpy fr fa 0 0 98) (by omega) (by omega) (by rw [cpy98]; exact hi)
    rw [show FL_X3_ticksTillStill_13 fa fr (nI m) ru fp 1000 0 (va_cpy fr fa 0 0 98) = _ from e, pBs]
    exact ⟨_, _, rfl⟩
theorem next_L {fa0 fr0 : Nat → Int32} {z1 : Int32} (hc : Cx m t ru fp td) (h0 : 0 < m) : ∀ (k j n : Nat) (x : Int32) (f : Nat → Int32), j + k = 200 → k < n → iU m ru (tT m td) (nz f) → ∃ r f', FL_X3_nextToRun_15 fa0 fr0 (nI m) ru fp z1 n x (nI j) f = some (r, f')
  | k, j, 0, x, f, _, h, _ => absurd h (by omega)
  | 0, j, n + 1, x, f, h1, h2, hi => by
    obtain rfl : j = 200 := by omega
    rw [FL_X3_nextToRun_15, if_pos (show (200 : Int32) ≤ nI 200 from by decide)]
    exact ⟨_, _, rfl⟩
  | k + 1, j, n + 1, x, f, h1, h2, hi => by
    have hm := hc.1
    rw [FL_X3_nextToRun_15, if_neg (by rw [show (200 : Int32) = nI 200 from rfl, pLe (by omega) (by omega)]; omega)]
    unfold F_X0_isOver
    split
    · rw [pBs, if_pos rfl, cStill hm (hi.1.1.h hm) hi.1.1.f, pBs]
      split
      · obtain ⟨f', f1, f2⟩ := cTick_t hc h0 hi
        rw [cAll hm, pBs, f1, pBs, cAll hm, pBs, pS1]
        have ih := fun y => next_L (fa0 := fa0) (fr0 := fr0) (z1 := z1) hc h0 k (j + 1) n y f' (by omega) (by omega) f2
        obtain ⟨r, hr⟩ := ntz_tot (pSet (fun d => decide (nz f' d = 6)) m &&& (pSet (fun d => decide (nz f d = 6)) m ^^^ -1))
        rw [hr, pBs]
        repeat' split
        all_goals first | exact ih _ | exact ⟨_, _, rfl⟩
      · exact ⟨_, _, rfl⟩
    · rw [pBs, if_neg (by decide)]; exact ⟨_, _, rfl⟩
theorem order_c {fr fa : Nat → Int32} {z1 : Int32} (hc : Cx m t ru fp td) (hi : iU m ru (tT m td) (nz fr)) : ∃ r fa', F_X9_order (nI m) ru fp fr fa z1 = some (r, fa') := by
  have hm := hc.1
  unfold F_X9_order F_X5_isTold
  by_cases m0 : m = 0
  · subst m0; exact ⟨_, _, rfl⟩
  · rw [if_neg (by rw [pLe0 (by omega)]; exact m0), pBs, if_neg (by decide)]
    unfold F_X3_nextToRun F_X0_copyFrom
    rw [pBs]
    obtain ⟨r, f', e⟩ := next_L (fa0 := fa) (fr0 := fr) (z1 := z1) hc (by omega) 200 0 1000 0 (va_cpy fr fa 0 0 98) (by omega) (by omega) (by rw [cpy98]; exact hi)
    rw [show FL_X3_nextToRun_15 fa fr (nI m) ru fp z1 1000 0 0 (va_cpy fr fa 0 0 98) = _ from e, pBs]
    repeat' split
    all_goals exact ⟨_, _, rfl⟩
theorem lost_c {fr fa : Nat → Int32} {z1 : Int32} (hc : Cx m t ru fp td) (hi : iU m ru (tT m td) (nz fr)) : ∃ r fa', F_X9_lost (nI m) ru fp fr fa z1 = some (r, fa') := by
  have hm := hc.1
  unfold F_X9_lost
  rw [cHas hm, pBs]
  split
  · exact ⟨_, _, rfl⟩
  · rename_i hd
    obtain ⟨d, hd', rfl⟩ := zDev_lt hm (show zDev m z1 = true by cases h : zDev m z1 with | true => rfl | false => rw [h] at hd; exact absurd rfl hd)
    rw [pA72, pIx (by omega) (by omega)]
    split
    · unfold F_X3_lostWithout F_X0_copyFrom
      rw [pBs]
      obtain ⟨f, f1, -⟩ := cSup (fr := va_cpy fr fa 0 0 98) (fu := ru) (fp := fp) hm (by rw [cpy98, hc.2.2.2]; exact hi) hd'
      rw [f1, pBs, cAll hm, pBs, cAll hm, pBs, pBs]
      exact ⟨_, _, rfl⟩
    · exact ⟨_, _, rfl⟩
/-- the first free port, or none -/
theorem free_L {fr : Nat → Int32} {h P : Nat} (hc : Cx m t ru fp td) (hh : h ≤ 8) (hP : P ≤ 4) (hp : F_X5_portsOf (nI m) ru fp (nI h) = some (nI P)) : ∀ (k j n : Nat), j + k = P → k < n → ∃ r, FL_X0_firstFreePort_13 fr (nI m) ru fp (nI h) n (nI j) = some r ∧ (r = -1 ∨ ∃ x, x < P ∧ r = nI x)
  | k, j, 0, _, h => absurd h (by omega)
  | 0, j, n + 1, h1, h2 => by
    obtain rfl : j = P := by omega
    rw [FL_X0_firstFreePort_13, hp, pBs, if_pos (le_rfl32 _)]
    exact ⟨_, rfl, Or.inl rfl⟩
  | k + 1, j, n + 1, h1, h2 => by
    rw [FL_X0_firstFreePort_13, hp, pBs, if_neg (by rw [pLe (by omega) (by omega)]; omega), cPlugged_ hc.1, pBs]
    split
    · exact ⟨_, rfl, Or.inr ⟨j, by omega, rfl⟩⟩
    · rw [pS1]; exact free_L hc hh hP hp k (j + 1) n (by omega) (by omega)
theorem free_c {fr : Nat → Int32} {h : Nat} (hc : Cx m t ru fp td) (h0 : 0 < m) (hh : h ≤ 8) : ∃ r, F_X0_firstFreePort fr (nI m) ru fp (nI h) = some r ∧ (r = -1 ∨ ∃ x, x < 4 ∧ r = nI x ∧ (h = 8 ∨ (h < m ∧ nz fr h ≠ 0)) ∧ ((h = 8 ∧ nI x < ru 0) ∨ (h < m ∧ nI x < tT m td h 0))) := by
  have hm := hc.1
  unfold F_X0_firstFreePort
  rw [cIs hh, pBs]
  by_cases c8 : h = 8
  · subst c8
    obtain ⟨-, -, -, -, p, hp4, hp, e⟩ := hc.2.1 h0
    have ep : F_X5_portsOf (nI m) ru fp (nI 8) = some (nI p) := by
      have q := cPorts (fu := ru) (fp := fp) (b := 8) hm (Or.inl ⟨h0, rfl⟩)
      unfold zPrt at q; rw [if_pos rfl, e] at q; exact q
    obtain ⟨r, r1, r2⟩ := free_L (fr := fr) hc hh hp4 ep p 0 1000 (by omega) (by omega)
    rw [if_pos (by simp [pb])]
    refine ⟨r, r1, ?_⟩
    rcases r2 with r2 | ⟨x, hx, r2⟩
    · exact Or.inl r2
    · exact Or.inr ⟨x, by omega, r2, Or.inl rfl, Or.inl ⟨rfl, by rw [e, pLt (by omega) (by omega)]; exact hx⟩⟩
  · by_cases cm : h < m
    · obtain ⟨⟨p, hp4, e⟩, -⟩ := hc.2.2.1 h cm
      have ep : F_X5_portsOf (nI m) ru fp (nI h) = some (nI p) := by
        rw [cPorts hm (Or.inr (by rw [zDev_nI hm (by omega)]; simpa using cm))]
        unfold zPrt; rw [if_neg (by rw [pE8 (by omega)]; exact c8), pCl (by omega), hc.2.2.2, e]
      by_cases ca : nz fr h = 0
      · rw [if_neg (by simp [c8, ca, pb])]; exact ⟨_, rfl, Or.inl rfl⟩
      · rw [if_pos (by simp [c8, ca, pb])]
        obtain ⟨r, r1, r2⟩ := free_L (fr := fr) hc hh hp4 ep p 0 1000 (by omega) (by omega)
        refine ⟨r, r1, ?_⟩
        rcases r2 with r2 | ⟨x, hx, r2⟩
        · exact Or.inl r2
        · exact Or.inr ⟨x, by omega, r2, Or.inr ⟨cm, ca⟩, Or.inr ⟨cm, by rw [e, pLt (by omega) (by omega)]; exact hx⟩⟩
    · have ep : F_X5_portsOf (nI m) ru fp (nI h) = some (nI 0) := by
        rw [cPorts0 hm (fun q => q.elim (fun q => c8 (by rw [pE8 (by omega)] at q; exact q.2)) (fun q => by rw [zDev_nI hm (by omega)] at q; exact cm (by simpa using q)))]; rfl
      split
      · obtain ⟨r, r1, r2⟩ := free_L (fr := fr) hc hh (by omega) ep 0 0 1000 (by omega) (by omega)
        refine ⟨r, r1, ?_⟩
        rcases r2 with r2 | ⟨x, hx, r2⟩
        · exact Or.inl r2
        · omega
      · exact ⟨_, rfl, Or.inl rfl⟩
theorem best_L {fa0 fr : Nat → Int32} {d : Nat} (hc : Cx m t ru fp td) (h0 : 0 < m) (hd : d < m) (hi : iU m ru (tT m td) (nz fr)) (hd0 : nz fr d = 0) : ∀ (k j n : Nat) (x y : Int32) (f : Nat → Int32), j + k = 9 → k < n → y ≤ 200 → ∃ r f', FL_X3_bestPort_9 fa0 fr (nI m) ru fp (nI d) n x y (nI j) f = some (r, f')
  | k, j, 0, x, y, f, _, h, _ => absurd h (by omega)
  | 0, j, n + 1, x, y, f, h1, h2, _ => by
    obtain rfl : j = 9 := by omega
    rw [FL_X3_bestPort_9, if_pos (show (8 : Int32) < nI 9 from by decide)]
    exact ⟨_, _, rfl⟩
  | k + 1, j, n + 1, x, y, f, h1, h2, hy => by
    have hm := hc.1
    rw [FL_X3_bestPort_9, if_neg (by rw [show (8 : Int32) = nI 8 from rfl, pLt (by omega) (by omega)]; omega)]
    obtain ⟨r, r1, r2⟩ := free_c (fr := fr) (h := j) hc h0 (by omega)
    rw [r1, pBs, pS1]
    rcases r2 with rfl | ⟨p, hp, rfl, hcc, hpp⟩
    · rw [if_pos rfl]; exact best_L hc h0 hd hi hd0 k (j + 1) n x y f (by omega) (by omega) hy
    · rw [if_neg (by rw [pNm (by omega)]; exact id)]
      unfold F_X0_copyFrom F_X3_playTillRunning
      rw [pBs]
      obtain ⟨f', f1, f2, -⟩ := cPlug (m := m) (fr := va_cpy fr f 0 0 98) (fu := ru) (fp := fp) (d := d) (z := nI j) (z2 := nI p) (by omega)
      rw [f1, pBs]
      have hi' : iU m ru (tT m td) (nz f') := by
        rw [f2, cpy98]; exact nPlug_iU hm (hc.2.1 h0) hi hd hd0 hcc hp hpp
      obtain ⟨r, g, e, e2⟩ := play_L (fa0 := f') (fr0 := fr) (z2 := y) hc h0 hd hy 201 0 1000 f' (by omega) (by omega) hi'
      rw [show FL_X3_playTillRunning_2 f' fr (nI m) ru fp (nI d) y 1000 0 f' = _ from e, pBs]
      show ∃ r' f'', (if r = -1 then _ else _) = _
      by_cases c : r = -1
      · rw [if_pos c]; exact best_L hc h0 hd hi hd0 k (j + 1) n x y g (by omega) (by omega) hy
      · rw [if_neg c]
        refine best_L hc h0 hd hi hd0 k (j + 1) n _ (r - 1) g (by omega) (by omega) ?_
        rcases e2 with e2 | ⟨w, hw, e2⟩
        · exact absurd e2 c
        · rw [e2, q_le, show (1 : Int32) = nI 1 from rfl, pk_sub_toInt (by omega) (by omega)]
          have a : (200 : Int32).toInt = 200 := by decide
          omega
theorem place_c {fr fa : Nat → Int32} {z1 : Int32} (hc : Cx m t ru fp td) (hi : iU m ru (tT m td) (nz fr)) : ∃ r fa', F_X9_place (nI m) ru fp fr fa z1 = some (r, fa') := by
  have hm := hc.1
  unfold F_X9_place
  rw [cHas hm, pBs]
  split
  · exact ⟨_, _, rfl⟩
  · rename_i hd
    obtain ⟨d, hd', rfl⟩ := zDev_lt hm (show zDev m z1 = true by cases h : zDev m z1 with | true => rfl | false => rw [h] at hd; exact absurd rfl hd)
    rw [cIs (by omega), pBs]
    split
    · exact ⟨_, _, rfl⟩
    · rename_i h0
      have hd0 : nz fr d = 0 := Decidable.byContradiction (fun q => h0 (by simp [q, pb]))
      unfold F_X3_bestPort
      obtain ⟨r, f', e⟩ := best_L (fa0 := fa) hc (by omega) hd' hi hd0 9 0 1000 (-1) 200 fa (by omega) (by omega) (le_rfl32 _)
      rw [show FL_X3_bestPort_9 fa fr (nI m) ru fp (nI d) 1000 (-1) 200 0 fa = _ from e, pBs]
      exact ⟨_, _, rfl⟩
end
end

section
/-! the reference's foresight: it ends, and leaves the state as it was -/
section
variable {m t : Nat} {ru fp td : Nat → Int32}
theorem whenNow_L {nw0 : Nat → Int32} {d : Nat} (hc : Cx m t ru fp td) (h0 : 0 < m) (hd : d < m) : ∀ (k j n : Nat) (f : Nat → Int32), j + k = 201 → k < n → iU m ru (tT m td) (nz f) → ∃ r g, FL_X10_whenNow_2 (nI m) ru td nw0 (nI d) n (nI j) f = some (r, g) ∧ kD f g
  | k, j, 0, f, _, h, _ => absurd h (by omega)
  | 0, j, n + 1, f, h1, h2, hi => by
    obtain rfl : j = 201 := by omega
    rw [FL_X10_whenNow_2, if_pos (show (200 : Int32) < nI 201 from by decide)]
    exact ⟨_, _, rfl, fun _ _ => rfl⟩
  | k + 1, j, n + 1, f, h1, h2, hi => by
    have hm := hc.1
    rw [FL_X10_whenNow_2, if_neg (by rw [show (200 : Int32) = nI 200 from rfl, pLt (by omega) (by omega)]; omega), rState (by omega), pBs]
    split
    · exact ⟨_, _, rfl, fun _ _ => rfl⟩
    · split
      · exact ⟨_, _, rfl, fun _ _ => rfl⟩
      · obtain ⟨g, g1, g2, g3⟩ := rTick_t hc h0 hi
        rw [g1, pBs, pS1]
        obtain ⟨r, g', a, b⟩ := whenNow_L (nw0 := nw0) hc h0 hd k (j + 1) n g (by omega) (by omega) g2
        exact ⟨r, g', a, fun x hx => (b x hx).trans (g3 x hx)⟩
theorem dev_c {z : Int32} (hm : m ≤ 8) (h : ¬ pb (zDev m z) = 0) : ∃ d, d < m ∧ z = nI d :=
  zDev_lt hm (by cases q : zDev m z with | true => rfl | false => rw [q] at h; exact absurd rfl h)
theorem when_r {nw as_ : Nat → Int32} {z1 : Int32} (hc : Cx m t ru fp td) (hi : iU m ru (tT m td) (nz nw)) : ∃ r as', F_X10_when (nI m) ru td nw as_ z1 = some (r, nw, as') := by
  have hm := hc.1
  unfold F_X10_when
  rw [rDev, pBs]
  split
  · exact ⟨_, _, rfl⟩
  · rename_i hd
    obtain ⟨d, hd', rfl⟩ := dev_c hm hd
    rw [rState (by omega), pBs]
    split
    · exact ⟨_, _, rfl⟩
    · obtain ⟨a, a1, a2⟩ := aside_L (nw := nw) (as_ := as_)
      unfold F_X10_whenNow
      obtain ⟨r, g, e, e2⟩ := whenNow_L (nw0 := nw) hc (by omega) hd' 201 0 1000 nw (by omega) (by omega) hi
      rw [a1, pBs, show FL_X10_whenNow_2 (nI m) ru td nw (nI d) 1000 0 nw = _ from e, pBs, bring_eq a2 e2, pBs]
      exact ⟨_, _, rfl⟩
theorem ticks_L {nw0 : Nat → Int32} {q : Nat} (hc : Cx m t ru fp td) (h0 : 0 < m) (hq : q ≤ 200) : ∀ (k j n : Nat) (f : Nat → Int32), j + k = q → k < n → iU m ru (tT m td) (nz f) → ∃ r g, FL_X10_ticks_2 (nI m) ru td nw0 (nI q) n (nI j) f = some (r, g) ∧ kD f g
  | k, j, 0, f, _, h, _ => absurd h (by omega)
  | 0, j, n + 1, f, h1, h2, hi => by
    obtain rfl : j = q := by omega
    rw [FL_X10_ticks_2, if_pos (le_rfl32 _), rThose hc.1, pBs, pBits hc.1, pBs]
    exact ⟨_, _, rfl, fun _ _ => rfl⟩
  | k + 1, j, n + 1, f, h1, h2, hi => by
    have hm := hc.1
    obtain ⟨g, g1, g2, g3⟩ := rTick_t hc h0 hi
    rw [FL_X10_ticks_2, if_neg (by rw [pLe (by omega) (by omega)]; omega), g1, pBs, pS1]
    obtain ⟨r, g', a, b⟩ := ticks_L (nw0 := nw0) hc h0 hq k (j + 1) n g (by omega) (by omega) g2
    exact ⟨r, g', a, fun x hx => (b x hx).trans (g3 x hx)⟩
theorem ahead_r {nw as_ : Nat → Int32} {z1 z2 : Int32} (hc : Cx m t ru fp td) (hi : iU m ru (tT m td) (nz nw)) : ∃ r as', F_X10_ahead_ (nI m) ru td nw as_ z1 z2 = some (r, nw, as') := by
  have hm := hc.1
  unfold F_X10_ahead_
  rw [rTree hm, pBs, rIn, pBs, rIn, pBs]
  split
  · exact ⟨_, _, rfl⟩
  · rename_i h0
    have h0' : 0 < m := by
      refine Decidable.byContradiction (fun q => h0 ?_)
      simp [q, pb]
    split
    · exact ⟨_, _, rfl⟩
    · rename_i h1
      have c1 : ¬ z1 < 0 := fun q => h1 (by simp [q, pb])
      have c2 : ¬ 200 < z1 := fun q => h1 (by simp [q, pb])
      obtain ⟨q, hq, rfl⟩ := nI_of c1
      have hq2 : q ≤ 200 := by rw [show (200 : Int32) = nI 200 from rfl, pLt (by omega) hq] at c2; omega
      split
      · exact ⟨_, _, rfl⟩
      · split
        · obtain ⟨a, a1, a2⟩ := aside_L (nw := nw) (as_ := as_)
          unfold F_X10_ticks
          obtain ⟨r, g, e, e2⟩ := ticks_L (nw0 := nw) hc h0' hq2 q 0 1000 nw (by omega) (by omega) hi
          rw [a1, pBs, show FL_X10_ticks_2 (nI m) ru td nw (nI q) 1000 0 nw = _ from e, pBs, rThose hm, pBs, rThose hm, pBs, bring_eq a2 e2, pBs, pBs]
          split <;> exact ⟨_, _, rfl⟩
        · exact ⟨_, _, rfl⟩
theorem cmp_L {nw0 bf0 g bf : Nat → Int32} : ∀ (k j n : Nat), j + k = 98 → k < n → ∃ r, FL_X10_isStill_32 (nI m) ru td nw0 bf0 n (nI j) g bf = some (r, g, bf)
  | k, j, 0, _, h => absurd h (by omega)
  | 0, j, n + 1, h1, h2 => by
    obtain rfl : j = 98 := by omega
    rw [FL_X10_isStill_32, if_pos (show (98 : Int32) ≤ nI 98 from by decide)]
    exact ⟨_, rfl⟩
  | k + 1, j, n + 1, h1, h2 => by
    rw [FL_X10_isStill_32, if_neg (by rw [show (98 : Int32) = nI 98 from rfl, pLe (by omega) (by omega)]; omega), pS1]
    have ih := cmp_L (nw0 := nw0) (bf0 := bf0) (g := g) (bf := bf) k (j + 1) n (by omega) (by omega)
    rw [pIx (by omega) (by omega), pIx (by omega) (by omega)]
    repeat' split
    all_goals first | exact ih | exact ⟨_, rfl⟩
theorem isStill_r {nw bf : Nat → Int32} (hc : Cx m t ru fp td) (h0 : 0 < m) (hi : iU m ru (tT m td) (nz nw)) : ∃ r g bf', F_X10_isStill (nI m) ru td nw bf = some (r, g, bf') ∧ iU m ru (tT m td) (nz g) ∧ kD nw g := by
  unfold F_X10_isStill
  obtain ⟨g, g1, g2, g3⟩ := rTick_t hc h0 hi
  have hl : ∀ (k j n : Nat) (b : Nat → Int32), j + k = 98 → k < n → ∃ r b', FL_X10_isStill_2 (nI m) ru td nw bf n (nI j) nw b = some (r, g, b') := by
    intro k
    induction k with
    | zero =>
      intro j n b h1 h2
      obtain rfl : j = 98 := by omega
      obtain ⟨n, rfl⟩ : ∃ x, n = x + 1 := ⟨n - 1, by omega⟩
      obtain ⟨r, e⟩ := cmp_L (m := m) (ru := ru) (td := td) (nw0 := nw) (bf0 := bf) (g := g) (bf := b) 98 0 1000 (by omega) (by omega)
      rw [FL_X10_isStill_2, if_pos (show (98 : Int32) ≤ nI 98 from by decide), g1, pBs, show FL_X10_isStill_32 (nI m) ru td nw bf 1000 0 g b = _ from e]
      exact ⟨_, _, rfl⟩
    | succ k ih =>
      intro j n b h1 h2
      obtain ⟨n, rfl⟩ : ∃ x, n = x + 1 := ⟨n - 1, by omega⟩
      rw [FL_X10_isStill_2, if_neg (by rw [show (98 : Int32) = nI 98 from rfl, pLe (by omega) (by omega)]; omega), pIx (by omega) (by omega), pIx (by omega) (by omega), pS1]
      exact ih (j + 1) n _ (by omega) (by omega)
  obtain ⟨r, b', e⟩ := hl 98 0 1000 bf (by omega) (by omega)
  exact ⟨r, g, b', e, g2, g3⟩
theorem last_L {nw nw0 as0 bf0 a : Nat → Int32} (hc : Cx m t ru fp td) (h0 : 0 < m) (ha : ∀ k, k < 98 → a k = nw k) : ∀ (k j n : Nat) (x : Int32) (f b : Nat → Int32), j + k = 201 → k < n → iU m ru (tT m td) (nz f) → kD nw f → ∃ r b', FL_X10_last_17 (nI m) ru td nw0 as0 bf0 n x (nI j) f a b = some (r, nw, a, b')
  | k, j, 0, x, f, b, _, h, _, _ => absurd h (by omega)
  | 0, j, n + 1, x, f, b, h1, h2, hi, hk => by
    obtain rfl : j = 201 := by omega
    rw [FL_X10_last_17, if_pos (show (200 : Int32) < nI 201 from by decide), bring_eq ha hk, pBs]
    exact ⟨_, _, rfl⟩
  | k + 1, j, n + 1, x, f, b, h1, h2, hi, hk => by
    rw [FL_X10_last_17, if_neg (by rw [show (200 : Int32) = nI 200 from rfl, pLt (by omega) (by omega)]; omega), bring_eq ha hk, pBs]
    obtain ⟨r, g, b', e, e2, e3⟩ := isStill_r (bf := b) hc h0 hi
    rw [e, pBs, pS1]
    have ih := fun y => last_L (nw := nw) (nw0 := nw0) (as0 := as0) (bf0 := bf0) (a := a) hc h0 ha k (j + 1) n y g b' (by omega) (by omega) e2 (fun x hx => (e3 x hx).trans (hk x hx))
    repeat' split
    all_goals first | exact ih _ | exact ⟨_, _, rfl⟩
theorem last_r {nw as_ bf : Nat → Int32} (hc : Cx m t ru fp td) (hi : iU m ru (tT m td) (nz nw)) : ∃ r as' bf', F_X10_last (nI m) ru td nw as_ bf = some (r, nw, as', bf') := by
  have hm := hc.1
  unfold F_X10_last
  rw [rTree hm, pBs]
  split
  · exact ⟨_, _, _, rfl⟩
  · rename_i h0
    have h0' : 0 < m := by
      refine Decidable.byContradiction (fun q => h0 ?_)
      simp [q, pb]
    obtain ⟨a, a1, a2⟩ := aside_L (nw := nw) (as_ := as_)
    obtain ⟨r, b', e⟩ := last_L (nw := nw) (nw0 := nw) (as0 := as_) (bf0 := bf) (a := a) hc h0' a2 201 0 1000 (-1) nw bf (by omega) (by omega) hi (fun _ _ => rfl)
    rw [a1, pBs]
    exact ⟨r, a, b', e⟩
theorem lost_r {nw as_ : Nat → Int32} {z1 : Int32} (hc : Cx m t ru fp td) (hi : iU m ru (tT m td) (nz nw)) : ∃ r as', F_X10_lost (nI m) ru td nw as_ z1 = some (r, nw, as') := by
  have hm := hc.1
  unfold F_X10_lost
  rw [rDev, pBs]
  split
  · exact ⟨_, _, rfl⟩
  · rename_i hd
    obtain ⟨d, hd', rfl⟩ := dev_c hm hd
    rw [pA72, pIx (by omega) (by omega)]
    split
    · exact ⟨_, _, rfl⟩
    · obtain ⟨a, a1, a2⟩ := aside_L (nw := nw) (as_ := as_)
      obtain ⟨g, g1, g2, g3⟩ := rSup (nw := nw) hm hc.2.2.1 hi hd'
      rw [a1, pBs, rThose hm, pBs, g1, pBs, rThose hm, pBs, bring_eq a2 (fun k hk => nf_at g3 (by omega)), pBs]
      exact ⟨_, _, rfl⟩
/-- when, at a port -/
theorem whenAt_r {nw as_ : Nat → Int32} {d c p : Nat} (hc : Cx m t ru fp td) (h0 : 0 < m) (hi : iU m ru (tT m td) (nz nw)) (hd : d < m) (hd0 : nz nw d = 0) (hcc : c = 8 ∨ (c < m ∧ nz nw c ≠ 0)) (hp : p < 4) (hpp : (c = 8 ∧ nI p < ru 0) ∨ (c < m ∧ nI p < tT m td c 0)) : ∃ r as', F_X10_whenAt (nI m) ru td nw as_ (nI d) (nI c) (nI p) = some (r, nw, as') := by
  have hm := hc.1
  unfold F_X10_whenAt F_X10_whenNow
  obtain ⟨a, a1, a2⟩ := aside_L (nw := nw) (as_ := as_)
  obtain ⟨f, g, -, g1, -, g2, -, -, g3⟩ := plug_sim hc h0 (⟨rfl, fun _ _ _ => rfl⟩ : Rl m nw nw) hi hd hd0 hcc hp hpp
  obtain ⟨r, g', e, e2⟩ := whenNow_L (nw0 := g) hc h0 hd 201 0 1000 g (by omega) (by omega) g2
  rw [a1, pBs, g1, pBs, show FL_X10_whenNow_2 (nI m) ru td g (nI d) 1000 0 g = _ from e, pBs, bring_eq a2 (fun k hk => (e2 k hk).trans (g3 k hk)), pBs]
  exact ⟨_, _, rfl⟩
theorem barP_f {nw : Nat → Int32} {d p : Nat} {b : Int32} (hc : Cx m t ru fp td) (h0 : 0 < m) (hd : d < m) (hp : p < 2147483648) (h : zBarP m ru (tT m td) (nz nw) d b (nI p) = -1) : ∃ c, b = nI c ∧ nz nw d = 0 ∧ (c = 8 ∨ (c < m ∧ nz nw c ≠ 0)) ∧ p < 4 ∧ ((c = 8 ∧ nI p < ru 0) ∨ (c < m ∧ nI p < tT m td c 0)) := by
  have hm := hc.1
  unfold zBarP at h
  by_cases ch : zHub m (tT m td) b = true
  · rw [if_pos ch] at h
    by_cases cp : nI p < 0 ∨ zPrt ru (tT m td) b ≤ nI p
    · rw [if_pos cp] at h; exact absurd h (by decide)
    · rw [if_neg cp] at h
      by_cases cs : nz nw d = 0 ∧ (b = 8 ∨ nz nw b.toNatClampNeg ≠ 0) ∧ zFull m (nz nw) b (nI p) = -1
      · obtain ⟨x, hx, rfl, hx2⟩ := hub_nI hm ch
        have hlt : nI p < zPrt ru (tT m td) (nI x) := not_le.mp (fun w => cp (Or.inr w))
        have hh8 : (nI x = 8) = (x = 8) := pE8 (by omega)
        refine ⟨x, rfl, cs.1, ?_, ?_⟩
        · by_cases q8 : x = 8
          · exact Or.inl q8
          · refine Or.inr ⟨hx2.resolve_left q8, ?_⟩
            rcases cs.2.1 with w | w
            · rw [hh8] at w; exact absurd w q8
            · rw [pCl (by omega)] at w; exact w
        · unfold zPrt at hlt
          by_cases q8 : x = 8
          · rw [if_pos (by rw [hh8]; exact q8)] at hlt
            refine ⟨?_, Or.inl ⟨q8, hlt⟩⟩
            obtain ⟨-, -, -, -, pp, h4, -, e⟩ := hc.2.1 h0
            rw [e, pLt hp (by omega)] at hlt; omega
          · have hhm : x < m := hx2.resolve_left q8
            rw [if_neg (by rw [hh8]; exact q8), pCl (by omega)] at hlt
            refine ⟨?_, Or.inr ⟨hhm, hlt⟩⟩
            obtain ⟨⟨pp, h4, e⟩, -⟩ := hc.2.2.1 x hhm
            rw [e, pLt hp (by omega)] at hlt; omega
      · rw [if_neg cs] at h; exact absurd h (by decide)
  · rw [if_neg ch] at h; exact absurd h (by decide)
theorem ports_r {h : Nat} (hc : Cx m t ru fp td) (hz : zHub m (tT m td) (nz (fun _ => nI h) 0) = true ∨ zHub m (tT m td) (nI h) = true) (hh : h ≤ 8) (h0 : 0 < m) (hx : h = 8 ∨ h < m) : ∃ P, P ≤ 4 ∧ F_X10_portsOf ru td (nI h) = some (nI P) := by
  have hm := hc.1
  by_cases c8 : h = 8
  · subst c8
    obtain ⟨-, -, -, -, p, hp4, hp, e⟩ := hc.2.1 h0
    exact ⟨p, hp4, by rw [← e]; exact rPorts8⟩
  · have cm : h < m := hx.resolve_left c8
    obtain ⟨⟨p, hp4, e⟩, -⟩ := hc.2.2.1 h cm
    exact ⟨p, hp4, by rw [rPorts (m := m) hm cm, e]⟩
theorem place_in {nw nw0 as0 : Nat → Int32} {d h P : Nat} {kk : Int32 → Int32 → Int32 → (Nat → Int32) → (Nat → Int32) → Option (Int32 × (Nat → Int32) × (Nat → Int32))} (hc : Cx m t ru fp td) (h0 : 0 < m) (hi : iU m ru (tT m td) (nz nw)) (hd : d < m) (hh : h ≤ 8) (hP : P ≤ 4) (hp : F_X10_portsOf ru td (nI h) = some (nI P)) (hub : F_X10_isHub (nI m) td (nI h) = some 1) (hkk : ∀ x y a, ∃ r as', kk x y (nI (h + 1)) nw a = some (r, nw, as')) : ∀ (k j n : Nat) (x y : Int32) (a : Nat → Int32), j + k = P → k < n → ∃ r as', FL_X10_place_35 (nI m) ru td nw0 as0 (nI d) kk n x y (nI h) (nI j) nw a = some (r, nw, as')
  | k, j, 0, x, y, a, _, h => absurd h (by omega)
  | 0, j, n + 1, x, y, a, h1, h2 => by
    obtain rfl : j = P := by omega
    rw [FL_X10_place_35, hub, pBs, if_neg (by decide), hp, pBs, if_pos (le_rfl32 _), pS1]
    exact hkk x y a
  | k + 1, j, n + 1, x, y, a, h1, h2 => by
    have hm := hc.1
    have ih := fun x y a => place_in (nw := nw) (nw0 := nw0) (as0 := as0) (kk := kk) hc h0 hi hd hh hP hp hub hkk k (j + 1) n x y a (by omega) (by omega)
    rw [FL_X10_place_35, hub, pBs, if_neg (by decide), hp, pBs, if_neg (by rw [pLe (by omega) (by omega)]; omega), rBarP hm hc.2.1 hd, pBs, pS1]
    split
    · rename_i hb
      obtain ⟨c, e1, e2, e3, e4, e5⟩ := barP_f hc h0 hd (by omega) hb
      rw [e1]
      obtain ⟨r, as', e⟩ := whenAt_r (as_ := a) hc h0 hi hd e2 e3 e4 e5
      rw [e, pBs, ← e1]
      repeat' split
      all_goals exact ih _ _ _
    · exact ih _ _ _
theorem place_L {nw nw0 as0 : Nat → Int32} {d : Nat} (hc : Cx m t ru fp td) (h0 : 0 < m) (hi : iU m ru (tT m td) (nz nw)) (hd : d < m) : ∀ (k j n : Nat) (x y : Int32) (a : Nat → Int32), j + k = 9 → k < n → ∃ r as', FL_X10_place_25 (nI m) ru td nw0 as0 (nI d) n x y (nI j) nw a = some (r, nw, as')
  | k, j, 0, x, y, a, _, h => absurd h (by omega)
  | 0, j, n + 1, x, y, a, h1, h2 => by
    obtain rfl : j = 9 := by omega
    rw [FL_X10_place_25, if_pos (show (8 : Int32) < nI 9 from by decide)]
    exact ⟨_, _, rfl⟩
  | k + 1, j, n + 1, x, y, a, h1, h2 => by
    have hm := hc.1
    have ih := fun x y a => place_L (nw := nw) (nw0 := nw0) (as0 := as0) hc h0 hi hd k (j + 1) n x y a (by omega) (by omega)
    rw [FL_X10_place_25, if_neg (by rw [show (8 : Int32) = nI 8 from rfl, pLt (by omega) (by omega)]; omega)]
    by_cases ch : zHub m (tT m td) (nI j) = true
    · obtain ⟨x', hx', ex, hx2⟩ := hub_nI hm ch
      have exj := (nI_eq (a := j) (b := x') (by omega) (by omega)).mp ex
      obtain ⟨P, hP, hp⟩ := ports_r (h := j) hc (Or.inr ch) (by omega) h0 (by rw [exj]; exact hx2)
      exact place_in hc h0 hi hd (by omega) hP hp (by rw [rHub hm, ch]; rfl) ih P 0 1000 x y a (by omega) (by omega)
    · have e : FL_X10_place_35 (nI m) ru td nw0 as0 (nI d) (fun y0 y1 y2 y3 y4 => FL_X10_place_25 (nI m) ru td nw0 as0 (nI d) n y0 y1 y2 y3 y4) (999 + 1) x y (nI j) 0 nw a = FL_X10_place_25 (nI m) ru td nw0 as0 (nI d) n x y (nI (j + 1)) nw a := by
        have ch' : zHub m (tT m td) (nI j) = false := by simpa using ch
        rw [FL_X10_place_35, rHub hm, ch', pBs, if_pos (by decide), pS1]
      obtain ⟨r, as', e'⟩ := ih x y a
      exact ⟨r, as', e.trans e'⟩
theorem place_r {nw as_ : Nat → Int32} {z1 : Int32} (hc : Cx m t ru fp td) (hi : iU m ru (tT m td) (nz nw)) : ∃ r as', F_X10_place (nI m) ru td nw as_ z1 = some (r, nw, as') := by
  have hm := hc.1
  unfold F_X10_place
  rw [rDev, pBs]
  split
  · exact ⟨_, _, rfl⟩
  · rename_i hd
    obtain ⟨d, hd', rfl⟩ := dev_c hm hd
    rw [rState (by omega), pBs]
    split
    · exact place_L (nw0 := nw) (as0 := as_) hc (by omega) hi hd' 9 0 1000 (-1) 0 as_ (by omega) (by omega)
    · exact ⟨_, _, rfl⟩
/-! the order: sets of those that run -/
theorem pSb_or (p q : Nat → Bool) (d : Nat) : (if (p d || q d) = true then ((1 : Int32) <<< (nI d &&& 31)) else 0) = (if p d = true then ((1 : Int32) <<< (nI d &&& 31)) else 0) ||| (if q d = true then ((1 : Int32) <<< (nI d &&& 31)) else 0) := by
  by_cases c : p d = true <;> by_cases c2 : q d = true <;> simp [c, c2]
theorem pSet_or {p q : Nat → Bool} {m : Nat} : pSet p m ||| pSet q m = pSet (fun d => p d || q d) m := by
  unfold pSet
  have key : ∀ (k j : Nat) (a b : Int32), pF (pSb p) k j a ||| pF (pSb q) k j b = pF (pSb (fun d => p d || q d)) k j (a ||| b) := by
    intro k
    induction k with
    | zero => intro j a b; rfl
    | succ k ih =>
      intro j a b
      show pF (pSb p) k (j + 1) (pSb p j a) ||| pF (pSb q) k (j + 1) (pSb q j b) = pF _ k (j + 1) (pSb _ j (a ||| b))
      rw [ih]
      congr 1
      unfold pSb
      rw [pSb_or]
      ac_rfl
  have := key m 0 0 0
  simpa using this
theorem pBit (p : Nat → Bool) (m d : Nat) (hm : m ≤ 8) (hd : d < 8) : F_X10_has (pSet p m) (nI d) = some (pb (p d && decide (d < m))) := by
  unfold F_X10_has
  rw [pHas hm hd]
  by_cases c : (p d && decide (d < m)) = true <;> simp [c, pb]
end
end

section
/-! the order of those that will run, the reference's -/
theorem dMorgan (a b : Int32) : (a ||| b) ^^^ -1 = (b ^^^ -1) &&& (a ^^^ -1) := by
  apply Int32.toBitVec_inj.1
  have e : (-1 : Int32).toBitVec = BitVec.allOnes 32 := by decide
  simp only [Int32.toBitVec_xor, Int32.toBitVec_or, Int32.toBitVec_and, e]
  ext i hi
  simp only [BitVec.getElem_xor, BitVec.getElem_or, BitVec.getElem_and, BitVec.getElem_allOnes]
  cases a.toBitVec[i] <;> cases b.toBitVec[i] <;> rfl
theorem and_as (a b c : Int32) : a &&& (b &&& c) = (a &&& b) &&& c := by rw [Int32.and_assoc]
theorem pMin8 : ∀ (b0 b1 b2 b3 b4 b5 b6 b7 : Bool) (k : Fin 8), pB8 b0 b1 b2 b3 b4 b5 b6 b7 &&& ((1 <<< (nI k.1 &&& 31)) ^^^ -1) = pB8 (b0 && !decide (k.1 = 0)) (b1 && !decide (k.1 = 1)) (b2 && !decide (k.1 = 2)) (b3 && !decide (k.1 = 3)) (b4 && !decide (k.1 = 4)) (b5 && !decide (k.1 = 5)) (b6 && !decide (k.1 = 6)) (b7 && !decide (k.1 = 7)) := by decide +kernel
theorem pMin {q : Nat → Bool} {m d : Nat} (hm : m ≤ 8) (hd : d < 8) : pSet q m &&& ((1 <<< (nI d &&& 31)) ^^^ -1) = pSet (fun e => q e && !decide (d = e)) m := by
  rw [pSetm hm, pSet8, pSetm (p := fun e => q e && !decide (d = e)) hm, pSet8]
  have h := pMin8 (q 0 && decide (0 < m)) (q 1 && decide (1 < m)) (q 2 && decide (2 < m)) (q 3 && decide (3 < m)) (q 4 && decide (4 < m)) (q 5 && decide (5 < m)) (q 6 && decide (6 < m)) (q 7 && decide (7 < m)) ⟨d, hd⟩
  rw [h]
  have key : ∀ j, ((q j && decide (j < m)) && !decide (d = j)) = ((q j && !decide (d = j)) && decide (j < m)) := fun j => by
    cases q j <;> cases decide (j < m) <;> cases decide (d = j) <;> rfl
  simp only [key]
theorem and_m1 (a : Int32) : a &&& (0 ^^^ -1) = a := by
  have : (0 : Int32) ^^^ -1 = -1 := by decide
  rw [this]
  apply Int32.toBitVec_inj.1
  rw [Int32.toBitVec_and]
  have e : (-1 : Int32).toBitVec = BitVec.allOnes 32 := by decide
  rw [e, BitVec.and_allOnes]
theorem pDif {p q : Nat → Bool} {m : Nat} (hm : m ≤ 8) : pSet q m &&& (pSet p m ^^^ -1) = pSet (fun d => q d && !p d) m := by
  have key : ∀ (k j : Nat) (q : Nat → Bool) (a : Int32), j + k ≤ 8 → pSet q m &&& (pF (pSb p) k j a ^^^ -1) = pSet (fun d => q d && !(p d && decide (j ≤ d ∧ d < j + k))) m &&& (a ^^^ -1) := by
    intro k
    induction k with
    | zero =>
      intro j q a _
      have : (fun d => q d && !(p d && decide (j ≤ d ∧ d < j + 0))) = q := by
        funext d
        have : ¬ (j ≤ d ∧ d < j + 0) := by omega
        rw [decide_eq_false this]; simp
      rw [this]; rfl
    | succ k ih =>
      intro j q a hj
      show pSet q m &&& (pF (pSb p) k (j + 1) (pSb p j a) ^^^ -1) = _
      rw [ih (j + 1) q _ (by omega)]
      unfold pSb
      by_cases c : p j = true
      · rw [if_pos c, dMorgan, and_as, pMin hm (by omega)]
        congr 2
        funext d
        by_cases cd : d = j
        · subst cd; simp [c]
        · have e1 : (j + 1 ≤ d ∧ d < j + 1 + k) ↔ (j ≤ d ∧ d < j + (k + 1)) := by omega
          have e2 : ¬ j = d := fun q => cd q.symm
          simp [e1, e2]
      · rw [if_neg c]
        have : a ||| 0 = a := by simp
        rw [this]
        congr 2
        funext d
        by_cases cd : d = j
        · subst cd; simp [c]
        · have e1 : (j + 1 ≤ d ∧ d < j + 1 + k) ↔ (j ≤ d ∧ d < j + (k + 1)) := by omega
          simp [e1]
  have h := key m 0 q 0 (by omega)
  rw [and_m1] at h
  have e : pSet (fun d => q d && !(p d && decide (0 ≤ d ∧ d < 0 + m))) m = pSet (fun d => q d && !p d) m := pSet_congr (fun d hd => by
    have : (0 ≤ d ∧ d < 0 + m) := by omega
    rw [decide_eq_true this]; simp)
  rw [← e, ← h]
  rfl
theorem pF_last {α : Type} {g : Nat → α → α} : ∀ (k j : Nat) (a : α), pF g (k + 1) j a = g (j + k) (pF g k j a)
  | 0, j, a => rfl
  | k + 1, j, a => by
    show pF g (k + 1) (j + 1) (g j a) = g (j + (k + 1)) (pF g k (j + 1) (g j a))
    rw [pF_last k (j + 1) (g j a)]
    congr 1; omega
theorem pNum_s (w : Nat → Bool) (j : Nat) : pNum w (j + 1) = if w j = true then pNum w j + 1 else pNum w j := by
  unfold pNum; rw [pF_last, Nat.zero_add]
theorem pNum_mono (w : Nat → Bool) {j m : Nat} (h : j ≤ m) : pNum w j ≤ pNum w m := by
  induction m with
  | zero => have : j = 0 := by omega
            rw [this]; exact Nat.le_refl _
  | succ m ih =>
    by_cases c : j = m + 1
    · rw [c]; exact Nat.le_refl _
    · have := ih (by omega)
      rw [pNum_s]; split <;> omega
section
variable {m t : Nat} {ru fp td : Nat → Int32}
theorem order_in {nw0 as0 od0 nw a : Nat → Int32} {z1 x4 : Int32} {p w : Nat → Bool} {kk : Int32 → Int32 → Int32 → (Nat → Int32) → (Nat → Int32) → (Nat → Int32) → Option (Int32 × (Nat → Int32) × (Nat → Int32) × (Nat → Int32))} {Q : Option (Int32 × (Nat → Int32) × (Nat → Int32) × (Nat → Int32)) → Prop} (hm : m ≤ 8) (hpw : ∀ d, d < m → (p d && w d) = false) (hkk : ∀ c od, c ≤ pNum (fun d => p d || w d) m → Q (kk (pSet (fun d => p d || w d) m) (nI c) (x4 + 1) nw a od)) : ∀ (k j n c : Nat) (od : Nat → Int32), j + k = m → k < n → c ≤ pNum p m + pNum w j → Q (FL_X10_order_65 (nI m) ru td nw0 as0 od0 z1 kk n (pSet p m) (nI c) x4 (pSet w m) (nI j) nw a od)
  | k, j, 0, c, od, _, h, _ => absurd h (by omega)
  | 0, j, n + 1, c, od, h1, h2, h3 => by
    obtain rfl : j = m := by omega
    rw [FL_X10_order_65, if_pos (le_rfl32 _), pSet_or]
    refine hkk c od ?_
    rw [pNum_add (p := p) (q := w) (r := fun d => p d || w d) (fun d hd => ⟨rfl, hpw d hd⟩)]; exact h3
  | k + 1, j, n + 1, c, od, h1, h2, h3 => by
    rw [FL_X10_order_65, if_neg (by rw [pLe (by omega) (by omega)]; omega), pBit w m j hm (by omega), pBs, pS1]
    have hs := pNum_s w j
    by_cases cw : w j = true
    · have hjm : j < m := by omega
      rw [if_neg (by simp [cw, hjm, pb])]
      rw [if_pos cw] at hs
      have hle : pNum p m + pNum w m ≤ m := by
        rw [← pNum_add (p := p) (q := w) (r := fun d => p d || w d) (fun d hd => ⟨rfl, hpw d hd⟩)]; exact pNum_le _ m
      have hmo := pNum_mono w (show j + 1 ≤ m by omega)
      rw [pIx (by omega) (by omega), pCl (by omega), pS1]
      exact order_in hm hpw hkk k (j + 1) n (c + 1) _ (by omega) (by omega) (by omega)
    · rw [if_pos (by simp [cw, pb])]
      rw [if_neg cw] at hs
      exact order_in hm hpw hkk k (j + 1) n c od (by omega) (by omega) (by omega)
theorem order_end {nw a od : Nat → Int32} {z1 : Int32} {c : Nat} (hc : c ≤ 8) : ∃ r, ((F_X10_in z1 0 (nI c - 1)).bind fun o_11 => (if o_11 = 0 then some ((-1 : Int32), nw, a, od) else (if z1 < 0 ∨ 8 ≤ (z1).toNatClampNeg then none else some ((od (z1).toNatClampNeg), nw, a, od)))) = some (r, nw, a, od) := by
  rw [rIn, pBs]
  split
  · exact ⟨_, rfl⟩
  · rename_i h
    have c1 : ¬ z1 < 0 := fun q => h (by simp [q, pb])
    have c2 : ¬ nI c - 1 < z1 := fun q => h (by simp [q, pb])
    obtain ⟨i, hi, rfl⟩ := nI_of c1
    rw [q_lt, show (1 : Int32) = nI 1 from rfl, pk_sub_toInt (by omega) (by omega), nI_toInt hi] at c2
    rw [pIx (by omega) (by omega)]
    exact ⟨_, rfl⟩
theorem order_L {nw nw0 as0 od0 a : Nat → Int32} {z1 : Int32} (hc : Cx m t ru fp td) (h0 : 0 < m) (ha : ∀ k, k < 98 → a k = nw k) : ∀ (k j n c : Nat) (p : Nat → Bool) (f od : Nat → Int32), j + k = 200 → k < n → c ≤ pNum p m → iU m ru (tT m td) (nz f) → kD nw f → ∃ r od', FL_X10_order_25 (nI m) ru td nw0 as0 od0 z1 n (pSet p m) (nI c) (nI j) f a od = some (r, nw, a, od')
  | k, j, 0, c, p, f, od, _, h, _, _, _ => absurd h (by omega)
  | 0, j, n + 1, c, p, f, od, h1, h2, h3, hi, hk => by
    obtain rfl : j = 200 := by omega
    have hm := hc.1
    have := pNum_le p m
    obtain ⟨r, e⟩ := order_end (nw := nw) (a := a) (od := od) (z1 := z1) (c := c) (by omega)
    rw [FL_X10_order_25, if_pos (show (200 : Int32) ≤ nI 200 from by decide), bring_eq ha hk, pBs]
    exact ⟨r, od, e⟩
  | k + 1, j, n + 1, c, p, f, od, h1, h2, h3, hi, hk => by
    have hm := hc.1
    have hcm := pNum_le p m
    rw [FL_X10_order_25, if_neg (by rw [show (200 : Int32) = nI 200 from rfl, pLe (by omega) (by omega)]; omega), bring_eq ha hk, pBs]
    split
    · obtain ⟨r, e⟩ := order_end (nw := nw) (a := a) (od := od) (z1 := z1) (c := c) (by omega)
      exact ⟨r, od, e⟩
    · obtain ⟨g, g1, g2, g3⟩ := rTick_t hc h0 hi
      rw [g1, pBs, rThose hm, pBs, pDif hm]
      refine order_in (p := p) (w := fun d => decide (nz g d = 6) && !p d) (Q := fun X => ∃ r od', X = some (r, nw, a, od')) hm (fun d hd => by cases p d <;> simp) (fun c' od' hc' => ?_) m 0 1000 c od (by omega) (by omega) (by omega)
      rw [pS1]
      exact order_L hc h0 ha k (j + 1) n c' _ g od' (by omega) (by omega) hc' g2 (fun x hx => (g3 x hx).trans (hk x hx))
theorem order_r {nw as_ od : Nat → Int32} {z1 : Int32} (hc : Cx m t ru fp td) (hi : iU m ru (tT m td) (nz nw)) : ∃ r as' od', F_X10_order (nI m) ru td nw as_ od z1 = some (r, nw, as', od') := by
  have hm := hc.1
  unfold F_X10_order
  rw [rTree hm, pBs]
  split
  · exact ⟨_, _, _, rfl⟩
  · rename_i h0
    have h0' : 0 < m := by
      refine Decidable.byContradiction (fun q => h0 ?_)
      simp [q, pb]
    obtain ⟨a, a1, a2⟩ := aside_L (nw := nw) (as_ := as_)
    rw [a1, pBs, rThose hm, pBs]
    obtain ⟨r, od', e⟩ := order_L (nw := nw) (nw0 := nw) (as0 := as_) (od0 := od) (a := a) (z1 := z1) hc h0' a2 200 0 1000 0 (fun d => decide (nz nw d = 6)) nw od (by omega) (by omega) (by omega) hi (fun _ _ => rfl)
    exact ⟨r, a, od', e⟩
end
end

section
/-! what is asked -/
section
variable {m t : Nat} {ru fp td fr nw : Nat → Int32}
theorem in_c {z : Int32} {a : Nat} (ha : a < 1000000) : (!decide (z < 0) && !decide (nI a < z)) = true ↔ ∃ k, k ≤ a ∧ z = nI k := by
  simp only [Bool.and_eq_true, Bool.not_eq_true', decide_eq_false_iff_not]
  refine ⟨fun h => ?_, fun ⟨k, hk, e⟩ => ?_⟩
  · obtain ⟨k, hk, rfl⟩ := nI_of h.1
    refine ⟨k, ?_, rfl⟩
    have := h.2
    rw [pLt (by omega) hk] at this; omega
  · subst e
    exact ⟨nI_pos (by omega), by rw [pLt (by omega) (by omega)]; omega⟩
theorem rule_sim {z1 : Int32} (hm : m ≤ 8) : ∃ r, F_X9_rule (nI m) ru fp z1 = some r ∧ F_X10_rule (nI m) ru z1 = some r := by
  unfold F_X9_rule F_X10_rule F_X5_isTold
  rw [rTree hm, pBs, rIn, pBs]
  by_cases m0 : m = 0
  · subst m0; exact ⟨_, rfl, rfl⟩
  · have m0' : 0 < m := by omega
    rw [if_neg (by rw [pLe0 (by omega)]; exact m0), pBs, if_neg (show ¬ (1 : Int32) = 0 from by decide), if_neg (show ¬ pb (decide (0 < m)) = 0 by simp [m0', pb])]
    have c7 : (7 < z1) ↔ (8 ≤ z1) := lt_le1 (k := 7) (by omega)
    by_cases c1 : z1 < 0
    · rw [if_pos c1, if_pos (show pb (!decide (z1 < 0) && !decide (7 < z1)) = 0 by simp [c1, pb])]; exact ⟨_, rfl, rfl⟩
    · rw [if_neg c1]
      by_cases c2 : 8 ≤ z1
      · rw [if_pos c2, if_pos (show pb (!decide (z1 < 0) && !decide (7 < z1)) = 0 by simp [c7.mpr c2, pb])]; exact ⟨_, rfl, rfl⟩
      · have c2' : ¬ 7 < z1 := fun q => c2 (c7.mp q)
        rw [if_neg c2, if_neg (show ¬ pb (!decide (z1 < 0) && !decide (7 < z1)) = 0 by simp [c1, c2', pb])]
        obtain ⟨i, hi, rfl⟩ := nI_of c1
        rw [show (8 : Int32) = nI 8 from rfl, pLe (by omega) hi] at c2
        rw [pIx (by omega) (by omega)]
        exact ⟨_, rfl, rfl⟩
theorem told_sim {z1 z2 : Int32} (hc : Cx m t ru fp td) (hr : Rl m fr nw) : ∃ r, F_X9_told (nI m) ru fp fr z1 z2 = some r ∧ F_X10_told (nI m) td nw z1 z2 = some r := by
  have hm := hc.1
  unfold F_X9_told F_X10_told
  rw [cHas hm, pBs, rDev, pBs, rIn, pBs]
  by_cases cd : zDev m z1 = true
  · rw [cd, if_neg (show ¬ pb true = 0 from by decide), if_neg (show ¬ pb true = 0 from by decide)]
    obtain ⟨d, hd, rfl⟩ := zDev_lt hm cd
    have c5 : (5 < z2) ↔ (6 ≤ z2) := lt_le1 (k := 5) (by omega)
    by_cases c1 : z2 < 0
    · rw [if_pos c1, if_pos (show pb (!decide (z2 < 0) && !decide (5 < z2)) = 0 by simp [c1, pb])]; exact ⟨_, rfl, rfl⟩
    · rw [if_neg c1]
      by_cases c2 : z2 < 6
      · have c2' : ¬ 5 < z2 := fun q => by rw [c5] at q; rw [q_le] at q; rw [q_lt] at c2; omega
        rw [if_pos c2, if_neg (show ¬ pb (!decide (z2 < 0) && !decide (5 < z2)) = 0 by simp [c1, c2', pb])]
        obtain ⟨k, hk, rfl⟩ := nI_of c1
        have hk6 : k < 6 := by rw [show (6 : Int32) = nI 6 from rfl, pLt hk (by omega)] at c2; exact c2
        by_cases c3 : nI k = 5
        · rw [if_pos c3, if_pos c3, pA80, pIx (by omega) (by omega), pIx (by omega) (by omega), pCl (by omega)]
          refine ⟨_, rfl, ?_⟩
          have : nz fr (80 + d) = nz nw (80 + d) := by rw [hr.1]
          rw [pNz (by omega), pNz (by omega)] at this; rw [this]
        · rw [if_neg c3, if_neg c3, rTold (m := m) hm hd hk6, pBs]
          have e1 : nI k * 8 = nI (k * 8) := pM k 8
          rw [e1, nI_add, pIx (by omega) (by omega), pCl (by omega), ← hc.2.2.2]
          refine ⟨_, rfl, ?_⟩
          unfold tP; rw [if_pos ⟨hd, hk6⟩, Nat.mul_comm]
      · have c2' : 5 < z2 := c5.mpr (le_of_not c2)
        rw [if_neg c2, if_pos (show pb (!decide (z2 < 0) && !decide (5 < z2)) = 0 by simp [c2', pb])]; exact ⟨_, rfl, rfl⟩
  · have cd' : zDev m z1 = false := by simpa using cd
    rw [cd', if_pos (show pb false = 0 from rfl), if_pos (show pb false = 0 from rfl)]; exact ⟨_, rfl, rfl⟩
theorem device_t {z1 z2 th : Int32} (hc : Cx m t ru fp td) (hf : iU m ru (tT m td) (nz fr)) (hi : iU m ru (tT m td) (nz nw)) : (∃ r, F_X9_device (nI m) fr ru fp z1 z2 = some r) ∧ ∃ r, F_X10_device th (nI m) td nw z1 z2 = some r := by
  have hm := hc.1
  refine ⟨?_, ?_⟩
  · unfold F_X9_device
    rw [cHas hm, pBs]
    by_cases cd : zDev m z1 = true
    · rw [cd, if_neg (show ¬ pb true = 0 from by decide)]
      obtain ⟨d, hd, rfl⟩ := zDev_lt hm cd
      rw [cDepth (by omega), pBs, cTakes hm hd, pBs]
      rw [pA0, pA8, pA16, pA24, pA32, pA40, pA48, pA56, pA64, pA72, pA88]
      rw [pIx (by omega) (by omega), pIx (by omega) (by omega), pIx (by omega) (by omega), pIx (by omega) (by omega), pIx (by omega) (by omega), pIx (by omega) (by omega), pIx (by omega) (by omega), pIx (by omega) (by omega), pIx (by omega) (by omega), pIx (by omega) (by omega), pIx (by omega) (by omega)]
      by_cases c1 : z2 < 0
      · rw [if_pos c1]; exact ⟨_, rfl⟩
      · rw [if_neg c1]
        by_cases c2 : z2 ≤ 12
        · rw [if_pos c2]
          by_cases k0 : z2 = 0
          · rw [if_pos k0]; exact ⟨_, rfl⟩
          · rw [if_neg k0]
            by_cases k1 : z2 = 1
            · rw [if_pos k1]; exact ⟨_, rfl⟩
            · rw [if_neg k1]
              by_cases k2 : z2 = 2
              · rw [if_pos k2]; exact ⟨_, rfl⟩
              · rw [if_neg k2]
                by_cases k3 : z2 = 3
                · rw [if_pos k3]; exact ⟨_, rfl⟩
                · rw [if_neg k3]
                  by_cases k4 : z2 = 4
                  · rw [if_pos k4]; exact ⟨_, rfl⟩
                  · rw [if_neg k4]
                    by_cases k5 : z2 = 5
                    · rw [if_pos k5]; exact ⟨_, rfl⟩
                    · rw [if_neg k5]
                      by_cases k6 : z2 = 6
                      · rw [if_pos k6]; exact ⟨_, rfl⟩
                      · rw [if_neg k6]
                        by_cases k7 : z2 = 7
                        · rw [if_pos k7]; exact ⟨_, rfl⟩
                        · rw [if_neg k7]
                          by_cases k8 : z2 = 8
                          · rw [if_pos k8]; exact ⟨_, rfl⟩
                          · rw [if_neg k8]
                            by_cases k9 : z2 = 9
                            · rw [if_pos k9]; exact ⟨_, rfl⟩
                            · rw [if_neg k9]
                              by_cases k10 : z2 = 10
                              · rw [if_pos k10]; exact ⟨_, rfl⟩
                              · rw [if_neg k10]
                                by_cases k11 : z2 = 11
                                · rw [if_pos k11]; exact ⟨_, rfl⟩
                                · rw [if_neg k11]; exact ⟨_, rfl⟩
        · rw [if_neg c2]; exact ⟨_, rfl⟩
    · have cd' : zDev m z1 = false := by simpa using cd
      rw [cd', if_pos (show pb false = 0 from rfl)]; exact ⟨_, rfl⟩
  · unfold F_X10_device
    rw [rDev, pBs]
    split
    · exact ⟨_, rfl⟩
    · rename_i h
      obtain ⟨d, hd, rfl⟩ := dev_c hm h
      obtain ⟨r, hr'⟩ := hi.1.1.r hm
      rw [rIn, pBs, rDepth hm hr' hi.1.1.f hd, pBs, rTakes (m := m) hm hd, pBs, pA88, pIx (by omega) (by omega)]
      by_cases ci : (!decide (z2 < 0) && !decide (12 < z2)) = true
      · rw [ci, if_neg (show ¬ pb true = 0 from by decide)]
        obtain ⟨k, hk, rfl⟩ := (in_c (a := 12) (by omega)).mp ci
        have e1 : (8 : Int32) * nI k = nI (8 * k) := pM 8 k
        rw [e1, nI_add, pIx (by omega) (by omega)]
        repeat' split
        all_goals exact ⟨_, rfl⟩
      · have ci' : (!decide (z2 < 0) && !decide (12 < z2)) = false := by simpa using ci
        rw [ci', if_pos (show pb false = 0 from rfl)]; exact ⟨_, rfl⟩
theorem port_sim {z1 z2 : Int32} (hc : Cx m t ru fp td) (hr : Rl m fr nw) (hi : iU m ru (tT m td) (nz nw)) : ∃ r, F_X9_port (nI m) ru fp fr z1 z2 = some r ∧ F_X10_port (nI m) ru td nw z1 z2 = some r := by
  have hm := hc.1
  unfold F_X9_port F_X10_port F_X5_hasPort
  rw [rHub hm, pBs]
  by_cases ch : zHub m (tT m td) z1 = true
  · have hpos := zPrt_pos (R := ru) hm hc.2.1 ch
    have hcc := zHub_c ch
    obtain ⟨h, hh, rfl, hh2⟩ := hub_nI hm ch
    rw [ch, if_neg (show ¬ pb true = 0 from by decide), cPorts hm hcc, hc.2.2.2, pBs]
    have ep : F_X10_portsOf ru td (nI h) = some (zPrt ru (tT m td) (nI h)) := by
      unfold zPrt
      rcases hh2 with rfl | hh2
      · exact rPorts8
      · rw [if_neg (by rw [pE8 (by omega)]; omega), rPorts (m := m) hm (by omega), pCl (by omega)]
    have hb1 : (nI h : Int32) ≠ -1 := by rw [Ne, pNm (by omega)]; exact id
    rw [ep, pBs, rIn, pBs, rInPort hm, pBs, cPlugged hm (by rw [hr.1]; exact hi.1.1.f) hb1, hr.1]
    have cd := lt_dec (c := z2) hpos
    generalize zPrt ru (tT m td) (nI h) = w2 at cd ⊢
    by_cases c1 : z2 < 0
    · rw [if_pos c1, if_pos (show pb (!decide (z2 < 0) && !decide (w2 - 1 < z2)) = 0 by simp [c1, pb])]; exact ⟨_, rfl, rfl⟩
    · rw [if_neg c1]
      by_cases c2 : w2 ≤ z2
      · rw [if_pos c2, if_pos (show pb (!decide (z2 < 0) && !decide (w2 - 1 < z2)) = 0 by simp [cd.mpr c2, pb])]; exact ⟨_, rfl, rfl⟩
      · have c2' : ¬ w2 - 1 < z2 := fun q => c2 (cd.mp q)
        rw [if_neg c2, if_neg (show ¬ pb (!decide (z2 < 0) && !decide (w2 - 1 < z2)) = 0 by simp [c1, c2', pb])]; exact ⟨_, rfl, rfl⟩
  · have ch' : zHub m (tT m td) z1 = false := by simpa using ch
    rw [ch', if_pos (show pb false = 0 from rfl)]
    by_cases c1 : z2 < 0
    · rw [if_pos c1]; exact ⟨_, rfl, rfl⟩
    · rw [if_neg c1]
      by_cases cc : (0 < m ∧ z1 = 8) ∨ zDev m z1 = true
      · have hz : zPrt ru (tP m fp) z1 ≤ 0 := by
          rw [hc.2.2.2]
          rcases cc with ⟨h1, rfl⟩ | cc
          · exfalso; unfold zHub at ch'; simp [h1] at ch'
          · obtain ⟨d, hd, rfl⟩ := zDev_lt hm cc
            unfold zPrt; rw [if_neg (by rw [pE8 (by omega)]; omega), pCl (by omega)]
            unfold zHub at ch'
            rw [cc, pCl (by omega)] at ch'
            simp at ch'
            exact ch'.2
        rw [cPorts hm cc, pBs, if_pos (by rw [q_le] at hz ⊢; rw [q_lt] at c1; omega)]; exact ⟨_, rfl, rfl⟩
      · rw [cPorts0 hm cc, pBs, if_pos (le_of_not c1)]; exact ⟨_, rfl, rfl⟩
theorem octet_sim {z1 z2 : Int32} (hc : Cx m t ru fp td) (hr : Rl m fr nw) : ∃ r, F_X9_octet (nI m) ru fp fr z1 z2 = some r ∧ F_X10_octet (nI m) td nw z1 z2 = some r := by
  have hm := hc.1
  unfold F_X9_octet F_X10_octet F_X5_lengthOf
  rw [cHas hm, pBs, rDev, pBs]
  by_cases cd : zDev m z1 = true
  · rw [cd, if_neg (show ¬ pb true = 0 from by decide), if_neg (show ¬ pb true = 0 from by decide)]
    obtain ⟨d, hd, rfl⟩ := zDev_lt hm cd
    obtain ⟨⟨p, hp, e⟩, -⟩ := hc.2.2.1 d hd
    have e8 : (8 : Int32) + nI p = nI (8 + p) := pA8 p
    have efp : fp d = nI p := by
      have q := tP0 (m := m) (fp := fp) hm hd
      rw [hc.2.2.2, e] at q; exact q.symm
    rw [rLong (m := m) hm hd, pBs, e, rIn, pBs, pA0, pIx (by omega) (by omega), pCl (by omega), efp, pBs, e8]
    have e7 : nI (8 + p) - 1 = nI (7 + p) := p_87 p
    rw [e7]
    by_cases c1 : z2 < 0
    · rw [if_pos c1, if_pos (show pb (!decide (z2 < 0) && !decide (nI (7 + p) < z2)) = 0 by simp [c1, pb])]; exact ⟨_, rfl, rfl⟩
    · rw [if_neg c1]
      obtain ⟨k, hk, rfl⟩ := nI_of c1
      by_cases c2 : 8 + p ≤ k
      · rw [if_pos ((pLe (by omega) hk).mpr c2), if_pos (show pb (!decide (nI k < 0) && !decide (nI (7 + p) < nI k)) = 0 by
          have : nI (7 + p) < nI k := (pLt (by omega) hk).mpr (by omega)
          simp [this, pb])]; exact ⟨_, rfl, rfl⟩
      · rw [if_neg (fun q => c2 ((pLe (by omega) hk).mp q)), if_neg (show ¬ pb (!decide (nI k < 0) && !decide (nI (7 + p) < nI k)) = 0 by
          have : ¬ nI (7 + p) < nI k := fun q => by have := (pLt (by omega) hk).mp q; omega
          simp [this, c1, pb]), cByte hm (by rw [hc.2.2.2]; exact hc.2.2.1) hd (by omega), pBs, rByte hm hc.2.2.1 hd (by omega), pBs, hc.2.2.2, hr.1]
        exact ⟨_, rfl, rfl⟩
  · have cd' : zDev m z1 = false := by simpa using cd
    rw [cd', if_pos (show pb false = 0 from rfl), if_pos (show pb false = 0 from rfl)]; exact ⟨_, rfl, rfl⟩
theorem at_sim {z1 : Int32} (hc : Cx m t ru fp td) (hr : Rl m fr nw) (hi : iU m ru (tT m td) (nz nw)) : ∃ r, F_X9_at (nI m) ru fp fr z1 = some r ∧ F_X10_at (nI m) nw z1 = some r := by
  have hm := hc.1
  unfold F_X9_at F_X10_at
  have c0 : (1 ≤ z1) ↔ ¬ (z1 ≤ 0) := by
    rw [q_le, q_le]
    have h0 : (0 : Int32).toInt = 0 := by decide
    have h1 : (1 : Int32).toInt = 1 := by decide
    omega
  by_cases c : z1 ≤ 0
  · rw [if_pos c, if_neg (fun q => (c0.mp q) c)]; exact ⟨_, rfl, rfl⟩
  · rw [if_neg c, if_pos (c0.mpr c), cWith hm (by rw [hr.1]; exact hi.1.1.ad) (fun q => c (by rw [q]; exact le_rfl32 _)), pBs, rWho hm, pBs, hr.1]
    exact ⟨_, rfl, rfl⟩
theorem helper_sim {z1 : Int32} (hc : Cx m t ru fp td) (hr : Rl m fr nw) (hi : iU m ru (tT m td) (nz nw)) : ∃ r, F_X9_helper (nI m) ru fp fr z1 = some r ∧ F_X10_helper (nI m) nw z1 = some r := by
  have hm := hc.1
  unfold F_X9_helper F_X10_helper
  rw [cHas hm, pBs, rDev, pBs]
  by_cases cd : zDev m z1 = true
  · rw [cd, if_neg (show ¬ pb true = 0 from by decide), if_neg (show ¬ pb true = 0 from by decide)]
    obtain ⟨d, hd, rfl⟩ := zDev_lt hm cd
    obtain ⟨r, hr'⟩ := hi.1.1.r hm
    have e0 : nz nw d = nw d := pNz (by omega)
    have d8 : ¬ d = 8 := by omega
    rw [cIs (by omega), pBs, rState (by omega), pBs, hr.1, e0]
    by_cases c6 : nw d = 6
    · rw [if_pos c6, if_neg (show ¬ pb (!decide (d = 8) && decide (nw d = 6)) = 0 by simp [d8, c6, pb]), rHelper hm hr' hd (fun _ => by rw [e0, c6]; decide), pBs, pA48, pIx (by omega) (by omega), pCl (by omega), cAbv (by omega), pBs, hr.1]
      have e48 : fr (48 + d) = nz nw (48 + d) := by rw [← hr.1, pNz (by omega)]
      rw [e48]
      unfold zHlp
      rcases (hi.1.1.2.1 d hd).2.2.2.2.2.2.1 (by rw [e0]; exact c6) with ⟨q | q | q, -⟩
      · rw [q, if_pos (by decide), if_neg (by decide)]; exact ⟨_, rfl, rfl⟩
      · rw [q, if_pos (by decide), if_neg (by decide)]; exact ⟨_, rfl, rfl⟩
      · rw [q, if_neg (by decide), if_pos (by decide)]; exact ⟨_, rfl, rfl⟩
    · rw [if_neg c6, if_pos (show pb (!decide (d = 8) && decide (nw d = 6)) = 0 by simp [c6, pb])]; exact ⟨_, rfl, rfl⟩
  · have cd' : zDev m z1 = false := by simpa using cd
    rw [cd', if_pos (show pb false = 0 from rfl), if_pos (show pb false = 0 from rfl)]; exact ⟨_, rfl, rfl⟩
def zSh (T : Nat → Nat → Int32) (N : Nat → Int32) (d : Nat) (a : Int32) : Int32 := if N d = 6 then a + T d 4 else a + 0
theorem shares_sim {z1 z2 : Int32} (hc : Cx m t ru fp td) (hr : Rl m fr nw) : ∃ r, F_X9_shares (nI m) ru fp fr z1 z2 = some r ∧ F_X10_shares (nI m) td nw z1 z2 = some r := by
  have hm := hc.1
  unfold F_X9_shares F_X10_shares
  rw [cHas hm, pBs, rDev, pBs]
  by_cases cd : zDev m z1 = true
  · rw [cd, if_neg (show ¬ pb true = 0 from by decide), if_neg (show ¬ pb true = 0 from by decide)]
    obtain ⟨d, hd, rfl⟩ := zDev_lt hm cd
    have e0 : nz nw d = nw d := pNz (by omega)
    have d8 : ¬ d = 8 := by omega
    rw [cIs (by omega), pBs, rState (by omega), pBs, hr.1, e0]
    by_cases c6 : nw d = 6
    · rw [if_pos c6, if_neg (show ¬ pb (!decide (d = 8) && decide (nw d = 6)) = 0 by simp [d8, c6, pb]), rIn, pBs]
      have hfin : ∀ a : Int32, (if a = 0 then some (0 : Int32) else if ¬ a = 0 then some ((z2 * tT m td d 4) / a) else none) = some (if a = 0 then 0 else (z2 * tT m td d 4) / a) := fun a => by
        by_cases q : a = 0 <;> simp [q]
      have ex := pLoop0 (m := m) (L := fun n i a => FL_X9_shares_42 (nI m) ru fp fr (nI d) z2 n a i) (g := zSh (tT m td) (nz nw)) (fin := fun a => if a = 0 then 0 else (z2 * tT m td d 4) / a) (fun n j a hj => ?_) (fun n a => ?_) 1000 0 (by omega)
      have ey := pLoop0 (m := m) (L := fun n i a => FL_X10_shares_36 (nI m) td nw (nI d) z2 n a i) (g := zSh (tT m td) (nz nw)) (fin := fun a => if a = 0 then 0 else (z2 * tT m td d 4) / a) (fun n j a hj => ?_) (fun n a => ?_) 1000 0 (by omega)
      · have c5 : (999 < z2) ↔ ¬ (z2 ≤ 999) := not_le.symm
        by_cases c1 : z2 < 0
        · rw [if_pos c1, if_pos (show pb (!decide (z2 < 0) && !decide (999 < z2)) = 0 by simp [c1, pb])]; exact ⟨_, rfl, rfl⟩
        · rw [if_neg c1]
          by_cases c2 : z2 ≤ 999
          · have c2' : ¬ 999 < z2 := fun q => (c5.mp q) c2
            rw [if_pos c2, if_neg (show ¬ pb (!decide (z2 < 0) && !decide (999 < z2)) = 0 by simp [c1, c2', pb])]
            exact ⟨_, ex, ey⟩
          · rw [if_neg c2, if_pos (show pb (!decide (z2 < 0) && !decide (999 < z2)) = 0 by simp [c5.mpr c2, pb])]; exact ⟨_, rfl, rfl⟩
      · show FL_X10_shares_36 (nI m) td nw (nI d) z2 (n + 1) a (nI j) = FL_X10_shares_36 (nI m) td nw (nI d) z2 n (zSh (tT m td) (nz nw) j a) (nI (j + 1))
        have ej : nz nw j = nw j := pNz (by omega)
        rw [FL_X10_shares_36, if_neg (by rw [pLe (by omega) (by omega)]; omega), rState (by omega), pBs, pS1]
        unfold zSh
        rw [ej]
        by_cases q : nw j = 6
        · rw [if_pos q, if_pos q, rTold4 (m := m) hm hj, pBs]
        · rw [if_neg q, if_neg q]
      · show FL_X10_shares_36 (nI m) td nw (nI d) z2 (n + 1) a (nI m) = _
        rw [FL_X10_shares_36, if_pos (le_rfl32 _), rTold4 (m := m) hm hd, pBs]; exact hfin a
      · show FL_X9_shares_42 (nI m) ru fp fr (nI d) z2 (n + 1) a (nI j) = FL_X9_shares_42 (nI m) ru fp fr (nI d) z2 n (zSh (tT m td) (nz nw) j a) (nI (j + 1))
        have j8 : ¬ j = 8 := by omega
        have et : fp (32 + j) = tT m td j 4 := by
          have q := tP4 (m := m) (fp := fp) hm hj
          rw [hc.2.2.2] at q; exact q.symm
        rw [FL_X9_shares_42, if_neg (by rw [pLe (by omega) (by omega)]; omega), cIs (by omega), pBs, pS1, pA32, pIx (by omega) (by omega), pCl (by omega), et, hr.1]
        unfold zSh
        by_cases q : nz nw j = 6
        · rw [if_pos q, if_neg (show ¬ pb (!decide (j = 8) && decide (nz nw j = 6)) = 0 by simp [j8, q, pb])]
        · rw [if_neg q, if_pos (show pb (!decide (j = 8) && decide (nz nw j = 6)) = 0 by simp [q, pb])]
      · show FL_X9_shares_42 (nI m) ru fp fr (nI d) z2 (n + 1) a (nI m) = _
        have et : fp (32 + d) = tT m td d 4 := by
          have q := tP4 (m := m) (fp := fp) hm hd
          rw [hc.2.2.2] at q; exact q.symm
        rw [FL_X9_shares_42, if_pos (le_rfl32 _), pA32, pIx (by omega) (by omega), pCl (by omega), et]; exact hfin a
    · rw [if_neg c6, if_pos (show pb (!decide (d = 8) && decide (nw d = 6)) = 0 by simp [c6, pb])]; exact ⟨_, rfl, rfl⟩
  · have cd' : zDev m z1 = false := by simpa using cd
    rw [cd', if_pos (show pb false = 0 from rfl), if_pos (show pb false = 0 from rfl)]; exact ⟨_, rfl, rfl⟩
end
end

section
/-! hubs, and all -/
section
variable {m t : Nat} {ru fp td fr nw : Nat → Int32}
theorem takes_b {T : Nat → Nat → Int32} {N : Nat → Int32} {d : Nat} (hT : wT m T) (hd : d < m) : 0 ≤ (zTakes T N d).toInt ∧ (zTakes T N d).toInt ≤ 9 := by
  obtain ⟨u, hu, e⟩ := zTakes_9 (N := N) hT hd
  rw [e, nI_toInt (by omega)]; omega
theorem left_b {R : Nat → Int32} {T : Nat → Nat → Int32} {N : Nat → Int32} {h : Nat} {out : Int32} (hm : m ≤ 8) (hT : wT m T) (hg : ∃ g, g ≤ 9 ∧ R 4 = nI g) (hh : h < m) : (zLeft m R T N h out).toInt ≤ 9 := by
  unfold zLeft
  obtain ⟨-, -, ⟨u, hu, eu⟩, -⟩ := hT h hh
  have hb : -9 ≤ (zGv R N (N (32 + h)) - T h 2).toInt ∧ (zGv R N (N (32 + h)) - T h 2).toInt ≤ 9 := by
    have : ∃ g, g ≤ 9 ∧ zGv R N (N (32 + h)) = nI g := by
      unfold zGv
      split
      · exact hg
      · split
        · exact ⟨5, by omega, rfl⟩
        · exact ⟨1, by omega, rfl⟩
    obtain ⟨g, hg', eg⟩ := this
    rw [eg, eu, pk_sub_toInt (by omega) (by omega)]; omega
  have := pF_inv (g := zLf T N h out) (fun j a => j ≤ m ∧ -9 - 9 * (j : Int) ≤ a.toInt ∧ a.toInt ≤ 9) m 0 (zGv R N (N (32 + h)) - T h 2) (fun i a _ hi hI => ?_) ⟨by omega, by omega, hb.2⟩
  · exact this.2.2
  · unfold zLf
    have tb := takes_b (T := T) (N := N) hT (show i < m by omega)
    obtain ⟨h1, h2, h3⟩ := hI
    split
    · have e : (a - zTakes T N i).toInt = a.toInt - (zTakes T N i).toInt := by
        rw [Int32.toInt_sub, Int.bmod_eq_of_le (by omega) (by omega)]
      rw [e]
      refine ⟨by omega, ?_, by omega⟩
      have : ((i + 1 : Nat) : Int) = (i : Int) + 1 := by omega
      omega
    · refine ⟨by omega, ?_, h3⟩
      have : ((i + 1 : Nat) : Int) = (i : Int) + 1 := by omega
      omega
theorem hub_sim {z1 z2 : Int32} (hc : Cx m t ru fp td) (hg : 0 < m → ∃ g, g ≤ 9 ∧ ru 4 = nI g) (hr : Rl m fr nw) (hi : iU m ru (tT m td) (nz nw)) : ∃ r, F_X9_hub (nI m) ru fp fr z1 z2 = some r ∧ F_X10_hub (nI m) ru td nw z1 z2 = some r := by
  have hm := hc.1
  unfold F_X9_hub F_X10_hub
  rw [rHub hm, pBs, cHub hm hc.2.1, pBs, hc.2.2.2]
  by_cases ch : zHub m (tT m td) z1 = true
  · have hcc := zHub_c ch
    obtain ⟨h, hh, rfl, hh2⟩ := hub_nI hm ch
    rw [ch, if_neg (show ¬ pb true = 0 from by decide), if_neg (show ¬ pb true = 0 from by decide)]
    have h0 : 0 < m := by
      rcases hcc with q | q
      · exact q.1
      · obtain ⟨d, hd, -⟩ := zDev_lt hm q; omega
    have hb1 : (nI h : Int32) ≠ -1 := by rw [Ne, pNm (by omega)]; exact id
    have h8 : (nI h = 8) = (h = 8) := pE8 (by omega)
    obtain ⟨r, hr'⟩ := hi.1.1.r hm
    have ep : F_X10_portsOf ru td (nI h) = some (zPrt ru (tT m td) (nI h)) := by
      unfold zPrt
      rcases hh2 with rfl | hh2
      · exact rPorts8
      · rw [if_neg (by rw [pE8 (by omega)]; omega), rPorts (m := m) hm (by omega), pCl (by omega)]
    have hfw : wF m (nz fr) := by rw [hr.1]; exact hi.1.1.f
    have hsw : wS m (nz fr) := by rw [hr.1]; exact hi.1.1.s
    have hrn : wRn m (nz fr) := by rw [hr.1]; exact hi.1.1.rn
    simp only [rIn, pBs, cBeneath hm, rBeneath hm hr' hi.1.1.f hh, cRight hm hfw hb1, pCount hm, rRight hm, pBits hm, cGives, rGives hh, cBound hh, cHelp hm hsw hrn hb1, rHelp hm hr' hi.1.1.q, cPorts hm hcc, ep, cIs hh, hr.1, hc.2.2.2]
    have key3 : ∀ X : Option Int32, ∃ r, (if pb (decide (h = 8) || decide (nz nw (72 + h) = 1)) = 0 then (if pb (!decide (h = 8) && decide (nz nw h = 0)) = 0 then ((F_X0_leftOf fr (nI m) ru fp (nI h) (-1)).bind fun o_20 => some o_20) else some (-1000000)) else some (-1000000)) = some r ∧ (if nI h = 8 then ((F_X10_leftOf (nI m) ru td nw (nI h) (-1)).bind fun o_18 => if o_18 = 1000000 then some (-1000000) else some o_18) else ((F_X10_state nw (nI h)).bind fun o_21 => if o_21 = 0 then some (-1000000) else ((F_X10_leftOf (nI m) ru td nw (nI h) (-1)).bind fun o_24 => if o_24 = 1000000 then some (-1000000) else some o_24))) = some r := fun _ => by
      by_cases q8 : h = 8
      · subst q8
        rw [if_neg (show ¬ pb (decide (8 = 8) || decide (nz nw (72 + 8) = 1)) = 0 by simp [pb]), if_pos (show nI 8 = 8 from rfl), rLeft hm (by omega) (Or.inl rfl), pBs, if_pos (show (if (8 : Nat) = 8 ∨ nz nw (72 + 8) = 1 then (1000000 : Int32) else zLeft m ru (tT m td) (nz nw) 8 (-1)) = 1000000 from if_pos (Or.inl rfl))]
        exact ⟨_, rfl, rfl⟩
      · have hhm : h < m := hh2.resolve_left q8
        have e0 : nz nw h = nw h := pNz (by omega)
        have n8 : ¬ (nI h : Int32) = 8 := by rw [h8]; exact q8
        rw [if_neg n8, rState (by omega), pBs]
        by_cases q0 : nw h = 0
        · rw [if_pos q0]
          by_cases q7 : nz nw (72 + h) = 1
          · rw [if_neg (show ¬ pb (decide (h = 8) || decide (nz nw (72 + h) = 1)) = 0 by simp [q7, pb])]; exact ⟨_, rfl, rfl⟩
          · rw [if_pos (show pb (decide (h = 8) || decide (nz nw (72 + h) = 1)) = 0 by simp [q8, q7, pb]), if_neg (show ¬ pb (!decide (h = 8) && decide (nz nw h = 0)) = 0 by simp [q8, e0, q0, pb])]; exact ⟨_, rfl, rfl⟩
        · rw [if_neg q0, rLeft hm hh (Or.inr ⟨hhm, hi.1.1.h hm h hhm (by rw [e0]; exact q0)⟩), pBs]
          by_cases q7 : nz nw (72 + h) = 1
          · rw [if_neg (show ¬ pb (decide (h = 8) || decide (nz nw (72 + h) = 1)) = 0 by simp [q7, pb]), if_pos (Or.inr q7), if_pos rfl]; exact ⟨_, rfl, rfl⟩
          · have nn : ¬ (h = 8 ∨ nz nw (72 + h) = 1) := fun q => q.elim q8 q7
            rw [if_pos (show pb (decide (h = 8) || decide (nz nw (72 + h) = 1)) = 0 by simp [q8, q7, pb]), if_pos (show pb (!decide (h = 8) && decide (nz nw h = 0)) = 0 by simp [e0, q0, pb]), if_neg nn, cLeft hm hhm, pBs, hr.1, hc.2.2.2]
            have := left_b (N := nz nw) (out := -1) hm hc.2.2.1 (hg h0) hhm
            rw [if_neg (fun q => by rw [q] at this; exact absurd this (by decide))]
            exact ⟨_, rfl, rfl⟩
    obtain ⟨r3, k31, k32⟩ := key3 none
    by_cases ci : (!decide (z2 < 0) && !decide (5 < z2)) = true
    · rw [show (!decide (z2 < 0) && !decide ((5 : Int32) < z2)) = true from ci, if_neg (show ¬ pb true = 0 from by decide)]
      obtain ⟨k, hk, rfl⟩ := (in_c (a := 5) (by omega)).mp ci
      have : k = 0 ∨ k = 1 ∨ k = 2 ∨ k = 3 ∨ k = 4 ∨ k = 5 := by omega
      rcases this with rfl | rfl | rfl | rfl | rfl | rfl
      · exact ⟨_, rfl, rfl⟩
      · exact ⟨_, rfl, rfl⟩
      · exact ⟨_, rfl, rfl⟩
      · exact ⟨r3, k31, k32⟩
      · exact ⟨_, rfl, rfl⟩
      · exact ⟨_, rfl, rfl⟩
    · have ci' : (!decide (z2 < 0) && !decide (5 < z2)) = false := by simpa using ci
      rw [show (!decide (z2 < 0) && !decide ((5 : Int32) < z2)) = false from ci', if_pos (show pb false = 0 from rfl)]
      have ne : ∀ k, k ≤ 5 → ¬ z2 = nI k := fun k hk q => ci ((in_c (a := 5) (by omega)).mpr ⟨k, hk, q⟩)
      rw [if_neg (show ¬ z2 = 0 from ne 0 (by omega)), if_neg (show ¬ z2 = 1 from ne 1 (by omega)), if_neg (show ¬ z2 = 2 from ne 2 (by omega)), if_neg (show ¬ z2 = 3 from ne 3 (by omega)), if_neg (show ¬ z2 = 4 from ne 4 (by omega)), if_neg (show ¬ z2 = 5 from ne 5 (by omega))]
      exact ⟨_, rfl, rfl⟩
  · have ch' : zHub m (tT m td) z1 = false := by simpa using ch
    rw [ch', if_pos (show pb false = 0 from rfl), if_pos (show pb false = 0 from rfl)]; exact ⟨_, rfl, rfl⟩
def zDpm (N : Nat → Int32) (d : Nat) (a : Int32) : Int32 := if a < zDepth N d then zDepth N d else a
theorem deep_c (hm : m ≤ 8) : F_X0_greatestDepth fr (nI m) ru fp = some (pF (zDpm (nz fr)) m 0 0) := by
  unfold F_X0_greatestDepth
  refine pLoop0 (m := m) (L := fun n i a => FL_X0_greatestDepth_4 fr (nI m) ru fp n a i) (g := zDpm (nz fr)) (fin := id) (fun n j a hj => ?_) (fun n a => ?_) 1000 0 (by omega)
  · show FL_X0_greatestDepth_4 fr (nI m) ru fp (n + 1) a (nI j) = _
    rw [FL_X0_greatestDepth_4, if_neg (by rw [pLe (by omega) (by omega)]; omega), cDepth (by omega), pBs, pS1]; rfl
  · show FL_X0_greatestDepth_4 fr (nI m) ru fp (n + 1) a (nI m) = _
    rw [FL_X0_greatestDepth_4, if_pos (le_rfl32 _)]; rfl
theorem deep_r (hm : m ≤ 8) (hi : iN m (nz nw)) : F_X10_deepest (nI m) nw = some (pF (zDpm (nz nw)) m 0 0) := by
  obtain ⟨r, hr⟩ := hi.r hm
  unfold F_X10_deepest
  refine pLoop0 (m := m) (L := fun n i a => FL_X10_deepest_4 (nI m) nw n a i) (g := zDpm (nz nw)) (fin := id) (fun n j a hj => ?_) (fun n a => ?_) 1000 0 (by omega)
  · show FL_X10_deepest_4 (nI m) nw (n + 1) a (nI j) = _
    rw [FL_X10_deepest_4, if_neg (by rw [pLe (by omega) (by omega)]; omega), rDepth hm hr hi.f hj, pBs, pS1]; rfl
  · show FL_X10_deepest_4 (nI m) nw (n + 1) a (nI m) = _
    rw [FL_X10_deepest_4, if_pos (le_rfl32 _)]; rfl
theorem free_r (hc : Cx m t ru fp td) (h0 : 0 < m) : ∃ r, F_X10_freeAddresses (nI m) ru nw = some r := by
  have hm := hc.1
  obtain ⟨ht, h7, -⟩ := hc.2.1 h0
  unfold F_X10_freeAddresses
  have hl : ∀ (k j n : Nat) (a : Int32), j + k = t + 1 → k < n → ∃ r, FL_X10_freeAddresses_4 (nI m) ru nw n a (nI j) = some r := by
    intro k
    induction k with
    | zero =>
      intro j n a h1 h2
      obtain ⟨n, rfl⟩ : ∃ x, n = x + 1 := ⟨n - 1, by omega⟩
      rw [FL_X10_freeAddresses_4, h7, if_pos (by rw [pLt (by omega) (by omega)]; omega)]; exact ⟨_, rfl⟩
    | succ k ih =>
      intro j n a h1 h2
      obtain ⟨n, rfl⟩ : ∃ x, n = x + 1 := ⟨n - 1, by omega⟩
      rw [FL_X10_freeAddresses_4, h7, if_neg (by rw [pLt (by omega) (by omega)]; omega), rWho hm, pBs, pS1]
      split
      · exact ih (j + 1) n _ (by omega) (by omega)
      · exact ih (j + 1) n _ (by omega) (by omega)
  exact hl t 1 1000 0 (by omega) (by omega)
theorem supplied_c (hc : Cx m t ru fp td) : F_X0_suppliedHubs fr (nI m) ru fp = some (pSet (fun d => decide (nz fr (72 + d) = 1) && zHub m (tT m td) (nI d)) m) := by
  have hm := hc.1
  unfold F_X0_suppliedHubs
  refine pLoop0 (m := m) (L := fun n i a => FL_X0_suppliedHubs_4 fr (nI m) ru fp n a i) (fin := id) (fun n j a hj => ?_) (fun n a => ?_) 1000 0 (by omega)
  · show FL_X0_suppliedHubs_4 fr (nI m) ru fp (n + 1) a (nI j) = _
    have e : nz fr (72 + j) = fr (72 + j) := pNz (by omega)
    rw [FL_X0_suppliedHubs_4, if_neg (by rw [pLe (by omega) (by omega)]; omega), cHub hm hc.2.1, pBs, hc.2.2.2, pA72, pIx (by omega) (by omega), pCl (by omega), pS1]
    unfold pSb
    by_cases q : fr (72 + j) = 1 <;> by_cases q2 : zHub m (tT m td) (nI j) = true <;> simp [e, q, q2, pb]
  · show FL_X0_suppliedHubs_4 fr (nI m) ru fp (n + 1) a (nI m) = _
    rw [FL_X0_suppliedHubs_4, if_pos (le_rfl32 _)]; rfl
theorem supplied_r (hc : Cx m t ru fp td) : F_X10_supplied (nI m) td nw = some (pSet (fun d => decide (nz nw (72 + d) = 1) && zHub m (tT m td) (nI d)) m) := by
  have hm := hc.1
  unfold F_X10_supplied
  refine pLoop0 (m := m) (L := fun n i a => FL_X10_supplied_4 (nI m) td nw n a i) (fin := id) (fun n j a hj => ?_) (fun n a => ?_) 1000 0 (by omega)
  · show FL_X10_supplied_4 (nI m) td nw (n + 1) a (nI j) = _
    have e : nz nw (72 + j) = nw (72 + j) := pNz (by omega)
    rw [FL_X10_supplied_4, if_neg (by rw [pLe (by omega) (by omega)]; omega), rHub hm, pBs, pA72, pIx (by omega) (by omega), pCl (by omega), pS1]
    unfold pSb
    by_cases q : nw (72 + j) = 1 <;> by_cases q2 : zHub m (tT m td) (nI j) = true <;> simp [e, q, q2, pb]
  · show FL_X10_supplied_4 (nI m) td nw (n + 1) a (nI m) = _
    rw [FL_X10_supplied_4, if_pos (le_rfl32 _)]; rfl
theorem slps_c (hm : m ≤ 8) : F_X0_sleepers fr (nI m) ru fp = some (pSet (fun d => decide (nz fr (88 + d) = 1)) m) := by
  unfold F_X0_sleepers
  refine pLoop0 (m := m) (L := fun n i a => FL_X0_sleepers_4 fr (nI m) ru fp n a i) (fin := id) (fun n j a hj => ?_) (fun n a => ?_) 1000 0 (by omega)
  · show FL_X0_sleepers_4 fr (nI m) ru fp (n + 1) a (nI j) = _
    have e : nz fr (88 + j) = fr (88 + j) := pNz (by omega)
    rw [FL_X0_sleepers_4, if_neg (by rw [pLe (by omega) (by omega)]; omega), pA88, pIx (by omega) (by omega), pCl (by omega), pS1]
    unfold pSb
    by_cases q : fr (88 + j) = 1 <;> simp [e, q]
  · show FL_X0_sleepers_4 fr (nI m) ru fp (n + 1) a (nI m) = _
    rw [FL_X0_sleepers_4, if_pos (le_rfl32 _)]; rfl
def zWk (m : Nat) (R : Nat → Int32) (T : Nat → Nat → Int32) (N : Nat → Int32) (d : Nat) : Bool := decide (N (88 + d) = 1) && zWake m R T N d (N (32 + d)).toNatClampNeg
theorem wk6 {N : Nat → Int32} {d : Nat} (hm : m ≤ 8) (hi : iN m N) (hd : d < m) (h : N (88 + d) = 1) : N d = 6 ∧ ∃ x, x ≤ 8 ∧ N (32 + d) = nI x ∧ (x = 8 ∨ (x < m ∧ N x = 6)) := by
  have h6 : N d = 6 := Decidable.byContradiction (fun r => by
    have := ((hi.2.1 d hd).2.2.2.2.2.1 r).2.2
    rw [h] at this; exact absurd this (by decide))
  exact ⟨h6, hub36 hm hi.2.2 hd (Or.inr (Or.inr (Or.inr h6)))⟩
theorem wks_c (hc : Cx m t ru fp td) (hi : iU m ru (tT m td) (nz fr)) : F_X0_wakers fr (nI m) ru fp = some (pSet (zWk m ru (tT m td) (nz fr)) m) := by
  have hm := hc.1
  unfold F_X0_wakers
  refine pLoop0 (m := m) (L := fun n i a => FL_X0_wakers_4 fr (nI m) ru fp n a i) (fin := id) (fun n j a hj => ?_) (fun n a => ?_) 1000 0 (by omega)
  · show FL_X0_wakers_4 fr (nI m) ru fp (n + 1) a (nI j) = _
    have e : nz fr (88 + j) = fr (88 + j) := pNz (by omega)
    rw [FL_X0_wakers_4, if_neg (by rw [pLe (by omega) (by omega)]; omega), pA88, pIx (by omega) (by omega), pCl (by omega), pS1]
    unfold pSb zWk
    by_cases q : fr (88 + j) = 1
    · obtain ⟨h6, x, hx, hh, -⟩ := wk6 hm hi.1.1 hj (by rw [e]; exact q)
      rw [if_pos q, cWake hm hi.1.1 hj (by rw [h6]; decide) hx hh, pBs, hc.2.2.2]
      have ex : (nI x).toNatClampNeg = x := pCl (by omega)
      by_cases q2 : zWake m ru (tT m td) (nz fr) j x = true <;> simp [e, hh, ex, q, q2, pb]
    · simp [e, q]
  · show FL_X0_wakers_4 fr (nI m) ru fp (n + 1) a (nI m) = _
    rw [FL_X0_wakers_4, if_pos (le_rfl32 _)]; rfl
theorem slps_r {z : Int32} (hc : Cx m t ru fp td) (hi : iU m ru (tT m td) (nz nw)) : F_X10_sleepers (nI m) ru td nw z = some (pSet (fun d => if z = 0 then decide (nz nw (88 + d) = 1) else zWk m ru (tT m td) (nz nw) d) m, nw) := by
  have hm := hc.1
  unfold F_X10_sleepers
  refine pLoop0 (m := m) (L := fun n i a => FL_X10_sleepers_4 (nI m) ru td nw z n a i nw) (fin := fun a => (a, nw)) (fun n j a hj => ?_) (fun n a => ?_) 1000 0 (by omega)
  · show FL_X10_sleepers_4 (nI m) ru td nw z (n + 1) a (nI j) nw = _
    have e : nz nw (88 + j) = nw (88 + j) := pNz (by omega)
    have es : zSlp (nz nw) j = decide (nw (88 + j) = 1) := by
      unfold zSlp; rw [e]
      have : ¬ j = 8 := by omega
      simp [this]
    rw [FL_X10_sleepers_4, if_neg (by rw [pLe (by omega) (by omega)]; omega), rAsleep (by omega), pBs, pS1, es]
    unfold pSb zWk
    by_cases q : nw (88 + j) = 1
    · obtain ⟨h6, x, hx, hh, hx6⟩ := wk6 hm hi.1.1 hj (by rw [e]; exact q)
      rw [rWake hm hc.2.2.1 hi.1 hj h6 (by rw [e]; exact q) hx hh hx6, pBs]
      have ex : (nI x).toNatClampNeg = x := pCl (by omega)
      by_cases qz : z = 0 <;> by_cases q2 : zWake m ru (tT m td) (nz nw) j x = true <;> simp [e, hh, ex, q, q2, qz, pb]
    · by_cases qz : z = 0 <;> simp [e, q, qz, pb]
  · show FL_X10_sleepers_4 (nI m) ru td nw z (n + 1) a (nI m) nw = _
    rw [FL_X10_sleepers_4, if_pos (le_rfl32 _)]
theorem all_sim {z1 : Int32} (hc : Cx m t ru fp td) (hr : Rl m fr nw) (hi : iU m ru (tT m td) (nz nw)) (h96 : fr 96 = nw 96) : ∃ r r', F_X9_all (nI m) ru fp fr z1 = some r ∧ F_X10_all (nI m) ru td nw z1 = some (r', nw) ∧ (z1 ≠ 9 → r = r') := by
  have hm := hc.1
  unfold F_X9_all F_X10_all F_X5_isTold
  rw [rTree hm, pBs, rIn, pBs]
  by_cases m0 : m = 0
  · subst m0; exact ⟨_, _, rfl, rfl, fun _ => rfl⟩
  · have m0' : 0 < m := by omega
    rw [if_neg (by rw [pLe0 (by omega)]; exact m0), pBs, if_neg (show ¬ (1 : Int32) = 0 from by decide), if_neg (show ¬ pb (decide (0 < m)) = 0 by simp [m0', pb])]
    obtain ⟨r, hr'⟩ := hi.1.1.r hm
    obtain ⟨rf, hrf⟩ := free_r (nw := nw) hc m0'
    have hif : iU m ru (tT m td) (nz fr) := by rw [hr.1]; exact hi
    have f9 : ∃ q, F_X0_freeAddresses fr (nI m) ru fp = some q := by unfold F_X0_freeAddresses; rw [cRunning hm, pBs]; exact ⟨_, rfl⟩
    obtain ⟨q9, f9⟩ := f9
    have x1 := cAll (fr := fr) (fu := ru) (fp := fp) (e := 0) hm
    have x2 := cAll (fr := fr) (fu := ru) (fp := fp) (e := 1) hm
    have x3 := cAll (fr := fr) (fu := ru) (fp := fp) (e := 2) hm
    have x4 := cAll (fr := fr) (fu := ru) (fp := fp) (e := 6) hm
    have x5 := cAll (fr := fr) (fu := ru) (fp := fp) (e := 7) hm
    have y1 := rThose (nw := nw) (w := 0) hm
    have y2 := rThose (nw := nw) (w := 1) hm
    have y3 := rThose (nw := nw) (w := 2) hm
    have y4 := rThose (nw := nw) (w := 6) hm
    have y5 := rThose (nw := nw) (w := 7) hm
    rw [hr.1] at x1 x2 x3 x4 x5
    rw [x1, pBs, x2, pBs, x3, pBs, x4, pBs, x5, pBs, cStanding hm, pBs, cBus hm (by rw [hr.1]; exact hr') (by rw [hr.1]; exact hi.1.1.s) (by rw [hr.1]; exact hi.1.1.rn), pBs, deep_c hm, pBs, f9, pBs, supplied_c hc, pBs, slps_c hm, pBs, wks_c hc hif, pBs, hc.2.2.2, hr.1, h96]
    rw [y1, pBs, y2, pBs, y3, pBs, y4, pBs, y5, pBs, rBusy hm, pBs, rBus hm hr' hi.1.1.q, pBs, deep_r hm hi.1.1, pBs, hrf, pBs, supplied_r hc, pBs, slps_r hc hi, pBs, slps_r hc hi, pBs]
    by_cases ci : (!decide (z1 < 0) && !decide (12 < z1)) = true
    · rw [show (!decide (z1 < 0) && !decide ((12 : Int32) < z1)) = true from ci, if_neg (show ¬ pb true = 0 from by decide)]
      obtain ⟨k, hk, rfl⟩ := (in_c (a := 12) (by omega)).mp ci
      have : k = 0 ∨ k = 1 ∨ k = 2 ∨ k = 3 ∨ k = 4 ∨ k = 5 ∨ k = 6 ∨ k = 7 ∨ k = 8 ∨ k = 9 ∨ k = 10 ∨ k = 11 ∨ k = 12 := by omega
      rcases this with rfl | rfl | rfl | rfl | rfl | rfl | rfl | rfl | rfl | rfl | rfl | rfl | rfl
      · exact ⟨_, _, rfl, rfl, fun _ => rfl⟩
      · exact ⟨_, _, rfl, rfl, fun _ => rfl⟩
      · exact ⟨_, _, rfl, rfl, fun _ => rfl⟩
      · exact ⟨_, _, rfl, rfl, fun _ => rfl⟩
      · exact ⟨_, _, rfl, rfl, fun _ => rfl⟩
      · exact ⟨_, _, rfl, rfl, fun _ => rfl⟩
      · exact ⟨_, _, rfl, rfl, fun _ => rfl⟩
      · exact ⟨_, _, rfl, rfl, fun _ => rfl⟩
      · exact ⟨_, _, rfl, rfl, fun _ => rfl⟩
      · exact ⟨_, _, rfl, rfl, fun q => absurd rfl q⟩
      · exact ⟨_, _, rfl, rfl, fun _ => rfl⟩
      · exact ⟨_, _, rfl, rfl, fun _ => rfl⟩
      · exact ⟨_, _, rfl, rfl, fun _ => rfl⟩
    · have ci' : (!decide (z1 < 0) && !decide (12 < z1)) = false := by simpa using ci
      rw [show (!decide (z1 < 0) && !decide ((12 : Int32) < z1)) = false from ci', if_pos (show pb false = 0 from rfl)]
      have ne : ∀ k, k ≤ 12 → ¬ z1 = nI k := fun k hk q => ci ((in_c (a := 12) (by omega)).mpr ⟨k, hk, q⟩)
      rw [if_neg (show ¬ z1 = 0 from ne 0 (by omega)), if_neg (show ¬ z1 = 1 from ne 1 (by omega)), if_neg (show ¬ z1 = 2 from ne 2 (by omega)), if_neg (show ¬ z1 = 3 from ne 3 (by omega)), if_neg (show ¬ z1 = 4 from ne 4 (by omega)), if_neg (show ¬ z1 = 5 from ne 5 (by omega)), if_neg (show ¬ z1 = 6 from ne 6 (by omega)), if_neg (show ¬ z1 = 7 from ne 7 (by omega)), if_neg (show ¬ z1 = 8 from ne 8 (by omega)), if_neg (show ¬ z1 = 9 from ne 9 (by omega)), if_neg (show ¬ z1 = 10 from ne 10 (by omega)), if_neg (show ¬ z1 = 11 from ne 11 (by omega)), if_neg (show ¬ z1 = 12 from ne 12 (by omega))]
      exact ⟨_, _, rfl, rfl, fun _ => rfl⟩
end
end
