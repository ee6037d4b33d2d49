/-! foresight: it ends, and leaves what it must -/
theorem ntz_tot (z : Int32) : ∃ r, F_J6_numberOfTrailingZeros_0f7a4 z = some r := by
  unfold F_J6_numberOfTrailingZeros_0f7a4
  simp only [pBs]
  repeat' split
  all_goals exact ⟨_, rfl⟩
theorem cTick_t {m t : Nat} {ru fp td fr : Nat → Int32} (hc : Cx m t ru fp td) (h0 : 0 < m) (hi : iU m ru (tT m td) (nz fr)) : ∃ f, F_X0_passTick fr (nI m) ru fp = some f ∧ iU m ru (tT m td) (nz f) := by
  obtain ⟨hm, hR, hT, hTT⟩ := hc
  obtain ⟨f, f1, f2, f3⟩ := cTick (fr := fr) (fu := ru) (fp := fp) hm (hR h0) (by rw [hTT]; exact hT) (by rw [hTT]; exact hi.1)
  rw [hTT] at f2
  exact ⟨f, f1, by rw [f2]; exact zTk_iU hm (hR h0) hT hi⟩
theorem rTick_t {m t : Nat} {ru fp td nw : Nat → Int32} (hc : Cx m t ru fp td) (h0 : 0 < m) (hi : iU m ru (tT m td) (nz nw)) : ∃ g, F_X10_tickNow (nI m) ru td nw = some g ∧ iU m ru (tT m td) (nz g) ∧ kD nw g := by
  obtain ⟨f, g, -, g1, -, g2, -, -, g3⟩ := tick_sim hc h0 (⟨rfl, fun _ _ _ => rfl⟩ : Rl m nw nw) hi
  exact ⟨g, g1, g2, g3⟩
section
variable {m t : Nat} {ru fp td : Nat → Int32}
theorem play_L {fa0 fr0 : Nat → Int32} {d : Nat} {z2 : Int32} (hc : Cx m t ru fp td) (h0 : 0 < m) (hd : d < m) (hz : z2 ≤ 200) : ∀ (k j n : Nat) (f : Nat → Int32), j + k = 201 → k < n → iU m ru (tT m td) (nz f) → ∃ r f', FL_X3_playTillRunning_2 fa0 fr0 (nI m) ru fp (nI d) z2 n (nI j) f = some (r, f') ∧ (r = -1 ∨ ∃ x, x ≤ 200 ∧ r = nI x)
  | k, j, 0, f, _, h, _ => absurd h (by omega)
  | 0, j, n + 1, f, h1, h2, hi => by
    obtain rfl : j = 201 := by omega
    have : z2 < nI 201 := by
      rw [q_le] at hz; rw [q_lt]
      have a : (200 : Int32).toInt = 200 := by decide
      have b : (nI 201).toInt = 201 := nI_toInt (by omega)
      omega
    rw [FL_X3_playTillRunning_2, if_pos this]
    exact ⟨_, _, rfl, Or.inl rfl⟩
  | k + 1, j, n + 1, f, h1, h2, hi => by
    have hm := hc.1
    rw [FL_X3_playTillRunning_2]
    by_cases c : z2 < nI j
    · rw [if_pos c]; exact ⟨_, _, rfl, Or.inl rfl⟩
    · rw [if_neg c, cIs (by omega), pBs]
      split
      · unfold F_X0_isOver
        split
        · rw [pBs, if_pos rfl, cStill hm (hi.1.1.h hm) hi.1.1.f, pBs]
          split
          · obtain ⟨f', f1, f2⟩ := cTick_t hc h0 hi
            rw [f1, pBs, pS1]
            exact play_L hc h0 hd hz k (j + 1) n f' (by omega) (by omega) f2
          · exact ⟨_, _, rfl, Or.inl rfl⟩
        · rw [pBs, if_neg (by decide)]; exact ⟨_, _, rfl, Or.inl rfl⟩
      · exact ⟨_, _, rfl, Or.inr ⟨j, by omega, rfl⟩⟩
theorem cpy98 {f g : Nat → Int32} : nz (va_cpy f g 0 0 98) = nz f := nz_congr (fun k hk => by simp only [va_cpy]; rw [if_pos (by omega), show 0 + (k - 0) = k from by omega])
theorem when_c {fr fa : Nat → Int32} {z1 : Int32} (hc : Cx m t ru fp td) (hi : iU m ru (tT m td) (nz fr)) : ∃ r fa', F_X9_when (nI m) ru fp fr fa z1 = some (r, fa') := by
  have hm := hc.1
  unfold F_X9_when
  rw [cHas hm, pBs]
  split
  · exact ⟨_, _, rfl⟩
  · rename_i hd
    obtain ⟨d, hd', rfl⟩ := zDev_lt hm (show zDev m z1 = true by cases h : zDev m z1 with | true => rfl | false => rw [h] at hd; exact absurd rfl hd)
    rw [cIs (by omega), pBs]
    split
    · unfold F_X3_ticksTillRunning F_X0_copyFrom F_X3_playTillRunning
      rw [pBs]
      obtain ⟨r, f', e, -⟩ := play_L (fa0 := va_cpy fr fa 0 0 98) (fr0 := fr) (z2 := 200) hc (by omega) hd' (le_rfl32 _) 201 0 1000 (va_cpy fr fa 0 0 98) (by omega) (by omega) (by rw [cpy98]; exact hi)
      rw [show FL_X3_playTillRunning_2 (va_cpy fr fa 0 0 98) fr (nI m) ru fp (nI d) 200 1000 0 (va_cpy fr fa 0 0 98) = _ from e, pBs, pBs]
      exact ⟨_, _, rfl⟩
    · exact ⟨_, _, rfl⟩
theorem behind_L {fa0 fr0 : Nat → Int32} {q : Nat} {z2 : Int32} (hc : Cx m t ru fp td) (h0 : 0 < m) (hq : q ≤ 200) : ∀ (k j n : Nat) (f : Nat → Int32), j + k = q → k < n → iU m ru (tT m td) (nz f) → ∃ r f', FL_X3_allBehind_13 fa0 fr0 (nI m) ru fp (nI q) z2 n (nI j) f = some (r, f')
  | k, j, 0, f, _, h, _ => absurd h (by omega)
  | 0, j, n + 1, f, h1, h2, hi => by
    obtain rfl : j = q := by omega
    rw [FL_X3_allBehind_13, if_pos (le_rfl32 _), cAll hc.1, pBs]
    exact ⟨_, _, rfl⟩
  | k + 1, j, n + 1, f, h1, h2, hi => by
    obtain ⟨f', f1, f2⟩ := cTick_t hc h0 hi
    rw [FL_X3_allBehind_13, if_neg (by rw [pLe (by omega) (by omega)]; omega), f1, pBs, pS1]
    exact behind_L hc h0 hq k (j + 1) n f' (by omega) (by omega) f2
theorem ahead_c {fr fa : Nat → Int32} {z1 z2 : Int32} (hc : Cx m t ru fp td) (hi : iU m ru (tT m td) (nz fr)) : ∃ r fa', F_X9_ahead (nI m) ru fp fr fa z1 z2 = some (r, fa') := by
  have hm := hc.1
  unfold F_X9_ahead F_X5_isTold
  by_cases m0 : m = 0
  · subst m0; exact ⟨_, _, rfl⟩
  · rw [if_neg (by rw [pLe0 (by omega)]; exact m0), pBs, if_neg (by decide)]
    by_cases c1 : z1 < 0
    · rw [if_pos c1]; exact ⟨_, _, rfl⟩
    · rw [if_neg c1]
      by_cases c2 : 200 < z1
      · rw [if_pos c2]; exact ⟨_, _, rfl⟩
      · rw [if_neg c2]
        obtain ⟨q, hq, rfl⟩ := nI_of c1
        have hq2 : q ≤ 200 := by rw [show (200 : Int32) = nI 200 from rfl, pLt (by omega) hq] at c2; omega
        have key : ∀ z, ∃ r fa', F_X3_allBehind fa fr (nI m) ru fp (nI q) z = some (r, fa') := fun z => by
          unfold F_X3_allBehind F_X0_copyFrom
          rw [pBs]
          exact behind_L (fa0 := fa) (fr0 := fr) (z2 := z) hc (by omega) hq2 q 0 1000 (va_cpy fr fa 0 0 98) (by omega) (by omega) (by rw [cpy98]; exact hi)
        obtain ⟨r6, f6, e6⟩ := key 6
        obtain ⟨r7, f7, e7⟩ := key 7
        rw [e6, e7]
        simp only [pBs]
        repeat' split
        all_goals exact ⟨_, _, rfl⟩
theorem still_L {fa0 fr0 : Nat → Int32} (hc : Cx m t ru fp td) (h0 : 0 < m) : ∀ (k j n : Nat) (f : Nat → Int32), j + k = 201 → k < n → iU m ru (tT m td) (nz f) → ∃ r f', FL_X3_ticksTillStill_13 fa0 fr0 (nI m) ru fp n (nI j) f = some (r, f')
  | k, j, 0, f, _, h, _ => absurd h (by omega)
  | 0, j, n + 1, f, h1, h2, hi => by
    obtain rfl : j = 201 := by omega
    rw [FL_X3_ticksTillStill_13, if_pos (show (200 : Int32) < nI 201 from by decide)]
    exact ⟨_, _, rfl⟩
  | k + 1, j, n + 1, f, h1, h2, hi => by
    have hm := hc.1
    rw [FL_X3_ticksTillStill_13, if_neg (by rw [show (200 : Int32) = nI 200 from rfl, pLt (by omega) (by omega)]; omega), cStill hm (hi.1.1.h hm) hi.1.1.f, pBs]
    split
    · unfold F_X0_isOver
      split
      · rw [pBs, if_pos rfl]
        obtain ⟨f', f1, f2⟩ := cTick_t hc h0 hi
        rw [f1, pBs, pS1]
        exact still_L hc h0 k (j + 1) n f' (by omega) (by omega) f2
      · rw [pBs, if_neg (by decide)]; exact ⟨_, _, rfl⟩
    · exact ⟨_, _, rfl⟩
theorem last_c {fr fa : Nat → Int32} (hc : Cx m t ru fp td) (hi : iU m ru (tT m td) (nz fr)) : ∃ r fa', F_X9_last (nI m) ru fp fr fa = some (r, fa') := by
  have hm := hc.1
  unfold F_X9_last F_X5_isTold
  by_cases m0 : m = 0
  · subst m0; exact ⟨_, _, rfl⟩
  · rw [if_neg (by rw [pLe0 (by omega)]; exact m0), pBs, if_neg (by decide)]
    unfold F_X3_ticksTillStill F_X0_copyFrom
    rw [pBs]
    obtain ⟨r, f', e⟩ := still_L (fa0 := fa) (fr0 := fr) hc (by omega) 201 0 1000 (va_cpy fr fa 0 0 98) (by omega) (by omega) (by rw [cpy98]; exact hi)
    rw [show FL_X3_ticksTillStill_13 fa fr (nI m) ru fp 1000 0 (va_cpy fr fa 0 0 98) = _ from e, pBs]
    exact ⟨_, _, rfl⟩
theorem next_L {fa0 fr0 : Nat → Int32} {z1 : Int32} (hc : Cx m t ru fp td) (h0 : 0 < m) : ∀ (k j n : Nat) (x : Int32) (f : Nat → Int32), j + k = 200 → k < n → iU m ru (tT m td) (nz f) → ∃ r f', FL_X3_nextToRun_15 fa0 fr0 (nI m) ru fp z1 n x (nI j) f = some (r, f')
  | k, j, 0, x, f, _, h, _ => absurd h (by omega)
  | 0, j, n + 1, x, f, h1, h2, hi => by
    obtain rfl : j = 200 := by omega
    rw [FL_X3_nextToRun_15, if_pos (show (200 : Int32) ≤ nI 200 from by decide)]
    exact ⟨_, _, rfl⟩
  | k + 1, j, n + 1, x, f, h1, h2, hi => by
    have hm := hc.1
    rw [FL_X3_nextToRun_15, if_neg (by rw [show (200 : Int32) = nI 200 from rfl, pLe (by omega) (by omega)]; omega)]
    unfold F_X0_isOver
    split
    · rw [pBs, if_pos rfl, cStill hm (hi.1.1.h hm) hi.1.1.f, pBs]
      split
      · obtain ⟨f', f1, f2⟩ := cTick_t hc h0 hi
        rw [cAll hm, pBs, f1, pBs, cAll hm, pBs, pS1]
        have ih := fun y => next_L (fa0 := fa0) (fr0 := fr0) (z1 := z1) hc h0 k (j + 1) n y f' (by omega) (by omega) f2
        obtain ⟨r, hr⟩ := ntz_tot (pSet (fun d => decide (nz f' d = 6)) m &&& (pSet (fun d => decide (nz f d = 6)) m ^^^ -1))
        rw [hr, pBs]
        repeat' split
        all_goals first | exact ih _ | exact ⟨_, _, rfl⟩
      · exact ⟨_, _, rfl⟩
    · rw [pBs, if_neg (by decide)]; exact ⟨_, _, rfl⟩
theorem order_c {fr fa : Nat → Int32} {z1 : Int32} (hc : Cx m t ru fp td) (hi : iU m ru (tT m td) (nz fr)) : ∃ r fa', F_X9_order (nI m) ru fp fr fa z1 = some (r, fa') := by
  have hm := hc.1
  unfold F_X9_order F_X5_isTold
  by_cases m0 : m = 0
  · subst m0; exact ⟨_, _, rfl⟩
  · rw [if_neg (by rw [pLe0 (by omega)]; exact m0), pBs, if_neg (by decide)]
    unfold F_X3_nextToRun F_X0_copyFrom
    rw [pBs]
    obtain ⟨r, f', e⟩ := next_L (fa0 := fa) (fr0 := fr) (z1 := z1) hc (by omega) 200 0 1000 0 (va_cpy fr fa 0 0 98) (by omega) (by omega) (by rw [cpy98]; exact hi)
    rw [show FL_X3_nextToRun_15 fa fr (nI m) ru fp z1 1000 0 0 (va_cpy fr fa 0 0 98) = _ from e, pBs]
    repeat' split
    all_goals exact ⟨_, _, rfl⟩
theorem lost_c {fr fa : Nat → Int32} {z1 : Int32} (hc : Cx m t ru fp td) (hi : iU m ru (tT m td) (nz fr)) : ∃ r fa', F_X9_lost (nI m) ru fp fr fa z1 = some (r, fa') := by
  have hm := hc.1
  unfold F_X9_lost
  rw [cHas hm, pBs]
  split
  · exact ⟨_, _, rfl⟩
  · rename_i hd
    obtain ⟨d, hd', rfl⟩ := zDev_lt hm (show zDev m z1 = true by cases h : zDev m z1 with | true => rfl | false => rw [h] at hd; exact absurd rfl hd)
    rw [pA72, pIx (by omega) (by omega)]
    split
    · unfold F_X3_lostWithout F_X0_copyFrom
      rw [pBs]
      obtain ⟨f, f1, -⟩ := cSup (fr := va_cpy fr fa 0 0 98) (fu := ru) (fp := fp) hm (by rw [cpy98, hc.2.2.2]; exact hi) hd'
      rw [f1, pBs, cAll hm, pBs, cAll hm, pBs, pBs]
      exact ⟨_, _, rfl⟩
    · exact ⟨_, _, rfl⟩
/-- the first free port, or none -/
theorem free_L {fr : Nat → Int32} {h P : Nat} (hc : Cx m t ru fp td) (hh : h ≤ 8) (hP : P ≤ 4) (hp : F_X5_portsOf (nI m) ru fp (nI h) = some (nI P)) : ∀ (k j n : Nat), j + k = P → k < n → ∃ r, FL_X0_firstFreePort_13 fr (nI m) ru fp (nI h) n (nI j) = some r ∧ (r = -1 ∨ ∃ x, x < P ∧ r = nI x)
  | k, j, 0, _, h => absurd h (by omega)
  | 0, j, n + 1, h1, h2 => by
    obtain rfl : j = P := by omega
    rw [FL_X0_firstFreePort_13, hp, pBs, if_pos (le_rfl32 _)]
    exact ⟨_, rfl, Or.inl rfl⟩
  | k + 1, j, n + 1, h1, h2 => by
    rw [FL_X0_firstFreePort_13, hp, pBs, if_neg (by rw [pLe (by omega) (by omega)]; omega), cPlugged_ hc.1, pBs]
    split
    · exact ⟨_, rfl, Or.inr ⟨j, by omega, rfl⟩⟩
    · rw [pS1]; exact free_L hc hh hP hp k (j + 1) n (by omega) (by omega)
theorem free_c {fr : Nat → Int32} {h : Nat} (hc : Cx m t ru fp td) (h0 : 0 < m) (hh : h ≤ 8) : ∃ r, F_X0_firstFreePort fr (nI m) ru fp (nI h) = some r ∧ (r = -1 ∨ ∃ x, x < 4 ∧ r = nI x ∧ (h = 8 ∨ (h < m ∧ nz fr h ≠ 0)) ∧ ((h = 8 ∧ nI x < ru 0) ∨ (h < m ∧ nI x < tT m td h 0))) := by
  have hm := hc.1
  unfold F_X0_firstFreePort
  rw [cIs hh, pBs]
  by_cases c8 : h = 8
  · subst c8
    obtain ⟨-, -, -, -, p, hp4, hp, e⟩ := hc.2.1 h0
    have ep : F_X5_portsOf (nI m) ru fp (nI 8) = some (nI p) := by
      have q := cPorts (fu := ru) (fp := fp) (b := 8) hm (Or.inl ⟨h0, rfl⟩)
      unfold zPrt at q; rw [if_pos rfl, e] at q; exact q
    obtain ⟨r, r1, r2⟩ := free_L (fr := fr) hc hh hp4 ep p 0 1000 (by omega) (by omega)
    rw [if_pos (by simp [pb])]
    refine ⟨r, r1, ?_⟩
    rcases r2 with r2 | ⟨x, hx, r2⟩
    · exact Or.inl r2
    · exact Or.inr ⟨x, by omega, r2, Or.inl rfl, Or.inl ⟨rfl, by rw [e, pLt (by omega) (by omega)]; exact hx⟩⟩
  · by_cases cm : h < m
    · obtain ⟨⟨p, hp4, e⟩, -⟩ := hc.2.2.1 h cm
      have ep : F_X5_portsOf (nI m) ru fp (nI h) = some (nI p) := by
        rw [cPorts hm (Or.inr (by rw [zDev_nI hm (by omega)]; simpa using cm))]
        unfold zPrt; rw [if_neg (by rw [pE8 (by omega)]; exact c8), pCl (by omega), hc.2.2.2, e]
      by_cases ca : nz fr h = 0
      · rw [if_neg (by simp [c8, ca, pb])]; exact ⟨_, rfl, Or.inl rfl⟩
      · rw [if_pos (by simp [c8, ca, pb])]
        obtain ⟨r, r1, r2⟩ := free_L (fr := fr) hc hh hp4 ep p 0 1000 (by omega) (by omega)
        refine ⟨r, r1, ?_⟩
        rcases r2 with r2 | ⟨x, hx, r2⟩
        · exact Or.inl r2
        · exact Or.inr ⟨x, by omega, r2, Or.inr ⟨cm, ca⟩, Or.inr ⟨cm, by rw [e, pLt (by omega) (by omega)]; exact hx⟩⟩
    · have ep : F_X5_portsOf (nI m) ru fp (nI h) = some (nI 0) := by
        rw [cPorts0 hm (fun q => q.elim (fun q => c8 (by rw [pE8 (by omega)] at q; exact q.2)) (fun q => by rw [zDev_nI hm (by omega)] at q; exact cm (by simpa using q)))]; rfl
      split
      · obtain ⟨r, r1, r2⟩ := free_L (fr := fr) hc hh (by omega) ep 0 0 1000 (by omega) (by omega)
        refine ⟨r, r1, ?_⟩
        rcases r2 with r2 | ⟨x, hx, r2⟩
        · exact Or.inl r2
        · omega
      · exact ⟨_, rfl, Or.inl rfl⟩
theorem best_L {fa0 fr : Nat → Int32} {d : Nat} (hc : Cx m t ru fp td) (h0 : 0 < m) (hd : d < m) (hi : iU m ru (tT m td) (nz fr)) (hd0 : nz fr d = 0) : ∀ (k j n : Nat) (x y : Int32) (f : Nat → Int32), j + k = 9 → k < n → y ≤ 200 → ∃ r f', FL_X3_bestPort_9 fa0 fr (nI m) ru fp (nI d) n x y (nI j) f = some (r, f')
  | k, j, 0, x, y, f, _, h, _ => absurd h (by omega)
  | 0, j, n + 1, x, y, f, h1, h2, _ => by
    obtain rfl : j = 9 := by omega
    rw [FL_X3_bestPort_9, if_pos (show (8 : Int32) < nI 9 from by decide)]
    exact ⟨_, _, rfl⟩
  | k + 1, j, n + 1, x, y, f, h1, h2, hy => by
    have hm := hc.1
    rw [FL_X3_bestPort_9, if_neg (by rw [show (8 : Int32) = nI 8 from rfl, pLt (by omega) (by omega)]; omega)]
    obtain ⟨r, r1, r2⟩ := free_c (fr := fr) (h := j) hc h0 (by omega)
    rw [r1, pBs, pS1]
    rcases r2 with rfl | ⟨p, hp, rfl, hcc, hpp⟩
    · rw [if_pos rfl]; exact best_L hc h0 hd hi hd0 k (j + 1) n x y f (by omega) (by omega) hy
    · rw [if_neg (by rw [pNm (by omega)]; exact id)]
      unfold F_X0_copyFrom F_X3_playTillRunning
      rw [pBs]
      obtain ⟨f', f1, f2, -⟩ := cPlug (m := m) (fr := va_cpy fr f 0 0 98) (fu := ru) (fp := fp) (d := d) (z := nI j) (z2 := nI p) (by omega)
      rw [f1, pBs]
      have hi' : iU m ru (tT m td) (nz f') := by
        rw [f2, cpy98]; exact nPlug_iU hm (hc.2.1 h0) hi hd hd0 hcc hp hpp
      obtain ⟨r, g, e, e2⟩ := play_L (fa0 := f') (fr0 := fr) (z2 := y) hc h0 hd hy 201 0 1000 f' (by omega) (by omega) hi'
      rw [show FL_X3_playTillRunning_2 f' fr (nI m) ru fp (nI d) y 1000 0 f' = _ from e, pBs]
      show ∃ r' f'', (if r = -1 then _ else _) = _
      by_cases c : r = -1
      · rw [if_pos c]; exact best_L hc h0 hd hi hd0 k (j + 1) n x y g (by omega) (by omega) hy
      · rw [if_neg c]
        refine best_L hc h0 hd hi hd0 k (j + 1) n _ (r - 1) g (by omega) (by omega) ?_
        rcases e2 with e2 | ⟨w, hw, e2⟩
        · exact absurd e2 c
        · rw [e2, q_le, show (1 : Int32) = nI 1 from rfl, pk_sub_toInt (by omega) (by omega)]
          have a : (200 : Int32).toInt = 200 := by decide
          omega
theorem place_c {fr fa : Nat → Int32} {z1 : Int32} (hc : Cx m t ru fp td) (hi : iU m ru (tT m td) (nz fr)) : ∃ r fa', F_X9_place (nI m) ru fp fr fa z1 = some (r, fa') := by
  have hm := hc.1
  unfold F_X9_place
  rw [cHas hm, pBs]
  split
  · exact ⟨_, _, rfl⟩
  · rename_i hd
    obtain ⟨d, hd', rfl⟩ := zDev_lt hm (show zDev m z1 = true by cases h : zDev m z1 with | true => rfl | false => rw [h] at hd; exact absurd rfl hd)
    rw [cIs (by omega), pBs]
    split
    · exact ⟨_, _, rfl⟩
    · rename_i h0
      have hd0 : nz fr d = 0 := Decidable.byContradiction (fun q => h0 (by simp [q, pb]))
      unfold F_X3_bestPort
      obtain ⟨r, f', e⟩ := best_L (fa0 := fa) hc (by omega) hd' hi hd0 9 0 1000 (-1) 200 fa (by omega) (by omega) (le_rfl32 _)
      rw [show FL_X3_bestPort_9 fa fr (nI m) ru fp (nI d) 1000 (-1) 200 0 fa = _ from e, pBs]
      exact ⟨_, _, rfl⟩
end
