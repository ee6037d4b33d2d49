/-! the reference's foresight: it ends, and leaves the state as it was -/
section
variable {m t : Nat} {ru fp td : Nat → Int32}
theorem whenNow_L {nw0 : Nat → Int32} {d : Nat} (hc : Cx m t ru fp td) (h0 : 0 < m) (hd : d < m) : ∀ (k j n : Nat) (f : Nat → Int32), j + k = 201 → k < n → iU m ru (tT m td) (nz f) → ∃ r g, FL_X10_whenNow_2 (nI m) ru td nw0 (nI d) n (nI j) f = some (r, g) ∧ kD f g
  | k, j, 0, f, _, h, _ => absurd h (by omega)
  | 0, j, n + 1, f, h1, h2, hi => by
    obtain rfl : j = 201 := by omega
    rw [FL_X10_whenNow_2, if_pos (show (200 : Int32) < nI 201 from by decide)]
    exact ⟨_, _, rfl, fun _ _ => rfl⟩
  | k + 1, j, n + 1, f, h1, h2, hi => by
    have hm := hc.1
    rw [FL_X10_whenNow_2, if_neg (by rw [show (200 : Int32) = nI 200 from rfl, pLt (by omega) (by omega)]; omega), rState (by omega), pBs]
    split
    · exact ⟨_, _, rfl, fun _ _ => rfl⟩
    · split
      · exact ⟨_, _, rfl, fun _ _ => rfl⟩
      · obtain ⟨g, g1, g2, g3⟩ := rTick_t hc h0 hi
        rw [g1, pBs, pS1]
        obtain ⟨r, g', a, b⟩ := whenNow_L (nw0 := nw0) hc h0 hd k (j + 1) n g (by omega) (by omega) g2
        exact ⟨r, g', a, fun x hx => (b x hx).trans (g3 x hx)⟩
theorem dev_c {z : Int32} (hm : m ≤ 8) (h : ¬ pb (zDev m z) = 0) : ∃ d, d < m ∧ z = nI d :=
  zDev_lt hm (by cases q : zDev m z with | true => rfl | false => rw [q] at h; exact absurd rfl h)
theorem when_r {nw as_ : Nat → Int32} {z1 : Int32} (hc : Cx m t ru fp td) (hi : iU m ru (tT m td) (nz nw)) : ∃ r as', F_X10_when (nI m) ru td nw as_ z1 = some (r, nw, as') := by
  have hm := hc.1
  unfold F_X10_when
  rw [rDev, pBs]
  split
  · exact ⟨_, _, rfl⟩
  · rename_i hd
    obtain ⟨d, hd', rfl⟩ := dev_c hm hd
    rw [rState (by omega), pBs]
    split
    · exact ⟨_, _, rfl⟩
    · obtain ⟨a, a1, a2⟩ := aside_L (nw := nw) (as_ := as_)
      unfold F_X10_whenNow
      obtain ⟨r, g, e, e2⟩ := whenNow_L (nw0 := nw) hc (by omega) hd' 201 0 1000 nw (by omega) (by omega) hi
      rw [a1, pBs, show FL_X10_whenNow_2 (nI m) ru td nw (nI d) 1000 0 nw = _ from e, pBs, bring_eq a2 e2, pBs]
      exact ⟨_, _, rfl⟩
theorem ticks_L {nw0 : Nat → Int32} {q : Nat} (hc : Cx m t ru fp td) (h0 : 0 < m) (hq : q ≤ 200) : ∀ (k j n : Nat) (f : Nat → Int32), j + k = q → k < n → iU m ru (tT m td) (nz f) → ∃ r g, FL_X10_ticks_2 (nI m) ru td nw0 (nI q) n (nI j) f = some (r, g) ∧ kD f g
  | k, j, 0, f, _, h, _ => absurd h (by omega)
  | 0, j, n + 1, f, h1, h2, hi => by
    obtain rfl : j = q := by omega
    rw [FL_X10_ticks_2, if_pos (le_rfl32 _), rThose hc.1, pBs, pBits hc.1, pBs]
    exact ⟨_, _, rfl, fun _ _ => rfl⟩
  | k + 1, j, n + 1, f, h1, h2, hi => by
    have hm := hc.1
    obtain ⟨g, g1, g2, g3⟩ := rTick_t hc h0 hi
    rw [FL_X10_ticks_2, if_neg (by rw [pLe (by omega) (by omega)]; omega), g1, pBs, pS1]
    obtain ⟨r, g', a, b⟩ := ticks_L (nw0 := nw0) hc h0 hq k (j + 1) n g (by omega) (by omega) g2
    exact ⟨r, g', a, fun x hx => (b x hx).trans (g3 x hx)⟩
theorem ahead_r {nw as_ : Nat → Int32} {z1 z2 : Int32} (hc : Cx m t ru fp td) (hi : iU m ru (tT m td) (nz nw)) : ∃ r as', F_X10_ahead_ (nI m) ru td nw as_ z1 z2 = some (r, nw, as') := by
  have hm := hc.1
  unfold F_X10_ahead_
  rw [rTree hm, pBs, rIn, pBs, rIn, pBs]
  split
  · exact ⟨_, _, rfl⟩
  · rename_i h0
    have h0' : 0 < m := by
      refine Decidable.byContradiction (fun q => h0 ?_)
      simp [q, pb]
    split
    · exact ⟨_, _, rfl⟩
    · rename_i h1
      have c1 : ¬ z1 < 0 := fun q => h1 (by simp [q, pb])
      have c2 : ¬ 200 < z1 := fun q => h1 (by simp [q, pb])
      obtain ⟨q, hq, rfl⟩ := nI_of c1
      have hq2 : q ≤ 200 := by rw [show (200 : Int32) = nI 200 from rfl, pLt (by omega) hq] at c2; omega
      split
      · exact ⟨_, _, rfl⟩
      · split
        · obtain ⟨a, a1, a2⟩ := aside_L (nw := nw) (as_ := as_)
          unfold F_X10_ticks
          obtain ⟨r, g, e, e2⟩ := ticks_L (nw0 := nw) hc h0' hq2 q 0 1000 nw (by omega) (by omega) hi
          rw [a1, pBs, show FL_X10_ticks_2 (nI m) ru td nw (nI q) 1000 0 nw = _ from e, pBs, rThose hm, pBs, rThose hm, pBs, bring_eq a2 e2, pBs, pBs]
          split <;> exact ⟨_, _, rfl⟩
        · exact ⟨_, _, rfl⟩
theorem cmp_L {nw0 bf0 g bf : Nat → Int32} : ∀ (k j n : Nat), j + k = 98 → k < n → ∃ r, FL_X10_isStill_32 (nI m) ru td nw0 bf0 n (nI j) g bf = some (r, g, bf)
  | k, j, 0, _, h => absurd h (by omega)
  | 0, j, n + 1, h1, h2 => by
    obtain rfl : j = 98 := by omega
    rw [FL_X10_isStill_32, if_pos (show (98 : Int32) ≤ nI 98 from by decide)]
    exact ⟨_, rfl⟩
  | k + 1, j, n + 1, h1, h2 => by
    rw [FL_X10_isStill_32, if_neg (by rw [show (98 : Int32) = nI 98 from rfl, pLe (by omega) (by omega)]; omega), pS1]
    have ih := cmp_L (nw0 := nw0) (bf0 := bf0) (g := g) (bf := bf) k (j + 1) n (by omega) (by omega)
    rw [pIx (by omega) (by omega), pIx (by omega) (by omega)]
    repeat' split
    all_goals first | exact ih | exact ⟨_, rfl⟩
theorem isStill_r {nw bf : Nat → Int32} (hc : Cx m t ru fp td) (h0 : 0 < m) (hi : iU m ru (tT m td) (nz nw)) : ∃ r g bf', F_X10_isStill (nI m) ru td nw bf = some (r, g, bf') ∧ iU m ru (tT m td) (nz g) ∧ kD nw g := by
  unfold F_X10_isStill
  obtain ⟨g, g1, g2, g3⟩ := rTick_t hc h0 hi
  have hl : ∀ (k j n : Nat) (b : Nat → Int32), j + k = 98 → k < n → ∃ r b', FL_X10_isStill_2 (nI m) ru td nw bf n (nI j) nw b = some (r, g, b') := by
    intro k
    induction k with
    | zero =>
      intro j n b h1 h2
      obtain rfl : j = 98 := by omega
      obtain ⟨n, rfl⟩ : ∃ x, n = x + 1 := ⟨n - 1, by omega⟩
      obtain ⟨r, e⟩ := cmp_L (m := m) (ru := ru) (td := td) (nw0 := nw) (bf0 := bf) (g := g) (bf := b) 98 0 1000 (by omega) (by omega)
      rw [FL_X10_isStill_2, if_pos (show (98 : Int32) ≤ nI 98 from by decide), g1, pBs, show FL_X10_isStill_32 (nI m) ru td nw bf 1000 0 g b = _ from e]
      exact ⟨_, _, rfl⟩
    | succ k ih =>
      intro j n b h1 h2
      obtain ⟨n, rfl⟩ : ∃ x, n = x + 1 := ⟨n - 1, by omega⟩
      rw [FL_X10_isStill_2, if_neg (by rw [show (98 : Int32) = nI 98 from rfl, pLe (by omega) (by omega)]; omega), pIx (by omega) (by omega), pIx (by omega) (by omega), pS1]
      exact ih (j + 1) n _ (by omega) (by omega)
  obtain ⟨r, b', e⟩ := hl 98 0 1000 bf (by omega) (by omega)
  exact ⟨r, g, b', e, g2, g3⟩
theorem last_L {nw nw0 as0 bf0 a : Nat → Int32} (hc : Cx m t ru fp td) (h0 : 0 < m) (ha : ∀ k, k < 98 → a k = nw k) : ∀ (k j n : Nat) (x : Int32) (f b : Nat → Int32), j + k = 201 → k < n → iU m ru (tT m td) (nz f) → kD nw f → ∃ r b', FL_X10_last_17 (nI m) ru td nw0 as0 bf0 n x (nI j) f a b = some (r, nw, a, b')
  | k, j, 0, x, f, b, _, h, _, _ => absurd h (by omega)
  | 0, j, n + 1, x, f, b, h1, h2, hi, hk => by
    obtain rfl : j = 201 := by omega
    rw [FL_X10_last_17, if_pos (show (200 : Int32) < nI 201 from by decide), bring_eq ha hk, pBs]
    exact ⟨_, _, rfl⟩
  | k + 1, j, n + 1, x, f, b, h1, h2, hi, hk => by
    rw [FL_X10_last_17, if_neg (by rw [show (200 : Int32) = nI 200 from rfl, pLt (by omega) (by omega)]; omega), bring_eq ha hk, pBs]
    obtain ⟨r, g, b', e, e2, e3⟩ := isStill_r (bf := b) hc h0 hi
    rw [e, pBs, pS1]
    have ih := fun y => last_L (nw := nw) (nw0 := nw0) (as0 := as0) (bf0 := bf0) (a := a) hc h0 ha k (j + 1) n y g b' (by omega) (by omega) e2 (fun x hx => (e3 x hx).trans (hk x hx))
    repeat' split
    all_goals first | exact ih _ | exact ⟨_, _, rfl⟩
theorem last_r {nw as_ bf : Nat → Int32} (hc : Cx m t ru fp td) (hi : iU m ru (tT m td) (nz nw)) : ∃ r as' bf', F_X10_last (nI m) ru td nw as_ bf = some (r, nw, as', bf') := by
  have hm := hc.1
  unfold F_X10_last
  rw [rTree hm, pBs]
  split
  · exact ⟨_, _, _, rfl⟩
  · rename_i h0
    have h0' : 0 < m := by
      refine Decidable.byContradiction (fun q => h0 ?_)
      simp [q, pb]
    obtain ⟨a, a1, a2⟩ := aside_L (nw := nw) (as_ := as_)
    obtain ⟨r, b', e⟩ := last_L (nw := nw) (nw0 := nw) (as0 := as_) (bf0 := bf) (a := a) hc h0' a2 201 0 1000 (-1) nw bf (by omega) (by omega) hi (fun _ _ => rfl)
    rw [a1, pBs]
    exact ⟨r, a, b', e⟩
theorem lost_r {nw as_ : Nat → Int32} {z1 : Int32} (hc : Cx m t ru fp td) (hi : iU m ru (tT m td) (nz nw)) : ∃ r as', F_X10_lost (nI m) ru td nw as_ z1 = some (r, nw, as') := by
  have hm := hc.1
  unfold F_X10_lost
  rw [rDev, pBs]
  split
  · exact ⟨_, _, rfl⟩
  · rename_i hd
    obtain ⟨d, hd', rfl⟩ := dev_c hm hd
    rw [pA72, pIx (by omega) (by omega)]
    split
    · exact ⟨_, _, rfl⟩
    · obtain ⟨a, a1, a2⟩ := aside_L (nw := nw) (as_ := as_)
      obtain ⟨g, g1, g2, g3⟩ := rSup (nw := nw) hm hc.2.2.1 hi hd'
      rw [a1, pBs, rThose hm, pBs, g1, pBs, rThose hm, pBs, bring_eq a2 (fun k hk => nf_at g3 (by omega)), pBs]
      exact ⟨_, _, rfl⟩
/-- when, at a port -/
theorem whenAt_r {nw as_ : Nat → Int32} {d c p : Nat} (hc : Cx m t ru fp td) (h0 : 0 < m) (hi : iU m ru (tT m td) (nz nw)) (hd : d < m) (hd0 : nz nw d = 0) (hcc : c = 8 ∨ (c < m ∧ nz nw c ≠ 0)) (hp : p < 4) (hpp : (c = 8 ∧ nI p < ru 0) ∨ (c < m ∧ nI p < tT m td c 0)) : ∃ r as', F_X10_whenAt (nI m) ru td nw as_ (nI d) (nI c) (nI p) = some (r, nw, as') := by
  have hm := hc.1
  unfold F_X10_whenAt F_X10_whenNow
  obtain ⟨a, a1, a2⟩ := aside_L (nw := nw) (as_ := as_)
  obtain ⟨f, g, -, g1, -, g2, -, -, g3⟩ := plug_sim hc h0 (⟨rfl, fun _ _ _ => rfl⟩ : Rl m nw nw) hi hd hd0 hcc hp hpp
  obtain ⟨r, g', e, e2⟩ := whenNow_L (nw0 := g) hc h0 hd 201 0 1000 g (by omega) (by omega) g2
  rw [a1, pBs, g1, pBs, show FL_X10_whenNow_2 (nI m) ru td g (nI d) 1000 0 g = _ from e, pBs, bring_eq a2 (fun k hk => (e2 k hk).trans (g3 k hk)), pBs]
  exact ⟨_, _, rfl⟩
theorem barP_f {nw : Nat → Int32} {d p : Nat} {b : Int32} (hc : Cx m t ru fp td) (h0 : 0 < m) (hd : d < m) (hp : p < 2147483648) (h : zBarP m ru (tT m td) (nz nw) d b (nI p) = -1) : ∃ c, b = nI c ∧ nz nw d = 0 ∧ (c = 8 ∨ (c < m ∧ nz nw c ≠ 0)) ∧ p < 4 ∧ ((c = 8 ∧ nI p < ru 0) ∨ (c < m ∧ nI p < tT m td c 0)) := by
  have hm := hc.1
  unfold zBarP at h
  by_cases ch : zHub m (tT m td) b = true
  · rw [if_pos ch] at h
    by_cases cp : nI p < 0 ∨ zPrt ru (tT m td) b ≤ nI p
    · rw [if_pos cp] at h; exact absurd h (by decide)
    · rw [if_neg cp] at h
      by_cases cs : nz nw d = 0 ∧ (b = 8 ∨ nz nw b.toNatClampNeg ≠ 0) ∧ zFull m (nz nw) b (nI p) = -1
      · obtain ⟨x, hx, rfl, hx2⟩ := hub_nI hm ch
        have hlt : nI p < zPrt ru (tT m td) (nI x) := not_le.mp (fun w => cp (Or.inr w))
        have hh8 : (nI x = 8) = (x = 8) := pE8 (by omega)
        refine ⟨x, rfl, cs.1, ?_, ?_⟩
        · by_cases q8 : x = 8
          · exact Or.inl q8
          · refine Or.inr ⟨hx2.resolve_left q8, ?_⟩
            rcases cs.2.1 with w | w
            · rw [hh8] at w; exact absurd w q8
            · rw [pCl (by omega)] at w; exact w
        · unfold zPrt at hlt
          by_cases q8 : x = 8
          · rw [if_pos (by rw [hh8]; exact q8)] at hlt
            refine ⟨?_, Or.inl ⟨q8, hlt⟩⟩
            obtain ⟨-, -, -, -, pp, h4, -, e⟩ := hc.2.1 h0
            rw [e, pLt hp (by omega)] at hlt; omega
          · have hhm : x < m := hx2.resolve_left q8
            rw [if_neg (by rw [hh8]; exact q8), pCl (by omega)] at hlt
            refine ⟨?_, Or.inr ⟨hhm, hlt⟩⟩
            obtain ⟨⟨pp, h4, e⟩, -⟩ := hc.2.2.1 x hhm
            rw [e, pLt hp (by omega)] at hlt; omega
      · rw [if_neg cs] at h; exact absurd h (by decide)
  · rw [if_neg ch] at h; exact absurd h (by decide)
theorem ports_r {h : Nat} (hc : Cx m t ru fp td) (hz : zHub m (tT m td) (nz (fun _ => nI h) 0) = true ∨ zHub m (tT m td) (nI h) = true) (hh : h ≤ 8) (h0 : 0 < m) (hx : h = 8 ∨ h < m) : ∃ P, P ≤ 4 ∧ F_X10_portsOf ru td (nI h) = some (nI P) := by
  have hm := hc.1
  by_cases c8 : h = 8
  · subst c8
    obtain ⟨-, -, -, -, p, hp4, hp, e⟩ := hc.2.1 h0
    exact ⟨p, hp4, by rw [← e]; exact rPorts8⟩
  · have cm : h < m := hx.resolve_left c8
    obtain ⟨⟨p, hp4, e⟩, -⟩ := hc.2.2.1 h cm
    exact ⟨p, hp4, by rw [rPorts (m := m) hm cm, e]⟩
theorem place_in {nw nw0 as0 : Nat → Int32} {d h P : Nat} {kk : Int32 → Int32 → Int32 → (Nat → Int32) → (Nat → Int32) → Option (Int32 × (Nat → Int32) × (Nat → Int32))} (hc : Cx m t ru fp td) (h0 : 0 < m) (hi : iU m ru (tT m td) (nz nw)) (hd : d < m) (hh : h ≤ 8) (hP : P ≤ 4) (hp : F_X10_portsOf ru td (nI h) = some (nI P)) (hub : F_X10_isHub (nI m) td (nI h) = some 1) (hkk : ∀ x y a, ∃ r as', kk x y (nI (h + 1)) nw a = some (r, nw, as')) : ∀ (k j n : Nat) (x y : Int32) (a : Nat → Int32), j + k = P → k < n → ∃ r as', FL_X10_place_35 (nI m) ru td nw0 as0 (nI d) kk n x y (nI h) (nI j) nw a = some (r, nw, as')
  | k, j, 0, x, y, a, _, h => absurd h (by omega)
  | 0, j, n + 1, x, y, a, h1, h2 => by
    obtain rfl : j = P := by omega
    rw [FL_X10_place_35, hub, pBs, if_neg (by decide), hp, pBs, if_pos (le_rfl32 _), pS1]
    exact hkk x y a
  | k + 1, j, n + 1, x, y, a, h1, h2 => by
    have hm := hc.1
    have ih := fun x y a => place_in (nw := nw) (nw0 := nw0) (as0 := as0) (kk := kk) hc h0 hi hd hh hP hp hub hkk k (j + 1) n x y a (by omega) (by omega)
    rw [FL_X10_place_35, hub, pBs, if_neg (by decide), hp, pBs, if_neg (by rw [pLe (by omega) (by omega)]; omega), rBarP hm hc.2.1 hd, pBs, pS1]
    split
    · rename_i hb
      obtain ⟨c, e1, e2, e3, e4, e5⟩ := barP_f hc h0 hd (by omega) hb
      rw [e1]
      obtain ⟨r, as', e⟩ := whenAt_r (as_ := a) hc h0 hi hd e2 e3 e4 e5
      rw [e, pBs, ← e1]
      repeat' split
      all_goals exact ih _ _ _
    · exact ih _ _ _
theorem place_L {nw nw0 as0 : Nat → Int32} {d : Nat} (hc : Cx m t ru fp td) (h0 : 0 < m) (hi : iU m ru (tT m td) (nz nw)) (hd : d < m) : ∀ (k j n : Nat) (x y : Int32) (a : Nat → Int32), j + k = 9 → k < n → ∃ r as', FL_X10_place_25 (nI m) ru td nw0 as0 (nI d) n x y (nI j) nw a = some (r, nw, as')
  | k, j, 0, x, y, a, _, h => absurd h (by omega)
  | 0, j, n + 1, x, y, a, h1, h2 => by
    obtain rfl : j = 9 := by omega
    rw [FL_X10_place_25, if_pos (show (8 : Int32) < nI 9 from by decide)]
    exact ⟨_, _, rfl⟩
  | k + 1, j, n + 1, x, y, a, h1, h2 => by
    have hm := hc.1
    have ih := fun x y a => place_L (nw := nw) (nw0 := nw0) (as0 := as0) hc h0 hi hd k (j + 1) n x y a (by omega) (by omega)
    rw [FL_X10_place_25, if_neg (by rw [show (8 : Int32) = nI 8 from rfl, pLt (by omega) (by omega)]; omega)]
    by_cases ch : zHub m (tT m td) (nI j) = true
    · obtain ⟨x', hx', ex, hx2⟩ := hub_nI hm ch
      have exj := (nI_eq (a := j) (b := x') (by omega) (by omega)).mp ex
      obtain ⟨P, hP, hp⟩ := ports_r (h := j) hc (Or.inr ch) (by omega) h0 (by rw [exj]; exact hx2)
      exact place_in hc h0 hi hd (by omega) hP hp (by rw [rHub hm, ch]; rfl) ih P 0 1000 x y a (by omega) (by omega)
    · have e : FL_X10_place_35 (nI m) ru td nw0 as0 (nI d) (fun y0 y1 y2 y3 y4 => FL_X10_place_25 (nI m) ru td nw0 as0 (nI d) n y0 y1 y2 y3 y4) (999 + 1) x y (nI j) 0 nw a = FL_X10_place_25 (nI m) ru td nw0 as0 (nI d) n x y (nI (j + 1)) nw a := by
        have ch' : zHub m (tT m td) (nI j) = false := by simpa using ch
        rw [FL_X10_place_35, rHub hm, ch', pBs, if_pos (by decide), pS1]
      obtain ⟨r, as', e'⟩ := ih x y a
      exact ⟨r, as', e.trans e'⟩
theorem place_r {nw as_ : Nat → Int32} {z1 : Int32} (hc : Cx m t ru fp td) (hi : iU m ru (tT m td) (nz nw)) : ∃ r as', F_X10_place (nI m) ru td nw as_ z1 = some (r, nw, as') := by
  have hm := hc.1
  unfold F_X10_place
  rw [rDev, pBs]
  split
  · exact ⟨_, _, rfl⟩
  · rename_i hd
    obtain ⟨d, hd', rfl⟩ := dev_c hm hd
    rw [rState (by omega), pBs]
    split
    · exact place_L (nw0 := nw) (as0 := as_) hc (by omega) hi hd' 9 0 1000 (-1) 0 as_ (by omega) (by omega)
    · exact ⟨_, _, rfl⟩
/-! the order: sets of those that run -/
theorem pSb_or (p q : Nat → Bool) (d : Nat) : (if (p d || q d) = true then ((1 : Int32) <<< (nI d &&& 31)) else 0) = (if p d = true then ((1 : Int32) <<< (nI d &&& 31)) else 0) ||| (if q d = true then ((1 : Int32) <<< (nI d &&& 31)) else 0) := by
  by_cases c : p d = true <;> by_cases c2 : q d = true <;> simp [c, c2]
theorem pSet_or {p q : Nat → Bool} {m : Nat} : pSet p m ||| pSet q m = pSet (fun d => p d || q d) m := by
  unfold pSet
  have key : ∀ (k j : Nat) (a b : Int32), pF (pSb p) k j a ||| pF (pSb q) k j b = pF (pSb (fun d => p d || q d)) k j (a ||| b) := by
    intro k
    induction k with
    | zero => intro j a b; rfl
    | succ k ih =>
      intro j a b
      show pF (pSb p) k (j + 1) (pSb p j a) ||| pF (pSb q) k (j + 1) (pSb q j b) = pF _ k (j + 1) (pSb _ j (a ||| b))
      rw [ih]
      congr 1
      unfold pSb
      rw [pSb_or]
      ac_rfl
  have := key m 0 0 0
  simpa using this
theorem pBit (p : Nat → Bool) (m d : Nat) (hm : m ≤ 8) (hd : d < 8) : F_X10_has (pSet p m) (nI d) = some (pb (p d && decide (d < m))) := by
  unfold F_X10_has
  rw [pHas hm hd]
  by_cases c : (p d && decide (d < m)) = true <;> simp [c, pb]
end
