/-! the best port, side by side -/
section
variable {m t : Nat} {ru fp td : Nat → Int32}
theorem plug_r40 {nw g g' : Nat → Int32} {d : Nat} {c p p' : Int32} (hd : d < 8) (h1 : nz g = nPlug ru (nz nw) d c p) (h2 : nf g = upd (nf nw) (24 + d) 0) (h3 : nz g' = nPlug ru (nz nw) d c p') (h4 : nf g' = upd (nf nw) (24 + d) 0) : r40 g g' := by
  refine ⟨fun k hk => ?_, fun e he => ?_, ?_⟩
  · rw [h1, h3]; unfold nPlug; rw [pUn (show k ≠ 40 + d by omega), pUn (show k ≠ 40 + d by omega)]
  · exact nf_at (h4.trans h2.symm) (by omega)
  · exact nf_at (h4.trans h2.symm) (by omega)
theorem whenAt_40 {nw as_ g0 g0' : Nat → Int32} {d c p p0 : Nat} {w : Int32} (hc : Cx m t ru fp td) (h0 : 0 < m) (hi : iU m ru (tT m td) (nz nw)) (hd : d < m) (hd0 : nz nw d = 0) (hcc : c = 8 ∨ (c < m ∧ nz nw c ≠ 0)) (hp : p < 4) (hpp : (c = 8 ∧ nI p < ru 0) ∨ (c < m ∧ nI p < tT m td c 0)) (q1 : nz g0 = nPlug ru (nz nw) d (nI c) (nI p0)) (q2 : nf g0 = upd (nf nw) (24 + d) 0) (q3 : iU m ru (tT m td) (nz g0)) (q4 : FL_X10_whenNow_2 (nI m) ru td g0 (nI d) 1000 (nI 0) g0 = some (w, g0')) : ∃ as', F_X10_whenAt (nI m) ru td nw as_ (nI d) (nI c) (nI p) = some (w, nw, as') := by
  have hm := hc.1
  unfold F_X10_whenAt F_X10_whenNow
  obtain ⟨a, a1, a2⟩ := aside_L (nw := nw) (as_ := as_)
  obtain ⟨g, g1, g2, g3⟩ := rPlug (nw := nw) hm (hc.2.1 h0) hi hd hd0 hcc hp hpp
  have hig : iU m ru (tT m td) (nz g) := by rw [g2]; exact nPlug_iU hm (hc.2.1 h0) hi hd hd0 hcc hp hpp
  obtain ⟨w', f0, f1, b1, b2⟩ := when_40 (nw0 := g0) (nw1 := g) hc h0 hd 201 0 1000 g0 g (by omega) (by omega) (plug_r40 (by omega) q1 q2 g2 g3) q3 hig
  obtain ⟨w2, f2, c1, c2, -⟩ := whenR (nw0 := g) hc h0 hd 201 0 1000 g (by omega) (by omega) hig
  rw [q4] at b1
  obtain ⟨rfl, -⟩ := Prod.mk.inj (Option.some.inj b1)
  rw [b2] at c1
  obtain ⟨rfl, rfl⟩ := Prod.mk.inj (Option.some.inj c1)
  have hk : kD nw f1 := fun k hk => by
    have e1 : g k = nf g k := (nfE (by omega)).symm
    rw [c2 k hk, e1, g3, pUn (by omega), nfE (by omega)]
  rw [a1, pBs, g1, pBs, show FL_X10_whenNow_2 (nI m) ru td g (nI d) 1000 0 g = _ from b2, pBs, bring_eq a2 hk, pBs]
  exact ⟨_, rfl⟩
end
section
variable {m t : Nat} {ru fp td : Nat → Int32}
/-- whether one may be plugged there -/
def fre (m : Nat) (ru : Nat → Int32) (T : Nat → Nat → Int32) (N : Nat → Int32) (d h p : Nat) : Prop := zBarP m ru T N d (nI h) (nI p) = -1
theorem full_c {N : Nat → Int32} {h : Nat} {z : Int32} (hm : m ≤ 8) (hh : h < 2147483648) (hf : wF m N) : pFd (fun d => decide (N (32 + d) = nI h) && decide (N (40 + d) = z)) m 0 = zFull m N (nI h) z := by
  unfold zFull
  refine pFd_congr m 0 (fun d _ hd => ?_)
  by_cases c : N d = 0
  · have e := hf d (by omega) c
    have ne : ¬ (-1 : Int32) = nI h := fun q => by have w := q.symm; rw [pNm hh] at w; exact w
    simp [c, e, ne]
  · simp [c]
/-- the first free port of a hub, and none before it -/
theorem free_e {fr nw : Nat → Int32} {d h P : Nat} (hc : Cx m t ru fp td) (hr : Rl m fr nw) (hi : iU m ru (tT m td) (nz nw)) (hd0 : nz nw d = 0) (hh : h ≤ 8) (hP : P ≤ 4) (hub : zHub m (tT m td) (nI h) = true) (hpr : zPrt ru (tT m td) (nI h) = nI P) (hst : h = 8 ∨ nz nw h ≠ 0) (hp : F_X5_portsOf (nI m) ru fp (nI h) = some (nI P)) : ∀ (k j n : Nat), j + k = P → k < n → (∀ p, p < j → ¬ fre m ru (tT m td) (nz nw) d h p) → ∃ r, FL_X0_firstFreePort_13 fr (nI m) ru fp (nI h) n (nI j) = some r ∧ ((r = -1 ∧ ∀ p, p < P → ¬ fre m ru (tT m td) (nz nw) d h p) ∨ ∃ p0, p0 < P ∧ r = nI p0 ∧ fre m ru (tT m td) (nz nw) d h p0 ∧ ∀ p, p < p0 → ¬ fre m ru (tT m td) (nz nw) d h p)
  | k, j, 0, _, h, _ => absurd h (by omega)
  | 0, j, n + 1, h1, h2, hb => by
    obtain rfl : j = P := by omega
    rw [FL_X0_firstFreePort_13, hp, pBs, if_pos (le_rfl32 _)]
    exact ⟨_, rfl, Or.inl ⟨rfl, hb⟩⟩
  | k + 1, j, n + 1, h1, h2, hb => by
    have hm := hc.1
    have hst' : (nI h : Int32) = 8 ∨ nz nw (nI h).toNatClampNeg ≠ 0 := by
      rcases hst with q | q
      · exact Or.inl (by rw [q]; rfl)
      · exact Or.inr (by rw [pCl (by omega)]; exact q)
    have hfr : fre m ru (tT m td) (nz nw) d h j ↔ zFull m (nz nw) (nI h) (nI j) = -1 := by
      unfold fre zBarP
      rw [if_pos hub, if_neg (fun q => q.elim (nI_pos (by omega)) (fun q => by rw [hpr, pLe (by omega) (by omega)] at q; omega))]
      by_cases c : zFull m (nz nw) (nI h) (nI j) = -1
      · rw [if_pos ⟨hd0, hst', c⟩]; exact ⟨fun _ => c, fun _ => rfl⟩
      · rw [if_neg (fun q => c q.2.2)]; exact ⟨fun q => absurd q (by decide), fun q => absurd q c⟩
    rw [FL_X0_firstFreePort_13, hp, pBs, if_neg (by rw [pLe (by omega) (by omega)]; omega), cPlugged_ hm, pBs, hr.1, full_c hm (by omega) hi.1.1.f]
    by_cases c : zFull m (nz nw) (nI h) (nI j) = -1
    · rw [if_pos c]
      exact ⟨_, rfl, Or.inr ⟨j, by omega, rfl, hfr.mpr c, hb⟩⟩
    · rw [if_neg c, pS1]
      refine free_e hc hr hi hd0 hh hP hub hpr hst hp k (j + 1) n (by omega) (by omega) (fun p hp' => ?_)
      by_cases cp : p = j
      · subst cp; exact fun q => c (hfr.mp q)
      · exact hb p (by omega)
/-- what the reference makes of a hub's further ports: nothing -/
theorem hub_rest {nw nw0 as0 g0 g0' : Nat → Int32} {d h P p0 : Nat} {w x y : Int32} {kk : Int32 → Int32 → Int32 → (Nat → Int32) → (Nat → Int32) → Option (Int32 × (Nat → Int32) × (Nat → Int32))} (hc : Cx m t ru fp td) (h0 : 0 < m) (hi : iU m ru (tT m td) (nz nw)) (hd : d < m) (hh : h ≤ 8) (hP : P ≤ 4) (hp : F_X10_portsOf ru td (nI h) = some (nI P)) (hub : F_X10_isHub (nI m) td (nI h) = some 1) (q1 : nz g0 = nPlug ru (nz nw) d (nI h) (nI p0)) (q2 : nf g0 = upd (nf nw) (24 + d) 0) (q3 : iU m ru (tT m td) (nz g0)) (q4 : FL_X10_whenNow_2 (nI m) ru td g0 (nI d) 1000 (nI 0) g0 = some (w, g0')) (hw : w = -1 ∨ (x ≠ -1 ∧ y ≤ w)) : ∀ (k j n : Nat) (a : Nat → Int32), j + k = P → k < n → ∃ a', FL_X10_place_35 (nI m) ru td nw0 as0 (nI d) kk n x y (nI h) (nI j) nw a = kk x y (nI (h + 1)) nw a'
  | k, j, 0, a, _, h => absurd h (by omega)
  | 0, j, n + 1, a, h1, h2 => by
    obtain rfl : j = P := by omega
    rw [FL_X10_place_35, hub, pBs, if_neg (by decide), hp, pBs, if_pos (le_rfl32 _), pS1]
    exact ⟨a, rfl⟩
  | k + 1, j, n + 1, a, h1, h2 => by
    have hm := hc.1
    have ih := fun a => hub_rest (nw0 := nw0) (as0 := as0) (kk := kk) hc h0 hi hd hh hP hp hub q1 q2 q3 q4 hw k (j + 1) n a (by omega) (by omega)
    rw [FL_X10_place_35, hub, pBs, if_neg (by decide), hp, pBs, if_neg (by rw [pLe (by omega) (by omega)]; omega), rBarP hm hc.2.1 hd, pBs, pS1]
    by_cases hb : zBarP m ru (tT m td) (nz nw) d (nI h) (nI j) = -1
    · rw [if_pos hb]
      obtain ⟨c, e1, e2, e3, e4, e5⟩ := barP_f hc h0 hd (by omega) hb
      obtain rfl : h = c := (nI_eq (by omega) (by rcases e3 with q | q <;> omega)).mp e1
      obtain ⟨as', e⟩ := whenAt_40 (as_ := a) hc h0 hi hd e2 e3 e4 e5 q1 q2 q3 q4
      rw [e, pBs]
      dsimp only
      obtain ⟨a', ia⟩ := ih as'
      rcases hw with hw | ⟨hx, hy⟩
      · rw [if_pos hw]; exact ⟨a', ia⟩
      · by_cases cw : w = -1
        · rw [if_pos cw]; exact ⟨a', ia⟩
        · rw [if_neg cw, if_neg hx, if_pos hy]; exact ⟨a', ia⟩
    · rw [if_neg hb]; exact ih a
/-- a hub without a free port -/
theorem hub_none {nw nw0 as0 : Nat → Int32} {d h P : Nat} {x y : Int32} {kk : Int32 → Int32 → Int32 → (Nat → Int32) → (Nat → Int32) → Option (Int32 × (Nat → Int32) × (Nat → Int32))} (hc : Cx m t ru fp td) (hd : d < m) (hh : h ≤ 8) (hP : P ≤ 4) (hp : F_X10_portsOf ru td (nI h) = some (nI P)) (hub : F_X10_isHub (nI m) td (nI h) = some 1) : ∀ (k j n e : Nat) (a : Nat → Int32), j + k = e → e ≤ P → k < n → (∀ p, p < e → ¬ fre m ru (tT m td) (nz nw) d h p) → FL_X10_place_35 (nI m) ru td nw0 as0 (nI d) kk n x y (nI h) (nI j) nw a = FL_X10_place_35 (nI m) ru td nw0 as0 (nI d) kk (n - k) x y (nI h) (nI e) nw a
  | k, j, 0, e, a, _, _, h, _ => absurd h (by omega)
  | 0, j, n + 1, e, a, h1, h2, h3, hb => by
    obtain rfl : j = e := by omega
    rfl
  | k + 1, j, n + 1, e, a, h1, h2, h3, hb => by
    have hm := hc.1
    rw [FL_X10_place_35, hub, pBs, if_neg (by decide), hp, pBs, if_neg (by rw [pLe (by omega) (by omega)]; omega), rBarP hm hc.2.1 hd, pBs, if_neg (show ¬ zBarP m ru (tT m td) (nz nw) d (nI h) (nI j) = -1 from hb j (by omega)), pS1]
    rw [hub_none (nw0 := nw0) (as0 := as0) (kk := kk) hc hd hh hP hp hub k (j + 1) n e a (by omega) h2 (by omega) hb, show n + 1 - (k + 1) = n - k from by omega]
def plK (x lim x3 : Int32) : Prop := (x = -1 ∧ lim = 200) ∨ (x ≠ -1 ∧ ∃ q, q ≤ 200 ∧ x3 = nI q ∧ lim = nI q - 1)
theorem plK_le {x lim x3 : Int32} (h : plK x lim x3) : lim ≤ 200 := by
  rcases h with ⟨-, rfl⟩ | ⟨-, q, hq, -, rfl⟩
  · exact le_rfl32 _
  · rw [q_le, show (nI q : Int32) - 1 = nI q - nI 1 from rfl, pk_sub_toInt (by omega) (by omega), show (200 : Int32).toInt = 200 from by decide]; omega
theorem place_simL {fa0 fr nw nw0 as0 : Nat → Int32} {d u : Nat} (hc : Cx m t ru fp td) (h0 : 0 < m) (hr : Rl m fr nw) (hi : iU m ru (tT m td) (nz nw)) (hd : d < m) (hd0 : nz nw d = 0) (hu : u ≤ 9999) (u1 : fr 96 = nI u) (u2 : nw 96 = nI u) : ∀ (k j n n' : Nat) (x lim x3 : Int32) (f a : Nat → Int32), j + k = 9 → k < n → k < n' → plK x lim x3 → ∃ r f' a', FL_X3_bestPort_9 fa0 fr (nI m) ru fp (nI d) n x lim (nI j) f = some (r, f') ∧ FL_X10_place_25 (nI m) ru td nw0 as0 (nI d) n' x x3 (nI j) nw a = some (r, nw, a')
  | k, j, 0, n', x, lim, x3, f, a, _, h, _, _ => absurd h (by omega)
  | k, j, n + 1, 0, x, lim, x3, f, a, _, _, h, _ => absurd h (by omega)
  | 0, j, n + 1, n' + 1, x, lim, x3, f, a, h1, _, _, hK => by
    obtain rfl : j = 9 := by omega
    rw [FL_X3_bestPort_9, if_pos (show (8 : Int32) < nI 9 from by decide), FL_X10_place_25, if_pos (show (8 : Int32) < nI 9 from by decide)]
    exact ⟨_, _, _, rfl, rfl⟩
  | k + 1, j, n + 1, n' + 1, x, lim, x3, f, a, h1, h2, h3, hK => by
    have hm := hc.1
    have ih := fun x lim x3 f a hK => place_simL (fa0 := fa0) (nw0 := nw0) (as0 := as0) hc h0 hr hi hd hd0 hu u1 u2 k (j + 1) n n' x lim x3 f a (by omega) (by omega) (by omega) hK
    have j8 : ¬ (8 : Int32) < nI j := by rw [show (8 : Int32) = nI 8 from rfl, pLt (by omega) (by omega)]; omega
    -- what the reference does at this hub, as one step
    have hY : FL_X10_place_25 (nI m) ru td nw0 as0 (nI d) (n' + 1) x x3 (nI j) nw a = FL_X10_place_35 (nI m) ru td nw0 as0 (nI d) (fun y0 y1 y2 y3 y4 => FL_X10_place_25 (nI m) ru td nw0 as0 (nI d) n' y0 y1 y2 y3 y4) 1000 x x3 (nI j) (nI 0) nw a := by
      rw [FL_X10_place_25, if_neg j8]; rfl
    have skip : ∀ a' : Nat → Int32, FL_X10_place_25 (nI m) ru td nw0 as0 (nI d) (n' + 1) x x3 (nI j) nw a = FL_X10_place_25 (nI m) ru td nw0 as0 (nI d) n' x x3 (nI (j + 1)) nw a' → F_X0_firstFreePort fr (nI m) ru fp (nI j) = some (-1) → ∃ r f' a', FL_X3_bestPort_9 fa0 fr (nI m) ru fp (nI d) (n + 1) x lim (nI j) f = some (r, f') ∧ FL_X10_place_25 (nI m) ru td nw0 as0 (nI d) (n' + 1) x x3 (nI j) nw a = some (r, nw, a') := fun a' e1 e2 => by
      rw [FL_X3_bestPort_9, if_neg j8, e2, pBs, if_pos rfl, pS1, e1]
      exact ih x lim x3 f a' hK
    by_cases hub : zHub m (tT m td) (nI j) = true
    · obtain ⟨x', hx', ex, hx2⟩ := hub_nI hm hub
      obtain rfl : j = x' := (nI_eq (by omega) (by omega)).mp ex
      obtain ⟨P, hP, hp⟩ := ports_r (h := j) hc (Or.inr hub) (by omega) h0 hx2
      have hpr : zPrt ru (tT m td) (nI j) = nI P := by
        unfold zPrt
        by_cases c8 : j = 8
        · subst c8
          rw [if_pos (show (nI 8 : Int32) = 8 from rfl)]
          have := rPorts8 (ru := ru) (td := td)
          rw [show F_X10_portsOf ru td 8 = some (nI P) from hp] at this
          exact (Option.some.inj this).symm
        · have cm := hx2.resolve_left c8
          rw [if_neg (by rw [pE8 (by omega)]; exact c8), pCl (by omega)]
          have := rPorts (ru := ru) (td := td) (m := m) hm cm
          rw [hp] at this
          exact (Option.some.inj this).symm
      have hub1 : F_X10_isHub (nI m) td (nI j) = some 1 := by rw [rHub hm, hub]; rfl
      have hpc : F_X5_portsOf (nI m) ru fp (nI j) = some (nI P) := by
        rw [cPorts hm (by
          rcases hx2 with q | q
          · exact Or.inl ⟨h0, by rw [q]; rfl⟩
          · exact Or.inr (by rw [zDev_nI hm (by omega)]; simpa using q)), hc.2.2.2, hpr]
      by_cases hst : j = 8 ∨ nz nw j ≠ 0
      · have hfirst : F_X0_firstFreePort fr (nI m) ru fp (nI j) = FL_X0_firstFreePort_13 fr (nI m) ru fp (nI j) 1000 (nI 0) := by
          unfold F_X0_firstFreePort
          rw [cIs (by omega), pBs, hr.1]
          rcases hst with q | q
          · rw [if_pos (by simp [q, pb])]; rfl
          · rw [if_pos (by simp [q, pb])]; rfl
        obtain ⟨r, r1, r2⟩ := free_e (d := d) hc hr hi hd0 (by omega) hP hub hpr hst hpc P 0 1000 (by omega) (by omega) (fun p hp => by omega)
        rcases r2 with ⟨rfl, hno⟩ | ⟨p0, hp0, rfl, hfr, hbe⟩
        · refine skip a ?_ (hfirst.trans r1)
          rw [hY, hub_none hc hd (by omega) hP hp hub1 P 0 1000 P a (by omega) (by omega) (by omega) hno]
          obtain ⟨z, hz⟩ : ∃ z, 1000 - P = z + 1 := ⟨999 - P, by omega⟩
          rw [hz, FL_X10_place_35, hub1, pBs, if_neg (by decide), hp, pBs, if_pos (le_rfl32 _), pS1]
        · obtain ⟨c, e1, e2, e3, e4, e5⟩ := barP_f hc h0 hd (by omega) hfr
          obtain rfl : j = c := (nI_eq (by omega) (by rcases e3 with q | q <;> omega)).mp e1
          obtain ⟨k1, k2⟩ := cpyR (fa := f) hm hr
          obtain ⟨f1, g, b1, b2, b3, b4, b5, b6, b7⟩ := plug_sim hc h0 k1 hi hd hd0 e3 e4 e5
          obtain ⟨g2, c1, c2, c3⟩ := rPlug (nw := nw) hm (hc.2.1 h0) hi hd hd0 e3 e4 e5
          obtain rfl : g = g2 := by
            have := b2.symm.trans c1
            exact (Prod.mk.inj (Option.some.inj this)).2
          obtain ⟨r, f2, w, g', p1, p2, p3, p4⟩ := play_when (fa0 := f1) (fr0 := fr) (nw0 := g) (z2 := lim) hc h0 hd (plK_le hK) 201 0 1000 1000 u f1 g (by omega) (by omega) (by omega) b3 b4 hu (b5.trans (k2.trans u1)) (b6.trans u2)
          have hX : FL_X3_bestPort_9 fa0 fr (nI m) ru fp (nI d) (n + 1) x lim (nI j) f = if r = -1 then FL_X3_bestPort_9 fa0 fr (nI m) ru fp (nI d) n x lim (nI (j + 1)) f2 else FL_X3_bestPort_9 fa0 fr (nI m) ru fp (nI d) n (10 * nI j + nI p0) (r - 1) (nI (j + 1)) f2 := by
            rw [FL_X3_bestPort_9, if_neg j8, hfirst.trans r1, pBs, if_neg (by rw [pNm (by omega)]; exact id)]
            unfold F_X0_copyFrom F_X3_playTillRunning
            rw [pBs, b1, pBs, show FL_X3_playTillRunning_2 f1 fr (nI m) ru fp (nI d) lim 1000 0 f1 = _ from p1, pBs, pS1]
          obtain ⟨as', ea⟩ := whenAt_40 (as_ := a) hc h0 hi hd hd0 e3 e4 e5 c2 c3 b4 p2
          obtain ⟨z, hz⟩ : ∃ z, 1000 - p0 = z + 1 := ⟨999 - p0, by omega⟩
          have hY2 : FL_X10_place_25 (nI m) ru td nw0 as0 (nI d) (n' + 1) x x3 (nI j) nw a = if w = -1 then FL_X10_place_35 (nI m) ru td nw0 as0 (nI d) (fun y0 y1 y2 y3 y4 => FL_X10_place_25 (nI m) ru td nw0 as0 (nI d) n' y0 y1 y2 y3 y4) z x x3 (nI j) (nI (p0 + 1)) nw as' else if x = -1 ∨ ¬ x3 ≤ w then FL_X10_place_35 (nI m) ru td nw0 as0 (nI d) (fun y0 y1 y2 y3 y4 => FL_X10_place_25 (nI m) ru td nw0 as0 (nI d) n' y0 y1 y2 y3 y4) z (10 * nI j + nI p0) w (nI j) (nI (p0 + 1)) nw as' else FL_X10_place_35 (nI m) ru td nw0 as0 (nI d) (fun y0 y1 y2 y3 y4 => FL_X10_place_25 (nI m) ru td nw0 as0 (nI d) n' y0 y1 y2 y3 y4) z x x3 (nI j) (nI (p0 + 1)) nw as' := by
            rw [hY, hub_none hc hd (by omega) hP hp hub1 p0 0 1000 p0 a (by omega) (by omega) (by omega) hbe, hz, FL_X10_place_35, hub1, pBs, if_neg (by decide), hp, pBs, if_neg (by rw [pLe (by omega) (by omega)]; omega), rBarP hm hc.2.1 hd, pBs, if_pos (show zBarP m ru (tT m td) (nz nw) d (nI j) (nI p0) = -1 from hfr), ea, pBs, pS1]
            dsimp only
            by_cases cw : w = -1
            · rw [if_pos cw, if_pos cw]
            · rw [if_neg cw, if_neg cw]
              by_cases cx : x = -1
              · rw [if_pos cx, if_pos (Or.inl cx)]
              · rw [if_neg cx]
                by_cases cy : x3 ≤ w
                · rw [if_pos cy, if_neg (fun q => q.elim cx (fun q => q cy))]
                · rw [if_neg cy, if_pos (Or.inr cy)]
          have rest := fun x y hw a => hub_rest (nw0 := nw0) (as0 := as0) (x := x) (y := y) (kk := fun y0 y1 y2 y3 y4 => FL_X10_place_25 (nI m) ru td nw0 as0 (nI d) n' y0 y1 y2 y3 y4) hc h0 hi hd (by omega) hP hp hub1 c2 c3 b4 p2 hw (P - (p0 + 1)) (p0 + 1) z a (by omega) (by omega)
          rw [hX, hY2]
          have keep : r = -1 → (w = -1 ∨ (x ≠ -1 ∧ x3 ≤ w)) → ∃ r' f' a', (if r = -1 then FL_X3_bestPort_9 fa0 fr (nI m) ru fp (nI d) n x lim (nI (j + 1)) f2 else FL_X3_bestPort_9 fa0 fr (nI m) ru fp (nI d) n (10 * nI j + nI p0) (r - 1) (nI (j + 1)) f2) = some (r', f') ∧ (if w = -1 then FL_X10_place_35 (nI m) ru td nw0 as0 (nI d) (fun y0 y1 y2 y3 y4 => FL_X10_place_25 (nI m) ru td nw0 as0 (nI d) n' y0 y1 y2 y3 y4) z x x3 (nI j) (nI (p0 + 1)) nw as' else if x = -1 ∨ ¬ x3 ≤ w then FL_X10_place_35 (nI m) ru td nw0 as0 (nI d) (fun y0 y1 y2 y3 y4 => FL_X10_place_25 (nI m) ru td nw0 as0 (nI d) n' y0 y1 y2 y3 y4) z (10 * nI j + nI p0) w (nI j) (nI (p0 + 1)) nw as' else FL_X10_place_35 (nI m) ru td nw0 as0 (nI d) (fun y0 y1 y2 y3 y4 => FL_X10_place_25 (nI m) ru td nw0 as0 (nI d) n' y0 y1 y2 y3 y4) z x x3 (nI j) (nI (p0 + 1)) nw as') = some (r', nw, a') := fun hr1 hw => by
            obtain ⟨a', ra⟩ := rest x x3 hw as'
            have e : (if w = -1 then FL_X10_place_35 (nI m) ru td nw0 as0 (nI d) (fun y0 y1 y2 y3 y4 => FL_X10_place_25 (nI m) ru td nw0 as0 (nI d) n' y0 y1 y2 y3 y4) z x x3 (nI j) (nI (p0 + 1)) nw as' else if x = -1 ∨ ¬ x3 ≤ w then FL_X10_place_35 (nI m) ru td nw0 as0 (nI d) (fun y0 y1 y2 y3 y4 => FL_X10_place_25 (nI m) ru td nw0 as0 (nI d) n' y0 y1 y2 y3 y4) z (10 * nI j + nI p0) w (nI j) (nI (p0 + 1)) nw as' else FL_X10_place_35 (nI m) ru td nw0 as0 (nI d) (fun y0 y1 y2 y3 y4 => FL_X10_place_25 (nI m) ru td nw0 as0 (nI d) n' y0 y1 y2 y3 y4) z x x3 (nI j) (nI (p0 + 1)) nw as') = FL_X10_place_25 (nI m) ru td nw0 as0 (nI d) n' x x3 (nI (j + 1)) nw a' := by
              by_cases cw : w = -1
              · rw [if_pos cw]; exact ra
              · obtain ⟨hx, hy⟩ := hw.resolve_left cw
                rw [if_neg cw, if_neg (fun q => q.elim hx (fun q => q hy))]; exact ra
            rw [if_pos hr1, e]
            exact ih x lim x3 f2 a' hK
          rcases p4 with ⟨w1, w2⟩ | ⟨q, -, hq, w1, ⟨w2, w3⟩ | ⟨w2, w3⟩⟩
          · exact keep w2 (Or.inl w1)
          · have hrn : ¬ r = -1 := by rw [w3, pNm (by omega)]; exact id
            have hwn : ¬ w = -1 := by rw [w1, pNm (by omega)]; exact id
            have hxw : x = -1 ∨ ¬ x3 ≤ w := by
              rcases hK with ⟨hx, -⟩ | ⟨-, q', hq', hx3, hl⟩
              · exact Or.inl hx
              · refine Or.inr (fun c => ?_)
                rw [hx3, w1, pLe (by omega) (by omega)] at c
                rw [hl, q_le, nI_toInt (by omega), show (nI q' : Int32) - 1 = nI q' - nI 1 from rfl, pk_sub_toInt (by omega) (by omega)] at w2
                omega
            have e10 : (10 : Int32) * nI j + nI p0 = nI (10 * j + p0) := by
              have q1 : (10 : Int32) * nI j = nI (10 * j) := pM 10 j
              rw [q1, nI_add]
            have hxn : (10 : Int32) * nI j + nI p0 ≠ -1 := by rw [e10, Ne, pNm (by omega)]; exact id
            obtain ⟨a', ra⟩ := rest (10 * nI j + nI p0) w (Or.inr ⟨hxn, le_rfl32 _⟩) as'
            rw [if_neg hrn, if_neg hwn, if_pos hxw, ra]
            exact ih _ _ _ f2 a' (Or.inr ⟨hxn, q, hq, w1, by rw [w3]⟩)
          · refine keep w3 (Or.inr ?_)
            rcases hK with ⟨-, hl⟩ | ⟨hx, q', hq', hx3, hl⟩
            · rw [hl, show (200 : Int32) = nI 200 from rfl, pLt (by omega) (by omega)] at w2; omega
            · refine ⟨hx, ?_⟩
              rw [hx3, w1, pLe (by omega) (by omega)]
              rw [hl, q_lt, nI_toInt (by omega), show (nI q' : Int32) - 1 = nI q' - nI 1 from rfl, pk_sub_toInt (by omega) (by omega)] at w2
              omega
      · -- an absent hub
        have hj8 : j ≠ 8 := fun q => hst (Or.inl q)
        have hn0 : nz nw j = 0 := Decidable.byContradiction (fun q => hst (Or.inr q))
        refine skip a ?_ ?_
        · rw [hY, hub_none hc hd (by omega) hP hp hub1 P 0 1000 P a (by omega) (by omega) (by omega) (fun p hp' q => by
            obtain ⟨c, e1, -, e3, -, -⟩ := barP_f hc h0 hd (by omega) q
            obtain rfl : j = c := (nI_eq (by omega) (by rcases e3 with q | q <;> omega)).mp e1
            rcases e3 with e3 | e3
            · exact hj8 e3
            · exact e3.2 hn0)]
          obtain ⟨z, hz⟩ : ∃ z, 1000 - P = z + 1 := ⟨999 - P, by omega⟩
          rw [hz, FL_X10_place_35, hub1, pBs, if_neg (by decide), hp, pBs, if_pos (le_rfl32 _), pS1]
        · unfold F_X0_firstFreePort
          rw [cIs (by omega), pBs, hr.1, if_neg (by simp [hj8, hn0, pb])]
    · -- no hub
      have ch' : zHub m (tT m td) (nI j) = false := by simpa using hub
      refine skip a ?_ ?_
      · rw [hY, show (1000 : Nat) = 999 + 1 from rfl, FL_X10_place_35, rHub hm, ch', pBs, if_pos (by decide), pS1]
      · obtain ⟨r, r1, r2⟩ := free_c (fr := fr) (h := j) hc h0 (by omega)
        rcases r2 with rfl | ⟨p, hp4, -, h1', h2'⟩
        · exact r1
        · exfalso
          apply hub
          unfold zHub
          rcases h2' with ⟨q, -⟩ | ⟨q1, q2⟩
          · have e : (nI j : Int32) = 8 := by rw [q]; rfl
            simp [e, h0]
          · rw [zDev_nI hm (by omega), pCl (by omega)]
            obtain ⟨⟨pp, hpp4, e⟩, -⟩ := hc.2.2.1 j q1
            have : ¬ tT m td j 0 ≤ 0 := by
              rw [e, pLe0 (by omega)]
              rw [e, pLt (by omega) (by omega)] at q2; omega
            simp [q1, this]
theorem place_sim {fr fa nw as_ : Nat → Int32} {z1 : Int32} {u : Nat} (hc : Cx m t ru fp td) (hr : Rl m fr nw) (hi : iU m ru (tT m td) (nz nw)) (hu : u ≤ 9999) (e1 : fr 96 = nI u) (e2 : nw 96 = nI u) : ∃ r fa' as', F_X9_place (nI m) ru fp fr fa z1 = some (r, fa') ∧ F_X10_place (nI m) ru td nw as_ z1 = some (r, nw, as') := by
  have hm := hc.1
  unfold F_X9_place F_X10_place
  rw [cHas hm, pBs, rDev, pBs]
  by_cases hd : pb (zDev m z1) = 0
  · rw [if_pos hd, if_pos hd]; exact ⟨_, _, _, rfl, rfl⟩
  · rw [if_neg hd, if_neg hd]
    obtain ⟨d, hd', rfl⟩ := dev_c hm hd
    have ed : nz nw d = nw d := if_pos (by omega)
    rw [cIs (by omega), pBs, rState (by omega), pBs, hr.1, ← ed]
    by_cases c0 : nz nw d = 0
    · rw [if_neg (by simp [c0, pb]; omega), if_pos c0]
      unfold F_X3_bestPort
      obtain ⟨r, f', a', b1, b2⟩ := place_simL (fa0 := fa) (nw0 := nw) (as0 := as_) hc (by omega) hr hi hd' c0 hu e1 e2 9 0 1000 1000 (-1) 200 0 fa as_ (by omega) (by omega) (by omega) (Or.inl ⟨rfl, rfl⟩)
      rw [show FL_X3_bestPort_9 fa fr (nI m) ru fp (nI d) 1000 (-1) 200 0 fa = _ from b1, pBs]
      exact ⟨r, f', a', rfl, b2⟩
    · rw [if_pos (by simp [c0, pb]), if_neg c0]; exact ⟨_, _, _, rfl, rfl⟩
end
