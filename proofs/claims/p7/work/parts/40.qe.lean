/-! hubs, and all -/
section
variable {m t : Nat} {ru fp td fr nw : Nat → Int32}
theorem takes_b {T : Nat → Nat → Int32} {N : Nat → Int32} {d : Nat} (hT : wT m T) (hd : d < m) : 0 ≤ (zTakes T N d).toInt ∧ (zTakes T N d).toInt ≤ 9 := by
  obtain ⟨u, hu, e⟩ := zTakes_9 (N := N) hT hd
  rw [e, nI_toInt (by omega)]; omega
theorem left_b {R : Nat → Int32} {T : Nat → Nat → Int32} {N : Nat → Int32} {h : Nat} {out : Int32} (hm : m ≤ 8) (hT : wT m T) (hg : ∃ g, g ≤ 9 ∧ R 4 = nI g) (hh : h < m) : (zLeft m R T N h out).toInt ≤ 9 := by
  unfold zLeft
  obtain ⟨-, -, ⟨u, hu, eu⟩, -⟩ := hT h hh
  have hb : -9 ≤ (zGv R N (N (32 + h)) - T h 2).toInt ∧ (zGv R N (N (32 + h)) - T h 2).toInt ≤ 9 := by
    have : ∃ g, g ≤ 9 ∧ zGv R N (N (32 + h)) = nI g := by
      unfold zGv
      split
      · exact hg
      · split
        · exact ⟨5, by omega, rfl⟩
        · exact ⟨1, by omega, rfl⟩
    obtain ⟨g, hg', eg⟩ := this
    rw [eg, eu, pk_sub_toInt (by omega) (by omega)]; omega
  have := pF_inv (g := zLf T N h out) (fun j a => j ≤ m ∧ -9 - 9 * (j : Int) ≤ a.toInt ∧ a.toInt ≤ 9) m 0 (zGv R N (N (32 + h)) - T h 2) (fun i a _ hi hI => ?_) ⟨by omega, by omega, hb.2⟩
  · exact this.2.2
  · unfold zLf
    have tb := takes_b (T := T) (N := N) hT (show i < m by omega)
    obtain ⟨h1, h2, h3⟩ := hI
    split
    · have e : (a - zTakes T N i).toInt = a.toInt - (zTakes T N i).toInt := by
        rw [Int32.toInt_sub, Int.bmod_eq_of_le (by omega) (by omega)]
      rw [e]
      refine ⟨by omega, ?_, by omega⟩
      have : ((i + 1 : Nat) : Int) = (i : Int) + 1 := by omega
      omega
    · refine ⟨by omega, ?_, h3⟩
      have : ((i + 1 : Nat) : Int) = (i : Int) + 1 := by omega
      omega
theorem hub_sim {z1 z2 : Int32} (hc : Cx m t ru fp td) (hg : 0 < m → ∃ g, g ≤ 9 ∧ ru 4 = nI g) (hr : Rl m fr nw) (hi : iU m ru (tT m td) (nz nw)) : ∃ r, F_X9_hub (nI m) ru fp fr z1 z2 = some r ∧ F_X10_hub (nI m) ru td nw z1 z2 = some r := by
  have hm := hc.1
  unfold F_X9_hub F_X10_hub
  rw [rHub hm, pBs, cHub hm hc.2.1, pBs, hc.2.2.2]
  by_cases ch : zHub m (tT m td) z1 = true
  · have hcc := zHub_c ch
    obtain ⟨h, hh, rfl, hh2⟩ := hub_nI hm ch
    rw [ch, if_neg (show ¬ pb true = 0 from by decide), if_neg (show ¬ pb true = 0 from by decide)]
    have h0 : 0 < m := by
      rcases hcc with q | q
      · exact q.1
      · obtain ⟨d, hd, -⟩ := zDev_lt hm q; omega
    have hb1 : (nI h : Int32) ≠ -1 := by rw [Ne, pNm (by omega)]; exact id
    have h8 : (nI h = 8) = (h = 8) := pE8 (by omega)
    obtain ⟨r, hr'⟩ := hi.1.1.r hm
    have ep : F_X10_portsOf ru td (nI h) = some (zPrt ru (tT m td) (nI h)) := by
      unfold zPrt
      rcases hh2 with rfl | hh2
      · exact rPorts8
      · rw [if_neg (by rw [pE8 (by omega)]; omega), rPorts (m := m) hm (by omega), pCl (by omega)]
    have hfw : wF m (nz fr) := by rw [hr.1]; exact hi.1.1.f
    have hsw : wS m (nz fr) := by rw [hr.1]; exact hi.1.1.s
    have hrn : wRn m (nz fr) := by rw [hr.1]; exact hi.1.1.rn
    simp only [rIn, pBs, cBeneath hm, rBeneath hm hr' hi.1.1.f hh, cRight hm hfw hb1, pCount hm, rRight hm, pBits hm, cGives, rGives hh, cBound hh, cHelp hm hsw hrn hb1, rHelp hm hr' hi.1.1.q, cPorts hm hcc, ep, cIs hh, hr.1, hc.2.2.2]
    have key3 : ∀ X : Option Int32, ∃ r, (if pb (decide (h = 8) || decide (nz nw (72 + h) = 1)) = 0 then (if pb (!decide (h = 8) && decide (nz nw h = 0)) = 0 then ((F_X0_leftOf fr (nI m) ru fp (nI h) (-1)).bind fun o_20 => some o_20) else some (-1000000)) else some (-1000000)) = some r ∧ (if nI h = 8 then ((F_X10_leftOf (nI m) ru td nw (nI h) (-1)).bind fun o_18 => if o_18 = 1000000 then some (-1000000) else some o_18) else ((F_X10_state nw (nI h)).bind fun o_21 => if o_21 = 0 then some (-1000000) else ((F_X10_leftOf (nI m) ru td nw (nI h) (-1)).bind fun o_24 => if o_24 = 1000000 then some (-1000000) else some o_24))) = some r := fun _ => by
      by_cases q8 : h = 8
      · subst q8
        rw [if_neg (show ¬ pb (decide (8 = 8) || decide (nz nw (72 + 8) = 1)) = 0 by simp [pb]), if_pos (show nI 8 = 8 from rfl), rLeft hm (by omega) (Or.inl rfl), pBs, if_pos (show (if (8 : Nat) = 8 ∨ nz nw (72 + 8) = 1 then (1000000 : Int32) else zLeft m ru (tT m td) (nz nw) 8 (-1)) = 1000000 from if_pos (Or.inl rfl))]
        exact ⟨_, rfl, rfl⟩
      · have hhm : h < m := hh2.resolve_left q8
        have e0 : nz nw h = nw h := pNz (by omega)
        have n8 : ¬ (nI h : Int32) = 8 := by rw [h8]; exact q8
        rw [if_neg n8, rState (by omega), pBs]
        by_cases q0 : nw h = 0
        · rw [if_pos q0]
          by_cases q7 : nz nw (72 + h) = 1
          · rw [if_neg (show ¬ pb (decide (h = 8) || decide (nz nw (72 + h) = 1)) = 0 by simp [q7, pb])]; exact ⟨_, rfl, rfl⟩
          · rw [if_pos (show pb (decide (h = 8) || decide (nz nw (72 + h) = 1)) = 0 by simp [q8, q7, pb]), if_neg (show ¬ pb (!decide (h = 8) && decide (nz nw h = 0)) = 0 by simp [q8, e0, q0, pb])]; exact ⟨_, rfl, rfl⟩
        · rw [if_neg q0, rLeft hm hh (Or.inr ⟨hhm, hi.1.1.h hm h hhm (by rw [e0]; exact q0)⟩), pBs]
          by_cases q7 : nz nw (72 + h) = 1
          · rw [if_neg (show ¬ pb (decide (h = 8) || decide (nz nw (72 + h) = 1)) = 0 by simp [q7, pb]), if_pos (Or.inr q7), if_pos rfl]; exact ⟨_, rfl, rfl⟩
          · have nn : ¬ (h = 8 ∨ nz nw (72 + h) = 1) := fun q => q.elim q8 q7
            rw [if_pos (show pb (decide (h = 8) || decide (nz nw (72 + h) = 1)) = 0 by simp [q8, q7, pb]), if_pos (show pb (!decide (h = 8) && decide (nz nw h = 0)) = 0 by simp [e0, q0, pb]), if_neg nn, cLeft hm hhm, pBs, hr.1, hc.2.2.2]
            have := left_b (N := nz nw) (out := -1) hm hc.2.2.1 (hg h0) hhm
            rw [if_neg (fun q => by rw [q] at this; exact absurd this (by decide))]
            exact ⟨_, rfl, rfl⟩
    obtain ⟨r3, k31, k32⟩ := key3 none
    by_cases ci : (!decide (z2 < 0) && !decide (5 < z2)) = true
    · rw [show (!decide (z2 < 0) && !decide ((5 : Int32) < z2)) = true from ci, if_neg (show ¬ pb true = 0 from by decide)]
      obtain ⟨k, hk, rfl⟩ := (in_c (a := 5) (by omega)).mp ci
      have : k = 0 ∨ k = 1 ∨ k = 2 ∨ k = 3 ∨ k = 4 ∨ k = 5 := by omega
      rcases this with rfl | rfl | rfl | rfl | rfl | rfl
      · exact ⟨_, rfl, rfl⟩
      · exact ⟨_, rfl, rfl⟩
      · exact ⟨_, rfl, rfl⟩
      · exact ⟨r3, k31, k32⟩
      · exact ⟨_, rfl, rfl⟩
      · exact ⟨_, rfl, rfl⟩
    · have ci' : (!decide (z2 < 0) && !decide (5 < z2)) = false := by simpa using ci
      rw [show (!decide (z2 < 0) && !decide ((5 : Int32) < z2)) = false from ci', if_pos (show pb false = 0 from rfl)]
      have ne : ∀ k, k ≤ 5 → ¬ z2 = nI k := fun k hk q => ci ((in_c (a := 5) (by omega)).mpr ⟨k, hk, q⟩)
      rw [if_neg (show ¬ z2 = 0 from ne 0 (by omega)), if_neg (show ¬ z2 = 1 from ne 1 (by omega)), if_neg (show ¬ z2 = 2 from ne 2 (by omega)), if_neg (show ¬ z2 = 3 from ne 3 (by omega)), if_neg (show ¬ z2 = 4 from ne 4 (by omega)), if_neg (show ¬ z2 = 5 from ne 5 (by omega))]
      exact ⟨_, rfl, rfl⟩
  · have ch' : zHub m (tT m td) z1 = false := by simpa using ch
    rw [ch', if_pos (show pb false = 0 from rfl), if_pos (show pb false = 0 from rfl)]; exact ⟨_, rfl, rfl⟩
def zDpm (N : Nat → Int32) (d : Nat) (a : Int32) : Int32 := if a < zDepth N d then zDepth N d else a
theorem deep_c (hm : m ≤ 8) : F_X0_greatestDepth fr (nI m) ru fp = some (pF (zDpm (nz fr)) m 0 0) := by
  unfold F_X0_greatestDepth
  refine pLoop0 (m := m) (L := fun n i a => FL_X0_greatestDepth_4 fr (nI m) ru fp n a i) (g := zDpm (nz fr)) (fin := id) (fun n j a hj => ?_) (fun n a => ?_) 1000 0 (by omega)
  · show FL_X0_greatestDepth_4 fr (nI m) ru fp (n + 1) a (nI j) = _
    rw [FL_X0_greatestDepth_4, if_neg (by rw [pLe (by omega) (by omega)]; omega), cDepth (by omega), pBs, pS1]; rfl
  · show FL_X0_greatestDepth_4 fr (nI m) ru fp (n + 1) a (nI m) = _
    rw [FL_X0_greatestDepth_4, if_pos (le_rfl32 _)]; rfl
theorem deep_r (hm : m ≤ 8) (hi : iN m (nz nw)) : F_X10_deepest (nI m) nw = some (pF (zDpm (nz nw)) m 0 0) := by
  obtain ⟨r, hr⟩ := hi.r hm
  unfold F_X10_deepest
  refine pLoop0 (m := m) (L := fun n i a => FL_X10_deepest_4 (nI m) nw n a i) (g := zDpm (nz nw)) (fin := id) (fun n j a hj => ?_) (fun n a => ?_) 1000 0 (by omega)
  · show FL_X10_deepest_4 (nI m) nw (n + 1) a (nI j) = _
    rw [FL_X10_deepest_4, if_neg (by rw [pLe (by omega) (by omega)]; omega), rDepth hm hr hi.f hj, pBs, pS1]; rfl
  · show FL_X10_deepest_4 (nI m) nw (n + 1) a (nI m) = _
    rw [FL_X10_deepest_4, if_pos (le_rfl32 _)]; rfl
theorem free_r (hc : Cx m t ru fp td) (h0 : 0 < m) : ∃ r, F_X10_freeAddresses (nI m) ru nw = some r := by
  have hm := hc.1
  obtain ⟨ht, h7, -⟩ := hc.2.1 h0
  unfold F_X10_freeAddresses
  have hl : ∀ (k j n : Nat) (a : Int32), j + k = t + 1 → k < n → ∃ r, FL_X10_freeAddresses_4 (nI m) ru nw n a (nI j) = some r := by
    intro k
    induction k with
    | zero =>
      intro j n a h1 h2
      obtain ⟨n, rfl⟩ : ∃ x, n = x + 1 := ⟨n - 1, by omega⟩
      rw [FL_X10_freeAddresses_4, h7, if_pos (by rw [pLt (by omega) (by omega)]; omega)]; exact ⟨_, rfl⟩
    | succ k ih =>
      intro j n a h1 h2
      obtain ⟨n, rfl⟩ : ∃ x, n = x + 1 := ⟨n - 1, by omega⟩
      rw [FL_X10_freeAddresses_4, h7, if_neg (by rw [pLt (by omega) (by omega)]; omega), rWho hm, pBs, pS1]
      split
      · exact ih (j + 1) n _ (by omega) (by omega)
      · exact ih (j + 1) n _ (by omega) (by omega)
  exact hl t 1 1000 0 (by omega) (by omega)
theorem supplied_c (hc : Cx m t ru fp td) : F_X0_suppliedHubs fr (nI m) ru fp = some (pSet (fun d => decide (nz fr (72 + d) = 1) && zHub m (tT m td) (nI d)) m) := by
  have hm := hc.1
  unfold F_X0_suppliedHubs
  refine pLoop0 (m := m) (L := fun n i a => FL_X0_suppliedHubs_4 fr (nI m) ru fp n a i) (fin := id) (fun n j a hj => ?_) (fun n a => ?_) 1000 0 (by omega)
  · show FL_X0_suppliedHubs_4 fr (nI m) ru fp (n + 1) a (nI j) = _
    have e : nz fr (72 + j) = fr (72 + j) := pNz (by omega)
    rw [FL_X0_suppliedHubs_4, if_neg (by rw [pLe (by omega) (by omega)]; omega), cHub hm hc.2.1, pBs, hc.2.2.2, pA72, pIx (by omega) (by omega), pCl (by omega), pS1]
    unfold pSb
    by_cases q : fr (72 + j) = 1 <;> by_cases q2 : zHub m (tT m td) (nI j) = true <;> simp [e, q, q2, pb]
  · show FL_X0_suppliedHubs_4 fr (nI m) ru fp (n + 1) a (nI m) = _
    rw [FL_X0_suppliedHubs_4, if_pos (le_rfl32 _)]; rfl
theorem supplied_r (hc : Cx m t ru fp td) : F_X10_supplied (nI m) td nw = some (pSet (fun d => decide (nz nw (72 + d) = 1) && zHub m (tT m td) (nI d)) m) := by
  have hm := hc.1
  unfold F_X10_supplied
  refine pLoop0 (m := m) (L := fun n i a => FL_X10_supplied_4 (nI m) td nw n a i) (fin := id) (fun n j a hj => ?_) (fun n a => ?_) 1000 0 (by omega)
  · show FL_X10_supplied_4 (nI m) td nw (n + 1) a (nI j) = _
    have e : nz nw (72 + j) = nw (72 + j) := pNz (by omega)
    rw [FL_X10_supplied_4, if_neg (by rw [pLe (by omega) (by omega)]; omega), rHub hm, pBs, pA72, pIx (by omega) (by omega), pCl (by omega), pS1]
    unfold pSb
    by_cases q : nw (72 + j) = 1 <;> by_cases q2 : zHub m (tT m td) (nI j) = true <;> simp [e, q, q2, pb]
  · show FL_X10_supplied_4 (nI m) td nw (n + 1) a (nI m) = _
    rw [FL_X10_supplied_4, if_pos (le_rfl32 _)]; rfl
theorem slps_c (hm : m ≤ 8) : F_X0_sleepers fr (nI m) ru fp = some (pSet (fun d => decide (nz fr (88 + d) = 1)) m) := by
  unfold F_X0_sleepers
  refine pLoop0 (m := m) (L := fun n i a => FL_X0_sleepers_4 fr (nI m) ru fp n a i) (fin := id) (fun n j a hj => ?_) (fun n a => ?_) 1000 0 (by omega)
  · show FL_X0_sleepers_4 fr (nI m) ru fp (n + 1) a (nI j) = _
    have e : nz fr (88 + j) = fr (88 + j) := pNz (by omega)
    rw [FL_X0_sleepers_4, if_neg (by rw [pLe (by omega) (by omega)]; omega), pA88, pIx (by omega) (by omega), pCl (by omega), pS1]
    unfold pSb
    by_cases q : fr (88 + j) = 1 <;> simp [e, q]
  · show FL_X0_sleepers_4 fr (nI m) ru fp (n + 1) a (nI m) = _
    rw [FL_X0_sleepers_4, if_pos (le_rfl32 _)]; rfl
def zWk (m : Nat) (R : Nat → Int32) (T : Nat → Nat → Int32) (N : Nat → Int32) (d : Nat) : Bool := decide (N (88 + d) = 1) && zWake m R T N d (N (32 + d)).toNatClampNeg
theorem wk6 {N : Nat → Int32} {d : Nat} (hm : m ≤ 8) (hi : iN m N) (hd : d < m) (h : N (88 + d) = 1) : N d = 6 ∧ ∃ x, x ≤ 8 ∧ N (32 + d) = nI x ∧ (x = 8 ∨ (x < m ∧ N x = 6)) := by
  have h6 : N d = 6 := Decidable.byContradiction (fun r => by
    have := ((hi.2.1 d hd).2.2.2.2.2.1 r).2.2
    rw [h] at this; exact absurd this (by decide))
  exact ⟨h6, hub36 hm hi.2.2 hd (Or.inr (Or.inr (Or.inr h6)))⟩
theorem wks_c (hc : Cx m t ru fp td) (hi : iU m ru (tT m td) (nz fr)) : F_X0_wakers fr (nI m) ru fp = some (pSet (zWk m ru (tT m td) (nz fr)) m) := by
  have hm := hc.1
  unfold F_X0_wakers
  refine pLoop0 (m := m) (L := fun n i a => FL_X0_wakers_4 fr (nI m) ru fp n a i) (fin := id) (fun n j a hj => ?_) (fun n a => ?_) 1000 0 (by omega)
  · show FL_X0_wakers_4 fr (nI m) ru fp (n + 1) a (nI j) = _
    have e : nz fr (88 + j) = fr (88 + j) := pNz (by omega)
    rw [FL_X0_wakers_4, if_neg (by rw [pLe (by omega) (by omega)]; omega), pA88, pIx (by omega) (by omega), pCl (by omega), pS1]
    unfold pSb zWk
    by_cases q : fr (88 + j) = 1
    · obtain ⟨h6, x, hx, hh, -⟩ := wk6 hm hi.1.1 hj (by rw [e]; exact q)
      rw [if_pos q, cWake hm hi.1.1 hj (by rw [h6]; decide) hx hh, pBs, hc.2.2.2]
      have ex : (nI x).toNatClampNeg = x := pCl (by omega)
      by_cases q2 : zWake m ru (tT m td) (nz fr) j x = true <;> simp [e, hh, ex, q, q2, pb]
    · simp [e, q]
  · show FL_X0_wakers_4 fr (nI m) ru fp (n + 1) a (nI m) = _
    rw [FL_X0_wakers_4, if_pos (le_rfl32 _)]; rfl
theorem slps_r {z : Int32} (hc : Cx m t ru fp td) (hi : iU m ru (tT m td) (nz nw)) : F_X10_sleepers (nI m) ru td nw z = some (pSet (fun d => if z = 0 then decide (nz nw (88 + d) = 1) else zWk m ru (tT m td) (nz nw) d) m, nw) := by
  have hm := hc.1
  unfold F_X10_sleepers
  refine pLoop0 (m := m) (L := fun n i a => FL_X10_sleepers_4 (nI m) ru td nw z n a i nw) (fin := fun a => (a, nw)) (fun n j a hj => ?_) (fun n a => ?_) 1000 0 (by omega)
  · show FL_X10_sleepers_4 (nI m) ru td nw z (n + 1) a (nI j) nw = _
    have e : nz nw (88 + j) = nw (88 + j) := pNz (by omega)
    have es : zSlp (nz nw) j = decide (nw (88 + j) = 1) := by
      unfold zSlp; rw [e]
      have : ¬ j = 8 := by omega
      simp [this]
    rw [FL_X10_sleepers_4, if_neg (by rw [pLe (by omega) (by omega)]; omega), rAsleep (by omega), pBs, pS1, es]
    unfold pSb zWk
    by_cases q : nw (88 + j) = 1
    · obtain ⟨h6, x, hx, hh, hx6⟩ := wk6 hm hi.1.1 hj (by rw [e]; exact q)
      rw [rWake hm hc.2.2.1 hi.1 hj h6 (by rw [e]; exact q) hx hh hx6, pBs]
      have ex : (nI x).toNatClampNeg = x := pCl (by omega)
      by_cases qz : z = 0 <;> by_cases q2 : zWake m ru (tT m td) (nz nw) j x = true <;> simp [e, hh, ex, q, q2, qz, pb]
    · by_cases qz : z = 0 <;> simp [e, q, qz, pb]
  · show FL_X10_sleepers_4 (nI m) ru td nw z (n + 1) a (nI m) nw = _
    rw [FL_X10_sleepers_4, if_pos (le_rfl32 _)]
theorem all_sim {z1 : Int32} (hc : Cx m t ru fp td) (hr : Rl m fr nw) (hi : iU m ru (tT m td) (nz nw)) (h96 : fr 96 = nw 96) : ∃ r r', F_X9_all (nI m) ru fp fr z1 = some r ∧ F_X10_all (nI m) ru td nw z1 = some (r', nw) ∧ (z1 ≠ 9 → r = r') := by
  have hm := hc.1
  unfold F_X9_all F_X10_all F_X5_isTold
  rw [rTree hm, pBs, rIn, pBs]
  by_cases m0 : m = 0
  · subst m0; exact ⟨_, _, rfl, rfl, fun _ => rfl⟩
  · have m0' : 0 < m := by omega
    rw [if_neg (by rw [pLe0 (by omega)]; exact m0), pBs, if_neg (show ¬ (1 : Int32) = 0 from by decide), if_neg (show ¬ pb (decide (0 < m)) = 0 by simp [m0', pb])]
    obtain ⟨r, hr'⟩ := hi.1.1.r hm
    obtain ⟨rf, hrf⟩ := free_r (nw := nw) hc m0'
    have hif : iU m ru (tT m td) (nz fr) := by rw [hr.1]; exact hi
    have f9 : ∃ q, F_X0_freeAddresses fr (nI m) ru fp = some q := by unfold F_X0_freeAddresses; rw [cRunning hm, pBs]; exact ⟨_, rfl⟩
    obtain ⟨q9, f9⟩ := f9
    have x1 := cAll (fr := fr) (fu := ru) (fp := fp) (e := 0) hm
    have x2 := cAll (fr := fr) (fu := ru) (fp := fp) (e := 1) hm
    have x3 := cAll (fr := fr) (fu := ru) (fp := fp) (e := 2) hm
    have x4 := cAll (fr := fr) (fu := ru) (fp := fp) (e := 6) hm
    have x5 := cAll (fr := fr) (fu := ru) (fp := fp) (e := 7) hm
    have y1 := rThose (nw := nw) (w := 0) hm
    have y2 := rThose (nw := nw) (w := 1) hm
    have y3 := rThose (nw := nw) (w := 2) hm
    have y4 := rThose (nw := nw) (w := 6) hm
    have y5 := rThose (nw := nw) (w := 7) hm
    rw [hr.1] at x1 x2 x3 x4 x5
    rw [x1, pBs, x2, pBs, x3, pBs, x4, pBs, x5, pBs, cStanding hm, pBs, cBus hm (by rw [hr.1]; exact hr') (by rw [hr.1]; exact hi.1.1.s) (by rw [hr.1]; exact hi.1.1.rn), pBs, deep_c hm, pBs, f9, pBs, supplied_c hc, pBs, slps_c hm, pBs, wks_c hc hif, pBs, hc.2.2.2, hr.1, h96]
    rw [y1, pBs, y2, pBs, y3, pBs, y4, pBs, y5, pBs, rBusy hm, pBs, rBus hm hr' hi.1.1.q, pBs, deep_r hm hi.1.1, pBs, hrf, pBs, supplied_r hc, pBs, slps_r hc hi, pBs, slps_r hc hi, pBs]
    by_cases ci : (!decide (z1 < 0) && !decide (12 < z1)) = true
    · rw [show (!decide (z1 < 0) && !decide ((12 : Int32) < z1)) = true from ci, if_neg (show ¬ pb true = 0 from by decide)]
      obtain ⟨k, hk, rfl⟩ := (in_c (a := 12) (by omega)).mp ci
      have : k = 0 ∨ k = 1 ∨ k = 2 ∨ k = 3 ∨ k = 4 ∨ k = 5 ∨ k = 6 ∨ k = 7 ∨ k = 8 ∨ k = 9 ∨ k = 10 ∨ k = 11 ∨ k = 12 := by omega
      rcases this with rfl | rfl | rfl | rfl | rfl | rfl | rfl | rfl | rfl | rfl | rfl | rfl | rfl
      · exact ⟨_, _, rfl, rfl, fun _ => rfl⟩
      · exact ⟨_, _, rfl, rfl, fun _ => rfl⟩
      · exact ⟨_, _, rfl, rfl, fun _ => rfl⟩
      · exact ⟨_, _, rfl, rfl, fun _ => rfl⟩
      · exact ⟨_, _, rfl, rfl, fun _ => rfl⟩
      · exact ⟨_, _, rfl, rfl, fun _ => rfl⟩
      · exact ⟨_, _, rfl, rfl, fun _ => rfl⟩
      · exact ⟨_, _, rfl, rfl, fun _ => rfl⟩
      · exact ⟨_, _, rfl, rfl, fun _ => rfl⟩
      · exact ⟨_, _, rfl, rfl, fun q => absurd rfl q⟩
      · exact ⟨_, _, rfl, rfl, fun _ => rfl⟩
      · exact ⟨_, _, rfl, rfl, fun _ => rfl⟩
      · exact ⟨_, _, rfl, rfl, fun _ => rfl⟩
    · have ci' : (!decide (z1 < 0) && !decide (12 < z1)) = false := by simpa using ci
      rw [show (!decide (z1 < 0) && !decide ((12 : Int32) < z1)) = false from ci', if_pos (show pb false = 0 from rfl)]
      have ne : ∀ k, k ≤ 12 → ¬ z1 = nI k := fun k hk q => ci ((in_c (a := 12) (by omega)).mpr ⟨k, hk, q⟩)
      rw [if_neg (show ¬ z1 = 0 from ne 0 (by omega)), if_neg (show ¬ z1 = 1 from ne 1 (by omega)), if_neg (show ¬ z1 = 2 from ne 2 (by omega)), if_neg (show ¬ z1 = 3 from ne 3 (by omega)), if_neg (show ¬ z1 = 4 from ne 4 (by omega)), if_neg (show ¬ z1 = 5 from ne 5 (by omega)), if_neg (show ¬ z1 = 6 from ne 6 (by omega)), if_neg (show ¬ z1 = 7 from ne 7 (by omega)), if_neg (show ¬ z1 = 8 from ne 8 (by omega)), if_neg (show ¬ z1 = 9 from ne 9 (by omega)), if_neg (show ¬ z1 = 10 from ne 10 (by omega)), if_neg (show ¬ z1 = 11 from ne 11 (by omega)), if_neg (show ¬ z1 = 12 from ne 12 (by omega))]
      exact ⟨_, _, rfl, rfl, fun _ => rfl⟩
end
