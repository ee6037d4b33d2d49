/-! what is asked -/
section
variable {m t : Nat} {ru fp td fr nw : Nat → Int32}
theorem in_c {z : Int32} {a : Nat} (ha : a < 1000000) : (!decide (z < 0) && !decide (nI a < z)) = true ↔ ∃ k, k ≤ a ∧ z = nI k := by
  simp only [Bool.and_eq_true, Bool.not_eq_true', decide_eq_false_iff_not]
  refine ⟨fun h => ?_, fun ⟨k, hk, e⟩ => ?_⟩
  · obtain ⟨k, hk, rfl⟩ := nI_of h.1
    refine ⟨k, ?_, rfl⟩
    have := h.2
    rw [pLt (by omega) hk] at this; omega
  · subst e
    exact ⟨nI_pos (by omega), by rw [pLt (by omega) (by omega)]; omega⟩
theorem rule_sim {z1 : Int32} (hm : m ≤ 8) : ∃ r, F_X9_rule (nI m) ru fp z1 = some r ∧ F_X10_rule (nI m) ru z1 = some r := by
  unfold F_X9_rule F_X10_rule F_X5_isTold
  rw [rTree hm, pBs, rIn, pBs]
  by_cases m0 : m = 0
  · subst m0; exact ⟨_, rfl, rfl⟩
  · have m0' : 0 < m := by omega
    rw [if_neg (by rw [pLe0 (by omega)]; exact m0), pBs, if_neg (show ¬ (1 : Int32) = 0 from by decide), if_neg (show ¬ pb (decide (0 < m)) = 0 by simp [m0', pb])]
    have c7 : (7 < z1) ↔ (8 ≤ z1) := lt_le1 (k := 7) (by omega)
    by_cases c1 : z1 < 0
    · rw [if_pos c1, if_pos (show pb (!decide (z1 < 0) && !decide (7 < z1)) = 0 by simp [c1, pb])]; exact ⟨_, rfl, rfl⟩
    · rw [if_neg c1]
      by_cases c2 : 8 ≤ z1
      · rw [if_pos c2, if_pos (show pb (!decide (z1 < 0) && !decide (7 < z1)) = 0 by simp [c7.mpr c2, pb])]; exact ⟨_, rfl, rfl⟩
      · have c2' : ¬ 7 < z1 := fun q => c2 (c7.mp q)
        rw [if_neg c2, if_neg (show ¬ pb (!decide (z1 < 0) && !decide (7 < z1)) = 0 by simp [c1, c2', pb])]
        obtain ⟨i, hi, rfl⟩ := nI_of c1
        rw [show (8 : Int32) = nI 8 from rfl, pLe (by omega) hi] at c2
        rw [pIx (by omega) (by omega)]
        exact ⟨_, rfl, rfl⟩
theorem told_sim {z1 z2 : Int32} (hc : Cx m t ru fp td) (hr : Rl m fr nw) : ∃ r, F_X9_told (nI m) ru fp fr z1 z2 = some r ∧ F_X10_told (nI m) td nw z1 z2 = some r := by
  have hm := hc.1
  unfold F_X9_told F_X10_told
  rw [cHas hm, pBs, rDev, pBs, rIn, pBs]
  by_cases cd : zDev m z1 = true
  · rw [cd, if_neg (show ¬ pb true = 0 from by decide), if_neg (show ¬ pb true = 0 from by decide)]
    obtain ⟨d, hd, rfl⟩ := zDev_lt hm cd
    have c5 : (5 < z2) ↔ (6 ≤ z2) := lt_le1 (k := 5) (by omega)
    by_cases c1 : z2 < 0
    · rw [if_pos c1, if_pos (show pb (!decide (z2 < 0) && !decide (5 < z2)) = 0 by simp [c1, pb])]; exact ⟨_, rfl, rfl⟩
    · rw [if_neg c1]
      by_cases c2 : z2 < 6
      · have c2' : ¬ 5 < z2 := fun q => by rw [c5] at q; rw [q_le] at q; rw [q_lt] at c2; omega
        rw [if_pos c2, if_neg (show ¬ pb (!decide (z2 < 0) && !decide (5 < z2)) = 0 by simp [c1, c2', pb])]
        obtain ⟨k, hk, rfl⟩ := nI_of c1
        have hk6 : k < 6 := by rw [show (6 : Int32) = nI 6 from rfl, pLt hk (by omega)] at c2; exact c2
        by_cases c3 : nI k = 5
        · rw [if_pos c3, if_pos c3, pA80, pIx (by omega) (by omega), pIx (by omega) (by omega), pCl (by omega)]
          refine ⟨_, rfl, ?_⟩
          have : nz fr (80 + d) = nz nw (80 + d) := by rw [hr.1]
          rw [pNz (by omega), pNz (by omega)] at this; rw [this]
        · rw [if_neg c3, if_neg c3, rTold (m := m) hm hd hk6, pBs]
          have e1 : nI k * 8 = nI (k * 8) := pM k 8
          rw [e1, nI_add, pIx (by omega) (by omega), pCl (by omega), ← hc.2.2.2]
          refine ⟨_, rfl, ?_⟩
          unfold tP; rw [if_pos ⟨hd, hk6⟩, Nat.mul_comm]
      · have c2' : 5 < z2 := c5.mpr (le_of_not c2)
        rw [if_neg c2, if_pos (show pb (!decide (z2 < 0) && !decide (5 < z2)) = 0 by simp [c2', pb])]; exact ⟨_, rfl, rfl⟩
  · have cd' : zDev m z1 = false := by simpa using cd
    rw [cd', if_pos (show pb false = 0 from rfl), if_pos (show pb false = 0 from rfl)]; exact ⟨_, rfl, rfl⟩
theorem device_t {z1 z2 th : Int32} (hc : Cx m t ru fp td) (hf : iU m ru (tT m td) (nz fr)) (hi : iU m ru (tT m td) (nz nw)) : (∃ r, F_X9_device (nI m) fr ru fp z1 z2 = some r) ∧ ∃ r, F_X10_device th (nI m) td nw z1 z2 = some r := by
  have hm := hc.1
  refine ⟨?_, ?_⟩
  · unfold F_X9_device
    rw [cHas hm, pBs]
    by_cases cd : zDev m z1 = true
    · rw [cd, if_neg (show ¬ pb true = 0 from by decide)]
      obtain ⟨d, hd, rfl⟩ := zDev_lt hm cd
      rw [cDepth (by omega), pBs, cTakes hm hd, pBs]
      rw [pA0, pA8, pA16, pA24, pA32, pA40, pA48, pA56, pA64, pA72, pA88]
      rw [pIx (by omega) (by omega), pIx (by omega) (by omega), pIx (by omega) (by omega), pIx (by omega) (by omega), pIx (by omega) (by omega), pIx (by omega) (by omega), pIx (by omega) (by omega), pIx (by omega) (by omega), pIx (by omega) (by omega), pIx (by omega) (by omega), pIx (by omega) (by omega)]
      by_cases c1 : z2 < 0
      · rw [if_pos c1]; exact ⟨_, rfl⟩
      · rw [if_neg c1]
        by_cases c2 : z2 ≤ 12
        · rw [if_pos c2]
          by_cases k0 : z2 = 0
          · rw [if_pos k0]; exact ⟨_, rfl⟩
          · rw [if_neg k0]
            by_cases k1 : z2 = 1
            · rw [if_pos k1]; exact ⟨_, rfl⟩
            · rw [if_neg k1]
              by_cases k2 : z2 = 2
              · rw [if_pos k2]; exact ⟨_, rfl⟩
              · rw [if_neg k2]
                by_cases k3 : z2 = 3
                · rw [if_pos k3]; exact ⟨_, rfl⟩
                · rw [if_neg k3]
                  by_cases k4 : z2 = 4
                  · rw [if_pos k4]; exact ⟨_, rfl⟩
                  · rw [if_neg k4]
                    by_cases k5 : z2 = 5
                    · rw [if_pos k5]; exact ⟨_, rfl⟩
                    · rw [if_neg k5]
                      by_cases k6 : z2 = 6
                      · rw [if_pos k6]; exact ⟨_, rfl⟩
                      · rw [if_neg k6]
                        by_cases k7 : z2 = 7
                        · rw [if_pos k7]; exact ⟨_, rfl⟩
                        · rw [if_neg k7]
                          by_cases k8 : z2 = 8
                          · rw [if_pos k8]; exact ⟨_, rfl⟩
                          · rw [if_neg k8]
                            by_cases k9 : z2 = 9
                            · rw [if_pos k9]; exact ⟨_, rfl⟩
                            · rw [if_neg k9]
                              by_cases k10 : z2 = 10
                              · rw [if_pos k10]; exact ⟨_, rfl⟩
                              · rw [if_neg k10]
                                by_cases k11 : z2 = 11
                                · rw [if_pos k11]; exact ⟨_, rfl⟩
                                · rw [if_neg k11]; exact ⟨_, rfl⟩
        · rw [if_neg c2]; exact ⟨_, rfl⟩
    · have cd' : zDev m z1 = false := by simpa using cd
      rw [cd', if_pos (show pb false = 0 from rfl)]; exact ⟨_, rfl⟩
  · unfold F_X10_device
    rw [rDev, pBs]
    split
    · exact ⟨_, rfl⟩
    · rename_i h
      obtain ⟨d, hd, rfl⟩ := dev_c hm h
      obtain ⟨r, hr'⟩ := hi.1.1.r hm
      rw [rIn, pBs, rDepth hm hr' hi.1.1.f hd, pBs, rTakes (m := m) hm hd, pBs, pA88, pIx (by omega) (by omega)]
      by_cases ci : (!decide (z2 < 0) && !decide (12 < z2)) = true
      · rw [ci, if_neg (show ¬ pb true = 0 from by decide)]
        obtain ⟨k, hk, rfl⟩ := (in_c (a := 12) (by omega)).mp ci
        have e1 : (8 : Int32) * nI k = nI (8 * k) := pM 8 k
        rw [e1, nI_add, pIx (by omega) (by omega)]
        repeat' split
        all_goals exact ⟨_, rfl⟩
      · have ci' : (!decide (z2 < 0) && !decide (12 < z2)) = false := by simpa using ci
        rw [ci', if_pos (show pb false = 0 from rfl)]; exact ⟨_, rfl⟩
theorem port_sim {z1 z2 : Int32} (hc : Cx m t ru fp td) (hr : Rl m fr nw) (hi : iU m ru (tT m td) (nz nw)) : ∃ r, F_X9_port (nI m) ru fp fr z1 z2 = some r ∧ F_X10_port (nI m) ru td nw z1 z2 = some r := by
  have hm := hc.1
  unfold F_X9_port F_X10_port F_X5_hasPort
  rw [rHub hm, pBs]
  by_cases ch : zHub m (tT m td) z1 = true
  · have hpos := zPrt_pos (R := ru) hm hc.2.1 ch
    have hcc := zHub_c ch
    obtain ⟨h, hh, rfl, hh2⟩ := hub_nI hm ch
    rw [ch, if_neg (show ¬ pb true = 0 from by decide), cPorts hm hcc, hc.2.2.2, pBs]
    have ep : F_X10_portsOf ru td (nI h) = some (zPrt ru (tT m td) (nI h)) := by
      unfold zPrt
      rcases hh2 with rfl | hh2
      · exact rPorts8
      · rw [if_neg (by rw [pE8 (by omega)]; omega), rPorts (m := m) hm (by omega), pCl (by omega)]
    have hb1 : (nI h : Int32) ≠ -1 := by rw [Ne, pNm (by omega)]; exact id
    rw [ep, pBs, rIn, pBs, rInPort hm, pBs, cPlugged hm (by rw [hr.1]; exact hi.1.1.f) hb1, hr.1]
    have cd := lt_dec (c := z2) hpos
    generalize zPrt ru (tT m td) (nI h) = w2 at cd ⊢
    by_cases c1 : z2 < 0
    · rw [if_pos c1, if_pos (show pb (!decide (z2 < 0) && !decide (w2 - 1 < z2)) = 0 by simp [c1, pb])]; exact ⟨_, rfl, rfl⟩
    · rw [if_neg c1]
      by_cases c2 : w2 ≤ z2
      · rw [if_pos c2, if_pos (show pb (!decide (z2 < 0) && !decide (w2 - 1 < z2)) = 0 by simp [cd.mpr c2, pb])]; exact ⟨_, rfl, rfl⟩
      · have c2' : ¬ w2 - 1 < z2 := fun q => c2 (cd.mp q)
        rw [if_neg c2, if_neg (show ¬ pb (!decide (z2 < 0) && !decide (w2 - 1 < z2)) = 0 by simp [c1, c2', pb])]; exact ⟨_, rfl, rfl⟩
  · have ch' : zHub m (tT m td) z1 = false := by simpa using ch
    rw [ch', if_pos (show pb false = 0 from rfl)]
    by_cases c1 : z2 < 0
    · rw [if_pos c1]; exact ⟨_, rfl, rfl⟩
    · rw [if_neg c1]
      by_cases cc : (0 < m ∧ z1 = 8) ∨ zDev m z1 = true
      · have hz : zPrt ru (tP m fp) z1 ≤ 0 := by
          rw [hc.2.2.2]
          rcases cc with ⟨h1, rfl⟩ | cc
          · exfalso; unfold zHub at ch'; simp [h1] at ch'
          · obtain ⟨d, hd, rfl⟩ := zDev_lt hm cc
            unfold zPrt; rw [if_neg (by rw [pE8 (by omega)]; omega), pCl (by omega)]
            unfold zHub at ch'
            rw [cc, pCl (by omega)] at ch'
            simp at ch'
            exact ch'.2
        rw [cPorts hm cc, pBs, if_pos (by rw [q_le] at hz ⊢; rw [q_lt] at c1; omega)]; exact ⟨_, rfl, rfl⟩
      · rw [cPorts0 hm cc, pBs, if_pos (le_of_not c1)]; exact ⟨_, rfl, rfl⟩
theorem octet_sim {z1 z2 : Int32} (hc : Cx m t ru fp td) (hr : Rl m fr nw) : ∃ r, F_X9_octet (nI m) ru fp fr z1 z2 = some r ∧ F_X10_octet (nI m) td nw z1 z2 = some r := by
  have hm := hc.1
  unfold F_X9_octet F_X10_octet F_X5_lengthOf
  rw [cHas hm, pBs, rDev, pBs]
  by_cases cd : zDev m z1 = true
  · rw [cd, if_neg (show ¬ pb true = 0 from by decide), if_neg (show ¬ pb true = 0 from by decide)]
    obtain ⟨d, hd, rfl⟩ := zDev_lt hm cd
    obtain ⟨⟨p, hp, e⟩, -⟩ := hc.2.2.1 d hd
    have e8 : (8 : Int32) + nI p = nI (8 + p) := pA8 p
    have efp : fp d = nI p := by
      have q := tP0 (m := m) (fp := fp) hm hd
      rw [hc.2.2.2, e] at q; exact q.symm
    rw [rLong (m := m) hm hd, pBs, e, rIn, pBs, pA0, pIx (by omega) (by omega), pCl (by omega), efp, pBs, e8]
    have e7 : nI (8 + p) - 1 = nI (7 + p) := p_87 p
    rw [e7]
    by_cases c1 : z2 < 0
    · rw [if_pos c1, if_pos (show pb (!decide (z2 < 0) && !decide (nI (7 + p) < z2)) = 0 by simp [c1, pb])]; exact ⟨_, rfl, rfl⟩
    · rw [if_neg c1]
      obtain ⟨k, hk, rfl⟩ := nI_of c1
      by_cases c2 : 8 + p ≤ k
      · rw [if_pos ((pLe (by omega) hk).mpr c2), if_pos (show pb (!decide (nI k < 0) && !decide (nI (7 + p) < nI k)) = 0 by
          have : nI (7 + p) < nI k := (pLt (by omega) hk).mpr (by omega)
          simp [this, pb])]; exact ⟨_, rfl, rfl⟩
      · rw [if_neg (fun q => c2 ((pLe (by omega) hk).mp q)), if_neg (show ¬ pb (!decide (nI k < 0) && !decide (nI (7 + p) < nI k)) = 0 by
          have : ¬ nI (7 + p) < nI k := fun q => by have := (pLt (by omega) hk).mp q; omega
          simp [this, c1, pb]), cByte hm (by rw [hc.2.2.2]; exact hc.2.2.1) hd (by omega), pBs, rByte hm hc.2.2.1 hd (by omega), pBs, hc.2.2.2, hr.1]
        exact ⟨_, rfl, rfl⟩
  · have cd' : zDev m z1 = false := by simpa using cd
    rw [cd', if_pos (show pb false = 0 from rfl), if_pos (show pb false = 0 from rfl)]; exact ⟨_, rfl, rfl⟩
theorem at_sim {z1 : Int32} (hc : Cx m t ru fp td) (hr : Rl m fr nw) (hi : iU m ru (tT m td) (nz nw)) : ∃ r, F_X9_at (nI m) ru fp fr z1 = some r ∧ F_X10_at (nI m) nw z1 = some r := by
  have hm := hc.1
  unfold F_X9_at F_X10_at
  have c0 : (1 ≤ z1) ↔ ¬ (z1 ≤ 0) := by
    rw [q_le, q_le]
    have h0 : (0 : Int32).toInt = 0 := by decide
    have h1 : (1 : Int32).toInt = 1 := by decide
    omega
  by_cases c : z1 ≤ 0
  · rw [if_pos c, if_neg (fun q => (c0.mp q) c)]; exact ⟨_, rfl, rfl⟩
  · rw [if_neg c, if_pos (c0.mpr c), cWith hm (by rw [hr.1]; exact hi.1.1.ad) (fun q => c (by rw [q]; exact le_rfl32 _)), pBs, rWho hm, pBs, hr.1]
    exact ⟨_, rfl, rfl⟩
theorem helper_sim {z1 : Int32} (hc : Cx m t ru fp td) (hr : Rl m fr nw) (hi : iU m ru (tT m td) (nz nw)) : ∃ r, F_X9_helper (nI m) ru fp fr z1 = some r ∧ F_X10_helper (nI m) nw z1 = some r := by
  have hm := hc.1
  unfold F_X9_helper F_X10_helper
  rw [cHas hm, pBs, rDev, pBs]
  by_cases cd : zDev m z1 = true
  · rw [cd, if_neg (show ¬ pb true = 0 from by decide), if_neg (show ¬ pb true = 0 from by decide)]
    obtain ⟨d, hd, rfl⟩ := zDev_lt hm cd
    obtain ⟨r, hr'⟩ := hi.1.1.r hm
    have e0 : nz nw d = nw d := pNz (by omega)
    have d8 : ¬ d = 8 := by omega
    rw [cIs (by omega), pBs, rState (by omega), pBs, hr.1, e0]
    by_cases c6 : nw d = 6
    · rw [if_pos c6, if_neg (show ¬ pb (!decide (d = 8) && decide (nw d = 6)) = 0 by simp [d8, c6, pb]), rHelper hm hr' hd (fun _ => by rw [e0, c6]; decide), pBs, pA48, pIx (by omega) (by omega), pCl (by omega), cAbv (by omega), pBs, hr.1]
      have e48 : fr (48 + d) = nz nw (48 + d) := by rw [← hr.1, pNz (by omega)]
      rw [e48]
      unfold zHlp
      rcases (hi.1.1.2.1 d hd).2.2.2.2.2.2.1 (by rw [e0]; exact c6) with ⟨q | q | q, -⟩
      · rw [q, if_pos (by decide), if_neg (by decide)]; exact ⟨_, rfl, rfl⟩
      · rw [q, if_pos (by decide), if_neg (by decide)]; exact ⟨_, rfl, rfl⟩
      · rw [q, if_neg (by decide), if_pos (by decide)]; exact ⟨_, rfl, rfl⟩
    · rw [if_neg c6, if_pos (show pb (!decide (d = 8) && decide (nw d = 6)) = 0 by simp [c6, pb])]; exact ⟨_, rfl, rfl⟩
  · have cd' : zDev m z1 = false := by simpa using cd
    rw [cd', if_pos (show pb false = 0 from rfl), if_pos (show pb false = 0 from rfl)]; exact ⟨_, rfl, rfl⟩
def zSh (T : Nat → Nat → Int32) (N : Nat → Int32) (d : Nat) (a : Int32) : Int32 := if N d = 6 then a + T d 4 else a + 0
theorem shares_sim {z1 z2 : Int32} (hc : Cx m t ru fp td) (hr : Rl m fr nw) : ∃ r, F_X9_shares (nI m) ru fp fr z1 z2 = some r ∧ F_X10_shares (nI m) td nw z1 z2 = some r := by
  have hm := hc.1
  unfold F_X9_shares F_X10_shares
  rw [cHas hm, pBs, rDev, pBs]
  by_cases cd : zDev m z1 = true
  · rw [cd, if_neg (show ¬ pb true = 0 from by decide), if_neg (show ¬ pb true = 0 from by decide)]
    obtain ⟨d, hd, rfl⟩ := zDev_lt hm cd
    have e0 : nz nw d = nw d := pNz (by omega)
    have d8 : ¬ d = 8 := by omega
    rw [cIs (by omega), pBs, rState (by omega), pBs, hr.1, e0]
    by_cases c6 : nw d = 6
    · rw [if_pos c6, if_neg (show ¬ pb (!decide (d = 8) && decide (nw d = 6)) = 0 by simp [d8, c6, pb]), rIn, pBs]
      have hfin : ∀ a : Int32, (if a = 0 then some (0 : Int32) else if ¬ a = 0 then some ((z2 * tT m td d 4) / a) else none) = some (if a = 0 then 0 else (z2 * tT m td d 4) / a) := fun a => by
        by_cases q : a = 0 <;> simp [q]
      have ex := pLoop0 (m := m) (L := fun n i a => FL_X9_shares_42 (nI m) ru fp fr (nI d) z2 n a i) (g := zSh (tT m td) (nz nw)) (fin := fun a => if a = 0 then 0 else (z2 * tT m td d 4) / a) (fun n j a hj => ?_) (fun n a => ?_) 1000 0 (by omega)
      have ey := pLoop0 (m := m) (L := fun n i a => FL_X10_shares_36 (nI m) td nw (nI d) z2 n a i) (g := zSh (tT m td) (nz nw)) (fin := fun a => if a = 0 then 0 else (z2 * tT m td d 4) / a) (fun n j a hj => ?_) (fun n a => ?_) 1000 0 (by omega)
      · have c5 : (999 < z2) ↔ ¬ (z2 ≤ 999) := not_le.symm
        by_cases c1 : z2 < 0
        · rw [if_pos c1, if_pos (show pb (!decide (z2 < 0) && !decide (999 < z2)) = 0 by simp [c1, pb])]; exact ⟨_, rfl, rfl⟩
        · rw [if_neg c1]
          by_cases c2 : z2 ≤ 999
          · have c2' : ¬ 999 < z2 := fun q => (c5.mp q) c2
            rw [if_pos c2, if_neg (show ¬ pb (!decide (z2 < 0) && !decide (999 < z2)) = 0 by simp [c1, c2', pb])]
            exact ⟨_, ex, ey⟩
          · rw [if_neg c2, if_pos (show pb (!decide (z2 < 0) && !decide (999 < z2)) = 0 by simp [c5.mpr c2, pb])]; exact ⟨_, rfl, rfl⟩
      · show FL_X10_shares_36 (nI m) td nw (nI d) z2 (n + 1) a (nI j) = FL_X10_shares_36 (nI m) td nw (nI d) z2 n (zSh (tT m td) (nz nw) j a) (nI (j + 1))
        have ej : nz nw j = nw j := pNz (by omega)
        rw [FL_X10_shares_36, if_neg (by rw [pLe (by omega) (by omega)]; omega), rState (by omega), pBs, pS1]
        unfold zSh
        rw [ej]
        by_cases q : nw j = 6
        · rw [if_pos q, if_pos q, rTold4 (m := m) hm hj, pBs]
        · rw [if_neg q, if_neg q]
      · show FL_X10_shares_36 (nI m) td nw (nI d) z2 (n + 1) a (nI m) = _
        rw [FL_X10_shares_36, if_pos (le_rfl32 _), rTold4 (m := m) hm hd, pBs]; exact hfin a
      · show FL_X9_shares_42 (nI m) ru fp fr (nI d) z2 (n + 1) a (nI j) = FL_X9_shares_42 (nI m) ru fp fr (nI d) z2 n (zSh (tT m td) (nz nw) j a) (nI (j + 1))
        have j8 : ¬ j = 8 := by omega
        have et : fp (32 + j) = tT m td j 4 := by
          have q := tP4 (m := m) (fp := fp) hm hj
          rw [hc.2.2.2] at q; exact q.symm
        rw [FL_X9_shares_42, if_neg (by rw [pLe (by omega) (by omega)]; omega), cIs (by omega), pBs, pS1, pA32, pIx (by omega) (by omega), pCl (by omega), et, hr.1]
        unfold zSh
        by_cases q : nz nw j = 6
        · rw [if_pos q, if_neg (show ¬ pb (!decide (j = 8) && decide (nz nw j = 6)) = 0 by simp [j8, q, pb])]
        · rw [if_neg q, if_pos (show pb (!decide (j = 8) && decide (nz nw j = 6)) = 0 by simp [q, pb])]
      · show FL_X9_shares_42 (nI m) ru fp fr (nI d) z2 (n + 1) a (nI m) = _
        have et : fp (32 + d) = tT m td d 4 := by
          have q := tP4 (m := m) (fp := fp) hm hd
          rw [hc.2.2.2] at q; exact q.symm
        rw [FL_X9_shares_42, if_pos (le_rfl32 _), pA32, pIx (by omega) (by omega), pCl (by omega), et]; exact hfin a
    · rw [if_neg c6, if_pos (show pb (!decide (d = 8) && decide (nw d = 6)) = 0 by simp [c6, pb])]; exact ⟨_, rfl, rfl⟩
  · have cd' : zDev m z1 = false := by simpa using cd
    rw [cd', if_pos (show pb false = 0 from rfl), if_pos (show pb false = 0 from rfl)]; exact ⟨_, rfl, rfl⟩
end
