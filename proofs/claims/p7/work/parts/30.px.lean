/-! acts with past and diary -/
def WW (m t : Nat) (ru fp td fr fq : Nat → Int32) (nx p : Nat) (fd : Nat → Int32) (tt : Nat) (nw kp : Nat → Int32) : Prop := Cx m t ru fp td ∧ SR m ru (tT m td) fr fd tt nw ∧ KP m ru (tT m td) fq nx p fd tt kp
theorem zBar_4 {m : Nat} {R : Nat → Int32} {T : Nat → Nat → Int32} {N : Nat → Int32} {tm z a b c : Int32} : zBar m R T N tm z a b c = -1 ∨ ∃ k, k < 4 ∧ zBar m R T N tm z a b c = nI k := by
  have h0 : ∃ k, k < 4 ∧ (0 : Int32) = nI k := ⟨0, by omega, rfl⟩
  have h1 : ∃ k, k < 4 ∧ (1 : Int32) = nI k := ⟨1, by omega, rfl⟩
  have h2 : ∃ k, k < 4 ∧ (2 : Int32) = nI k := ⟨2, by omega, rfl⟩
  have h3 : ∃ k, k < 4 ∧ (3 : Int32) = nI k := ⟨3, by omega, rfl⟩
  unfold zBar zBarP
  repeat' split
  all_goals first | exact Or.inl rfl | exact Or.inr h0 | exact Or.inr h1 | exact Or.inr h2 | exact Or.inr h3
theorem why_bc {mn : Int32} {ru td nw : Nat → Int32} {z a b c b' c' : Int32} (h0 : z = 0 → b' = b ∧ c' = c) (h4 : z = 4 → b' = b) : F_X10_whyNot mn ru td nw z a b' c' = F_X10_whyNot mn ru td nw z a b c := by
  unfold F_X10_whyNot
  by_cases q : z = 0
  · obtain ⟨rfl, rfl⟩ := h0 q; rfl
  · by_cases q4 : z = 4
    · obtain rfl := h4 q4; simp only [if_neg q]
    · simp only [if_neg q, if_neg q4]
theorem do_bc {mn : Int32} {ru td nw : Nat → Int32} {z a b c b' c' : Int32} (h0 : z = 0 → b' = b ∧ c' = c) (h4 : z = 4 → b' = b) : F_X10_doNow mn ru td nw z a b' c' = F_X10_doNow mn ru td nw z a b c := by
  unfold F_X10_doNow
  by_cases q : z = 0
  · obtain ⟨rfl, rfl⟩ := h0 q; rfl
  · by_cases q4 : z = 4
    · obtain rfl := h4 q4; simp only [if_neg q]
    · simp only [if_neg q, if_neg q4]
theorem act_sim {m t : Nat} {ru fp td fr fq fd nw kp : Nat → Int32} {nx p tt : Nat} {z a b c b' c' : Int32} (h : WW m t ru fp td fr fq nx p fd tt nw kp) (ht : tt < 268435456) (h0 : z = 0 → b' = b ∧ c' = c) (h4 : z = 4 → b' = b) :
    (∃ k, k < 4 ∧ F_X10_whyNot (nI m) ru td nw z a b' c' = some (nI k, nw) ∧ ∀ nx ph tt fq fd z0, F_X9_attempt (nI m) nx ph tt fr ru fp fq fd z0 z a b c = some (nI k, nx, ph, tt, fr, fq, fd)) ∨
    (F_X10_whyNot (nI m) ru td nw z a b' c' = some (-1, nw) ∧ ∃ fr' fq' nx' p' fd' nw' kp' r, F_X9_attempt (nI m) (nI nx) (nI p) (nI tt) fr ru fp fq fd 1 z a b c = some (-1, nI nx', nI p', nI (tt + 1), fr', fq', fd') ∧ F_X10_act (nI m) (nI p) ru td nw kp z a b' c' = some (r, nI p', nw', kp') ∧ WW m t ru fp td fr' fq' nx' p' fd' (tt + 1) nw' kp' ∧ ans m z a fr fr' r) := by
  obtain ⟨hc, ⟨hr, hi, ⟨u, hu, e1, e2⟩, hd⟩, hk⟩ := h
  have hm := hc.1
  have hw : F_X10_whyNot (nI m) ru td nw z a b' c' = some (zBar m ru (tT m td) (nz nw) (nw 96) z a b c, nw) := by
    rw [why_bc h0 h4, rBar hm hc.2.1 hc.2.2.1 hi.1]
  have hbar : F_X0_barOf fr (nI m) ru fp z a b c = some (zBar m ru (tT m td) (nz nw) (nw 96) z a b c) := by
    rw [cBar hm hc.2.1 (by rw [hr.1]; exact hi.1.1), hc.2.2.2, hr.1, e1, ← e2]
  rcases zBar_4 (m := m) (R := ru) (T := tT m td) (N := nz nw) (tm := nw 96) (z := z) (a := a) (b := b) (c := c) with q | ⟨k, hk4, q⟩
  · right
    refine ⟨by rw [hw, q], ?_⟩
    obtain ⟨f, g, r, d1, d2, d3, ⟨u', hu', d4, d5⟩, d6, d7, d8⟩ := do_sim hc hr hi hu e1 e2 q
    obtain ⟨g', n1, n2, n3⟩ := DV_note (m := m) (z1 := z) (z2 := a) hm hd d6
    have hkk := KP_keep (a := z) (b := a) (c := nI (pNum (fun d => decide (nz g d = 6)) m)) hm hk ⟨hr, hi, ⟨u, hu, e1, e2⟩, hd⟩
    have ez : nz g' = nz g := nz_congr n2
    refine ⟨f, _, (nx + 1) % 40, min (p + 1) 40, wr3 fd (tt % 100) z a (nI (pNum (fun d => decide (nz g d = 6)) m)), g', _, r, ?_, ?_, ⟨hc, ⟨Rl_congr hm (fun _ _ => rfl) n2 d2, by rw [ez]; exact d3, ⟨u', hu', d4, by rw [n2 96 (by omega)]; exact d5⟩, n3⟩, hkk⟩, d7⟩
    · rw [d8, if_neg (by decide), cKeep hk.2.1 hk.1, pBs]
      unfold cEnd
      rw [if_neg (by decide), cWrite (by omega), pBs, d2.1]
    · unfold F_X10_act
      rw [rKeep hk.1, pBs, do_bc h0 h4, d1, pBs]
      show (F_X10_note (nI m) g z a).bind _ = _
      rw [n1, pBs]
  · left
    refine ⟨k, hk4, by rw [hw, q], fun nx ph tt fq fd z0 => ?_⟩
    unfold F_X9_attempt
    rw [hbar, pBs, q, if_neg (by rw [pNm (by omega)]; exact id)]
theorem done_m {fz : Nat → Int32} : F_X9_isDone fz (-1) = some (1, fz) := rfl
theorem done_k {fz : Nat → Int32} {k : Nat} (h : k < 4) : F_X9_isDone fz (nI k) = some (0, upd fz k (fz k + 1)) := by
  unfold F_X9_isDone
  rw [if_neg (nI_pos (by omega)), if_neg (by rw [show (4 : Int32) = nI 4 from rfl, pLe (by omega) (by omega)]; omega), pIx (by omega) (by omega), pIx (by omega) (by omega), if_neg (by rw [pNm (by omega)]; exact id), pCl (by omega)]
theorem one_ne {fz : Nat → Int32} : ¬ ((1 : Int32), fz).1 = 0 := by show ¬ (1 : Int32) = 0; decide
/-- what a public act shows -/
def actS (m t : Nat) (ru fp td : Nat → Int32) (X : Option (Int32 × Int32 × Int32 × Int32 × (Nat → Int32) × (Nat → Int32) × (Nat → Int32) × (Nat → Int32))) (Y : Option (Int32 × Int32 × (Nat → Int32) × (Nat → Int32) × (Nat → Int32))) (tt : Nat) : Prop :=
  ∃ r fr' fq' nx' p' fd' tt' nw' kp' fz', X = some (r, nI nx', nI p', nI tt', fr', fq', fd', fz') ∧ Y = some (r, nI p', nw', fz', kp') ∧ WW m t ru fp td fr' fq' nx' p' fd' tt' nw' kp' ∧ tt' ≤ tt + 1
section
variable {m t : Nat} {ru fp td fr fq fd nw kp fz : Nat → Int32} {nx p tt : Nat}
theorem hand_k {k : Nat} {z a b c : Int32} (hk : k < 4) (h : F_X10_whyNot (nI m) ru td nw z a b c = some (nI k, nw)) : F_X10_hand (nI m) (nI p) ru td nw fz kp z a b c = some (-1, nI p, nw, upd fz k (fz k + 1), kp) := by
  unfold F_X10_hand
  rw [h, pBs]
  show (if nI k = -1 then _ else (if nI k < 0 ∨ 4 ≤ (nI k).toNatClampNeg then none else _)) = _
  rw [if_neg (by rw [pNm (by omega)]; exact id), pIx (by omega) (by omega), pIx (by omega) (by omega), pCl (by omega)]
theorem hand_m {z a b c r p' : Int32} {nw' kp' : Nat → Int32} (h : F_X10_whyNot (nI m) ru td nw z a b c = some (-1, nw)) (h2 : F_X10_act (nI m) (nI p) ru td nw kp z a b c = some (r, p', nw', kp')) : F_X10_hand (nI m) (nI p) ru td nw fz kp z a b c = some (r, p', nw', fz, kp') := by
  unfold F_X10_hand
  rw [h, pBs]
  show (if (-1 : Int32) = -1 then (F_X10_act (nI m) (nI p) ru td nw kp z a b c).bind _ else _) = _
  rw [if_pos rfl, h2, pBs]
theorem plug_act {z1 z2 z3 : Int32} (h : WW m t ru fp td fr fq nx p fd tt nw kp) (ht : tt < 268435456) : actS m t ru fp td (F_X9_plug (nI m) (nI nx) (nI p) (nI tt) ru fp fr fq fd fz z1 z2 z3) (F_X10_plug (nI m) (nI p) ru td nw fz kp z1 z2 z3) tt := by
  unfold F_X9_plug F_X10_plug
  rcases act_sim (z := 0) (a := z1) (b := z2) (c := z3) (b' := z2) (c' := z3) h ht (fun _ => ⟨rfl, rfl⟩) (fun _ => rfl) with ⟨k, hk, w, x⟩ | ⟨w, fr', fq', nx', p', fd', nw', kp', r, x, y, hw, ha⟩
  · rw [x, pBs, done_k hk, pBs, hand_k hk w, pBs]
    exact ⟨_, fr, fq, nx, p, fd, tt, nw, kp, _, rfl, rfl, h, by omega⟩
  · rw [x, pBs, done_m, pBs, hand_m w y, pBs]
    obtain ⟨d, hd, rfl⟩ := ha.2.2.2.2.2.2.2 (by decide)
    have hm := hw.1.1
    rw [if_neg one_ne, cDepth (by omega), pBs]
    refine ⟨_, fr', fq', nx', p', fd', tt + 1, nw', kp', _, rfl, ?_, hw, by omega⟩
    rw [ha.1 rfl, pCl (by omega)]
theorem unplug_act {z1 : Int32} (h : WW m t ru fp td fr fq nx p fd tt nw kp) (ht : tt < 268435456) : actS m t ru fp td (F_X9_unplug (nI m) (nI nx) (nI p) (nI tt) ru fp fr fq fd fz z1) (F_X10_unplug (nI m) (nI p) ru td nw fz kp z1) tt := by
  unfold F_X9_unplug F_X10_unplug
  have hm := h.1.1
  rw [cAll hm, pBs, pCount hm, pBs]
  rcases act_sim (z := 1) (a := z1) (b := -1) (c := -1) (b' := 0) (c' := 0) h ht (fun q => absurd q (by decide)) (fun q => absurd q (by decide)) with ⟨k, hk, w, x⟩ | ⟨w, fr', fq', nx', p', fd', nw', kp', r, x, y, hw, ha⟩
  · rw [x, pBs, done_k hk, pBs, hand_k hk w, pBs]
    exact ⟨_, fr, fq, nx, p, fd, tt, nw, kp, _, rfl, rfl, h, by omega⟩
  · rw [x, pBs, done_m, pBs, hand_m w y, pBs]
    rw [if_neg one_ne, cAll hm, pBs, pCount hm, pBs]
    refine ⟨_, fr', fq', nx', p', fd', tt + 1, nw', kp', _, rfl, ?_, hw, by omega⟩
    rw [ha.2.1 rfl]
theorem tick_act {z1 : Int32} (h : WW m t ru fp td fr fq nx p fd tt nw kp) (ht : tt < 268435456) : actS m t ru fp td (F_X9_tick (nI m) (nI nx) (nI p) (nI tt) ru fp fr fq fd fz z1) (F_X10_tick (nI m) (nI p) ru td nw fz kp z1) tt := by
  unfold F_X9_tick F_X10_tick
  have hm := h.1.1
  rcases act_sim (z := 2) (a := z1) (b := -1) (c := -1) (b' := 0) (c' := 0) h ht (fun q => absurd q (by decide)) (fun q => absurd q (by decide)) with ⟨k, hk, w, x⟩ | ⟨w, fr', fq', nx', p', fd', nw', kp', r, x, y, hw, ha⟩
  · rw [x, pBs, done_k hk, pBs, hand_k hk w, pBs]
    exact ⟨_, fr, fq, nx, p, fd, tt, nw, kp, _, rfl, rfl, h, by omega⟩
  · rw [x, pBs, done_m, pBs, hand_m w y, pBs]
    rw [if_neg one_ne, cRunning hm, pBs]
    refine ⟨_, fr', fq', nx', p', fd', tt + 1, nw', kp', _, rfl, ?_, hw, by omega⟩
    rw [ha.2.2.1 rfl]
theorem supply_act {z1 : Int32} (h : WW m t ru fp td fr fq nx p fd tt nw kp) (ht : tt < 268435456) : actS m t ru fp td (F_X9_supply (nI m) (nI nx) (nI p) (nI tt) ru fp fr fq fd fz z1) (F_X10_supply (nI m) (nI p) ru td nw fz kp z1) tt := by
  unfold F_X9_supply F_X10_supply
  have hm := h.1.1
  rcases act_sim (z := 3) (a := z1) (b := -1) (c := -1) (b' := 0) (c' := 0) h ht (fun q => absurd q (by decide)) (fun q => absurd q (by decide)) with ⟨k, hk, w, x⟩ | ⟨w, fr', fq', nx', p', fd', nw', kp', r, x, y, hw, ha⟩
  · rw [x, pBs, done_k hk, pBs, hand_k hk w, pBs]
    exact ⟨_, fr, fq, nx, p, fd, tt, nw, kp, _, rfl, rfl, h, by omega⟩
  · rw [x, pBs, done_m, pBs, hand_m w y, pBs]
    obtain ⟨d, hd, rfl⟩ := ha.2.2.2.2.2.2.2 (by decide)
    have er := ha.2.2.2.1 rfl
    rw [pCl (by omega), pNz (by omega)] at er
    rw [if_neg one_ne, cHas hm, pBs, zDev_nI hm (by omega), if_neg (by simp [hd, pb]), pA72, pIx (by omega) (by omega), pCl (by omega)]
    refine ⟨_, fr', fq', nx', p', fd', tt + 1, nw', kp', _, rfl, ?_, hw, by omega⟩
    rw [er]
theorem error_act {z1 z2 : Int32} (h : WW m t ru fp td fr fq nx p fd tt nw kp) (ht : tt < 268435456) : actS m t ru fp td (F_X9_error (nI m) (nI nx) (nI p) (nI tt) ru fp fr fq fd fz z1 z2) (F_X10_error (nI m) (nI p) ru td nw fz kp z1 z2) tt := by
  unfold F_X9_error F_X10_error
  have hm := h.1.1
  rw [cHas hm, pBs]
  rcases act_sim (z := 4) (a := z1) (b := z2) (c := -1) (b' := z2) (c' := 0) h ht (fun q => absurd q (by decide)) (fun _ => rfl) with ⟨k, hk, w, x⟩ | ⟨w, fr', fq', nx', p', fd', nw', kp', r, x, y, hw, ha⟩
  · rw [hand_k hk w, pBs]
    by_cases cd : zDev m z1 = true
    · obtain ⟨d, hd, rfl⟩ := zDev_lt hm cd
      rw [cd, if_neg (by decide), pA80, pIx (by omega) (by omega), x, pBs, done_k hk, pBs]
      exact ⟨_, fr, fq, nx, p, fd, tt, nw, kp, _, rfl, rfl, h, by omega⟩
    · have cd' : zDev m z1 = false := by simpa using cd
      rw [cd', if_pos (by decide), x, pBs, done_k hk, pBs]
      exact ⟨_, fr, fq, nx, p, fd, tt, nw, kp, _, rfl, rfl, h, by omega⟩
  · rw [hand_m w y, pBs]
    obtain ⟨d, hd, rfl⟩ := ha.2.2.2.2.2.2.2 (by decide)
    have er := ha.2.2.2.2.1 rfl
    rw [pCl (by omega), pNz (by omega)] at er
    rw [zDev_nI hm (by omega), if_neg (by simp [hd, pb]), pA80, pIx (by omega) (by omega), pCl (by omega), x, pBs, done_m, pBs, if_neg one_ne]
    refine ⟨_, fr', fq', nx', p', fd', tt + 1, nw', kp', _, rfl, ?_, hw, by omega⟩
    rw [er]
theorem again_act {z1 : Int32} (h : WW m t ru fp td fr fq nx p fd tt nw kp) (ht : tt < 268435456) : actS m t ru fp td (F_X9_again (nI m) (nI nx) (nI p) (nI tt) ru fp fr fq fd fz z1) (F_X10_again (nI m) (nI p) ru td nw fz kp z1) tt := by
  unfold F_X9_again F_X10_again
  have hm := h.1.1
  rcases act_sim (z := 5) (a := z1) (b := -1) (c := -1) (b' := 0) (c' := 0) h ht (fun q => absurd q (by decide)) (fun q => absurd q (by decide)) with ⟨k, hk, w, x⟩ | ⟨w, fr', fq', nx', p', fd', nw', kp', r, x, y, hw, ha⟩
  · rw [x, pBs, done_k hk, pBs, hand_k hk w, pBs]
    exact ⟨_, fr, fq, nx, p, fd, tt, nw, kp, _, rfl, rfl, h, by omega⟩
  · rw [x, pBs, done_m, pBs, hand_m w y, pBs]
    obtain ⟨d, hd, rfl⟩ := ha.2.2.2.2.2.2.2 (by decide)
    have er := ha.2.2.2.2.2.1 rfl
    rw [pCl (by omega), pNz (by omega)] at er
    rw [if_neg one_ne, cHas hm, pBs, zDev_nI hm (by omega), if_neg (by simp [hd, pb]), pA16, pIx (by omega) (by omega), pCl (by omega)]
    refine ⟨_, fr', fq', nx', p', fd', tt + 1, nw', kp', _, rfl, ?_, hw, by omega⟩
    rw [er]
theorem sleep_act {z1 : Int32} (h : WW m t ru fp td fr fq nx p fd tt nw kp) (ht : tt < 268435456) : actS m t ru fp td (F_X9_sleep (nI m) (nI nx) (nI p) (nI tt) ru fp fr fq fd fz z1) (F_X10_sleep (nI m) (nI p) ru td nw fz kp z1) tt := by
  unfold F_X9_sleep F_X10_sleep
  have hm := h.1.1
  rcases act_sim (z := 6) (a := z1) (b := -1) (c := -1) (b' := 0) (c' := 0) h ht (fun q => absurd q (by decide)) (fun q => absurd q (by decide)) with ⟨k, hk, w, x⟩ | ⟨w, fr', fq', nx', p', fd', nw', kp', r, x, y, hw, ha⟩
  · rw [x, pBs, done_k hk, pBs, hand_k hk w, pBs]
    exact ⟨_, fr, fq, nx, p, fd, tt, nw, kp, _, rfl, rfl, h, by omega⟩
  · rw [x, pBs, done_m, pBs, hand_m w y, pBs]
    obtain ⟨d, hd, rfl⟩ := ha.2.2.2.2.2.2.2 (by decide)
    have er := ha.2.2.2.2.2.2.1 (by decide)
    rw [pCl (by omega), pNz (by omega)] at er
    rw [if_neg one_ne, cHas hm, pBs, zDev_nI hm (by omega), if_neg (by simp [hd, pb]), pA88, pIx (by omega) (by omega), pCl (by omega)]
    refine ⟨_, fr', fq', nx', p', fd', tt + 1, nw', kp', _, rfl, ?_, hw, by omega⟩
    rw [er]
end
