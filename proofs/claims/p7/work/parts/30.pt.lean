/-! waking; what bars an act -/
def zWake (m : Nat) (R : Nat → Int32) (T : Nat → Nat → Int32) (N : Nat → Int32) (d c : Nat) : Bool := !zSlp N c && zPow m R T N c (zNeed T N d) (nI d) && zTimeC m R T N d (zSp T N c d)
theorem cWake {m : Nat} {fr fu fp : Nat → Int32} {d c : Nat} (hm : m ≤ 8) (hi : iN m (nz fr)) (hd : d < m) (h0 : nz fr d ≠ 0) (hc : c ≤ 8) (hh : nz fr (32 + d) = nI c) : F_X0_canWake fr (nI m) fu fp (nI d) = some (pb (zWake m fu (tP m fp) (nz fr) d c)) := by
  have hh' : fr (32 + d) = nI c := by rw [← hh, pNz (by omega)]
  have e72 : nz fr (72 + d) = fr (72 + d) := pNz (by omega)
  have hcm := hi.hm hm hd h0 hc hh
  unfold F_X0_canWake zWake zNeed
  rw [e72]
  simp (disch := omega) only [pIx, pCl, pLe, pLt, pEq, pNm, pS1, pA0, pA8, pA16, pA24, pA32, pA40, pA48, pA56, pA64, pA72, pA80, pA88, pBs, pE8, pb0, pb1, pbo, if_true, if_false, pIy, pbq, pNz, pIw, hh', cAsleep, cPow hm (by omega : d < m) hc hcm hh, cTime hm hi hd h0 hc hh]
  by_cases c1 : fr (72 + d) = 1
  · rw [if_pos c1, if_pos c1]
    by_cases c2 : zSlp (nz fr) c = true <;> by_cases c3 : zPow m fu (tP m fp) (nz fr) c 0 (nI d) = true <;> by_cases c4 : zTimeC m fu (tP m fp) (nz fr) d (zSp (tP m fp) (nz fr) c d) = true <;> simp [c2, c3, c4, pb]
  · rw [if_neg c1, if_neg c1]
    have et : fp (16 + d) = tP m fp d 2 := (tP2 hm (by omega)).symm
    rw [et]
    by_cases c2 : zSlp (nz fr) c = true <;> by_cases c3 : zPow m fu (tP m fp) (nz fr) c (tP m fp d 2) (nI d) = true <;> by_cases c4 : zTimeC m fu (tP m fp) (nz fr) d (zSp (tP m fp) (nz fr) c d) = true <;> simp [c2, c3, c4, pb]
theorem zNeed_9 {m : Nat} {T : Nat → Nat → Int32} {N : Nat → Int32} {d : Nat} (hT : wT m T) (hd : d < m) : ∃ u, u ≤ 9 ∧ zNeed T N d = nI u := by
  obtain ⟨-, -, ⟨u, hu, e⟩, -⟩ := hT d hd
  unfold zNeed
  split
  · exact ⟨0, by omega, rfl⟩
  · exact ⟨u, hu, e⟩
theorem rTimeW {m : Nat} {ru td nw : Nat → Int32} {d c : Nat} (hm : m ≤ 8) (hT : wT m (tT m td)) (h : iT m (tT m td) (nz nw)) (hd : d < m) (h6 : nz nw d = 6) (h88 : nz nw (88 + d) = 1) (hc : c ≤ 8) (hh : nz nw (32 + d) = nI c) : F_X10_hasTime (nI m) ru td (upd nw (88 + d) 0) (nI d) = some (pb (zTimeC m ru (tT m td) (nz nw) d (zSp (tT m td) (nz nw) c d))) := by
  have hsp := h.2.1 d hd h6 c hc hh
  have hC := h.1.2.2
  have hs3 := zSp_3 (N := nz nw) (c := c) hT hd
  have hqq := h.1.q
  obtain ⟨⟨⟨L, hL⟩, -⟩, -⟩ := h
  have en : nz (upd nw (88 + d) 0) = upd (nz nw) (88 + d) 0 := nzU (by omega)
  have hk : ∀ k, k ≠ 88 + d → upd (nz nw) (88 + d) 0 k = nz nw k := fun k q => pUn q
  have hL' : wL m (upd (nz nw) (88 + d) 0) L := hL.keep (fun e he => by rw [hk e (by omega)]) (fun e he => hk _ (by omega))
  have hq' : wQ m (upd (nz nw) (88 + d) 0) := fun e he hr => by
    rw [hk (48 + e) (by omega)] at hr; rw [hk e (by omega)]; exact hqq e he hr
  rw [rTime (nw := upd nw (88 + d) 0) hm (by rw [en]; exact hL'.r hm) (by rw [en]; exact hq') hd, en]
  have hne : zAbv (nz nw) d ≠ -1 := by
    obtain ⟨b, hb, hab, -⟩ := zAbv_nI hm (hL.r hm) hd (by rw [h6]; decide)
    rw [hab, Ne, pNm (by omega)]; exact id
  have habv : ∀ e, e < m → zAbv (upd (nz nw) (88 + d) 0) e = zAbv (nz nw) e := fun e he => by
    unfold zAbv
    rw [hk (32 + e) (by omega)]
    have cl : ∀ (k : Nat) (x : Int32), zCl (upd (nz nw) (88 + d) 0) (fun h => decide (upd (nz nw) (88 + d) 0 (48 + h.toNatClampNeg) = 2)) k x = zCl (nz nw) (fun h => decide (nz nw (48 + h.toNatClampNeg) = 2)) k x := by
      intro k
      induction k with
      | zero => intro x; rfl
      | succ k ih =>
        intro x
        rcases pX3 x with q | q | ⟨b, hb, rfl⟩
        · simp only [zCl, q, true_or, if_true]
        · simp only [zCl, q, or_true, if_true]
        · rw [zCl_s hb, zCl_s hb, pCl (by omega), hk (48 + b) (by omega), hk (32 + b) (by omega), ih]
    exact cl 8 _
  have g1 : ∀ e, e < m → e ≠ d → zAwk (upd (nz nw) (88 + d) 0) e = zAwk (nz nw) e := fun e he hn => by
    unfold zAwk; rw [hk e (by omega), hk (88 + e) (by omega)]
  have g2 : zAwk (upd (nz nw) (88 + d) 0) d = true := by
    unfold zAwk; rw [hk d (by omega), pUs, h6]; decide
  have g3 : zAwk (nz nw) d = false := by unfold zAwk; rw [h88]; simp
  have g4 : ∀ e, e < m → e ≠ d → zAwk (nz nw) e = true → zHlp (upd (nz nw) (88 + d) 0) e = zHlp (nz nw) e ∧ upd (nz nw) (88 + d) 0 (48 + e) = nz nw (48 + e) := fun e he hn hw =>
    ⟨by unfold zHlp; rw [hk (48 + e) (by omega), habv e he], hk _ (by omega)⟩
  rw [time_eq (N := nz nw) hd g1 g2 g3 g4 ((hk (48 + d) (by omega)).trans hsp) hs3 (habv d hd) hne]
theorem rWake {m : Nat} {ru td nw : Nat → Int32} {d c : Nat} (hm : m ≤ 8) (hT : wT m (tT m td)) (h : iT m (tT m td) (nz nw)) (hd : d < m) (h6 : nz nw d = 6) (h88 : nz nw (88 + d) = 1) (hc : c ≤ 8) (hh : nz nw (32 + d) = nI c) (hc6 : c = 8 ∨ (c < m ∧ nz nw c = 6)) : F_X10_canWake (nI m) ru td nw (nI d) = some (pb (zWake m ru (tT m td) (nz nw) d c), nw) := by
  have hh' : nw (32 + d) = nI c := by rw [← hh, pNz (by omega)]
  have hub : c = 8 ∨ (c < m ∧ ∃ q, q ≤ 8 ∧ nz nw (32 + c) = nI q) := by
    rcases hc6 with q | ⟨q1, q2⟩
    · exact Or.inl q
    · exact Or.inr ⟨q1, h.1.h hm c q1 (by rw [q2]; decide)⟩
  have hp := pow_r (m := m) (R := ru) (T := tT m td) (N := nz nw) (c := c) (out := nI d) (zNeed_9 (N := nz nw) hT hd)
  have back : upd (upd nw (88 + d) 0) (88 + d) 1 = nw := by
    have : nw (88 + d) = 1 := by rw [← h88, pNz (by omega)]
    funext k; simp only [upd]; grind
  unfold F_X10_canWake zWake
  simp (disch := omega) only [pIx, pIy, pCl, pA32, pA88, hh', rAsleep, rNeed (m := m), rGives, rLeft hm hc hub, rTimeW hm hT h hd h6 h88 hc hh, pBs, pbo, back]
  by_cases c1 : zSlp (nz nw) c = true
  · simp [c1, pb]
  · have c1' : zSlp (nz nw) c = false := by simpa using c1
    rw [c1', if_pos (show pb false = 0 from rfl)]
    by_cases cp : zPow m ru (tT m td) (nz nw) c (zNeed (tT m td) (nz nw) d) (nI d) = true
    · obtain ⟨p1, p2⟩ := hp.mpr cp
      rw [if_neg p1, if_pos p2, cp]; simp
    · have cp' : zPow m ru (tT m td) (nz nw) c (zNeed (tT m td) (nz nw) d) (nI d) = false := by simpa using cp
      rw [cp']
      by_cases p1 : zGv ru (nz nw) (nI c) < zNeed (tT m td) (nz nw) d
      · rw [if_pos p1]; simp [pb]
      · rw [if_neg p1, if_neg (fun p2 => cp (hp.mp ⟨p1, p2⟩))]; simp [pb]
/-- ports of a hub -/
def zPrt (R : Nat → Int32) (T : Nat → Nat → Int32) (b : Int32) : Int32 := if b = 8 then R 0 else T b.toNatClampNeg 0
def zFull (m : Nat) (N : Nat → Int32) (b c : Int32) : Int32 := pFd (fun d => !decide (N d = 0) && decide (N (32 + d) = b) && decide (N (40 + d) = c)) m 0
def zBarP (m : Nat) (R : Nat → Int32) (T : Nat → Nat → Int32) (N : Nat → Int32) (d : Nat) (b c : Int32) : Int32 := if zHub m T b = true then (if c < 0 ∨ zPrt R T b ≤ c then 1 else if N d = 0 ∧ (b = 8 ∨ N b.toNatClampNeg ≠ 0) ∧ zFull m N b c = -1 then -1 else 2) else 0
def zBar (m : Nat) (R : Nat → Int32) (T : Nat → Nat → Int32) (N : Nat → Int32) (tm z a b c : Int32) : Int32 :=
  if z = 2 then (if m = 0 then 0 else if a < 1 then 1 else if a ≤ 60 then (if tm + a ≤ 9999 then -1 else 3) else 1)
  else if zDev m a = true then
    (if z = 0 then zBarP m R T N a.toNatClampNeg b c
     else if z = 1 then (if N a.toNatClampNeg = 0 then 2 else -1)
     else if z = 3 then (if T a.toNatClampNeg 3 = 1 then -1 else 2)
     else if z = 4 then (if b < 0 then 1 else if b ≤ 3 then (if N (80 + a.toNatClampNeg) = b then 2 else -1) else 1)
     else if z = 5 then (if N a.toNatClampNeg = 7 then -1 else 2)
     else if N (88 + a.toNatClampNeg) = 1 then (if zWake m R T N a.toNatClampNeg (N (32 + a.toNatClampNeg)).toNatClampNeg = true then -1 else 2)
     else if zCanFall m N a = true ∧ N a.toNatClampNeg = 6 then -1 else 2)
  else 0
theorem cPorts {m : Nat} {fu fp : Nat → Int32} {b : Int32} (hm : m ≤ 8) (hb : (0 < m ∧ b = 8) ∨ zDev m b = true) : F_X5_portsOf (nI m) fu fp b = some (zPrt fu (tP m fp) b) := by
  unfold F_X5_portsOf zPrt
  rcases hb with ⟨h1, rfl⟩ | hb
  · rw [if_pos rfl, if_pos rfl, if_neg (by rw [pLe0 (by omega)]; omega)]
  · obtain ⟨d, hd, rfl⟩ := zDev_lt hm hb
    have h8 : ¬ nI d = 8 := by rw [pE8 (by omega)]; omega
    rw [if_neg h8, if_neg h8, if_neg (nI_pos (by omega)), if_neg (by rw [pLe (by omega) (by omega)]; omega)]
    simp (disch := omega) only [pA0, pIx, pIy, pCl]
    rw [tP0 hm (by omega)]
theorem cPorts0 {m : Nat} {fu fp : Nat → Int32} {b : Int32} (hm : m ≤ 8) (hb : ¬ ((0 < m ∧ b = 8) ∨ zDev m b = true)) : F_X5_portsOf (nI m) fu fp b = some 0 := by
  unfold F_X5_portsOf
  have hz : b < 0 ∨ nI m ≤ b := by
    refine Decidable.byContradiction (fun q => hb (Or.inr ?_))
    obtain ⟨j, hj, rfl⟩ := nI_of (show ¬ b < 0 from fun r => q (Or.inl r))
    rw [zDev_nI hm hj]
    have : ¬ nI m ≤ nI j := fun r => q (Or.inr r)
    rw [pLe (by omega) hj] at this
    simpa using this
  by_cases c8 : b = 8
  · have m0 : m = 0 := Decidable.byContradiction (fun q => hb (Or.inl ⟨by omega, c8⟩))
    subst m0; subst c8; rfl
  · rw [if_neg c8]
    by_cases cn : b < 0
    · rw [if_pos cn]
    · rw [if_neg cn, if_pos (hz.resolve_left cn)]
theorem cHub {m t : Nat} {fu fp : Nat → Int32} {b : Int32} (hm : m ≤ 8) (hR : 0 < m → wRu fu t) : F_X5_isHub (nI m) fu fp b = some (pb (zHub m (tP m fp) b)) := by
  unfold F_X5_isHub
  by_cases c : (0 < m ∧ b = 8) ∨ zDev m b = true
  · rw [cPorts hm c, pBs]
    unfold zHub zPrt
    rcases c with ⟨h1, rfl⟩ | c
    · obtain ⟨-, -, -, -, p, hp4, hp, e⟩ := hR h1
      rw [if_pos rfl, e, if_neg (by rw [pLe0 (by omega)]; omega)]
      simp [h1, pb]
    · obtain ⟨d, hd, rfl⟩ := zDev_lt hm c
      have h8 : ¬ nI d = 8 := by rw [pE8 (by omega)]; omega
      rw [if_neg h8, c, pCl (by omega)]
      by_cases c2 : tP m fp d 0 ≤ 0 <;> simp [c2, h8, pb]
  · rw [cPorts0 hm c, pBs]
    unfold zHub
    rw [not_or] at c
    have c2 : zDev m b = false := by simpa using c.2
    have c1 : (decide (0 < m) && decide (b = 8)) = false := by
      by_cases q : 0 < m
      · have : ¬ b = 8 := fun r => c.1 ⟨q, r⟩
        simp [this]
      · simp [q]
    rw [c1, c2]; rfl
theorem zHub_c {m : Nat} {T : Nat → Nat → Int32} {b : Int32} (h : zHub m T b = true) : (0 < m ∧ b = 8) ∨ zDev m b = true := by
  unfold zHub at h
  simp only [Bool.or_eq_true, Bool.and_eq_true, decide_eq_true_eq] at h
  rcases h with h | h
  · exact Or.inl h
  · exact Or.inr h.1
theorem hub_nI {m : Nat} {T : Nat → Nat → Int32} {b : Int32} (hm : m ≤ 8) (h : zHub m T b = true) : ∃ h, h ≤ 8 ∧ b = nI h ∧ (h = 8 ∨ h < m) := by
  rcases zHub_c h with ⟨-, rfl⟩ | q
  · exact ⟨8, by omega, rfl, Or.inl rfl⟩
  · obtain ⟨d, hd, rfl⟩ := zDev_lt hm q
    exact ⟨d, by omega, rfl, Or.inr hd⟩
theorem cBarP {m t : Nat} {fr fu fp : Nat → Int32} {d : Nat} {b c : Int32} (hm : m ≤ 8) (hR : 0 < m → wRu fu t) (hi : iN m (nz fr)) (hd : d < m) : F_X0_barOfPlug fr (nI m) fu fp (nI d) b c = some (zBarP m fu (tP m fp) (nz fr) d b c) := by
  unfold F_X0_barOfPlug zBarP F_X5_hasPort
  rw [cHub hm hR, pBs]
  by_cases ch : zHub m (tP m fp) b = true
  · obtain ⟨h, hh, rfl, hh2⟩ := hub_nI hm ch
    have hb1 : (nI h : Int32) ≠ -1 := by rw [Ne, pNm (by omega)]; exact id
    have e0 : nz fr d = fr d := pNz (by omega)
    rw [ch, if_neg (by decide), if_pos rfl, cPorts hm (zHub_c ch), cPlugged hm hi.f hb1, cIs hh]
    simp (disch := omega) only [pA0, pIx, pIy, pCl, pBs, e0]
    have h8 : (nI h = 8) = (h = 8) := pE8 (by omega)
    have ef : zFull m (nz fr) (nI h) c = pFd (fun d => !decide (nz fr d = 0) && decide (nz fr (32 + d) = nI h) && decide (nz fr (40 + d) = c)) m 0 := rfl
    rw [← ef]
    generalize zFull m (nz fr) (nI h) c = w
    generalize zPrt fu (tP m fp) (nI h) = w2
    by_cases c1 : c < 0
    · simp [c1]
    · by_cases c2 : w2 ≤ c
      · simp [c1, c2]
      · by_cases c3 : fr d = 0 <;> by_cases c4 : w = -1 <;> by_cases c5 : h = 8 <;> by_cases c6 : nz fr h = 0 <;> simp [c1, c2, c3, c4, c5, c6, h8, pb, show nI 8 = 8 from rfl]
  · have ch' : zHub m (tP m fp) b = false := by simpa using ch
    rw [ch', if_pos (show pb false = 0 from rfl), if_neg (by decide)]
theorem lt_dec {x c : Int32} (h : 0 < x) : (x - 1 < c) ↔ (x ≤ c) := by
  rw [q_lt] at h
  have h0 : (0 : Int32).toInt = 0 := by decide
  have h1 : (1 : Int32).toInt = 1 := by decide
  have hr := Int32.toInt_lt x
  have e : (x - 1).toInt = x.toInt - 1 := by
    rw [Int32.toInt_sub, h1, Int.bmod_eq_of_le (by omega) (by omega)]
  rw [q_lt, q_le, e]
  omega
theorem zPrt_pos {m t : Nat} {R : Nat → Int32} {T : Nat → Nat → Int32} {b : Int32} (hm : m ≤ 8) (hR : 0 < m → wRu R t) (h : zHub m T b = true) : 0 < zPrt R T b := by
  unfold zPrt
  have hh := h
  unfold zHub at hh
  by_cases c : b = 8
  · rw [if_pos c]
    rcases zHub_c h with ⟨h1, -⟩ | q
    · obtain ⟨-, -, -, -, p, hp4, hp, e⟩ := hR h1
      rw [e]; exact (pLt (a := 0) (by omega) (by omega)).mpr hp
    · obtain ⟨d, hd, rfl⟩ := zDev_lt hm q
      rw [pE8 (by omega)] at c; omega
  · rw [if_neg c]
    have : ¬ T b.toNatClampNeg 0 ≤ 0 := by
      simp only [Bool.or_eq_true, Bool.and_eq_true, decide_eq_true_eq, Bool.not_eq_true', decide_eq_false_iff_not] at hh
      rcases hh with ⟨-, q⟩ | ⟨-, q⟩
      · exact absurd q c
      · exact q
    rw [not_le] at this; exact this
theorem rBarP {m t : Nat} {ru td nw : Nat → Int32} {d : Nat} {b c : Int32} (hm : m ≤ 8) (hR : 0 < m → wRu ru t) (hd : d < m) : F_X10_whyPlug (nI m) ru td nw (nI d) b c = some (zBarP m ru (tT m td) (nz nw) d b c) := by
  unfold F_X10_whyPlug zBarP
  rw [rDev, pBs, rHub hm, pBs, zDev_nI hm (by omega), if_neg (by simp [hd, pb])]
  by_cases ch : zHub m (tT m td) b = true
  · have hpos := zPrt_pos hm hR ch
    obtain ⟨h, hh, rfl, hh2⟩ := hub_nI hm ch
    have e0 : nz nw d = nw d := pNz (by omega)
    have ep : F_X10_portsOf ru td (nI h) = some (zPrt ru (tT m td) (nI h)) := by
      unfold zPrt
      rcases hh2 with rfl | hh2
      · exact rPorts8
      · rw [if_neg (by rw [pE8 (by omega)]; omega), rPorts (m := m) hm (by omega), pCl (by omega)]
    have h8 : (nI h = 8) = (h = 8) := pE8 (by omega)
    have hd8 : (nI h = nI d) = (h = d) := pEq (by omega) (by omega)
    rw [ch, if_neg (by decide), if_pos rfl, ep, pBs, rIn, pBs, rState (by omega), pBs, rInPort hm]
    have ef : zFull m (nz nw) (nI h) c = pFd (fun d => !decide (nz nw d = 0) && decide (nz nw (32 + d) = nI h) && decide (nz nw (40 + d) = c)) m 0 := rfl
    rw [← ef]
    have cd := lt_dec (c := c) hpos
    rw [pCl (by omega), e0]
    generalize zFull m (nz nw) (nI h) c = w
    generalize zPrt ru (tT m td) (nI h) = w2 at cd ⊢
    by_cases c1 : c < 0
    · simp [c1, pb]
    · by_cases c2 : w2 ≤ c
      · have := cd.mpr c2
        simp [c1, c2, this, pb]
      · have : ¬ w2 - 1 < c := fun q => c2 (cd.mp q)
        rcases hh2 with rfl | hh2
        · have hd' : ¬ 8 = d := by omega
          have hd9 : ¬ (8 : Int32) = nI d := fun q => hd' ((nI_eq (a := 8) (b := d) (by omega) (by omega)).mp q)
          by_cases c3 : nw d = 0 <;> by_cases c4 : w = -1 <;> simp [c1, c2, c3, c4, hd9, this, pb, show nI 8 = 8 from rfl, pBs]
        · have h8' : ¬ h = 8 := by omega
          have eh : nz nw h = nw h := pNz (by omega)
          rw [rState (by omega), eh]
          by_cases ce : h = d
          · subst ce
            by_cases c3 : nw h = 0 <;> by_cases c4 : w = -1 <;> simp [c1, c2, c3, c4, h8, h8', this, pb, pBs]
          · by_cases c3 : nw d = 0 <;> by_cases c4 : w = -1 <;> by_cases c6 : nw h = 0 <;> simp [c1, c2, c3, c4, c6, h8, h8', hd8, ce, this, pb, pBs]
  · have ch' : zHub m (tT m td) b = false := by simpa using ch
    rw [ch', if_pos (show pb false = 0 from rfl), if_neg (by decide)]
theorem cBar {m t : Nat} {fr fu fp : Nat → Int32} {z a b c : Int32} (hm : m ≤ 8) (hR : 0 < m → wRu fu t) (hi : iN m (nz fr)) : F_X0_barOf fr (nI m) fu fp z a b c = some (zBar m fu (tP m fp) (nz fr) (fr 96) z a b c) := by
  unfold F_X0_barOf zBar
  by_cases z2 : z = 2
  · rw [if_pos z2, if_pos z2]
    unfold F_X0_barOfTicks F_X5_isTold
    simp (disch := omega) only [pLe0]
    by_cases m0 : m = 0
    · simp [m0, pBs]
    · by_cases c1 : a < 1 <;> by_cases c2 : a ≤ 60 <;> by_cases c3 : fr 96 + a ≤ 9999 <;> simp [m0, c1, c2, c3, pBs]
  · rw [if_neg z2, if_neg z2, if_neg z2, cHas hm, pBs]
    by_cases cd : zDev m a = true
    · rw [cd, if_neg (by decide), if_pos rfl]
      obtain ⟨d, hd, rfl⟩ := zDev_lt hm cd
      have e0 : nz fr d = fr d := pNz (by omega)
      have e80 : nz fr (80 + d) = fr (80 + d) := pNz (by omega)
      have e88 : nz fr (88 + d) = fr (88 + d) := pNz (by omega)
      have et : fp (24 + d) = tP m fp d 3 := (tP3 hm (by omega)).symm
      rw [pCl (by omega), e0, e80, e88]
      by_cases z0 : z = 0
      · rw [if_pos z0, if_pos z0, cBarP hm hR hi hd, pBs]
      · rw [if_neg z0, if_neg z0]
        by_cases z1 : z = 1
        · rw [if_pos z1, if_pos z1]
          simp (disch := omega) only [pIx, pCl, pLe, pLt, pEq, pNm, pS1, pA0, pA8, pA16, pA24, pA32, pA40, pA48, pA56, pA64, pA72, pA80, pA88, pBs, pE8, pb0, pb1, pbo, if_true, if_false, pIy, pbq, pNz, pIw]
          by_cases q : fr d = 0 <;> simp [q]
        · rw [if_neg z1, if_neg z1]
          by_cases z3 : z = 3
          · rw [if_pos z3, if_pos z3]
            simp (disch := omega) only [pIx, pCl, pLe, pLt, pEq, pNm, pS1, pA0, pA8, pA16, pA24, pA32, pA40, pA48, pA56, pA64, pA72, pA80, pA88, pBs, pE8, pb0, pb1, pbo, if_true, if_false, pIy, pbq, pNz, pIw]
            rw [et]
            by_cases q : tP m fp d 3 = 1 <;> simp [q]
          · rw [if_neg z3, if_neg z3]
            by_cases z4 : z = 4
            · rw [if_pos z4, if_pos z4]
              unfold F_X0_barOfError
              simp (disch := omega) only [pIx, pCl, pLe, pLt, pEq, pNm, pS1, pA0, pA8, pA16, pA24, pA32, pA40, pA48, pA56, pA64, pA72, pA80, pA88, pBs, pE8, pb0, pb1, pbo, if_true, if_false, pIy, pbq, pNz, pIw]
              by_cases c1 : b < 0 <;> by_cases c2 : b ≤ 3 <;> by_cases c3 : fr (80 + d) = b <;> simp [c1, c2, c3, pBs]
            · rw [if_neg z4, if_neg z4]
              by_cases z5 : z = 5
              · rw [if_pos z5, if_pos z5]
                simp (disch := omega) only [pIx, pCl, pLe, pLt, pEq, pNm, pS1, pA0, pA8, pA16, pA24, pA32, pA40, pA48, pA56, pA64, pA72, pA80, pA88, pBs, pE8, pb0, pb1, pbo, if_true, if_false, pIy, pbq, pNz, pIw]
                by_cases q : fr d = 7 <;> simp [q]
              · rw [if_neg z5, if_neg z5]
                simp (disch := omega) only [pIx, pCl, pLe, pLt, pEq, pNm, pS1, pA0, pA8, pA16, pA24, pA32, pA40, pA48, pA56, pA64, pA72, pA80, pA88, pBs, pE8, pb0, pb1, pbo, if_true, if_false, pIy, pbq, pNz, pIw]
                by_cases q : fr (88 + d) = 1
                · rw [if_pos q, if_pos q]
                  have h6 : nz fr d = 6 := Decidable.byContradiction (fun r => by
                    have := ((hi.2.1 d hd).2.2.2.2.2.1 r).2.2
                    rw [e88, q] at this; exact absurd this (by decide))
                  obtain ⟨x, hx, hh, -⟩ := hub36 hm hi.2.2 hd (Or.inr (Or.inr (Or.inr h6)))
                  rw [cWake hm hi hd (by rw [h6]; decide) hx hh, pBs, show fr (32 + d) = nI x from by rw [← hh, pNz (by omega)], pCl (by omega)]
                  by_cases w : zWake m fu (tP m fp) (nz fr) d x = true <;> simp [w, pb]
                · rw [if_neg q, if_neg q, cCanFall hm hd hi.f hi.s, pBs, e0]
                  by_cases w : zCanFall m (nz fr) (nI d) = true <;> by_cases w2 : fr d = 6 <;> simp [w, w2, pb]
    · have cd' : zDev m a = false := by simpa using cd
      rw [cd', if_pos (show pb false = 0 from rfl), if_neg Bool.false_ne_true]
theorem rBar {m t : Nat} {ru td nw : Nat → Int32} {z a b c : Int32} (hm : m ≤ 8) (hR : 0 < m → wRu ru t) (hT : wT m (tT m td)) (hi : iT m (tT m td) (nz nw)) : F_X10_whyNot (nI m) ru td nw z a b c = some (zBar m ru (tT m td) (nz nw) (nw 96) z a b c, nw) := by
  unfold F_X10_whyNot zBar
  by_cases z2 : z = 2
  · subst z2
    rw [if_neg (by decide), if_neg (by decide), if_pos rfl, if_pos rfl, rTree hm, pBs, rIn, pBs]
    have c2' : (60 < a) ↔ ¬ (a ≤ 60) := not_le.symm
    by_cases m0 : m = 0
    · simp [m0, pb]
    · have hm0 : 0 < m := by omega
      by_cases c1 : a < 1 <;> by_cases c2 : a ≤ 60 <;> by_cases c3 : nw 96 + a ≤ 9999 <;> simp [m0, hm0, c1, c2, c2', c3, pb]
  · rw [if_neg z2, if_neg z2]
    by_cases cd : zDev m a = true
    · rw [cd, if_pos rfl]
      obtain ⟨d, hd, rfl⟩ := zDev_lt hm cd
      have e0 : nz nw d = nw d := pNz (by omega)
      have e80 : nz nw (80 + d) = nw (80 + d) := pNz (by omega)
      have e88 : nz nw (88 + d) = nw (88 + d) := pNz (by omega)
      have hp1 : ¬ pb true = 0 := by decide
      rw [pCl (by omega), e0, e80, e88, rDev, cd, rState (by omega)]
      by_cases z0 : z = 0
      · rw [if_pos z0, if_pos z0, rBarP hm hR hd, pBs]
      · rw [if_neg z0, if_neg z0]
        by_cases z1 : z = 1
        · rw [if_pos z1, if_pos z1, pBs, if_neg hp1, pBs]
          by_cases q : nw d = 0 <;> simp [q]
        · rw [if_neg z1, if_neg z1]
          by_cases z3 : z = 3
          · rw [if_pos z3, if_pos z3, pBs, if_neg hp1, rTold3 hm (by omega), pBs]
            obtain ⟨-, -, -, ⟨o, ho, e⟩, -⟩ := hT d hd
            rw [e]
            have : o = 0 ∨ o = 1 := by omega
            rcases this with rfl | rfl <;> rfl
          · rw [if_neg z3, if_neg z3]
            by_cases z4 : z = 4
            · rw [if_pos z4, if_pos z4, pBs, if_neg hp1, rIn, pBs]
              simp (disch := omega) only [pIx, pCl, pLe, pLt, pEq, pNm, pS1, pA0, pA8, pA16, pA24, pA32, pA40, pA48, pA56, pA64, pA72, pA80, pA88, pBs, pE8, pb0, pb1, pbo, if_true, if_false, pIy, pbq, pNz, pIw]
              have c2' : (3 < b) ↔ ¬ (b ≤ 3) := not_le.symm
              by_cases c1 : b < 0 <;> by_cases c2 : b ≤ 3 <;> by_cases c3 : nw (80 + d) = b <;> simp [c1, c2, c2', c3]
            · rw [if_neg z4, if_neg z4]
              by_cases z5 : z = 5
              · rw [if_pos z5, if_pos z5, pBs, if_neg hp1, pBs]
                by_cases q : nw d = 7 <;> simp [q]
              · rw [if_neg z5, if_neg z5]
                unfold F_X10_whySleep
                rw [rDev, cd, pBs, if_neg hp1, rState (by omega), pBs, rAsleep (by omega), pBs, rCanFall hm, pBs]
                have es : zSlp (nz nw) d = decide (nw (88 + d) = 1) := by
                  unfold zSlp; rw [e88]
                  have : ¬ d = 8 := by omega
                  simp [this]
                rw [es]
                by_cases q : nw (88 + d) = 1
                · have h6 : nz nw d = 6 := Decidable.byContradiction (fun r => by
                    have := ((hi.1.2.1 d hd).2.2.2.2.2.1 r).2.2
                    rw [e88, q] at this; exact absurd this (by decide))
                  obtain ⟨x, hx, hh, hx6⟩ := hub36 hm hi.1.2.2 hd (Or.inr (Or.inr (Or.inr h6)))
                  have h6' : nw d = 6 := by rw [← e0]; exact h6
                  rw [if_pos h6', if_neg (by simp [q, pb]), if_pos q, rWake hm hT hi hd h6 (by rw [e88]; exact q) hx hh hx6, pBs, hh, pCl (by omega)]
                  by_cases w : zWake m ru (tT m td) (nz nw) d x = true <;> simp [w, pb, pBs]
                · rw [if_neg q]
                  by_cases w : zCanFall m (nz nw) (nI d) = true <;> by_cases w2 : nw d = 6 <;> simp [w, w2, q, pb, pBs]
    · have cd' : zDev m a = false := by simpa using cd
      rw [cd', if_neg Bool.false_ne_true, rDev, cd']
      unfold F_X10_whyPlug F_X10_whySleep
      rw [rDev, cd']
      by_cases z0 : z = 0 <;> by_cases z1 : z = 1 <;> by_cases z3 : z = 3 <;> by_cases z4 : z = 4 <;> by_cases z5 : z = 5 <;> simp [z0, z1, z3, z4, z5, pb, pBs]
