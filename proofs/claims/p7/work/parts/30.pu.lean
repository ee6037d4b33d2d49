/-! program and reference side by side: one act -/
def Rl (m : Nat) (fr nw : Nat → Int32) : Prop := nz fr = nz nw ∧ ∀ d, d < m → nz nw d ≠ 0 → fr (24 + d) = nw (24 + d)
def Cx (m t : Nat) (ru fp td : Nat → Int32) : Prop := m ≤ 8 ∧ (0 < m → wRu ru t) ∧ wT m (tT m td) ∧ tP m fp = tT m td
theorem nf_at {f g : Nat → Int32} {k : Nat} (h : nf f = nf g) (hk : ¬ (k < 24 ∨ (32 ≤ k ∧ k < 96) ∨ k = 97)) : f k = g k := by
  have : nf f k = nf g k := by rw [h]
  rw [nfE hk, nfE hk] at this; exact this
/-- what an act leaves of the reference's row behind the tree -/
def kD (nw g : Nat → Int32) : Prop := ∀ k, 98 ≤ k → g k = nw k
theorem settle_0 {m : Nat} {T : Nat → Nat → Int32} {N : Nat → Int32} {d : Nat} (hm : m ≤ 8) (h : iT m T N) (hd : d < m) (hb : zBsy (nSettle m N) d = true) : N d ≠ 0 := fun q => by
  have h1 := (away_hub hm h.1 hd).mp q
  rw [← nSettle_hp (N := N) (k := 32 + d) hm (Or.inl ⟨by omega, by omega⟩)] at h1
  have h2 := (away_hub hm (nSettle_iN hm h.1) hd).mpr h1
  unfold zBsy at hb; rw [h2] at hb; exact absurd hb (by decide)
theorem zTk_v {m t : Nat} {R : Nat → Int32} {T : Nat → Nat → Int32} {N : Nat → Int32} {v v' : Int32} (h : zS m N = -1) : zTk m t R T N v = zTk m t R T N v' := by
  unfold zTk zGone; rw [if_pos h, if_pos h]
theorem tick_sim {m t : Nat} {ru fp td fr nw : Nat → Int32} (hc : Cx m t ru fp td) (h0 : 0 < m) (hr : Rl m fr nw) (hi : iU m ru (tT m td) (nz nw)) : ∃ f g, F_X0_passTick fr (nI m) ru fp = some f ∧ F_X10_tickNow (nI m) ru td nw = some g ∧ Rl m f g ∧ iU m ru (tT m td) (nz g) ∧ f 96 = cCap (fr 96) ∧ g 96 = nw 96 + 1 ∧ kD nw g := by
  obtain ⟨hm, hR, hT, hTT⟩ := hc
  have hR := hR h0
  obtain ⟨f, f1, f2, f3⟩ := cTick (fr := fr) (fu := ru) (fp := fp) hm hR (by rw [hTT]; exact hT) (by rw [hTT, hr.1]; exact hi.1)
  obtain ⟨g, g1, g2, g3⟩ := rTick (nw := nw) hm hR hT hi.1
  rw [hTT, hr.1] at f2 f3
  have hv : ∀ d, d < m → zS m (nz nw) = nI d → nz nw d ≠ 0 → zV m (nz nw) fr = zV m (nz nw) nw := fun d hd q q0 => by
    unfold zV; rw [q, pCl (by omega)]; exact hr.2 d hd q0
  have ez : nz f = nz g := by
    rw [f2, g2]
    rcases zS_c m (nz nw) with q | ⟨d, hd, q, hb⟩
    · exact zTk_v q
    · rw [hv d hd q (settle_0 hm hi.1 hd hb)]
  have hig : iU m ru (tT m td) (nz g) := by rw [g2]; exact zTk_iU hm hR hT hi
  refine ⟨f, g, f1, g1, ⟨ez, fun d hd hn => ?_⟩, hig, ?_, ?_, fun k hk => ?_⟩
  · have hn0 : nz nw d ≠ 0 := fun q => by
      apply hn
      have h1 := (away_hub hm hi.1.1 hd).mp q
      rw [← zTk_hp (N := nz nw) (t := t) (R := ru) (T := tT m td) (v := zV m (nz nw) nw) (k := 32 + d) hm (Or.inl ⟨by omega, by omega⟩), ← g2] at h1
      exact (away_hub hm hig.1.1 hd).mpr h1
    have e1 : f (24 + d) = nf f (24 + d) := (nfE (by omega)).symm
    have e2 : g (24 + d) = nf g (24 + d) := (nfE (by omega)).symm
    rw [e1, e2, f3, g3, pUn (by omega), pUn (by omega)]
    unfold nfT
    by_cases cf : zF m (tT m td) (nz nw) = true
    · rw [if_pos cf, if_pos cf]
      rcases zS_c m (nz nw) with q | ⟨s, hs, q, hb⟩
      · unfold zF at cf; rw [q] at cf; exact absurd cf (by simp)
      · rw [hv s hs q (settle_0 hm hi.1 hs hb), q, pCl (by omega)]
        by_cases c : d = s
        · subst c; rw [pUs, pUs]
        · rw [pUn (by omega), pUn (by omega), nfE (by omega), nfE (by omega)]; exact hr.2 d hd hn0
    · rw [if_neg cf, if_neg cf, nfE (by omega), nfE (by omega)]; exact hr.2 d hd hn0
  · have : f 96 = nf f 96 := (nfE (by omega)).symm
    rw [this, f3, pUs]
  · have : g 96 = nf g 96 := (nfE (by omega)).symm
    rw [this, g3, pUs]
  · have : g k = nf g k := (nfE (by omega)).symm
    rw [this, g3, pUn (by omega)]
    unfold nfT
    split
    · rename_i cf
      rcases zS_c m (nz nw) with q | ⟨s, hs, q, hb⟩
      · unfold zF at cf; rw [q] at cf; exact absurd cf (by simp)
      · rw [q, pCl (by omega), pUn (by omega), nfE (by omega)]
    · rw [nfE (by omega)]
/-! the acts but ticks -/
theorem plug_sim {m t : Nat} {ru fp td fr nw : Nat → Int32} {d c p : Nat} (hc : Cx m t ru fp td) (h0 : 0 < m) (hr : Rl m fr nw) (hi : iU m ru (tT m td) (nz nw)) (hd : d < m) (hd0 : nz nw d = 0) (hcc : c = 8 ∨ (c < m ∧ nz nw c ≠ 0)) (hp : p < 4) (hpp : (c = 8 ∧ nI p < ru 0) ∨ (c < m ∧ nI p < tT m td c 0)) : ∃ f g, F_X0_putIn fr (nI m) ru fp (nI d) (nI c) (nI p) = some f ∧ F_X10_plugs ru nw (nI d) (nI c) (nI p) = some (zDepth (nz g) d, g) ∧ Rl m f g ∧ iU m ru (tT m td) (nz g) ∧ f 96 = fr 96 ∧ g 96 = nw 96 ∧ kD nw g := by
  obtain ⟨hm, hR, hT, hTT⟩ := hc
  have hR := hR h0
  obtain ⟨f, f1, f2, f3⟩ := cPlug (m := m) (fr := fr) (fu := ru) (fp := fp) (d := d) (z := nI c) (z2 := nI p) (by omega)
  obtain ⟨g, g1, g2, g3⟩ := rPlug (nw := nw) hm hR hi hd hd0 hcc hp hpp
  have hig := nPlug_iU hm hR hi hd hd0 hcc hp hpp
  rw [hr.1] at f2
  refine ⟨f, g, f1, by rw [g1, g2], ⟨by rw [f2, g2], fun e he hn => ?_⟩, by rw [g2]; exact hig, ?_, ?_, fun k hk => ?_⟩
  · have e1 : f (24 + e) = nf f (24 + e) := (nfE (by omega)).symm
    have e2 : g (24 + e) = nf g (24 + e) := (nfE (by omega)).symm
    rw [e1, e2, f3, g3]
    by_cases ce : e = d
    · subst ce; rw [pUs, pUs]
    · rw [pUn (by omega), pUn (by omega), nfE (by omega), nfE (by omega)]
      apply hr.2 e he
      rw [g2] at hn
      have : nPlug ru (nz nw) d (nI c) (nI p) e = nz nw e := nPlug_same (by omega) (fun j hj => by omega)
      rw [this] at hn; exact hn
  · have : f 96 = nf f 96 := (nfE (by omega)).symm
    rw [this, f3, pUn (by omega), nfE (by omega)]
  · have : g 96 = nf g 96 := (nfE (by omega)).symm
    rw [this, g3, pUn (by omega), nfE (by omega)]
  · have : g k = nf g k := (nfE (by omega)).symm
    rw [this, g3, pUn (by omega), nfE (by omega)]
theorem pull_sim {m t : Nat} {ru fp td fr nw : Nat → Int32} {d : Nat} (hc : Cx m t ru fp td) (hr : Rl m fr nw) (hi : iU m ru (tT m td) (nz nw)) (hd : d < m) (hd0 : nz nw d ≠ 0) : ∃ f g, F_X0_pullOut fr (nI m) ru fp (nI d) = some f ∧ F_X10_unplugs (nI m) nw (nI d) = some (nI (pNum (fun e => decide (nz f e = 0)) m) - nI (pNum (fun e => decide (nz fr e = 0)) m), g) ∧ Rl m f g ∧ iU m ru (tT m td) (nz g) ∧ f 96 = fr 96 ∧ g 96 = nw 96 ∧ kD nw g := by
  obtain ⟨hm, hR, hT, hTT⟩ := hc
  obtain ⟨g, g1, g2, g3, g4, g5⟩ := rPull (nw := nw) hm hi.1.1 hd
  have f1 := cPull (fr := fr) (fu := ru) (fp := fp) hm hd
  have f2 : nz (nPull m (zPl (nz fr) d) fr) = nPull m (zPl (nz nw) d) (nz nw) := by rw [nPull_nz hm, hr.1]
  refine ⟨_, g, f1, ?_, ⟨by rw [f2, g2], fun e he hn => ?_⟩, by rw [g2]; exact nPull_iU hm hi hd, nf_at (nPull_nf hm) (by omega), g4, g5⟩
  · rw [g1, f2, hr.1, gone_num hm hi.1.1 hd hd0]
  · have hI := nPull_I (p := zPl (nz nw) d) hm hi.1.1.2.1
    have hne : ¬ zPl (nz nw) d e = true := fun q => by
      rw [g2] at hn; exact hn ((hI e he).1 ⟨he, q⟩).1
    have e0 : nPull m (zPl (nz nw) d) (nz nw) e = nz nw e := by have := (hI e he).2 (fun q => hne q.2) 0 (by decide); simpa using this
    rw [nf_at (nPull_nf hm) (by omega), g3 e he hne]
    rw [g2, e0] at hn
    exact hr.2 e he hn
theorem sup_sim {m t : Nat} {ru fp td fr nw : Nat → Int32} {d : Nat} (hc : Cx m t ru fp td) (hr : Rl m fr nw) (hi : iU m ru (tT m td) (nz nw)) (hd : d < m) : ∃ f g, F_X0_switchSupply fr (nI m) ru fp (nI d) = some f ∧ F_X10_turnsSupply (nI m) ru td nw (nI d) = some g ∧ Rl m f g ∧ iU m ru (tT m td) (nz g) ∧ f 96 = fr 96 ∧ g 96 = nw 96 ∧ kD nw g := by
  obtain ⟨hm, hR, hT, hTT⟩ := hc
  obtain ⟨f, f1, f2, f3⟩ := cSup (fr := fr) (fu := ru) (fp := fp) hm (by rw [hTT, hr.1]; exact hi) hd
  obtain ⟨g, g1, g2, g3⟩ := rSup (nw := nw) hm hT hi hd
  rw [hTT, hr.1] at f2
  have hig := nSup_iU hm hi hd
  refine ⟨f, g, f1, g1, ⟨by rw [f2, g2], fun e he hn => ?_⟩, by rw [g2]; exact hig, nf_at f3 (by omega), nf_at g3 (by omega), fun k hk => nf_at g3 (by omega)⟩
  rw [nf_at f3 (by omega), nf_at g3 (by omega)]
  apply hr.2 e he
  intro q
  apply hn
  have h1 := (away_hub hm hi.1.1 he).mp q
  have h2 : nSup m ru (tT m td) (nz nw) d (32 + e) = nz nw (32 + e) := by
    have ht : nTog (nz nw) d (32 + e) = nz nw (32 + e) := pUn (by omega)
    have hs : ∀ (k : Nat) (N : Nat → Int32), nShed m ru (tT m td) d k N (32 + e) = N (32 + e) := by
      intro k
      induction k with
      | zero => intro N; rfl
      | succ k ih =>
        intro N
        unfold nShed
        split
        · rename_i q
          rcases grd_c (m := m) (T := tT m td) (N := N) (z := nI d) hm with ⟨e1, e2⟩ | ⟨g, hg, e1, e2, e3, e4⟩
          · exact absurd e1 q.1
          · rw [ih, e1, pCl (by omega), nRefuse_hp hm (by omega) (Or.inl ⟨by omega, by omega⟩)]
        · rfl
    unfold nSup
    split
    · exact ht
    · split
      · split
        · rw [hs, ht]
        · rw [nRefuse_hp hm (by omega) (Or.inl ⟨by omega, by omega⟩), ht]
      · exact ht
  rw [g2]
  exact (away_hub hm hig.1.1 he).mpr (by rw [h2]; exact h1)
theorem err_iU {m : Nat} {R : Nat → Int32} {T : Nat → Nat → Int32} {N : Nat → Int32} {d : Nat} {v : Int32} (hm : m ≤ 8) (h : iU m R T N) (hd : d < m) : iU m R T (upd N (80 + d) v) := by
  obtain ⟨⟨⟨⟨L, hL⟩, hO, hC⟩, hS, hz⟩, hP, hA⟩ := h
  have hk : ∀ k, k ≠ 80 + d → upd N (80 + d) v k = N k := fun k q => pUn q
  have hC' : wC m (upd N (80 + d) v) := fun e he hs => by
    rw [hk e (by omega)] at hs; rw [hk (32 + e) (by omega)]
    rcases hC e he hs with q | ⟨b, hb, q1, q2⟩
    · exact Or.inl q
    · exact Or.inr ⟨b, hb, q1, by rw [hk b (by omega)]; exact q2⟩
  refine ⟨⟨⟨⟨L, hL.keep (fun e he => by rw [hk e (by omega)]) (fun e he => hk _ (by omega))⟩, fun e he => ?_, hC'⟩, hS.keep hm hC' (fun e he h6 => ?_) (fun e he => hk _ (by omega)), by rw [nzU (by omega), hz]⟩, hP.keep hm (fun k h1 h2 => hk k (by omega)), hA.keep (fun e he h6 => by rw [hk e (by omega)] at h6; exact ⟨h6, hk _ (by omega)⟩)⟩
  · have := hO e he
    unfold dOK at this ⊢
    rw [hk e (by omega), hk (8 + e) (by omega), hk (16 + e) (by omega), hk (32 + e) (by omega), hk (40 + e) (by omega), hk (48 + e) (by omega), hk (56 + e) (by omega), hk (64 + e) (by omega), hk (72 + e) (by omega), hk (88 + e) (by omega)]
    exact this
  · rw [hk e (by omega)] at h6; exact ⟨h6, hk _ (by omega)⟩
theorem slp_iU {m : Nat} {R : Nat → Int32} {T : Nat → Nat → Int32} {N : Nat → Int32} {d : Nat} {v : Int32} (hm : m ≤ 8) (h : iU m R T N) (hd : d < m) (h6 : N d = 6) (hv : v = 0 ∨ v = 1) : iU m R T (upd N (88 + d) v) := by
  obtain ⟨⟨⟨⟨L, hL⟩, hO, hC⟩, hS, hz⟩, hP, hA⟩ := h
  have hk : ∀ k, k ≠ 88 + d → upd N (88 + d) v k = N k := fun k q => pUn q
  have hC' : wC m (upd N (88 + d) v) := fun e he hs => by
    rw [hk e (by omega)] at hs; rw [hk (32 + e) (by omega)]
    rcases hC e he hs with q | ⟨b, hb, q1, q2⟩
    · exact Or.inl q
    · exact Or.inr ⟨b, hb, q1, by rw [hk b (by omega)]; exact q2⟩
  refine ⟨⟨⟨⟨L, hL.keep (fun e he => by rw [hk e (by omega)]) (fun e he => hk _ (by omega))⟩, fun e he => ?_, hC'⟩, hS.keep hm hC' (fun e he h6 => ?_) (fun e he => hk _ (by omega)), by rw [nzU (by omega), hz]⟩, hP.keep hm (fun k h1 h2 => hk k (by omega)), hA.keep (fun e he h6 => by rw [hk e (by omega)] at h6; exact ⟨h6, hk _ (by omega)⟩)⟩
  · have := hO e he
    unfold dOK at this ⊢
    rw [hk e (by omega), hk (8 + e) (by omega), hk (16 + e) (by omega), hk (32 + e) (by omega), hk (40 + e) (by omega), hk (48 + e) (by omega), hk (56 + e) (by omega), hk (64 + e) (by omega), hk (72 + e) (by omega)]
    by_cases ce : e = d
    · subst ce
      obtain ⟨o1, o2, o3, o4, o5, o6, o7, o8, o9⟩ := this
      rw [pUs]
      exact ⟨o1, o2, o3, o4, o5, fun q => absurd h6 q, fun q => ⟨(o7 q).1, hv⟩, o8, o9⟩
    · rw [hk (88 + e) (by omega)]; exact this
  · rename_i h6'
    rw [hk e (by omega)] at h6; exact ⟨h6, hk _ (by omega)⟩
theorem err_sim {m t : Nat} {ru fp td fr nw : Nat → Int32} {d : Nat} {v : Int32} (hc : Cx m t ru fp td) (hr : Rl m fr nw) (hi : iU m ru (tT m td) (nz nw)) (hd : d < m) : Rl m (upd fr (80 + d) v) (upd nw (80 + d) v) ∧ iU m ru (tT m td) (nz (upd nw (80 + d) v)) ∧ kD nw (upd nw (80 + d) v) := by
  have hm := hc.1
  refine ⟨⟨by rw [nzU (by omega), nzU (by omega), hr.1], fun e he hn => ?_⟩, by rw [nzU (by omega)]; exact err_iU hm hi hd, fun k hk => pUn (by omega)⟩
  rw [nzU (by omega), pUn (by omega)] at hn
  rw [pUn (by omega), pUn (by omega)]; exact hr.2 e he hn
theorem slp_sim {m t : Nat} {ru fp td fr nw : Nat → Int32} {d : Nat} (hc : Cx m t ru fp td) (hr : Rl m fr nw) (hi : iU m ru (tT m td) (nz nw)) (hd : d < m) (h6 : nz nw d = 6) : Rl m (upd fr (88 + d) (1 - fr (88 + d))) (upd nw (88 + d) (1 - nw (88 + d))) ∧ iU m ru (tT m td) (nz (upd nw (88 + d) (1 - nw (88 + d)))) ∧ kD nw (upd nw (88 + d) (1 - nw (88 + d))) := by
  have hm := hc.1
  have e : fr (88 + d) = nw (88 + d) := by
    have : nz fr (88 + d) = nz nw (88 + d) := by rw [hr.1]
    rw [pNz (by omega), pNz (by omega)] at this; exact this
  have hv : (1 - nw (88 + d)) = 0 ∨ (1 - nw (88 + d)) = 1 := by
    have := ((hi.1.1.2.1 d hd).2.2.2.2.2.2.1 h6).2
    rw [pNz (by omega)] at this
    rcases this with q | q <;> rw [q]
    · exact Or.inr (by decide)
    · exact Or.inl (by decide)
  refine ⟨⟨by rw [nzU (by omega), nzU (by omega), hr.1, e], fun x hx hn => ?_⟩, by rw [nzU (by omega)]; exact slp_iU hm hi hd h6 hv, fun k hk => pUn (by omega)⟩
  rw [nzU (by omega), pUn (by omega)] at hn
  rw [pUn (by omega), pUn (by omega)]; exact hr.2 x hx hn
theorem again_sim {m t : Nat} {ru fp td fr nw : Nat → Int32} {d : Nat} (hc : Cx m t ru fp td) (hr : Rl m fr nw) (hi : iU m ru (tT m td) (nz nw)) (hd : d < m) (h7 : nz nw d = 7) : ∃ f g, F_X0_queueAfresh fr (nI m) ru fp (nI d) = some f ∧ F_X10_waits (upd (upd nw (64 + d) 0) (24 + d) 0) (nI d) = some g ∧ Rl m f g ∧ iU m ru (tT m td) (nz g) ∧ f 96 = fr 96 ∧ g 96 = nw 96 ∧ kD nw g := by
  have hm := hc.1
  have hO := hi.1.1.2.1 d hd
  have ez : nz (rW (upd (upd nw (64 + d) 0) (24 + d) 0) d) = nQ (nz nw) d := by
    rw [rW_nz (by omega), nzO (by omega), nzU (by omega)]
    have t6 := hO.2.2.2.2.2.1 (by rw [h7]; decide)
    funext k; simp only [rW, nQ, nLow, upd]; grind
  have ef : nf (rW (upd (upd nw (64 + d) 0) (24 + d) 0) d) = upd (nf nw) (24 + d) 0 := by
    rw [rW_nf (by omega), nfO (by omega), nfU (by omega)]
  have cz : nz (nQ (upd fr (24 + d) 0) d) = nQ (nz nw) d := by rw [nQ_nz (by omega), nzO (by omega), hr.1]
  have cf : nf (nQ (upd fr (24 + d) 0) d) = upd (nf fr) (24 + d) 0 := by rw [nQ_nf (by omega), nfO (by omega)]
  refine ⟨_, _, ?_, rWaits (by omega), ⟨by rw [cz, ez], fun e he hn => ?_⟩, ?_, ?_, ?_, fun k hk => ?_⟩
  · unfold F_X0_queueAfresh; simp (disch := omega) only [pIx, pCl, pLe, pLt, pEq, pNm, pS1, pA0, pA8, pA16, pA24, pA32, pA40, pA48, pA56, pA64, pA72, pA80, pA88, pBs, pE8, pb0, pb1, pbo, if_true, if_false, pIy, pbq, pNz, pIw, cQueue]
  · have e1 : nQ (upd fr (24 + d) 0) d (24 + e) = nf (nQ (upd fr (24 + d) 0) d) (24 + e) := (nfE (by omega)).symm
    have e2 : rW (upd (upd nw (64 + d) 0) (24 + d) 0) d (24 + e) = nf (rW (upd (upd nw (64 + d) 0) (24 + d) 0) d) (24 + e) := (nfE (by omega)).symm
    rw [e1, e2, cf, ef]
    by_cases ce : e = d
    · subst ce; rw [pUs, pUs]
    · rw [pUn (by omega), pUn (by omega), nfE (by omega), nfE (by omega)]
      apply hr.2 e he
      rw [ez] at hn
      have := nQ_same (N := nz nw) (d := d) (e := e) (j := 0) (by omega) (by omega) ce (by decide)
      simp only [Nat.mul_zero, Nat.zero_add] at this
      rw [this] at hn; exact hn
  · rw [ez]
    exact ⟨nQ_iT hm hi.1 hd (by rw [h7]; decide) (by rw [h7]; decide), hi.2.1.keep hm (fun k h1 h2 => nQ_hp (by omega) (Or.inl ⟨h1, h2⟩)), hi.2.2.keep (nQ_k7 hm hd)⟩
  · have : nQ (upd fr (24 + d) 0) d 96 = nf (nQ (upd fr (24 + d) 0) d) 96 := (nfE (by omega)).symm
    rw [this, cf, pUn (by omega), nfE (by omega)]
  · have : rW (upd (upd nw (64 + d) 0) (24 + d) 0) d 96 = nf (rW (upd (upd nw (64 + d) 0) (24 + d) 0) d) 96 := (nfE (by omega)).symm
    rw [this, ef, pUn (by omega), nfE (by omega)]
  · have : rW (upd (upd nw (64 + d) 0) (24 + d) 0) d k = nf (rW (upd (upd nw (64 + d) 0) (24 + d) 0) d) k := (nfE (by omega)).symm
    rw [this, ef, pUn (by omega), nfE (by omega)]
