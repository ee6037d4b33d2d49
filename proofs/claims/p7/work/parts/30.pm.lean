/-! judging, going on -/
def k6 (m : Nat) (N N' : Nat → Int32) : Prop := ∀ e, e < m → N' e = 6 → N e = 6 ∧ N' (48 + e) = N (48 + e)
theorem k6.tr {m : Nat} {N N' N'' : Nat → Int32} (h : k6 m N N') (h' : k6 m N' N'') : k6 m N N'' := fun e he h6 => by
  obtain ⟨a, b⟩ := h' e he h6
  obtain ⟨a', b'⟩ := h e he a
  exact ⟨a', b.trans b'⟩
theorem wSp.keep {m : Nat} {T : Nat → Nat → Int32} {N N' : Nat → Int32} (hm : m ≤ 8) (h : wSp m T N) (hC : wC m N') (h1 : k6 m N N') (h4 : ∀ e, e < m → N' (32 + e) = N (32 + e)) : wSp m T N' := by
  intro e he h6 c hc hh
  obtain ⟨a, b⟩ := h1 e he h6
  rw [b, h e he a c hc (by rw [← h4 e he]; exact hh)]
  have key : zSpd N c = zSpd N' c := by
    unfold zSpd
    by_cases c8 : c = 8
    · rw [if_pos c8, if_pos c8]
    · rw [if_neg c8, if_neg c8]
      rcases hC e he (Or.inr (Or.inr (Or.inr h6))) with q | ⟨q, hq, q1, q2⟩
      · rw [hh] at q; exact absurd ((nI_eq (a := c) (b := 8) (by omega) (by omega)).mp q) c8
      · rw [hh] at q1
        have := (nI_eq (a := c) (b := q) (by omega) (by omega)).mp q1
        subst this
        exact (h1 c hq q2).2.symm
  unfold zSp
  rw [key]
theorem zSp_congr {T : Nat → Nat → Int32} {N N' : Nat → Int32} {c d : Nat} (h : zSpd N' c = zSpd N c) : zSp T N c d = zSp T N' c d := by unfold zSp; rw [h]
theorem nQ_k6 {m : Nat} {N : Nat → Int32} {d : Nat} (hm : m ≤ 8) (hd : d < m) : k6 m N (nQ N d) := fun e he h6 => by
  by_cases c : e = d
  · subst c; rw [nQ_0 (by omega)] at h6; exact absurd h6 (by decide)
  · have h0 := nQ_same (N := N) (d := d) (e := e) (j := 0) (by omega) (by omega) c (by decide)
    have h48 := nQ_same (N := N) (d := d) (e := e) (j := 6) (by omega) (by omega) c (by decide)
    simp only [Nat.mul_zero, Nat.zero_add, Nat.reduceMul] at h0 h48
    rw [h0] at h6
    exact ⟨h6, h48⟩
theorem nRefuse_k6 {m : Nat} {N : Nat → Int32} {d : Nat} {why : Int32} (hm : m ≤ 8) (hd : d < m) : k6 m N (nRefuse m N d why) := by
  have := pF_inv (g := cRf (nI d)) (fun _ a => k6 m N a) m 0 (nRef0 N d why) (fun i a _ hi hI => ?_) (fun e he h6 => ?_)
  · exact this
  · show k6 m N (cRf (nI d) i a)
    unfold cRf
    split
    · exact hI.tr (nQ_k6 hm (by omega))
    · exact hI
  · by_cases c : e = d
    · subst c; rw [nRef0_0 (by omega)] at h6; exact absurd h6 (by decide)
    · have h0 := nRef0_same (N := N) (why := why) (d := d) (e := e) (j := 0) (by omega) (by omega) c (by decide)
      have h48 := nRef0_same (N := N) (why := why) (d := d) (e := e) (j := 6) (by omega) (by omega) c (by decide)
      simp only [Nat.mul_zero, Nat.zero_add, Nat.reduceMul] at h0 h48
      rw [h0] at h6
      exact ⟨h6, h48⟩
/-- all that holds of the bus -/
def iT (m : Nat) (T : Nat → Nat → Int32) (N : Nat → Int32) : Prop := iN m N ∧ wSp m T N ∧ nz N = N
theorem nQ_iT {m : Nat} {T : Nat → Nat → Int32} {N : Nat → Int32} {d : Nat} (hm : m ≤ 8) (h : iT m T N) (hd : d < m) (h0 : N d ≠ 0) (h6 : N d ≠ 6) : iT m T (nQ N d) := by
  have hi := nQ_iN hm h.1 hd h0 h6
  exact ⟨hi, h.2.1.keep hm hi.2.2 (nQ_k6 hm hd) (fun e he => nQ_32 (by omega) (by omega)), by rw [nQ_nz (by omega), h.2.2]⟩
theorem nRefuse_32 {m : Nat} {N : Nat → Int32} {d : Nat} {why : Int32} (hm : m ≤ 8) (hd : d < m) (h : iN m N) (hz : nz N = N) (h0 : N d ≠ 0) : ∀ c, c < 8 → nRefuse m N d why (32 + c) = N (32 + c) := fun c hc => by
  obtain ⟨-, -, hH, -⟩ := nRefuse_I (why := why) hm hd hz ⟨h.1, h.2.1⟩ h0
  rw [hH c hc, nRef0_32 (by omega) hc]
theorem nRefuse_iT {m : Nat} {T : Nat → Nat → Int32} {N : Nat → Int32} {d : Nat} {why : Int32} (hm : m ≤ 8) (h : iT m T N) (hd : d < m) (h0 : N d ≠ 0) : iT m T (nRefuse m N d why) := by
  have hi := nRefuse_iN (why := why) hm hd h.2.2 h.1 h0
  exact ⟨hi, h.2.1.keep hm hi.2.2 (nRefuse_k6 hm hd) (fun e he => nRefuse_32 hm hd h.1 h.2.2 h0 e (by omega)), by rw [nRefuse_nz hm (by omega), h.2.2]⟩
theorem nFail_iT {m : Nat} {R : Nat → Int32} {T : Nat → Nat → Int32} {N : Nat → Int32} {d : Nat} {v : Int32} (hm : m ≤ 8) (h : iT m T N) (hd : d < m) (h0 : N d ≠ 0) (h6 : N d ≠ 6) : iT m T (nFail m R N d v) := by
  unfold nFail
  split
  · exact nQ_iT hm h hd h0 h6
  · exact nRefuse_iT hm h hd h0
theorem nSt_iT {m : Nat} {T : Nat → Nat → Int32} {N : Nat → Int32} {d : Nat} (hm : m ≤ 8) (h : iT m T N) (hd : d < m) : iT m T (nSt d N) := by
  have hi := nSt_iN hm h.1 hd
  refine ⟨hi, h.2.1.keep hm hi.2.2 (fun e he h6 => ?_) (fun e he => ?_), by rw [nSt_nz (by omega), h.2.2]⟩
  · unfold nSt at h6 ⊢
    by_cases c : N d = 1
    · rw [if_pos c] at h6 ⊢
      by_cases c2 : 0 < N (8 + d) - 1
      · rw [if_pos c2] at h6 ⊢
        rw [pUn (by omega)] at h6 ⊢
        exact ⟨h6, rfl⟩
      · rw [if_neg c2, nQ_upd8 (by omega)] at h6 ⊢
        exact nQ_k6 hm hd e he h6
    · rw [if_neg c] at h6 ⊢; exact ⟨h6, rfl⟩
  · unfold nSt
    split
    · split
      · exact pUn (by omega)
      · rw [nQ_32 (by omega) (by omega), pUn (by omega)]
    · rfl
theorem nSettle_iT {m : Nat} {T : Nat → Nat → Int32} {N : Nat → Int32} (hm : m ≤ 8) (h : iT m T N) : iT m T (nSettle m N) :=
  pF_inv (g := nSt) (fun _ a => iT m T a) m 0 N (fun i a _ hi hI => nSt_iT hm hI (by omega)) h
def nConf (f : Nat → Int32) (d : Nat) (a sp : Int32) : Nat → Int32 := upd (upd (nLow f d 6) (56 + d) a) (48 + d) sp
theorem nConf_nz {f : Nat → Int32} {d : Nat} {a sp : Int32} (hd : d < 8) : nz (nConf f d a sp) = nConf (nz f) d a sp := by
  unfold nConf; simp (disch := omega) only [nzU, nLow_nz]
theorem nConf_nf {f : Nat → Int32} {d : Nat} {a sp : Int32} (hd : d < 8) : nf (nConf f d a sp) = nf f := by
  unfold nConf; simp (disch := omega) only [nfU, nLow_nf]
theorem nConf_same {N : Nat → Int32} {d e j : Nat} {a sp : Int32} (hd : d < 8) (he : e < 8) (hn : e ≠ d) (hj : j < 12) : nConf N d a sp (8 * j + e) = N (8 * j + e) := by
  simp only [nConf, nLow, upd]; grind
theorem nConf_32 {N : Nat → Int32} {d c : Nat} {a sp : Int32} (hd : d < 8) (hc : c < 8) : nConf N d a sp (32 + c) = N (32 + c) := by simp only [nConf, nLow, upd]; grind
theorem nConf_0 {N : Nat → Int32} {d : Nat} {a sp : Int32} (hd : d < 8) : nConf N d a sp d = 6 := by simp only [nConf, nLow, upd]; grind
theorem nConf_48 {N : Nat → Int32} {d : Nat} {a sp : Int32} (hd : d < 8) : nConf N d a sp (48 + d) = sp := by simp only [nConf, nLow, upd]; grind
theorem nConf_iT {m : Nat} {T : Nat → Nat → Int32} {N : Nat → Int32} {d c : Nat} {a : Int32} (hm : m ≤ 8) (hT : wT m T) (h : iT m T N) (hd : d < m) (h5 : N d = 5) (hc : c ≤ 8) (hh : N (32 + d) = nI c) (hc6 : c = 8 ∨ (c < m ∧ N c = 6)) : iT m T (nConf N d a (zSp T N c d)) := by
  have hs3 := zSp_3 (N := N) (c := c) hT hd
  have hO := h.1.2.1 d hd
  have k0 : ∀ e, e < m → e ≠ d → nConf N d a (zSp T N c d) e = N e := fun e he hn => by
    have := nConf_same (N := N) (a := a) (sp := zSp T N c d) (d := d) (e := e) (j := 0) (by omega) (by omega) hn (by decide); simpa using this
  have k48 : ∀ e, e < m → e ≠ d → nConf N d a (zSp T N c d) (48 + e) = N (48 + e) := fun e he hn => nConf_same (j := 6) (by omega) (by omega) hn (by decide)
  have hi : iN m (nConf N d a (zSp T N c d)) := by
    refine iN.one hm h.1 hd (fun e j he hn hj => nConf_same (by omega) (by omega) hn hj) (by rw [h5]; decide) (by rw [nConf_0 (by omega)]; decide) (nConf_32 (by omega) (by omega)) ?_ (fun _ => h.1.2.2 d hd (by rw [h5]; exact Or.inr (Or.inr (Or.inl rfl)))) (fun q => by rw [h5] at q; exact absurd q (by decide))
    have e1 : nConf N d a (zSp T N c d) (8 + d) = 0 := by simp only [nConf, nLow, upd]; grind
    have e2 : nConf N d a (zSp T N c d) (16 + d) = 0 := by simp only [nConf, nLow, upd]; grind
    have e8 : nConf N d a (zSp T N c d) (64 + d) = 0 := by simp only [nConf, nLow, upd]; grind
    have e9 : nConf N d a (zSp T N c d) (72 + d) = N (72 + d) := by simp only [nConf, nLow, upd]; grind
    have e11 : nConf N d a (zSp T N c d) (88 + d) = 0 := by simp only [nConf, nLow, upd]; grind
    unfold dOK
    rw [nConf_0 (by omega), e1, e2, nConf_48 (by omega), e8, e9, e11]
    exact ⟨⟨6, by decide, rfl⟩, fun q => absurd q (by decide), fun q => absurd q (by decide), fun _ => rfl, fun _ => rfl, fun q => absurd rfl q, fun _ => ⟨hs3, Or.inl rfl⟩, fun _ => rfl, hO.2.2.2.2.2.2.2.2⟩
  refine ⟨hi, fun e he h6 b hb hhb => ?_, by rw [nConf_nz (by omega), h.2.2]⟩
  rw [nConf_32 (by omega) (by omega)] at hhb
  by_cases ce : e = d
  · subst ce
    rw [hh] at hhb
    have := (nI_eq (a := c) (b := b) (by omega) (by omega)).mp hhb
    subst this
    rw [nConf_48 (by omega)]
    have : zSpd (nConf N e a (zSp T N c e)) c = zSpd N c := by
      unfold zSpd
      rcases hc6 with q | ⟨q1, q2⟩
      · rw [if_pos q, if_pos q]
      · rw [if_neg (by omega), if_neg (by omega), k48 c q1 (fun q => by subst q; rw [h5] at q2; exact absurd q2 (by decide))]
    exact zSp_congr this
  · rw [k0 e he ce] at h6
    rw [k48 e he ce, h.2.1 e he h6 b hb hhb]
    have : zSpd (nConf N d a (zSp T N c d)) b = zSpd N b := by
      unfold zSpd
      by_cases c8 : b = 8
      · rw [if_pos c8, if_pos c8]
      · rw [if_neg c8, if_neg c8]
        rcases h.1.2.2 e he (Or.inr (Or.inr (Or.inr h6))) with q | ⟨q, hq, q1, q2⟩
        · rw [hhb] at q; exact absurd ((nI_eq (a := b) (b := 8) (by omega) (by omega)).mp q) c8
        · rw [hhb] at q1
          have := (nI_eq (a := b) (b := q) (by omega) (by omega)).mp q1
          subst this
          exact k48 b hq (fun q => by subst q; rw [h5] at q2; exact absurd q2 (by decide))
    exact zSp_congr this
def nJudge (m t : Nat) (R : Nat → Int32) (T : Nat → Nat → Int32) (N : Nat → Int32) (d c : Nat) : Nat → Int32 := if zWhy m t R T N d c = 0 then nConf N d (zAddr m t N) (zSp T N c d) else nRefuse m N d (zWhy m t R T N d c)
theorem nJudge_iT {m t : Nat} {R : Nat → Int32} {T : Nat → Nat → Int32} {N : Nat → Int32} {d c : Nat} (hm : m ≤ 8) (hT : wT m T) (h : iT m T N) (hd : d < m) (h5 : N d = 5) (hc : c ≤ 8) (hh : N (32 + d) = nI c) (hc6 : c = 8 ∨ (c < m ∧ N c = 6)) : iT m T (nJudge m t R T N d c) := by
  unfold nJudge
  split
  · exact nConf_iT hm hT h hd h5 hc hh hc6
  · exact nRefuse_iT hm h hd (by rw [h5]; decide)
theorem who_congr {m : Nat} {N N' : Nat → Int32} {d : Nat} {z : Int32} (h : ∀ e, e < m → e ≠ d → N' e = N e ∧ N' (56 + e) = N (56 + e)) (h1 : N' (56 + d) = 0) (h2 : N d ≠ 6) (hz : z ≠ 0) : zWho m N' z = zWho m N z := by
  unfold zWho
  refine pFd_congr m 0 (fun e _ he => ?_)
  by_cases c : e = d
  · subst c
    have : ¬ (0 : Int32) = z := fun q => hz q.symm
    simp [h1, h2, this]
  · obtain ⟨a, b⟩ := h e (by omega) c
    rw [a, b]
theorem addr_congr {m t : Nat} {N N' : Nat → Int32} {d : Nat} (ht : t ≤ 200) (h : ∀ e, e < m → e ≠ d → N' e = N e ∧ N' (56 + e) = N (56 + e)) (h1 : N' (56 + d) = 0) (h2 : N d ≠ 6) : zAddr m t N' = zAddr m t N := by
  unfold zAddr
  refine pFd_congr t 1 (fun a h3 h4 => ?_)
  rw [who_congr h h1 h2 (by rw [Ne, pE0z (by omega)]; omega)]
theorem cConclude {m t : Nat} {fr fu fp : Nat → Int32} {d c : Nat} (hm : m ≤ 8) (hR : wRu fu t) (hi : iN m (nz fr)) (hd : d < m) (h5 : nz fr d = 5) (hc : c ≤ 8) (hh : nz fr (32 + d) = nI c) (hc6 : c = 8 ∨ (c < m ∧ nz fr c = 6)) : ∃ f, F_X0_conclude fr (nI m) fu fp (nI d) (zWhy m t fu (tP m fp) (nz fr) d c) = some f ∧ nz f = nJudge m t fu (tP m fp) (nz fr) d c ∧ nf f = nf fr := by
  unfold F_X0_conclude nJudge
  by_cases c0 : zWhy m t fu (tP m fp) (nz fr) d c = 0
  · rw [if_pos c0, if_pos c0]
    have ht := hR.1
    have e1 : nz (nLow fr d 6) = nLow (nz fr) d 6 := nLow_nz (by omega)
    have s0 : ∀ e, e < m → e ≠ d → nLow (nz fr) d 6 e = nz fr e ∧ nLow (nz fr) d 6 (56 + e) = nz fr (56 + e) := fun e he hn => by
      constructor <;> simp (disch := omega) only [nLow, pUn]
    have s1 : nLow (nz fr) d 6 (56 + d) = 0 := by simp only [nLow, upd]; grind
    have ha : wAd m (nz (nLow fr d 6)) := fun e he h6 => by
      rw [e1] at h6 ⊢
      by_cases ce : e = d
      · subst ce; exact s1
      · rw [(s0 e he ce).1] at h6
        rw [(s0 e he ce).2]; exact hi.ad e he h6
    have ead := addr_congr (t := t) (by omega) s0 s1 (by rw [h5]; decide)
    have hh2 : nz (upd (nLow fr d 6) (56 + d) (zAddr m t (nz fr))) (32 + d) = nI c := by
      rw [nzU (by omega), e1, ← hh]; simp only [nLow, upd]; grind
    have hsp : zSp (tP m fp) (nz (upd (nLow fr d 6) (56 + d) (zAddr m t (nz fr)))) c d = zSp (tP m fp) (nz fr) c d := by
      have : zSpd (nz (upd (nLow fr d 6) (56 + d) (zAddr m t (nz fr)))) c = zSpd (nz fr) c := by
        rw [nzU (by omega), e1]
        unfold zSpd
        rcases hc6 with q | ⟨q1, q2⟩
        · rw [if_pos q, if_pos q]
        · rw [if_neg (by omega), if_neg (by omega)]
          have : c ≠ d := fun q => by subst q; rw [h5] at q2; exact absurd q2 (by decide)
          simp only [nLow, upd]; grind
      unfold zSp; rw [this]
    simp (disch := omega) only [pIx, pCl, pLe, pLt, pEq, pNm, pS1, pA0, pA8, pA16, pA24, pA32, pA40, pA48, pA56, pA64, pA72, pA80, pA88, pBs, pE8, pb0, pb1, pbo, if_true, if_false, pIy, pbq, pNz, pIw, cLower, cAddr (fr := nLow fr d 6) hm (by omega : t ≤ 200) hR.2.1 ha]
    rw [e1, ead, cSpeed hm (by omega) hc hh2, hsp]
    exact ⟨nConf fr d (zAddr m t (nz fr)) (zSp (tP m fp) (nz fr) c d), rfl, nConf_nz (by omega), nConf_nf (by omega)⟩
  · rw [if_neg c0, if_neg c0, cRefuse hm (by omega), pBs]
    exact ⟨_, rfl, nRefuse_nz hm (by omega), nRefuse_nf hm (by omega)⟩
theorem zWhy_le {m t : Nat} {R : Nat → Int32} {T : Nat → Nat → Int32} {N : Nat → Int32} {d c : Nat} : zWhy m t R T N d c ≤ 0 ↔ zWhy m t R T N d c = 0 := by
  unfold zWhy
  split
  · split
    · decide
    · split
      · split <;> decide
      · decide
  · decide
theorem rJudges {m t : Nat} {ru td nw : Nat → Int32} {d c : Nat} (hm : m ≤ 8) (hR : wRu ru t) (hT : wT m (tT m td)) (hi : iN m (nz nw)) (hd : d < m) (h5 : nz nw d = 5) (hc : c ≤ 8) (hh : nz nw (32 + d) = nI c) (hc6 : c = 8 ∨ (c < m ∧ nz nw c = 6)) : ∃ f, F_X10_judges (nI m) ru td nw (nI d) = some f ∧ nz f = nJudge m t ru (tT m td) (nz nw) d c ∧ nf f = nf nw := by
  have ht := hR.1
  have hh' : nw (32 + d) = nI c := by rw [← hh, pNz (by omega)]
  unfold F_X10_judges nJudge
  rw [rWhy hm hR hT hi hd h5 hc hh hc6, pBs]
  simp only [zWhy_le]
  by_cases c0 : zWhy m t ru (tT m td) (nz nw) d c = 0
  · rw [if_pos c0, if_pos c0]
    have hs : zSpd (nz (upd (upd nw d 6) (56 + d) (zAddr m t (nz nw)))) c = zSpd (nz nw) c := by
      rw [nzU (by omega), nzU (by omega)]
      unfold zSpd
      rcases hc6 with q | ⟨q1, q2⟩
      · rw [if_pos q, if_pos q]
      · rw [if_neg (by omega), if_neg (by omega)]
        have : c ≠ d := fun q => by subst q; rw [h5] at q2; exact absurd q2 (by decide)
        simp only [upd]; grind
    simp (disch := omega) only [pIx, pCl, pLe, pLt, pEq, pNm, pS1, pA0, pA8, pA16, pA24, pA32, pA40, pA48, pA56, pA64, pA72, pA80, pA88, pBs, pE8, pb0, pb1, pbo, if_true, if_false, pIy, pbq, pNz, pIw, hh', rAddr hm (by omega : t ≤ 200) hR.2.1, rSpeed, hs, rTold1 (m := m)]
    have hO := hi.2.1 d hd
    have e1 : nz nw (8 + d) = 0 := hO.2.2.2.1 (by rw [h5]; decide)
    have e2 : nz nw (16 + d) = 0 := hO.2.2.2.2.1 (by rw [h5]; decide)
    have e6 := hO.2.2.2.2.2.1 (by rw [h5]; decide)
    have e8 : nz nw (64 + d) = 0 := hO.2.2.2.2.2.2.2.1 (by rw [h5]; decide)
    refine ⟨upd (upd (upd nw d 6) (56 + d) (zAddr m t (nz nw))) (48 + d) (zSp (tT m td) (nz nw) c d), ?_, ?_, ?_⟩
    · unfold zSp
      by_cases cs : zSpd (nz nw) c = 2
      · rw [if_pos cs, if_pos cs]
      · rw [if_neg cs, if_neg cs]
    · rw [nzU (by omega), nzU (by omega), nzU (by omega)]
      funext k; simp only [nConf, nLow, upd]; grind
    · rw [nfU (by omega), nfU (by omega), nfU (by omega)]
  · rw [if_neg c0, if_neg c0]
    obtain ⟨f, h1, h2, h3⟩ := rRefuses (nw := nw) (why := zWhy m t ru (tT m td) (nz nw) d c) hm hi hd (by rw [h5]; decide)
    exact ⟨f, by rw [h1, pBs], h2, h3⟩
