section
/-! what a tick leaves; ports; plugging -/
def hpK (k : Nat) : Prop := (32 ≤ k ∧ k < 48) ∨ (72 ≤ k ∧ k < 88)
theorem nQ_hp {N : Nat → Int32} {d k : Nat} (hd : d < 8) (hk : hpK k) : nQ N d k = N k := by
  unfold hpK at hk; simp (disch := omega) only [nQ, nLow, pUn]
theorem nRefuse_hp {m : Nat} {N : Nat → Int32} {d k : Nat} {why : Int32} (hm : m ≤ 8) (hd : d < 8) (hk : hpK k) : nRefuse m N d why k = N k := by
  unfold nRefuse
  have := pF_const (φ := fun f : Nat → Int32 => f k) (g := cRf (nI d)) m 0 (nRef0 N d why) (fun i a _ hi => by
    show cRf (nI d) i a k = a k
    unfold cRf
    split
    · exact nQ_hp (by omega) hk
    · rfl)
  refine this.trans ?_
  unfold hpK at hk
  simp (disch := omega) only [nRef0, nLow, pUn]
theorem nSettle_hp {m : Nat} {N : Nat → Int32} {k : Nat} (hm : m ≤ 8) (hk : hpK k) : nSettle m N k = N k :=
  pF_const (φ := fun f : Nat → Int32 => f k) m 0 N (fun i a _ hi => by
    show nSt i a k = a k
    unfold nSt
    have hk' := hk; unfold hpK at hk'
    split
    · split
      · exact pUn (by omega)
      · rw [nQ_hp (by omega) hk]; exact pUn (by omega)
    · rfl)
theorem nGo_hp {m t : Nat} {R : Nat → Int32} {T : Nat → Nat → Int32} {N : Nat → Int32} {d k : Nat} {v : Int32} (hm : m ≤ 8) (hd : d < 8) (hk : hpK k) : nGo m t R T N d v k = N k := by
  have hf : nFail m R N d v k = N k := by
    unfold nFail; split
    · exact nQ_hp hd hk
    · exact nRefuse_hp hm hd hk
  have hk' := hk; unfold hpK at hk'
  unfold nGo
  split
  · rw [pUn (by omega), pUn (by omega)]
  · split
    · split
      · exact pUn (by omega)
      · exact hf
    · split
      · unfold nJudge; split
        · simp (disch := omega) only [nConf, nLow, pUn]
        · exact nRefuse_hp hm hd hk
      · exact hf
theorem zGone_hp {m t : Nat} {R : Nat → Int32} {T : Nat → Nat → Int32} {N : Nat → Int32} {v : Int32} {k : Nat} (hm : m ≤ 8) (hk : hpK k) : zGone m t R T N v k = N k := by
  unfold zGone
  rcases zS_c m N with q | ⟨d, hd, q, hb⟩
  · rw [if_pos q, nSettle_hp hm hk]
  · rw [q, if_neg (by rw [pNm (by omega)]; exact id), pCl (by omega), nGo_hp hm (by omega) hk, nSettle_hp hm hk]
theorem nTail_hp {m : Nat} {R N : Nat → Int32} {k : Nat} (hm : m ≤ 8) (hk : hpK k) : nTail m R N k = N k := by
  unfold nTail
  split
  · split
    · rfl
    · rename_i h
      rcases next_q (m := m) (N := nz N) with q | ⟨q, hq, e, -⟩
      · exact absurd q h
      · unfold hpK at hk
        rw [e, pCl (by omega)]; simp (disch := omega) only [nLow, pUn]
  · rfl
theorem zTk_hp {m t : Nat} {R : Nat → Int32} {T : Nat → Nat → Int32} {N : Nat → Int32} {v : Int32} {k : Nat} (hm : m ≤ 8) (hk : hpK k) : zTk m t R T N v k = N k := by
  unfold zTk; rw [nTail_hp hm hk, zGone_hp hm hk]
/-- ports as they are told -/
def wPt (m : Nat) (R : Nat → Int32) (T : Nat → Nat → Int32) (N : Nat → Int32) : Prop := ∀ d, d < m → N (32 + d) ≠ -1 → ∃ h p, N (32 + d) = nI h ∧ N (40 + d) = nI p ∧ p < 4 ∧ ((h = 8 ∧ nI p < R 0) ∨ (h < m ∧ nI p < T h 0))
theorem wPt.keep {m : Nat} {R : Nat → Int32} {T : Nat → Nat → Int32} {N N' : Nat → Int32} (hm : m ≤ 8) (h : wPt m R T N) (hk : ∀ k, 32 ≤ k → k < 48 → N' k = N k) : wPt m R T N' := fun d hd => by
  rw [hk (32 + d) (by omega) (by omega), hk (40 + d) (by omega) (by omega)]; exact h d hd
/-! addresses: in their bounds, each but once -/
def k7 (m : Nat) (N N' : Nat → Int32) : Prop := ∀ e, e < m → N' e = 6 → N e = 6 ∧ N' (56 + e) = N (56 + e)
theorem k7.tr {m : Nat} {N N' N'' : Nat → Int32} (h : k7 m N N') (h' : k7 m N' N'') : k7 m N N'' := fun e he h6 => by
  obtain ⟨a, b⟩ := h' e he h6
  obtain ⟨c, d⟩ := h e he a
  exact ⟨c, b.trans d⟩
theorem k7_one {m d : Nat} {N N' : Nat → Int32} (h6 : N' d ≠ 6) (h : ∀ e, e < m → e ≠ d → N' e = N e ∧ N' (56 + e) = N (56 + e)) : k7 m N N' := fun e he q => by
  by_cases c : e = d
  · subst c; exact absurd q h6
  · obtain ⟨a, b⟩ := h e he c
    exact ⟨by rw [← a]; exact q, b⟩
theorem nQ_k7 {m : Nat} {N : Nat → Int32} {d : Nat} (hm : m ≤ 8) (hd : d < m) : k7 m N (nQ N d) := by
  refine k7_one (d := d) (by rw [nQ_0 (by omega)]; decide) (fun e he c => ?_)
  have h0 := nQ_same (N := N) (d := d) (e := e) (j := 0) (by omega) (by omega) c (by decide)
  have h7 := nQ_same (N := N) (d := d) (e := e) (j := 7) (by omega) (by omega) c (by decide)
  simp only [Nat.mul_zero, Nat.zero_add, Nat.reduceMul] at h0 h7
  exact ⟨h0, h7⟩
theorem nRefuse_k7 {m : Nat} {N : Nat → Int32} {d : Nat} {why : Int32} (hm : m ≤ 8) (hd : d < m) : k7 m N (nRefuse m N d why) := by
  have := pF_inv (g := cRf (nI d)) (fun _ a => k7 m N a) m 0 (nRef0 N d why) (fun i a _ hi hI => ?_) (k7_one (d := d) (by rw [nRef0_0 (by omega)]; decide) (fun e he c => ?_))
  · exact this
  · show k7 m N (cRf (nI d) i a)
    unfold cRf
    split
    · exact hI.tr (nQ_k7 hm (by omega))
    · exact hI
  · have h0 := nRef0_same (N := N) (why := why) (d := d) (e := e) (j := 0) (by omega) (by omega) c (by decide)
    have h7 := nRef0_same (N := N) (why := why) (d := d) (e := e) (j := 7) (by omega) (by omega) c (by decide)
    simp only [Nat.mul_zero, Nat.zero_add, Nat.reduceMul] at h0 h7
    exact ⟨h0, h7⟩
theorem nSt_k7 {m : Nat} {N : Nat → Int32} {d : Nat} (hm : m ≤ 8) (hd : d < m) : k7 m N (nSt d N) := by
  have h8 : ∀ v, k7 m N (upd N (8 + d) v) := fun v e he q => by
    rw [pUn (by omega)] at q; exact ⟨q, pUn (by omega)⟩
  unfold nSt
  split
  · split
    · exact h8 _
    · exact (h8 _).tr (nQ_k7 hm hd)
  · exact fun e he q => ⟨q, rfl⟩
theorem nSettle_k7 {m : Nat} {N : Nat → Int32} (hm : m ≤ 8) : k7 m N (nSettle m N) := by
  have := pF_inv (g := nSt) (fun _ a => k7 m N a) m 0 N (fun i a _ hi hI => hI.tr (nSt_k7 hm (by omega))) (fun e he q => ⟨q, rfl⟩)
  exact this
theorem nFail_k7 {m : Nat} {R N : Nat → Int32} {d : Nat} {v : Int32} (hm : m ≤ 8) (hd : d < m) : k7 m N (nFail m R N d v) := by
  unfold nFail
  split
  · exact nQ_k7 hm hd
  · exact nRefuse_k7 hm hd
theorem nTail_k7 {m : Nat} {R N : Nat → Int32} (hm : m ≤ 8) : k7 m N (nTail m R N) := by
  unfold nTail
  split
  · split
    · exact fun e he q => ⟨q, rfl⟩
    · rename_i h
      rcases next_q (m := m) (N := nz N) with q | ⟨q, hq, e, -⟩
      · exact absurd q h
      · rw [e, pCl (by omega)]
        refine k7_one (d := q) ?_ (fun e he c => ⟨by simp (disch := omega) only [nLow, pUn], by simp (disch := omega) only [nLow, pUn]⟩)
        have : upd (nLow N q 3) (8 + q) (R 2) q = 3 := by simp only [nLow, upd]; grind
        rw [this]; decide
  · exact fun e he q => ⟨q, rfl⟩
def wAdr (m : Nat) (R N : Nat → Int32) : Prop := (∀ d, d < m → N d = 6 → ∃ a, 1 ≤ a ∧ a ≤ 9 ∧ nI a ≤ R 7 ∧ N (56 + d) = nI a) ∧ ∀ d e, d < m → e < m → N d = 6 → N e = 6 → N (56 + d) = N (56 + e) → d = e
theorem wAdr.keep {m : Nat} {R N N' : Nat → Int32} (h : wAdr m R N) (hk : k7 m N N') : wAdr m R N' := by
  refine ⟨fun d hd q => ?_, fun d e hd he q1 q2 q3 => ?_⟩
  · obtain ⟨a, b⟩ := hk d hd q
    rw [b]; exact h.1 d hd a
  · obtain ⟨a1, b1⟩ := hk d hd q1
    obtain ⟨a2, b2⟩ := hk e he q2
    rw [b1, b2] at q3
    exact h.2 d e hd he a1 a2 q3
theorem nGo_adr {m t : Nat} {R : Nat → Int32} {T : Nat → Nat → Int32} {N : Nat → Int32} {d : Nat} {v : Int32} (hm : m ≤ 8) (hR : wRu R t) (h : wAdr m R N) (hd : d < m) : wAdr m R (nGo m t R T N d v) := by
  unfold nGo
  split
  · refine h.keep (k7_one (d := d) ?_ (fun e he c => ⟨by rw [pUn c, pUn (by omega)], by rw [pUn (by omega), pUn (by omega)]⟩))
    rw [pUs]; split <;> decide
  · split
    · split
      · exact h.keep (k7_one (d := d) (by rw [pUs]; decide) (fun e he c => ⟨pUn c, pUn (by omega)⟩))
      · exact h.keep (nFail_k7 hm hd)
    · split
      · unfold nJudge
        split
        · rename_i hw
          obtain ⟨ht, eR, -⟩ := hR
          have hne : zAddr m t N ≠ -1 := fun q => by
            unfold zWhy at hw
            rw [if_pos q] at hw
            by_cases cd : zDepth N d ≤ 4
            · rw [if_pos cd] at hw; exact absurd hw (by decide)
            · rw [if_neg cd] at hw; exact absurd hw (by decide)
          rcases pFd_cases (fun a => decide (zWho m N (nI a) = -1)) t 1 with ⟨q, -⟩ | ⟨a, a1, a2, a3, a4, -⟩
          · exact absurd q hne
          · have ea : zAddr m t N = nI a := a3
            have hno : ∀ e, e < m → N e = 6 → N (56 + e) ≠ nI a := fun e he q w => by
              have h4 : zWho m N (nI a) = -1 := by simpa using a4
              rcases pFd_cases (fun d => decide (N d = 6) && decide (N (56 + d) = nI a)) m 0 with ⟨-, g⟩ | ⟨i, -, i2, i3, -, -⟩
              · have := g e (by omega) (by omega)
                simp [q, w] at this
              · unfold zWho at h4; rw [i3, pNm (by omega)] at h4; exact h4
            rw [ea]
            have c0 : nConf N d (nI a) (zSp T N (N (32 + d)).toNatClampNeg d) (56 + d) = nI a := by simp only [nConf, nLow, upd]; grind
            have co : ∀ e, e < m → e ≠ d → nConf N d (nI a) (zSp T N (N (32 + d)).toNatClampNeg d) e = N e ∧ nConf N d (nI a) (zSp T N (N (32 + d)).toNatClampNeg d) (56 + e) = N (56 + e) := fun e he c => ⟨by simp (disch := omega) only [nConf, nLow, pUn], by simp (disch := omega) only [nConf, nLow, pUn]⟩
            refine ⟨fun e he q => ?_, fun e f he hf q1 q2 q3 => ?_⟩
            · by_cases c : e = d
              · subst c; exact ⟨a, a1, by omega, by rw [eR, pLe (by omega) (by omega)]; omega, c0⟩
              · obtain ⟨o1, o2⟩ := co e he c
                rw [o1] at q; rw [o2]; exact h.1 e he q
            · by_cases c : e = d
              · by_cases c2 : f = d
                · rw [c, c2]
                · obtain ⟨o1, o2⟩ := co f hf c2
                  rw [o1] at q2; rw [c, c0, o2] at q3
                  exact absurd q3.symm (hno f hf q2)
              · obtain ⟨o1, o2⟩ := co e he c
                rw [o1] at q1; rw [o2] at q3
                by_cases c2 : f = d
                · rw [c2, c0] at q3; exact absurd q3 (hno e he q1)
                · obtain ⟨p1, p2⟩ := co f hf c2
                  rw [p1] at q2; rw [p2] at q3
                  exact h.2 e f he hf q1 q2 q3
        · exact h.keep (nRefuse_k7 hm hd)
      · exact h.keep (nFail_k7 hm hd)
theorem zTk_adr {m t : Nat} {R : Nat → Int32} {T : Nat → Nat → Int32} {N : Nat → Int32} {v : Int32} (hm : m ≤ 8) (hR : wRu R t) (h : wAdr m R N) : wAdr m R (zTk m t R T N v) := by
  unfold zTk
  refine wAdr.keep ?_ (nTail_k7 hm)
  unfold zGone
  rcases zS_c m N with q | ⟨d, hd, q, hb⟩
  · rw [if_pos q]; exact h.keep (nSettle_k7 hm)
  · rw [q, if_neg (by rw [pNm (by omega)]; exact id), pCl (by omega)]
    exact nGo_adr hm hR (h.keep (nSettle_k7 hm)) hd
def iU (m : Nat) (R : Nat → Int32) (T : Nat → Nat → Int32) (N : Nat → Int32) : Prop := iT m T N ∧ wPt m R T N ∧ wAdr m R N
theorem zTk_iU {m t : Nat} {R : Nat → Int32} {T : Nat → Nat → Int32} {N : Nat → Int32} {v : Int32} (hm : m ≤ 8) (hR : wRu R t) (hT : wT m T) (h : iU m R T N) : iU m R T (zTk m t R T N v) :=
  ⟨zTk_iT hm hR hT h.1, h.2.1.keep hm (fun k h1 h2 => zTk_hp hm (Or.inl ⟨h1, h2⟩)), zTk_adr hm hR h.2.2⟩
/-- who is away, by its hub -/
theorem away_hub {m : Nat} {N : Nat → Int32} {d : Nat} (hm : m ≤ 8) (h : iN m N) (hd : d < m) : N d = 0 ↔ N (32 + d) = -1 := by
  refine ⟨fun h0 => h.f d hd h0, fun h1 => ?_⟩
  refine Decidable.byContradiction (fun h0 => ?_)
  obtain ⟨c, hc, e⟩ := h.h hm d hd h0
  rw [h1] at e
  have := pNm (a := c) (by omega)
  rw [← this]; exact e.symm
/-! a list with one more, and with some less -/
theorem wSp.keep' {m : Nat} {T : Nat → Nat → Int32} {N N' : Nat → Int32} (hm : m ≤ 8) (h : wSp m T N) (hC : wC m N') (h1 : k6 m N N') (h4 : ∀ e, e < m → N' e = 6 → N' (32 + e) = N (32 + e)) : wSp m T N' := by
  intro e he h6 c hc hh
  obtain ⟨a, b⟩ := h1 e he h6
  rw [b, h e he a c hc (by rw [← h4 e he h6]; exact hh)]
  have key : zSpd N c = zSpd N' c := by
    unfold zSpd
    by_cases c8 : c = 8
    · rw [if_pos c8, if_pos c8]
    · rw [if_neg c8, if_neg c8]
      rcases hC e he (Or.inr (Or.inr (Or.inr h6))) with q | ⟨q, hq, q1, q2⟩
      · rw [hh] at q; exact absurd ((nI_eq (a := c) (b := 8) (by omega) (by omega)).mp q) c8
      · rw [hh] at q1
        have := (nI_eq (a := c) (b := q) (by omega) (by omega)).mp q1
        subst this
        exact (h1 c hq q2).2.symm
  unfold zSp
  rw [key]
theorem idx_filter {p : Nat → Bool} {a b : Nat} (ha : p a = true) (hb : p b = true) : ∀ (L : List Nat), a ∈ L → L.idxOf a < L.idxOf b → (L.filter p).idxOf a < (L.filter p).idxOf b
  | [], h, _ => absurd h (by simp)
  | x :: L, h, hl => by
    rw [List.idxOf_cons, List.idxOf_cons] at hl
    by_cases c : p x = true
    · rw [List.filter_cons_of_pos c, List.idxOf_cons, List.idxOf_cons]
      by_cases xa : x = a
      · subst xa
        by_cases xb : x = b
        · subst xb; simp at hl
        · have e2 : (x == b) = false := by simpa using xb
          simp [e2]
      · by_cases xb : x = b
        · subst xb; simp at hl
        · have hm : a ∈ L := by
            rcases List.mem_cons.mp h with q | q
            · exact absurd q.symm xa
            · exact q
          have e1 : (x == a) = false := by simpa using xa
          have e2 : (x == b) = false := by simpa using xb
          rw [e1, e2] at hl ⊢
          simp only [cond_false] at hl ⊢
          have := idx_filter ha hb L hm (by omega)
          omega
    · rw [List.filter_cons_of_neg c]
      have xa : x ≠ a := fun q => c (q ▸ ha)
      have xb : x ≠ b := fun q => c (q ▸ hb)
      have hm : a ∈ L := by
        rcases List.mem_cons.mp h with q | q
        · exact absurd q.symm xa
        · exact q
      have e1 : (x == a) = false := by simpa using xa
      have e2 : (x == b) = false := by simpa using xb
      rw [e1, e2] at hl
      simp only [cond_false] at hl
      exact idx_filter ha hb L hm (by omega)
theorem idx_app {L : List Nat} {a d : Nat} (ha : a ∈ L) : (L ++ [d]).idxOf a = L.idxOf a := by
  rw [List.idxOf_append, if_pos ha]
theorem idx_app' {L : List Nat} {d : Nat} (hd : d ∉ L) : (L ++ [d]).idxOf d = L.length := by
  rw [List.idxOf_append, if_neg hd]; simp
/-! plugging -/
def nPlug (R f : Nat → Int32) (d : Nat) (z z2 : Int32) : Nat → Int32 := upd (upd (upd (nLow f d 1) (8 + d) (R 1)) (32 + d) z) (40 + d) z2
theorem cPlug {m : Nat} {fr fu fp : Nat → Int32} {d : Nat} {z z2 : Int32} (hd : d < 8) : ∃ f, F_X0_putIn fr (nI m) fu fp (nI d) z z2 = some f ∧ nz f = nPlug fu (nz fr) d z z2 ∧ nf f = upd (nf fr) (24 + d) 0 := by
  unfold F_X0_putIn
  simp (disch := omega) only [pIx, pCl, pLe, pLt, pEq, pNm, pS1, pA0, pA8, pA16, pA24, pA32, pA40, pA48, pA56, pA64, pA72, pA80, pA88, pBs, pE8, pb0, pb1, pbo, if_true, if_false, pIy, pbq, pNz, pIw, cLower]
  refine ⟨_, rfl, ?_, ?_⟩
  · rw [nzU (by omega), nzU (by omega), nzO (by omega), nzU (by omega), nLow_nz (by omega)]; rfl
  · rw [nfU (by omega), nfU (by omega), nfO (by omega), nfU (by omega), nLow_nf (by omega)]
theorem nPlug_same {R N : Nat → Int32} {d k : Nat} {z z2 : Int32} (hd : d < 8) (hk : ∀ j, j < 12 → k ≠ 8 * j + d) : nPlug R N d z z2 k = N k := by
  have h0 := hk 0 (by decide); have h1 := hk 1 (by decide); have h2 := hk 2 (by decide); have h4 := hk 4 (by decide); have h5 := hk 5 (by decide); have h6 := hk 6 (by decide); have h7 := hk 7 (by decide); have h8 := hk 8 (by decide); have h11 := hk 11 (by decide)
  simp only [Nat.mul_zero, Nat.zero_add, Nat.reduceMul] at h0 h1 h2 h4 h5 h6 h7 h8 h11
  unfold nPlug nLow
  rw [pUn h5, pUn h4, pUn h1, pUn h11, pUn h8, pUn h7, pUn h6, pUn h2, pUn h1, pUn h0]
theorem nPlug_iU {m t : Nat} {R : Nat → Int32} {T : Nat → Nat → Int32} {N : Nat → Int32} {d c p : Nat} (hm : m ≤ 8) (hR : wRu R t) (h : iU m R T N) (hd : d < m) (h0 : N d = 0) (hc : c = 8 ∨ (c < m ∧ N c ≠ 0)) (hp : p < 4) (hpp : (c = 8 ∧ nI p < R 0) ∨ (c < m ∧ nI p < T c 0)) : iU m R T (nPlug R N d (nI c) (nI p)) := by
  obtain ⟨⟨⟨⟨L, hL⟩, hO, hC⟩, hS, hz⟩, hP, hA⟩ := h
  have hdL : d ∉ L := fun q => ((hL.2.1 d).mp q).2 h0
  have cd : c ≠ d := by
    rcases hc with q | ⟨_, q⟩
    · omega
    · exact fun e => q (e ▸ h0)
  have e0 : nPlug R N d (nI c) (nI p) d = 1 := by simp only [nPlug, nLow, upd]; grind
  have e1 : nPlug R N d (nI c) (nI p) (8 + d) = R 1 := by simp only [nPlug, nLow, upd]; grind
  have e2 : nPlug R N d (nI c) (nI p) (16 + d) = 0 := by simp only [nPlug, nLow, upd]; grind
  have e4 : nPlug R N d (nI c) (nI p) (32 + d) = nI c := by simp only [nPlug, nLow, upd]; grind
  have e5 : nPlug R N d (nI c) (nI p) (40 + d) = nI p := by simp only [nPlug, nLow, upd]; grind
  have e6 : nPlug R N d (nI c) (nI p) (48 + d) = -1 := by simp only [nPlug, nLow, upd]; grind
  have e7 : nPlug R N d (nI c) (nI p) (56 + d) = 0 := by simp only [nPlug, nLow, upd]; grind
  have e8 : nPlug R N d (nI c) (nI p) (64 + d) = 0 := by simp only [nPlug, nLow, upd]; grind
  have e9 : nPlug R N d (nI c) (nI p) (72 + d) = N (72 + d) := by simp only [nPlug, nLow, upd]; grind
  have e11 : nPlug R N d (nI c) (nI p) (88 + d) = 0 := by simp only [nPlug, nLow, upd]; grind
  have same : ∀ e j, e < m → e ≠ d → j < 12 → nPlug R N d (nI c) (nI p) (8 * j + e) = N (8 * j + e) := fun e j he hn hj => nPlug_same (by omega) (fun q hq => by omega)
  have s0 : ∀ e, e < m → e ≠ d → nPlug R N d (nI c) (nI p) e = N e := fun e he hn => by have := same e 0 he hn (by decide); simpa using this
  have s4 : ∀ e, e < m → e ≠ d → nPlug R N d (nI c) (nI p) (32 + e) = N (32 + e) := fun e he hn => same e 4 he hn (by decide)
  have s5 : ∀ e, e < m → e ≠ d → nPlug R N d (nI c) (nI p) (40 + e) = N (40 + e) := fun e he hn => same e 5 he hn (by decide)
  have hC' : wC m (nPlug R N d (nI c) (nI p)) := fun e he hs => by
    by_cases ce : e = d
    · subst ce; rw [e0] at hs; rcases hs with q | q | q | q <;> exact absurd q (by decide)
    · rw [s0 e he ce] at hs; rw [s4 e he ce]
      rcases hC e he hs with q | ⟨b, hb, q1, q2⟩
      · exact Or.inl q
      · exact Or.inr ⟨b, hb, q1, by rw [s0 b hb (fun q => by subst q; rw [h0] at q2; exact absurd q2 (by decide))]; exact q2⟩
  refine ⟨⟨⟨⟨L ++ [d], ?_, fun e => ?_, fun e he => ?_⟩, fun e he => ?_, hC'⟩, hS.keep' hm hC' (fun e he h6 => ?_) (fun e he h6 => ?_), ?_⟩, fun e he hn => ?_, hA.keep (k7_one (d := d) (by rw [e0]; decide) (fun e he hn => ⟨s0 e he hn, same e 7 he hn (by decide)⟩))⟩
  · rw [List.nodup_append]
    refine ⟨hL.1, by simp, fun a ha b hb => ?_⟩
    rw [List.mem_singleton] at hb
    subst hb
    exact fun q => hdL (q ▸ ha)
  · rw [List.mem_append, List.mem_singleton]
    by_cases ce : e = d
    · subst ce; exact ⟨fun _ => ⟨hd, by rw [e0]; decide⟩, fun _ => Or.inr rfl⟩
    · rw [hL.2.1 e]
      refine ⟨fun q => ?_, fun q => Or.inl ⟨q.1, ?_⟩⟩
      · rcases q with q | q
        · exact ⟨q.1, by rw [s0 e q.1 ce]; exact q.2⟩
        · exact absurd q ce
      · rw [← s0 e q.1 ce]; exact q.2
  · rw [List.mem_append, List.mem_singleton] at he
    by_cases ce : e = d
    · subst ce
      refine ⟨c, e4, ?_⟩
      rcases hc with q | q
      · exact Or.inl q
      · have hcL := (hL.2.1 c).mpr q
        refine Or.inr ⟨List.mem_append_left _ hcL, ?_⟩
        rw [idx_app hcL, idx_app' hdL]
        exact List.idxOf_lt_length_iff.mpr hcL
    · have heL : e ∈ L := he.resolve_right ce
      obtain ⟨b, q1, q2⟩ := hL.2.2 e heL
      refine ⟨b, by rw [s4 e ((hL.2.1 e).mp heL).1 ce]; exact q1, ?_⟩
      rcases q2 with q2 | ⟨q2, q3⟩
      · exact Or.inl q2
      · exact Or.inr ⟨List.mem_append_left _ q2, by rw [idx_app q2, idx_app heL]; exact q3⟩
  · by_cases ce : e = d
    · subst ce
      unfold dOK
      rw [e0, e1, e2, e4, e5, e6, e7, e8, e9, e11]
      exact ⟨⟨1, by decide, rfl⟩, fun q => absurd q (by decide), fun _ => hR.2.2.1, fun q => absurd (Or.inl rfl) q, fun _ => rfl, fun _ => ⟨rfl, rfl, rfl⟩, fun q => absurd q (by decide), fun _ => rfl, (hO e hd).2.2.2.2.2.2.2.2⟩
    · exact dOK_congr (fun j hj => same e j he ce hj) (hO e he)
  · by_cases ce : e = d
    · subst ce; rw [e0] at h6; exact absurd h6 (by decide)
    · rw [s0 e he ce] at h6; exact ⟨h6, same e 6 he ce (by decide)⟩
  · by_cases ce : e = d
    · subst ce; rw [e0] at h6; exact absurd h6 (by decide)
    · exact s4 e he ce
  · have : nz (nPlug R N d (nI c) (nI p)) = nPlug R (nz N) d (nI c) (nI p) := by
      unfold nPlug; rw [nzU (by omega), nzU (by omega), nzU (by omega), nLow_nz (by omega)]
    rw [this, hz]
  · by_cases ce : e = d
    · subst ce; exact ⟨c, p, e4, e5, hp, hpp⟩
    · rw [s4 e he ce] at hn ⊢; rw [s5 e he ce]; exact hP e he hn
theorem rPlug {m t : Nat} {ru td nw : Nat → Int32} {d c p : Nat} (hm : m ≤ 8) (hR : wRu ru t) (h : iU m ru (tT m td) (nz nw)) (hd : d < m) (h0 : nz nw d = 0) (hc : c = 8 ∨ (c < m ∧ nz nw c ≠ 0)) (hp : p < 4) (hpp : (c = 8 ∧ nI p < ru 0) ∨ (c < m ∧ nI p < tT m td c 0)) : ∃ f, F_X10_plugs ru nw (nI d) (nI c) (nI p) = some (zDepth (nPlug ru (nz nw) d (nI c) (nI p)) d, f) ∧ nz f = nPlug ru (nz nw) d (nI c) (nI p) ∧ nf f = upd (nf nw) (24 + d) 0 := by
  have hi' := nPlug_iU hm hR h hd h0 hc hp hpp
  obtain ⟨o1, o2, o3, o4, o5, o6, o7, o8, o9⟩ := h.1.1.2.1 d hd
  have t1 := o4 (by rw [h0]; decide)
  have t2 := o5 (by rw [h0]; decide)
  have t6 := o6 (by rw [h0]; decide)
  have t8 := o8 (by rw [h0]; decide)
  unfold F_X10_plugs
  simp (disch := omega) only [pIx, pCl, pLe, pLt, pEq, pNm, pS1, pA0, pA8, pA16, pA24, pA32, pA40, pA48, pA56, pA64, pA72, pA80, pA88, pBs, pE8, pb0, pb1, pbo, if_true, if_false, pIy, pbq, pNz, pIw]
  have ez : nz (upd (upd (upd (upd (upd nw d 1) (8 + d) (ru 1)) (24 + d) 0) (32 + d) (nI c)) (40 + d) (nI p)) = nPlug ru (nz nw) d (nI c) (nI p) := by
    rw [nzU (by omega), nzU (by omega), nzO (by omega), nzU (by omega), nzU (by omega)]
    funext k; simp only [nPlug, nLow, upd]; grind
  obtain ⟨r, hr⟩ := hi'.1.1.r hm
  rw [rDepth (r := r) hm (by rw [ez]; exact hr) (by rw [ez]; exact hi'.1.1.f) hd, pBs, ez]
  exact ⟨_, rfl, ez, by rw [nfU (by omega), nfU (by omega), nfO (by omega), nfU (by omega), nfU (by omega)]⟩
end

section
/-! sets with one more; unplugging -/
theorem pOr8 : ∀ (b0 b1 b2 b3 b4 b5 b6 b7 : Bool) (k : Fin 8), pB8 b0 b1 b2 b3 b4 b5 b6 b7 ||| (1 <<< (nI k.1 &&& 31)) = pB8 (b0 || decide (k.1 = 0)) (b1 || decide (k.1 = 1)) (b2 || decide (k.1 = 2)) (b3 || decide (k.1 = 3)) (b4 || decide (k.1 = 4)) (b5 || decide (k.1 = 5)) (b6 || decide (k.1 = 6)) (b7 || decide (k.1 = 7)) := by decide +kernel
theorem pOr {p : Nat → Bool} {m d : Nat} (hm : m ≤ 8) (hd : d < m) : pSet p m ||| (1 <<< (nI d &&& 31)) = pSet (fun e => p e || decide (e = d)) m := by
  rw [pSetm hm, pSet8, pSetm (p := fun e => p e || decide (e = d)) hm, pSet8]
  have h := pOr8 (p 0 && decide (0 < m)) (p 1 && decide (1 < m)) (p 2 && decide (2 < m)) (p 3 && decide (3 < m)) (p 4 && decide (4 < m)) (p 5 && decide (5 < m)) (p 6 && decide (6 < m)) (p 7 && decide (7 < m)) ⟨d, by omega⟩
  rw [h]
  have key : ∀ j, ((p j && decide (j < m)) || decide (d = j)) = ((p j || decide (j = d)) && decide (j < m)) := fun j => by
    by_cases c : j = d
    · subst c; simp [hd]
    · have : ¬ d = j := fun q => c q.symm
      simp [c, this]
  simp only [key]
def zPl (N : Nat → Int32) (d e : Nat) : Bool := zHang N e (nI d) || decide (e = d)
def nPf (p : Nat → Bool) (e : Nat) (f : Nat → Int32) : Nat → Int32 := if p e = true then nLeave f e else f
def nPull (m : Nat) (p : Nat → Bool) (f : Nat → Int32) : Nat → Int32 := pF (nPf p) m 0 f
theorem cPull {m : Nat} {fr fu fp : Nat → Int32} {d : Nat} (hm : m ≤ 8) (hd : d < m) : F_X0_pullOut fr (nI m) fu fp (nI d) = some (nPull m (zPl (nz fr) d) fr) := by
  unfold F_X0_pullOut
  rw [cBeneath hm, pBs, pOr hm hd]
  show FL_X0_pullOut_12 fr (nI m) fu fp (nI d) 1000 (pSet (zPl (nz fr) d) m) 0 fr = _
  refine pLoop0 (m := m) (L := fun n i a => FL_X0_pullOut_12 fr (nI m) fu fp (nI d) n (pSet (zPl (nz fr) d) m) i a) (g := nPf (zPl (nz fr) d)) (fin := id) (fun n j a hj => ?_) (fun n a => ?_) 1000 _ (by omega)
  · show FL_X0_pullOut_12 fr (nI m) fu fp (nI d) (n + 1) _ (nI j) a = _
    simp (disch := omega) only [FL_X0_pullOut_12, pIx, pCl, pLe, pLt, pEq, pNm, pS1, pA0, pA8, pA16, pA24, pA32, pA40, pA48, pA56, pA64, pA72, pA80, pA88, pBs, pE8, pb0, pb1, pbo, if_true, if_false, pIy, pbq, pNz, pIw, pHas, cLeave]
    rw [if_neg (by omega)]
    unfold nPf
    by_cases c : zPl (nz fr) d j = true
    · simp [c, hj]
    · simp [c]
  · show FL_X0_pullOut_12 fr (nI m) fu fp (nI d) (n + 1) _ (nI m) a = _
    simp (disch := omega) only [FL_X0_pullOut_12, pIx, pCl, pLe, pLt, pEq, pNm, pS1, pA0, pA8, pA16, pA24, pA32, pA40, pA48, pA56, pA64, pA72, pA80, pA88, pBs, pE8, pb0, pb1, pbo, if_true, if_false, pIy, pbq, pNz, pIw]
    rw [if_pos (Nat.le_refl m)]; rfl
theorem nPull_nz {m : Nat} {p : Nat → Bool} {f : Nat → Int32} (hm : m ≤ 8) : nz (nPull m p f) = nPull m p (nz f) :=
  pF_map (fun _ _ => True) m 0 _ (fun i a _ hi _ => by unfold nPf; split; exact nLeave_nz (by omega); rfl) (fun _ _ _ _ _ => trivial) trivial
theorem nPull_nf {m : Nat} {p : Nat → Bool} {f : Nat → Int32} (hm : m ≤ 8) : nf (nPull m p f) = nf f :=
  pF_const (φ := nf) m 0 f (fun i a _ hi => by unfold nPf; split; exact nLeave_nf (by omega); rfl)
theorem nLeave_same {N : Nat → Int32} {d k : Nat} (hd : d < 8) (hk : ∀ j, j < 12 → k ≠ 8 * j + d) : nLeave N d k = N k := by
  have h0 := hk 0 (by decide); have h1 := hk 1 (by decide); have h2 := hk 2 (by decide); have h4 := hk 4 (by decide); have h5 := hk 5 (by decide); have h6 := hk 6 (by decide); have h7 := hk 7 (by decide); have h8 := hk 8 (by decide); have h11 := hk 11 (by decide)
  simp only [Nat.mul_zero, Nat.zero_add, Nat.reduceMul] at h0 h1 h2 h4 h5 h6 h7 h8 h11
  unfold nLeave nLow
  rw [pUn h5, pUn h4, pUn h11, pUn h8, pUn h7, pUn h6, pUn h2, pUn h1, pUn h0]
theorem nLeave_ok {N : Nat → Int32} {d : Nat} (hd : d < 8) (h : N (72 + d) = 0 ∨ N (72 + d) = 1) : nLeave N d d = 0 ∧ nLeave N d (32 + d) = -1 ∧ dOK (nLeave N d) d := by
  have e0 : nLeave N d d = 0 := by simp only [nLeave, nLow, upd]; grind
  have e1 : nLeave N d (8 + d) = 0 := by simp only [nLeave, nLow, upd]; grind
  have e2 : nLeave N d (16 + d) = 0 := by simp only [nLeave, nLow, upd]; grind
  have e4 : nLeave N d (32 + d) = -1 := by simp only [nLeave, nLow, upd]; grind
  have e5 : nLeave N d (40 + d) = -1 := by simp only [nLeave, nLow, upd]; grind
  have e6 : nLeave N d (48 + d) = -1 := by simp only [nLeave, nLow, upd]; grind
  have e7 : nLeave N d (56 + d) = 0 := by simp only [nLeave, nLow, upd]; grind
  have e8 : nLeave N d (64 + d) = 0 := by simp only [nLeave, nLow, upd]; grind
  have e9 : nLeave N d (72 + d) = N (72 + d) := by simp only [nLeave, nLow, upd]; grind
  have e11 : nLeave N d (88 + d) = 0 := by simp only [nLeave, nLow, upd]; grind
  refine ⟨e0, e4, ?_⟩
  unfold dOK
  rw [e0, e1, e2, e4, e5, e6, e7, e8, e9, e11]
  exact ⟨⟨0, by decide, rfl⟩, fun _ => ⟨rfl, rfl⟩, fun q => absurd q (by decide), fun _ => rfl, fun _ => rfl, fun _ => ⟨rfl, rfl, rfl⟩, fun q => absurd q (by decide), fun _ => rfl, h⟩
/-- the loop of an unplugging -/
def plI (m : Nat) (N : Nat → Int32) (p : Nat → Bool) (j : Nat) (N' : Nat → Int32) : Prop := ∀ e, e < m → ((e < j ∧ p e = true) → N' e = 0 ∧ N' (32 + e) = -1 ∧ dOK N' e) ∧ (¬ (e < j ∧ p e = true) → ∀ q, q < 12 → N' (8 * q + e) = N (8 * q + e))
theorem nPull_I {m : Nat} {N : Nat → Int32} {p : Nat → Bool} (hm : m ≤ 8) (hO : ∀ e, e < m → dOK N e) : plI m N p m (nPull m p N) := by
  have := pF_inv (g := nPf p) (fun j a => plI m N p j a) m 0 N (fun i a _ hi hI => ?_) (fun e he => ⟨fun q => by omega, fun _ q hq => rfl⟩)
  · rw [Nat.zero_add] at this; exact this
  · intro e he
    unfold nPf
    by_cases c : p i = true
    · rw [if_pos c]
      by_cases ce : e = i
      · subst ce
        refine ⟨fun _ => nLeave_ok (by omega) ?_, fun q => absurd ⟨by omega, c⟩ q⟩
        have := (hI e he).2 (fun q => by omega) 9 (by decide)
        rw [show 8 * 9 + e = 72 + e from by omega] at this
        rw [this]; exact (hO e he).2.2.2.2.2.2.2.2
      · have sm : ∀ q, q < 12 → nLeave a i (8 * q + e) = a (8 * q + e) := fun q hq => nLeave_same (by omega) (fun j hj => by omega)
        have s0 := sm 0 (by decide); have s4 := sm 4 (by decide)
        simp only [Nat.mul_zero, Nat.zero_add, Nat.reduceMul] at s0 s4
        refine ⟨fun q => ?_, fun q k hk => ?_⟩
        · obtain ⟨a1, a2, a3⟩ := (hI e he).1 ⟨by omega, q.2⟩
          exact ⟨by rw [s0]; exact a1, by rw [s4]; exact a2, dOK_congr sm a3⟩
        · rw [sm k hk]; exact (hI e he).2 (fun r => q ⟨by omega, r.2⟩) k hk
    · rw [if_neg c]
      refine ⟨fun q => (hI e he).1 ⟨?_, q.2⟩, fun q => (hI e he).2 (fun r => q ⟨by omega, r.2⟩)⟩
      rcases Nat.lt_or_ge e i with r | r
      · exact r
      · exact absurd ((show e = i by omega) ▸ q.2) c
theorem nPull_iU {m : Nat} {R : Nat → Int32} {T : Nat → Nat → Int32} {N : Nat → Int32} {d : Nat} (hm : m ≤ 8) (h : iU m R T N) (hd : d < m) : iU m R T (nPull m (zPl N d) N) := by
  have hi := h.1.1
  obtain ⟨⟨⟨⟨L, hL⟩, hO, hC⟩, hS, hz⟩, hP, hA⟩ := h
  have hI := nPull_I (p := zPl N d) hm hO
  have hr := hL.r hm
  generalize hN' : nPull m (zPl N d) N = N' at hI
  have i0 : ∀ e, e < m → zPl N d e = true → N' e = 0 ∧ N' (32 + e) = -1 ∧ dOK N' e := fun e he q => (hI e he).1 ⟨he, q⟩
  have i1 : ∀ e, e < m → ¬ zPl N d e = true → ∀ q, q < 12 → N' (8 * q + e) = N (8 * q + e) := fun e he q => (hI e he).2 (fun r => q r.2)
  have k0 : ∀ e, e < m → ¬ zPl N d e = true → N' e = N e := fun e he q => by have := i1 e he q 0 (by decide); simpa using this
  have k4 : ∀ e, e < m → ¬ zPl N d e = true → N' (32 + e) = N (32 + e) := fun e he q => i1 e he q 4 (by decide)
  -- whose hub goes goes too
  have up : ∀ e b, e < m → b < m → N e ≠ 0 → N b ≠ 0 → N (32 + e) = nI b → ¬ zPl N d e = true → ¬ zPl N d b = true := fun e b he hb h0 hb0 hub hn q => by
    apply hn
    unfold zPl at q ⊢
    by_cases cb : b = d
    · subst cb; simp [hang_at (N := N) (e := e) (d := b) (by omega) hub]
    · have q' : zHang N b (nI d) = true := by simpa [cb] using q
      simp [hang_up hm hr hb hb0 hub q']
  have hC' : wC m N' := fun e he hs => by
    by_cases c : zPl N d e = true
    · rw [(i0 e he c).1] at hs; rcases hs with q | q | q | q <;> exact absurd q (by decide)
    · rw [k0 e he c] at hs; rw [k4 e he c]
      rcases hC e he hs with q | ⟨b, hb, q1, q2⟩
      · exact Or.inl q
      · have e0 : N e ≠ 0 := by rcases hs with q | q | q | q <;> rw [q] <;> decide
        refine Or.inr ⟨b, hb, q1, ?_⟩
        rw [k0 b hb (up e b he hb e0 (by rw [q2]; decide) q1 c)]; exact q2
  refine ⟨⟨⟨⟨L.filter (fun e => !zPl N d e), hL.1.filter _, fun e => ?_, fun e he => ?_⟩, fun e he => ?_, hC'⟩, hS.keep' hm hC' (fun e he h6 => ?_) (fun e he h6 => ?_), ?_⟩, fun e he hn => ?_, hA.keep (fun e he h6 => ?_)⟩
  · rw [List.mem_filter, hL.2.1 e]
    by_cases c : zPl N d e = true
    · refine ⟨fun q => by rw [c] at q; exact absurd q.2 (by decide), fun q => absurd (i0 e q.1 c).1 q.2⟩
    · refine ⟨fun q => ⟨q.1.1, by rw [k0 e q.1.1 c]; exact q.1.2⟩, fun q => ⟨⟨q.1, by rw [← k0 e q.1 c]; exact q.2⟩, by simpa using c⟩⟩
  · rw [List.mem_filter] at he
    have c : ¬ zPl N d e = true := by simpa using he.2
    have hem := (hL.2.1 e).mp he.1
    obtain ⟨b, q1, q2⟩ := hL.2.2 e he.1
    refine ⟨b, by rw [k4 e hem.1 c]; exact q1, ?_⟩
    rcases q2 with q2 | ⟨q2, q3⟩
    · exact Or.inl q2
    · have hbm := (hL.2.1 b).mp q2
      have cb := up e b hem.1 hbm.1 hem.2 hbm.2 q1 c
      have cb' : (!zPl N d b) = true := by simpa using cb
      exact Or.inr ⟨List.mem_filter.mpr ⟨q2, cb'⟩, idx_filter (p := fun e => !zPl N d e) cb' he.2 L q2 q3⟩
  · by_cases c : zPl N d e = true
    · exact (i0 e he c).2.2
    · exact dOK_congr (i1 e he c) (hO e he)
  · by_cases c : zPl N d e = true
    · rw [(i0 e he c).1] at h6; exact absurd h6 (by decide)
    · rw [k0 e he c] at h6; exact ⟨h6, i1 e he c 6 (by decide)⟩
  · by_cases c : zPl N d e = true
    · rw [(i0 e he c).1] at h6; exact absurd h6 (by decide)
    · exact k4 e he c
  · rw [← hN', nPull_nz hm, hz]
  · by_cases c : zPl N d e = true
    · exact absurd (i0 e he c).2.1 hn
    · have k5 : N' (40 + e) = N (40 + e) := i1 e he c 5 (by decide)
      rw [k4 e he c] at hn ⊢; rw [k5]; exact hP e he hn
  · by_cases c : zPl N d e = true
    · rw [(i0 e he c).1] at h6; exact absurd h6 (by decide)
    · rw [k0 e he c] at h6; exact ⟨h6, i1 e he c 7 (by decide)⟩
/-- the reference's -/
def rPf (p : Nat → Bool) (e : Nat) (f : Nat → Int32) : Nat → Int32 := if p e = true then rC f e else f
theorem rPull {m : Nat} {nw : Nat → Int32} {d : Nat} (hm : m ≤ 8) (hi : iN m (nz nw)) (hd : d < m) : ∃ f, F_X10_unplugs (nI m) nw (nI d) = some (nI (pNum (zPl (nz nw) d) m), f) ∧ nz f = nPull m (zPl (nz nw) d) (nz nw) ∧ (∀ e, e < m → ¬ zPl (nz nw) d e = true → f (24 + e) = nw (24 + e)) ∧ f 96 = nw 96 ∧ ∀ k, 98 ≤ k → f k = nw k := by
  obtain ⟨r, hr⟩ := hi.r hm
  unfold F_X10_unplugs
  rw [rBeneath hm hr hi.f (by omega), pBs, pOr hm hd]
  have hl := pLoop0 (m := m) (L := fun n i a => FL_X10_unplugs_12 (nI m) nw (nI d) n (pSet (zPl (nz nw) d) m) i a) (g := rPf (zPl (nz nw) d)) (fin := fun a => (nI (pNum (zPl (nz nw) d) m), a)) (fun n j a hj => ?_) (fun n a => ?_) 1000 nw (by omega)
  · refine ⟨_, hl, ?_, fun e he hn => ?_, ?_, fun k hk => ?_⟩
    · exact pF_map (fun _ _ => True) m 0 nw (fun i a _ hi _ => by unfold rPf nPf; split; exact rC_nz (by omega); rfl) (fun _ _ _ _ _ => trivial) trivial
    · exact pF_const (φ := fun f : Nat → Int32 => f (24 + e)) m 0 nw (fun i a _ hi => by
        show rPf _ i a (24 + e) = _
        unfold rPf
        split
        · rename_i q
          have : e ≠ i := fun r => hn (r ▸ q)
          simp (disch := omega) only [rC, pUn]
        · rfl)
    · exact pF_const (φ := fun f : Nat → Int32 => f 96) m 0 nw (fun i a _ hi => by
        show rPf _ i a 96 = _
        unfold rPf
        split
        · simp (disch := omega) only [rC, pUn]
        · rfl)
    · exact pF_const (φ := fun f : Nat → Int32 => f k) m 0 nw (fun i a _ hi => by
        show rPf _ i a k = _
        unfold rPf
        split
        · simp (disch := omega) only [rC, pUn]
        · rfl)
  · show FL_X10_unplugs_12 (nI m) nw (nI d) (n + 1) _ (nI j) a = _
    have hh : F_X10_has (pSet (zPl (nz nw) d) m) (nI j) = some (pb (zPl (nz nw) d j)) := by
      unfold F_X10_has
      rw [pHas hm (by omega)]
      by_cases c : zPl (nz nw) d j = true <;> simp [c, hj, pb]
    simp (disch := omega) only [FL_X10_unplugs_12, pIx, pCl, pLe, pLt, pEq, pNm, pS1, pA0, pA8, pA16, pA24, pA32, pA40, pA48, pA56, pA64, pA72, pA80, pA88, pBs, pE8, pb0, pb1, pbo, if_true, if_false, pIy, pbq, pNz, pIw, hh, rClear]
    rw [if_neg (by omega)]
    unfold rPf
    by_cases c : zPl (nz nw) d j = true
    · simp [c]
    · simp [c]
  · show FL_X10_unplugs_12 (nI m) nw (nI d) (n + 1) _ (nI m) a = _
    simp (disch := omega) only [FL_X10_unplugs_12, pIx, pCl, pLe, pLt, pEq, pNm, pS1, pA0, pA8, pA16, pA24, pA32, pA40, pA48, pA56, pA64, pA72, pA80, pA88, pBs, pE8, pb0, pb1, pbo, if_true, if_false, pIy, pbq, pNz, pIw, pBits hm]
    rw [if_pos (Nat.le_refl m)]
/-- how many went -/
theorem pNum_add {p q r : Nat → Bool} {m : Nat} (h : ∀ d, d < m → (r d = (p d || q d)) ∧ (p d && q d) = false) : pNum r m = pNum p m + pNum q m := by
  unfold pNum
  have key : ∀ (k j a b : Nat), j + k ≤ m → pF (fun d (a : Nat) => if r d = true then a + 1 else a) k j (a + b) = pF (fun d (a : Nat) => if p d = true then a + 1 else a) k j a + pF (fun d (a : Nat) => if q d = true then a + 1 else a) k j b := by
    intro k
    induction k with
    | zero => intro j a b _; rfl
    | succ k ih =>
      intro j a b hj
      show pF _ k (j + 1) (if r j = true then a + b + 1 else a + b) = pF _ k (j + 1) (if p j = true then a + 1 else a) + pF _ k (j + 1) (if q j = true then b + 1 else b)
      obtain ⟨h1, h2⟩ := h j (by omega)
      rw [← ih (j + 1) _ _ (by omega)]
      congr 1
      rw [h1]
      by_cases c1 : p j = true <;> by_cases c2 : q j = true
      · rw [c1, c2] at h2; exact absurd h2 (by decide)
      · simp [c1, c2]; omega
      · simp [c1, c2]; omega
      · simp [c1, c2]
  exact key m 0 0 0 (by omega)
theorem hang_in {m : Nat} {N : Nat → Int32} {d e : Nat} (hm : m ≤ 8) (h : iN m N) (he : e < m) (hd : d < 8) (hh : zHang N e (nI d) = true) : N e ≠ 0 := fun q => by
  unfold zHang at hh
  rw [h.f e he q, zCl_m] at hh
  have := of_decide_eq_true hh
  have e := pNm (a := d) (by omega)
  rw [← e]; exact this.symm
theorem gone_num {m : Nat} {N : Nat → Int32} {d : Nat} (hm : m ≤ 8) (h : iN m N) (hd : d < m) (h0 : N d ≠ 0) : nI (pNum (fun e => decide (nPull m (zPl N d) N e = 0)) m) - nI (pNum (fun e => decide (N e = 0)) m) = nI (pNum (zPl N d) m) := by
  have hI := nPull_I (p := zPl N d) hm h.2.1
  have := pNum_add (m := m) (p := fun e => decide (N e = 0)) (q := zPl N d) (r := fun e => decide (nPull m (zPl N d) N e = 0)) (fun e he => ?_)
  · rw [this]
    have a := pNum_le (fun e => decide (N e = 0)) m
    have b := pNum_le (zPl N d) m
    rw [q_eq, pk_sub_toInt (by omega) (by omega), nI_toInt (by omega)]; omega
  · have hp : zPl N d e = true → N e ≠ 0 := fun q => by
      unfold zPl at q
      by_cases ce : e = d
      · subst ce; exact h0
      · exact hang_in (d := d) hm h he (by omega) (by simpa [ce] using q)
    by_cases c : zPl N d e = true
    · have e1 := ((hI e he).1 ⟨he, c⟩).1
      have e2 := hp c
      simp [e1, e2, c]
    · have e1 : nPull m (zPl N d) N e = N e := by have := (hI e he).2 (fun q => c q.2) 0 (by decide); simpa using this
      simp [e1, c]
end

section
/-! supply -/
theorem le_of_not {a b : Int32} (h : ¬ a < b) : b ≤ a := by rw [q_lt] at h; rw [q_le]; omega
theorem not_le {a b : Int32} : ¬ a ≤ b ↔ b < a := by rw [q_lt, q_le]; omega
theorem lt_le {a b c : Int32} (h : a < b) (h' : b ≤ c) : a < c := by rw [q_lt] at *; rw [q_le] at h'; omega
theorem le_rfl32 (a : Int32) : a ≤ a := by rw [q_le]; omega
theorem grd_c {m : Nat} {T : Nat → Nat → Int32} {N : Nat → Int32} {z : Int32} (hm : m ≤ 8) : (zGrd m T N z = -1 ∧ ∀ d, d < m → ¬ (N d = 6 ∧ N (32 + d) = z)) ∨ ∃ g, g < m ∧ zGrd m T N z = nI g ∧ N g = 6 ∧ N (32 + g) = z ∧ ∀ d, d < m → N d = 6 → N (32 + d) = z → zTakes T N d ≤ zTakes T N g := by
  have := pF_inv (g := zGf T N z) (fun j b => (b = -1 ∧ ∀ d, d < j → ¬ (N d = 6 ∧ N (32 + d) = z)) ∨ ∃ g, g < m ∧ b = nI g ∧ N g = 6 ∧ N (32 + g) = z ∧ ∀ d, d < j → N d = 6 → N (32 + d) = z → zTakes T N d ≤ zTakes T N g) m 0 (-1) (fun i a _ hi hI => ?_) (Or.inl ⟨rfl, fun d hd => by omega⟩)
  · rw [Nat.zero_add] at this; exact this
  · unfold zGf
    by_cases c : N i = 6 ∧ N (32 + i) = z
    · rw [if_pos c]
      rcases hI with ⟨h1, h2⟩ | ⟨g, hg, h1, h2, h3, h4⟩
      · rw [if_pos h1]
        refine Or.inr ⟨i, by omega, rfl, c.1, c.2, fun d hd e1 e2 => ?_⟩
        by_cases ce : d = i
        · subst ce; exact le_rfl32 _
        · exact absurd ⟨e1, e2⟩ (h2 d (by omega))
      · rw [h1, if_neg (by rw [pNm (by omega)]; exact id), pCl (by omega)]
        by_cases c2 : zTakes T N i < zTakes T N g
        · rw [if_pos c2]
          refine Or.inr ⟨g, hg, rfl, h2, h3, fun d hd e1 e2 => ?_⟩
          by_cases ce : d = i
          · subst ce; rw [q_lt] at c2; rw [q_le]; omega
          · exact h4 d (by omega) e1 e2
        · rw [if_neg c2]
          refine Or.inr ⟨i, by omega, rfl, c.1, c.2, fun d hd e1 e2 => ?_⟩
          by_cases ce : d = i
          · subst ce; exact le_rfl32 _
          · have := h4 d (by omega) e1 e2
            rw [q_lt] at c2; rw [q_le] at this ⊢; omega
    · rw [if_neg c]
      rcases hI with ⟨h1, h2⟩ | ⟨g, hg, h1, h2, h3, h4⟩
      · refine Or.inl ⟨h1, fun d hd => ?_⟩
        by_cases ce : d = i
        · subst ce; exact c
        · exact h2 d (by omega)
      · refine Or.inr ⟨g, hg, h1, h2, h3, fun d hd e1 e2 => ?_⟩
        by_cases ce : d = i
        · subst ce; exact absurd ⟨e1, e2⟩ c
        · exact h4 d (by omega) e1 e2
theorem much_g {m : Nat} {R : Nat → Int32} {T : Nat → Nat → Int32} {N : Nat → Int32} {h g : Nat} (hm : m ≤ 8) (hh : h < m) (hs : N (72 + h) = 0) (hg : g < m) (g6 : N g = 6) (gh : N (32 + g) = nI h) (hmax : ∀ d, d < m → N d = 6 → N (32 + d) = nI h → zTakes T N d ≤ zTakes T N g) : zMuch m R T N h = true ↔ (zGv R N (nI h) < zTakes T N g ∨ zLeft m R T N h (-1) < 0) := by
  have key : pFd (zMp R T N (nI h)) m 0 = -1 ↔ ¬ zGv R N (nI h) < zTakes T N g := by
    rcases pFd_cases (zMp R T N (nI h)) m 0 with ⟨h1, h2⟩ | ⟨i, -, hi, h1, h2, -⟩
    · refine ⟨fun _ q => ?_, fun _ => h1⟩
      have h3 := h2 g (by omega) (by omega)
      unfold zMp zRt at h3
      have : ¬ zTakes T N g ≤ zGv R N (nI h) := not_le.mpr q
      have g0 : ¬ N g = 0 := by rw [g6]; decide
      simp [g6, gh, this] at h3
    · refine ⟨fun q => ?_, fun q => ?_⟩
      · rw [h1] at q
        have := pNm (a := i) (by omega)
        rw [this] at q; exact q.elim
      · exfalso
        unfold zMp zRt at h2
        simp only [Bool.and_eq_true, Bool.not_eq_true', decide_eq_true_eq, decide_eq_false_iff_not] at h2
        exact q (lt_le (not_le.mp h2.2) (hmax i (by omega) h2.1.2 h2.1.1.2))
  unfold zMuch
  have h8 : ¬ h = 8 := by omega
  have hs1 : ¬ N (72 + h) = 1 := by rw [hs]; decide
  by_cases c : zGv R N (nI h) < zTakes T N g
  · have : ¬ pFd (zMp R T N (nI h)) m 0 = -1 := fun q => key.mp q c
    simp [this, c]
  · have := key.mpr c
    simp [this, c, h8, hs1]
/-- refusing the greediest, so many times at most -/
def zMore (m : Nat) (R : Nat → Int32) (T : Nat → Nat → Int32) (N : Nat → Int32) (d : Nat) : Prop := zGrd m T N (nI d) ≠ -1 ∧ (zGv R N (nI d) < zTakes T N (zGrd m T N (nI d)).toNatClampNeg ∨ zLeft m R T N d (-1) < 0)
def zMoreI (m : Nat) (R : Nat → Int32) (T : Nat → Nat → Int32) (N : Nat → Int32) (d : Nat) : Decidable (zMore m R T N d) := by unfold zMore; infer_instance
def nShed (m : Nat) (R : Nat → Int32) (T : Nat → Nat → Int32) (d : Nat) : Nat → (Nat → Int32) → Nat → Int32
  | 0, N => N
  | k + 1, N => @ite (Nat → Int32) (zMore m R T N d) (zMoreI m R T N d) (nShed m R T d k (nRefuse m N (zGrd m T N (nI d)).toNatClampNeg 2)) N
theorem cShedL {m : Nat} {fr fu fp : Nat → Int32} {d : Nat} (hm : m ≤ 8) (hd : d < m) : ∀ (k n x : Nat) (f : Nat → Int32), x + k = 8 → k < n → ∃ g, FL_X0_shed_2 fr (nI m) fu fp (nI d) n (nI x) f = some g ∧ nz g = nShed m fu (tP m fp) d k (nz f) ∧ nf g = nf f
  | 0, 0, x, f, _, h => absurd h (by omega)
  | 0, n + 1, x, f, h1, _ => by
    obtain rfl : x = 8 := by omega
    exact ⟨f, by simp (disch := omega) only [FL_X0_shed_2, pIx, pCl, pLe, pLt, pEq, pNm, pS1, pA0, pA8, pA16, pA24, pA32, pA40, pA48, pA56, pA64, pA72, pA80, pA88, pBs, pE8, pb0, pb1, pbo, if_true, if_false, pIy, pbq, pNz, pIw]; rfl, rfl, rfl⟩
  | k + 1, 0, x, f, _, h => absurd h (by omega)
  | k + 1, n + 1, x, f, h1, h2 => by
    unfold nShed
    rw [FL_X0_shed_2]
    have x8 : ¬ (8 : Int32) ≤ nI x := by rw [p8Le (by omega)]; omega
    rw [if_neg x8, (cGreed hm).1, pBs]
    rcases grd_c (m := m) (T := tP m fp) (N := nz f) (z := nI d) hm with ⟨e1, e2⟩ | ⟨g, hg, e1, e2, e3, e4⟩
    · have : ¬ zMore m fu (tP m fp) (nz f) d := fun q => q.1 e1
      rw [if_pos e1, if_neg this]
      exact ⟨f, rfl, rfl, rfl⟩
    · have hne : ¬ (nI g : Int32) = -1 := by rw [pNm (by omega)]; exact id
      have hm' : zMore m fu (tP m fp) (nz f) d ↔ (zGv fu (nz f) (nI d) < zTakes (tP m fp) (nz f) g ∨ zLeft m fu (tP m fp) (nz f) d (-1) < 0) := by
        unfold zMore; rw [e1, pCl (by omega)]; exact ⟨fun q => q.2, fun q => ⟨hne, q⟩⟩
      rw [e1, if_neg hne, pCl (by omega)]
      obtain ⟨y, y1, y2, y3⟩ := cShedL (fr := fr) (fu := fu) (fp := fp) hm hd k n (x + 1) (nRefuse m f g 2) (by omega) (by omega)
      rw [nRefuse_nz hm (by omega)] at y2
      rw [nRefuse_nf hm (by omega)] at y3
      simp (disch := omega) only [cTakes, cGives, cLeft hm, cRefuse hm, pBs, pS1, y1]
      by_cases c : zGv fu (nz f) (nI d) < zTakes (tP m fp) (nz f) g
      · rw [if_pos c, if_pos (hm'.mpr (Or.inl c))]
        exact ⟨y, rfl, y2, y3⟩
      · rw [if_neg c]
        by_cases c2 : zLeft m fu (tP m fp) (nz f) d (-1) < 0
        · rw [if_pos c2, if_pos (hm'.mpr (Or.inr c2))]
          exact ⟨y, rfl, y2, y3⟩
        · rw [if_neg c2, if_neg (fun q => (hm'.mp q).elim c c2)]
          exact ⟨f, rfl, rfl, rfl⟩
theorem cShed {m : Nat} {fr fu fp : Nat → Int32} {d : Nat} (hm : m ≤ 8) (hd : d < m) : ∃ g, F_X0_shed fr (nI m) fu fp (nI d) = some g ∧ nz g = nShed m fu (tP m fp) d 8 (nz fr) ∧ nf g = nf fr :=
  cShedL hm hd 8 1000 0 fr (by omega) (by omega)
theorem pNum_lt {p q : Nat → Bool} {m g : Nat} (hg : g < m) (hpg : p g = false) (hqg : q g = true) (h : ∀ d, d < m → p d = true → q d = true) : pNum p m < pNum q m := by
  have := pNum_add (m := m) (p := p) (q := fun d => q d && !p d) (r := q) (fun d hd => by
    have := h d hd
    by_cases c : p d = true
    · simp [c, this c]
    · simp [c])
  have h1 : 0 < pNum (fun d => q d && !p d) m := by
    have key : ∀ (k j a : Nat), j ≤ g → g < j + k → a < pF (fun d (a : Nat) => if (q d && !p d) = true then a + 1 else a) k j a := by
      intro k
      induction k with
      | zero => intro j a h1 h2; omega
      | succ k ih =>
        intro j a h1 h2
        show a < pF _ k (j + 1) (if (q j && !p j) = true then a + 1 else a)
        have mono : ∀ (k j a : Nat), a ≤ pF (fun d (a : Nat) => if (q d && !p d) = true then a + 1 else a) k j a := by
          intro k
          induction k with
          | zero => intro j a; exact Nat.le_refl a
          | succ k ih2 =>
            intro j a
            show a ≤ pF _ k (j + 1) (if (q j && !p j) = true then a + 1 else a)
            refine Nat.le_trans ?_ (ih2 _ _)
            split <;> omega
        by_cases c : j = g
        · subst c
          rw [if_pos (by simp [hpg, hqg])]
          exact mono k (j + 1) (a + 1)
        · refine Nat.lt_of_le_of_lt ?_ (ih (j + 1) _ (by omega) (by omega))
          split <;> omega
    exact key m 0 0 (by omega) (by omega)
  omega
def zMs (m : Nat) (N : Nat → Int32) (d : Nat) : Nat := pNum (fun e => decide (N e = 6) && decide (N (32 + e) = nI d)) m
theorem ms_lt {m : Nat} {N : Nat → Int32} {d g : Nat} {why : Int32} (hm : m ≤ 8) (hg : g < m) (g6 : N g = 6) (gh : N (32 + g) = nI d) (h7 : nRefuse m N g why g ≠ 6) : zMs m (nRefuse m N g why) d < zMs m N d := by
  unfold zMs
  refine pNum_lt hg ?_ ?_ (fun e he q => ?_)
  · simp [h7]
  · simp [g6, gh]
  · simp only [Bool.and_eq_true, decide_eq_true_eq] at q ⊢
    have := nRefuse_k6 (N := N) (why := why) hm hg e he q.1
    rw [nRefuse_hp (k := 32 + e) hm (by omega) (Or.inl ⟨by omega, by omega⟩)] at q
    exact ⟨this.1, q.2⟩
theorem nRefuse_g {m : Nat} {T : Nat → Nat → Int32} {N : Nat → Int32} {g : Nat} {why : Int32} (hm : m ≤ 8) (h : iT m T N) (hg : g < m) (h0 : N g ≠ 0) : nRefuse m N g why g ≠ 6 := by
  obtain ⟨-, -, -, hE, -⟩ := nRefuse_I (why := why) hm hg h.2.2 ⟨h.1.1, h.1.2.1⟩ h0
  by_cases c : g < m ∧ zHang (nRef0 N g why) g (nI g) = true ∧ runs36 (nRef0 N g why g)
  · rw [(hE g hg).1 c]; decide
  · rw [(hE g hg).2 c, nRef0_0 (by omega)]; decide
theorem nShed_0 {m : Nat} {R : Nat → Int32} {T : Nat → Nat → Int32} {N : Nat → Int32} {d k : Nat} (h : zGrd m T N (nI d) = -1) : nShed m R T d k N = N := by
  cases k with
  | zero => rfl
  | succ k => unfold nShed; rw [if_neg (fun q => q.1 h)]
theorem nRefuse_iU {m : Nat} {R : Nat → Int32} {T : Nat → Nat → Int32} {N : Nat → Int32} {d : Nat} {why : Int32} (hm : m ≤ 8) (h : iU m R T N) (hd : d < m) (h0 : N d ≠ 0) : iU m R T (nRefuse m N d why) :=
  ⟨nRefuse_iT hm h.1 hd h0, h.2.1.keep hm (fun k h1 h2 => nRefuse_hp hm (by omega) (Or.inl ⟨h1, h2⟩)), h.2.2.keep (nRefuse_k7 hm hd)⟩
theorem nShed_iU {m : Nat} {R : Nat → Int32} {T : Nat → Nat → Int32} {d : Nat} (hm : m ≤ 8) : ∀ (k : Nat) (N : Nat → Int32), iU m R T N → iU m R T (nShed m R T d k N)
  | 0, N, h => h
  | k + 1, N, h => by
    unfold nShed
    split
    · rename_i q
      rcases grd_c (m := m) (T := T) (N := N) (z := nI d) hm with ⟨e1, e2⟩ | ⟨g, hg, e1, e2, e3, e4⟩
      · exact absurd e1 q.1
      · rw [e1, pCl (by omega)]
        exact nShed_iU hm k _ (nRefuse_iU hm h hg (by rw [e2]; decide))
    · exact h
theorem rShedL {m : Nat} {ru td nw : Nat → Int32} {d : Nat} {x : Int32} (hm : m ≤ 8) (hd : d < m) : ∀ (k n : Nat) (f : Nat → Int32), zMs m (nz f) d ≤ k → k < n → iU m ru (tT m td) (nz f) → nz f (72 + d) = 0 → nz f (32 + d) ≠ -1 → ∃ g, FL_X10_turnsSupply_106 (nI m) ru td nw (nI d) n x (zGrd m (tT m td) (nz f) (nI d)) f = some g ∧ nz g = nShed m ru (tT m td) d k (nz f) ∧ nf g = nf f
  | _, 0, f, _, h, _, _, _ => absurd h (by omega)
  | k, n + 1, f, h1, h2, hi, h72, h32 => by
    rw [FL_X10_turnsSupply_106]
    rcases grd_c (m := m) (T := tT m td) (N := nz f) (z := nI d) hm with ⟨e1, e2⟩ | ⟨g, hg, e1, e2, e3, e4⟩
    · rw [if_pos e1, nShed_0 e1]; exact ⟨f, rfl, rfl, rfl⟩
    · have hne : ¬ (nI g : Int32) = -1 := by rw [pNm (by omega)]; exact id
      have hd0 : nz f d ≠ 0 := fun q => h32 ((away_hub hm hi.1.1 hd).mp q)
      have hg0 : nz f g ≠ 0 := by rw [e2]; decide
      have hm' : zMore m ru (tT m td) (nz f) d ↔ (zGv ru (nz f) (nI d) < zTakes (tT m td) (nz f) g ∨ zLeft m ru (tT m td) (nz f) d (-1) < 0) := by
        unfold zMore; rw [e1, pCl (by omega)]; exact ⟨fun q => q.2, fun q => ⟨hne, q⟩⟩
      have hmu := much_g (R := ru) hm hd h72 hg e2 e3 e4
      rw [e1, if_neg hne, rMuch hm hd (hi.1.1.h hm d hd hd0), pBs]
      have kp : ∃ k', k = k' + 1 := by
        cases k with
        | zero =>
          exfalso
          have := ms_lt (N := nz f) (why := 2) hm hg e2 e3 (nRefuse_g (T := tT m td) hm hi.1 hg hg0)
          omega
        | succ k => exact ⟨k, rfl⟩
      obtain ⟨k', rfl⟩ := kp
      unfold nShed
      by_cases c : zMuch m ru (tT m td) (nz f) d = true
      · rw [c, if_neg (by decide), if_pos (hm'.mpr (hmu.mp c)), e1, pCl (by omega)]
        obtain ⟨f2, g1, g2, g3⟩ := rRefuses (nw := f) (why := 2) hm hi.1.1 hg hg0
        rw [g1, pBs, (rGreed hm).1, pBs]
        have h72' : nz f2 (72 + d) = 0 := by rw [g2, nRefuse_hp hm (by omega) (Or.inr ⟨by omega, by omega⟩)]; exact h72
        have h32' : nz f2 (32 + d) ≠ -1 := by rw [g2, nRefuse_hp hm (by omega) (Or.inl ⟨by omega, by omega⟩)]; exact h32
        have hms := ms_lt (N := nz f) (why := 2) hm hg e2 e3 (nRefuse_g (T := tT m td) hm hi.1 hg hg0)
        rw [← g2] at hms
        obtain ⟨y, y1, y2, y3⟩ := rShedL (nw := nw) (x := x) hm hd k' n f2 (by omega) (by omega) (by rw [g2]; exact nRefuse_iU hm hi hg hg0) h72' h32'
        exact ⟨y, y1, by rw [y2, g2], by rw [y3, g3]⟩
      · have c' : zMuch m ru (tT m td) (nz f) d = false := by simpa using c
        rw [c', if_pos (by decide), if_neg (fun q => c (hmu.mpr (hm'.mp q)))]
        exact ⟨f, rfl, rfl, rfl⟩
def nTog (N : Nat → Int32) (d : Nat) : Nat → Int32 := upd N (72 + d) (1 - N (72 + d))
theorem nTog_iU {m : Nat} {R : Nat → Int32} {T : Nat → Nat → Int32} {N : Nat → Int32} {d : Nat} (hm : m ≤ 8) (h : iU m R T N) (hd : d < m) : iU m R T (nTog N d) := by
  obtain ⟨⟨⟨⟨L, hL⟩, hO, hC⟩, hS, hz⟩, hP, hA⟩ := h
  have hk : ∀ k, k ≠ 72 + d → nTog N d k = N k := fun k q => pUn q
  have hk72 : nTog N d (72 + d) = 1 - N (72 + d) := pUs
  have hC' : wC m (nTog N d) := fun e he hs => by
    rw [hk e (by omega)] at hs; rw [hk (32 + e) (by omega)]
    rcases hC e he hs with q | ⟨b, hb, q1, q2⟩
    · exact Or.inl q
    · exact Or.inr ⟨b, hb, q1, by rw [hk b (by omega)]; exact q2⟩
  refine ⟨⟨⟨⟨L, hL.keep (fun e he => by rw [hk e (by omega)]) (fun e he => hk _ (by omega))⟩, fun e he => ?_, hC'⟩, hS.keep hm hC' (fun e he h6 => ?_) (fun e he => hk _ (by omega)), ?_⟩, hP.keep hm (fun k h1 h2 => hk k (by omega)), hA.keep (fun e he h6 => by rw [hk e (by omega)] at h6; exact ⟨h6, hk _ (by omega)⟩)⟩
  · by_cases ce : e = d
    · subst ce
      obtain ⟨o1, o2, o3, o4, o5, o6, o7, o8, o9⟩ := hO e he
      unfold dOK
      rw [hk72, hk e (by omega), hk (8 + e) (by omega), hk (16 + e) (by omega), hk (32 + e) (by omega), hk (40 + e) (by omega), hk (48 + e) (by omega), hk (56 + e) (by omega), hk (64 + e) (by omega), hk (88 + e) (by omega)]
      refine ⟨o1, o2, o3, o4, o5, o6, o7, o8, ?_⟩
      rcases o9 with q | q <;> rw [q]
      · exact Or.inr (by decide)
      · exact Or.inl (by decide)
    · exact dOK_congr (fun j hj => hk _ (by omega)) (hO e he)
  · rw [hk e (by omega)] at h6; exact ⟨h6, hk _ (by omega)⟩
  · unfold nTog; rw [nzU (by omega), hz]
def nSup (m : Nat) (R : Nat → Int32) (T : Nat → Nat → Int32) (N : Nat → Int32) (d : Nat) : Nat → Int32 := if 1 - N (72 + d) = 1 then nTog N d else if N d = 6 then (if zPow m R T (nTog N d) (N (32 + d)).toNatClampNeg (zTakes T (nTog N d) d) (nI d) = true then nShed m R T d 8 (nTog N d) else nRefuse m (nTog N d) d 2) else nTog N d
theorem nSup_iU {m : Nat} {R : Nat → Int32} {T : Nat → Nat → Int32} {N : Nat → Int32} {d : Nat} (hm : m ≤ 8) (h : iU m R T N) (hd : d < m) : iU m R T (nSup m R T N d) := by
  have h' := nTog_iU hm h hd
  unfold nSup
  split
  · exact h'
  · split
    · rename_i q
      split
      · exact nShed_iU hm 8 _ h'
      · refine nRefuse_iU hm h' hd ?_
        have : nTog N d d = N d := pUn (by omega)
        rw [this, q]; decide
    · exact h'
theorem nTog_nz {N : Nat → Int32} {d : Nat} (hd : d < 8) : nz (nTog N d) = nTog (nz N) d := by
  unfold nTog; rw [nzU (by omega), pNz (by omega)]
theorem nTog_nf {N : Nat → Int32} {d : Nat} (hd : d < 8) : nf (nTog N d) = nf N := by
  unfold nTog; rw [nfU (by omega)]
theorem cSup {m : Nat} {fr fu fp : Nat → Int32} {d : Nat} (hm : m ≤ 8) (h : iU m fu (tP m fp) (nz fr)) (hd : d < m) : ∃ f, F_X0_switchSupply fr (nI m) fu fp (nI d) = some f ∧ nz f = nSup m fu (tP m fp) (nz fr) d ∧ nf f = nf fr := by
  have e72 : nz fr (72 + d) = fr (72 + d) := pNz (by omega)
  have e0 : nz fr d = fr d := pNz (by omega)
  have ez : nz (upd fr (72 + d) (1 - fr (72 + d))) = nTog (nz fr) d := nTog_nz (N := fr) (by omega)
  have ef : nf (upd fr (72 + d) (1 - fr (72 + d))) = nf fr := nTog_nf (N := fr) (by omega)
  unfold F_X0_switchSupply nSup
  rw [e72, e0]
  simp (disch := omega) only [pIx, pCl, pLe, pLt, pEq, pNm, pS1, pA0, pA8, pA16, pA24, pA32, pA40, pA48, pA56, pA64, pA72, pA80, pA88, pBs, pE8, pb0, pb1, pbo, if_true, if_false, pIy, pbq, pNz, pIw, pUs, pUn]
  by_cases c : 1 - fr (72 + d) = 1
  · rw [if_pos c, if_pos c]; exact ⟨_, rfl, ez, ef⟩
  · rw [if_neg c, if_neg c]
    obtain ⟨y, y1, y2, y3⟩ := cShed (fr := upd fr (72 + d) (1 - fr (72 + d))) (fu := fu) (fp := fp) hm hd
    rw [ez] at y2; rw [ef] at y3
    by_cases c6 : fr d = 6
    · rw [if_pos c6, if_pos c6]
      obtain ⟨b, hb, hh, hb6⟩ := hub36 hm h.1.1.2.2 hd (by rw [e0, c6]; exact Or.inr (Or.inr (Or.inr rfl)))
      have hh' : nz (upd fr (72 + d) (1 - fr (72 + d))) (32 + d) = nI b := by rw [ez, ← hh]; exact pUn (by omega)
      simp (disch := omega) only [cTakes, cPow (fr := upd fr (72 + d) (1 - fr (72 + d))) hm (by omega : d < m) hb (hb6.imp id And.left) hh', pBs, y1, cRefuse hm]
      rw [ez, show fr (32 + d) = nI b from by rw [← hh, pNz (by omega)], pCl (by omega)]
      by_cases cp : zPow m fu (tP m fp) (nTog (nz fr) d) b (zTakes (tP m fp) (nTog (nz fr) d) d) (nI d) = true
      · rw [cp, if_neg (by decide), if_pos rfl]; exact ⟨y, rfl, y2, y3⟩
      · have cp' : zPow m fu (tP m fp) (nTog (nz fr) d) b (zTakes (tP m fp) (nTog (nz fr) d) d) (nI d) = false := by simpa using cp
        rw [cp', if_pos (by decide), if_neg (by decide)]
        exact ⟨_, rfl, by rw [nRefuse_nz hm (by omega), ez], by rw [nRefuse_nf hm (by omega), ef]⟩
    · rw [if_neg c6, if_neg c6, y1, pBs]
      refine ⟨y, rfl, ?_, y3⟩
      rw [y2]
      apply nShed_0
      rcases grd_c (m := m) (T := tP m fp) (N := nTog (nz fr) d) (z := nI d) hm with ⟨e1, e2⟩ | ⟨g, hg, e1, e2, e3, e4⟩
      · exact e1
      · exfalso
        have g0 : nTog (nz fr) d g = nz fr g := pUn (by omega)
        have g4 : nTog (nz fr) d (32 + g) = nz fr (32 + g) := pUn (by omega)
        rw [g0] at e2; rw [g4] at e3
        rcases h.1.1.2.2 g hg (Or.inr (Or.inr (Or.inr e2))) with q | ⟨b, hb, q1, q2⟩
        · rw [e3] at q; have := (nI_eq (a := d) (b := 8) (by omega) (by omega)).mp q; omega
        · rw [e3] at q1; have := (nI_eq (a := d) (b := b) (by omega) (by omega)).mp q1
          subst this; rw [e0] at q2; exact c6 q2
theorem rSup {m : Nat} {ru td nw : Nat → Int32} {d : Nat} (hm : m ≤ 8) (hT : wT m (tT m td)) (h : iU m ru (tT m td) (nz nw)) (hd : d < m) : ∃ f, F_X10_turnsSupply (nI m) ru td nw (nI d) = some f ∧ nz f = nSup m ru (tT m td) (nz nw) d ∧ nf f = nf nw := by
  have e72 : nz nw (72 + d) = nw (72 + d) := pNz (by omega)
  have e0 : nz nw d = nw d := pNz (by omega)
  have ez : nz (upd nw (72 + d) (1 - nw (72 + d))) = nTog (nz nw) d := nTog_nz (N := nw) (by omega)
  have ef : nf (upd nw (72 + d) (1 - nw (72 + d))) = nf nw := nTog_nf (N := nw) (by omega)
  have h' := nTog_iU hm h hd
  unfold F_X10_turnsSupply nSup
  rw [e72, e0]
  simp (disch := omega) only [pIx, pCl, pLe, pLt, pEq, pNm, pS1, pA0, pA8, pA16, pA24, pA32, pA40, pA48, pA56, pA64, pA72, pA80, pA88, pBs, pE8, pb0, pb1, pbo, if_true, if_false, pIy, pbq, pNz, pIw, pUs, pUn, rState]
  by_cases c : 1 - nw (72 + d) = 1
  · rw [if_pos c, if_pos c]; exact ⟨_, rfl, ez, ef⟩
  · rw [if_neg c, if_neg c]
    have h72 : nTog (nz nw) d (72 + d) = 0 := by
      have : nTog (nz nw) d (72 + d) = 1 - nw (72 + d) := by unfold nTog; rw [pUs, e72]
      rcases (h'.1.1.2.1 d hd).2.2.2.2.2.2.2.2 with q | q
      · exact q
      · rw [this] at q; exact absurd q c
    by_cases c6 : nw d = 6
    · rw [if_pos c6, if_pos c6]
      have t6 : nTog (nz nw) d d = 6 := by unfold nTog; rw [pUn (by omega), e0, c6]
      obtain ⟨b, hb, hh, hb6⟩ := hub36 hm h.1.1.2.2 hd (by rw [e0, c6]; exact Or.inr (Or.inr (Or.inr rfl)))
      have hh1 : nw (32 + d) = nI b := by rw [← hh, pNz (by omega)]
      have hub : b = 8 ∨ (b < m ∧ ∃ q, q ≤ 8 ∧ nz (upd nw (72 + d) (1 - nw (72 + d))) (32 + b) = nI q) := by
        rcases hb6 with q | ⟨q1, q2⟩
        · exact Or.inl q
        · obtain ⟨q, q3, q4⟩ := h.1.1.h hm b q1 (by rw [q2]; decide)
          exact Or.inr ⟨q1, q, q3, by rw [ez, ← q4]; exact pUn (by omega)⟩
      rw [hh1]
      obtain ⟨f2, g1, g2, g3⟩ := rRefuses (nw := upd nw (72 + d) (1 - nw (72 + d))) (why := 2) hm (by rw [ez]; exact h'.1.1) hd (by rw [ez, t6]; decide)
      rw [ez] at g2; rw [ef] at g3
      simp (disch := omega) only [rTakes (m := m), rGives, rLeft hm hb hub, pBs, g1, rHub hm, (rGreed hm).1]
      have hp := pow_r (m := m) (R := ru) (T := tT m td) (N := nTog (nz nw) d) (c := b) (out := nI d) (zTakes_9 (N := nTog (nz nw) d) hT hd)
      rw [pCl (by omega)]
      rw [ez]
      by_cases cp : zPow m ru (tT m td) (nTog (nz nw) d) b (zTakes (tT m td) (nTog (nz nw) d) d) (nI d) = true
      · obtain ⟨p1, p2⟩ := hp.mpr cp
        rw [if_neg p1, if_pos p2, if_pos cp]
        have hz8 : zHub m (tT m td) (nI d) = !decide (tT m td d 0 ≤ 0) := by
          unfold zHub
          rw [zDev_nI hm (by omega), pCl (by omega)]
          have : ¬ nI d = 8 := by rw [pE8 (by omega)]; omega
          simp [this, hd]
        rw [hz8]
        have t32 : nTog (nz nw) d (32 + d) ≠ -1 := by
          have : nTog (nz nw) d (32 + d) = nI b := by rw [← hh]; exact pUn (by omega)
          rw [this, Ne, pNm (by omega)]; exact id
        by_cases ch : tT m td d 0 ≤ 0
        · rw [if_pos (by simp [ch, pb])]
          have hg : zGrd m (tT m td) (nTog (nz nw) d) (nI d) = -1 := by
            rcases grd_c (m := m) (T := tT m td) (N := nTog (nz nw) d) (z := nI d) hm with ⟨e1, e2⟩ | ⟨g, hg, e1, e2, e3, e4⟩
            · exact e1
            · exfalso
              obtain ⟨q1, q2, q3, q4, q5, q6⟩ := h'.2.1 g hg (by rw [e3, Ne, pNm (by omega)]; exact id)
              rw [e3] at q3
              rcases q6 with ⟨r1, r2⟩ | ⟨r1, r2⟩
              · subst r1; have := (nI_eq (a := d) (b := 8) (by omega) (by omega)).mp q3; omega
              · have := (nI_eq (a := d) (b := q1) (by omega) (by omega)).mp q3
                subst this
                have h0 : ¬ (nI q2 : Int32) < 0 := nI_pos (by omega)
                rw [q_lt] at r2 h0; rw [q_le] at ch
                omega
          rw [nShed_0 hg]
          have gg := rShedL (nw := nw) (ru := ru) (td := td) (d := d) (x := nI b) hm hd 8 1000 (upd nw (72 + d) (1 - nw (72 + d))) (by unfold zMs; exact Nat.le_trans (pNum_le _ m) hm) (by omega) (by rw [ez]; exact h') (by rw [ez]; exact h72) (by rw [ez]; exact t32)
          rw [ez, hg, nShed_0 hg, ef] at gg
          exact gg
        · rw [if_neg (by simp [ch, pb])]
          have gg := rShedL (nw := nw) (ru := ru) (td := td) (d := d) (x := nI b) hm hd 8 1000 (upd nw (72 + d) (1 - nw (72 + d))) (by unfold zMs; exact Nat.le_trans (pNum_le _ m) hm) (by omega) (by rw [ez]; exact h') (by rw [ez]; exact h72) (by rw [ez]; exact t32)
          rw [ez, ef] at gg
          exact gg
      · rw [if_neg cp]
        by_cases p1 : zGv ru (nTog (nz nw) d) (nI b) < zTakes (tT m td) (nTog (nz nw) d) d
        · rw [if_pos p1]; exact ⟨f2, rfl, g2, g3⟩
        · rw [if_neg p1, if_neg (fun p2 => cp (hp.mp ⟨p1, p2⟩))]; exact ⟨f2, rfl, g2, g3⟩
    · rw [if_neg c6, if_neg c6]; exact ⟨_, rfl, ez, ef⟩
end

section
/-! waking; what bars an act -/
def zWake (m : Nat) (R : Nat → Int32) (T : Nat → Nat → Int32) (N : Nat → Int32) (d c : Nat) : Bool := !zSlp N c && zPow m R T N c (zNeed T N d) (nI d) && zTimeC m R T N d (zSp T N c d)
theorem cWake {m : Nat} {fr fu fp : Nat → Int32} {d c : Nat} (hm : m ≤ 8) (hi : iN m (nz fr)) (hd : d < m) (h0 : nz fr d ≠ 0) (hc : c ≤ 8) (hh : nz fr (32 + d) = nI c) : F_X0_canWake fr (nI m) fu fp (nI d) = some (pb (zWake m fu (tP m fp) (nz fr) d c)) := by
  have hh' : fr (32 + d) = nI c := by rw [← hh, pNz (by omega)]
  have e72 : nz fr (72 + d) = fr (72 + d) := pNz (by omega)
  have hcm := hi.hm hm hd h0 hc hh
  unfold F_X0_canWake zWake zNeed
  rw [e72]
  simp (disch := omega) only [pIx, pCl, pLe, pLt, pEq, pNm, pS1, pA0, pA8, pA16, pA24, pA32, pA40, pA48, pA56, pA64, pA72, pA80, pA88, pBs, pE8, pb0, pb1, pbo, if_true, if_false, pIy, pbq, pNz, pIw, hh', cAsleep, cPow hm (by omega : d < m) hc hcm hh, cTime hm hi hd h0 hc hh]
  by_cases c1 : fr (72 + d) = 1
  · rw [if_pos c1, if_pos c1]
    by_cases c2 : zSlp (nz fr) c = true <;> by_cases c3 : zPow m fu (tP m fp) (nz fr) c 0 (nI d) = true <;> by_cases c4 : zTimeC m fu (tP m fp) (nz fr) d (zSp (tP m fp) (nz fr) c d) = true <;> simp [c2, c3, c4, pb]
  · rw [if_neg c1, if_neg c1]
    have et : fp (16 + d) = tP m fp d 2 := (tP2 hm (by omega)).symm
    rw [et]
    by_cases c2 : zSlp (nz fr) c = true <;> by_cases c3 : zPow m fu (tP m fp) (nz fr) c (tP m fp d 2) (nI d) = true <;> by_cases c4 : zTimeC m fu (tP m fp) (nz fr) d (zSp (tP m fp) (nz fr) c d) = true <;> simp [c2, c3, c4, pb]
theorem zNeed_9 {m : Nat} {T : Nat → Nat → Int32} {N : Nat → Int32} {d : Nat} (hT : wT m T) (hd : d < m) : ∃ u, u ≤ 9 ∧ zNeed T N d = nI u := by
  obtain ⟨-, -, ⟨u, hu, e⟩, -⟩ := hT d hd
  unfold zNeed
  split
  · exact ⟨0, by omega, rfl⟩
  · exact ⟨u, hu, e⟩
theorem rTimeW {m : Nat} {ru td nw : Nat → Int32} {d c : Nat} (hm : m ≤ 8) (hT : wT m (tT m td)) (h : iT m (tT m td) (nz nw)) (hd : d < m) (h6 : nz nw d = 6) (h88 : nz nw (88 + d) = 1) (hc : c ≤ 8) (hh : nz nw (32 + d) = nI c) : F_X10_hasTime (nI m) ru td (upd nw (88 + d) 0) (nI d) = some (pb (zTimeC m ru (tT m td) (nz nw) d (zSp (tT m td) (nz nw) c d))) := by
  have hsp := h.2.1 d hd h6 c hc hh
  have hC := h.1.2.2
  have hs3 := zSp_3 (N := nz nw) (c := c) hT hd
  have hqq := h.1.q
  obtain ⟨⟨⟨L, hL⟩, -⟩, -⟩ := h
  have en : nz (upd nw (88 + d) 0) = upd (nz nw) (88 + d) 0 := nzU (by omega)
  have hk : ∀ k, k ≠ 88 + d → upd (nz nw) (88 + d) 0 k = nz nw k := fun k q => pUn q
  have hL' : wL m (upd (nz nw) (88 + d) 0) L := hL.keep (fun e he => by rw [hk e (by omega)]) (fun e he => hk _ (by omega))
  have hq' : wQ m (upd (nz nw) (88 + d) 0) := fun e he hr => by
    rw [hk (48 + e) (by omega)] at hr; rw [hk e (by omega)]; exact hqq e he hr
  rw [rTime (nw := upd nw (88 + d) 0) hm (by rw [en]; exact hL'.r hm) (by rw [en]; exact hq') hd, en]
  have hne : zAbv (nz nw) d ≠ -1 := by
    obtain ⟨b, hb, hab, -⟩ := zAbv_nI hm (hL.r hm) hd (by rw [h6]; decide)
    rw [hab, Ne, pNm (by omega)]; exact id
  have habv : ∀ e, e < m → zAbv (upd (nz nw) (88 + d) 0) e = zAbv (nz nw) e := fun e he => by
    unfold zAbv
    rw [hk (32 + e) (by omega)]
    have cl : ∀ (k : Nat) (x : Int32), zCl (upd (nz nw) (88 + d) 0) (fun h => decide (upd (nz nw) (88 + d) 0 (48 + h.toNatClampNeg) = 2)) k x = zCl (nz nw) (fun h => decide (nz nw (48 + h.toNatClampNeg) = 2)) k x := by
      intro k
      induction k with
      | zero => intro x; rfl
      | succ k ih =>
        intro x
        rcases pX3 x with q | q | ⟨b, hb, rfl⟩
        · simp only [zCl, q, true_or, if_true]
        · simp only [zCl, q, or_true, if_true]
        · rw [zCl_s hb, zCl_s hb, pCl (by omega), hk (48 + b) (by omega), hk (32 + b) (by omega), ih]
    exact cl 8 _
  have g1 : ∀ e, e < m → e ≠ d → zAwk (upd (nz nw) (88 + d) 0) e = zAwk (nz nw) e := fun e he hn => by
    unfold zAwk; rw [hk e (by omega), hk (88 + e) (by omega)]
  have g2 : zAwk (upd (nz nw) (88 + d) 0) d = true := by
    unfold zAwk; rw [hk d (by omega), pUs, h6]; decide
  have g3 : zAwk (nz nw) d = false := by unfold zAwk; rw [h88]; simp
  have g4 : ∀ e, e < m → e ≠ d → zAwk (nz nw) e = true → zHlp (upd (nz nw) (88 + d) 0) e = zHlp (nz nw) e ∧ upd (nz nw) (88 + d) 0 (48 + e) = nz nw (48 + e) := fun e he hn hw =>
    ⟨by unfold zHlp; rw [hk (48 + e) (by omega), habv e he], hk _ (by omega)⟩
  rw [time_eq (N := nz nw) hd g1 g2 g3 g4 ((hk (48 + d) (by omega)).trans hsp) hs3 (habv d hd) hne]
theorem rWake {m : Nat} {ru td nw : Nat → Int32} {d c : Nat} (hm : m ≤ 8) (hT : wT m (tT m td)) (h : iT m (tT m td) (nz nw)) (hd : d < m) (h6 : nz nw d = 6) (h88 : nz nw (88 + d) = 1) (hc : c ≤ 8) (hh : nz nw (32 + d) = nI c) (hc6 : c = 8 ∨ (c < m ∧ nz nw c = 6)) : F_X10_canWake (nI m) ru td nw (nI d) = some (pb (zWake m ru (tT m td) (nz nw) d c), nw) := by
  have hh' : nw (32 + d) = nI c := by rw [← hh, pNz (by omega)]
  have hub : c = 8 ∨ (c < m ∧ ∃ q, q ≤ 8 ∧ nz nw (32 + c) = nI q) := by
    rcases hc6 with q | ⟨q1, q2⟩
    · exact Or.inl q
    · exact Or.inr ⟨q1, h.1.h hm c q1 (by rw [q2]; decide)⟩
  have hp := pow_r (m := m) (R := ru) (T := tT m td) (N := nz nw) (c := c) (out := nI d) (zNeed_9 (N := nz nw) hT hd)
  have back : upd (upd nw (88 + d) 0) (88 + d) 1 = nw := by
    have : nw (88 + d) = 1 := by rw [← h88, pNz (by omega)]
    funext k; simp only [upd]; grind
  unfold F_X10_canWake zWake
  simp (disch := omega) only [pIx, pIy, pCl, pA32, pA88, hh', rAsleep, rNeed (m := m), rGives, rLeft hm hc hub, rTimeW hm hT h hd h6 h88 hc hh, pBs, pbo, back]
  by_cases c1 : zSlp (nz nw) c = true
  · simp [c1, pb]
  · have c1' : zSlp (nz nw) c = false := by simpa using c1
    rw [c1', if_pos (show pb false = 0 from rfl)]
    by_cases cp : zPow m ru (tT m td) (nz nw) c (zNeed (tT m td) (nz nw) d) (nI d) = true
    · obtain ⟨p1, p2⟩ := hp.mpr cp
      rw [if_neg p1, if_pos p2, cp]; simp
    · have cp' : zPow m ru (tT m td) (nz nw) c (zNeed (tT m td) (nz nw) d) (nI d) = false := by simpa using cp
      rw [cp']
      by_cases p1 : zGv ru (nz nw) (nI c) < zNeed (tT m td) (nz nw) d
      · rw [if_pos p1]; simp [pb]
      · rw [if_neg p1, if_neg (fun p2 => cp (hp.mp ⟨p1, p2⟩))]; simp [pb]
/-- ports of a hub -/
def zPrt (R : Nat → Int32) (T : Nat → Nat → Int32) (b : Int32) : Int32 := if b = 8 then R 0 else T b.toNatClampNeg 0
def zFull (m : Nat) (N : Nat → Int32) (b c : Int32) : Int32 := pFd (fun d => !decide (N d = 0) && decide (N (32 + d) = b) && decide (N (40 + d) = c)) m 0
def zBarP (m : Nat) (R : Nat → Int32) (T : Nat → Nat → Int32) (N : Nat → Int32) (d : Nat) (b c : Int32) : Int32 := if zHub m T b = true then (if c < 0 ∨ zPrt R T b ≤ c then 1 else if N d = 0 ∧ (b = 8 ∨ N b.toNatClampNeg ≠ 0) ∧ zFull m N b c = -1 then -1 else 2) else 0
def zBar (m : Nat) (R : Nat → Int32) (T : Nat → Nat → Int32) (N : Nat → Int32) (tm z a b c : Int32) : Int32 :=
  if z = 2 then (if m = 0 then 0 else if a < 1 then 1 else if a ≤ 60 then (if tm + a ≤ 9999 then -1 else 3) else 1)
  else if zDev m a = true then
    (if z = 0 then zBarP m R T N a.toNatClampNeg b c
     else if z = 1 then (if N a.toNatClampNeg = 0 then 2 else -1)
     else if z = 3 then (if T a.toNatClampNeg 3 = 1 then -1 else 2)
     else if z = 4 then (if b < 0 then 1 else if b ≤ 3 then (if N (80 + a.toNatClampNeg) = b then 2 else -1) else 1)
     else if z = 5 then (if N a.toNatClampNeg = 7 then -1 else 2)
     else if N (88 + a.toNatClampNeg) = 1 then (if zWake m R T N a.toNatClampNeg (N (32 + a.toNatClampNeg)).toNatClampNeg = true then -1 else 2)
     else if zCanFall m N a = true ∧ N a.toNatClampNeg = 6 then -1 else 2)
  else 0
theorem cPorts {m : Nat} {fu fp : Nat → Int32} {b : Int32} (hm : m ≤ 8) (hb : (0 < m ∧ b = 8) ∨ zDev m b = true) : F_X5_portsOf (nI m) fu fp b = some (zPrt fu (tP m fp) b) := by
  unfold F_X5_portsOf zPrt
  rcases hb with ⟨h1, rfl⟩ | hb
  · rw [if_pos rfl, if_pos rfl, if_neg (by rw [pLe0 (by omega)]; omega)]
  · obtain ⟨d, hd, rfl⟩ := zDev_lt hm hb
    have h8 : ¬ nI d = 8 := by rw [pE8 (by omega)]; omega
    rw [if_neg h8, if_neg h8, if_neg (nI_pos (by omega)), if_neg (by rw [pLe (by omega) (by omega)]; omega)]
    simp (disch := omega) only [pA0, pIx, pIy, pCl]
    rw [tP0 hm (by omega)]
theorem cPorts0 {m : Nat} {fu fp : Nat → Int32} {b : Int32} (hm : m ≤ 8) (hb : ¬ ((0 < m ∧ b = 8) ∨ zDev m b = true)) : F_X5_portsOf (nI m) fu fp b = some 0 := by
  unfold F_X5_portsOf
  have hz : b < 0 ∨ nI m ≤ b := by
    refine Decidable.byContradiction (fun q => hb (Or.inr ?_))
    obtain ⟨j, hj, rfl⟩ := nI_of (show ¬ b < 0 from fun r => q (Or.inl r))
    rw [zDev_nI hm hj]
    have : ¬ nI m ≤ nI j := fun r => q (Or.inr r)
    rw [pLe (by omega) hj] at this
    simpa using this
  by_cases c8 : b = 8
  · have m0 : m = 0 := Decidable.byContradiction (fun q => hb (Or.inl ⟨by omega, c8⟩))
    subst m0; subst c8; rfl
  · rw [if_neg c8]
    by_cases cn : b < 0
    · rw [if_pos cn]
    · rw [if_neg cn, if_pos (hz.resolve_left cn)]
theorem cHub {m t : Nat} {fu fp : Nat → Int32} {b : Int32} (hm : m ≤ 8) (hR : 0 < m → wRu fu t) : F_X5_isHub (nI m) fu fp b = some (pb (zHub m (tP m fp) b)) := by
  unfold F_X5_isHub
  by_cases c : (0 < m ∧ b = 8) ∨ zDev m b = true
  · rw [cPorts hm c, pBs]
    unfold zHub zPrt
    rcases c with ⟨h1, rfl⟩ | c
    · obtain ⟨-, -, -, -, p, hp4, hp, e⟩ := hR h1
      rw [if_pos rfl, e, if_neg (by rw [pLe0 (by omega)]; omega)]
      simp [h1, pb]
    · obtain ⟨d, hd, rfl⟩ := zDev_lt hm c
      have h8 : ¬ nI d = 8 := by rw [pE8 (by omega)]; omega
      rw [if_neg h8, c, pCl (by omega)]
      by_cases c2 : tP m fp d 0 ≤ 0 <;> simp [c2, h8, pb]
  · rw [cPorts0 hm c, pBs]
    unfold zHub
    rw [not_or] at c
    have c2 : zDev m b = false := by simpa using c.2
    have c1 : (decide (0 < m) && decide (b = 8)) = false := by
      by_cases q : 0 < m
      · have : ¬ b = 8 := fun r => c.1 ⟨q, r⟩
        simp [this]
      · simp [q]
    rw [c1, c2]; rfl
theorem zHub_c {m : Nat} {T : Nat → Nat → Int32} {b : Int32} (h : zHub m T b = true) : (0 < m ∧ b = 8) ∨ zDev m b = true := by
  unfold zHub at h
  simp only [Bool.or_eq_true, Bool.and_eq_true, decide_eq_true_eq] at h
  rcases h with h | h
  · exact Or.inl h
  · exact Or.inr h.1
theorem hub_nI {m : Nat} {T : Nat → Nat → Int32} {b : Int32} (hm : m ≤ 8) (h : zHub m T b = true) : ∃ h, h ≤ 8 ∧ b = nI h ∧ (h = 8 ∨ h < m) := by
  rcases zHub_c h with ⟨-, rfl⟩ | q
  · exact ⟨8, by omega, rfl, Or.inl rfl⟩
  · obtain ⟨d, hd, rfl⟩ := zDev_lt hm q
    exact ⟨d, by omega, rfl, Or.inr hd⟩
theorem cBarP {m t : Nat} {fr fu fp : Nat → Int32} {d : Nat} {b c : Int32} (hm : m ≤ 8) (hR : 0 < m → wRu fu t) (hi : iN m (nz fr)) (hd : d < m) : F_X0_barOfPlug fr (nI m) fu fp (nI d) b c = some (zBarP m fu (tP m fp) (nz fr) d b c) := by
  unfold F_X0_barOfPlug zBarP F_X5_hasPort
  rw [cHub hm hR, pBs]
  by_cases ch : zHub m (tP m fp) b = true
  · obtain ⟨h, hh, rfl, hh2⟩ := hub_nI hm ch
    have hb1 : (nI h : Int32) ≠ -1 := by rw [Ne, pNm (by omega)]; exact id
    have e0 : nz fr d = fr d := pNz (by omega)
    rw [ch, if_neg (by decide), if_pos rfl, cPorts hm (zHub_c ch), cPlugged hm hi.f hb1, cIs hh]
    simp (disch := omega) only [pA0, pIx, pIy, pCl, pBs, e0]
    have h8 : (nI h = 8) = (h = 8) := pE8 (by omega)
    have ef : zFull m (nz fr) (nI h) c = pFd (fun d => !decide (nz fr d = 0) && decide (nz fr (32 + d) = nI h) && decide (nz fr (40 + d) = c)) m 0 := rfl
    rw [← ef]
    generalize zFull m (nz fr) (nI h) c = w
    generalize zPrt fu (tP m fp) (nI h) = w2
    by_cases c1 : c < 0
    · simp [c1]
    · by_cases c2 : w2 ≤ c
      · simp [c1, c2]
      · by_cases c3 : fr d = 0 <;> by_cases c4 : w = -1 <;> by_cases c5 : h = 8 <;> by_cases c6 : nz fr h = 0 <;> simp [c1, c2, c3, c4, c5, c6, h8, pb, show nI 8 = 8 from rfl]
  · have ch' : zHub m (tP m fp) b = false := by simpa using ch
    rw [ch', if_pos (show pb false = 0 from rfl), if_neg (by decide)]
theorem lt_dec {x c : Int32} (h : 0 < x) : (x - 1 < c) ↔ (x ≤ c) := by
  rw [q_lt] at h
  have h0 : (0 : Int32).toInt = 0 := by decide
  have h1 : (1 : Int32).toInt = 1 := by decide
  have hr := Int32.toInt_lt x
  have e : (x - 1).toInt = x.toInt - 1 := by
    rw [Int32.toInt_sub, h1, Int.bmod_eq_of_le (by omega) (by omega)]
  rw [q_lt, q_le, e]
  omega
theorem zPrt_pos {m t : Nat} {R : Nat → Int32} {T : Nat → Nat → Int32} {b : Int32} (hm : m ≤ 8) (hR : 0 < m → wRu R t) (h : zHub m T b = true) : 0 < zPrt R T b := by
  unfold zPrt
  have hh := h
  unfold zHub at hh
  by_cases c : b = 8
  · rw [if_pos c]
    rcases zHub_c h with ⟨h1, -⟩ | q
    · obtain ⟨-, -, -, -, p, hp4, hp, e⟩ := hR h1
      rw [e]; exact (pLt (a := 0) (by omega) (by omega)).mpr hp
    · obtain ⟨d, hd, rfl⟩ := zDev_lt hm q
      rw [pE8 (by omega)] at c; omega
  · rw [if_neg c]
    have : ¬ T b.toNatClampNeg 0 ≤ 0 := by
      simp only [Bool.or_eq_true, Bool.and_eq_true, decide_eq_true_eq, Bool.not_eq_true', decide_eq_false_iff_not] at hh
      rcases hh with ⟨-, q⟩ | ⟨-, q⟩
      · exact absurd q c
      · exact q
    rw [not_le] at this; exact this
theorem rBarP {m t : Nat} {ru td nw : Nat → Int32} {d : Nat} {b c : Int32} (hm : m ≤ 8) (hR : 0 < m → wRu ru t) (hd : d < m) : F_X10_whyPlug (nI m) ru td nw (nI d) b c = some (zBarP m ru (tT m td) (nz nw) d b c) := by
  unfold F_X10_whyPlug zBarP
  rw [rDev, pBs, rHub hm, pBs, zDev_nI hm (by omega), if_neg (by simp [hd, pb])]
  by_cases ch : zHub m (tT m td) b = true
  · have hpos := zPrt_pos hm hR ch
    obtain ⟨h, hh, rfl, hh2⟩ := hub_nI hm ch
    have e0 : nz nw d = nw d := pNz (by omega)
    have ep : F_X10_portsOf ru td (nI h) = some (zPrt ru (tT m td) (nI h)) := by
      unfold zPrt
      rcases hh2 with rfl | hh2
      · exact rPorts8
      · rw [if_neg (by rw [pE8 (by omega)]; omega), rPorts (m := m) hm (by omega), pCl (by omega)]
    have h8 : (nI h = 8) = (h = 8) := pE8 (by omega)
    have hd8 : (nI h = nI d) = (h = d) := pEq (by omega) (by omega)
    rw [ch, if_neg (by decide), if_pos rfl, ep, pBs, rIn, pBs, rState (by omega), pBs, rInPort hm]
    have ef : zFull m (nz nw) (nI h) c = pFd (fun d => !decide (nz nw d = 0) && decide (nz nw (32 + d) = nI h) && decide (nz nw (40 + d) = c)) m 0 := rfl
    rw [← ef]
    have cd := lt_dec (c := c) hpos
    rw [pCl (by omega), e0]
    generalize zFull m (nz nw) (nI h) c = w
    generalize zPrt ru (tT m td) (nI h) = w2 at cd ⊢
    by_cases c1 : c < 0
    · simp [c1, pb]
    · by_cases c2 : w2 ≤ c
      · have := cd.mpr c2
        simp [c1, c2, this, pb]
      · have : ¬ w2 - 1 < c := fun q => c2 (cd.mp q)
        rcases hh2 with rfl | hh2
        · have hd' : ¬ 8 = d := by omega
          have hd9 : ¬ (8 : Int32) = nI d := fun q => hd' ((nI_eq (a := 8) (b := d) (by omega) (by omega)).mp q)
          by_cases c3 : nw d = 0 <;> by_cases c4 : w = -1 <;> simp [c1, c2, c3, c4, hd9, this, pb, show nI 8 = 8 from rfl, pBs]
        · have h8' : ¬ h = 8 := by omega
          have eh : nz nw h = nw h := pNz (by omega)
          rw [rState (by omega), eh]
          by_cases ce : h = d
          · subst ce
            by_cases c3 : nw h = 0 <;> by_cases c4 : w = -1 <;> simp [c1, c2, c3, c4, h8, h8', this, pb, pBs]
          · by_cases c3 : nw d = 0 <;> by_cases c4 : w = -1 <;> by_cases c6 : nw h = 0 <;> simp [c1, c2, c3, c4, c6, h8, h8', hd8, ce, this, pb, pBs]
  · have ch' : zHub m (tT m td) b = false := by simpa using ch
    rw [ch', if_pos (show pb false = 0 from rfl), if_neg (by decide)]
theorem cBar {m t : Nat} {fr fu fp : Nat → Int32} {z a b c : Int32} (hm : m ≤ 8) (hR : 0 < m → wRu fu t) (hi : iN m (nz fr)) : F_X0_barOf fr (nI m) fu fp z a b c = some (zBar m fu (tP m fp) (nz fr) (fr 96) z a b c) := by
  unfold F_X0_barOf zBar
  by_cases z2 : z = 2
  · rw [if_pos z2, if_pos z2]
    unfold F_X0_barOfTicks F_X5_isTold
    simp (disch := omega) only [pLe0]
    by_cases m0 : m = 0
    · simp [m0, pBs]
    · by_cases c1 : a < 1 <;> by_cases c2 : a ≤ 60 <;> by_cases c3 : fr 96 + a ≤ 9999 <;> simp [m0, c1, c2, c3, pBs]
  · rw [if_neg z2, if_neg z2, if_neg z2, cHas hm, pBs]
    by_cases cd : zDev m a = true
    · rw [cd, if_neg (by decide), if_pos rfl]
      obtain ⟨d, hd, rfl⟩ := zDev_lt hm cd
      have e0 : nz fr d = fr d := pNz (by omega)
      have e80 : nz fr (80 + d) = fr (80 + d) := pNz (by omega)
      have e88 : nz fr (88 + d) = fr (88 + d) := pNz (by omega)
      have et : fp (24 + d) = tP m fp d 3 := (tP3 hm (by omega)).symm
      rw [pCl (by omega), e0, e80, e88]
      by_cases z0 : z = 0
      · rw [if_pos z0, if_pos z0, cBarP hm hR hi hd, pBs]
      · rw [if_neg z0, if_neg z0]
        by_cases z1 : z = 1
        · rw [if_pos z1, if_pos z1]
          simp (disch := omega) only [pIx, pCl, pLe, pLt, pEq, pNm, pS1, pA0, pA8, pA16, pA24, pA32, pA40, pA48, pA56, pA64, pA72, pA80, pA88, pBs, pE8, pb0, pb1, pbo, if_true, if_false, pIy, pbq, pNz, pIw]
          by_cases q : fr d = 0 <;> simp [q]
        · rw [if_neg z1, if_neg z1]
          by_cases z3 : z = 3
          · rw [if_pos z3, if_pos z3]
            simp (disch := omega) only [pIx, pCl, pLe, pLt, pEq, pNm, pS1, pA0, pA8, pA16, pA24, pA32, pA40, pA48, pA56, pA64, pA72, pA80, pA88, pBs, pE8, pb0, pb1, pbo, if_true, if_false, pIy, pbq, pNz, pIw]
            rw [et]
            by_cases q : tP m fp d 3 = 1 <;> simp [q]
          · rw [if_neg z3, if_neg z3]
            by_cases z4 : z = 4
            · rw [if_pos z4, if_pos z4]
              unfold F_X0_barOfError
              simp (disch := omega) only [pIx, pCl, pLe, pLt, pEq, pNm, pS1, pA0, pA8, pA16, pA24, pA32, pA40, pA48, pA56, pA64, pA72, pA80, pA88, pBs, pE8, pb0, pb1, pbo, if_true, if_false, pIy, pbq, pNz, pIw]
              by_cases c1 : b < 0 <;> by_cases c2 : b ≤ 3 <;> by_cases c3 : fr (80 + d) = b <;> simp [c1, c2, c3, pBs]
            · rw [if_neg z4, if_neg z4]
              by_cases z5 : z = 5
              · rw [if_pos z5, if_pos z5]
                simp (disch := omega) only [pIx, pCl, pLe, pLt, pEq, pNm, pS1, pA0, pA8, pA16, pA24, pA32, pA40, pA48, pA56, pA64, pA72, pA80, pA88, pBs, pE8, pb0, pb1, pbo, if_true, if_false, pIy, pbq, pNz, pIw]
                by_cases q : fr d = 7 <;> simp [q]
              · rw [if_neg z5, if_neg z5]
                simp (disch := omega) only [pIx, pCl, pLe, pLt, pEq, pNm, pS1, pA0, pA8, pA16, pA24, pA32, pA40, pA48, pA56, pA64, pA72, pA80, pA88, pBs, pE8, pb0, pb1, pbo, if_true, if_false, pIy, pbq, pNz, pIw]
                by_cases q : fr (88 + d) = 1
                · rw [if_pos q, if_pos q]
                  have h6 : nz fr d = 6 := Decidable.byContradiction (fun r => by
                    have := ((hi.2.1 d hd).2.2.2.2.2.1 r).2.2
                    rw [e88, q] at this; exact absurd this (by decide))
                  obtain ⟨x, hx, hh, -⟩ := hub36 hm hi.2.2 hd (Or.inr (Or.inr (Or.inr h6)))
                  rw [cWake hm hi hd (by rw [h6]; decide) hx hh, pBs, show fr (32 + d) = nI x from by rw [← hh, pNz (by omega)], pCl (by omega)]
                  by_cases w : zWake m fu (tP m fp) (nz fr) d x = true <;> simp [w, pb]
                · rw [if_neg q, if_neg q, cCanFall hm hd hi.f hi.s, pBs, e0]
                  by_cases w : zCanFall m (nz fr) (nI d) = true <;> by_cases w2 : fr d = 6 <;> simp [w, w2, pb]
    · have cd' : zDev m a = false := by simpa using cd
      rw [cd', if_pos (show pb false = 0 from rfl), if_neg Bool.false_ne_true]
theorem rBar {m t : Nat} {ru td nw : Nat → Int32} {z a b c : Int32} (hm : m ≤ 8) (hR : 0 < m → wRu ru t) (hT : wT m (tT m td)) (hi : iT m (tT m td) (nz nw)) : F_X10_whyNot (nI m) ru td nw z a b c = some (zBar m ru (tT m td) (nz nw) (nw 96) z a b c, nw) := by
  unfold F_X10_whyNot zBar
  by_cases z2 : z = 2
  · subst z2
    rw [if_neg (by decide), if_neg (by decide), if_pos rfl, if_pos rfl, rTree hm, pBs, rIn, pBs]
    have c2' : (60 < a) ↔ ¬ (a ≤ 60) := not_le.symm
    by_cases m0 : m = 0
    · simp [m0, pb]
    · have hm0 : 0 < m := by omega
      by_cases c1 : a < 1 <;> by_cases c2 : a ≤ 60 <;> by_cases c3 : nw 96 + a ≤ 9999 <;> simp [m0, hm0, c1, c2, c2', c3, pb]
  · rw [if_neg z2, if_neg z2]
    by_cases cd : zDev m a = true
    · rw [cd, if_pos rfl]
      obtain ⟨d, hd, rfl⟩ := zDev_lt hm cd
      have e0 : nz nw d = nw d := pNz (by omega)
      have e80 : nz nw (80 + d) = nw (80 + d) := pNz (by omega)
      have e88 : nz nw (88 + d) = nw (88 + d) := pNz (by omega)
      have hp1 : ¬ pb true = 0 := by decide
      rw [pCl (by omega), e0, e80, e88, rDev, cd, rState (by omega)]
      by_cases z0 : z = 0
      · rw [if_pos z0, if_pos z0, rBarP hm hR hd, pBs]
      · rw [if_neg z0, if_neg z0]
        by_cases z1 : z = 1
        · rw [if_pos z1, if_pos z1, pBs, if_neg hp1, pBs]
          by_cases q : nw d = 0 <;> simp [q]
        · rw [if_neg z1, if_neg z1]
          by_cases z3 : z = 3
          · rw [if_pos z3, if_pos z3, pBs, if_neg hp1, rTold3 hm (by omega), pBs]
            obtain ⟨-, -, -, ⟨o, ho, e⟩, -⟩ := hT d hd
            rw [e]
            have : o = 0 ∨ o = 1 := by omega
            rcases this with rfl | rfl <;> rfl
          · rw [if_neg z3, if_neg z3]
            by_cases z4 : z = 4
            · rw [if_pos z4, if_pos z4, pBs, if_neg hp1, rIn, pBs]
              simp (disch := omega) only [pIx, pCl, pLe, pLt, pEq, pNm, pS1, pA0, pA8, pA16, pA24, pA32, pA40, pA48, pA56, pA64, pA72, pA80, pA88, pBs, pE8, pb0, pb1, pbo, if_true, if_false, pIy, pbq, pNz, pIw]
              have c2' : (3 < b) ↔ ¬ (b ≤ 3) := not_le.symm
              by_cases c1 : b < 0 <;> by_cases c2 : b ≤ 3 <;> by_cases c3 : nw (80 + d) = b <;> simp [c1, c2, c2', c3]
            · rw [if_neg z4, if_neg z4]
              by_cases z5 : z = 5
              · rw [if_pos z5, if_pos z5, pBs, if_neg hp1, pBs]
                by_cases q : nw d = 7 <;> simp [q]
              · rw [if_neg z5, if_neg z5]
                unfold F_X10_whySleep
                rw [rDev, cd, pBs, if_neg hp1, rState (by omega), pBs, rAsleep (by omega), pBs, rCanFall hm, pBs]
                have es : zSlp (nz nw) d = decide (nw (88 + d) = 1) := by
                  unfold zSlp; rw [e88]
                  have : ¬ d = 8 := by omega
                  simp [this]
                rw [es]
                by_cases q : nw (88 + d) = 1
                · have h6 : nz nw d = 6 := Decidable.byContradiction (fun r => by
                    have := ((hi.1.2.1 d hd).2.2.2.2.2.1 r).2.2
                    rw [e88, q] at this; exact absurd this (by decide))
                  obtain ⟨x, hx, hh, hx6⟩ := hub36 hm hi.1.2.2 hd (Or.inr (Or.inr (Or.inr h6)))
                  have h6' : nw d = 6 := by rw [← e0]; exact h6
                  rw [if_pos h6', if_neg (by simp [q, pb]), if_pos q, rWake hm hT hi hd h6 (by rw [e88]; exact q) hx hh hx6, pBs, hh, pCl (by omega)]
                  by_cases w : zWake m ru (tT m td) (nz nw) d x = true <;> simp [w, pb, pBs]
                · rw [if_neg q]
                  by_cases w : zCanFall m (nz nw) (nI d) = true <;> by_cases w2 : nw d = 6 <;> simp [w, w2, q, pb, pBs]
    · have cd' : zDev m a = false := by simpa using cd
      rw [cd', if_neg Bool.false_ne_true, rDev, cd']
      unfold F_X10_whyPlug F_X10_whySleep
      rw [rDev, cd']
      by_cases z0 : z = 0 <;> by_cases z1 : z = 1 <;> by_cases z3 : z = 3 <;> by_cases z4 : z = 4 <;> by_cases z5 : z = 5 <;> simp [z0, z1, z3, z4, z5, pb, pBs]
end

section
/-! program and reference side by side: one act -/
def Rl (m : Nat) (fr nw : Nat → Int32) : Prop := nz fr = nz nw ∧ ∀ d, d < m → nz nw d ≠ 0 → fr (24 + d) = nw (24 + d)
def Cx (m t : Nat) (ru fp td : Nat → Int32) : Prop := m ≤ 8 ∧ (0 < m → wRu ru t) ∧ wT m (tT m td) ∧ tP m fp = tT m td
theorem nf_at {f g : Nat → Int32} {k : Nat} (h : nf f = nf g) (hk : ¬ (k < 24 ∨ (32 ≤ k ∧ k < 96) ∨ k = 97)) : f k = g k := by
  have : nf f k = nf g k := by rw [h]
  rw [nfE hk, nfE hk] at this; exact this
/-- what an act leaves of the reference's row behind the tree -/
def kD (nw g : Nat → Int32) : Prop := ∀ k, 98 ≤ k → g k = nw k
theorem settle_0 {m : Nat} {T : Nat → Nat → Int32} {N : Nat → Int32} {d : Nat} (hm : m ≤ 8) (h : iT m T N) (hd : d < m) (hb : zBsy (nSettle m N) d = true) : N d ≠ 0 := fun q => by
  have h1 := (away_hub hm h.1 hd).mp q
  rw [← nSettle_hp (N := N) (k := 32 + d) hm (Or.inl ⟨by omega, by omega⟩)] at h1
  have h2 := (away_hub hm (nSettle_iN hm h.1) hd).mpr h1
  unfold zBsy at hb; rw [h2] at hb; exact absurd hb (by decide)
theorem zTk_v {m t : Nat} {R : Nat → Int32} {T : Nat → Nat → Int32} {N : Nat → Int32} {v v' : Int32} (h : zS m N = -1) : zTk m t R T N v = zTk m t R T N v' := by
  unfold zTk zGone; rw [if_pos h, if_pos h]
theorem tick_sim {m t : Nat} {ru fp td fr nw : Nat → Int32} (hc : Cx m t ru fp td) (h0 : 0 < m) (hr : Rl m fr nw) (hi : iU m ru (tT m td) (nz nw)) : ∃ f g, F_X0_passTick fr (nI m) ru fp = some f ∧ F_X10_tickNow (nI m) ru td nw = some g ∧ Rl m f g ∧ iU m ru (tT m td) (nz g) ∧ f 96 = cCap (fr 96) ∧ g 96 = nw 96 + 1 ∧ kD nw g := by
  obtain ⟨hm, hR, hT, hTT⟩ := hc
  have hR := hR h0
  obtain ⟨f, f1, f2, f3⟩ := cTick (fr := fr) (fu := ru) (fp := fp) hm hR (by rw [hTT]; exact hT) (by rw [hTT, hr.1]; exact hi.1)
  obtain ⟨g, g1, g2, g3⟩ := rTick (nw := nw) hm hR hT hi.1
  rw [hTT, hr.1] at f2 f3
  have hv : ∀ d, d < m → zS m (nz nw) = nI d → nz nw d ≠ 0 → zV m (nz nw) fr = zV m (nz nw) nw := fun d hd q q0 => by
    unfold zV; rw [q, pCl (by omega)]; exact hr.2 d hd q0
  have ez : nz f = nz g := by
    rw [f2, g2]
    rcases zS_c m (nz nw) with q | ⟨d, hd, q, hb⟩
    · exact zTk_v q
    · rw [hv d hd q (settle_0 hm hi.1 hd hb)]
  have hig : iU m ru (tT m td) (nz g) := by rw [g2]; exact zTk_iU hm hR hT hi
  refine ⟨f, g, f1, g1, ⟨ez, fun d hd hn => ?_⟩, hig, ?_, ?_, fun k hk => ?_⟩
  · have hn0 : nz nw d ≠ 0 := fun q => by
      apply hn
      have h1 := (away_hub hm hi.1.1 hd).mp q
      rw [← zTk_hp (N := nz nw) (t := t) (R := ru) (T := tT m td) (v := zV m (nz nw) nw) (k := 32 + d) hm (Or.inl ⟨by omega, by omega⟩), ← g2] at h1
      exact (away_hub hm hig.1.1 hd).mpr h1
    have e1 : f (24 + d) = nf f (24 + d) := (nfE (by omega)).symm
    have e2 : g (24 + d) = nf g (24 + d) := (nfE (by omega)).symm
    rw [e1, e2, f3, g3, pUn (by omega), pUn (by omega)]
    unfold nfT
    by_cases cf : zF m (tT m td) (nz nw) = true
    · rw [if_pos cf, if_pos cf]
      rcases zS_c m (nz nw) with q | ⟨s, hs, q, hb⟩
      · unfold zF at cf; rw [q] at cf; exact absurd cf (by simp)
      · rw [hv s hs q (settle_0 hm hi.1 hs hb), q, pCl (by omega)]
        by_cases c : d = s
        · subst c; rw [pUs, pUs]
        · rw [pUn (by omega), pUn (by omega), nfE (by omega), nfE (by omega)]; exact hr.2 d hd hn0
    · rw [if_neg cf, if_neg cf, nfE (by omega), nfE (by omega)]; exact hr.2 d hd hn0
  · have : f 96 = nf f 96 := (nfE (by omega)).symm
    rw [this, f3, pUs]
  · have : g 96 = nf g 96 := (nfE (by omega)).symm
    rw [this, g3, pUs]
  · have : g k = nf g k := (nfE (by omega)).symm
    rw [this, g3, pUn (by omega)]
    unfold nfT
    split
    · rename_i cf
      rcases zS_c m (nz nw) with q | ⟨s, hs, q, hb⟩
      · unfold zF at cf; rw [q] at cf; exact absurd cf (by simp)
      · rw [q, pCl (by omega), pUn (by omega), nfE (by omega)]
    · rw [nfE (by omega)]
/-! the acts but ticks -/
theorem plug_sim {m t : Nat} {ru fp td fr nw : Nat → Int32} {d c p : Nat} (hc : Cx m t ru fp td) (h0 : 0 < m) (hr : Rl m fr nw) (hi : iU m ru (tT m td) (nz nw)) (hd : d < m) (hd0 : nz nw d = 0) (hcc : c = 8 ∨ (c < m ∧ nz nw c ≠ 0)) (hp : p < 4) (hpp : (c = 8 ∧ nI p < ru 0) ∨ (c < m ∧ nI p < tT m td c 0)) : ∃ f g, F_X0_putIn fr (nI m) ru fp (nI d) (nI c) (nI p) = some f ∧ F_X10_plugs ru nw (nI d) (nI c) (nI p) = some (zDepth (nz g) d, g) ∧ Rl m f g ∧ iU m ru (tT m td) (nz g) ∧ f 96 = fr 96 ∧ g 96 = nw 96 ∧ kD nw g := by
  obtain ⟨hm, hR, hT, hTT⟩ := hc
  have hR := hR h0
  obtain ⟨f, f1, f2, f3⟩ := cPlug (m := m) (fr := fr) (fu := ru) (fp := fp) (d := d) (z := nI c) (z2 := nI p) (by omega)
  obtain ⟨g, g1, g2, g3⟩ := rPlug (nw := nw) hm hR hi hd hd0 hcc hp hpp
  have hig := nPlug_iU hm hR hi hd hd0 hcc hp hpp
  rw [hr.1] at f2
  refine ⟨f, g, f1, by rw [g1, g2], ⟨by rw [f2, g2], fun e he hn => ?_⟩, by rw [g2]; exact hig, ?_, ?_, fun k hk => ?_⟩
  · have e1 : f (24 + e) = nf f (24 + e) := (nfE (by omega)).symm
    have e2 : g (24 + e) = nf g (24 + e) := (nfE (by omega)).symm
    rw [e1, e2, f3, g3]
    by_cases ce : e = d
    · subst ce; rw [pUs, pUs]
    · rw [pUn (by omega), pUn (by omega), nfE (by omega), nfE (by omega)]
      apply hr.2 e he
      rw [g2] at hn
      have : nPlug ru (nz nw) d (nI c) (nI p) e = nz nw e := nPlug_same (by omega) (fun j hj => by omega)
      rw [this] at hn; exact hn
  · have : f 96 = nf f 96 := (nfE (by omega)).symm
    rw [this, f3, pUn (by omega), nfE (by omega)]
  · have : g 96 = nf g 96 := (nfE (by omega)).symm
    rw [this, g3, pUn (by omega), nfE (by omega)]
  · have : g k = nf g k := (nfE (by omega)).symm
    rw [this, g3, pUn (by omega), nfE (by omega)]
theorem pull_sim {m t : Nat} {ru fp td fr nw : Nat → Int32} {d : Nat} (hc : Cx m t ru fp td) (hr : Rl m fr nw) (hi : iU m ru (tT m td) (nz nw)) (hd : d < m) (hd0 : nz nw d ≠ 0) : ∃ f g, F_X0_pullOut fr (nI m) ru fp (nI d) = some f ∧ F_X10_unplugs (nI m) nw (nI d) = some (nI (pNum (fun e => decide (nz f e = 0)) m) - nI (pNum (fun e => decide (nz fr e = 0)) m), g) ∧ Rl m f g ∧ iU m ru (tT m td) (nz g) ∧ f 96 = fr 96 ∧ g 96 = nw 96 ∧ kD nw g := by
  obtain ⟨hm, hR, hT, hTT⟩ := hc
  obtain ⟨g, g1, g2, g3, g4, g5⟩ := rPull (nw := nw) hm hi.1.1 hd
  have f1 := cPull (fr := fr) (fu := ru) (fp := fp) hm hd
  have f2 : nz (nPull m (zPl (nz fr) d) fr) = nPull m (zPl (nz nw) d) (nz nw) := by rw [nPull_nz hm, hr.1]
  refine ⟨_, g, f1, ?_, ⟨by rw [f2, g2], fun e he hn => ?_⟩, by rw [g2]; exact nPull_iU hm hi hd, nf_at (nPull_nf hm) (by omega), g4, g5⟩
  · rw [g1, f2, hr.1, gone_num hm hi.1.1 hd hd0]
  · have hI := nPull_I (p := zPl (nz nw) d) hm hi.1.1.2.1
    have hne : ¬ zPl (nz nw) d e = true := fun q => by
      rw [g2] at hn; exact hn ((hI e he).1 ⟨he, q⟩).1
    have e0 : nPull m (zPl (nz nw) d) (nz nw) e = nz nw e := by have := (hI e he).2 (fun q => hne q.2) 0 (by decide); simpa using this
    rw [nf_at (nPull_nf hm) (by omega), g3 e he hne]
    rw [g2, e0] at hn
    exact hr.2 e he hn
theorem sup_sim {m t : Nat} {ru fp td fr nw : Nat → Int32} {d : Nat} (hc : Cx m t ru fp td) (hr : Rl m fr nw) (hi : iU m ru (tT m td) (nz nw)) (hd : d < m) : ∃ f g, F_X0_switchSupply fr (nI m) ru fp (nI d) = some f ∧ F_X10_turnsSupply (nI m) ru td nw (nI d) = some g ∧ Rl m f g ∧ iU m ru (tT m td) (nz g) ∧ f 96 = fr 96 ∧ g 96 = nw 96 ∧ kD nw g := by
  obtain ⟨hm, hR, hT, hTT⟩ := hc
  obtain ⟨f, f1, f2, f3⟩ := cSup (fr := fr) (fu := ru) (fp := fp) hm (by rw [hTT, hr.1]; exact hi) hd
  obtain ⟨g, g1, g2, g3⟩ := rSup (nw := nw) hm hT hi hd
  rw [hTT, hr.1] at f2
  have hig := nSup_iU hm hi hd
  refine ⟨f, g, f1, g1, ⟨by rw [f2, g2], fun e he hn => ?_⟩, by rw [g2]; exact hig, nf_at f3 (by omega), nf_at g3 (by omega), fun k hk => nf_at g3 (by omega)⟩
  rw [nf_at f3 (by omega), nf_at g3 (by omega)]
  apply hr.2 e he
  intro q
  apply hn
  have h1 := (away_hub hm hi.1.1 he).mp q
  have h2 : nSup m ru (tT m td) (nz nw) d (32 + e) = nz nw (32 + e) := by
    have ht : nTog (nz nw) d (32 + e) = nz nw (32 + e) := pUn (by omega)
    have hs : ∀ (k : Nat) (N : Nat → Int32), nShed m ru (tT m td) d k N (32 + e) = N (32 + e) := by
      intro k
      induction k with
      | zero => intro N; rfl
      | succ k ih =>
        intro N
        unfold nShed
        split
        · rename_i q
          rcases grd_c (m := m) (T := tT m td) (N := N) (z := nI d) hm with ⟨e1, e2⟩ | ⟨g, hg, e1, e2, e3, e4⟩
          · exact absurd e1 q.1
          · rw [ih, e1, pCl (by omega), nRefuse_hp hm (by omega) (Or.inl ⟨by omega, by omega⟩)]
        · rfl
    unfold nSup
    split
    · exact ht
    · split
      · split
        · rw [hs, ht]
        · rw [nRefuse_hp hm (by omega) (Or.inl ⟨by omega, by omega⟩), ht]
      · exact ht
  rw [g2]
  exact (away_hub hm hig.1.1 he).mpr (by rw [h2]; exact h1)
theorem err_iU {m : Nat} {R : Nat → Int32} {T : Nat → Nat → Int32} {N : Nat → Int32} {d : Nat} {v : Int32} (hm : m ≤ 8) (h : iU m R T N) (hd : d < m) : iU m R T (upd N (80 + d) v) := by
  obtain ⟨⟨⟨⟨L, hL⟩, hO, hC⟩, hS, hz⟩, hP, hA⟩ := h
  have hk : ∀ k, k ≠ 80 + d → upd N (80 + d) v k = N k := fun k q => pUn q
  have hC' : wC m (upd N (80 + d) v) := fun e he hs => by
    rw [hk e (by omega)] at hs; rw [hk (32 + e) (by omega)]
    rcases hC e he hs with q | ⟨b, hb, q1, q2⟩
    · exact Or.inl q
    · exact Or.inr ⟨b, hb, q1, by rw [hk b (by omega)]; exact q2⟩
  refine ⟨⟨⟨⟨L, hL.keep (fun e he => by rw [hk e (by omega)]) (fun e he => hk _ (by omega))⟩, fun e he => ?_, hC'⟩, hS.keep hm hC' (fun e he h6 => ?_) (fun e he => hk _ (by omega)), by rw [nzU (by omega), hz]⟩, hP.keep hm (fun k h1 h2 => hk k (by omega)), hA.keep (fun e he h6 => by rw [hk e (by omega)] at h6; exact ⟨h6, hk _ (by omega)⟩)⟩
  · have := hO e he
    unfold dOK at this ⊢
    rw [hk e (by omega), hk (8 + e) (by omega), hk (16 + e) (by omega), hk (32 + e) (by omega), hk (40 + e) (by omega), hk (48 + e) (by omega), hk (56 + e) (by omega), hk (64 + e) (by omega), hk (72 + e) (by omega), hk (88 + e) (by omega)]
    exact this
  · rw [hk e (by omega)] at h6; exact ⟨h6, hk _ (by omega)⟩
theorem slp_iU {m : Nat} {R : Nat → Int32} {T : Nat → Nat → Int32} {N : Nat → Int32} {d : Nat} {v : Int32} (hm : m ≤ 8) (h : iU m R T N) (hd : d < m) (h6 : N d = 6) (hv : v = 0 ∨ v = 1) : iU m R T (upd N (88 + d) v) := by
  obtain ⟨⟨⟨⟨L, hL⟩, hO, hC⟩, hS, hz⟩, hP, hA⟩ := h
  have hk : ∀ k, k ≠ 88 + d → upd N (88 + d) v k = N k := fun k q => pUn q
  have hC' : wC m (upd N (88 + d) v) := fun e he hs => by
    rw [hk e (by omega)] at hs; rw [hk (32 + e) (by omega)]
    rcases hC e he hs with q | ⟨b, hb, q1, q2⟩
    · exact Or.inl q
    · exact Or.inr ⟨b, hb, q1, by rw [hk b (by omega)]; exact q2⟩
  refine ⟨⟨⟨⟨L, hL.keep (fun e he => by rw [hk e (by omega)]) (fun e he => hk _ (by omega))⟩, fun e he => ?_, hC'⟩, hS.keep hm hC' (fun e he h6 => ?_) (fun e he => hk _ (by omega)), by rw [nzU (by omega), hz]⟩, hP.keep hm (fun k h1 h2 => hk k (by omega)), hA.keep (fun e he h6 => by rw [hk e (by omega)] at h6; exact ⟨h6, hk _ (by omega)⟩)⟩
  · have := hO e he
    unfold dOK at this ⊢
    rw [hk e (by omega), hk (8 + e) (by omega), hk (16 + e) (by omega), hk (32 + e) (by omega), hk (40 + e) (by omega), hk (48 + e) (by omega), hk (56 + e) (by omega), hk (64 + e) (by omega), hk (72 + e) (by omega)]
    by_cases ce : e = d
    · subst ce
      obtain ⟨o1, o2, o3, o4, o5, o6, o7, o8, o9⟩ := this
      rw [pUs]
      exact ⟨o1, o2, o3, o4, o5, fun q => absurd h6 q, fun q => ⟨(o7 q).1, hv⟩, o8, o9⟩
    · rw [hk (88 + e) (by omega)]; exact this
  · rename_i h6'
    rw [hk e (by omega)] at h6; exact ⟨h6, hk _ (by omega)⟩
theorem err_sim {m t : Nat} {ru fp td fr nw : Nat → Int32} {d : Nat} {v : Int32} (hc : Cx m t ru fp td) (hr : Rl m fr nw) (hi : iU m ru (tT m td) (nz nw)) (hd : d < m) : Rl m (upd fr (80 + d) v) (upd nw (80 + d) v) ∧ iU m ru (tT m td) (nz (upd nw (80 + d) v)) ∧ kD nw (upd nw (80 + d) v) := by
  have hm := hc.1
  refine ⟨⟨by rw [nzU (by omega), nzU (by omega), hr.1], fun e he hn => ?_⟩, by rw [nzU (by omega)]; exact err_iU hm hi hd, fun k hk => pUn (by omega)⟩
  rw [nzU (by omega), pUn (by omega)] at hn
  rw [pUn (by omega), pUn (by omega)]; exact hr.2 e he hn
theorem slp_sim {m t : Nat} {ru fp td fr nw : Nat → Int32} {d : Nat} (hc : Cx m t ru fp td) (hr : Rl m fr nw) (hi : iU m ru (tT m td) (nz nw)) (hd : d < m) (h6 : nz nw d = 6) : Rl m (upd fr (88 + d) (1 - fr (88 + d))) (upd nw (88 + d) (1 - nw (88 + d))) ∧ iU m ru (tT m td) (nz (upd nw (88 + d) (1 - nw (88 + d)))) ∧ kD nw (upd nw (88 + d) (1 - nw (88 + d))) := by
  have hm := hc.1
  have e : fr (88 + d) = nw (88 + d) := by
    have : nz fr (88 + d) = nz nw (88 + d) := by rw [hr.1]
    rw [pNz (by omega), pNz (by omega)] at this; exact this
  have hv : (1 - nw (88 + d)) = 0 ∨ (1 - nw (88 + d)) = 1 := by
    have := ((hi.1.1.2.1 d hd).2.2.2.2.2.2.1 h6).2
    rw [pNz (by omega)] at this
    rcases this with q | q <;> rw [q]
    · exact Or.inr (by decide)
    · exact Or.inl (by decide)
  refine ⟨⟨by rw [nzU (by omega), nzU (by omega), hr.1, e], fun x hx hn => ?_⟩, by rw [nzU (by omega)]; exact slp_iU hm hi hd h6 hv, fun k hk => pUn (by omega)⟩
  rw [nzU (by omega), pUn (by omega)] at hn
  rw [pUn (by omega), pUn (by omega)]; exact hr.2 x hx hn
theorem again_sim {m t : Nat} {ru fp td fr nw : Nat → Int32} {d : Nat} (hc : Cx m t ru fp td) (hr : Rl m fr nw) (hi : iU m ru (tT m td) (nz nw)) (hd : d < m) (h7 : nz nw d = 7) : ∃ f g, F_X0_queueAfresh fr (nI m) ru fp (nI d) = some f ∧ F_X10_waits (upd (upd nw (64 + d) 0) (24 + d) 0) (nI d) = some g ∧ Rl m f g ∧ iU m ru (tT m td) (nz g) ∧ f 96 = fr 96 ∧ g 96 = nw 96 ∧ kD nw g := by
  have hm := hc.1
  have hO := hi.1.1.2.1 d hd
  have ez : nz (rW (upd (upd nw (64 + d) 0) (24 + d) 0) d) = nQ (nz nw) d := by
    rw [rW_nz (by omega), nzO (by omega), nzU (by omega)]
    have t6 := hO.2.2.2.2.2.1 (by rw [h7]; decide)
    funext k; simp only [rW, nQ, nLow, upd]; grind
  have ef : nf (rW (upd (upd nw (64 + d) 0) (24 + d) 0) d) = upd (nf nw) (24 + d) 0 := by
    rw [rW_nf (by omega), nfO (by omega), nfU (by omega)]
  have cz : nz (nQ (upd fr (24 + d) 0) d) = nQ (nz nw) d := by rw [nQ_nz (by omega), nzO (by omega), hr.1]
  have cf : nf (nQ (upd fr (24 + d) 0) d) = upd (nf fr) (24 + d) 0 := by rw [nQ_nf (by omega), nfO (by omega)]
  refine ⟨_, _, ?_, rWaits (by omega), ⟨by rw [cz, ez], fun e he hn => ?_⟩, ?_, ?_, ?_, fun k hk => ?_⟩
  · unfold F_X0_queueAfresh; simp (disch := omega) only [pIx, pCl, pLe, pLt, pEq, pNm, pS1, pA0, pA8, pA16, pA24, pA32, pA40, pA48, pA56, pA64, pA72, pA80, pA88, pBs, pE8, pb0, pb1, pbo, if_true, if_false, pIy, pbq, pNz, pIw, cQueue]
  · have e1 : nQ (upd fr (24 + d) 0) d (24 + e) = nf (nQ (upd fr (24 + d) 0) d) (24 + e) := (nfE (by omega)).symm
    have e2 : rW (upd (upd nw (64 + d) 0) (24 + d) 0) d (24 + e) = nf (rW (upd (upd nw (64 + d) 0) (24 + d) 0) d) (24 + e) := (nfE (by omega)).symm
    rw [e1, e2, cf, ef]
    by_cases ce : e = d
    · subst ce; rw [pUs, pUs]
    · rw [pUn (by omega), pUn (by omega), nfE (by omega), nfE (by omega)]
      apply hr.2 e he
      rw [ez] at hn
      have := nQ_same (N := nz nw) (d := d) (e := e) (j := 0) (by omega) (by omega) ce (by decide)
      simp only [Nat.mul_zero, Nat.zero_add] at this
      rw [this] at hn; exact hn
  · rw [ez]
    exact ⟨nQ_iT hm hi.1 hd (by rw [h7]; decide) (by rw [h7]; decide), hi.2.1.keep hm (fun k h1 h2 => nQ_hp (by omega) (Or.inl ⟨h1, h2⟩)), hi.2.2.keep (nQ_k7 hm hd)⟩
  · have : nQ (upd fr (24 + d) 0) d 96 = nf (nQ (upd fr (24 + d) 0) d) 96 := (nfE (by omega)).symm
    rw [this, cf, pUn (by omega), nfE (by omega)]
  · have : rW (upd (upd nw (64 + d) 0) (24 + d) 0) d 96 = nf (rW (upd (upd nw (64 + d) 0) (24 + d) 0) d) 96 := (nfE (by omega)).symm
    rw [this, ef, pUn (by omega), nfE (by omega)]
  · have : rW (upd (upd nw (64 + d) 0) (24 + d) 0) d k = nf (rW (upd (upd nw (64 + d) 0) (24 + d) 0) d) k := (nfE (by omega)).symm
    rw [this, ef, pUn (by omega), nfE (by omega)]
end

section
/-! the diary and the past -/
theorem pM (a b : Nat) : nI a * nI b = nI (a * b) := by unfold nI; rw [Int32.ofNat_mul]
theorem pSub {a b : Nat} (h : b ≤ a) (ha : a < 1073741824) : nI a - nI b = nI (a - b) := by
  rw [q_eq, pk_sub_toInt (by omega) (by omega), nI_toInt (by omega)]; omega
theorem pDiv {a b : Nat} (ha : a < 1073741824) (hb : b < 1073741824) : nI a / nI b = nI (a / b) := by
  have h1 : a / b ≤ a := Nat.div_le_self a b
  rw [q_eq, Int32.toInt_div, nI_toInt (by omega), nI_toInt (by omega), nI_toInt (by omega), ← Int.ofNat_tdiv]
  generalize a / b = q at h1 ⊢
  rw [Int.bmod_eq_of_le (by omega) (by omega)]
theorem pMod {a b : Nat} (ha : a < 1073741824) (hb : b < 1073741824) : nI a - nI a / nI b * nI b = nI (a % b) := by
  have h1 : a / b * b ≤ a := Nat.div_mul_le_self a b
  rw [pDiv ha hb, pM, pSub h1 ha]
  congr 1
  have := Nat.div_add_mod a b
  rw [Nat.mul_comm] at this; omega
def wr3 (fd : Nat → Int32) (s : Nat) (a b c : Int32) : Nat → Int32 := upd (upd (upd fd (s * 3) a) (s * 3 + 1) b) (s * 3 + 2) c
theorem cWrite {fd : Nat → Int32} {tt : Nat} {z1 z2 z3 : Int32} (ht : tt < 536870912) : F_X1_write fd (nI tt) z1 z2 z3 = some (wr3 fd (tt % 100) z1 z2 z3, nI (tt + 1)) := by
  unfold F_X1_write wr3
  have e : (nI tt - nI tt / 100 * 100) = nI (tt % 100) := pMod (a := tt) (b := 100) (by omega) (by decide)
  have e3 : (nI tt - nI tt / 100 * 100) * 3 = nI (tt % 100 * 3) := by rw [e]; exact pM _ 3
  have e4 : nI (tt % 100 * 3) + 1 = nI (tt % 100 * 3 + 1) := nI_add _ 1
  have e5 : nI (tt % 100 * 3) + 2 = nI (tt % 100 * 3 + 2) := nI_add _ 2
  rw [e3, e4, e5, pIx (by omega) (by omega), pIx (by omega) (by omega), pIx (by omega) (by omega), pCl (by omega), pCl (by omega), pCl (by omega), pS1]
def shf (nw : Nat → Int32) (j : Nat) : Nat → Int32 := fun k => if 99 ≤ k ∧ k + 3 < 99 + j then nw (k + 3) else nw k
theorem shf_s {nw : Nat → Int32} {j : Nat} (hj : 3 ≤ j) : upd (shf nw j) (96 + j) (shf nw j (99 + j)) = shf nw (j + 1) := by
  funext k; simp only [shf, upd]; grind
def ent (g : Nat → Int32) (n : Nat) (a b c : Int32) : Prop := g (99 + 3 * n) = a ∧ g (99 + 3 * n + 1) = b ∧ g (99 + 3 * n + 2) = c
theorem rThose_o {m : Nat} {nw f : Nat → Int32} (hm : m ≤ 8) (h : nz f = nz nw) : (F_X10_those (nI m) f 6) = some (pSet (fun d => decide (nz nw d = 6)) m) := by rw [rThose hm, h]
theorem rNote {m n : Nat} {nw : Nat → Int32} {z1 z2 : Int32} (hm : m ≤ 8) (h98 : nw 98 = nI n) (hn : n ≤ 60) : ∃ g, F_X10_note (nI m) nw z1 z2 = some g ∧ (∀ k, k < 98 → g k = nw k) ∧ g 98 = nI (min (n + 1) 60) ∧ ent g (min (n + 1) 60 - 1) z1 z2 (nI (pNum (fun d => decide (nz nw d = 6)) m)) ∧ ∀ i c, i < min (n + 1) 60 - 1 → c < 3 → g (99 + 3 * i + c) = nw (99 + 3 * (i + (n + 1 - min (n + 1) 60)) + c) := by
  unfold F_X10_note
  rw [h98]
  by_cases c : n = 60
  · subst c
    have c60 : nI 60 = 60 := rfl
    rw [if_pos c60]
    have hl := pLoop (m := 180) (L := fun n i a => FL_X10_note_14 (nI m) nw z1 z2 n i a) (g := fun j a => upd a (96 + j) (a (99 + j))) (fin := fun _ => upd (upd (upd (upd (upd (shf nw 180) 98 59) (99 + 3 * 59) z1) (99 + 3 * 59 + 1) z2) (99 + 3 * 59 + 2) (nI (pNum (fun d => decide (nz nw d = 6)) m))) 98 60) (fun j a => 3 ≤ j ∧ a = shf nw j) (fun n j a hj hI => ?_) (fun n a hI => ?_) 177 1000 3 nw (by omega) (by omega) ⟨by omega, ?_⟩
    · refine ⟨_, hl.1, fun k hk => ?_, ?_, ⟨?_, ?_, ?_⟩, fun i c hi hc => ?_⟩
      · simp only [upd, shf]; grind
      · exact pUs
      · simp only [upd]; grind
      · simp only [upd]; grind
      · simp only [upd]; grind
      · simp only [upd, shf]; grind
    · obtain ⟨h3, rfl⟩ := hI
      refine ⟨?_, by omega, shf_s h3⟩
      show FL_X10_note_14 (nI m) nw z1 z2 (n + 1) (nI j) (shf nw j) = FL_X10_note_14 (nI m) nw z1 z2 n (nI (j + 1)) (upd (shf nw j) (96 + j) (shf nw j (99 + j)))
      have e1 : (99 : Int32) + nI j = nI (99 + j) := nI_add 99 j
      have e2 : nI (99 + j) - 3 = nI (96 + j) := by
        rw [show (3 : Int32) = nI 3 from rfl, pSub (by omega) (by omega)]; congr 1; omega
      rw [FL_X10_note_14, if_neg (by rw [show (180 : Int32) = nI 180 from rfl, pLe (by omega) (by omega)]; omega), e1, e2, pIx (by omega) (by omega), pIx (by omega) (by omega), pCl (by omega), pCl (by omega), pS1]
    · obtain ⟨h3, rfl⟩ := hI
      show FL_X10_note_14 (nI m) nw z1 z2 (n + 1) (nI 180) (shf nw 180) = _
      have s98 : shf nw 180 98 = 60 := by simp only [shf]; rw [if_neg (by omega), h98]; rfl
      have e59 : (60 : Int32) - 1 = 59 := by decide
      rw [FL_X10_note_14, if_pos (show (180 : Int32) ≤ nI 180 from by decide), s98, pUs, e59]
      have i1 : (99 + 3 * (59 : Int32)) = nI (99 + 3 * 59) := by decide
      have i2 : nI (99 + 3 * 59) + 1 = nI (99 + 3 * 59 + 1) := by decide
      have i3 : nI (99 + 3 * 59) + 2 = nI (99 + 3 * 59 + 2) := by decide
      rw [i1, i2, i3, pIx (by omega) (by omega), pIx (by omega) (by omega)]
      simp only [pCl (show 99 + 3 * 59 < 2147483648 by omega), pCl (show 99 + 3 * 59 + 1 < 2147483648 by omega), pCl (show 99 + 3 * 59 + 2 < 2147483648 by omega)]
      have ez : nz (upd (upd (upd (shf nw 180) 98 59) (99 + 3 * 59) z1) (99 + 3 * 59 + 1) z2) = nz nw := by
        funext k; simp only [nz, upd, shf]; grind
      rw [rThose_o hm ez, pBs, pBits hm, pBs, pIy (by omega) (by omega)]
      have v59 : upd (upd (upd (upd (shf nw 180) 98 59) (99 + 3 * 59) z1) (99 + 3 * 59 + 1) z2) (99 + 3 * 59 + 2) (nI (pNum (fun d => decide (nz nw d = 6)) m)) 98 = 59 := by
        simp only [upd]; grind
      rw [v59]; rfl
    · funext k; simp only [shf]; rw [if_neg (by omega)]
  · have c60 : ¬ nI n = 60 := by rw [show (60 : Int32) = nI 60 from rfl, pEq (by omega) (by omega)]; exact c
    rw [if_neg c60]
    have i0 : (3 : Int32) * nI n = nI (3 * n) := pM 3 n
    have i1 : (99 : Int32) + nI (3 * n) = nI (99 + 3 * n) := nI_add 99 _
    have i2 : nI (99 + 3 * n) + 1 = nI (99 + 3 * n + 1) := nI_add _ 1
    have i3 : nI (99 + 3 * n) + 2 = nI (99 + 3 * n + 2) := nI_add _ 2
    rw [i0, i1, i2, i3, pIx (by omega) (by omega), pIx (by omega) (by omega)]
    simp only [pCl (show 99 + 3 * n < 2147483648 by omega), pCl (show 99 + 3 * n + 1 < 2147483648 by omega), pCl (show 99 + 3 * n + 2 < 2147483648 by omega)]
    have ez : nz (upd (upd nw (99 + 3 * n) z1) (99 + 3 * n + 1) z2) = nz nw := by rw [nzO (by omega), nzO (by omega)]
    rw [rThose_o hm ez, pBs, pBits hm, pBs, pIy (by omega) (by omega), pBs, pUn (by omega), pUn (by omega), pUn (by omega), h98, pS1]
    have emin : min (n + 1) 60 = n + 1 := by omega
    rw [emin]
    refine ⟨_, rfl, fun k hk => ?_, pUs, ⟨?_, ?_, ?_⟩, fun i c hi hc => ?_⟩
    · rw [pUn (by omega), pUn (by omega), pUn (by omega), pUn (by omega)]
    · rw [show n + 1 - 1 = n from by omega, pUn (by omega), pUn (by omega), pUn (by omega), pUs]
    · rw [show n + 1 - 1 = n from by omega, pUn (by omega), pUn (by omega), pUs]
    · rw [show n + 1 - 1 = n from by omega, pUn (by omega), pUs]
    · rw [pUn (by omega), pUn (by omega), pUn (by omega), pUn (by omega)]
      congr 1; omega
/-- the diary, as both hold it -/
def DV (fd : Nat → Int32) (tt : Nat) (nw : Nat → Int32) : Prop := nw 98 = nI (min tt 60) ∧ ∀ i c, i < min tt 60 → c < 3 → nw (99 + 3 * (min tt 60 - 1 - i) + c) = fd (((tt - 1 - i) % 100) * 3 + c)
theorem DV_congr {fd nw nw' : Nat → Int32} {tt : Nat} (h : ∀ k, 98 ≤ k → k < 279 → nw' k = nw k) (hd : DV fd tt nw) : DV fd tt nw' :=
  ⟨by rw [h 98 (by omega) (by omega)]; exact hd.1, fun i c hi hc => by rw [h _ (by omega) (by omega)]; exact hd.2 i c hi hc⟩
theorem DV_wr {fd nw : Nat → Int32} {tt u : Nat} {a b c : Int32} (h : DV fd u nw) (h1 : u ≤ tt) (h2 : tt < u + 40) : DV (wr3 fd (tt % 100) a b c) u nw :=
  ⟨h.1, fun i c hi hc => by
    rw [h.2 i c hi hc]; unfold wr3
    rw [pUn (by omega), pUn (by omega), pUn (by omega)]⟩
theorem DV_note {m : Nat} {fd nw g0 : Nat → Int32} {tt : Nat} {z1 z2 : Int32} (hm : m ≤ 8) (h : DV fd tt nw) (hk : kD nw g0) : ∃ g, F_X10_note (nI m) g0 z1 z2 = some g ∧ (∀ k, k < 98 → g k = g0 k) ∧ DV (wr3 fd (tt % 100) z1 z2 (nI (pNum (fun d => decide (nz g0 d = 6)) m))) (tt + 1) g := by
  have h98 : g0 98 = nI (min tt 60) := by rw [hk 98 (by omega)]; exact h.1
  obtain ⟨g, g1, g2, g3, ⟨g4, g5, g6⟩, g7⟩ := rNote (nw := g0) (z1 := z1) (z2 := z2) hm h98 (by omega)
  have em : min (min tt 60 + 1) 60 = min (tt + 1) 60 := by omega
  rw [em] at g3 g4 g5 g6 g7
  refine ⟨g, g1, g2, g3, fun i c hi hc => ?_⟩
  by_cases ci : i = 0
  · subst ci
    unfold wr3
    rw [show tt + 1 - 1 - 0 = tt from by omega, show min (tt + 1) 60 - 1 - 0 = min (tt + 1) 60 - 1 from by omega]
    have : c = 0 ∨ c = 1 ∨ c = 2 := by omega
    rcases this with rfl | rfl | rfl
    · simp only [Nat.add_zero]; rw [g4, pUn (by omega), pUn (by omega), pUs]
    · rw [g5, pUn (by omega), pUs]
    · rw [g6, pUs]
  · rw [g7 _ c (by omega) hc, hk _ (by omega)]
    have e := h.2 (i - 1) c (by omega) hc
    rw [show min tt 60 - 1 - (i - 1) = min (tt + 1) 60 - 1 - i + (min tt 60 + 1 - min (tt + 1) 60) from by omega] at e
    rw [e]
    unfold wr3
    rw [show tt - 1 - (i - 1) = tt - i from by omega, show tt + 1 - 1 - i = tt - i from by omega]
    rw [pUn (by omega), pUn (by omega), pUn (by omega)]
/-- one state, as both hold it -/
def SR (m : Nat) (R : Nat → Int32) (T : Nat → Nat → Int32) (fr fd : Nat → Int32) (tt : Nat) (nw : Nat → Int32) : Prop := Rl m fr nw ∧ iU m R T (nz nw) ∧ (∃ k, k ≤ 9999 ∧ fr 96 = nI k ∧ nw 96 = nI k) ∧ DV fd tt nw
theorem nz_congr {f g : Nat → Int32} (h : ∀ k, k < 98 → f k = g k) : nz f = nz g := by
  funext k; simp only [nz]
  split
  · exact h k (by omega)
  · rfl
theorem Rl_congr {m : Nat} {fr fr' nw nw' : Nat → Int32} (hm : m ≤ 8) (h1 : ∀ k, k < 98 → fr' k = fr k) (h2 : ∀ k, k < 98 → nw' k = nw k) (h : Rl m fr nw) : Rl m fr' nw' := by
  unfold Rl
  rw [nz_congr h1, nz_congr h2]
  exact ⟨h.1, fun d hd hn => by rw [h1 _ (by omega), h2 _ (by omega)]; exact h.2 d hd hn⟩
theorem SR_congr {m : Nat} {R : Nat → Int32} {T : Nat → Nat → Int32} {fr fr' fd nw nw' : Nat → Int32} {tt : Nat} (hm : m ≤ 8) (h1 : ∀ k, k < 98 → fr' k = fr k) (h2 : ∀ k, k < 279 → nw' k = nw k) (h : SR m R T fr fd tt nw) : SR m R T fr' fd tt nw' := by
  refine ⟨Rl_congr hm h1 (fun k hk => h2 k (by omega)) h.1, ?_, ?_, DV_congr (fun k _ hk => h2 k hk) h.2.2.2⟩
  · rw [nz_congr (f := nw') (g := nw) (fun k hk => h2 k (by omega))]; exact h.2.1
  · rw [h1 96 (by omega), h2 96 (by omega)]; exact h.2.2.1
theorem SR_wr {m : Nat} {R : Nat → Int32} {T : Nat → Nat → Int32} {fr fd nw : Nat → Int32} {u tt : Nat} {a b c : Int32} (h : SR m R T fr fd u nw) (h1 : u ≤ tt) (h2 : tt < u + 40) : SR m R T fr (wr3 fd (tt % 100) a b c) u nw := ⟨h.1, h.2.1, h.2.2.1, DV_wr h.2.2.2 h1 h2⟩
def rwX (fq : Nat → Int32) (q : Nat) : Nat → Int32 := fun k => fq (98 * q + k)
def rwY (kp : Nat → Int32) (q : Nat) : Nat → Int32 := fun k => kp (279 * q + k)
/-- the past, as both hold it -/
def KP (m : Nat) (R : Nat → Int32) (T : Nat → Nat → Int32) (fq : Nat → Int32) (nx p : Nat) (fd : Nat → Int32) (tt : Nat) (kp : Nat → Int32) : Prop := p ≤ 40 ∧ nx < 40 ∧ p ≤ tt ∧ ∀ i, i < p → SR m R T (rwX fq ((nx + 39 - i) % 40)) fd (tt - 1 - i) (rwY kp (p - 1 - i))
theorem cKeep {fq fr : Nat → Int32} {nx p : Nat} (hn : nx < 40) (hp : p ≤ 40) : F_X4_keep fq (nI nx) (nI p) fr = some (va_cpy fr fq 0 (nx * 98) 98, nI ((nx + 1) % 40), nI (min (p + 1) 40)) := by
  unfold F_X4_keep
  have e : nI nx * 98 = nI (nx * 98) := pM nx 98
  have e2 : (nI (nx + 1) - nI (nx + 1) / 40 * 40) = nI ((nx + 1) % 40) := pMod (a := nx + 1) (b := 40) (by omega) (by decide)
  rw [e, pS1, pS1, e2, if_pos (nI_pos (by omega)), pCl (by omega), if_pos (by omega)]
  have e3 : (if 40 < nI (p + 1) then (40 : Int32) else nI (p + 1)) = nI (min (p + 1) 40) := by
    rw [show (40 : Int32) = nI 40 from rfl]
    by_cases c : p = 40
    · subst c; rfl
    · rw [if_neg (by rw [pLt (by omega) (by omega)]; omega)]; congr 1; omega
  rw [e3]
def kps (kp : Nat → Int32) (j : Nat) : Nat → Int32 := fun k => if k + 279 < j then kp (k + 279) else kp k
def kpw (kp nw : Nat → Int32) (a j : Nat) : Nat → Int32 := fun k => if 279 * a ≤ k ∧ k < 279 * a + j then nw (k - 279 * a) else kp k
theorem rKeepL {ac : Int32} {nw kp kp0 : Nat → Int32} {a : Nat} (ha : a < 40) : FL_X10_keep_54 ac nw kp0 1000 0 (nI a) kp = some (nI (a + 1), kpw kp nw a 279) := by
  have hl := pLoop (m := 279) (L := fun n i x => FL_X10_keep_54 ac nw kp0 n i (nI a) x) (g := fun j x => upd x (279 * a + j) (nw j)) (fin := fun x => (nI (a + 1), x)) (fun j x => x = kpw kp nw a j) (fun n j x hj hI => ?_) (fun n x hI => ?_) 279 1000 0 kp (by omega) (by omega) ?_
  · exact hl.1.trans (by rw [hl.2])
  · subst hI
    refine ⟨?_, ?_⟩
    · show FL_X10_keep_54 ac nw kp0 (n + 1) (nI j) (nI a) (kpw kp nw a j) = FL_X10_keep_54 ac nw kp0 n (nI (j + 1)) (nI a) _
      have e1 : (279 : Int32) * nI a = nI (279 * a) := pM 279 a
      rw [FL_X10_keep_54, if_neg (by rw [show (279 : Int32) = nI 279 from rfl, pLe (by omega) (by omega)]; omega), e1, nI_add, pIx (by omega) (by omega), pIx (by omega) (by omega), pCl (by omega), pCl (by omega), pS1]
    · funext k; simp only [kpw, upd]
      by_cases c : k = 279 * a + j
      · subst c; simp
      · rw [if_neg c]
        by_cases c2 : 279 * a ≤ k ∧ k < 279 * a + j
        · rw [if_pos c2, if_pos (by omega)]
        · rw [if_neg c2, if_neg (by omega)]
  · subst hI
    show FL_X10_keep_54 ac nw kp0 (n + 1) (nI 279) (nI a) (kpw kp nw a 279) = _
    rw [FL_X10_keep_54, if_pos (show (279 : Int32) ≤ nI 279 from by decide), pS1]
  · funext k; simp only [kpw]; rw [if_neg (by omega)]
theorem rKeep {nw kp : Nat → Int32} {p : Nat} (hp : p ≤ 40) : F_X10_keep (nI p) nw kp = some (nI (min (p + 1) 40), if p = 40 then kpw (kps kp 11160) nw 39 279 else kpw kp nw p 279) := by
  unfold F_X10_keep
  by_cases c : p = 40
  · subst c
    rw [if_pos (show nI 40 = 40 from rfl), if_pos rfl]
    have hl := pLoop (m := 11160) (L := fun n i x => FL_X10_keep_13 (nI 40) nw kp n i (nI 40) x) (g := fun j x => upd x (j - 279) (x j)) (fin := fun _ => (nI 40, kpw (kps kp 11160) nw 39 279)) (fun j x => 279 ≤ j ∧ x = kps kp j) (fun n j x hj hI => ?_) (fun n x hI => ?_) 10881 12000 279 kp (by omega) (by omega) ⟨by omega, ?_⟩
    · exact hl.1
    · obtain ⟨h3, rfl⟩ := hI
      refine ⟨?_, by omega, ?_⟩
      · show FL_X10_keep_13 (nI 40) nw kp (n + 1) (nI j) (nI 40) (kps kp j) = FL_X10_keep_13 (nI 40) nw kp n (nI (j + 1)) (nI 40) _
        have e2 : nI j - 279 = nI (j - 279) := by
          rw [show (279 : Int32) = nI 279 from rfl, pSub (by omega) (by omega)]
        rw [FL_X10_keep_13, if_neg (by rw [show (11160 : Int32) = nI 11160 from rfl, pLe (by omega) (by omega)]; omega), e2, pIx (by omega) (by omega), pIx (by omega) (by omega), pCl (by omega), pCl (by omega), pS1]
      · funext k; simp only [kps, upd]
        by_cases c : k = j - 279
        · rw [if_pos c, if_neg (by omega), if_pos (by omega), show k + 279 = j from by omega]
        · rw [if_neg c]
          by_cases c2 : k + 279 < j
          · rw [if_pos c2, if_pos (by omega)]
          · rw [if_neg c2, if_neg (by omega)]
    · obtain ⟨h3, rfl⟩ := hI
      show FL_X10_keep_13 (nI 40) nw kp (n + 1) (nI 11160) (nI 40) (kps kp 11160) = _
      rw [FL_X10_keep_13, if_pos (show (11160 : Int32) ≤ nI 11160 from by decide), show nI 40 - 1 = nI 39 from by decide, rKeepL (by omega)]
    · funext k; simp only [kps]; rw [if_neg (by omega)]
  · rw [if_neg (by rw [show (40 : Int32) = nI 40 from rfl, pEq (by omega) (by omega)]; exact c), if_neg c, rKeepL (by omega)]
    congr 3; omega
/-- keeping, and writing behind it -/
theorem KP_keep {m : Nat} {R : Nat → Int32} {T : Nat → Nat → Int32} {fr fq fd nw kp : Nat → Int32} {nx p tt : Nat} {a b c : Int32} (hm : m ≤ 8) (h : KP m R T fq nx p fd tt kp) (hs : SR m R T fr fd tt nw) : KP m R T (va_cpy fr fq 0 (nx * 98) 98) ((nx + 1) % 40) (min (p + 1) 40) (wr3 fd (tt % 100) a b c) (tt + 1) (if p = 40 then kpw (kps kp 11160) nw 39 279 else kpw kp nw p 279) := by
  obtain ⟨h1, h2, h3, h4⟩ := h
  refine ⟨by omega, by omega, by omega, fun i hi => ?_⟩
  by_cases ci : i = 0
  · subst ci
    rw [show tt + 1 - 1 - 0 = tt from by omega, show ((nx + 1) % 40 + 39 - 0) % 40 = nx from by omega]
    refine SR_congr hm (fun k hk => ?_) (fun k hk => ?_) (SR_wr (tt := tt) (a := a) (b := b) (c := c) hs (by omega) (by omega))
    · simp only [rwX, va_cpy]
      rw [if_pos (by omega)]; congr 1; omega
    · simp only [rwY]
      by_cases c : p = 40
      · subst c
        simp only [if_true, kpw]
        rw [if_pos (by omega), show 279 * (min (40 + 1) 40 - 1 - 0) + k - 279 * 39 = k from by omega]
      · rw [if_neg c]
        simp only [kpw]
        rw [if_pos (by omega)]; congr 1; omega
  · have hs' := h4 (i - 1) (by omega)
    rw [show tt + 1 - 1 - i = tt - 1 - (i - 1) from by omega]
    refine SR_congr hm (fun k hk => ?_) (fun k hk => ?_) (SR_wr (tt := tt) (a := a) (b := b) (c := c) hs' (by omega) (by omega))
    · simp only [rwX, va_cpy]
      rw [show ((nx + 1) % 40 + 39 - i) % 40 = (nx + 39 - (i - 1)) % 40 from by omega, if_neg (by omega)]
    · simp only [rwY]
      by_cases c : p = 40
      · subst c
        simp only [if_true, kpw, kps]
        rw [if_neg (by omega), if_pos (by omega), show 279 * (min (40 + 1) 40 - 1 - i) + k + 279 = 279 * (40 - 1 - (i - 1)) + k from by omega]
      · rw [if_neg c]
        simp only [kpw]
        rw [if_neg (by omega)]; congr 1; omega
end

section
/-! an act, both sides -/
def ans (m : Nat) (z a : Int32) (fr f : Nat → Int32) (r : Int32) : Prop :=
  (z = 0 → r = zDepth (nz f) a.toNatClampNeg) ∧ (z = 1 → r = nI (pNum (fun e => decide (nz f e = 0)) m) - nI (pNum (fun e => decide (nz fr e = 0)) m)) ∧ (z = 2 → r = nI (pNum (fun e => decide (nz f e = 6)) m)) ∧ (z = 3 → r = nz f (72 + a.toNatClampNeg)) ∧ (z = 4 → r = nz fr (80 + a.toNatClampNeg)) ∧ (z = 5 → r = nz f (16 + a.toNatClampNeg)) ∧ (¬ (z = 0 ∨ z = 1 ∨ z = 2 ∨ z = 3 ∨ z = 4 ∨ z = 5) → r = nz f (88 + a.toNatClampNeg)) ∧ (z ≠ 2 → ∃ d, d < m ∧ a = nI d)
/-- how the program closes an act -/
def cEnd (m : Nat) (nx ph tt : Int32) (fq fd f : Nat → Int32) (z0 z a : Int32) : Option (Int32 × Int32 × Int32 × Int32 × (Nat → Int32) × (Nat → Int32) × (Nat → Int32)) := if z0 = 0 then some (-1, nx, ph, tt, f, fq, fd) else (F_X1_write fd tt z a (nI (pNum (fun d => decide (nz f d = 6)) m))).bind fun w => some (-1, nx, ph, w.2, f, fq, w.1)
theorem cEnd_e {m : Nat} {nx ph tt : Int32} {fu fp fq fd f : Nat → Int32} {z0 z a : Int32} (hm : m ≤ 8) : (if z0 = 0 then some (-1, nx, ph, tt, f, fq, fd) else (F_X0_running f (nI m) fu fp).bind fun o => (F_X1_write fd tt z a o).bind fun w => some (-1, nx, ph, w.2, f, fq, w.1)) = cEnd m nx ph tt fq fd f z0 z a := by
  unfold cEnd; rw [cRunning hm, pBs]
def cTks (m : Nat) (ru fp : Nat → Int32) : Nat → (Nat → Int32) → Nat → Int32
  | 0, f => f
  | k + 1, f => cTks m ru fp k ((F_X0_passTick f (nI m) ru fp).getD f)
theorem lt01 {a : Int32} (h : ¬ a < 1) : ¬ a < 0 := fun w => by
  apply h
  have h0 : (0 : Int32).toInt = 0 := by decide
  have h1 : (1 : Int32).toInt = 1 := by decide
  rw [q_lt] at w ⊢; omega
theorem ticks_sim {m t : Nat} {ru fp td fr0 nw0 fq0 fd0 : Nat → Int32} {z0 z1 z3 z4 x7 nx0 ph0 tt0 : Int32} {q : Nat} (hc : Cx m t ru fp td) (h0 : 0 < m) (hq : q ≤ 60) : ∀ (k j n n' u : Nat) (fr nw : Nat → Int32), j + k = q → k < n → k < n' → Rl m fr nw → iU m ru (tT m td) (nz nw) → fr 96 = nI u → nw 96 = nI u → u + k ≤ 9999 →
    ∃ g, (∀ nx ph tt fq fd, FL_X9_attempt_97 (nI m) nx0 ph0 tt0 fr0 ru fp fq0 fd0 z0 z1 (nI q) z3 z4 n x7 (nI j) nx ph tt fr fq fd = cEnd m nx ph tt fq fd (cTks m ru fp k fr) z0 z1 (nI q)) ∧ FL_X10_ticks_2 (nI m) ru td nw0 (nI q) n' (nI j) nw = some (nI (pNum (fun d => decide (nz (cTks m ru fp k fr) d = 6)) m), g) ∧ Rl m (cTks m ru fp k fr) g ∧ iU m ru (tT m td) (nz g) ∧ cTks m ru fp k fr 96 = nI (u + k) ∧ g 96 = nI (u + k) ∧ kD nw g
  | k, j, 0, n', u, fr, nw, _, h, _, _, _, _, _, _ => absurd h (by omega)
  | k, j, n + 1, 0, u, fr, nw, _, _, h, _, _, _, _, _ => absurd h (by omega)
  | 0, j, n + 1, n' + 1, u, fr, nw, h1, _, _, hr, hi, e1, e2, _ => by
    obtain rfl : j = q := by omega
    have hm := hc.1
    refine ⟨nw, fun nx ph tt fq fd => ?_, ?_, hr, hi, e1, e2, fun k _ => rfl⟩
    · rw [FL_X9_attempt_97, if_pos (le_rfl32 _)]; exact cEnd_e hm
    · rw [FL_X10_ticks_2, if_pos (le_rfl32 _), rThose hm, pBs, pBits hm, pBs]; unfold cTks; rw [hr.1]
  | k + 1, j, n + 1, n' + 1, u, fr, nw, h1, h2, h3, hr, hi, e1, e2, h4 => by
    have hm := hc.1
    obtain ⟨f, g, a1, a2, a3, a4, a5, a6, a7⟩ := tick_sim hc h0 hr hi
    have f96 : f 96 = nI (u + 1) := by
      rw [a5, e1]; unfold cCap; rw [pS1, show (9999 : Int32) = nI 9999 from rfl, if_neg (by rw [pLt (by omega) (by omega)]; omega)]
    have g96 : g 96 = nI (u + 1) := by rw [a6, e2, pS1]
    have ec : cTks m ru fp (k + 1) fr = cTks m ru fp k f := by rw [cTks, a1]; rfl
    rw [ec]
    obtain ⟨g', b1, b2, b3, b4, b5, b6, b7⟩ := ticks_sim (fr0 := fr0) (nw0 := nw0) (fq0 := fq0) (fd0 := fd0) (z0 := z0) (z1 := z1) (z3 := z3) (z4 := z4) (x7 := x7) (nx0 := nx0) (ph0 := ph0) (tt0 := tt0) hc h0 hq k (j + 1) n n' (u + 1) f g (by omega) (by omega) (by omega) a3 a4 f96 g96 (by omega)
    have hj : ¬ nI q ≤ nI j := by rw [pLe (by omega) (by omega)]; omega
    refine ⟨g', fun nx ph tt fq fd => ?_, ?_, b3, b4, by rw [b5]; congr 1; omega, by rw [b6]; congr 1; omega, fun x hx => (b7 x hx).trans (a7 x hx)⟩
    · rw [FL_X9_attempt_97, if_neg hj, a1, pBs, pS1]; exact b1 nx ph tt fq fd
    · rw [FL_X10_ticks_2, if_neg hj, a2, pBs, pS1]; exact b2
theorem zb_dev {m : Nat} {R : Nat → Int32} {T : Nat → Nat → Int32} {N : Nat → Int32} {tm z a b c : Int32} (hm : m ≤ 8) (h : zBar m R T N tm z a b c = -1) (hz : z ≠ 2) : ∃ d, d < m ∧ a = nI d := by
  unfold zBar at h
  rw [if_neg hz] at h
  by_cases cd : zDev m a = true
  · exact zDev_lt hm cd
  · rw [if_neg cd] at h; exact absurd h (by decide)
def doS (m : Nat) (ru fp td fr nw : Nat → Int32) (z a b c : Int32) (f g : Nat → Int32) (r : Int32) : Prop := F_X10_doNow (nI m) ru td nw z a b c = some (r, g) ∧ Rl m f g ∧ iU m ru (tT m td) (nz g) ∧ (∃ u, u ≤ 9999 ∧ f 96 = nI u ∧ g 96 = nI u) ∧ kD nw g ∧ ans m z a fr f r ∧ ∀ nx ph tt fq fd z0, F_X9_attempt (nI m) nx ph tt fr ru fp fq fd z0 z a b c = if z0 = 0 then cEnd m nx ph tt fq fd f z0 z a else (F_X4_keep fq nx ph fr).bind fun o => cEnd m o.2.1 o.2.2 tt o.1 fd f z0 z a
theorem do_sim {m t u : Nat} {ru fp td fr nw : Nat → Int32} {z a b c : Int32} (hc : Cx m t ru fp td) (hr : Rl m fr nw) (hi : iU m ru (tT m td) (nz nw)) (hu : u ≤ 9999) (e1 : fr 96 = nI u) (e2 : nw 96 = nI u) (hb : zBar m ru (tT m td) (nz nw) (nw 96) z a b c = -1) : ∃ f g r, doS m ru fp td fr nw z a b c f g r := by
  have hm := hc.1
  have hbar : F_X0_barOf fr (nI m) ru fp z a b c = some (-1) := by
    rw [cBar hm hc.2.1 (by rw [hr.1]; exact hi.1.1), hc.2.2.2, hr.1, e1, ← e2, hb]
  by_cases z2 : z = 2
  · subst z2
    unfold zBar at hb
    rw [if_pos rfl] at hb
    have h0 : 0 < m := Nat.pos_of_ne_zero (fun q => by rw [if_pos q] at hb; exact absurd hb (by decide))
    rw [if_neg (by omega)] at hb
    have c1 : ¬ a < 1 := fun q => by rw [if_pos q] at hb; exact absurd hb (by decide)
    rw [if_neg c1] at hb
    have c2 : a ≤ 60 := Decidable.byContradiction (fun q => by rw [if_neg q] at hb; exact absurd hb (by decide))
    rw [if_pos c2] at hb
    have c3 : nw 96 + a ≤ 9999 := Decidable.byContradiction (fun q => by rw [if_neg q] at hb; exact absurd hb (by decide))
    obtain ⟨q, hq, rfl⟩ := nI_of (lt01 c1)
    have hq60 : q ≤ 60 := by rw [show (60 : Int32) = nI 60 from rfl, pLe hq (by omega)] at c2; exact c2
    rw [e2, nI_add, show (9999 : Int32) = nI 9999 from rfl, pLe (by omega) (by omega)] at c3
    obtain ⟨g, b1, b2, b3, b4, b5, b6, b7⟩ := ticks_sim (fr0 := fr) (nw0 := nw) (fq0 := fr) (fd0 := fr) (z0 := 0) (z1 := 0) (z3 := b) (z4 := c) (x7 := 0) (nx0 := 0) (ph0 := 0) (tt0 := 0) hc h0 hq60 q 0 1000 1000 u fr nw (by omega) (by omega) (by omega) hr hi e1 e2 (by omega)
    refine ⟨_, g, _, ?_, b3, b4, ⟨u + q, by omega, b5, b6⟩, b7, ⟨fun w => absurd w (by decide), fun w => absurd w (by decide), fun _ => rfl, fun w => absurd w (by decide), fun w => absurd w (by decide), fun w => absurd w (by decide), fun w => absurd (Or.inr (Or.inr (Or.inl rfl))) w, fun w => absurd rfl w⟩, fun nx ph tt fq fd z0 => ?_⟩
    · unfold F_X10_doNow F_X10_ticks
      rw [if_neg (by decide), if_neg (by decide), if_pos rfl, show (0 : Int32) = nI 0 from rfl, b2, pBs]
    · obtain ⟨g', d1, -⟩ := ticks_sim (fr0 := fr) (nw0 := nw) (fq0 := fq) (fd0 := fd) (z0 := z0) (z1 := 2) (z3 := b) (z4 := c) (x7 := -1) (nx0 := nx) (ph0 := ph) (tt0 := tt) hc h0 hq60 q 0 1000 1000 u fr nw (by omega) (by omega) (by omega) hr hi e1 e2 (by omega)
      unfold F_X9_attempt
      rw [hbar, pBs, if_pos rfl]
      by_cases c0 : z0 = 0
      · refine Eq.trans ?_ (if_pos c0).symm; rw [if_pos c0, if_neg (by decide), if_neg (by decide), if_pos rfl]; exact d1 nx ph tt fq fd
      · rw [if_neg c0, if_neg c0]
        congr 1
        funext o
        rw [if_neg (by decide), if_neg (by decide), if_pos rfl]; exact d1 _ _ tt _ fd
  · obtain ⟨d, hd, rfl⟩ := zb_dev hm hb z2
    have hdv : zDev m (nI d) = true := by rw [zDev_nI hm (by omega)]; simpa using hd
    have h0 : 0 < m := by omega
    have e0 : nz nw d = nw d := pNz (by omega)
    unfold zBar at hb
    rw [if_neg z2, if_pos hdv, pCl (by omega)] at hb
    by_cases z0' : z = 0
    · subst z0'
      rw [if_pos rfl] at hb
      unfold zBarP at hb
      by_cases ch : zHub m (tT m td) b = true
      · rw [if_pos ch] at hb
        by_cases cp : c < 0 ∨ zPrt ru (tT m td) b ≤ c
        · rw [if_pos cp] at hb; exact absurd hb (by decide)
        · rw [if_neg cp] at hb
          by_cases cs : nz nw d = 0 ∧ (b = 8 ∨ nz nw b.toNatClampNeg ≠ 0) ∧ zFull m (nz nw) b c = -1
          · obtain ⟨h, hh, rfl, hh2⟩ := hub_nI hm ch
            obtain ⟨p, hp, rfl⟩ := nI_of (show ¬ c < 0 from fun w => cp (Or.inl w))
            have hlt : nI p < zPrt ru (tT m td) (nI h) := not_le.mp (fun w => cp (Or.inr w))
            have hh8 : (nI h = 8) = (h = 8) := pE8 (by omega)
            have hpp : ((h = 8 ∧ nI p < ru 0) ∨ (h < m ∧ nI p < tT m td h 0)) ∧ p < 4 := by
              unfold zPrt at hlt
              by_cases q8 : h = 8
              · rw [if_pos (by rw [hh8]; exact q8)] at hlt
                refine ⟨Or.inl ⟨q8, hlt⟩, ?_⟩
                obtain ⟨-, -, -, -, pp, h4, -, e⟩ := hc.2.1 h0
                rw [e, pLt hp (by omega)] at hlt; omega
              · have hhm : h < m := hh2.resolve_left q8
                rw [if_neg (by rw [hh8]; exact q8), pCl (by omega)] at hlt
                refine ⟨Or.inr ⟨hhm, hlt⟩, ?_⟩
                obtain ⟨⟨pp, h4, e⟩, -⟩ := hc.2.2.1 h hhm
                rw [e, pLt hp (by omega)] at hlt; omega
            have hcc : h = 8 ∨ (h < m ∧ nz nw h ≠ 0) := by
              by_cases q8 : h = 8
              · exact Or.inl q8
              · refine Or.inr ⟨hh2.resolve_left q8, ?_⟩
                rcases cs.2.1 with w | w
                · rw [hh8] at w; exact absurd w q8
                · rw [pCl (by omega)] at w; exact w
            obtain ⟨f, g, b1, b2, b3, b4, b5, b6, b7⟩ := plug_sim hc h0 hr hi hd cs.1 hcc hpp.2 hpp.1
            refine ⟨f, g, _, ?_, b3, b4, ⟨u, hu, b5.trans e1, b6.trans e2⟩, b7, ⟨fun _ => by rw [pCl (by omega), b3.1], fun w => absurd w (by decide), fun w => absurd w (by decide), fun w => absurd w (by decide), fun w => absurd w (by decide), fun w => absurd w (by decide), fun w => absurd (Or.inl rfl) w, fun _ => ⟨d, hd, rfl⟩⟩, fun nx ph tt fq fd z0 => ?_⟩
            · unfold F_X10_doNow; rw [if_pos rfl, b2, pBs]
            · unfold F_X9_attempt
              rw [hbar, pBs, if_pos rfl]
              by_cases c0 : z0 = 0
              · refine Eq.trans ?_ (if_pos c0).symm; rw [if_pos c0, if_pos rfl, b1, pBs]; exact cEnd_e hm
              · rw [if_neg c0, if_neg c0]
                congr 1; funext o
                rw [if_pos rfl, b1, pBs]; exact cEnd_e hm
          · rw [if_neg cs] at hb; exact absurd hb (by decide)
      · rw [if_neg ch] at hb; exact absurd hb (by decide)
    · rw [if_neg z0'] at hb
      by_cases z1 : z = 1
      · subst z1
        rw [if_pos rfl] at hb
        have hd0 : nz nw d ≠ 0 := fun w => by rw [if_pos w] at hb; exact absurd hb (by decide)
        obtain ⟨f, g, b1, b2, b3, b4, b5, b6, b7⟩ := pull_sim hc hr hi hd hd0
        refine ⟨f, g, _, ?_, b3, b4, ⟨u, hu, b5.trans e1, b6.trans e2⟩, b7, ⟨fun w => absurd w (by decide), fun _ => rfl, fun w => absurd w (by decide), fun w => absurd w (by decide), fun w => absurd w (by decide), fun w => absurd w (by decide), fun w => absurd (Or.inr (Or.inl rfl)) w, fun _ => ⟨d, hd, rfl⟩⟩, fun nx ph tt fq fd z0 => ?_⟩
        · unfold F_X10_doNow; rw [if_neg (by decide), if_pos rfl, b2, pBs]
        · unfold F_X9_attempt
          rw [hbar, pBs, if_pos rfl]
          by_cases c0 : z0 = 0
          · refine Eq.trans ?_ (if_pos c0).symm; rw [if_pos c0, if_neg (by decide), if_pos rfl, b1, pBs]; exact cEnd_e hm
          · rw [if_neg c0, if_neg c0]
            congr 1; funext o
            rw [if_neg (by decide), if_pos rfl, b1, pBs]; exact cEnd_e hm
      · rw [if_neg z1] at hb
        by_cases z3 : z = 3
        · subst z3
          obtain ⟨f, g, b1, b2, b3, b4, b5, b6, b7⟩ := sup_sim hc hr hi hd
          refine ⟨f, g, nz f (72 + d), ?_, b3, b4, ⟨u, hu, b5.trans e1, b6.trans e2⟩, b7, ⟨fun w => absurd w (by decide), fun w => absurd w (by decide), fun w => absurd w (by decide), fun _ => by rw [pCl (by omega)], fun w => absurd w (by decide), fun w => absurd w (by decide), fun w => absurd (Or.inr (Or.inr (Or.inr (Or.inl rfl)))) w, fun _ => ⟨d, hd, rfl⟩⟩, fun nx ph tt fq fd z0 => ?_⟩
          · unfold F_X10_doNow
            rw [if_neg (by decide), if_neg (by decide), if_neg (by decide), if_pos rfl, b2, pBs]
            simp (disch := omega) only [pIx, pIy, pCl, pA72]
            rw [b3.1, pNz (by omega)]
          · unfold F_X9_attempt
            rw [hbar, pBs, if_pos rfl]
            by_cases c0 : z0 = 0
            · refine Eq.trans ?_ (if_pos c0).symm; rw [if_pos c0, if_neg (by decide), if_neg (by decide), if_neg (by decide), if_pos rfl, b1, pBs]; exact cEnd_e hm
            · rw [if_neg c0, if_neg c0]
              congr 1; funext o
              rw [if_neg (by decide), if_neg (by decide), if_neg (by decide), if_pos rfl, b1, pBs]; exact cEnd_e hm
        · rw [if_neg z3] at hb
          by_cases z4 : z = 4
          · subst z4
            obtain ⟨b3, b4, b7⟩ := err_sim (v := b) hc hr hi hd
            refine ⟨_, _, nz fr (80 + d), ?_, b3, b4, ⟨u, hu, ?_, ?_⟩, b7, ⟨fun w => absurd w (by decide), fun w => absurd w (by decide), fun w => absurd w (by decide), fun w => absurd w (by decide), fun _ => by rw [pCl (by omega)], fun w => absurd w (by decide), fun w => absurd (Or.inr (Or.inr (Or.inr (Or.inr (Or.inl rfl))))) w, fun _ => ⟨d, hd, rfl⟩⟩, fun nx ph tt fq fd z0 => ?_⟩
            · unfold F_X10_doNow
              rw [if_neg (by decide), if_neg (by decide), if_neg (by decide), if_neg (by decide), if_pos rfl]
              simp (disch := omega) only [pIx, pIy, pCl, pA80]
              rw [hr.1, pNz (by omega)]
            · rw [pUn (by omega)]; exact e1
            · rw [pUn (by omega)]; exact e2
            · unfold F_X9_attempt
              rw [hbar, pBs, if_pos rfl]
              by_cases c0 : z0 = 0
              · refine Eq.trans ?_ (if_pos c0).symm; rw [if_pos c0, if_neg (by decide), if_neg (by decide), if_neg (by decide), if_neg (by decide), if_pos rfl, pA80, pIx (by omega) (by omega), pCl (by omega)]; exact cEnd_e hm
              · rw [if_neg c0, if_neg c0]
                congr 1; funext o
                rw [if_neg (by decide), if_neg (by decide), if_neg (by decide), if_neg (by decide), if_pos rfl, pA80, pIx (by omega) (by omega), pCl (by omega)]; exact cEnd_e hm
          · rw [if_neg z4] at hb
            by_cases z5 : z = 5
            · subst z5
              rw [if_pos rfl] at hb
              have h7 : nz nw d = 7 := Decidable.byContradiction (fun w => by rw [if_neg w] at hb; exact absurd hb (by decide))
              obtain ⟨f, g, b1, b2, b3, b4, b5, b6, b7⟩ := again_sim hc hr hi hd h7
              refine ⟨f, g, nz f (16 + d), ?_, b3, b4, ⟨u, hu, b5.trans e1, b6.trans e2⟩, b7, ⟨fun w => absurd w (by decide), fun w => absurd w (by decide), fun w => absurd w (by decide), fun w => absurd w (by decide), fun w => absurd w (by decide), fun _ => by rw [pCl (by omega)], fun w => absurd (Or.inr (Or.inr (Or.inr (Or.inr (Or.inr rfl))))) w, fun _ => ⟨d, hd, rfl⟩⟩, fun nx ph tt fq fd z0 => ?_⟩
              · unfold F_X10_doNow
                rw [if_neg (by decide), if_neg (by decide), if_neg (by decide), if_neg (by decide), if_neg (by decide), if_pos rfl]
                simp (disch := omega) only [pIx, pIy, pCl, pA64, pA24, pA16, b2, pBs]
                rw [b3.1, pNz (by omega)]
              · unfold F_X9_attempt
                rw [hbar, pBs, if_pos rfl]
                by_cases c0 : z0 = 0
                · refine Eq.trans ?_ (if_pos c0).symm; rw [if_pos c0, if_neg (by decide), if_neg (by decide), if_neg (by decide), if_neg (by decide), if_neg (by decide), if_pos rfl, b1, pBs]; exact cEnd_e hm
                · rw [if_neg c0, if_neg c0]
                  congr 1; funext o
                  rw [if_neg (by decide), if_neg (by decide), if_neg (by decide), if_neg (by decide), if_neg (by decide), if_pos rfl, b1, pBs]; exact cEnd_e hm
            · rw [if_neg z5] at hb
              have h6 : nz nw d = 6 := by
                by_cases w : nz nw (88 + d) = 1
                · refine Decidable.byContradiction (fun r => ?_)
                  have := ((hi.1.1.2.1 d hd).2.2.2.2.2.1 r).2.2
                  rw [w] at this; exact absurd this (by decide)
                · rw [if_neg w] at hb
                  refine Decidable.byContradiction (fun r => ?_)
                  rw [if_neg (fun q => r q.2)] at hb; exact absurd hb (by decide)
              obtain ⟨b3, b4, b7⟩ := slp_sim hc hr hi hd h6
              refine ⟨_, _, nz (upd fr (88 + d) (1 - fr (88 + d))) (88 + d), ?_, b3, b4, ⟨u, hu, ?_, ?_⟩, b7, ⟨fun w => absurd w z0', fun w => absurd w z1, fun w => absurd w z2, fun w => absurd w z3, fun w => absurd w z4, fun w => absurd w z5, fun _ => by rw [pCl (by omega)], fun _ => ⟨d, hd, rfl⟩⟩, fun nx ph tt fq fd z0 => ?_⟩
              · unfold F_X10_doNow
                rw [if_neg z0', if_neg z1, if_neg z2, if_neg z3, if_neg z4, if_neg z5]
                simp (disch := omega) only [pIx, pIy, pCl, pA88]
                rw [b3.1, pNz (by omega)]
              · rw [pUn (by omega)]; exact e1
              · rw [pUn (by omega)]; exact e2
              · unfold F_X9_attempt
                rw [hbar, pBs, if_pos rfl]
                by_cases c0 : z0 = 0
                · refine Eq.trans ?_ (if_pos c0).symm; rw [if_pos c0, if_neg z0', if_neg z1, if_neg z2, if_neg z3, if_neg z4, if_neg z5, pA88, pIx (by omega) (by omega), pIx (by omega) (by omega), pCl (by omega)]; exact cEnd_e hm
                · rw [if_neg c0, if_neg c0]
                  congr 1; funext o
                  rw [if_neg z0', if_neg z1, if_neg z2, if_neg z3, if_neg z4, if_neg z5, pA88, pIx (by omega) (by omega), pIx (by omega) (by omega), pCl (by omega)]; exact cEnd_e hm
end

section
/-! acts with past and diary -/
def WW (m t : Nat) (ru fp td fr fq : Nat → Int32) (nx p : Nat) (fd : Nat → Int32) (tt : Nat) (nw kp : Nat → Int32) : Prop := Cx m t ru fp td ∧ SR m ru (tT m td) fr fd tt nw ∧ KP m ru (tT m td) fq nx p fd tt kp
theorem zBar_4 {m : Nat} {R : Nat → Int32} {T : Nat → Nat → Int32} {N : Nat → Int32} {tm z a b c : Int32} : zBar m R T N tm z a b c = -1 ∨ ∃ k, k < 4 ∧ zBar m R T N tm z a b c = nI k := by
  have h0 : ∃ k, k < 4 ∧ (0 : Int32) = nI k := ⟨0, by omega, rfl⟩
  have h1 : ∃ k, k < 4 ∧ (1 : Int32) = nI k := ⟨1, by omega, rfl⟩
  have h2 : ∃ k, k < 4 ∧ (2 : Int32) = nI k := ⟨2, by omega, rfl⟩
  have h3 : ∃ k, k < 4 ∧ (3 : Int32) = nI k := ⟨3, by omega, rfl⟩
  unfold zBar zBarP
  repeat' split
  all_goals first | exact Or.inl rfl | exact Or.inr h0 | exact Or.inr h1 | exact Or.inr h2 | exact Or.inr h3
theorem why_bc {mn : Int32} {ru td nw : Nat → Int32} {z a b c b' c' : Int32} (h0 : z = 0 → b' = b ∧ c' = c) (h4 : z = 4 → b' = b) : F_X10_whyNot mn ru td nw z a b' c' = F_X10_whyNot mn ru td nw z a b c := by
  unfold F_X10_whyNot
  by_cases q : z = 0
  · obtain ⟨rfl, rfl⟩ := h0 q; rfl
  · by_cases q4 : z = 4
    · obtain rfl := h4 q4; simp only [if_neg q]
    · simp only [if_neg q, if_neg q4]
theorem do_bc {mn : Int32} {ru td nw : Nat → Int32} {z a b c b' c' : Int32} (h0 : z = 0 → b' = b ∧ c' = c) (h4 : z = 4 → b' = b) : F_X10_doNow mn ru td nw z a b' c' = F_X10_doNow mn ru td nw z a b c := by
  unfold F_X10_doNow
  by_cases q : z = 0
  · obtain ⟨rfl, rfl⟩ := h0 q; rfl
  · by_cases q4 : z = 4
    · obtain rfl := h4 q4; simp only [if_neg q]
    · simp only [if_neg q, if_neg q4]
theorem act_sim {m t : Nat} {ru fp td fr fq fd nw kp : Nat → Int32} {nx p tt : Nat} {z a b c b' c' : Int32} (h : WW m t ru fp td fr fq nx p fd tt nw kp) (ht : tt < 268435456) (h0 : z = 0 → b' = b ∧ c' = c) (h4 : z = 4 → b' = b) :
    (∃ k, k < 4 ∧ F_X10_whyNot (nI m) ru td nw z a b' c' = some (nI k, nw) ∧ ∀ nx ph tt fq fd z0, F_X9_attempt (nI m) nx ph tt fr ru fp fq fd z0 z a b c = some (nI k, nx, ph, tt, fr, fq, fd)) ∨
    (F_X10_whyNot (nI m) ru td nw z a b' c' = some (-1, nw) ∧ ∃ fr' fq' nx' p' fd' nw' kp' r, F_X9_attempt (nI m) (nI nx) (nI p) (nI tt) fr ru fp fq fd 1 z a b c = some (-1, nI nx', nI p', nI (tt + 1), fr', fq', fd') ∧ F_X10_act (nI m) (nI p) ru td nw kp z a b' c' = some (r, nI p', nw', kp') ∧ WW m t ru fp td fr' fq' nx' p' fd' (tt + 1) nw' kp' ∧ ans m z a fr fr' r) := by
  obtain ⟨hc, ⟨hr, hi, ⟨u, hu, e1, e2⟩, hd⟩, hk⟩ := h
  have hm := hc.1
  have hw : F_X10_whyNot (nI m) ru td nw z a b' c' = some (zBar m ru (tT m td) (nz nw) (nw 96) z a b c, nw) := by
    rw [why_bc h0 h4, rBar hm hc.2.1 hc.2.2.1 hi.1]
  have hbar : F_X0_barOf fr (nI m) ru fp z a b c = some (zBar m ru (tT m td) (nz nw) (nw 96) z a b c) := by
    rw [cBar hm hc.2.1 (by rw [hr.1]; exact hi.1.1), hc.2.2.2, hr.1, e1, ← e2]
  rcases zBar_4 (m := m) (R := ru) (T := tT m td) (N := nz nw) (tm := nw 96) (z := z) (a := a) (b := b) (c := c) with q | ⟨k, hk4, q⟩
  · right
    refine ⟨by rw [hw, q], ?_⟩
    obtain ⟨f, g, r, d1, d2, d3, ⟨u', hu', d4, d5⟩, d6, d7, d8⟩ := do_sim hc hr hi hu e1 e2 q
    obtain ⟨g', n1, n2, n3⟩ := DV_note (m := m) (z1 := z) (z2 := a) hm hd d6
    have hkk := KP_keep (a := z) (b := a) (c := nI (pNum (fun d => decide (nz g d = 6)) m)) hm hk ⟨hr, hi, ⟨u, hu, e1, e2⟩, hd⟩
    have ez : nz g' = nz g := nz_congr n2
    refine ⟨f, _, (nx + 1) % 40, min (p + 1) 40, wr3 fd (tt % 100) z a (nI (pNum (fun d => decide (nz g d = 6)) m)), g', _, r, ?_, ?_, ⟨hc, ⟨Rl_congr hm (fun _ _ => rfl) n2 d2, by rw [ez]; exact d3, ⟨u', hu', d4, by rw [n2 96 (by omega)]; exact d5⟩, n3⟩, hkk⟩, d7⟩
    · rw [d8, if_neg (by decide), cKeep hk.2.1 hk.1, pBs]
      unfold cEnd
      rw [if_neg (by decide), cWrite (by omega), pBs, d2.1]
    · unfold F_X10_act
      rw [rKeep hk.1, pBs, do_bc h0 h4, d1, pBs]
      show (F_X10_note (nI m) g z a).bind _ = _
      rw [n1, pBs]
  · left
    refine ⟨k, hk4, by rw [hw, q], fun nx ph tt fq fd z0 => ?_⟩
    unfold F_X9_attempt
    rw [hbar, pBs, q, if_neg (by rw [pNm (by omega)]; exact id)]
theorem done_m {fz : Nat → Int32} : F_X9_isDone fz (-1) = some (1, fz) := rfl
theorem done_k {fz : Nat → Int32} {k : Nat} (h : k < 4) : F_X9_isDone fz (nI k) = some (0, upd fz k (fz k + 1)) := by
  unfold F_X9_isDone
  rw [if_neg (nI_pos (by omega)), if_neg (by rw [show (4 : Int32) = nI 4 from rfl, pLe (by omega) (by omega)]; omega), pIx (by omega) (by omega), pIx (by omega) (by omega), if_neg (by rw [pNm (by omega)]; exact id), pCl (by omega)]
theorem one_ne {fz : Nat → Int32} : ¬ ((1 : Int32), fz).1 = 0 := by show ¬ (1 : Int32) = 0; decide
/-- what a public act shows -/
def actS (m t : Nat) (ru fp td : Nat → Int32) (X : Option (Int32 × Int32 × Int32 × Int32 × (Nat → Int32) × (Nat → Int32) × (Nat → Int32) × (Nat → Int32))) (Y : Option (Int32 × Int32 × (Nat → Int32) × (Nat → Int32) × (Nat → Int32))) (tt : Nat) : Prop :=
  ∃ r fr' fq' nx' p' fd' tt' nw' kp' fz', X = some (r, nI nx', nI p', nI tt', fr', fq', fd', fz') ∧ Y = some (r, nI p', nw', fz', kp') ∧ WW m t ru fp td fr' fq' nx' p' fd' tt' nw' kp' ∧ tt' ≤ tt + 1
section
variable {m t : Nat} {ru fp td fr fq fd nw kp fz : Nat → Int32} {nx p tt : Nat}
theorem hand_k {k : Nat} {z a b c : Int32} (hk : k < 4) (h : F_X10_whyNot (nI m) ru td nw z a b c = some (nI k, nw)) : F_X10_hand (nI m) (nI p) ru td nw fz kp z a b c = some (-1, nI p, nw, upd fz k (fz k + 1), kp) := by
  unfold F_X10_hand
  rw [h, pBs]
  show (if nI k = -1 then _ else (if nI k < 0 ∨ 4 ≤ (nI k).toNatClampNeg then none else _)) = _
  rw [if_neg (by rw [pNm (by omega)]; exact id), pIx (by omega) (by omega), pIx (by omega) (by omega), pCl (by omega)]
theorem hand_m {z a b c r p' : Int32} {nw' kp' : Nat → Int32} (h : F_X10_whyNot (nI m) ru td nw z a b c = some (-1, nw)) (h2 : F_X10_act (nI m) (nI p) ru td nw kp z a b c = some (r, p', nw', kp')) : F_X10_hand (nI m) (nI p) ru td nw fz kp z a b c = some (r, p', nw', fz, kp') := by
  unfold F_X10_hand
  rw [h, pBs]
  show (if (-1 : Int32) = -1 then (F_X10_act (nI m) (nI p) ru td nw kp z a b c).bind _ else _) = _
  rw [if_pos rfl, h2, pBs]
theorem plug_act {z1 z2 z3 : Int32} (h : WW m t ru fp td fr fq nx p fd tt nw kp) (ht : tt < 268435456) : actS m t ru fp td (F_X9_plug (nI m) (nI nx) (nI p) (nI tt) ru fp fr fq fd fz z1 z2 z3) (F_X10_plug (nI m) (nI p) ru td nw fz kp z1 z2 z3) tt := by
  unfold F_X9_plug F_X10_plug
  rcases act_sim (z := 0) (a := z1) (b := z2) (c := z3) (b' := z2) (c' := z3) h ht (fun _ => ⟨rfl, rfl⟩) (fun _ => rfl) with ⟨k, hk, w, x⟩ | ⟨w, fr', fq', nx', p', fd', nw', kp', r, x, y, hw, ha⟩
  · rw [x, pBs, done_k hk, pBs, hand_k hk w, pBs]
    exact ⟨_, fr, fq, nx, p, fd, tt, nw, kp, _, rfl, rfl, h, by omega⟩
  · rw [x, pBs, done_m, pBs, hand_m w y, pBs]
    obtain ⟨d, hd, rfl⟩ := ha.2.2.2.2.2.2.2 (by decide)
    have hm := hw.1.1
    rw [if_neg one_ne, cDepth (by omega), pBs]
    refine ⟨_, fr', fq', nx', p', fd', tt + 1, nw', kp', _, rfl, ?_, hw, by omega⟩
    rw [ha.1 rfl, pCl (by omega)]
theorem unplug_act {z1 : Int32} (h : WW m t ru fp td fr fq nx p fd tt nw kp) (ht : tt < 268435456) : actS m t ru fp td (F_X9_unplug (nI m) (nI nx) (nI p) (nI tt) ru fp fr fq fd fz z1) (F_X10_unplug (nI m) (nI p) ru td nw fz kp z1) tt := by
  unfold F_X9_unplug F_X10_unplug
  have hm := h.1.1
  rw [cAll hm, pBs, pCount hm, pBs]
  rcases act_sim (z := 1) (a := z1) (b := -1) (c := -1) (b' := 0) (c' := 0) h ht (fun q => absurd q (by decide)) (fun q => absurd q (by decide)) with ⟨k, hk, w, x⟩ | ⟨w, fr', fq', nx', p', fd', nw', kp', r, x, y, hw, ha⟩
  · rw [x, pBs, done_k hk, pBs, hand_k hk w, pBs]
    exact ⟨_, fr, fq, nx, p, fd, tt, nw, kp, _, rfl, rfl, h, by omega⟩
  · rw [x, pBs, done_m, pBs, hand_m w y, pBs]
    rw [if_neg one_ne, cAll hm, pBs, pCount hm, pBs]
    refine ⟨_, fr', fq', nx', p', fd', tt + 1, nw', kp', _, rfl, ?_, hw, by omega⟩
    rw [ha.2.1 rfl]
theorem tick_act {z1 : Int32} (h : WW m t ru fp td fr fq nx p fd tt nw kp) (ht : tt < 268435456) : actS m t ru fp td (F_X9_tick (nI m) (nI nx) (nI p) (nI tt) ru fp fr fq fd fz z1) (F_X10_tick (nI m) (nI p) ru td nw fz kp z1) tt := by
  unfold F_X9_tick F_X10_tick
  have hm := h.1.1
  rcases act_sim (z := 2) (a := z1) (b := -1) (c := -1) (b' := 0) (c' := 0) h ht (fun q => absurd q (by decide)) (fun q => absurd q (by decide)) with ⟨k, hk, w, x⟩ | ⟨w, fr', fq', nx', p', fd', nw', kp', r, x, y, hw, ha⟩
  · rw [x, pBs, done_k hk, pBs, hand_k hk w, pBs]
    exact ⟨_, fr, fq, nx, p, fd, tt, nw, kp, _, rfl, rfl, h, by omega⟩
  · rw [x, pBs, done_m, pBs, hand_m w y, pBs]
    rw [if_neg one_ne, cRunning hm, pBs]
    refine ⟨_, fr', fq', nx', p', fd', tt + 1, nw', kp', _, rfl, ?_, hw, by omega⟩
    rw [ha.2.2.1 rfl]
theorem supply_act {z1 : Int32} (h : WW m t ru fp td fr fq nx p fd tt nw kp) (ht : tt < 268435456) : actS m t ru fp td (F_X9_supply (nI m) (nI nx) (nI p) (nI tt) ru fp fr fq fd fz z1) (F_X10_supply (nI m) (nI p) ru td nw fz kp z1) tt := by
  unfold F_X9_supply F_X10_supply
  have hm := h.1.1
  rcases act_sim (z := 3) (a := z1) (b := -1) (c := -1) (b' := 0) (c' := 0) h ht (fun q => absurd q (by decide)) (fun q => absurd q (by decide)) with ⟨k, hk, w, x⟩ | ⟨w, fr', fq', nx', p', fd', nw', kp', r, x, y, hw, ha⟩
  · rw [x, pBs, done_k hk, pBs, hand_k hk w, pBs]
    exact ⟨_, fr, fq, nx, p, fd, tt, nw, kp, _, rfl, rfl, h, by omega⟩
  · rw [x, pBs, done_m, pBs, hand_m w y, pBs]
    obtain ⟨d, hd, rfl⟩ := ha.2.2.2.2.2.2.2 (by decide)
    have er := ha.2.2.2.1 rfl
    rw [pCl (by omega), pNz (by omega)] at er
    rw [if_neg one_ne, cHas hm, pBs, zDev_nI hm (by omega), if_neg (by simp [hd, pb]), pA72, pIx (by omega) (by omega), pCl (by omega)]
    refine ⟨_, fr', fq', nx', p', fd', tt + 1, nw', kp', _, rfl, ?_, hw, by omega⟩
    rw [er]
theorem error_act {z1 z2 : Int32} (h : WW m t ru fp td fr fq nx p fd tt nw kp) (ht : tt < 268435456) : actS m t ru fp td (F_X9_error (nI m) (nI nx) (nI p) (nI tt) ru fp fr fq fd fz z1 z2) (F_X10_error (nI m) (nI p) ru td nw fz kp z1 z2) tt := by
  unfold F_X9_error F_X10_error
  have hm := h.1.1
  rw [cHas hm, pBs]
  rcases act_sim (z := 4) (a := z1) (b := z2) (c := -1) (b' := z2) (c' := 0) h ht (fun q => absurd q (by decide)) (fun _ => rfl) with ⟨k, hk, w, x⟩ | ⟨w, fr', fq', nx', p', fd', nw', kp', r, x, y, hw, ha⟩
  · rw [hand_k hk w, pBs]
    by_cases cd : zDev m z1 = true
    · obtain ⟨d, hd, rfl⟩ := zDev_lt hm cd
      rw [cd, if_neg (by decide), pA80, pIx (by omega) (by omega), x, pBs, done_k hk, pBs]
      exact ⟨_, fr, fq, nx, p, fd, tt, nw, kp, _, rfl, rfl, h, by omega⟩
    · have cd' : zDev m z1 = false := by simpa using cd
      rw [cd', if_pos (by decide), x, pBs, done_k hk, pBs]
      exact ⟨_, fr, fq, nx, p, fd, tt, nw, kp, _, rfl, rfl, h, by omega⟩
  · rw [hand_m w y, pBs]
    obtain ⟨d, hd, rfl⟩ := ha.2.2.2.2.2.2.2 (by decide)
    have er := ha.2.2.2.2.1 rfl
    rw [pCl (by omega), pNz (by omega)] at er
    rw [zDev_nI hm (by omega), if_neg (by simp [hd, pb]), pA80, pIx (by omega) (by omega), pCl (by omega), x, pBs, done_m, pBs, if_neg one_ne]
    refine ⟨_, fr', fq', nx', p', fd', tt + 1, nw', kp', _, rfl, ?_, hw, by omega⟩
    rw [er]
theorem again_act {z1 : Int32} (h : WW m t ru fp td fr fq nx p fd tt nw kp) (ht : tt < 268435456) : actS m t ru fp td (F_X9_again (nI m) (nI nx) (nI p) (nI tt) ru fp fr fq fd fz z1) (F_X10_again (nI m) (nI p) ru td nw fz kp z1) tt := by
  unfold F_X9_again F_X10_again
  have hm := h.1.1
  rcases act_sim (z := 5) (a := z1) (b := -1) (c := -1) (b' := 0) (c' := 0) h ht (fun q => absurd q (by decide)) (fun q => absurd q (by decide)) with ⟨k, hk, w, x⟩ | ⟨w, fr', fq', nx', p', fd', nw', kp', r, x, y, hw, ha⟩
  · rw [x, pBs, done_k hk, pBs, hand_k hk w, pBs]
    exact ⟨_, fr, fq, nx, p, fd, tt, nw, kp, _, rfl, rfl, h, by omega⟩
  · rw [x, pBs, done_m, pBs, hand_m w y, pBs]
    obtain ⟨d, hd, rfl⟩ := ha.2.2.2.2.2.2.2 (by decide)
    have er := ha.2.2.2.2.2.1 rfl
    rw [pCl (by omega), pNz (by omega)] at er
    rw [if_neg one_ne, cHas hm, pBs, zDev_nI hm (by omega), if_neg (by simp [hd, pb]), pA16, pIx (by omega) (by omega), pCl (by omega)]
    refine ⟨_, fr', fq', nx', p', fd', tt + 1, nw', kp', _, rfl, ?_, hw, by omega⟩
    rw [er]
theorem sleep_act {z1 : Int32} (h : WW m t ru fp td fr fq nx p fd tt nw kp) (ht : tt < 268435456) : actS m t ru fp td (F_X9_sleep (nI m) (nI nx) (nI p) (nI tt) ru fp fr fq fd fz z1) (F_X10_sleep (nI m) (nI p) ru td nw fz kp z1) tt := by
  unfold F_X9_sleep F_X10_sleep
  have hm := h.1.1
  rcases act_sim (z := 6) (a := z1) (b := -1) (c := -1) (b' := 0) (c' := 0) h ht (fun q => absurd q (by decide)) (fun q => absurd q (by decide)) with ⟨k, hk, w, x⟩ | ⟨w, fr', fq', nx', p', fd', nw', kp', r, x, y, hw, ha⟩
  · rw [x, pBs, done_k hk, pBs, hand_k hk w, pBs]
    exact ⟨_, fr, fq, nx, p, fd, tt, nw, kp, _, rfl, rfl, h, by omega⟩
  · rw [x, pBs, done_m, pBs, hand_m w y, pBs]
    obtain ⟨d, hd, rfl⟩ := ha.2.2.2.2.2.2.2 (by decide)
    have er := ha.2.2.2.2.2.2.1 (by decide)
    rw [pCl (by omega), pNz (by omega)] at er
    rw [if_neg one_ne, cHas hm, pBs, zDev_nI hm (by omega), if_neg (by simp [hd, pb]), pA88, pIx (by omega) (by omega), pCl (by omega)]
    refine ⟨_, fr', fq', nx', p', fd', tt + 1, nw', kp', _, rfl, ?_, hw, by omega⟩
    rw [er]
end
end

section
/-! years by draws -/
theorem i64_ne {k : Nat} (h1 : 1 ≤ k) (h2 : k < 2147483648) : ¬ (nI k : Int32).toInt64 = 0 := fun q => by
  have := congrArg Int64.toInt q
  rw [Int32.toInt_toInt64, nI_toInt h2] at this
  have h0 : (0 : Int64).toInt = 0 := by decide
  omega
theorem nxt {xx : Int64} {k : Nat} (h1 : 1 ≤ k) (h2 : k < 2147483648) : ∃ o, F_X2_next xx (nI k) = some o ∧ F_X10_draw xx (nI k) = some o := by
  unfold F_X2_next F_X10_draw
  rw [if_pos (show (1 : Int32) ≤ nI k from (pLe (a := 1) (by omega) h2).mpr h1), if_pos (i64_ne h1 h2)]
  exact ⟨_, rfl, rfl⟩
theorem lt_le1 {x : Int32} {k : Nat} (hk : k < 1000) : (nI k < x) ↔ (nI (k + 1) ≤ x) := by
  rw [q_lt, q_le, nI_toInt (by omega), nI_toInt (by omega)]; omega
theorem try_sim {m t : Nat} {ru fp td fr fq fd nw kp : Nat → Int32} {nx p tt : Nat} {z a b c b' c' : Int32} (h : WW m t ru fp td fr fq nx p fd tt nw kp) (ht : tt < 268435456) (h0 : z = 0 → b' = b ∧ c' = c) (h4 : z = 4 → b' = b) :
    ∃ w fr' fq' nx' p' fd' tt' nw' kp', F_X9_attempt (nI m) (nI nx) (nI p) (nI tt) fr ru fp fq fd 1 z a b c = some (w, nI nx', nI p', nI tt', fr', fq', fd') ∧ F_X10_tryOne (nI m) (nI p) ru td nw kp z a b' c' = some (nI p', nw', kp') ∧ WW m t ru fp td fr' fq' nx' p' fd' tt' nw' kp' ∧ tt' ≤ tt + 1 := by
  unfold F_X10_tryOne
  rcases act_sim (a := a) h ht h0 h4 with ⟨k, hk, w, x⟩ | ⟨w, fr', fq', nx', p', fd', nw', kp', r, x, y, hw, ha⟩
  · rw [w, pBs]
    refine ⟨_, fr, fq, nx, p, fd, tt, nw, kp, x _ _ _ _ _ _, ?_, h, by omega⟩
    show (if nI k = -1 then _ else _) = _
    rw [if_neg (by rw [pNm (by omega)]; exact id)]
  · rw [w, pBs]
    refine ⟨_, fr', fq', nx', p', fd', tt + 1, nw', kp', x, ?_, hw, by omega⟩
    show (if (-1 : Int32) = -1 then (F_X10_act (nI m) (nI p) ru td nw kp z a b' c').bind _ else _) = _
    rw [if_pos rfl, y, pBs]
theorem years_L {m t q : Nat} {ru fp td fr0 fq0 fd0 nw0 kp0 : Nat → Int32} {nx0 p0 t0 a0 : Int32} {x0 d0 z2 z2' : Int64} (h0 : 0 < m) (hq : q ≤ 40) : ∀ (k j n n' : Nat) (fr fq fd nw kp : Nat → Int32) (nx p tt : Nat) (xx : Int64), j + k = q → k < n → k < n' → WW m t ru fp td fr fq nx p fd tt nw kp → tt + k < 268435456 →
    ∃ r fr' fq' nx' p' fd' tt' nw' kp' xx', FL_X9_years_34 (nI m) nx0 p0 t0 x0 ru fp fr0 fq0 fd0 (nI q) z2 n (nI j) (nI nx) (nI p) (nI tt) xx fr fq fd = some (r, nI nx', nI p', nI tt', xx', fr', fq', fd') ∧ FL_X10_years_27 (nI m) a0 d0 ru td nw0 kp0 (nI q) z2' n' (nI j) (nI p) xx nw kp = some (r, nI p', xx', nw', kp') ∧ WW m t ru fp td fr' fq' nx' p' fd' tt' nw' kp' ∧ tt' ≤ tt + k
  | k, j, 0, n', fr, fq, fd, nw, kp, nx, p, tt, xx, _, h, _, _, _ => absurd h (by omega)
  | k, j, n + 1, 0, fr, fq, fd, nw, kp, nx, p, tt, xx, _, _, h, _, _ => absurd h (by omega)
  | 0, j, n + 1, n' + 1, fr, fq, fd, nw, kp, nx, p, tt, xx, h1, _, _, hw, _ => by
    obtain rfl : j = q := by omega
    rw [FL_X9_years_34, FL_X10_years_27, if_pos (le_rfl32 _), if_pos (le_rfl32 _)]
    obtain ⟨u, hu, e1, e2⟩ := hw.2.1.2.2.1
    exact ⟨_, fr, fq, nx, p, fd, tt, nw, kp, xx, rfl, by rw [e1, e2], hw, by omega⟩
  | k + 1, j, n + 1, n' + 1, fr, fq, fd, nw, kp, nx, p, tt, xx, h1, h2, h3, hw, ht => by
    have hm := hw.1.1
    have hj : ¬ nI q ≤ nI j := by rw [pLe (by omega) (by omega)]; omega
    rw [FL_X9_years_34, FL_X10_years_27, if_neg hj, if_neg hj]
    unfold F_X10_drawYear
    obtain ⟨o, o1, o2⟩ := nxt (xx := xx) (k := 8) (by omega) (by omega)
    rw [show (8 : Int32) = nI 8 from rfl] at *
    rw [o1, o2, pBs, pBs]
    have c2 : (2 < o.1) ↔ (3 ≤ o.1) := lt_le1 (k := 2) (by omega)
    have c6 : (6 < o.1) ↔ (7 ≤ o.1) := lt_le1 (k := 6) (by omega)
    have goon : ∀ {w : Int32} {fr' fq' fd' nw' kp' : Nat → Int32} {nx' p' tt' : Nat} {xx' : Int64}, WW m t ru fp td fr' fq' nx' p' fd' tt' nw' kp' → tt' ≤ tt + 1 → ∃ r fr2 fq2 nx2 p2 fd2 tt2 nw2 kp2 xx2, FL_X9_years_34 (nI m) nx0 p0 t0 x0 ru fp fr0 fq0 fd0 (nI q) z2 n (nI j + 1) (nI nx') (nI p') (nI tt') xx' fr' fq' fd' = some (r, nI nx2, nI p2, nI tt2, xx2, fr2, fq2, fd2) ∧ FL_X10_years_27 (nI m) a0 d0 ru td nw0 kp0 (nI q) z2' n' (nI j + 1) (nI p') xx' nw' kp' = some (r, nI p2, xx2, nw2, kp2) ∧ WW m t ru fp td fr2 fq2 nx2 p2 fd2 tt2 nw2 kp2 ∧ tt2 ≤ tt + (k + 1) := fun {w} {fr'} {fq'} {fd'} {nw'} {kp'} {nx'} {p'} {tt'} {xx'} hw' ht' => by
      rw [pS1]
      obtain ⟨r, fr2, fq2, nx2, p2, fd2, tt2, nw2, kp2, xx2, a1, a2, a3, a4⟩ := years_L (t := t) (td := td) (fr0 := fr0) (fq0 := fq0) (fd0 := fd0) (nw0 := nw0) (kp0 := kp0) (nx0 := nx0) (p0 := p0) (t0 := t0) (a0 := a0) (x0 := x0) (d0 := d0) (z2 := z2) (z2' := z2') h0 hq k (j + 1) n n' fr' fq' fd' nw' kp' nx' p' tt' xx' (by omega) (by omega) (by omega) hw' (by omega)
      exact ⟨r, fr2, fq2, nx2, p2, fd2, tt2, nw2, kp2, xx2, a1, a2, a3, by omega⟩
    by_cases c : 2 < o.1
    · rw [if_pos c, if_pos (c2.mp c)]
      by_cases c3 : o.1 = 3
      · rw [if_pos c3, if_pos c3]
        obtain ⟨v, v1, v2⟩ := nxt (xx := o.2) (k := m) (by omega) (by omega)
        rw [v1, v2, pBs, pBs]
        obtain ⟨w, fr', fq', nx', p', fd', tt', nw', kp', b1, b2, b3, b4⟩ := try_sim (z := 1) (a := v.1) (b := -1) (c := -1) (b' := 0) (c' := 0) hw (by omega) (fun q => absurd q (by decide)) (fun q => absurd q (by decide))
        rw [b1, b2, pBs, pBs, pBs]
        exact goon (w := w) b3 b4
      · rw [if_neg c3, if_neg c3]
        by_cases c7 : 6 < o.1
        · rw [if_pos c7, if_pos (c6.mp c7)]
          obtain ⟨v, v1, v2⟩ := nxt (xx := o.2) (k := m) (by omega) (by omega)
          rw [v1, v2, pBs, pBs]
          obtain ⟨w, fr', fq', nx', p', fd', tt', nw', kp', b1, b2, b3, b4⟩ := try_sim (z := 3) (a := v.1) (b := -1) (c := -1) (b' := 0) (c' := 0) hw (by omega) (fun q => absurd q (by decide)) (fun q => absurd q (by decide))
          rw [b1, b2, pBs, pBs, pBs]
          exact goon (w := w) b3 b4
        · rw [if_neg c7, if_neg (fun q => c7 (c6.mpr q))]
          obtain ⟨v, v1, v2⟩ := nxt (xx := o.2) (k := 9) (by omega) (by omega)
          rw [show (9 : Int32) = nI 9 from rfl, v1, v2, pBs, pBs]
          obtain ⟨w, fr', fq', nx', p', fd', tt', nw', kp', b1, b2, b3, b4⟩ := try_sim (z := 2) (a := v.1 + 1) (b := -1) (c := -1) (b' := 0) (c' := 0) hw (by omega) (fun q => absurd q (by decide)) (fun q => absurd q (by decide))
          rw [b1, b2, pBs, pBs, pBs]
          exact goon (w := w) b3 b4
    · rw [if_neg c, if_neg (fun q => c (c2.mpr q))]
      obtain ⟨v, v1, v2⟩ := nxt (xx := o.2) (k := m) (by omega) (by omega)
      obtain ⟨y, y1, y2⟩ := nxt (xx := v.2) (k := m + 1) (by omega) (by omega)
      rw [v1, v2, pBs, pBs, pS1, y1, y2, pBs, pBs]
      obtain ⟨x, x1, x2⟩ := nxt (xx := y.2) (k := 4) (by omega) (by omega)
      rw [show (4 : Int32) = nI 4 from rfl, x1, x2]
      by_cases cm : y.1 = nI m
      · rw [if_pos cm, if_pos cm, pBs, pBs]
        obtain ⟨w, fr', fq', nx', p', fd', tt', nw', kp', b1, b2, b3, b4⟩ := try_sim (z := 0) (a := v.1) (b := nI 8) (c := x.1) (b' := nI 8) (c' := x.1) hw (by omega) (fun q => ⟨rfl, rfl⟩) (fun q => rfl)
        rw [b1, b2, pBs, pBs, pBs]
        exact goon (w := w) b3 b4
      · rw [if_neg cm, if_neg cm, pBs, pBs]
        obtain ⟨w, fr', fq', nx', p', fd', tt', nw', kp', b1, b2, b3, b4⟩ := try_sim (z := 0) (a := v.1) (b := y.1) (c := x.1) (b' := y.1) (c' := x.1) hw (by omega) (fun q => ⟨rfl, rfl⟩) (fun q => rfl)
        rw [b1, b2, pBs, pBs, pBs]
        exact goon (w := w) b3 b4
theorem years_sim {m t : Nat} {ru fp td fr fq fd nw kp : Nat → Int32} {nx p tt : Nat} {xx z2 : Int64} {z1 : Int32} (hw : WW m t ru fp td fr fq nx p fd tt nw kp) (ht : tt < 134217728) : ∃ r fr' fq' nx' p' fd' tt' nw' kp' xx', F_X9_years (nI m) (nI nx) (nI p) (nI tt) xx ru fp fr fq fd z1 z2 = some (r, nI nx', nI p', nI tt', xx', fr', fq', fd') ∧ F_X10_years (nI m) (nI p) xx ru td nw kp z1 z2 = some (r, nI p', xx', nw', kp') ∧ WW m t ru fp td fr' fq' nx' p' fd' tt' nw' kp' ∧ tt' ≤ tt + 40 := by
  have hm := hw.1.1
  unfold F_X9_years F_X10_years F_X5_isTold
  rw [rTree hm, pBs, rIn, pBs]
  by_cases m0 : m = 0
  · subst m0
    exact ⟨_, fr, fq, nx, p, fd, tt, nw, kp, xx, rfl, rfl, hw, by omega⟩
  · have m0' : 0 < m := by omega
    have hp1 : ¬ pb (decide (0 < m)) = 0 := by simp [m0', pb]
    rw [if_neg (by rw [pLe0 (by omega)]; exact m0), pBs, if_neg (show ¬ (1 : Int32) = 0 from by decide), if_neg hp1]
    have c4 : (40 < z1) ↔ ¬ (z1 ≤ 40) := not_le.symm
    by_cases c1 : z1 < 1
    · rw [if_pos c1, if_pos (show pb (!decide (z1 < 1) && !decide (40 < z1)) = 0 by simp [c1, pb])]
      exact ⟨_, fr, fq, nx, p, fd, tt, nw, kp, xx, rfl, rfl, hw, by omega⟩
    · rw [if_neg c1]
      by_cases c2 : z1 ≤ 40
      · rw [if_pos c2, if_neg (show ¬ pb (!decide (z1 < 1) && !decide (40 < z1)) = 0 by simp [c1, c4, c2, pb])]
        obtain ⟨q, hq, rfl⟩ := nI_of (lt01 c1)
        have hq40 : q ≤ 40 := by rw [show (40 : Int32) = nI 40 from rfl, pLe hq (by omega)] at c2; exact c2
        obtain ⟨r, fr2, fq2, nx2, p2, fd2, tt2, nw2, kp2, xx2, a1, a2, a3, a4⟩ := years_L (t := t) (td := td) (fr0 := fr) (fq0 := fq) (fd0 := fd) (nw0 := nw) (kp0 := kp) (nx0 := nI nx) (p0 := nI p) (t0 := nI tt) (a0 := nI p) (x0 := xx) (d0 := xx) (z2 := z2) (z2' := z2) m0' hq40 q 0 1000 1000 fr fq fd nw kp nx p tt z2 (by omega) (by omega) (by omega) hw (by omega)
        exact ⟨r, fr2, fq2, nx2, p2, fd2, tt2, nw2, kp2, xx2, a1, a2, a3, by omega⟩
      · rw [if_neg c2, if_pos (show pb (!decide (z1 < 1) && !decide (40 < z1)) = 0 by simp [c4, c2, pb])]
        exact ⟨_, fr, fq, nx, p, fd, tt, nw, kp, xx, rfl, rfl, hw, by omega⟩
/-! undoing, images, counting -/
theorem undo_L {ac : Int32} {nw0 kp : Nat → Int32} {a : Nat} {nw : Nat → Int32} (ha : a < 40) : ∃ g, FL_X10_undo_21 ac nw0 kp 1000 0 (nI a) nw = some (nI a, nI a, g) ∧ ∀ k, k < 279 → g k = rwY kp a k := by
  have hl := pLoop (m := 279) (L := fun n i x => FL_X10_undo_21 ac nw0 kp n i (nI a) x) (g := fun j x => upd x j (kp (279 * a + j))) (fin := fun x => (nI a, nI a, x)) (fun j x => ∀ k, k < j → x k = rwY kp a k) (fun n j x hj hI => ?_) (fun n x hI => ?_) 279 1000 0 nw (by omega) (by omega) (fun k hk => by omega)
  · exact ⟨_, hl.1, hl.2⟩
  · refine ⟨?_, fun k hk => ?_⟩
    · show FL_X10_undo_21 ac nw0 kp (n + 1) (nI j) (nI a) x = FL_X10_undo_21 ac nw0 kp n (nI (j + 1)) (nI a) _
      have e1 : (279 : Int32) * nI a = nI (279 * a) := pM 279 a
      rw [FL_X10_undo_21, if_neg (by rw [show (279 : Int32) = nI 279 from rfl, pLe (by omega) (by omega)]; omega), e1, nI_add, pIx (by omega) (by omega), pIx (by omega) (by omega), pCl (by omega), pCl (by omega), pS1]
    · by_cases c : k = j
      · subst c; exact pUs
      · show upd x j _ k = _
        rw [pUn c]; exact hI k (by omega)
  · show FL_X10_undo_21 ac nw0 kp (n + 1) (nI 279) (nI a) x = _
    rw [FL_X10_undo_21, if_pos (show (279 : Int32) ≤ nI 279 from by decide)]
theorem undo_sim {m t : Nat} {ru fp td fr fq fd nw kp : Nat → Int32} {nx p tt : Nat} (hw : WW m t ru fp td fr fq nx p fd tt nw kp) (ht : tt < 268435456) : ∃ r fr' nx' p' tt' nw', F_X9_undo (nI nx) (nI p) (nI tt) fr fq = some (r, nI nx', nI p', nI tt', fr') ∧ F_X10_undo (nI p) nw kp = some (r, nI p', nw') ∧ WW m t ru fp td fr' fq nx' p' fd tt' nw' kp ∧ tt' ≤ tt := by
  obtain ⟨hc, hs, hk1, hk2, hk3, hk4⟩ := hw
  have hm := hc.1
  unfold F_X9_undo F_X10_undo
  by_cases c : p = 0
  · subst c
    exact ⟨_, fr, nx, 0, tt, nw, rfl, rfl, ⟨hc, hs, hk1, hk2, hk3, hk4⟩, by omega⟩
  · have hp0 : ¬ nI p = 0 := by rw [show (0 : Int32) = nI 0 from rfl, pEq (by omega) (by omega)]; exact c
    have ep : nI p - 1 = nI (p - 1) := by rw [show (1 : Int32) = nI 1 from rfl, pSub (by omega) (by omega)]
    rw [if_neg hp0, if_neg hp0, ep]
    obtain ⟨g, g1, g2⟩ := undo_L (ac := nI p) (nw0 := nw) (kp := kp) (a := p - 1) (nw := nw) (by omega)
    rw [g1]
    unfold F_X4_restore F_X1_forgetLatest
    have e1 : (nI nx + 40) - 1 = nI (nx + 39) := by
      rw [show (40 : Int32) = nI 40 from rfl, nI_add, show (1 : Int32) = nI 1 from rfl, pSub (by omega) (by omega)]; congr 1
    have e2 : nI (nx + 39) - nI (nx + 39) / 40 * 40 = nI ((nx + 39) % 40) := pMod (a := nx + 39) (b := 40) (by omega) (by decide)
    have e3 : nI ((nx + 39) % 40) * 98 = nI ((nx + 39) % 40 * 98) := pM _ 98
    have et : nI tt - 1 = nI (tt - 1) := by rw [show (1 : Int32) = nI 1 from rfl, pSub (by omega) (by omega)]
    rw [if_neg (by rw [pLe0 (by omega)]; exact c), e1, e2, e3, if_pos (nI_pos (by omega)), pCl (by omega), if_pos (by omega), pBs, pBs, et, if_neg (nI_pos (by omega)), ep]
    refine ⟨_, _, (nx + 39) % 40, p - 1, tt - 1, g, rfl, rfl, ⟨hc, ?_, by omega, by omega, by omega, fun i hi => ?_⟩, by omega⟩
    · have h0 := hk4 0 (by omega)
      rw [show tt - 1 - 0 = tt - 1 from by omega, show p - 1 - 0 = p - 1 from by omega, show nx + 39 - 0 = nx + 39 from by omega] at h0
      refine SR_congr hm (fun k hk => ?_) g2 h0
      simp only [va_cpy, rwX]
      rw [if_pos (by omega)]; congr 1; omega
    · have h1 := hk4 (i + 1) (by omega)
      rw [show tt - 1 - (i + 1) = tt - 1 - 1 - i from by omega, show p - 1 - (i + 1) = p - 1 - 1 - i from by omega, show (nx + 39 - (i + 1)) % 40 = ((nx + 39) % 40 + 39 - i) % 40 from by omega] at h1
      exact h1
/-- the image, as both hold it -/
def IM (m : Nat) (R : Nat → Int32) (T : Nat → Nat → Int32) (hi : Int32) (fk fe : Nat → Int32) (te : Nat) (im : Nat → Int32) : Prop := hi = 0 ∨ (hi = 1 ∧ SR m R T fk fe te im)
theorem image_L {mn hi : Int32} {nw im0 im : Nat → Int32} {h : Int32} : ∃ g, FL_X10_image_11 mn hi nw im0 1000 0 h im = some (nw 96, 1, g) ∧ ∀ k, k < 279 → g k = nw k := by
  have hl := pLoop (m := 279) (L := fun n i x => FL_X10_image_11 mn hi nw im0 n i h x) (g := fun j x => upd x j (nw j)) (fin := fun x => (nw 96, 1, x)) (fun j x => ∀ k, k < j → x k = nw k) (fun n j x hj hI => ?_) (fun n x hI => ?_) 279 1000 0 im (by omega) (by omega) (fun k hk => by omega)
  · exact ⟨_, hl.1, hl.2⟩
  · refine ⟨?_, fun k hk => ?_⟩
    · show FL_X10_image_11 mn hi nw im0 (n + 1) (nI j) h x = FL_X10_image_11 mn hi nw im0 n (nI (j + 1)) h _
      rw [FL_X10_image_11, if_neg (by rw [show (279 : Int32) = nI 279 from rfl, pLe (by omega) (by omega)]; omega), pIx (by omega) (by omega), pIx (by omega) (by omega), pCl (by omega), pS1]
    · by_cases c : k = j
      · subst c; exact pUs
      · show upd x j _ k = _
        rw [pUn c]; exact hI k (by omega)
  · show FL_X10_image_11 mn hi nw im0 (n + 1) (nI 279) h x = _
    rw [FL_X10_image_11, if_pos (show (279 : Int32) ≤ nI 279 from by decide)]
theorem back_L {ac hi : Int32} {nw0 im nw : Nat → Int32} {h : Int32} : ∃ g, FL_X10_back_11 ac hi nw0 im 1000 0 h nw = some (g 96, 0, g) ∧ ∀ k, k < 279 → g k = im k := by
  have hl := pLoop (m := 279) (L := fun n i x => FL_X10_back_11 ac hi nw0 im n i h x) (g := fun j x => upd x j (im j)) (fin := fun x => (x 96, 0, x)) (fun j x => ∀ k, k < j → x k = im k) (fun n j x hj hI => ?_) (fun n x hI => ?_) 279 1000 0 nw (by omega) (by omega) (fun k hk => by omega)
  · exact ⟨_, hl.1, hl.2⟩
  · refine ⟨?_, fun k hk => ?_⟩
    · show FL_X10_back_11 ac hi nw0 im (n + 1) (nI j) h x = FL_X10_back_11 ac hi nw0 im n (nI (j + 1)) h _
      rw [FL_X10_back_11, if_neg (by rw [show (279 : Int32) = nI 279 from rfl, pLe (by omega) (by omega)]; omega), pIx (by omega) (by omega), pIx (by omega) (by omega), pCl (by omega), pS1]
    · by_cases c : k = j
      · subst c; exact pUs
      · show upd x j _ k = _
        rw [pUn c]; exact hI k (by omega)
  · show FL_X10_back_11 ac hi nw0 im (n + 1) (nI 279) h x = _
    rw [FL_X10_back_11, if_pos (show (279 : Int32) ≤ nI 279 from by decide)]
theorem DV_fd {fd fd' nw : Nat → Int32} {tt : Nat} (h : ∀ k, k < 300 → fd' k = fd k) (hd : DV fd tt nw) : DV fd' tt nw :=
  ⟨hd.1, fun i c hi hc => by rw [h _ (by omega)]; exact hd.2 i c hi hc⟩
theorem image_sim {m t : Nat} {ru fp td fr fq fd nw kp fk fe im : Nat → Int32} {nx p tt te : Nat} {hi : Int32} (hw : WW m t ru fp td fr fq nx p fd tt nw kp) (him : IM m ru (tT m td) hi fk fe te im) : ∃ r hi' fk' fe' te' im', F_X9_image (nI m) (nI tt) (nI te) hi fr fd fk fe = some (r, nI te', hi', fk', fe') ∧ F_X10_image (nI m) hi nw im = some (r, hi', im') ∧ IM m ru (tT m td) hi' fk' fe' te' im' ∧ te' ≤ max te tt := by
  have hm := hw.1.1
  unfold F_X9_image F_X10_image F_X5_isTold
  rw [rTree hm, pBs]
  by_cases m0 : m = 0
  · subst m0
    exact ⟨_, hi, fk, fe, te, im, rfl, rfl, him, by omega⟩
  · have m0' : 0 < m := by omega
    have hp1 : ¬ pb (decide (0 < m)) = 0 := by simp [m0', pb]
    rw [if_neg (by rw [pLe0 (by omega)]; exact m0), pBs, if_neg (show ¬ (1 : Int32) = 0 from by decide), if_neg hp1]
    obtain ⟨g, g1, g2⟩ := image_L (mn := nI m) (hi := hi) (nw := nw) (im0 := im) (im := im) (h := hi)
    rw [g1]
    unfold F_X0_copyFrom F_X1_copyFrom
    rw [pBs, pBs]
    obtain ⟨u, hu, e1, e2⟩ := hw.2.1.2.2.1
    refine ⟨fr 96, 1, _, _, tt, g, rfl, by rw [e1, e2], Or.inr ⟨rfl, ?_⟩, by omega⟩
    have hs := SR_congr (fr' := va_cpy fr fk 0 0 98) (nw' := g) hm (fun k hk => by simp only [va_cpy]; rw [if_pos (by omega), show 0 + (k - 0) = k from by omega]) g2 hw.2.1
    exact ⟨hs.1, hs.2.1, hs.2.2.1, DV_fd (fun k hk => by simp only [va_cpy]; rw [if_pos (by omega), show 0 + (k - 0) = k from by omega]) hs.2.2.2⟩
theorem back_sim {m t : Nat} {ru fp td fr fq fd nw kp fk fe im : Nat → Int32} {nx p tt te : Nat} {hi : Int32} (hw : WW m t ru fp td fr fq nx p fd tt nw kp) (him : IM m ru (tT m td) hi fk fe te im) : ∃ r p' fr' fd' tt' nw', F_X9_back (nI p) (nI tt) (nI te) hi fr fd fk fe = some (r, nI p', nI tt', fr', fd') ∧ F_X10_back (nI p) hi nw im = some (r, nI p', nw') ∧ WW m t ru fp td fr' fq nx p' fd' tt' nw' kp ∧ tt' ≤ max te tt := by
  have hm := hw.1.1
  unfold F_X9_back F_X10_back
  rcases him with rfl | ⟨rfl, hs0⟩
  · exact ⟨_, p, fr, fd, tt, nw, rfl, rfl, hw, by omega⟩
  · obtain ⟨g, g1, g2⟩ := back_L (ac := nI p) (hi := 1) (nw0 := nw) (im := im) (nw := nw) (h := nI p)
    rw [if_neg (by decide), if_neg (by decide), g1]
    unfold F_X0_copyFrom F_X1_copyFrom F_X4_forget
    rw [pBs, pBs, pBs]
    have hs := SR_congr (fr' := va_cpy fk fr 0 0 98) (nw' := g) hm (fun k hk => by simp only [va_cpy]; rw [if_pos (by omega), show 0 + (k - 0) = k from by omega]) g2 hs0
    have hs2 : SR m ru (tT m td) (va_cpy fk fr 0 0 98) (va_cpy fe fd 0 0 300) te g := ⟨hs.1, hs.2.1, hs.2.2.1, DV_fd (fun k hk => by simp only [va_cpy]; rw [if_pos (by omega), show 0 + (k - 0) = k from by omega]) hs.2.2.2⟩
    obtain ⟨u, hu, e1, e2⟩ := hs2.2.2.1
    refine ⟨va_cpy fk fr 0 0 98 96, 0, _, _, te, g, rfl, by rw [e1, e2]; rfl, ⟨hw.1, hs2, by omega, hw.2.2.2.1, by omega, fun i hi => by omega⟩, by omega⟩
theorem log_sim {m t : Nat} {ru fp td fr fq fd nw kp : Nat → Int32} {nx p tt : Nat} {z1 z2 : Int32} (hw : WW m t ru fp td fr fq nx p fd tt nw kp) (ht : tt < 268435456) : ∃ r, F_X9_log (nI tt) fd z1 z2 = some r ∧ F_X10_log nw z1 z2 = some r := by
  obtain ⟨h98, hd⟩ := hw.2.1.2.2.2
  have es : (if (60 : Int32) < nI tt then (60 : Int32) else nI tt) = nI (min tt 60) := by
    rw [show (60 : Int32) = nI 60 from rfl]
    by_cases c : 60 < tt
    · rw [if_pos (by rw [pLt (by omega) (by omega)]; exact c)]; congr 1; omega
    · rw [if_neg (by rw [pLt (by omega) (by omega)]; exact c)]; congr 1; omega
  unfold F_X9_log F_X10_log F_X1_shown
  rw [h98, rIn, pBs, rIn, pBs, pBs, es]
  by_cases c1 : z1 < 0
  · rw [if_pos c1, if_pos (show pb (!decide (z1 < 0) && !decide (nI (min tt 60) - 1 < z1)) = 0 by simp [c1, pb])]; exact ⟨_, rfl, rfl⟩
  · rw [if_neg c1]
    obtain ⟨i, hi, rfl⟩ := nI_of c1
    have e1 : (nI (min tt 60) - 1 < nI i) ↔ min tt 60 ≤ i := by
      rw [q_lt, show (1 : Int32) = nI 1 from rfl, pk_sub_toInt (by omega) (by omega), nI_toInt hi]; omega
    by_cases c2 : min tt 60 ≤ i
    · rw [if_pos ((pLe (by omega) hi).mpr c2), if_pos (show pb (!decide (nI i < 0) && !decide (nI (min tt 60) - 1 < nI i)) = 0 by simp [e1.mpr c2, pb])]; exact ⟨_, rfl, rfl⟩
    · have c2' : ¬ nI (min tt 60) - 1 < nI i := fun q => c2 (e1.mp q)
      rw [if_neg (fun q => c2 ((pLe (by omega) hi).mp q)), if_neg (show ¬ pb (!decide (nI i < 0) && !decide (nI (min tt 60) - 1 < nI i)) = 0 by simp [c1, c2', pb])]
      have c4 : (2 < z2) ↔ ¬ (z2 < 3) := by
        rw [q_lt, q_lt]
        have h2 : (2 : Int32).toInt = 2 := by decide
        have h3 : (3 : Int32).toInt = 3 := by decide
        omega
      by_cases c3 : z2 < 0
      · rw [if_pos c3, if_pos (show pb (!decide (z2 < 0) && !decide (2 < z2)) = 0 by simp [c3, pb])]; exact ⟨_, rfl, rfl⟩
      · rw [if_neg c3]
        by_cases c5 : z2 < 3
        · have c5' : ¬ 2 < z2 := fun q => (c4.mp q) c5
          rw [if_pos c5, if_neg (show ¬ pb (!decide (z2 < 0) && !decide (2 < z2)) = 0 by simp [c3, c5', pb])]
          obtain ⟨c, hc, rfl⟩ := nI_of c3
          have hc3 : c < 3 := by rw [show (3 : Int32) = nI 3 from rfl, pLt hc (by omega)] at c5; exact c5
          unfold F_X1_read
          have x1 : nI tt - 1 - nI i = nI (tt - 1 - i) := by
            rw [show (1 : Int32) = nI 1 from rfl, pSub (by omega) (by omega), pSub (by omega) (by omega)]
          have x2 : nI (tt - 1 - i) - nI (tt - 1 - i) / 100 * 100 = nI ((tt - 1 - i) % 100) := pMod (a := tt - 1 - i) (b := 100) (by omega) (by decide)
          have x3 : nI ((tt - 1 - i) % 100) * 3 = nI ((tt - 1 - i) % 100 * 3) := pM _ 3
          have y1 : nI (min tt 60) - 1 - nI i = nI (min tt 60 - 1 - i) := by
            rw [show (1 : Int32) = nI 1 from rfl, pSub (by omega) (by omega), pSub (by omega) (by omega)]
          have y2 : (3 : Int32) * nI (min tt 60 - 1 - i) = nI (3 * (min tt 60 - 1 - i)) := pM 3 _
          have y3 : (99 : Int32) + nI (3 * (min tt 60 - 1 - i)) = nI (99 + 3 * (min tt 60 - 1 - i)) := nI_add 99 _
          rw [x1, x2, x3, nI_add, pIx (by omega) (by omega), pCl (by omega), pBs, y1, y2, y3, nI_add, pIx (by omega) (by omega), pCl (by omega)]
          exact ⟨_, rfl, by rw [hd i c (by omega) hc3]⟩
        · rw [if_neg c5, if_pos (show pb (!decide (z2 < 0) && !decide (2 < z2)) = 0 by simp [c4.mpr c5, pb])]; exact ⟨_, rfl, rfl⟩
theorem count_sim {m t s : Nat} {ru fp td fr fq fd nw kp : Nat → Int32} {nx p tt : Nat} {tl z1 : Int32} (hw : WW m t ru fp td fr fq nx p fd tt nw kp) (ht : tt < 268435456) : ∃ r, F_X9_count tl (nI m) (nI s) (nI p) (nI tt) z1 = some r ∧ F_X10_count tl (nI m) (nI s) (nI p) nw z1 = some r := by
  obtain ⟨h98, hd⟩ := hw.2.1.2.2.2
  have es : (if (60 : Int32) < nI tt then (60 : Int32) else nI tt) = nI (min tt 60) := by
    rw [show (60 : Int32) = nI 60 from rfl]
    by_cases c : 60 < tt
    · rw [if_pos (by rw [pLt (by omega) (by omega)]; exact c)]; congr 1; omega
    · rw [if_neg (by rw [pLt (by omega) (by omega)]; exact c)]; congr 1; omega
  unfold F_X9_count F_X10_count F_X1_shown
  rw [h98, es]
  by_cases c0 : z1 = 0 <;> by_cases c1 : z1 = 1 <;> by_cases c2 : z1 = 2 <;> by_cases c3 : z1 = 3 <;> by_cases c4 : z1 = 4 <;> simp [c0, c1, c2, c3, c4]
theorem status_sim {fz : Nat → Int32} {z1 : Int32} : ∃ r, F_X9_status fz z1 = some r ∧ F_X10_status fz z1 = some r := by
  unfold F_X9_status F_X10_status
  rw [rIn, pBs]
  by_cases c1 : z1 < 0
  · rw [if_pos c1, if_pos (show pb (!decide (z1 < 0) && !decide (3 < z1)) = 0 by simp [c1, pb])]; exact ⟨_, rfl, rfl⟩
  · rw [if_neg c1]
    have c4 : (3 < z1) ↔ (4 ≤ z1) := lt_le1 (k := 3) (by omega)
    by_cases c2 : 4 ≤ z1
    · rw [if_pos c2, if_pos (show pb (!decide (z1 < 0) && !decide (3 < z1)) = 0 by simp [c4.mpr c2, pb])]; exact ⟨_, rfl, rfl⟩
    · have c2' : ¬ 3 < z1 := fun q => c2 (c4.mp q)
      rw [if_neg c2, if_neg (show ¬ pb (!decide (z1 < 0) && !decide (3 < z1)) = 0 by simp [c1, c2', pb])]
      obtain ⟨i, hi, rfl⟩ := nI_of c1
      rw [show (4 : Int32) = nI 4 from rfl, pLe (by omega) hi] at c2
      rw [pIx (by omega) (by omega)]
      exact ⟨_, rfl, rfl⟩
end

section
/-! scripts -/
def ScR (f1 f2 sq sl : Nat → Int32) (s : Nat) : Prop := s ≤ 4 ∧ ∀ i, i < s → ∃ l, l ≤ 16 ∧ f2 i = nI l ∧ sl i = nI l ∧ ∀ j, j < l → (∃ k, k ≤ 5 ∧ f1 (i * 64 + j * 4) = nI k) ∧ ∀ c, c < 4 → sq (4 * (16 * i + j) + c) = f1 (i * 64 + j * 4 + c)
theorem sHas {s : Nat} {z : Int32} (hs : s ≤ 8) : F_X7_has (nI s) z = some (pb (zDev s z)) := cHas (m := s) hs
theorem sIs {s : Nat} {z : Int32} : F_X10_isScript (nI s) z = some (pb (zDev s z)) := rDev (m := s)
theorem x7_read {f1 : Nat → Int32} {i j c : Nat} (hi : i < 4) (hj : j < 16) (hc : c < 4) : F_X7_read f1 (nI i) (nI j) (nI c) = some (f1 (i * 64 + j * 4 + c)) := by
  unfold F_X7_read
  have e1 : nI i * 64 = nI (i * 64) := pM i 64
  have e2 : nI j * 4 = nI (j * 4) := pM j 4
  rw [e1, e2, nI_add, nI_add, pIx (by omega) (by omega), pCl (by omega)]
theorem sq_ix {i j c : Nat} : (4 : Int32) * ((16 : Int32) * nI i + nI j) + nI c = nI (4 * (16 * i + j) + c) := by
  have e1 : (16 : Int32) * nI i = nI (16 * i) := pM 16 i
  rw [e1, nI_add]
  have e2 : (4 : Int32) * nI (16 * i + j) = nI (4 * (16 * i + j)) := pM 4 _
  rw [e2, nI_add]
theorem kind_c : ∀ k : Fin 6, F_X10_actOf (nI k.1) = some (q_tab 7 k.1) := by decide
theorem sort_sim {f1 f2 sq sl : Nat → Int32} {s i j l : Nat} (hj : j < l) (hl : l ≤ 16) (hi : i < 4) (hS : (∃ k, k ≤ 5 ∧ f1 (i * 64 + j * 4) = nI k) ∧ ∀ c, c < 4 → sq (4 * (16 * i + j) + c) = f1 (i * 64 + j * 4 + c)) : ∃ z, F_X7_sortOf f1 (nI i) (nI j) = some z ∧ F_X10_actOf (sq (4 * (16 * i + j))) = some z := by
  obtain ⟨⟨k, hk, e⟩, hq⟩ := hS
  have e0 := hq 0 (by omega)
  rw [Nat.add_zero, Nat.add_zero] at e0
  refine ⟨q_tab 7 k, ?_, ?_⟩
  · unfold F_X7_sortOf
    have := x7_read (f1 := f1) (i := i) (j := j) (c := 0) hi (by omega) (by omega)
    rw [show F_X7_read f1 (nI i) (nI j) 0 = _ from this, pBs, Nat.add_zero, e, if_neg (nI_pos (by omega)), if_neg (by rw [show (6 : Int32) = nI 6 from rfl, pLe (by omega) (by omega)]; omega), pIx (by omega) (by omega), pCl (by omega)]
  · rw [e0, e]; exact kind_c ⟨k, by omega⟩
theorem stX_end {dv nx0 p0 t0 z0 nx p tt : Int32} {fr0 fu fp f1 f2 fq0 fd0 fr fq fd : Nat → Int32} {i l n : Nat} (hi : i < 4) (hl : l ≤ 16) (hf2 : f2 i = nI l) : FL_X9_stepsDone_3 dv nx0 p0 t0 fr0 fu fp f1 f2 fq0 fd0 z0 (nI i) (n + 1) (nI l) nx p tt fr fq fd = some (nI l, nx, p, tt, fr, fq, fd) := by
  rw [FL_X9_stepsDone_3, pIx (by omega) (by omega), pIx (by omega) (by omega), pCl (by omega), hf2, if_pos (le_rfl32 _)]
theorem stX_go {dv nx0 p0 t0 z0 nx p tt z a b c : Int32} {fr0 fu fp f1 f2 fq0 fd0 fr fq fd : Nat → Int32} {i j l n : Nat} (hi : i < 4) (hl : l ≤ 16) (hj : j < l) (hf2 : f2 i = nI l) (hz : F_X7_sortOf f1 (nI i) (nI j) = some z) (ha : F_X7_read f1 (nI i) (nI j) 1 = some a) (hb : F_X7_read f1 (nI i) (nI j) 2 = some b) (hc : F_X7_read f1 (nI i) (nI j) 3 = some c) : FL_X9_stepsDone_3 dv nx0 p0 t0 fr0 fu fp f1 f2 fq0 fd0 z0 (nI i) (n + 1) (nI j) nx p tt fr fq fd = (F_X9_attempt dv nx p tt fr fu fp fq fd z0 z a b c).bind fun o => if o.1 = -1 then FL_X9_stepsDone_3 dv nx0 p0 t0 fr0 fu fp f1 f2 fq0 fd0 z0 (nI i) n (nI (j + 1)) o.2.1 o.2.2.1 o.2.2.2.1 o.2.2.2.2.1 o.2.2.2.2.2.1 o.2.2.2.2.2.2 else some (nI j, o.2.1, o.2.2.1, o.2.2.2.1, o.2.2.2.2.1, o.2.2.2.2.2.1, o.2.2.2.2.2.2) := by
  have hj' : ¬ nI l ≤ nI j := by rw [pLe (by omega) (by omega)]; omega
  rw [FL_X9_stepsDone_3, pIx (by omega) (by omega), pCl (by omega), hf2, if_neg hj', hz, pBs, ha, pBs, hb, pBs, hc, pBs, pS1]
theorem goY_end {mn a0 z2 ac : Int32} {ru td sq sl nw0 kp0 nw kp : Nat → Int32} {i l n : Nat} (hi : i < 4) (hl : l ≤ 16) (hsl : sl i = nI l) : FL_X10_goSteps_2 mn a0 ru td sq sl nw0 kp0 (nI i) z2 (n + 1) (nI l) ac nw kp = some (nI l, ac, nw, kp) := by
  rw [FL_X10_goSteps_2, pIx (by omega) (by omega), pIx (by omega) (by omega), pCl (by omega), hsl, if_pos (le_rfl32 _)]
theorem goY_go {mn a0 z2 ac z : Int32} {ru td sq sl nw0 kp0 nw kp : Nat → Int32} {i j l n : Nat} (hi : i < 4) (hl : l ≤ 16) (hj : j < l) (hsl : sl i = nI l) (hz : F_X10_actOf (sq (4 * (16 * i + j))) = some z) : FL_X10_goSteps_2 mn a0 ru td sq sl nw0 kp0 (nI i) z2 (n + 1) (nI j) ac nw kp = (F_X10_whyNot mn ru td nw z (sq (4 * (16 * i + j) + 1)) (sq (4 * (16 * i + j) + 2)) (sq (4 * (16 * i + j) + 3))).bind fun o => if o.1 = -1 then (if z2 = 0 then (F_X10_doNow mn ru td o.2 z (sq (4 * (16 * i + j) + 1)) (sq (4 * (16 * i + j) + 2)) (sq (4 * (16 * i + j) + 3))).bind fun w => FL_X10_goSteps_2 mn a0 ru td sq sl nw0 kp0 (nI i) z2 n (nI (j + 1)) ac w.2 kp else (F_X10_act mn ac ru td o.2 kp z (sq (4 * (16 * i + j) + 1)) (sq (4 * (16 * i + j) + 2)) (sq (4 * (16 * i + j) + 3))).bind fun w => FL_X10_goSteps_2 mn a0 ru td sq sl nw0 kp0 (nI i) z2 n (nI (j + 1)) w.2.1 w.2.2.1 w.2.2.2) else some (nI j, ac, o.2, kp) := by
  have hj' : ¬ nI l ≤ nI j := by rw [pLe (by omega) (by omega)]; omega
  have q0 : (4 : Int32) * ((16 : Int32) * nI i + nI j) = nI (4 * (16 * i + j)) := by
    have e1 : (16 : Int32) * nI i = nI (16 * i) := pM 16 i
    rw [e1, nI_add]; exact pM 4 _
  have q1 : nI (4 * (16 * i + j)) + 1 = nI (4 * (16 * i + j) + 1) := nI_add _ 1
  have q2 : nI (4 * (16 * i + j)) + 2 = nI (4 * (16 * i + j) + 2) := nI_add _ 2
  have q3 : nI (4 * (16 * i + j)) + 3 = nI (4 * (16 * i + j) + 3) := nI_add _ 3
  have x0 : ¬ (nI (4 * (16 * i + j)) < 0 ∨ 320 ≤ (nI (4 * (16 * i + j))).toNatClampNeg) := nI_in (by omega) (by omega)
  have x1 : ¬ (nI (4 * (16 * i + j) + 1) < 0 ∨ 320 ≤ (nI (4 * (16 * i + j) + 1)).toNatClampNeg) := nI_in (by omega) (by omega)
  have x2 : ¬ (nI (4 * (16 * i + j) + 2) < 0 ∨ 320 ≤ (nI (4 * (16 * i + j) + 2)).toNatClampNeg) := nI_in (by omega) (by omega)
  have x3 : ¬ (nI (4 * (16 * i + j) + 3) < 0 ∨ 320 ≤ (nI (4 * (16 * i + j) + 3)).toNatClampNeg) := nI_in (by omega) (by omega)
  rw [FL_X10_goSteps_2, pIx (by omega) (by omega), q0, q1, q2, q3, pS1]
  simp only [if_neg x0, if_neg x1, if_neg x2, if_neg x3]
  rw [pCl (show i < 2147483648 by omega), hsl, if_neg hj', pCl (show 4 * (16 * i + j) < 2147483648 by omega), pCl (show 4 * (16 * i + j) + 1 < 2147483648 by omega), pCl (show 4 * (16 * i + j) + 2 < 2147483648 by omega), pCl (show 4 * (16 * i + j) + 3 < 2147483648 by omega), hz, pBs]
theorem steps1 {m t s i l : Nat} {ru fp td f1 f2 sq sl fr0 fq0 fd0 nw0 kp0 : Nat → Int32} {nx0 p0 t0 a0 : Int32} (hS : ScR f1 f2 sq sl s) (hi : i < s) (hl : l ≤ 16) (hf2 : f2 i = nI l) (hsl : sl i = nI l) (hst : ∀ j, j < l → (∃ k, k ≤ 5 ∧ f1 (i * 64 + j * 4) = nI k) ∧ ∀ c, c < 4 → sq (4 * (16 * i + j) + c) = f1 (i * 64 + j * 4 + c)) : ∀ (k j n n' : Nat) (fr fq fd nw kp : Nat → Int32) (nx p tt : Nat), j + k = l → k < n → k < n' → WW m t ru fp td fr fq nx p fd tt nw kp → tt + k < 268435456 →
    ∃ r fr' fq' nx' p' fd' tt' nw' kp', FL_X9_stepsDone_3 (nI m) nx0 p0 t0 fr0 ru fp f1 f2 fq0 fd0 1 (nI i) n (nI j) (nI nx) (nI p) (nI tt) fr fq fd = some (r, nI nx', nI p', nI tt', fr', fq', fd') ∧ FL_X10_goSteps_2 (nI m) a0 ru td sq sl nw0 kp0 (nI i) 1 n' (nI j) (nI p) nw kp = some (r, nI p', nw', kp') ∧ WW m t ru fp td fr' fq' nx' p' fd' tt' nw' kp' ∧ tt' ≤ tt + k
  | k, j, 0, n', fr, fq, fd, nw, kp, nx, p, tt, _, h, _, _, _ => absurd h (by omega)
  | k, j, n + 1, 0, fr, fq, fd, nw, kp, nx, p, tt, _, _, h, _, _ => absurd h (by omega)
  | 0, j, n + 1, n' + 1, fr, fq, fd, nw, kp, nx, p, tt, h1, _, _, hw, _ => by
    obtain rfl : j = l := by omega
    have hs4 := hS.1
    rw [stX_end (by omega) hl hf2, goY_end (by omega) hl hsl]
    exact ⟨_, fr, fq, nx, p, fd, tt, nw, kp, rfl, rfl, hw, by omega⟩
  | k + 1, j, n + 1, n' + 1, fr, fq, fd, nw, kp, nx, p, tt, h1, h2, h3, hw, ht => by
    have hs4 := hS.1
    have hst' := hst j (by omega)
    obtain ⟨z, z1, z2⟩ := sort_sim (f1 := f1) (f2 := f2) (sq := sq) (sl := sl) (s := s) (i := i) (j := j) (l := l) (by omega) hl (by omega) hst'
    have hj : ¬ nI l ≤ nI j := by rw [pLe (by omega) (by omega)]; omega
    have r1 := x7_read (f1 := f1) (i := i) (j := j) (c := 1) (by omega) (by omega) (by omega)
    have r2 := x7_read (f1 := f1) (i := i) (j := j) (c := 2) (by omega) (by omega) (by omega)
    have r3 := x7_read (f1 := f1) (i := i) (j := j) (c := 3) (by omega) (by omega) (by omega)
    rw [← hst'.2 1 (by omega)] at r1
    rw [← hst'.2 2 (by omega)] at r2
    rw [← hst'.2 3 (by omega)] at r3
    rw [stX_go (by omega) hl (by omega) hf2 z1 r1 r2 r3, goY_go (by omega) hl (by omega) hsl z2]
    rcases act_sim (z := z) (a := sq (4 * (16 * i + j) + 1)) (b := sq (4 * (16 * i + j) + 2)) (c := sq (4 * (16 * i + j) + 3)) (b' := sq (4 * (16 * i + j) + 2)) (c' := sq (4 * (16 * i + j) + 3)) hw (by omega) (fun _ => ⟨rfl, rfl⟩) (fun _ => rfl) with ⟨k4, hk4, w, x⟩ | ⟨w, fr', fq', nx', p', fd', nw', kp', r, x, y, hw', ha⟩
    · rw [x, w, pBs, pBs]
      have hne : ¬ (nI k4 : Int32) = -1 := by rw [pNm (by omega)]; exact id
      refine ⟨nI j, fr, fq, nx, p, fd, tt, nw, kp, if_neg hne, if_neg hne, hw, by omega⟩
    · rw [x, w, pBs, pBs]
      obtain ⟨r', fr2, fq2, nx2, p2, fd2, tt2, nw2, kp2, a1, a2, a3, a4⟩ := steps1 (t := t) (td := td) (fr0 := fr0) (fq0 := fq0) (fd0 := fd0) (nw0 := nw0) (kp0 := kp0) (nx0 := nx0) (p0 := p0) (t0 := t0) (a0 := a0) hS hi hl hf2 hsl hst k (j + 1) n n' fr' fq' fd' nw' kp' nx' p' (tt + 1) (by omega) (by omega) (by omega) hw' (by omega)
      refine ⟨r', fr2, fq2, nx2, p2, fd2, tt2, nw2, kp2, ?_, ?_, a3, by omega⟩
      · show (if (-1 : Int32) = -1 then _ else _) = _
        rw [if_pos rfl]; exact a1
      · show (if (-1 : Int32) = -1 then (if (1 : Int32) = 0 then _ else (F_X10_act (nI m) (nI p) ru td nw kp z (sq (4 * (16 * i + j) + 1)) (sq (4 * (16 * i + j) + 2)) (sq (4 * (16 * i + j) + 3))).bind _) else _) = _
        rw [if_pos rfl, if_neg (by decide), y, pBs]; exact a2
theorem why_dry {m t u : Nat} {ru fp td fr nw : Nat → Int32} {z a b c : Int32} (hc : Cx m t ru fp td) (hr : Rl m fr nw) (hi : iU m ru (tT m td) (nz nw)) (hu : u ≤ 9999) (e1 : fr 96 = nI u) (e2 : nw 96 = nI u) :
    (∃ k, k < 4 ∧ F_X10_whyNot (nI m) ru td nw z a b c = some (nI k, nw) ∧ ∀ nx ph tt fq fd z0, F_X9_attempt (nI m) nx ph tt fr ru fp fq fd z0 z a b c = some (nI k, nx, ph, tt, fr, fq, fd)) ∨ (F_X10_whyNot (nI m) ru td nw z a b c = some (-1, nw) ∧ ∃ f g r, doS m ru fp td fr nw z a b c f g r) := by
  have hm := hc.1
  have hw : F_X10_whyNot (nI m) ru td nw z a b c = some (zBar m ru (tT m td) (nz nw) (nw 96) z a b c, nw) := rBar hm hc.2.1 hc.2.2.1 hi.1
  have hbar : F_X0_barOf fr (nI m) ru fp z a b c = some (zBar m ru (tT m td) (nz nw) (nw 96) z a b c) := by
    rw [cBar hm hc.2.1 (by rw [hr.1]; exact hi.1.1), hc.2.2.2, hr.1, e1, ← e2]
  rcases zBar_4 (m := m) (R := ru) (T := tT m td) (N := nz nw) (tm := nw 96) (z := z) (a := a) (b := b) (c := c) with q | ⟨k, hk4, q⟩
  · exact Or.inr ⟨by rw [hw, q], do_sim hc hr hi hu e1 e2 q⟩
  · refine Or.inl ⟨k, hk4, by rw [hw, q], fun nx ph tt fq fd z0 => ?_⟩
    unfold F_X9_attempt
    rw [hbar, pBs, q, if_neg (by rw [pNm (by omega)]; exact id)]
theorem steps0 {m t s i l : Nat} {ru fp td f1 f2 sq sl fr0 fq0 fd0 nw0 kp0 fq fd kp : Nat → Int32} {nx0 p0 t0 a0 nx p tt : Int32} (hc : Cx m t ru fp td) (hS : ScR f1 f2 sq sl s) (hi : i < s) (hl : l ≤ 16) (hf2 : f2 i = nI l) (hsl : sl i = nI l) (hst : ∀ j, j < l → (∃ k, k ≤ 5 ∧ f1 (i * 64 + j * 4) = nI k) ∧ ∀ c, c < 4 → sq (4 * (16 * i + j) + c) = f1 (i * 64 + j * 4 + c)) : ∀ (k j n n' u : Nat) (fr nw : Nat → Int32), j + k = l → k < n → k < n' → Rl m fr nw → iU m ru (tT m td) (nz nw) → u ≤ 9999 → fr 96 = nI u → nw 96 = nI u →
    ∃ r f g, FL_X9_stepsDone_3 (nI m) nx0 p0 t0 fr0 ru fp f1 f2 fq0 fd0 0 (nI i) n (nI j) nx p tt fr fq fd = some (r, nx, p, tt, f, fq, fd) ∧ FL_X10_goSteps_2 (nI m) a0 ru td sq sl nw0 kp0 (nI i) 0 n' (nI j) p nw kp = some (r, p, g, kp) ∧ Rl m f g ∧ iU m ru (tT m td) (nz g) ∧ kD nw g
  | k, j, 0, n', u, fr, nw, _, h, _, _, _, _, _, _ => absurd h (by omega)
  | k, j, n + 1, 0, u, fr, nw, _, _, h, _, _, _, _, _ => absurd h (by omega)
  | 0, j, n + 1, n' + 1, u, fr, nw, h1, _, _, hr, hi', _, _, _ => by
    obtain rfl : j = l := by omega
    have hs4 := hS.1
    rw [stX_end (by omega) hl hf2, goY_end (by omega) hl hsl]
    exact ⟨_, fr, nw, rfl, rfl, hr, hi', fun k _ => rfl⟩
  | k + 1, j, n + 1, n' + 1, u, fr, nw, h1, h2, h3, hr, hi', hu, e1, e2 => by
    have hs4 := hS.1
    have hst' := hst j (by omega)
    obtain ⟨z, z1, z2⟩ := sort_sim (f1 := f1) (f2 := f2) (sq := sq) (sl := sl) (s := s) (i := i) (j := j) (l := l) (by omega) hl (by omega) hst'
    have hj : ¬ nI l ≤ nI j := by rw [pLe (by omega) (by omega)]; omega
    have r1 := x7_read (f1 := f1) (i := i) (j := j) (c := 1) (by omega) (by omega) (by omega)
    have r2 := x7_read (f1 := f1) (i := i) (j := j) (c := 2) (by omega) (by omega) (by omega)
    have r3 := x7_read (f1 := f1) (i := i) (j := j) (c := 3) (by omega) (by omega) (by omega)
    rw [← hst'.2 1 (by omega)] at r1
    rw [← hst'.2 2 (by omega)] at r2
    rw [← hst'.2 3 (by omega)] at r3
    rw [stX_go (by omega) hl (by omega) hf2 z1 r1 r2 r3, goY_go (by omega) hl (by omega) hsl z2]
    rcases why_dry (z := z) (a := sq (4 * (16 * i + j) + 1)) (b := sq (4 * (16 * i + j) + 2)) (c := sq (4 * (16 * i + j) + 3)) hc hr hi' hu e1 e2 with ⟨k4, hk4, w, x⟩ | ⟨w, f, g, r, d1, d2, d3, ⟨u', hu', d4, d5⟩, d6, d7, d8⟩
    · rw [x, w, pBs, pBs]
      have hne : ¬ (nI k4 : Int32) = -1 := by rw [pNm (by omega)]; exact id
      exact ⟨nI j, fr, nw, if_neg hne, if_neg hne, hr, hi', fun k _ => rfl⟩
    · have x := d8 nx p tt fq fd 0
      rw [if_pos rfl] at x
      unfold cEnd at x
      rw [if_pos rfl] at x
      rw [x, w, pBs, pBs]
      obtain ⟨r', f2', g2', a1, a2, a3, a4, a5⟩ := steps0 (t := t) (td := td) (fr0 := fr0) (fq0 := fq0) (fd0 := fd0) (nw0 := nw0) (kp0 := kp0) (nx0 := nx0) (p0 := p0) (t0 := t0) (a0 := a0) (fq := fq) (fd := fd) (kp := kp) (nx := nx) (p := p) (tt := tt) hc hS hi hl hf2 hsl hst k (j + 1) n n' u' f g (by omega) (by omega) (by omega) d2 d3 hu' d4 d5
      refine ⟨r', f2', g2', ?_, ?_, a3, a4, fun k hk => (a5 k hk).trans (d6 k hk)⟩
      · show (if (-1 : Int32) = -1 then _ else _) = _
        rw [if_pos rfl]; exact a1
      · show (if (-1 : Int32) = -1 then (if (0 : Int32) = 0 then (F_X10_doNow (nI m) ru td nw z (sq (4 * (16 * i + j) + 1)) (sq (4 * (16 * i + j) + 2)) (sq (4 * (16 * i + j) + 3))).bind _ else _) else _) = _
        rw [if_pos rfl, if_pos rfl, d1, pBs]; exact a2
theorem aside_L {nw as_ : Nat → Int32} : ∃ g, F_X10_putAside nw as_ = some g ∧ ∀ k, k < 98 → g k = nw k := by
  unfold F_X10_putAside
  have hl := pLoop (m := 98) (L := fun n i x => FL_X10_putAside_2 nw as_ n i x) (g := fun j x => upd x j (nw j)) (fin := id) (fun j x => ∀ k, k < j → x k = nw k) (fun n j x hj hI => ?_) (fun n x hI => ?_) 98 1000 0 as_ (by omega) (by omega) (fun k hk => by omega)
  · exact ⟨_, hl.1, hl.2⟩
  · refine ⟨?_, fun k hk => ?_⟩
    · show FL_X10_putAside_2 nw as_ (n + 1) (nI j) x = FL_X10_putAside_2 nw as_ n (nI (j + 1)) _
      rw [FL_X10_putAside_2, if_neg (by rw [show (98 : Int32) = nI 98 from rfl, pLe (by omega) (by omega)]; omega), pIx (by omega) (by omega), pIx (by omega) (by omega), pCl (by omega), pS1]
    · by_cases c : k = j
      · subst c; exact pUs
      · show upd x j _ k = _
        rw [pUn c]; exact hI k (by omega)
  · show FL_X10_putAside_2 nw as_ (n + 1) (nI 98) x = _
    rw [FL_X10_putAside_2, if_pos (show (98 : Int32) ≤ nI 98 from by decide)]; rfl
theorem bring_L {nw as_ : Nat → Int32} : ∃ g, F_X10_bringBack nw as_ = some g ∧ (∀ k, k < 98 → g k = as_ k) ∧ ∀ k, 98 ≤ k → g k = nw k := by
  unfold F_X10_bringBack
  have hl := pLoop (m := 98) (L := fun n i x => FL_X10_bringBack_2 nw as_ n i x) (g := fun j x => upd x j (as_ j)) (fin := id) (fun j x => j ≤ 98 ∧ (∀ k, k < j → x k = as_ k) ∧ ∀ k, 98 ≤ k → x k = nw k) (fun n j x hj hI => ?_) (fun n x hI => ?_) 98 1000 0 nw (by omega) (by omega) ⟨by omega, fun k hk => by omega, fun k hk => rfl⟩
  · exact ⟨_, hl.1, hl.2.2⟩
  · refine ⟨?_, by omega, fun k hk => ?_, fun k hk => ?_⟩
    · show FL_X10_bringBack_2 nw as_ (n + 1) (nI j) x = FL_X10_bringBack_2 nw as_ n (nI (j + 1)) _
      rw [FL_X10_bringBack_2, if_neg (by rw [show (98 : Int32) = nI 98 from rfl, pLe (by omega) (by omega)]; omega), pIx (by omega) (by omega), pIx (by omega) (by omega), pCl (by omega), pS1]
    · by_cases c : k = j
      · subst c; exact pUs
      · show upd x j _ k = _
        rw [pUn c]; exact hI.2.1 k (by omega)
    · show upd x j _ k = _
      rw [pUn (by omega)]; exact hI.2.2 k hk
  · show FL_X10_bringBack_2 nw as_ (n + 1) (nI 98) x = _
    rw [FL_X10_bringBack_2, if_pos (show (98 : Int32) ≤ nI 98 from by decide)]; rfl
/-- aside and back again: as it was -/
theorem bring_eq {nw a g : Nat → Int32} (h1 : ∀ k, k < 98 → a k = nw k) (h2 : kD nw g) : F_X10_bringBack g a = some nw := by
  obtain ⟨g', e, e1, e2⟩ := bring_L (nw := g) (as_ := a)
  rw [e]
  have hh : g' = nw := by
    funext k
    by_cases c : k < 98
    · rw [e1 k c, h1 k c]
    · rw [e2 k (by omega), h2 k (by omega)]
  rw [hh]
theorem perform_sim {m t s : Nat} {ru fp td f1 f2 sq sl fr fq fd nw kp : Nat → Int32} {nx p tt : Nat} {z1 : Int32} (hw : WW m t ru fp td fr fq nx p fd tt nw kp) (ht : tt < 134217728) (hS : ScR f1 f2 sq sl s) : ∃ r fr' fq' nx' p' fd' tt' nw' kp', F_X9_perform (nI m) (nI s) (nI nx) (nI p) (nI tt) ru fp f1 f2 fr fq fd z1 = some (r, nI nx', nI p', nI tt', fr', fq', fd') ∧ F_X10_perform (nI m) (nI s) (nI p) ru td sq sl nw kp z1 = some (r, nI p', nw', kp') ∧ WW m t ru fp td fr' fq' nx' p' fd' tt' nw' kp' ∧ tt' ≤ tt + 40 := by
  have hm := hw.1.1
  have hs4 := hS.1
  unfold F_X9_perform F_X10_perform F_X5_isTold
  rw [sHas (by omega), sIs, pBs, pBs, rTree hm, pBs]
  by_cases m0 : m = 0
  · subst m0
    refine ⟨-1, fr, fq, nx, p, fd, tt, nw, kp, rfl, ?_, hw, by omega⟩
    by_cases c : zDev s z1 = true <;> simp [c, pb]
  · have m0' : 0 < m := by omega
    have hp1 : ¬ pb (decide (0 < m)) = 0 := by simp [m0', pb]
    rw [if_neg (by rw [pLe0 (by omega)]; exact m0), pBs, if_neg (show ¬ (1 : Int32) = 0 from by decide), if_neg hp1]
    by_cases c : zDev s z1 = true
    · rw [c, if_neg (show ¬ pb true = 0 from by decide), if_neg (show ¬ pb true = 0 from by decide)]
      obtain ⟨i, hi, rfl⟩ := zDev_lt (by omega) c
      obtain ⟨l, hl, hf2, hsl, hst⟩ := hS.2 i hi
      obtain ⟨r, fr2, fq2, nx2, p2, fd2, tt2, nw2, kp2, a1, a2, a3, a4⟩ := steps1 (t := t) (td := td) (fr0 := fr) (fq0 := fq) (fd0 := fd) (nw0 := nw) (kp0 := kp) (nx0 := nI nx) (p0 := nI p) (t0 := nI tt) (a0 := nI p) hS hi hl hf2 hsl hst l 0 1000 1000 fr fq fd nw kp nx p tt (by omega) (by omega) (by omega) hw (by omega)
      unfold F_X9_stepsDone F_X10_goSteps
      rw [show (0 : Int32) = nI 0 from rfl, a1, a2, pBs, pBs]
      exact ⟨r, fr2, fq2, nx2, p2, fd2, tt2, nw2, kp2, rfl, rfl, a3, by omega⟩
    · have c' : zDev s z1 = false := by simpa using c
      rw [c', if_pos (show pb false = 0 from rfl), if_pos (show pb false = 0 from rfl)]
      exact ⟨_, fr, fq, nx, p, fd, tt, nw, kp, rfl, rfl, hw, by omega⟩
theorem run_sim {m t s : Nat} {ru fp td f1 f2 sq sl fr fa fq fd nw kp as_ : Nat → Int32} {nx p tt : Nat} {z1 z2 : Int32} (hw : WW m t ru fp td fr fq nx p fd tt nw kp) (hS : ScR f1 f2 sq sl s) : ∃ r fa' as', F_X9_run (nI m) (nI s) (nI nx) (nI p) (nI tt) ru fp f1 f2 fr fa fq fd z1 z2 = some (r, nI nx, nI p, nI tt, fa', fq, fd) ∧ F_X10_run (nI m) (nI s) (nI p) ru td sq sl nw kp as_ z1 z2 = some (r, nI p, nw, kp, as') := by
  have hm := hw.1.1
  have hs4 := hS.1
  unfold F_X9_run F_X10_run F_X5_isTold
  rw [sHas (by omega), sIs, pBs, pBs, rTree hm, pBs, rIn, pBs]
  by_cases m0 : m = 0
  · subst m0
    refine ⟨-1000000, fa, as_, rfl, ?_⟩
    by_cases c : zDev s z1 = true <;> simp [c, pb]
  · have m0' : 0 < m := by omega
    have hp1 : ¬ pb (decide (0 < m)) = 0 := by simp [m0', pb]
    rw [if_neg (by rw [pLe0 (by omega)]; exact m0), pBs, if_neg (show ¬ (1 : Int32) = 0 from by decide), if_neg hp1]
    by_cases c : zDev s z1 = true
    · rw [c, if_neg (show ¬ pb true = 0 from by decide), if_neg (show ¬ pb true = 0 from by decide)]
      obtain ⟨i, hi, rfl⟩ := zDev_lt (by omega) c
      obtain ⟨l, hl, hf2, hsl, hst⟩ := hS.2 i hi
      have key : (!decide (z2 < 0) && !decide (1 < z2)) = (decide (z2 = 0) || decide (z2 = 1)) := by
        have h0 : (0 : Int32).toInt = 0 := by decide
        have h1 : (1 : Int32).toInt = 1 := by decide
        have e0 : (z2 = 0) ↔ z2.toInt = 0 := by rw [q_eq, h0]
        have e1 : (z2 = 1) ↔ z2.toInt = 1 := by rw [q_eq, h1]
        have e2 : (z2 < 0) ↔ z2.toInt < 0 := by rw [q_lt, h0]
        have e3 : (1 < z2) ↔ 1 < z2.toInt := by rw [q_lt, h1]
        by_cases c0 : z2 < 0
        · have : ¬ z2 = 0 := by rw [e0]; rw [e2] at c0; omega
          have hh1 : ¬ z2 = 1 := by rw [e1]; rw [e2] at c0; omega
          simp [c0, this, hh1]
        · by_cases c1 : 1 < z2
          · have : ¬ z2 = 0 := by rw [e0]; rw [e3] at c1; omega
            have hh1 : ¬ z2 = 1 := by rw [e1]; rw [e3] at c1; omega
            simp [c1, this, hh1]
          · have : z2 = 0 ∨ z2 = 1 := by rw [e0, e1]; rw [e2] at c0; rw [e3] at c1; omega
            rcases this with q | q <;> simp [q]
      rw [key]
      obtain ⟨u, hu, e1, e2⟩ := hw.2.1.2.2.1
      have hcp : ∀ k, k < 98 → va_cpy fr fa 0 0 98 k = fr k := fun k hk => by simp only [va_cpy]; rw [if_pos (by omega), show 0 + (k - 0) = k from by omega]
      obtain ⟨a, b1, b2⟩ := aside_L (nw := nw) (as_ := as_)
      obtain ⟨r, f, g, a1, a2, a3, a4, a5⟩ := steps0 (t := t) (td := td) (fr0 := va_cpy fr fa 0 0 98) (fq0 := fq) (fd0 := fd) (nw0 := nw) (kp0 := kp) (nx0 := nI nx) (p0 := nI p) (t0 := nI tt) (a0 := nI p) (fq := fq) (fd := fd) (kp := kp) (nx := nI nx) (p := nI p) (tt := nI tt) hw.1 hS hi hl hf2 hsl hst l 0 1000 1000 u (va_cpy fr fa 0 0 98) nw (by omega) (by omega) (by omega) (Rl_congr hm hcp (fun _ _ => rfl) hw.2.1.1) hw.2.1.2.1 hu (by rw [hcp 96 (by omega)]; exact e1) e2
      unfold F_X0_copyFrom F_X9_stepsDone F_X10_goSteps
      by_cases c0 : z2 = 0
      · subst c0
        rw [if_pos rfl, if_neg (show ¬ pb (decide ((0 : Int32) = 0) || decide ((0 : Int32) = 1)) = 0 from by decide), pBs, show (nI 0 : Int32) = 0 from rfl] at *
        rw [a1, pBs, b1, pBs, a2, pBs, rThose hm, pBs, pBits hm, pBs, bring_eq b2 a5, pBs, if_neg (show ¬ (0 : Int32) = 1 from by decide), if_neg (show ¬ (0 : Int32) = 1 from by decide)]
        simp (disch := omega) only [pIx, pIy, pCl, hf2, hsl]
        by_cases cr : r = nI l
        · exact ⟨-1, f, a, if_pos cr, if_pos cr⟩
        · exact ⟨r, f, a, if_neg cr, if_neg cr⟩
      · rw [if_neg c0]
        by_cases c1 : z2 = 1
        · subst c1
          rw [if_pos rfl, if_neg (show ¬ pb (decide ((1 : Int32) = 0) || decide ((1 : Int32) = 1)) = 0 from by decide), pBs, show (nI 0 : Int32) = 0 from rfl] at *
          rw [a1, pBs, b1, pBs, a2, pBs, rThose hm, pBs, pBits hm, pBs, bring_eq b2 a5, pBs, if_pos rfl, if_pos rfl]
          have ec : F_X0_running f (nI m) ru fp = some (nI (pNum (fun d => decide (nz g d = 6)) m)) := by rw [cRunning hm, a3.1]
          show ∃ r' fa' as', (F_X0_running f (nI m) ru fp).bind _ = _ ∧ _
          rw [ec, pBs]
          exact ⟨_, f, a, rfl, rfl⟩
        · rw [if_neg c1, if_pos (show pb (decide (z2 = 0) || decide (z2 = 1)) = 0 by simp [c0, c1, pb])]
          exact ⟨_, fa, as_, rfl, rfl⟩
    · have c' : zDev s z1 = false := by simpa using c
      rw [c', if_pos (show pb false = 0 from rfl), if_pos (show pb false = 0 from rfl)]
      exact ⟨_, fa, as_, rfl, rfl⟩
theorem step_sim {s : Nat} {f1 f2 sq sl : Nat → Int32} {z1 z2 z3 : Int32} (hS : ScR f1 f2 sq sl s) : ∃ r, F_X9_step (nI s) f1 f2 z1 z2 z3 = some r ∧ F_X10_step (nI s) sq sl z1 z2 z3 = some r := by
  have hs4 := hS.1
  unfold F_X9_step F_X10_step
  rw [sHas (by omega), sIs, pBs, pBs]
  by_cases c : zDev s z1 = true
  · rw [c, if_neg (show ¬ pb true = 0 from by decide), if_neg (show ¬ pb true = 0 from by decide)]
    obtain ⟨i, hi, rfl⟩ := zDev_lt (by omega) c
    obtain ⟨l, hl, hf2, hsl, hst⟩ := hS.2 i hi
    simp (disch := omega) only [pIx, pIy, pCl, hf2, hsl, rIn, pBs]
    by_cases c1 : z2 < 0
    · rw [if_pos c1, if_pos (show pb (!decide (z2 < 0) && !decide (nI l - 1 < z2)) = 0 by simp [c1, pb])]; exact ⟨_, rfl, rfl⟩
    · rw [if_neg c1]
      obtain ⟨j, hj, rfl⟩ := nI_of c1
      have e1 : (nI l - 1 < nI j) ↔ l ≤ j := by
        rw [q_lt, show (1 : Int32) = nI 1 from rfl, pk_sub_toInt (by omega) (by omega), nI_toInt hj]; omega
      by_cases c2 : l ≤ j
      · rw [if_pos ((pLe (by omega) hj).mpr c2), if_pos (show pb (!decide (nI j < 0) && !decide (nI l - 1 < nI j)) = 0 by simp [e1.mpr c2, pb])]; exact ⟨_, rfl, rfl⟩
      · have c2' : ¬ nI l - 1 < nI j := fun q => c2 (e1.mp q)
        rw [if_neg (fun q => c2 ((pLe (by omega) hj).mp q)), if_neg (show ¬ pb (!decide (nI j < 0) && !decide (nI l - 1 < nI j)) = 0 by simp [c1, c2', pb])]
        by_cases c3 : z3 < 0
        · rw [if_pos c3, if_pos (show pb (!decide (z3 < 0) && !decide (3 < z3)) = 0 by simp [c3, pb])]; exact ⟨_, rfl, rfl⟩
        · rw [if_neg c3]
          have c4 : (3 < z3) ↔ ¬ (z3 < 4) := by
            rw [q_lt, q_lt]
            have h3 : (3 : Int32).toInt = 3 := by decide
            have h4 : (4 : Int32).toInt = 4 := by decide
            omega
          by_cases c5 : z3 < 4
          · have c5' : ¬ 3 < z3 := fun q => (c4.mp q) c5
            rw [if_pos c5, if_neg (show ¬ pb (!decide (z3 < 0) && !decide (3 < z3)) = 0 by simp [c3, c5', pb])]
            obtain ⟨x, hx, rfl⟩ := nI_of c3
            have hx4 : x < 4 := by rw [show (4 : Int32) = nI 4 from rfl, pLt hx (by omega)] at c5; exact c5
            rw [x7_read (by omega) (by omega) hx4, pBs, sq_ix, pIx (by omega) (by omega), pCl (by omega), (hst j (by omega)).2 x hx4]
            exact ⟨_, rfl, rfl⟩
          · rw [if_neg c5, if_pos (show pb (!decide (z3 < 0) && !decide (3 < z3)) = 0 by simp [c4.mpr c5, pb])]; exact ⟨_, rfl, rfl⟩
  · have c' : zDev s z1 = false := by simpa using c
    rw [c', if_pos (show pb false = 0 from rfl), if_pos (show pb false = 0 from rfl)]
    exact ⟨_, rfl, rfl⟩
end
