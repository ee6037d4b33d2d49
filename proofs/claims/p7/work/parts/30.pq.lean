/-! what a tick leaves; ports; plugging -/
def hpK (k : Nat) : Prop := (32 ≤ k ∧ k < 48) ∨ (72 ≤ k ∧ k < 88)
theorem nQ_hp {N : Nat → Int32} {d k : Nat} (hd : d < 8) (hk : hpK k) : nQ N d k = N k := by
  unfold hpK at hk; simp (disch := omega) only [nQ, nLow, pUn]
theorem nRefuse_hp {m : Nat} {N : Nat → Int32} {d k : Nat} {why : Int32} (hm : m ≤ 8) (hd : d < 8) (hk : hpK k) : nRefuse m N d why k = N k := by
  unfold nRefuse
  have := pF_const (φ := fun f : Nat → Int32 => f k) (g := cRf (nI d)) m 0 (nRef0 N d why) (fun i a _ hi => by
    show cRf (nI d) i a k = a k
    unfold cRf
    split
    · exact nQ_hp (by omega) hk
    · rfl)
  refine this.trans ?_
  unfold hpK at hk
  simp (disch := omega) only [nRef0, nLow, pUn]
theorem nSettle_hp {m : Nat} {N : Nat → Int32} {k : Nat} (hm : m ≤ 8) (hk : hpK k) : nSettle m N k = N k :=
  pF_const (φ := fun f : Nat → Int32 => f k) m 0 N (fun i a _ hi => by
    show nSt i a k = a k
    unfold nSt
    have hk' := hk; unfold hpK at hk'
    split
    · split
      · exact pUn (by omega)
      · rw [nQ_hp (by omega) hk]; exact pUn (by omega)
    · rfl)
theorem nGo_hp {m t : Nat} {R : Nat → Int32} {T : Nat → Nat → Int32} {N : Nat → Int32} {d k : Nat} {v : Int32} (hm : m ≤ 8) (hd : d < 8) (hk : hpK k) : nGo m t R T N d v k = N k := by
  have hf : nFail m R N d v k = N k := by
    unfold nFail; split
    · exact nQ_hp hd hk
    · exact nRefuse_hp hm hd hk
  have hk' := hk; unfold hpK at hk'
  unfold nGo
  split
  · rw [pUn (by omega), pUn (by omega)]
  · split
    · split
      · exact pUn (by omega)
      · exact hf
    · split
      · unfold nJudge; split
        · simp (disch := omega) only [nConf, nLow, pUn]
        · exact nRefuse_hp hm hd hk
      · exact hf
theorem zGone_hp {m t : Nat} {R : Nat → Int32} {T : Nat → Nat → Int32} {N : Nat → Int32} {v : Int32} {k : Nat} (hm : m ≤ 8) (hk : hpK k) : zGone m t R T N v k = N k := by
  unfold zGone
  rcases zS_c m N with q | ⟨d, hd, q, hb⟩
  · rw [if_pos q, nSettle_hp hm hk]
  · rw [q, if_neg (by rw [pNm (by omega)]; exact id), pCl (by omega), nGo_hp hm (by omega) hk, nSettle_hp hm hk]
theorem nTail_hp {m : Nat} {R N : Nat → Int32} {k : Nat} (hm : m ≤ 8) (hk : hpK k) : nTail m R N k = N k := by
  unfold nTail
  split
  · split
    · rfl
    · rename_i h
      rcases next_q (m := m) (N := nz N) with q | ⟨q, hq, e, -⟩
      · exact absurd q h
      · unfold hpK at hk
        rw [e, pCl (by omega)]; simp (disch := omega) only [nLow, pUn]
  · rfl
theorem zTk_hp {m t : Nat} {R : Nat → Int32} {T : Nat → Nat → Int32} {N : Nat → Int32} {v : Int32} {k : Nat} (hm : m ≤ 8) (hk : hpK k) : zTk m t R T N v k = N k := by
  unfold zTk; rw [nTail_hp hm hk, zGone_hp hm hk]
/-- ports as they are told -/
def wPt (m : Nat) (R : Nat → Int32) (T : Nat → Nat → Int32) (N : Nat → Int32) : Prop := ∀ d, d < m → N (32 + d) ≠ -1 → ∃ h p, N (32 + d) = nI h ∧ N (40 + d) = nI p ∧ p < 4 ∧ ((h = 8 ∧ nI p < R 0) ∨ (h < m ∧ nI p < T h 0))
theorem wPt.keep {m : Nat} {R : Nat → Int32} {T : Nat → Nat → Int32} {N N' : Nat → Int32} (hm : m ≤ 8) (h : wPt m R T N) (hk : ∀ k, 32 ≤ k → k < 48 → N' k = N k) : wPt m R T N' := fun d hd => by
  rw [hk (32 + d) (by omega) (by omega), hk (40 + d) (by omega) (by omega)]; exact h d hd
/-! addresses: in their bounds, each but once -/
def k7 (m : Nat) (N N' : Nat → Int32) : Prop := ∀ e, e < m → N' e = 6 → N e = 6 ∧ N' (56 + e) = N (56 + e)
theorem k7.tr {m : Nat} {N N' N'' : Nat → Int32} (h : k7 m N N') (h' : k7 m N' N'') : k7 m N N'' := fun e he h6 => by
  obtain ⟨a, b⟩ := h' e he h6
  obtain ⟨c, d⟩ := h e he a
  exact ⟨c, b.trans d⟩
theorem k7_one {m d : Nat} {N N' : Nat → Int32} (h6 : N' d ≠ 6) (h : ∀ e, e < m → e ≠ d → N' e = N e ∧ N' (56 + e) = N (56 + e)) : k7 m N N' := fun e he q => by
  by_cases c : e = d
  · subst c; exact absurd q h6
  · obtain ⟨a, b⟩ := h e he c
    exact ⟨by rw [← a]; exact q, b⟩
theorem nQ_k7 {m : Nat} {N : Nat → Int32} {d : Nat} (hm : m ≤ 8) (hd : d < m) : k7 m N (nQ N d) := by
  refine k7_one (d := d) (by rw [nQ_0 (by omega)]; decide) (fun e he c => ?_)
  have h0 := nQ_same (N := N) (d := d) (e := e) (j := 0) (by omega) (by omega) c (by decide)
  have h7 := nQ_same (N := N) (d := d) (e := e) (j := 7) (by omega) (by omega) c (by decide)
  simp only [Nat.mul_zero, Nat.zero_add, Nat.reduceMul] at h0 h7
  exact ⟨h0, h7⟩
theorem nRefuse_k7 {m : Nat} {N : Nat → Int32} {d : Nat} {why : Int32} (hm : m ≤ 8) (hd : d < m) : k7 m N (nRefuse m N d why) := by
  have := pF_inv (g := cRf (nI d)) (fun _ a => k7 m N a) m 0 (nRef0 N d why) (fun i a _ hi hI => ?_) (k7_one (d := d) (by rw [nRef0_0 (by omega)]; decide) (fun e he c => ?_))
  · exact this
  · show k7 m N (cRf (nI d) i a)
    unfold cRf
    split
    · exact hI.tr (nQ_k7 hm (by omega))
    · exact hI
  · have h0 := nRef0_same (N := N) (why := why) (d := d) (e := e) (j := 0) (by omega) (by omega) c (by decide)
    have h7 := nRef0_same (N := N) (why := why) (d := d) (e := e) (j := 7) (by omega) (by omega) c (by decide)
    simp only [Nat.mul_zero, Nat.zero_add, Nat.reduceMul] at h0 h7
    exact ⟨h0, h7⟩
theorem nSt_k7 {m : Nat} {N : Nat → Int32} {d : Nat} (hm : m ≤ 8) (hd : d < m) : k7 m N (nSt d N) := by
  have h8 : ∀ v, k7 m N (upd N (8 + d) v) := fun v e he q => by
    rw [pUn (by omega)] at q; exact ⟨q, pUn (by omega)⟩
  unfold nSt
  split
  · split
    · exact h8 _
    · exact (h8 _).tr (nQ_k7 hm hd)
  · exact fun e he q => ⟨q, rfl⟩
theorem nSettle_k7 {m : Nat} {N : Nat → Int32} (hm : m ≤ 8) : k7 m N (nSettle m N) := by
  have := pF_inv (g := nSt) (fun _ a => k7 m N a) m 0 N (fun i a _ hi hI => hI.tr (nSt_k7 hm (by omega))) (fun e he q => ⟨q, rfl⟩)
  exact this
theorem nFail_k7 {m : Nat} {R N : Nat → Int32} {d : Nat} {v : Int32} (hm : m ≤ 8) (hd : d < m) : k7 m N (nFail m R N d v) := by
  unfold nFail
  split
  · exact nQ_k7 hm hd
  · exact nRefuse_k7 hm hd
theorem nTail_k7 {m : Nat} {R N : Nat → Int32} (hm : m ≤ 8) : k7 m N (nTail m R N) := by
  unfold nTail
  split
  · split
    · exact fun e he q => ⟨q, rfl⟩
    · rename_i h
      rcases next_q (m := m) (N := nz N) with q | ⟨q, hq, e, -⟩
      · exact absurd q h
      · rw [e, pCl (by omega)]
        refine k7_one (d := q) ?_ (fun e he c => ⟨by simp (disch := omega) only [nLow, pUn], by simp (disch := omega) only [nLow, pUn]⟩)
        have : upd (nLow N q 3) (8 + q) (R 2) q = 3 := by simp only [nLow, upd]; grind
        rw [this]; decide
  · exact fun e he q => ⟨q, rfl⟩
def wAdr (m : Nat) (R N : Nat → Int32) : Prop := (∀ d, d < m → N d = 6 → ∃ a, 1 ≤ a ∧ a ≤ 9 ∧ nI a ≤ R 7 ∧ N (56 + d) = nI a) ∧ ∀ d e, d < m → e < m → N d = 6 → N e = 6 → N (56 + d) = N (56 + e) → d = e
theorem wAdr.keep {m : Nat} {R N N' : Nat → Int32} (h : wAdr m R N) (hk : k7 m N N') : wAdr m R N' := by
  refine ⟨fun d hd q => ?_, fun d e hd he q1 q2 q3 => ?_⟩
  · obtain ⟨a, b⟩ := hk d hd q
    rw [b]; exact h.1 d hd a
  · obtain ⟨a1, b1⟩ := hk d hd q1
    obtain ⟨a2, b2⟩ := hk e he q2
    rw [b1, b2] at q3
    exact h.2 d e hd he a1 a2 q3
theorem nGo_adr {m t : Nat} {R : Nat → Int32} {T : Nat → Nat → Int32} {N : Nat → Int32} {d : Nat} {v : Int32} (hm : m ≤ 8) (hR : wRu R t) (h : wAdr m R N) (hd : d < m) : wAdr m R (nGo m t R T N d v) := by
  unfold nGo
  split
  · refine h.keep (k7_one (d := d) ?_ (fun e he c => ⟨by rw [pUn c, pUn (by omega)], by rw [pUn (by omega), pUn (by omega)]⟩))
    rw [pUs]; split <;> decide
  · split
    · split
      · exact h.keep (k7_one (d := d) (by rw [pUs]; decide) (fun e he c => ⟨pUn c, pUn (by omega)⟩))
      · exact h.keep (nFail_k7 hm hd)
    · split
      · unfold nJudge
        split
        · rename_i hw
          obtain ⟨ht, eR, -⟩ := hR
          have hne : zAddr m t N ≠ -1 := fun q => by
            unfold zWhy at hw
            rw [if_pos q] at hw
            by_cases cd : zDepth N d ≤ 4
            · rw [if_pos cd] at hw; exact absurd hw (by decide)
            · rw [if_neg cd] at hw; exact absurd hw (by decide)
          rcases pFd_cases (fun a => decide (zWho m N (nI a) = -1)) t 1 with ⟨q, -⟩ | ⟨a, a1, a2, a3, a4, -⟩
          · exact absurd q hne
          · have ea : zAddr m t N = nI a := a3
            have hno : ∀ e, e < m → N e = 6 → N (56 + e) ≠ nI a := fun e he q w => by
              have h4 : zWho m N (nI a) = -1 := by simpa using a4
              rcases pFd_cases (fun d => decide (N d = 6) && decide (N (56 + d) = nI a)) m 0 with ⟨-, g⟩ | ⟨i, -, i2, i3, -, -⟩
              · have := g e (by omega) (by omega)
                simp [q, w] at this
              · unfold zWho at h4; rw [i3, pNm (by omega)] at h4; exact h4
            rw [ea]
            have c0 : nConf N d (nI a) (zSp T N (N (32 + d)).toNatClampNeg d) (56 + d) = nI a := by simp only [nConf, nLow, upd]; grind
            have co : ∀ e, e < m → e ≠ d → nConf N d (nI a) (zSp T N (N (32 + d)).toNatClampNeg d) e = N e ∧ nConf N d (nI a) (zSp T N (N (32 + d)).toNatClampNeg d) (56 + e) = N (56 + e) := fun e he c => ⟨by simp (disch := omega) only [nConf, nLow, pUn], by simp (disch := omega) only [nConf, nLow, pUn]⟩
            refine ⟨fun e he q => ?_, fun e f he hf q1 q2 q3 => ?_⟩
            · by_cases c : e = d
              · subst c; exact ⟨a, a1, by omega, by rw [eR, pLe (by omega) (by omega)]; omega, c0⟩
              · obtain ⟨o1, o2⟩ := co e he c
                rw [o1] at q; rw [o2]; exact h.1 e he q
            · by_cases c : e = d
              · by_cases c2 : f = d
                · rw [c, c2]
                · obtain ⟨o1, o2⟩ := co f hf c2
                  rw [o1] at q2; rw [c, c0, o2] at q3
                  exact absurd q3.symm (hno f hf q2)
              · obtain ⟨o1, o2⟩ := co e he c
                rw [o1] at q1; rw [o2] at q3
                by_cases c2 : f = d
                · rw [c2, c0] at q3; exact absurd q3 (hno e he q1)
                · obtain ⟨p1, p2⟩ := co f hf c2
                  rw [p1] at q2; rw [p2] at q3
                  exact h.2 e f he hf q1 q2 q3
        · exact h.keep (nRefuse_k7 hm hd)
      · exact h.keep (nFail_k7 hm hd)
theorem zTk_adr {m t : Nat} {R : Nat → Int32} {T : Nat → Nat → Int32} {N : Nat → Int32} {v : Int32} (hm : m ≤ 8) (hR : wRu R t) (h : wAdr m R N) : wAdr m R (zTk m t R T N v) := by
  unfold zTk
  refine wAdr.keep ?_ (nTail_k7 hm)
  unfold zGone
  rcases zS_c m N with q | ⟨d, hd, q, hb⟩
  · rw [if_pos q]; exact h.keep (nSettle_k7 hm)
  · rw [q, if_neg (by rw [pNm (by omega)]; exact id), pCl (by omega)]
    exact nGo_adr hm hR (h.keep (nSettle_k7 hm)) hd
def iU (m : Nat) (R : Nat → Int32) (T : Nat → Nat → Int32) (N : Nat → Int32) : Prop := iT m T N ∧ wPt m R T N ∧ wAdr m R N
theorem zTk_iU {m t : Nat} {R : Nat → Int32} {T : Nat → Nat → Int32} {N : Nat → Int32} {v : Int32} (hm : m ≤ 8) (hR : wRu R t) (hT : wT m T) (h : iU m R T N) : iU m R T (zTk m t R T N v) :=
  ⟨zTk_iT hm hR hT h.1, h.2.1.keep hm (fun k h1 h2 => zTk_hp hm (Or.inl ⟨h1, h2⟩)), zTk_adr hm hR h.2.2⟩
/-- who is away, by its hub -/
theorem away_hub {m : Nat} {N : Nat → Int32} {d : Nat} (hm : m ≤ 8) (h : iN m N) (hd : d < m) : N d = 0 ↔ N (32 + d) = -1 := by
  refine ⟨fun h0 => h.f d hd h0, fun h1 => ?_⟩
  refine Decidable.byContradiction (fun h0 => ?_)
  obtain ⟨c, hc, e⟩ := h.h hm d hd h0
  rw [h1] at e
  have := pNm (a := c) (by omega)
  rw [← this]; exact e.symm
/-! a list with one more, and with some less -/
theorem wSp.keep' {m : Nat} {T : Nat → Nat → Int32} {N N' : Nat → Int32} (hm : m ≤ 8) (h : wSp m T N) (hC : wC m N') (h1 : k6 m N N') (h4 : ∀ e, e < m → N' e = 6 → N' (32 + e) = N (32 + e)) : wSp m T N' := by
  intro e he h6 c hc hh
  obtain ⟨a, b⟩ := h1 e he h6
  rw [b, h e he a c hc (by rw [← h4 e he h6]; exact hh)]
  have key : zSpd N c = zSpd N' c := by
    unfold zSpd
    by_cases c8 : c = 8
    · rw [if_pos c8, if_pos c8]
    · rw [if_neg c8, if_neg c8]
      rcases hC e he (Or.inr (Or.inr (Or.inr h6))) with q | ⟨q, hq, q1, q2⟩
      · rw [hh] at q; exact absurd ((nI_eq (a := c) (b := 8) (by omega) (by omega)).mp q) c8
      · rw [hh] at q1
        have := (nI_eq (a := c) (b := q) (by omega) (by omega)).mp q1
        subst this
        exact (h1 c hq q2).2.symm
  unfold zSp
  rw [key]
theorem idx_filter {p : Nat → Bool} {a b : Nat} (ha : p a = true) (hb : p b = true) : ∀ (L : List Nat), a ∈ L → L.idxOf a < L.idxOf b → (L.filter p).idxOf a < (L.filter p).idxOf b
  | [], h, _ => absurd h (by simp)
  | x :: L, h, hl => by
    rw [List.idxOf_cons, List.idxOf_cons] at hl
    by_cases c : p x = true
    · rw [List.filter_cons_of_pos c, List.idxOf_cons, List.idxOf_cons]
      by_cases xa : x = a
      · subst xa
        by_cases xb : x = b
        · subst xb; simp at hl
        · have e2 : (x == b) = false := by simpa using xb
          simp [e2]
      · by_cases xb : x = b
        · subst xb; simp at hl
        · have hm : a ∈ L := by
            rcases List.mem_cons.mp h with q | q
            · exact absurd q.symm xa
            · exact q
          have e1 : (x == a) = false := by simpa using xa
          have e2 : (x == b) = false := by simpa using xb
          rw [e1, e2] at hl ⊢
          simp only [cond_false] at hl ⊢
          have := idx_filter ha hb L hm (by omega)
          omega
    · rw [List.filter_cons_of_neg c]
      have xa : x ≠ a := fun q => c (q ▸ ha)
      have xb : x ≠ b := fun q => c (q ▸ hb)
      have hm : a ∈ L := by
        rcases List.mem_cons.mp h with q | q
        · exact absurd q.symm xa
        · exact q
      have e1 : (x == a) = false := by simpa using xa
      have e2 : (x == b) = false := by simpa using xb
      rw [e1, e2] at hl
      simp only [cond_false] at hl
      exact idx_filter ha hb L hm (by omega)
theorem idx_app {L : List Nat} {a d : Nat} (ha : a ∈ L) : (L ++ [d]).idxOf a = L.idxOf a := by
  rw [List.idxOf_append, if_pos ha]
theorem idx_app' {L : List Nat} {d : Nat} (hd : d ∉ L) : (L ++ [d]).idxOf d = L.length := by
  rw [List.idxOf_append, if_neg hd]; simp
/-! plugging -/
def nPlug (R f : Nat → Int32) (d : Nat) (z z2 : Int32) : Nat → Int32 := upd (upd (upd (nLow f d 1) (8 + d) (R 1)) (32 + d) z) (40 + d) z2
theorem cPlug {m : Nat} {fr fu fp : Nat → Int32} {d : Nat} {z z2 : Int32} (hd : d < 8) : ∃ f, F_X0_putIn fr (nI m) fu fp (nI d) z z2 = some f ∧ nz f = nPlug fu (nz fr) d z z2 ∧ nf f = upd (nf fr) (24 + d) 0 := by
  unfold F_X0_putIn
  simp (disch := omega) only [pIx, pCl, pLe, pLt, pEq, pNm, pS1, pA0, pA8, pA16, pA24, pA32, pA40, pA48, pA56, pA64, pA72, pA80, pA88, pBs, pE8, pb0, pb1, pbo, if_true, if_false, pIy, pbq, pNz, pIw, cLower]
  refine ⟨_, rfl, ?_, ?_⟩
  · rw [nzU (by omega), nzU (by omega), nzO (by omega), nzU (by omega), nLow_nz (by omega)]; rfl
  · rw [nfU (by omega), nfU (by omega), nfO (by omega), nfU (by omega), nLow_nf (by omega)]
theorem nPlug_same {R N : Nat → Int32} {d k : Nat} {z z2 : Int32} (hd : d < 8) (hk : ∀ j, j < 12 → k ≠ 8 * j + d) : nPlug R N d z z2 k = N k := by
  have h0 := hk 0 (by decide); have h1 := hk 1 (by decide); have h2 := hk 2 (by decide); have h4 := hk 4 (by decide); have h5 := hk 5 (by decide); have h6 := hk 6 (by decide); have h7 := hk 7 (by decide); have h8 := hk 8 (by decide); have h11 := hk 11 (by decide)
  simp only [Nat.mul_zero, Nat.zero_add, Nat.reduceMul] at h0 h1 h2 h4 h5 h6 h7 h8 h11
  unfold nPlug nLow
  rw [pUn h5, pUn h4, pUn h1, pUn h11, pUn h8, pUn h7, pUn h6, pUn h2, pUn h1, pUn h0]
theorem nPlug_iU {m t : Nat} {R : Nat → Int32} {T : Nat → Nat → Int32} {N : Nat → Int32} {d c p : Nat} (hm : m ≤ 8) (hR : wRu R t) (h : iU m R T N) (hd : d < m) (h0 : N d = 0) (hc : c = 8 ∨ (c < m ∧ N c ≠ 0)) (hp : p < 4) (hpp : (c = 8 ∧ nI p < R 0) ∨ (c < m ∧ nI p < T c 0)) : iU m R T (nPlug R N d (nI c) (nI p)) := by
  obtain ⟨⟨⟨⟨L, hL⟩, hO, hC⟩, hS, hz⟩, hP, hA⟩ := h
  have hdL : d ∉ L := fun q => ((hL.2.1 d).mp q).2 h0
  have cd : c ≠ d := by
    rcases hc with q | ⟨_, q⟩
    · omega
    · exact fun e => q (e ▸ h0)
  have e0 : nPlug R N d (nI c) (nI p) d = 1 := by simp only [nPlug, nLow, upd]; grind
  have e1 : nPlug R N d (nI c) (nI p) (8 + d) = R 1 := by simp only [nPlug, nLow, upd]; grind
  have e2 : nPlug R N d (nI c) (nI p) (16 + d) = 0 := by simp only [nPlug, nLow, upd]; grind
  have e4 : nPlug R N d (nI c) (nI p) (32 + d) = nI c := by simp only [nPlug, nLow, upd]; grind
  have e5 : nPlug R N d (nI c) (nI p) (40 + d) = nI p := by simp only [nPlug, nLow, upd]; grind
  have e6 : nPlug R N d (nI c) (nI p) (48 + d) = -1 := by simp only [nPlug, nLow, upd]; grind
  have e7 : nPlug R N d (nI c) (nI p) (56 + d) = 0 := by simp only [nPlug, nLow, upd]; grind
  have e8 : nPlug R N d (nI c) (nI p) (64 + d) = 0 := by simp only [nPlug, nLow, upd]; grind
  have e9 : nPlug R N d (nI c) (nI p) (72 + d) = N (72 + d) := by simp only [nPlug, nLow, upd]; grind
  have e11 : nPlug R N d (nI c) (nI p) (88 + d) = 0 := by simp only [nPlug, nLow, upd]; grind
  have same : ∀ e j, e < m → e ≠ d → j < 12 → nPlug R N d (nI c) (nI p) (8 * j + e) = N (8 * j + e) := fun e j he hn hj => nPlug_same (by omega) (fun q hq => by omega)
  have s0 : ∀ e, e < m → e ≠ d → nPlug R N d (nI c) (nI p) e = N e := fun e he hn => by have := same e 0 he hn (by decide); simpa using this
  have s4 : ∀ e, e < m → e ≠ d → nPlug R N d (nI c) (nI p) (32 + e) = N (32 + e) := fun e he hn => same e 4 he hn (by decide)
  have s5 : ∀ e, e < m → e ≠ d → nPlug R N d (nI c) (nI p) (40 + e) = N (40 + e) := fun e he hn => same e 5 he hn (by decide)
  have hC' : wC m (nPlug R N d (nI c) (nI p)) := fun e he hs => by
    by_cases ce : e = d
    · subst ce; rw [e0] at hs; rcases hs with q | q | q | q <;> exact absurd q (by decide)
    · rw [s0 e he ce] at hs; rw [s4 e he ce]
      rcases hC e he hs with q | ⟨b, hb, q1, q2⟩
      · exact Or.inl q
      · exact Or.inr ⟨b, hb, q1, by rw [s0 b hb (fun q => by subst q; rw [h0] at q2; exact absurd q2 (by decide))]; exact q2⟩
  refine ⟨⟨⟨⟨L ++ [d], ?_, fun e => ?_, fun e he => ?_⟩, fun e he => ?_, hC'⟩, hS.keep' hm hC' (fun e he h6 => ?_) (fun e he h6 => ?_), ?_⟩, fun e he hn => ?_, hA.keep (k7_one (d := d) (by rw [e0]; decide) (fun e he hn => ⟨s0 e he hn, same e 7 he hn (by decide)⟩))⟩
  · rw [List.nodup_append]
    refine ⟨hL.1, by simp, fun a ha b hb => ?_⟩
    rw [List.mem_singleton] at hb
    subst hb
    exact fun q => hdL (q ▸ ha)
  · rw [List.mem_append, List.mem_singleton]
    by_cases ce : e = d
    · subst ce; exact ⟨fun _ => ⟨hd, by rw [e0]; decide⟩, fun _ => Or.inr rfl⟩
    · rw [hL.2.1 e]
      refine ⟨fun q => ?_, fun q => Or.inl ⟨q.1, ?_⟩⟩
      · rcases q with q | q
        · exact ⟨q.1, by rw [s0 e q.1 ce]; exact q.2⟩
        · exact absurd q ce
      · rw [← s0 e q.1 ce]; exact q.2
  · rw [List.mem_append, List.mem_singleton] at he
    by_cases ce : e = d
    · subst ce
      refine ⟨c, e4, ?_⟩
      rcases hc with q | q
      · exact Or.inl q
      · have hcL := (hL.2.1 c).mpr q
        refine Or.inr ⟨List.mem_append_left _ hcL, ?_⟩
        rw [idx_app hcL, idx_app' hdL]
        exact List.idxOf_lt_length_iff.mpr hcL
    · have heL : e ∈ L := he.resolve_right ce
      obtain ⟨b, q1, q2⟩ := hL.2.2 e heL
      refine ⟨b, by rw [s4 e ((hL.2.1 e).mp heL).1 ce]; exact q1, ?_⟩
      rcases q2 with q2 | ⟨q2, q3⟩
      · exact Or.inl q2
      · exact Or.inr ⟨List.mem_append_left _ q2, by rw [idx_app q2, idx_app heL]; exact q3⟩
  · by_cases ce : e = d
    · subst ce
      unfold dOK
      rw [e0, e1, e2, e4, e5, e6, e7, e8, e9, e11]
      exact ⟨⟨1, by decide, rfl⟩, fun q => absurd q (by decide), fun _ => hR.2.2.1, fun q => absurd (Or.inl rfl) q, fun _ => rfl, fun _ => ⟨rfl, rfl, rfl⟩, fun q => absurd q (by decide), fun _ => rfl, (hO e hd).2.2.2.2.2.2.2.2⟩
    · exact dOK_congr (fun j hj => same e j he ce hj) (hO e he)
  · by_cases ce : e = d
    · subst ce; rw [e0] at h6; exact absurd h6 (by decide)
    · rw [s0 e he ce] at h6; exact ⟨h6, same e 6 he ce (by decide)⟩
  · by_cases ce : e = d
    · subst ce; rw [e0] at h6; exact absurd h6 (by decide)
    · exact s4 e he ce
  · have : nz (nPlug R N d (nI c) (nI p)) = nPlug R (nz N) d (nI c) (nI p) := by
      unfold nPlug; rw [nzU (by omega), nzU (by omega), nzU (by omega), nLow_nz (by omega)]
    rw [this, hz]
  · by_cases ce : e = d
    · subst ce; exact ⟨c, p, e4, e5, hp, hpp⟩
    · rw [s4 e he ce] at hn ⊢; rw [s5 e he ce]; exact hP e he hn
theorem rPlug {m t : Nat} {ru td nw : Nat → Int32} {d c p : Nat} (hm : m ≤ 8) (hR : wRu ru t) (h : iU m ru (tT m td) (nz nw)) (hd : d < m) (h0 : nz nw d = 0) (hc : c = 8 ∨ (c < m ∧ nz nw c ≠ 0)) (hp : p < 4) (hpp : (c = 8 ∧ nI p < ru 0) ∨ (c < m ∧ nI p < tT m td c 0)) : ∃ f, F_X10_plugs ru nw (nI d) (nI c) (nI p) = some (zDepth (nPlug ru (nz nw) d (nI c) (nI p)) d, f) ∧ nz f = nPlug ru (nz nw) d (nI c) (nI p) ∧ nf f = upd (nf nw) (24 + d) 0 := by
  have hi' := nPlug_iU hm hR h hd h0 hc hp hpp
  obtain ⟨o1, o2, o3, o4, o5, o6, o7, o8, o9⟩ := h.1.1.2.1 d hd
  have t1 := o4 (by rw [h0]; decide)
  have t2 := o5 (by rw [h0]; decide)
  have t6 := o6 (by rw [h0]; decide)
  have t8 := o8 (by rw [h0]; decide)
  unfold F_X10_plugs
  simp (disch := omega) only [pIx, pCl, pLe, pLt, pEq, pNm, pS1, pA0, pA8, pA16, pA24, pA32, pA40, pA48, pA56, pA64, pA72, pA80, pA88, pBs, pE8, pb0, pb1, pbo, if_true, if_false, pIy, pbq, pNz, pIw]
  have ez : nz (upd (upd (upd (upd (upd nw d 1) (8 + d) (ru 1)) (24 + d) 0) (32 + d) (nI c)) (40 + d) (nI p)) = nPlug ru (nz nw) d (nI c) (nI p) := by
    rw [nzU (by omega), nzU (by omega), nzO (by omega), nzU (by omega), nzU (by omega)]
    funext k; simp only [nPlug, nLow, upd]; grind
  obtain ⟨r, hr⟩ := hi'.1.1.r hm
  rw [rDepth (r := r) hm (by rw [ez]; exact hr) (by rw [ez]; exact hi'.1.1.f) hd, pBs, ez]
  exact ⟨_, rfl, ez, by rw [nfU (by omega), nfU (by omega), nfO (by omega), nfU (by omega), nfU (by omega)]⟩
