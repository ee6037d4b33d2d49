/-! going on, and a tick -/
def zOk8 (T : Nat → Nat → Int32) (N : Nat → Int32) (d : Nat) : Bool := !decide (zBy T N d 0 < 8) && !decide (12 < zBy T N d 0)
def nGo (m t : Nat) (R : Nat → Int32) (T : Nat → Nat → Int32) (N : Nat → Int32) (d : Nat) (v : Int32) : Nat → Int32 :=
  if N d = 3 then upd (upd N (8 + d) (N (8 + d) - 1)) d (if N (8 + d) - 1 ≤ 0 then 4 else 3) else if N d = 4 then (if zOk8 T N d = true then upd N d 5 else nFail m R N d v) else (if zRight T N d = true then nJudge m t R T N d (N (32 + d)).toNatClampNeg else nFail m R N d v)
def zFlG (T : Nat → Nat → Int32) (N : Nat → Int32) (d : Nat) : Bool := if N d = 3 then false else if N d = 4 then !zOk8 T N d else !zRight T N d
theorem bsy_c {N : Nat → Int32} {d : Nat} (h : ∃ k, k ≤ 7 ∧ N d = nI k) : zBsy N d = true ↔ (N d = 3 ∨ N d = 4 ∨ N d = 5) := by
  obtain ⟨k, hk, e⟩ := h
  unfold zBsy
  rw [e]
  have : ∀ k : Fin 8, ((!decide (nI k.1 < 3) && !decide (5 < nI k.1)) = true) ↔ (nI k.1 = 3 ∨ nI k.1 = 4 ∨ nI k.1 = 5) := by decide
  exact this ⟨k, by omega⟩
theorem pos_dec2 {t : Int32} (h : 0 < t) : (t - 1 = 0) ↔ t - 1 ≤ 0 := by
  rw [q_lt] at h
  have h0 : (0 : Int32).toInt = 0 := by decide
  have h1 : (1 : Int32).toInt = 1 := by decide
  have hr := Int32.toInt_lt t
  have e : (t - 1).toInt = t.toInt - 1 := by
    rw [Int32.toInt_sub, h1, Int.bmod_eq_of_le (by omega) (by omega)]
  rw [q_le, q_eq, e, h0]
  omega
theorem nGo_iT {m t : Nat} {R : Nat → Int32} {T : Nat → Nat → Int32} {N : Nat → Int32} {d : Nat} {v : Int32} (hm : m ≤ 8) (hT : wT m T) (h : iT m T N) (hd : d < m) (hb : zBsy N d = true) : iT m T (nGo m t R T N d v) := by
  have hO := h.1.2.1 d hd
  have hs := (bsy_c hO.1).mp hb
  have h0 : N d ≠ 0 := by rcases hs with q | q | q <;> rw [q] <;> decide
  have h6 : N d ≠ 6 := by rcases hs with q | q | q <;> rw [q] <;> decide
  have hub := h.1.2.2 d hd (by rcases hs with q | q | q; exact Or.inl q; exact Or.inr (Or.inl q); exact Or.inr (Or.inr (Or.inl q)))
  obtain ⟨o1, o2, o3, o4, o5, o6, o7, o8, o9⟩ := hO
  unfold nGo
  by_cases c3 : N d = 3
  · rw [if_pos c3]
    have ht := o3 (Or.inr c3)
    have hp := pos_dec2 ht
    have hp' := pos_dec ht
    have e0 : upd (upd N (8 + d) (N (8 + d) - 1)) d (if N (8 + d) - 1 ≤ 0 then 4 else 3) d = (if N (8 + d) - 1 ≤ 0 then 4 else 3) := pUs
    have e1 : upd (upd N (8 + d) (N (8 + d) - 1)) d (if N (8 + d) - 1 ≤ 0 then 4 else 3) (8 + d) = N (8 + d) - 1 := by rw [pUn (by omega), pUs]
    have ek : ∀ k, k ≠ d → k ≠ 8 + d → upd (upd N (8 + d) (N (8 + d) - 1)) d (if N (8 + d) - 1 ≤ 0 then 4 else 3) k = N k := fun k h1 h2 => by rw [pUn h1, pUn h2]
    have hi : iN m (upd (upd N (8 + d) (N (8 + d) - 1)) d (if N (8 + d) - 1 ≤ 0 then 4 else 3)) := by
      refine iN.one hm h.1 hd (fun e j he hn hj => ek _ (by omega) (by omega)) h0 (by rw [e0]; split <;> decide) (ek _ (by omega) (by omega)) ?_ (fun _ => hub) (fun q => absurd q h6)
      unfold dOK
      rw [e0, e1, ek _ (by omega) (by omega), ek _ (by omega) (by omega), ek _ (by omega) (by omega), ek _ (by omega) (by omega), ek _ (by omega) (by omega), ek _ (by omega) (by omega), ek _ (by omega) (by omega), ek _ (by omega) (by omega)]
      have t2 := o5 (by rw [c3]; decide)
      have t6 := o6 h6
      have t8 := o8 (by rw [c3]; decide)
      by_cases c : N (8 + d) - 1 ≤ 0
      · rw [if_pos c]
        exact ⟨⟨4, by decide, rfl⟩, fun q => absurd q (by decide), fun q => absurd q (by decide), fun _ => hp.mpr c, fun _ => t2, fun _ => t6, fun q => absurd q (by decide), fun _ => t8, o9⟩
      · rw [if_neg c]
        exact ⟨⟨3, by decide, rfl⟩, fun q => absurd q (by decide), fun _ => Decidable.byContradiction (fun q => c (hp.mp (hp'.mpr q))), fun q => absurd (Or.inr rfl) q, fun _ => t2, fun _ => t6, fun q => absurd q (by decide), fun _ => t8, o9⟩
    refine ⟨hi, h.2.1.keep hm hi.2.2 (fun e he h6e => ?_) (fun e he => ek _ (by omega) (by omega)), ?_⟩
    · by_cases ce : e = d
      · subst ce; rw [e0] at h6e; exact absurd h6e (by split <;> decide)
      · rw [ek _ ce (by omega)] at h6e
        exact ⟨h6e, ek _ (by omega) (by omega)⟩
    · rw [nzU (by omega), nzU (by omega), h.2.2]
  · rw [if_neg c3]
    by_cases c4 : N d = 4
    · rw [if_pos c4]
      by_cases c : zOk8 T N d = true
      · rw [if_pos c]
        have ek : ∀ k, k ≠ d → upd N d 5 k = N k := fun k h1 => pUn h1
        have hi : iN m (upd N d 5) := by
          refine iN.one hm h.1 hd (fun e j he hn hj => ek _ (by omega)) h0 (by rw [pUs]; decide) (ek _ (by omega)) ?_ (fun _ => hub) (fun q => absurd q h6)
          unfold dOK
          rw [pUs, ek _ (by omega), ek _ (by omega), ek _ (by omega), ek _ (by omega), ek _ (by omega), ek _ (by omega), ek _ (by omega), ek _ (by omega), ek _ (by omega)]
          exact ⟨⟨5, by decide, rfl⟩, fun q => absurd q (by decide), fun q => absurd q (by decide), fun _ => o4 (by rw [c4]; decide), fun _ => o5 (by rw [c4]; decide), fun _ => o6 h6, fun q => absurd q (by decide), fun _ => o8 (by rw [c4]; decide), o9⟩
        refine ⟨hi, h.2.1.keep hm hi.2.2 (fun e he h6e => ?_) (fun e he => ek _ (by omega)), by rw [nzU (by omega), h.2.2]⟩
        by_cases ce : e = d
        · subst ce; rw [pUs] at h6e; exact absurd h6e (by decide)
        · rw [ek _ ce] at h6e
          exact ⟨h6e, ek _ (by omega)⟩
      · rw [if_neg c]; exact nFail_iT hm h hd h0 h6
    · rw [if_neg c4]
      have h5 : N d = 5 := by rcases hs with q | q | q; exact absurd q c3; exact absurd q c4; exact q
      by_cases c : zRight T N d = true
      · rw [if_pos c]
        obtain ⟨b, hb, hh, hc6⟩ := hub36 hm h.1.2.2 hd (by rw [h5]; exact Or.inr (Or.inr (Or.inl rfl)))
        rw [hh, pCl (by omega)]
        exact nJudge_iT hm hT h hd h5 hb hh hc6
      · rw [if_neg c]; exact nFail_iT hm h hd h0 h6
theorem rGoesOn {m t : Nat} {ru td nw : Nat → Int32} {d : Nat} (hm : m ≤ 8) (hR : wRu ru t) (hT : wT m (tT m td)) (hi : iN m (nz nw)) (hd : d < m) (hb : zBsy (nz nw) d = true) : ∃ f, F_X10_goesOn (nI m) ru td nw (nI d) = some f ∧ nz f = nGo m t ru (tT m td) (nz nw) d (nw (24 + d)) ∧ nf f = if zFlG (tT m td) (nz nw) d = true then upd (nf nw) (24 + d) (nw (24 + d) + 1) else nf nw := by
  have hO := hi.2.1 d hd
  have hs := (bsy_c hO.1).mp hb
  have h0 : nz nw d ≠ 0 := by rcases hs with q | q | q <;> rw [q] <;> decide
  have h6 : nz nw d ≠ 6 := by rcases hs with q | q | q <;> rw [q] <;> decide
  have h7 : nz nw d ≠ 7 := by rcases hs with q | q | q <;> rw [q] <;> decide
  have ez : nz nw d = nw d := pNz (by omega)
  have ez8 : nz nw (8 + d) = nw (8 + d) := pNz (by omega)
  obtain ⟨ff, f1, f2, f3⟩ := rFails (ru := ru) hm hi hd h0 h6 h7
  unfold F_X10_goesOn nGo zFlG
  rw [ez, ez8]
  simp (disch := omega) only [pIx, pCl, pLe, pLt, pEq, pNm, pS1, pA0, pA8, pA16, pA24, pA32, pA40, pA48, pA56, pA64, pA72, pA80, pA88, pBs, pE8, pb0, pb1, pbo, if_true, if_false, pIy, pbq, pNz, pIw, rState, pUs, rRight1 hm hT hd]
  by_cases c3 : nw d = 3
  · rw [if_pos c3, if_pos c3, if_pos c3]
    have ht := hO.2.2.1 (Or.inr (ez.trans c3))
    rw [ez8] at ht
    have hp := pos_dec2 ht
    by_cases c : nw (8 + d) - 1 = 0
    · rw [if_pos c, if_pos (hp.mp c)]
      exact ⟨_, rfl, by rw [nzU (by omega), nzU (by omega)], by rw [nfU (by omega), nfU (by omega)]; simp⟩
    · rw [if_neg c, if_neg (fun q => c (hp.mpr q))]
      exact ⟨_, rfl, by rw [nzU (by omega), nzU (by omega)], by rw [nfU (by omega), nfU (by omega)]; simp⟩
  · rw [if_neg c3, if_neg c3, if_neg c3]
    by_cases c4 : nw d = 4
    · rw [if_pos c4, if_pos c4, if_pos c4]
      rw [show F_X10_byteAt td nw (nI d) 0 = _ from rByte (i := 0) hm hT hd (by omega)]
      simp only [pBs, rIn, pb0]
      show ∃ f, (if zOk8 (tT m td) (nz nw) d = false then _ else _) = some f ∧ _
      by_cases c : zOk8 (tT m td) (nz nw) d = true
      · rw [if_neg (by simp [c]), if_pos c]
        exact ⟨_, rfl, by rw [nzU (by omega)], by rw [nfU (by omega)]; simp [c]⟩
      · have c' : zOk8 (tT m td) (nz nw) d = false := by simpa using c
        rw [if_pos c', if_neg c]
        exact ⟨ff, by rw [f1, pBs], f2, by rw [f3]; simp [c']⟩
    · rw [if_neg c4, if_neg c4, if_neg c4]
      have h5 : nz nw d = 5 := by rw [ez] at hs ⊢; rcases hs with q | q | q; exact absurd q c3; exact absurd q c4; exact q
      by_cases c : zRight (tT m td) (nz nw) d = true
      · rw [if_neg (by simp [c]), if_pos c]
        obtain ⟨b, hb', hh, hc6⟩ := hub36 hm hi.2.2 hd (by rw [h5]; exact Or.inr (Or.inr (Or.inl rfl)))
        obtain ⟨f, g1, g2, g3⟩ := rJudges hm hR hT hi hd h5 hb' hh hc6
        have hh' : nw (32 + d) = nI b := by rw [← hh, pNz (by omega)]
        exact ⟨f, by rw [g1, pBs], by rw [g2, hh', pCl (by omega)], by rw [g3]; simp [c]⟩
      · have c' : zRight (tT m td) (nz nw) d = false := by simpa using c
        rw [if_pos c', if_neg c]
        exact ⟨ff, by rw [f1, pBs], f2, by rw [f3]; simp [c']⟩
theorem next_q {m : Nat} {N : Nat → Int32} : zNext m N = -1 ∨ ∃ q, q < m ∧ zNext m N = nI q ∧ N q = 2 ∧ (N (32 + q) = 8 ∨ N (N (32 + q)).toNatClampNeg = 6 ∧ ¬ N (88 + (N (32 + q)).toNatClampNeg) = 1) := by
  refine pF_inv (g := zNf N) (fun _ b => b = -1 ∨ ∃ q, q < m ∧ b = nI q ∧ N q = 2 ∧ (N (32 + q) = 8 ∨ N (N (32 + q)).toNatClampNeg = 6 ∧ ¬ N (88 + (N (32 + q)).toNatClampNeg) = 1)) m 0 (-1) (fun i a _ hi hI => ?_) (Or.inl rfl)
  show zNf N i a = -1 ∨ _
  unfold zNf
  by_cases c : N i = 2 ∧ (N (32 + i) = 8 ∨ N (N (32 + i)).toNatClampNeg = 6 ∧ ¬ N (88 + (N (32 + i)).toNatClampNeg) = 1)
  · rw [if_pos c]
    split
    · exact Or.inr ⟨i, by omega, rfl, c⟩
    · split
      · exact hI
      · exact Or.inr ⟨i, by omega, rfl, c⟩
  · rw [if_neg c]; exact hI
def nTail (m : Nat) (R f : Nat → Int32) : Nat → Int32 := if pFd (zBsy (nz f)) m 0 = -1 then (if zNext m (nz f) = -1 then f else upd (nLow f (zNext m (nz f)).toNatClampNeg 3) (8 + (zNext m (nz f)).toNatClampNeg) (R 2)) else f
theorem nTail_nz {m : Nat} {R f : Nat → Int32} (hm : m ≤ 8) : nz (nTail m R f) = nTail m R (nz f) := by
  unfold nTail
  rw [nz_nz]
  split
  · split
    · rfl
    · rename_i h
      rcases next_q (m := m) (N := nz f) with q | ⟨q, hq, e, -⟩
      · exact absurd q h
      · rw [e, pCl (by omega), nzU (by omega), nLow_nz (by omega)]
  · rfl
theorem nTail_nf {m : Nat} {R f : Nat → Int32} (hm : m ≤ 8) : nf (nTail m R f) = nf f := by
  unfold nTail
  split
  · split
    · rfl
    · rename_i h
      rcases next_q (m := m) (N := nz f) with q | ⟨q, hq, e, -⟩
      · exact absurd q h
      · rw [e, pCl (by omega), nfU (by omega), nLow_nf (by omega)]
  · rfl
theorem nTail_iT {m : Nat} {R : Nat → Int32} {T : Nat → Nat → Int32} {N : Nat → Int32} (hm : m ≤ 8) (h2 : 0 < R 2) (h : iT m T N) : iT m T (nTail m R N) := by
  unfold nTail
  rw [h.2.2]
  split
  · split
    · exact h
    · rename_i hx
      rcases next_q (m := m) (N := N) with q | ⟨q, hq, e, q2, q3⟩
      · exact absurd q hx
      · rw [e, pCl (by omega)]
        obtain ⟨o1, o2, o3, o4, o5, o6, o7, o8, o9⟩ := h.1.2.1 q hq
        have e0 : upd (nLow N q 3) (8 + q) (R 2) q = 3 := by simp only [nLow, upd]; grind
        have e1 : upd (nLow N q 3) (8 + q) (R 2) (8 + q) = R 2 := pUs
        have e2 : upd (nLow N q 3) (8 + q) (R 2) (16 + q) = 0 := by simp only [nLow, upd]; grind
        have e4 : ∀ c, c < 8 → upd (nLow N q 3) (8 + q) (R 2) (32 + c) = N (32 + c) := fun c hc => by simp (disch := omega) only [nLow, pUn]
        have e6 : upd (nLow N q 3) (8 + q) (R 2) (48 + q) = -1 := by simp only [nLow, upd]; grind
        have e7 : upd (nLow N q 3) (8 + q) (R 2) (56 + q) = 0 := by simp only [nLow, upd]; grind
        have e8 : upd (nLow N q 3) (8 + q) (R 2) (64 + q) = 0 := by simp only [nLow, upd]; grind
        have e9 : upd (nLow N q 3) (8 + q) (R 2) (72 + q) = N (72 + q) := by simp (disch := omega) only [nLow, pUn]
        have e11 : upd (nLow N q 3) (8 + q) (R 2) (88 + q) = 0 := by simp only [nLow, upd]; grind
        have same : ∀ e j, e < m → e ≠ q → j < 12 → upd (nLow N q 3) (8 + q) (R 2) (8 * j + e) = N (8 * j + e) := fun e j he hn hj => by simp (disch := omega) only [nLow, pUn]
        have h0 : N q ≠ 0 := by rw [q2]; decide
        have hi : iN m (upd (nLow N q 3) (8 + q) (R 2)) := by
          refine iN.one hm h.1 hq same h0 (by rw [e0]; decide) (e4 q (by omega)) ?_ (fun _ => ?_) (fun c => by rw [q2] at c; exact absurd c (by decide))
          · unfold dOK
            rw [e0, e1, e2, e6, e7, e8, e9, e11]
            exact ⟨⟨3, by decide, rfl⟩, fun c => absurd c (by decide), fun _ => h2, fun c => absurd (Or.inr rfl) c, fun _ => rfl, fun _ => ⟨rfl, rfl, rfl⟩, fun c => absurd c (by decide), fun _ => rfl, o9⟩
          · rcases q3 with q3 | ⟨q3, -⟩
            · exact Or.inl q3
            · obtain ⟨r, hr⟩ := h.1.r hm
              obtain ⟨-, b, hb1, hb2⟩ := hr q hq h0
              rcases hb2 with hb2 | ⟨hb2, -, -⟩
              · exact Or.inl (by rw [hb1, hb2]; rfl)
              · refine Or.inr ⟨b, hb2, hb1, ?_⟩
                rw [hb1, pCl (by omega)] at q3; exact q3
        refine ⟨hi, h.2.1.keep hm hi.2.2 (fun e he h6e => ?_) (fun e he => e4 e (by omega)), by rw [nzU (by omega), nLow_nz (by omega), h.2.2]⟩
        by_cases ce : e = q
        · subst ce; rw [e0] at h6e; exact absurd h6e (by decide)
        · have s0 := same e 0 he ce (by decide)
          have s6 := same e 6 he ce (by decide)
          simp only [Nat.mul_zero, Nat.zero_add, Nat.reduceMul] at s0 s6
          rw [s0] at h6e
          exact ⟨h6e, s6⟩
  · exact h
