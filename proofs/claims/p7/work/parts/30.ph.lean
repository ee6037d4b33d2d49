/-! what writes: the small ones -/
def nf (f : Nat → Int32) : Nat → Int32 := fun k => if k < 24 ∨ (32 ≤ k ∧ k < 96) ∨ k = 97 then 0 else f k
theorem nzU {f : Nat → Int32} {k : Nat} {v : Int32} (h : k < 24 ∨ (32 ≤ k ∧ k < 96) ∨ k = 97) : nz (upd f k v) = upd (nz f) k v := by
  funext j; simp only [nz, upd]; grind
theorem nzO {f : Nat → Int32} {k : Nat} {v : Int32} (h : ¬ (k < 24 ∨ (32 ≤ k ∧ k < 96) ∨ k = 97)) : nz (upd f k v) = nz f := by
  funext j; simp only [nz, upd]; grind
theorem nfU {f : Nat → Int32} {k : Nat} {v : Int32} (h : k < 24 ∨ (32 ≤ k ∧ k < 96) ∨ k = 97) : nf (upd f k v) = nf f := by
  funext j; simp only [nf, upd]; grind
theorem nfO {f : Nat → Int32} {k : Nat} {v : Int32} (h : ¬ (k < 24 ∨ (32 ≤ k ∧ k < 96) ∨ k = 97)) : nf (upd f k v) = upd (nf f) k v := by
  funext j; simp only [nf, upd]; grind
theorem nfE {f : Nat → Int32} {k : Nat} (h : ¬ (k < 24 ∨ (32 ≤ k ∧ k < 96) ∨ k = 97)) : nf f k = f k := if_neg h
def nLow (f : Nat → Int32) (d : Nat) (s : Int32) : Nat → Int32 := upd (upd (upd (upd (upd (upd (upd f d s) (8 + d) 0) (16 + d) 0) (48 + d) (-1)) (56 + d) 0) (64 + d) 0) (88 + d) 0
def nLeave (f : Nat → Int32) (d : Nat) : Nat → Int32 := upd (upd (nLow f d 0) (32 + d) (-1)) (40 + d) (-1)
def nQ (f : Nat → Int32) (d : Nat) : Nat → Int32 := upd (upd (nLow f d 2) 97 (f 97 + 1)) (16 + d) (f 97 + 1)
theorem nLow_97 {f : Nat → Int32} {d : Nat} {s : Int32} (hd : d < 8) : nLow f d s 97 = f 97 := by simp only [nLow, upd]; grind
theorem nLow_nz {f : Nat → Int32} {d : Nat} {s : Int32} (hd : d < 8) : nz (nLow f d s) = nLow (nz f) d s := by
  unfold nLow; simp (disch := omega) only [nzU]
theorem nLow_nf {f : Nat → Int32} {d : Nat} {s : Int32} (hd : d < 8) : nf (nLow f d s) = nf f := by
  unfold nLow; simp (disch := omega) only [nfU]
theorem nQ_nz {f : Nat → Int32} {d : Nat} (hd : d < 8) : nz (nQ f d) = nQ (nz f) d := by
  unfold nQ; simp (disch := omega) only [nzU, nLow_nz, pNz]
theorem nQ_nf {f : Nat → Int32} {d : Nat} (hd : d < 8) : nf (nQ f d) = nf f := by
  unfold nQ; simp (disch := omega) only [nfU, nLow_nf]
theorem nLeave_nz {f : Nat → Int32} {d : Nat} (hd : d < 8) : nz (nLeave f d) = nLeave (nz f) d := by
  unfold nLeave; simp (disch := omega) only [nzU, nLow_nz]
theorem nLeave_nf {f : Nat → Int32} {d : Nat} (hd : d < 8) : nf (nLeave f d) = nf f := by
  unfold nLeave; simp (disch := omega) only [nfU, nLow_nf]
section
variable {m : Nat} {fr fu fp : Nat → Int32} {d : Nat}
theorem cLower {s : Int32} (hd : d < 8) : F_X0_lower fr (nI m) fu fp (nI d) s = some (nLow fr d s) := by
  unfold F_X0_lower nLow; simp (disch := omega) only [pIx, pCl, pLe, pLt, pEq, pNm, pS1, pA0, pA8, pA16, pA24, pA32, pA40, pA48, pA56, pA64, pA72, pA80, pA88, pBs, pE8, pb0, pb1, pbo, if_true, if_false, pIy, pbq, pNz, pIw]
theorem cLeave (hd : d < 8) : F_X0_leave fr (nI m) fu fp (nI d) = some (nLeave fr d) := by
  unfold F_X0_leave nLeave; simp (disch := omega) only [pIx, pCl, pLe, pLt, pEq, pNm, pS1, pA0, pA8, pA16, pA24, pA32, pA40, pA48, pA56, pA64, pA72, pA80, pA88, pBs, pE8, pb0, pb1, pbo, if_true, if_false, pIy, pbq, pNz, pIw, cLower]
theorem cQueue (hd : d < 8) : F_X0_queue fr (nI m) fu fp (nI d) = some (nQ fr d) := by
  unfold F_X0_queue nQ; simp (disch := omega) only [pIx, pCl, pLe, pLt, pEq, pNm, pS1, pA0, pA8, pA16, pA24, pA32, pA40, pA48, pA56, pA64, pA72, pA80, pA88, pBs, pE8, pb0, pb1, pbo, if_true, if_false, pIy, pbq, pNz, pIw, cLower, nLow_97, pUs]
end
section
variable {nw : Nat → Int32} {d : Nat}
def rW (f : Nat → Int32) (d : Nat) : Nat → Int32 := upd (upd (upd (upd f d 2) (8 + d) 0) 97 (f 97 + 1)) (16 + d) (f 97 + 1)
def rU (f : Nat → Int32) (d : Nat) : Nat → Int32 := upd (upd (upd f (48 + d) (-1)) (56 + d) 0) (88 + d) 0
def rC (f : Nat → Int32) (d : Nat) : Nat → Int32 := upd (upd (upd (upd (upd (upd (upd (upd (upd (upd f d 0) (8 + d) 0) (16 + d) 0) (24 + d) 0) (32 + d) (-1)) (40 + d) (-1)) (48 + d) (-1)) (56 + d) 0) (64 + d) 0) (88 + d) 0
theorem rWaits (hd : d < 8) : F_X10_waits nw (nI d) = some (rW nw d) := by
  unfold F_X10_waits rW; simp (disch := omega) only [pIx, pCl, pLe, pLt, pEq, pNm, pS1, pA0, pA8, pA16, pA24, pA32, pA40, pA48, pA56, pA64, pA72, pA80, pA88, pBs, pE8, pb0, pb1, pbo, if_true, if_false, pIy, pbq, pNz, pIw, pUs, pUn]
theorem rUnset (hd : d < 8) : F_X10_unset nw (nI d) = some (rU nw d) := by
  unfold F_X10_unset rU; simp (disch := omega) only [pIx, pCl, pLe, pLt, pEq, pNm, pS1, pA0, pA8, pA16, pA24, pA32, pA40, pA48, pA56, pA64, pA72, pA80, pA88, pBs, pE8, pb0, pb1, pbo, if_true, if_false, pIy, pbq, pNz, pIw]
theorem rClear (hd : d < 8) : F_X10_clear nw (nI d) = some (rC nw d) := by
  unfold F_X10_clear rC; simp (disch := omega) only [pIx, pCl, pLe, pLt, pEq, pNm, pS1, pA0, pA8, pA16, pA24, pA32, pA40, pA48, pA56, pA64, pA72, pA80, pA88, pBs, pE8, pb0, pb1, pbo, if_true, if_false, pIy, pbq, pNz, pIw]
theorem rW_nz {f : Nat → Int32} (hd : d < 8) : nz (rW f d) = rW (nz f) d := by
  unfold rW; simp (disch := omega) only [nzU, pNz]
theorem rW_nf {f : Nat → Int32} (hd : d < 8) : nf (rW f d) = nf f := by
  unfold rW; simp (disch := omega) only [nfU]
theorem rU_nz {f : Nat → Int32} (hd : d < 8) : nz (rU f d) = rU (nz f) d := by
  unfold rU; simp (disch := omega) only [nzU]
theorem rU_nf {f : Nat → Int32} (hd : d < 8) : nf (rU f d) = nf f := by
  unfold rU; simp (disch := omega) only [nfU]
theorem rC_nz {f : Nat → Int32} (hd : d < 8) : nz (rC f d) = nLeave (nz f) d := by
  unfold rC nLeave nLow; simp (disch := omega) only [nzU, nzO]
  funext k; simp only [upd]; grind
theorem rC_nf {f : Nat → Int32} (hd : d < 8) : nf (rC f d) = upd (nf f) (24 + d) 0 := by
  unfold rC; simp (disch := omega) only [nfU, nfO]
end
/-- one device's row as it may be -/
def dOK (N : Nat → Int32) (d : Nat) : Prop :=
  (∃ k, k ≤ 7 ∧ N d = nI k) ∧ (N d = 0 → N (32 + d) = -1 ∧ N (40 + d) = -1) ∧ ((N d = 1 ∨ N d = 3) → 0 < N (8 + d)) ∧ (¬ (N d = 1 ∨ N d = 3) → N (8 + d) = 0) ∧ (N d ≠ 2 → N (16 + d) = 0) ∧ (N d ≠ 6 → N (48 + d) = -1 ∧ N (56 + d) = 0 ∧ N (88 + d) = 0) ∧ (N d = 6 → (N (48 + d) = 0 ∨ N (48 + d) = 1 ∨ N (48 + d) = 2) ∧ (N (88 + d) = 0 ∨ N (88 + d) = 1)) ∧ (N d ≠ 7 → N (64 + d) = 0) ∧ (N (72 + d) = 0 ∨ N (72 + d) = 1)
theorem dOK_congr {N N' : Nat → Int32} {d : Nat} (h : ∀ j, j < 12 → N' (8 * j + d) = N (8 * j + d)) (hd : dOK N d) : dOK N' d := by
  have h0 := h 0 (by decide); have h1 := h 1 (by decide); have h2 := h 2 (by decide); have h4 := h 4 (by decide); have h5 := h 5 (by decide); have h6 := h 6 (by decide); have h7 := h 7 (by decide); have h8 := h 8 (by decide); have h9 := h 9 (by decide); have h11 := h 11 (by decide)
  simp only [Nat.mul_zero, Nat.zero_add, Nat.reduceMul] at h0 h1 h2 h4 h5 h6 h7 h8 h9 h11
  unfold dOK at hd ⊢
  rw [h0, h1, h2, h4, h5, h6, h7, h8, h9, h11]
  exact hd
/-- who is in reset, at a bite or configured hangs at one that is configured -/
def wC (m : Nat) (N : Nat → Int32) : Prop := ∀ d, d < m → (N d = 3 ∨ N d = 4 ∨ N d = 5 ∨ N d = 6) → N (32 + d) = 8 ∨ ∃ h, h < m ∧ N (32 + d) = nI h ∧ N h = 6
/-- the order of plugging -/
def wL (m : Nat) (N : Nat → Int32) (L : List Nat) : Prop := L.Nodup ∧ (∀ d, d ∈ L ↔ d < m ∧ N d ≠ 0) ∧ ∀ d, d ∈ L → ∃ h, N (32 + d) = nI h ∧ (h = 8 ∨ (h ∈ L ∧ L.idxOf h < L.idxOf d))
def iN (m : Nat) (N : Nat → Int32) : Prop := (∃ L, wL m N L) ∧ (∀ d, d < m → dOK N d) ∧ wC m N
theorem nodup_len : ∀ (m : Nat) (L : List Nat), L.Nodup → (∀ d, d ∈ L → d < m) → L.length ≤ m
  | 0, [], _, _ => Nat.le_refl 0
  | 0, d :: L, _, h => absurd (h d List.mem_cons_self) (by omega)
  | m + 1, L, h1, h2 => by
    have ih := nodup_len m (L.erase m) (h1.erase m) (fun d hd => by
      have := (h1.mem_erase_iff).mp hd
      have := h2 d this.2
      omega)
    have := List.length_erase (a := m) (l := L)
    split at this <;> omega
theorem wL.r {m : Nat} {N : Nat → Int32} {L : List Nat} (hm : m ≤ 8) (h : wL m N L) : wR m N (fun d => L.idxOf d) := by
  intro d hd h0
  have hL := (h.2.1 d).mpr ⟨hd, h0⟩
  have hlen := nodup_len m L h.1 (fun e he => ((h.2.1 e).mp he).1)
  refine ⟨Nat.lt_of_lt_of_le (List.idxOf_lt_length_iff.mpr hL) (by omega), ?_⟩
  obtain ⟨c, h1, h2⟩ := h.2.2 d hL
  refine ⟨c, h1, ?_⟩
  rcases h2 with h2 | ⟨h2, h3⟩
  · exact Or.inl h2
  · have := (h.2.1 c).mp h2
    exact Or.inr ⟨this.1, this.2, h3⟩
theorem iN.f {m : Nat} {N : Nat → Int32} (h : iN m N) : wF m N := fun d hd h0 => ((h.2.1 d hd).2.1 h0).1
theorem iN.q {m : Nat} {N : Nat → Int32} (h : iN m N) : wQ m N := fun d hd h0 h1 => h0 ((h.2.1 d hd).2.2.2.2.2.1 (by rw [h1]; decide)).1
theorem iN.s {m : Nat} {N : Nat → Int32} (h : iN m N) : wS m N := fun d hd => by
  by_cases c : N d = 6
  · exact ((h.2.1 d hd).2.2.2.2.2.2.1 c).2
  · exact Or.inl ((h.2.1 d hd).2.2.2.2.2.1 c).2.2
theorem iN.rn {m : Nat} {N : Nat → Int32} (h : iN m N) : wRn m N := fun d hd c => ((h.2.1 d hd).2.2.2.2.2.2.1 c).1
theorem iN.ad {m : Nat} {N : Nat → Int32} (h : iN m N) : wAd m N := fun d hd c => ((h.2.1 d hd).2.2.2.2.2.1 c).2.1
theorem iN.r {m : Nat} {N : Nat → Int32} (hm : m ≤ 8) (h : iN m N) : ∃ r, wR m N r := by
  obtain ⟨⟨L, hL⟩, _⟩ := h
  exact ⟨_, hL.r hm⟩
theorem iN.hm {m : Nat} {N : Nat → Int32} {d c : Nat} (hm : m ≤ 8) (h : iN m N) (hd : d < m) (h0 : N d ≠ 0) (hc : c ≤ 8) (hh : N (32 + d) = nI c) : c = 8 ∨ c < m := by
  obtain ⟨r, hr⟩ := h.r hm
  obtain ⟨-, b, h1, h2⟩ := hr d hd h0
  rw [hh] at h1
  rcases h2 with h2 | ⟨h2, -⟩
  · left; exact ((nI_eq (a := c) (b := b) (by omega) (by omega)).mp h1).trans h2
  · right; rw [(nI_eq (a := c) (b := b) (by omega) (by omega)).mp h1]; exact h2
theorem iN.h {m : Nat} {N : Nat → Int32} (hm : m ≤ 8) (h : iN m N) : wH m N := by
  obtain ⟨r, hr⟩ := h.r hm
  exact hr.h hm
/-- the tree stays when nobody comes or goes -/
theorem wL.keep {m : Nat} {N N' : Nat → Int32} {L : List Nat} (h : wL m N L) (h1 : ∀ d, d < m → (N' d ≠ 0 ↔ N d ≠ 0)) (h2 : ∀ d, d < m → N' (32 + d) = N (32 + d)) : wL m N' L := by
  refine ⟨h.1, fun d => (h.2.1 d).trans ⟨fun c => ⟨c.1, (h1 d c.1).mpr c.2⟩, fun c => ⟨c.1, (h1 d c.1).mp c.2⟩⟩, fun d hd => ?_⟩
  rw [h2 d ((h.2.1 d).mp hd).1]
  exact h.2.2 d hd
/-- an act on one device that keeps it in its place -/
theorem iN.one {m : Nat} {N N' : Nat → Int32} {d : Nat} (hm : m ≤ 8) (h : iN m N) (hd : d < m) (hk : ∀ e j, e < m → e ≠ d → j < 12 → N' (8 * j + e) = N (8 * j + e)) (h0 : N d ≠ 0) (h0' : N' d ≠ 0) (hh : N' (32 + d) = N (32 + d)) (hok : dOK N' d)
    (hc : (N' d = 3 ∨ N' d = 4 ∨ N' d = 5 ∨ N' d = 6) → N (32 + d) = 8 ∨ ∃ h, h < m ∧ N (32 + d) = nI h ∧ N h = 6) (hc2 : N d = 6 → N' d = 6 ∨ ∀ e, e < m → N (32 + e) = nI d → ¬ (N e = 3 ∨ N e = 4 ∨ N e = 5 ∨ N e = 6)) : iN m N' := by
  obtain ⟨⟨L, hL⟩, hO, hC⟩ := h
  have k0 : ∀ e, e < m → e ≠ d → N' e = N e := fun e he hn => by have := hk e 0 he hn (by decide); simpa using this
  have k4 : ∀ e, e < m → e ≠ d → N' (32 + e) = N (32 + e) := fun e he hn => hk e 4 he hn (by decide)
  refine ⟨⟨L, hL.keep (fun e he => ?_) (fun e he => ?_)⟩, fun e he => ?_, fun e he hs => ?_⟩
  · by_cases c : e = d
    · subst c; exact ⟨fun _ => h0, fun _ => h0'⟩
    · rw [k0 e he c]
  · by_cases c : e = d
    · subst c; exact hh
    · exact k4 e he c
  · by_cases c : e = d
    · subst c; exact hok
    · exact dOK_congr (fun j hj => hk e j he c hj) (hO e he)
  · have key : N (32 + e) = 8 ∨ ∃ h, h < m ∧ N (32 + e) = nI h ∧ N h = 6 := by
      by_cases c : e = d
      · subst c; exact hc hs
      · rw [k0 e he c] at hs; exact hC e he hs
    have e4 : N' (32 + e) = N (32 + e) := by
      by_cases c : e = d
      · subst c; exact hh
      · exact k4 e he c
    rw [e4]
    rcases key with key | ⟨b, hb, h1, h2⟩
    · exact Or.inl key
    · refine Or.inr ⟨b, hb, h1, ?_⟩
      by_cases c : b = d
      · subst c
        rcases hc2 h2 with h3 | h3
        · exact h3
        · by_cases c2 : e = b
          · subst c2
            -- nobody hangs at itself
            exfalso
            have hr := hL.r hm
            obtain ⟨_, q, hq, hq2⟩ := hr e hd h0
            rw [h1] at hq
            have hq3 : e = q := by
              rcases hq2 with rfl | ⟨q1, _, _⟩
              · exact (nI_eq (by omega) (by decide)).mp hq
              · exact (nI_eq (by omega) (by omega)).mp hq
            subst hq3
            rcases hq2 with q1 | ⟨_, _, q1⟩
            · omega
            · omega
          · rw [k0 e he c2] at hs
            exact absurd hs (h3 e he h1)
      · rw [k0 b hb c]; exact h2
