section
/-! what writes: the small ones -/
def nf (f : Nat → Int32) : Nat → Int32 := fun k => if k < 24 ∨ (32 ≤ k ∧ k < 96) ∨ k = 97 then 0 else f k
theorem nzU {f : Nat → Int32} {k : Nat} {v : Int32} (h : k < 24 ∨ (32 ≤ k ∧ k < 96) ∨ k = 97) : nz (upd f k v) = upd (nz f) k v := by
  funext j; simp only [nz, upd]; grind
theorem nzO {f : Nat → Int32} {k : Nat} {v : Int32} (h : ¬ (k < 24 ∨ (32 ≤ k ∧ k < 96) ∨ k = 97)) : nz (upd f k v) = nz f := by
  funext j; simp only [nz, upd]; grind
theorem nfU {f : Nat → Int32} {k : Nat} {v : Int32} (h : k < 24 ∨ (32 ≤ k ∧ k < 96) ∨ k = 97) : nf (upd f k v) = nf f := by
  funext j; simp only [nf, upd]; grind
theorem nfO {f : Nat → Int32} {k : Nat} {v : Int32} (h : ¬ (k < 24 ∨ (32 ≤ k ∧ k < 96) ∨ k = 97)) : nf (upd f k v) = upd (nf f) k v := by
  funext j; simp only [nf, upd]; grind
theorem nfE {f : Nat → Int32} {k : Nat} (h : ¬ (k < 24 ∨ (32 ≤ k ∧ k < 96) ∨ k = 97)) : nf f k = f k := if_neg h
def nLow (f : Nat → Int32) (d : Nat) (s : Int32) : Nat → Int32 := upd (upd (upd (upd (upd (upd (upd f d s) (8 + d) 0) (16 + d) 0) (48 + d) (-1)) (56 + d) 0) (64 + d) 0) (88 + d) 0
def nLeave (f : Nat → Int32) (d : Nat) : Nat → Int32 := upd (upd (nLow f d 0) (32 + d) (-1)) (40 + d) (-1)
def nQ (f : Nat → Int32) (d : Nat) : Nat → Int32 := upd (upd (nLow f d 2) 97 (f 97 + 1)) (16 + d) (f 97 + 1)
theorem nLow_97 {f : Nat → Int32} {d : Nat} {s : Int32} (hd : d < 8) : nLow f d s 97 = f 97 := by simp only [nLow, upd]; grind
theorem nLow_nz {f : Nat → Int32} {d : Nat} {s : Int32} (hd : d < 8) : nz (nLow f d s) = nLow (nz f) d s := by
  unfold nLow; simp (disch := omega) only [nzU]
theorem nLow_nf {f : Nat → Int32} {d : Nat} {s : Int32} (hd : d < 8) : nf (nLow f d s) = nf f := by
  unfold nLow; simp (disch := omega) only [nfU]
theorem nQ_nz {f : Nat → Int32} {d : Nat} (hd : d < 8) : nz (nQ f d) = nQ (nz f) d := by
  unfold nQ; simp (disch := omega) only [nzU, nLow_nz, pNz]
theorem nQ_nf {f : Nat → Int32} {d : Nat} (hd : d < 8) : nf (nQ f d) = nf f := by
  unfold nQ; simp (disch := omega) only [nfU, nLow_nf]
theorem nLeave_nz {f : Nat → Int32} {d : Nat} (hd : d < 8) : nz (nLeave f d) = nLeave (nz f) d := by
  unfold nLeave; simp (disch := omega) only [nzU, nLow_nz]
theorem nLeave_nf {f : Nat → Int32} {d : Nat} (hd : d < 8) : nf (nLeave f d) = nf f := by
  unfold nLeave; simp (disch := omega) only [nfU, nLow_nf]
section
variable {m : Nat} {fr fu fp : Nat → Int32} {d : Nat}
theorem cLower {s : Int32} (hd : d < 8) : F_X0_lower fr (nI m) fu fp (nI d) s = some (nLow fr d s) := by
  unfold F_X0_lower nLow; simp (disch := omega) only [pIx, pCl, pLe, pLt, pEq, pNm, pS1, pA0, pA8, pA16, pA24, pA32, pA40, pA48, pA56, pA64, pA72, pA80, pA88, pBs, pE8, pb0, pb1, pbo, if_true, if_false, pIy, pbq, pNz, pIw]
theorem cLeave (hd : d < 8) : F_X0_leave fr (nI m) fu fp (nI d) = some (nLeave fr d) := by
  unfold F_X0_leave nLeave; simp (disch := omega) only [pIx, pCl, pLe, pLt, pEq, pNm, pS1, pA0, pA8, pA16, pA24, pA32, pA40, pA48, pA56, pA64, pA72, pA80, pA88, pBs, pE8, pb0, pb1, pbo, if_true, if_false, pIy, pbq, pNz, pIw, cLower]
theorem cQueue (hd : d < 8) : F_X0_queue fr (nI m) fu fp (nI d) = some (nQ fr d) := by
  unfold F_X0_queue nQ; simp (disch := omega) only [pIx, pCl, pLe, pLt, pEq, pNm, pS1, pA0, pA8, pA16, pA24, pA32, pA40, pA48, pA56, pA64, pA72, pA80, pA88, pBs, pE8, pb0, pb1, pbo, if_true, if_false, pIy, pbq, pNz, pIw, cLower, nLow_97, pUs]
end
section
variable {nw : Nat → Int32} {d : Nat}
def rW (f : Nat → Int32) (d : Nat) : Nat → Int32 := upd (upd (upd (upd f d 2) (8 + d) 0) 97 (f 97 + 1)) (16 + d) (f 97 + 1)
def rU (f : Nat → Int32) (d : Nat) : Nat → Int32 := upd (upd (upd f (48 + d) (-1)) (56 + d) 0) (88 + d) 0
def rC (f : Nat → Int32) (d : Nat) : Nat → Int32 := upd (upd (upd (upd (upd (upd (upd (upd (upd (upd f d 0) (8 + d) 0) (16 + d) 0) (24 + d) 0) (32 + d) (-1)) (40 + d) (-1)) (48 + d) (-1)) (56 + d) 0) (64 + d) 0) (88 + d) 0
theorem rWaits (hd : d < 8) : F_X10_waits nw (nI d) = some (rW nw d) := by
  unfold F_X10_waits rW; simp (disch := omega) only [pIx, pCl, pLe, pLt, pEq, pNm, pS1, pA0, pA8, pA16, pA24, pA32, pA40, pA48, pA56, pA64, pA72, pA80, pA88, pBs, pE8, pb0, pb1, pbo, if_true, if_false, pIy, pbq, pNz, pIw, pUs, pUn]
theorem rUnset (hd : d < 8) : F_X10_unset nw (nI d) = some (rU nw d) := by
  unfold F_X10_unset rU; simp (disch := omega) only [pIx, pCl, pLe, pLt, pEq, pNm, pS1, pA0, pA8, pA16, pA24, pA32, pA40, pA48, pA56, pA64, pA72, pA80, pA88, pBs, pE8, pb0, pb1, pbo, if_true, if_false, pIy, pbq, pNz, pIw]
theorem rClear (hd : d < 8) : F_X10_clear nw (nI d) = some (rC nw d) := by
  unfold F_X10_clear rC; simp (disch := omega) only [pIx, pCl, pLe, pLt, pEq, pNm, pS1, pA0, pA8, pA16, pA24, pA32, pA40, pA48, pA56, pA64, pA72, pA80, pA88, pBs, pE8, pb0, pb1, pbo, if_true, if_false, pIy, pbq, pNz, pIw]
theorem rW_nz {f : Nat → Int32} (hd : d < 8) : nz (rW f d) = rW (nz f) d := by
  unfold rW; simp (disch := omega) only [nzU, pNz]
theorem rW_nf {f : Nat → Int32} (hd : d < 8) : nf (rW f d) = nf f := by
  unfold rW; simp (disch := omega) only [nfU]
theorem rU_nz {f : Nat → Int32} (hd : d < 8) : nz (rU f d) = rU (nz f) d := by
  unfold rU; simp (disch := omega) only [nzU]
theorem rU_nf {f : Nat → Int32} (hd : d < 8) : nf (rU f d) = nf f := by
  unfold rU; simp (disch := omega) only [nfU]
theorem rC_nz {f : Nat → Int32} (hd : d < 8) : nz (rC f d) = nLeave (nz f) d := by
  unfold rC nLeave nLow; simp (disch := omega) only [nzU, nzO]
  funext k; simp only [upd]; grind
theorem rC_nf {f : Nat → Int32} (hd : d < 8) : nf (rC f d) = upd (nf f) (24 + d) 0 := by
  unfold rC; simp (disch := omega) only [nfU, nfO]
end
/-- one device's row as it may be -/
def dOK (N : Nat → Int32) (d : Nat) : Prop :=
  (∃ k, k ≤ 7 ∧ N d = nI k) ∧ (N d = 0 → N (32 + d) = -1 ∧ N (40 + d) = -1) ∧ ((N d = 1 ∨ N d = 3) → 0 < N (8 + d)) ∧ (¬ (N d = 1 ∨ N d = 3) → N (8 + d) = 0) ∧ (N d ≠ 2 → N (16 + d) = 0) ∧ (N d ≠ 6 → N (48 + d) = -1 ∧ N (56 + d) = 0 ∧ N (88 + d) = 0) ∧ (N d = 6 → (N (48 + d) = 0 ∨ N (48 + d) = 1 ∨ N (48 + d) = 2) ∧ (N (88 + d) = 0 ∨ N (88 + d) = 1)) ∧ (N d ≠ 7 → N (64 + d) = 0) ∧ (N (72 + d) = 0 ∨ N (72 + d) = 1)
theorem dOK_congr {N N' : Nat → Int32} {d : Nat} (h : ∀ j, j < 12 → N' (8 * j + d) = N (8 * j + d)) (hd : dOK N d) : dOK N' d := by
  have h0 := h 0 (by decide); have h1 := h 1 (by decide); have h2 := h 2 (by decide); have h4 := h 4 (by decide); have h5 := h 5 (by decide); have h6 := h 6 (by decide); have h7 := h 7 (by decide); have h8 := h 8 (by decide); have h9 := h 9 (by decide); have h11 := h 11 (by decide)
  simp only [Nat.mul_zero, Nat.zero_add, Nat.reduceMul] at h0 h1 h2 h4 h5 h6 h7 h8 h9 h11
  unfold dOK at hd ⊢
  rw [h0, h1, h2, h4, h5, h6, h7, h8, h9, h11]
  exact hd
/-- who is in reset, at a bite or configured hangs at one that is configured -/
def wC (m : Nat) (N : Nat → Int32) : Prop := ∀ d, d < m → (N d = 3 ∨ N d = 4 ∨ N d = 5 ∨ N d = 6) → N (32 + d) = 8 ∨ ∃ h, h < m ∧ N (32 + d) = nI h ∧ N h = 6
/-- the order of plugging -/
def wL (m : Nat) (N : Nat → Int32) (L : List Nat) : Prop := L.Nodup ∧ (∀ d, d ∈ L ↔ d < m ∧ N d ≠ 0) ∧ ∀ d, d ∈ L → ∃ h, N (32 + d) = nI h ∧ (h = 8 ∨ (h ∈ L ∧ L.idxOf h < L.idxOf d))
def iN (m : Nat) (N : Nat → Int32) : Prop := (∃ L, wL m N L) ∧ (∀ d, d < m → dOK N d) ∧ wC m N
theorem nodup_len : ∀ (m : Nat) (L : List Nat), L.Nodup → (∀ d, d ∈ L → d < m) → L.length ≤ m
  | 0, [], _, _ => Nat.le_refl 0
  | 0, d :: L, _, h => absurd (h d List.mem_cons_self) (by omega)
  | m + 1, L, h1, h2 => by
    have ih := nodup_len m (L.erase m) (h1.erase m) (fun d hd => by
      have := (h1.mem_erase_iff).mp hd
      have := h2 d this.2
      omega)
    have := List.length_erase (a := m) (l := L)
    split at this <;> omega
theorem wL.r {m : Nat} {N : Nat → Int32} {L : List Nat} (hm : m ≤ 8) (h : wL m N L) : wR m N (fun d => L.idxOf d) := by
  intro d hd h0
  have hL := (h.2.1 d).mpr ⟨hd, h0⟩
  have hlen := nodup_len m L h.1 (fun e he => ((h.2.1 e).mp he).1)
  refine ⟨Nat.lt_of_lt_of_le (List.idxOf_lt_length_iff.mpr hL) (by omega), ?_⟩
  obtain ⟨c, h1, h2⟩ := h.2.2 d hL
  refine ⟨c, h1, ?_⟩
  rcases h2 with h2 | ⟨h2, h3⟩
  · exact Or.inl h2
  · have := (h.2.1 c).mp h2
    exact Or.inr ⟨this.1, this.2, h3⟩
theorem iN.f {m : Nat} {N : Nat → Int32} (h : iN m N) : wF m N := fun d hd h0 => ((h.2.1 d hd).2.1 h0).1
theorem iN.q {m : Nat} {N : Nat → Int32} (h : iN m N) : wQ m N := fun d hd h0 h1 => h0 ((h.2.1 d hd).2.2.2.2.2.1 (by rw [h1]; decide)).1
theorem iN.s {m : Nat} {N : Nat → Int32} (h : iN m N) : wS m N := fun d hd => by
  by_cases c : N d = 6
  · exact ((h.2.1 d hd).2.2.2.2.2.2.1 c).2
  · exact Or.inl ((h.2.1 d hd).2.2.2.2.2.1 c).2.2
theorem iN.rn {m : Nat} {N : Nat → Int32} (h : iN m N) : wRn m N := fun d hd c => ((h.2.1 d hd).2.2.2.2.2.2.1 c).1
theorem iN.ad {m : Nat} {N : Nat → Int32} (h : iN m N) : wAd m N := fun d hd c => ((h.2.1 d hd).2.2.2.2.2.1 c).2.1
theorem iN.r {m : Nat} {N : Nat → Int32} (hm : m ≤ 8) (h : iN m N) : ∃ r, wR m N r := by
  obtain ⟨⟨L, hL⟩, _⟩ := h
  exact ⟨_, hL.r hm⟩
theorem iN.hm {m : Nat} {N : Nat → Int32} {d c : Nat} (hm : m ≤ 8) (h : iN m N) (hd : d < m) (h0 : N d ≠ 0) (hc : c ≤ 8) (hh : N (32 + d) = nI c) : c = 8 ∨ c < m := by
  obtain ⟨r, hr⟩ := h.r hm
  obtain ⟨-, b, h1, h2⟩ := hr d hd h0
  rw [hh] at h1
  rcases h2 with h2 | ⟨h2, -⟩
  · left; exact ((nI_eq (a := c) (b := b) (by omega) (by omega)).mp h1).trans h2
  · right; rw [(nI_eq (a := c) (b := b) (by omega) (by omega)).mp h1]; exact h2
theorem iN.h {m : Nat} {N : Nat → Int32} (hm : m ≤ 8) (h : iN m N) : wH m N := by
  obtain ⟨r, hr⟩ := h.r hm
  exact hr.h hm
/-- the tree stays when nobody comes or goes -/
theorem wL.keep {m : Nat} {N N' : Nat → Int32} {L : List Nat} (h : wL m N L) (h1 : ∀ d, d < m → (N' d ≠ 0 ↔ N d ≠ 0)) (h2 : ∀ d, d < m → N' (32 + d) = N (32 + d)) : wL m N' L := by
  refine ⟨h.1, fun d => (h.2.1 d).trans ⟨fun c => ⟨c.1, (h1 d c.1).mpr c.2⟩, fun c => ⟨c.1, (h1 d c.1).mp c.2⟩⟩, fun d hd => ?_⟩
  rw [h2 d ((h.2.1 d).mp hd).1]
  exact h.2.2 d hd
/-- an act on one device that keeps it in its place -/
theorem iN.one {m : Nat} {N N' : Nat → Int32} {d : Nat} (hm : m ≤ 8) (h : iN m N) (hd : d < m) (hk : ∀ e j, e < m → e ≠ d → j < 12 → N' (8 * j + e) = N (8 * j + e)) (h0 : N d ≠ 0) (h0' : N' d ≠ 0) (hh : N' (32 + d) = N (32 + d)) (hok : dOK N' d)
    (hc : (N' d = 3 ∨ N' d = 4 ∨ N' d = 5 ∨ N' d = 6) → N (32 + d) = 8 ∨ ∃ h, h < m ∧ N (32 + d) = nI h ∧ N h = 6) (hc2 : N d = 6 → N' d = 6 ∨ ∀ e, e < m → N (32 + e) = nI d → ¬ (N e = 3 ∨ N e = 4 ∨ N e = 5 ∨ N e = 6)) : iN m N' := by
  obtain ⟨⟨L, hL⟩, hO, hC⟩ := h
  have k0 : ∀ e, e < m → e ≠ d → N' e = N e := fun e he hn => by have := hk e 0 he hn (by decide); simpa using this
  have k4 : ∀ e, e < m → e ≠ d → N' (32 + e) = N (32 + e) := fun e he hn => hk e 4 he hn (by decide)
  refine ⟨⟨L, hL.keep (fun e he => ?_) (fun e he => ?_)⟩, fun e he => ?_, fun e he hs => ?_⟩
  · by_cases c : e = d
    · subst c; exact ⟨fun _ => h0, fun _ => h0'⟩
    · rw [k0 e he c]
  · by_cases c : e = d
    · subst c; exact hh
    · exact k4 e he c
  · by_cases c : e = d
    · subst c; exact hok
    · exact dOK_congr (fun j hj => hk e j he c hj) (hO e he)
  · have key : N (32 + e) = 8 ∨ ∃ h, h < m ∧ N (32 + e) = nI h ∧ N h = 6 := by
      by_cases c : e = d
      · subst c; exact hc hs
      · rw [k0 e he c] at hs; exact hC e he hs
    have e4 : N' (32 + e) = N (32 + e) := by
      by_cases c : e = d
      · subst c; exact hh
      · exact k4 e he c
    rw [e4]
    rcases key with key | ⟨b, hb, h1, h2⟩
    · exact Or.inl key
    · refine Or.inr ⟨b, hb, h1, ?_⟩
      by_cases c : b = d
      · subst c
        rcases hc2 h2 with h3 | h3
        · exact h3
        · by_cases c2 : e = b
          · subst c2
            -- nobody hangs at itself
            exfalso
            have hr := hL.r hm
            obtain ⟨_, q, hq, hq2⟩ := hr e hd h0
            rw [h1] at hq
            have hq3 : e = q := by
              rcases hq2 with rfl | ⟨q1, _, _⟩
              · exact (nI_eq (by omega) (by decide)).mp hq
              · exact (nI_eq (by omega) (by omega)).mp hq
            subst hq3
            rcases hq2 with q1 | ⟨_, _, q1⟩
            · omega
            · omega
          · rw [k0 e he c2] at hs
            exact absurd hs (h3 e he h1)
      · rw [k0 b hb c]; exact h2
end

section
/-! refusing -/
theorem pF_map {α β : Type} {φ : α → β} {g : Nat → α → α} {g' : Nat → β → β} (I : Nat → β → Prop) : ∀ (k j : Nat) (a : α), (∀ i a, j ≤ i → i < j + k → I i (φ a) → φ (g i a) = g' i (φ a)) → (∀ i b, j ≤ i → i < j + k → I i b → I (i + 1) (g' i b)) → I j (φ a) → φ (pF g k j a) = pF g' k j (φ a)
  | 0, _, _, _, _, _ => rfl
  | k + 1, j, a, h1, h2, h3 => by
    show φ (pF g k (j + 1) (g j a)) = pF g' k (j + 1) (g' j (φ a))
    have e := h1 j a (by omega) (by omega) h3
    rw [← e]
    exact pF_map I k (j + 1) (g j a) (fun i a p q => h1 i a (by omega) (by omega)) (fun i b p q => h2 i b (by omega) (by omega)) (by rw [e]; exact h2 j _ (by omega) (by omega) h3)
theorem pF_id {α : Type} {g : Nat → α → α} {a : α} : ∀ (k j : Nat), (∀ i, j ≤ i → i < j + k → g i a = a) → pF g k j a = a
  | 0, _, _ => rfl
  | k + 1, j, h => by
    show pF g k (j + 1) (g j a) = a
    rw [h j (by omega) (by omega)]
    exact pF_id k (j + 1) (fun i p q => h i (by omega) (by omega))
theorem nz_nz (f : Nat → Int32) : nz (nz f) = nz f := by
  funext k; simp only [nz]; grind
theorem zCl_congr {N N' : Nat → Int32} {p : Int32 → Bool} (h : ∀ c, c < 8 → N' (32 + c) = N (32 + c)) : ∀ (k : Nat) (x : Int32), zCl N' p k x = zCl N p k x
  | 0, _ => rfl
  | k + 1, x => by
    rcases pX3 x with c | c | ⟨c, hc, rfl⟩
    · simp only [zCl, c, true_or, if_true]
    · simp only [zCl, c, or_true, if_true]
    · rw [zCl_s hc, zCl_s hc, h c hc]
      split
      · rfl
      · exact zCl_congr h k _
theorem zHang_congr {N N' : Nat → Int32} {e : Nat} {z : Int32} (h : ∀ c, c < 8 → N' (32 + c) = N (32 + c)) (he : e < 8) : zHang N' e z = zHang N e z := by
  unfold zHang; rw [h e he, zCl_congr h]
/-- who is in reset, at a bite or configured, hangs on configured ones alone -/
theorem chain_cl {m : Nat} {N : Nat → Int32} {d : Nat} (hm : m ≤ 8) (hC : wC m N) (hd : d < m) : ∀ (k c : Nat), (c = 8 ∨ (c < m ∧ N c = 6)) → zCl N (fun h => decide (h = nI d)) k (nI c) = nI d → N d = 6
  | 0, c, hc, e => by
    have := (nI_eq (a := c) (b := d) (by omega) (by omega)).mp e
    subst this
    rcases hc with hc | hc
    · omega
    · exact hc.2
  | k + 1, c, hc, e => by
    rcases hc with rfl | ⟨h1, h2⟩
    · rw [zCl_8] at e
      have := (nI_eq (a := 8) (b := d) (by omega) (by omega)).mp e
      omega
    · rw [zCl_s (by omega)] at e
      by_cases cd : c = d
      · subst cd; exact h2
      · rw [if_neg (by simp (disch := omega) only [pEq, cd, decide_false]; exact Bool.false_ne_true)] at e
        rcases hC c h1 (Or.inr (Or.inr (Or.inr h2))) with h3 | ⟨b, hb, h3, h4⟩
        · rw [h3] at e; exact chain_cl hm hC hd k 8 (Or.inl rfl) e
        · rw [h3] at e; exact chain_cl hm hC hd k b (Or.inr ⟨hb, h4⟩) e
def runs36 (x : Int32) : Prop := x = 3 ∨ x = 4 ∨ x = 5 ∨ x = 6
theorem chain {m : Nat} {N : Nat → Int32} {d e : Nat} (hm : m ≤ 8) (hC : wC m N) (hd : d < m) (he : e < m) (hs : runs36 (N e)) (hh : zHang N e (nI d) = true) : N d = 6 := by
  unfold zHang at hh
  have hh := of_decide_eq_true hh
  rcases hC e he hs with h3 | ⟨b, hb, h3, h4⟩
  · rw [h3] at hh; exact chain_cl hm hC hd 8 8 (Or.inl rfl) hh
  · rw [h3] at hh; exact chain_cl hm hC hd 8 b (Or.inr ⟨hb, h4⟩) hh
theorem st36 {x : Int32} (h : ∃ k, k ≤ 7 ∧ x = nI k) : (¬ x < 3 ∧ ¬ 6 < x) ↔ runs36 x := by
  obtain ⟨k, hk, rfl⟩ := h
  have : ∀ k : Fin 8, (¬ nI k.1 < 3 ∧ ¬ 6 < nI k.1) ↔ (nI k.1 = 3 ∨ nI k.1 = 4 ∨ nI k.1 = 5 ∨ nI k.1 = 6) := by decide
  exact this ⟨k, by omega⟩
theorem bsy36 {N : Nat → Int32} {d : Nat} (h : ∃ k, k ≤ 7 ∧ N d = nI k) : (zBsy N d = true ∨ N d = 6) ↔ runs36 (N d) := by
  obtain ⟨k, hk, e⟩ := h
  unfold zBsy runs36
  rw [e]
  have : ∀ k : Fin 8, ((!decide (nI k.1 < 3) && !decide (5 < nI k.1)) = true ∨ nI k.1 = 6) ↔ (nI k.1 = 3 ∨ nI k.1 = 4 ∨ nI k.1 = 5 ∨ nI k.1 = 6) := by decide
  exact this ⟨k, by omega⟩
def cRf (z : Int32) (e : Nat) (f : Nat → Int32) : Nat → Int32 := if zHang (nz f) e z = true ∧ ¬ f e < 3 ∧ ¬ 6 < f e then nQ f e else f
def nRef0 (f : Nat → Int32) (d : Nat) (why : Int32) : Nat → Int32 := upd (nLow f d 7) (64 + d) why
def nRefuse (m : Nat) (f : Nat → Int32) (d : Nat) (why : Int32) : Nat → Int32 := pF (cRf (nI d)) m 0 (nRef0 f d why)
theorem cRefuse {m : Nat} {fr fu fp : Nat → Int32} {d : Nat} {why : Int32} (hm : m ≤ 8) (hd : d < 8) : F_X0_refuse fr (nI m) fu fp (nI d) why = some (nRefuse m fr d why) := by
  unfold F_X0_refuse nRefuse nRef0
  simp (disch := omega) only [pIx, pCl, pLe, pLt, pEq, pNm, pS1, pA0, pA8, pA16, pA24, pA32, pA40, pA48, pA56, pA64, pA72, pA80, pA88, pBs, pE8, pb0, pb1, pbo, if_true, if_false, pIy, pbq, pNz, pIw, cLower]
  refine pLoop0 (m := m) (L := fun n i a => FL_X0_refuse_19 fr (nI m) fu fp (nI d) why n i a) (g := cRf (nI d)) (fin := id) (fun n j a hj => ?_) (fun n a => ?_) 1000 _ (by omega)
  · show FL_X0_refuse_19 fr (nI m) fu fp (nI d) why (n + 1) (nI j) a = _
    simp (disch := omega) only [FL_X0_refuse_19, pIx, pCl, pLe, pLt, pEq, pNm, pS1, pA0, pA8, pA16, pA24, pA32, pA40, pA48, pA56, pA64, pA72, pA80, pA88, pBs, pE8, pb0, pb1, pbo, if_true, if_false, pIy, pbq, pNz, pIw, cHang, cQueue, cRf]
    rw [if_neg (by omega)]
    by_cases c : zHang (nz a) j (nI d) = true <;> by_cases c2 : a j < 3 <;> by_cases c3 : 6 < a j <;> simp [c, c2, c3]
  · show FL_X0_refuse_19 fr (nI m) fu fp (nI d) why (n + 1) (nI m) a = _
    simp (disch := omega) only [FL_X0_refuse_19, pIx, pCl, pLe, pLt, pEq, pNm, pS1, pA0, pA8, pA16, pA24, pA32, pA40, pA48, pA56, pA64, pA72, pA80, pA88, pBs, pE8, pb0, pb1, pbo, if_true, if_false, pIy, pbq, pNz, pIw]
    rw [if_pos (Nat.le_refl m)]; rfl
theorem cRf_nz {z : Int32} {e : Nat} {f : Nat → Int32} (he : e < 8) : nz (cRf z e f) = cRf z e (nz f) := by
  unfold cRf
  simp (disch := omega) only [nz_nz, pNz]
  split
  · exact nQ_nz he
  · rfl
theorem cRf_nf {z : Int32} {e : Nat} {f : Nat → Int32} (he : e < 8) : nf (cRf z e f) = nf f := by
  unfold cRf
  split
  · exact nQ_nf he
  · rfl
theorem nRef0_nz {f : Nat → Int32} {d : Nat} {why : Int32} (hd : d < 8) : nz (nRef0 f d why) = nRef0 (nz f) d why := by
  unfold nRef0; simp (disch := omega) only [nzU, nLow_nz]
theorem nRefuse_nz {m : Nat} {f : Nat → Int32} {d : Nat} {why : Int32} (hm : m ≤ 8) (hd : d < 8) : nz (nRefuse m f d why) = nRefuse m (nz f) d why := by
  unfold nRefuse
  rw [← nRef0_nz hd]
  exact pF_map (fun _ _ => True) m 0 _ (fun i a _ hi _ => cRf_nz (by omega)) (fun _ _ _ _ _ => trivial) trivial
theorem pF_const {α β : Type} {φ : α → β} {g : Nat → α → α} : ∀ (k j : Nat) (a : α), (∀ i a, j ≤ i → i < j + k → φ (g i a) = φ a) → φ (pF g k j a) = φ a
  | 0, _, _, _ => rfl
  | k + 1, j, a, h => by
    show φ (pF g k (j + 1) (g j a)) = φ a
    rw [pF_const k (j + 1) (g j a) (fun i a p q => h i a (by omega) (by omega)), h j a (by omega) (by omega)]
theorem nRefuse_nf {m : Nat} {f : Nat → Int32} {d : Nat} {why : Int32} (hm : m ≤ 8) (hd : d < 8) : nf (nRefuse m f d why) = nf f := by
  unfold nRefuse
  rw [pF_const (φ := nf) m 0 _ (fun i a _ hi => cRf_nf (by omega))]
  unfold nRef0; simp (disch := omega) only [nfU, nLow_nf]
/-- queueing one that is in its place -/
theorem nQ_same {N : Nat → Int32} {d e j : Nat} (hd : d < 8) (he : e < 8) (hn : e ≠ d) (hj : j < 12) : nQ N d (8 * j + e) = N (8 * j + e) := by
  simp only [nQ, nLow, upd]; grind
theorem nQ_0 {N : Nat → Int32} {d : Nat} (hd : d < 8) : nQ N d d = 2 := by simp only [nQ, nLow, upd]; grind
theorem nQ_32 {N : Nat → Int32} {d c : Nat} (hd : d < 8) (hc : c < 8) : nQ N d (32 + c) = N (32 + c) := by simp only [nQ, nLow, upd]; grind
theorem nQ_72 {N : Nat → Int32} {d c : Nat} (hd : d < 8) (hc : c < 8) : nQ N d (72 + c) = N (72 + c) := by simp only [nQ, nLow, upd]; grind
theorem nQ_ok {N : Nat → Int32} {d : Nat} (hd : d < 8) (h : dOK N d) : dOK (nQ N d) d := by
  obtain ⟨-, -, -, -, -, -, -, -, h9⟩ := h
  have e0 := nQ_0 (N := N) hd
  have e1 : nQ N d (8 + d) = 0 := by simp only [nQ, nLow, upd]; grind
  have e6 : nQ N d (48 + d) = -1 := by simp only [nQ, nLow, upd]; grind
  have e7 : nQ N d (56 + d) = 0 := by simp only [nQ, nLow, upd]; grind
  have e8 : nQ N d (64 + d) = 0 := by simp only [nQ, nLow, upd]; grind
  have e11 : nQ N d (88 + d) = 0 := by simp only [nQ, nLow, upd]; grind
  unfold dOK
  rw [e0, e1, e6, e7, e8, e11, nQ_72 hd hd]
  refine ⟨⟨2, by decide, rfl⟩, fun h => absurd h (by decide), fun h => absurd h (by decide), fun _ => rfl, fun h => absurd rfl h, fun _ => ⟨rfl, rfl, rfl⟩, fun h => absurd h (by decide), fun _ => rfl, h9⟩
theorem nRef0_same {N : Nat → Int32} {d e j : Nat} {why : Int32} (hd : d < 8) (he : e < 8) (hn : e ≠ d) (hj : j < 12) : nRef0 N d why (8 * j + e) = N (8 * j + e) := by
  simp only [nRef0, nLow, upd]; grind
theorem nRef0_0 {N : Nat → Int32} {d : Nat} {why : Int32} (hd : d < 8) : nRef0 N d why d = 7 := by simp only [nRef0, nLow, upd]; grind
theorem nRef0_32 {N : Nat → Int32} {d c : Nat} {why : Int32} (hd : d < 8) (hc : c < 8) : nRef0 N d why (32 + c) = N (32 + c) := by simp only [nRef0, nLow, upd]; grind
theorem nRef0_ok {N : Nat → Int32} {d : Nat} {why : Int32} (hd : d < 8) (h : dOK N d) : dOK (nRef0 N d why) d := by
  obtain ⟨-, -, -, -, -, -, -, -, h9⟩ := h
  have e0 := nRef0_0 (N := N) (why := why) hd
  have e1 : nRef0 N d why (8 + d) = 0 := by simp only [nRef0, nLow, upd]; grind
  have e2 : nRef0 N d why (16 + d) = 0 := by simp only [nRef0, nLow, upd]; grind
  have e6 : nRef0 N d why (48 + d) = -1 := by simp only [nRef0, nLow, upd]; grind
  have e7 : nRef0 N d why (56 + d) = 0 := by simp only [nRef0, nLow, upd]; grind
  have e9 : nRef0 N d why (72 + d) = N (72 + d) := by simp only [nRef0, nLow, upd]; grind
  have e11 : nRef0 N d why (88 + d) = 0 := by simp only [nRef0, nLow, upd]; grind
  unfold dOK
  rw [e0, e1, e2, e6, e7, e9, e11]
  exact ⟨⟨7, by decide, rfl⟩, fun h => absurd h (by decide), fun h => absurd h (by decide), fun _ => rfl, fun _ => rfl, fun _ => ⟨rfl, rfl, rfl⟩, fun h => absurd h (by decide), fun h => absurd rfl h, h9⟩
/-- the loop of a refusal: what holds at each round -/
def rfI (m : Nat) (N0 : Nat → Int32) (z : Int32) (j : Nat) (N : Nat → Int32) : Prop := (∃ L, wL m N L) ∧ (∀ e, e < m → dOK N e) ∧ (∀ c, c < 8 → N (32 + c) = N0 (32 + c)) ∧ (∀ e, e < m → (e < j ∧ zHang N0 e z = true ∧ runs36 (N0 e) → N e = 2) ∧ (¬ (e < j ∧ zHang N0 e z = true ∧ runs36 (N0 e)) → N e = N0 e)) ∧ nz N = N
theorem rfI_step {m : Nat} {N0 N : Nat → Int32} {z : Int32} {j : Nat} (hm : m ≤ 8) (hj : j < m) (h : rfI m N0 z j N) : rfI m N0 z (j + 1) (cRf z j N) := by
  obtain ⟨⟨L, hL⟩, hO, hH, hE, hz⟩ := h
  have hNj : N j = N0 j := (hE j hj).2 (fun c => by omega)
  have hg : zHang N j z = zHang N0 j z := zHang_congr hH (by omega)
  unfold cRf
  rw [hz, hg]
  by_cases c : zHang N0 j z = true ∧ ¬ N j < 3 ∧ ¬ 6 < N j
  · rw [if_pos c]
    have hs : runs36 (N j) := (st36 (hO j hj).1).mp c.2
    have h0 : N j ≠ 0 := by rcases hs with h | h | h | h <;> rw [h] <;> decide
    refine ⟨⟨L, hL.keep (fun e he => ?_) (fun e he => nQ_32 (by omega) (by omega))⟩, fun e he => ?_, fun c hc => (nQ_32 (by omega) hc).trans (hH c hc), fun e he => ?_, by rw [nQ_nz (by omega), hz]⟩
    · by_cases ce : e = j
      · subst ce; rw [nQ_0 (by omega)]; exact ⟨fun _ => h0, fun _ => by decide⟩
      · have := nQ_same (N := N) (d := j) (e := e) (j := 0) (by omega) (by omega) ce (by decide)
        simp only [Nat.mul_zero, Nat.zero_add] at this
        rw [this]
    · by_cases ce : e = j
      · subst ce; exact nQ_ok (by omega) (hO e he)
      · exact dOK_congr (fun q hq => nQ_same (by omega) (by omega) ce hq) (hO e he)
    · by_cases ce : e = j
      · subst ce
        refine ⟨fun _ => nQ_0 (by omega), fun h => absurd ⟨by omega, c.1, hNj ▸ hs⟩ h⟩
      · have := nQ_same (N := N) (d := j) (e := e) (j := 0) (by omega) (by omega) ce (by decide)
        simp only [Nat.mul_zero, Nat.zero_add] at this
        rw [this]
        exact ⟨fun h => (hE e he).1 ⟨by omega, h.2⟩, fun h => (hE e he).2 (fun h' => h ⟨by omega, h'.2⟩)⟩
  · rw [if_neg c]
    refine ⟨⟨L, hL⟩, hO, hH, fun e he => ?_, hz⟩
    by_cases ce : e = j
    · subst ce
      refine ⟨fun h => ?_, fun _ => hNj⟩
      exact absurd ⟨h.2.1, (st36 (hO e he).1).mpr (hNj.symm ▸ h.2.2)⟩ c
    · exact ⟨fun h => (hE e he).1 ⟨by omega, h.2⟩, fun h => (hE e he).2 (fun h' => h ⟨by omega, h'.2⟩)⟩
theorem rfI_0 {m : Nat} {N : Nat → Int32} {d : Nat} {why z : Int32} (hm : m ≤ 8) (hd : d < m) (hz : nz N = N) (h : (∃ L, wL m N L) ∧ (∀ e, e < m → dOK N e)) (h0 : N d ≠ 0) : rfI m (nRef0 N d why) z 0 (nRef0 N d why) := by
  obtain ⟨⟨L, hL⟩, hO⟩ := h
  refine ⟨⟨L, hL.keep (fun e he => ?_) (fun e he => nRef0_32 (by omega) (by omega))⟩, fun e he => ?_, fun _ _ => rfl, fun e he => ⟨fun h => by omega, fun _ => rfl⟩, by rw [nRef0_nz (by omega), hz]⟩
  · by_cases ce : e = d
    · subst ce; rw [nRef0_0 (by omega)]; exact ⟨fun _ => h0, fun _ => by decide⟩
    · have := nRef0_same (N := N) (why := why) (d := d) (e := e) (j := 0) (by omega) (by omega) ce (by decide)
      simp only [Nat.mul_zero, Nat.zero_add] at this
      rw [this]
  · by_cases ce : e = d
    · subst ce; exact nRef0_ok (by omega) (hO e he)
    · exact dOK_congr (fun q hq => nRef0_same (by omega) (by omega) ce hq) (hO e he)
theorem nRefuse_I {m : Nat} {N : Nat → Int32} {d : Nat} {why : Int32} (hm : m ≤ 8) (hd : d < m) (hz : nz N = N) (h : (∃ L, wL m N L) ∧ (∀ e, e < m → dOK N e)) (h0 : N d ≠ 0) : rfI m (nRef0 N d why) (nI d) m (nRefuse m N d why) := by
  have := pF_inv (g := cRf (nI d)) (fun j a => rfI m (nRef0 N d why) (nI d) j a) m 0 (nRef0 N d why) (fun i a _ hi hI => rfI_step hm (by omega) hI) (rfI_0 hm hd hz h h0)
  rw [Nat.zero_add] at this
  exact this
end

section
/-! refusing, the reference's; failing -/
theorem hang_up {m : Nat} {N : Nat → Int32} {r : Nat → Nat} {e h : Nat} {z : Int32} (hm : m ≤ 8) (hw : wR m N r) (hh : h < m) (h0 : N h ≠ 0) (hub : N (32 + e) = nI h) (hg : zHang N h z = true) : zHang N e z = true := by
  unfold zHang at hg ⊢
  have hg := of_decide_eq_true hg
  apply decide_eq_true
  rw [hub, zCl_s (by omega)]
  by_cases c : nI h = z
  · rw [if_pos (by simpa using c)]; exact c
  · rw [if_neg (by simpa using c)]
    obtain ⟨b, h2, h3⟩ := wP.of hw hh h0
    rw [h2] at hg ⊢
    rw [← zCl_more (p := fun h => decide (h = z)) hm hw 7 1 b h3]
    exact hg
theorem hang_at {N : Nat → Int32} {e d : Nat} (hd : d < 8) (hub : N (32 + e) = nI d) : zHang N e (nI d) = true := by
  unfold zHang
  rw [hub, zCl_s hd, if_pos (by simp)]
  simp
theorem nRefuse_iN {m : Nat} {N : Nat → Int32} {d : Nat} {why : Int32} (hm : m ≤ 8) (hd : d < m) (hz : nz N = N) (h : iN m N) (h0 : N d ≠ 0) : iN m (nRefuse m N d why) := by
  obtain ⟨r, hr⟩ := h.r hm
  have hC := h.2.2
  obtain ⟨hL, hO, hH, hE, hz'⟩ := nRefuse_I (why := why) hm hd hz ⟨h.1, h.2.1⟩ h0
  refine ⟨hL, hO, fun e he hs => ?_⟩
  have hs' : ¬ (e < m ∧ zHang (nRef0 N d why) e (nI d) = true ∧ runs36 (nRef0 N d why e)) := fun c => by
    rw [(hE e he).1 c] at hs
    rcases hs with hs | hs | hs | hs <;> exact absurd hs (by decide)
  have e0 := (hE e he).2 hs'
  rw [e0] at hs
  have hed : e ≠ d := fun c => by
    subst c; rw [nRef0_0 (by omega)] at hs
    rcases hs with hs | hs | hs | hs <;> exact absurd hs (by decide)
  have hgn : zHang (nRef0 N d why) e (nI d) ≠ true := fun c => hs' ⟨he, c, hs⟩
  have n0 : ∀ q, q < m → q ≠ d → nRef0 N d why q = N q := fun q hq hn => by
    have := nRef0_same (N := N) (why := why) (d := d) (e := q) (j := 0) (by omega) (by omega) hn (by decide)
    simpa using this
  rw [n0 e he hed] at hs
  rw [zHang_congr (N := N) (fun c hc => nRef0_32 (by omega) hc) (by omega)] at hgn
  rw [hH e (by omega), nRef0_32 (by omega) (by omega)]
  rcases hC e he hs with h1 | ⟨b, hb, h1, h2⟩
  · exact Or.inl h1
  · have hbd : b ≠ d := fun c => by subst c; exact hgn (hang_at (by omega) h1)
    refine Or.inr ⟨b, hb, h1, ?_⟩
    rw [(hE b hb).2 (fun c => ?_), n0 b hb hbd]
    · exact h2
    · have c1 := c.2.1
      rw [zHang_congr (N := N) (fun c hc => nRef0_32 (by omega) hc) (by omega)] at c1
      exact hgn (hang_up hm hr hb (by rw [h2]; decide) h1 c1)
def rFf (z : Int32) (e : Nat) (f : Nat → Int32) : Nat → Int32 := if zHang (nz f) e z = true ∧ (zBsy (nz f) e = true ∨ nz f e = 6) then rW (rU f e) e else f
theorem rWU {N : Nat → Int32} {e : Nat} (he : e < 8) (h : N (64 + e) = 0) : rW (rU N e) e = nQ N e := by
  funext k; simp only [rW, rU, nQ, nLow, upd]; grind
theorem rFf_nz {z : Int32} {e : Nat} {f : Nat → Int32} (he : e < 8) (h : dOK (nz f) e) : nz (rFf z e f) = cRf z e (nz f) := by
  unfold rFf cRf
  rw [nz_nz]
  by_cases c : zHang (nz f) e z = true
  · by_cases c2 : runs36 (nz f e)
    · have h1 := (bsy36 h.1).mpr c2
      have h2 := (st36 h.1).mpr c2
      rw [if_pos ⟨c, h1⟩, if_pos ⟨c, h2⟩, rW_nz he, rU_nz he]
      exact rWU he (h.2.2.2.2.2.2.2.1 (by rcases c2 with c2 | c2 | c2 | c2 <;> rw [c2] <;> decide))
    · rw [if_neg (fun q => c2 ((bsy36 h.1).mp q.2)), if_neg (fun q => c2 ((st36 h.1).mp q.2))]
  · rw [if_neg (fun q => c q.1), if_neg (fun q => c q.1)]
theorem rFf_nf {z : Int32} {e : Nat} {f : Nat → Int32} (he : e < 8) : nf (rFf z e f) = nf f := by
  unfold rFf
  split
  · rw [rW_nf he, rU_nf he]
  · rfl
theorem rFallsL {m : Nat} {nw f0 : Nat → Int32} {d : Nat} {N0 : Nat → Int32} (hm : m ≤ 8) (hd : d < m) (h : rfI m N0 (nI d) 0 (nz f0)) : ∃ f, FL_X10_falls_7 (nI m) nw (nI d) 1000 0 f0 = some f ∧ nz f = pF (cRf (nI d)) m 0 (nz f0) ∧ nf f = nf f0 := by
  have hl := pLoop (m := m) (L := fun n i a => FL_X10_falls_7 (nI m) nw (nI d) n i a) (g := rFf (nI d)) (fin := id) (fun j f => rfI m N0 (nI d) j (nz f)) (fun n j a hj hI => ?_) (fun n a hI => ?_) m 1000 0 f0 (by omega) (by omega) h
  · refine ⟨_, hl.1, ?_, ?_⟩
    · exact pF_map (fun j N => rfI m N0 (nI d) j N) m 0 f0 (fun i a _ hi hI => rFf_nz (by omega) (hI.2.1 i (by omega))) (fun i b _ hi hI => rfI_step hm (by omega) hI) h
    · exact pF_const (φ := nf) m 0 f0 (fun i a _ hi => rFf_nf (by omega))
  · refine ⟨?_, by rw [rFf_nz (by omega) (hI.2.1 j hj)]; exact rfI_step hm hj hI⟩
    show FL_X10_falls_7 (nI m) nw (nI d) (n + 1) (nI j) a = _
    obtain ⟨⟨L, hL⟩, hO, -⟩ := hI
    have hf : wF m (nz a) := fun e he h0 => ((hO e he).2.1 h0).1
    simp (disch := omega) only [FL_X10_falls_7, pIx, pCl, pLe, pLt, pEq, pNm, pS1, pA0, pA8, pA16, pA24, pA32, pA40, pA48, pA56, pA64, pA72, pA80, pA88, pBs, pE8, pb0, pb1, pbo, if_true, if_false, pIy, pbq, pNz, pIw, rBeneath1 (nw := a) hm (hL.r hm) hf hj (by omega : d ≤ 8), rBusy1, rState, rUnset, rWaits, rFf]
    rw [if_neg (by omega)]
    by_cases c : zHang (nz a) j (nI d) = true <;> by_cases c2 : zBsy (nz a) j = true <;> by_cases c3 : a j = 6 <;> simp [c, c2, c3]
  · show FL_X10_falls_7 (nI m) nw (nI d) (n + 1) (nI m) a = _
    simp (disch := omega) only [FL_X10_falls_7, pIx, pCl, pLe, pLt, pEq, pNm, pS1, pA0, pA8, pA16, pA24, pA32, pA40, pA48, pA56, pA64, pA72, pA80, pA88, pBs, pE8, pb0, pb1, pbo, if_true, if_false, pIy, pbq, pNz, pIw]
    rw [if_pos (Nat.le_refl m)]; rfl
def rRf (f : Nat → Int32) (d : Nat) (why : Int32) : Nat → Int32 := upd (upd (upd (upd f d 7) (8 + d) 0) (16 + d) 0) (64 + d) why
theorem rRf_nz {f : Nat → Int32} {d : Nat} {why : Int32} (hd : d < 8) : nz (rRf f d why) = rRf (nz f) d why := by
  unfold rRf; simp (disch := omega) only [nzU]
theorem rRf_nf {f : Nat → Int32} {d : Nat} {why : Int32} (hd : d < 8) : nf (rRf f d why) = nf f := by
  unfold rRf; simp (disch := omega) only [nfU]
theorem rRefuses {m : Nat} {nw : Nat → Int32} {d : Nat} {why : Int32} (hm : m ≤ 8) (hi : iN m (nz nw)) (hd : d < m) (h0 : nz nw d ≠ 0) : ∃ f, F_X10_refuses (nI m) nw (nI d) why = some f ∧ nz f = nRefuse m (nz nw) d why ∧ nf f = nf nw := by
  unfold F_X10_refuses
  simp (disch := omega) only [pIx, pCl, pLe, pLt, pEq, pNm, pS1, pA0, pA8, pA16, pA24, pA32, pA40, pA48, pA56, pA64, pA72, pA80, pA88, pBs, pE8, pb0, pb1, pbo, if_true, if_false, pIy, pbq, pNz, pIw, rState]
  by_cases c : nz nw d = 6
  · have c' : nw d = 6 := by rw [← c, pNz (by omega)]
    rw [if_pos c']
    unfold F_X10_falls
    have e1 : nz (rU (rRf nw d why) d) = nRef0 (nz nw) d why := by
      rw [rU_nz (by omega), rRf_nz (by omega)]
      funext k; simp only [rU, rRf, nRef0, nLow, upd]; grind
    obtain ⟨f, h1, h2, h3⟩ := rFallsL (nw := rRf nw d why) (f0 := rU (rRf nw d why) d) (N0 := nRef0 (nz nw) d why) hm hd (by rw [e1]; exact rfI_0 hm hd (nz_nz nw) ⟨hi.1, hi.2.1⟩ h0)
    refine ⟨f, ?_, by rw [h2, e1]; rfl, by rw [h3, rU_nf (by omega), rRf_nf (by omega)]⟩
    show Option.bind (Option.bind (F_X10_unset (rRf nw d why) (nI d)) _) _ = _
    rw [rUnset (by omega), pBs]
    show (FL_X10_falls_7 (nI m) (rRf nw d why) (nI d) 1000 0 (rU (rRf nw d why) d)).bind _ = _
    rw [h1]; rfl
  · have c' : ¬ nw d = 6 := by rw [← pNz (N := nw) (k := d) (by omega)]; exact c
    rw [if_neg c']
    have hO := hi.2.1 d hd
    have h6 := hO.2.2.2.2.2.1 c
    refine ⟨rRf nw d why, rfl, ?_, rRf_nf (by omega)⟩
    have e1 : nz (rRf nw d why) = nRef0 (nz nw) d why := by
      rw [rRf_nz (by omega)]
      funext k; simp only [rRf, nRef0, nLow, upd]; grind
    rw [e1]
    unfold nRefuse
    refine (pF_id m 0 (fun e _ he => ?_)).symm
    unfold cRf
    rw [nRef0_nz (by omega), nz_nz]
    rw [zHang_congr (N := nz nw) (fun c hc => nRef0_32 (by omega) hc) (by omega)]
    by_cases ce : e = d
    · subst ce
      rw [nRef0_0 (by omega), if_neg (fun q => q.2.2 (by decide))]
    · have := nRef0_same (N := nz nw) (why := why) (d := d) (e := e) (j := 0) (by omega) (by omega) ce (by decide)
      simp only [Nat.mul_zero, Nat.zero_add] at this
      rw [this, if_neg (fun q => c (chain hm hi.2.2 hd (by omega) ((st36 (hi.2.1 e (by omega)).1).mp q.2) q.1))]
/-- waiting, of one that is no more than that -/
theorem rW_q {N : Nat → Int32} {d : Nat} (hd : d < 8) (h6 : N (48 + d) = -1 ∧ N (56 + d) = 0 ∧ N (88 + d) = 0) (h7 : N (64 + d) = 0) : rW N d = nQ N d := by
  funext k; simp only [rW, nQ, nLow, upd]; grind
theorem nQ_iN {m : Nat} {N : Nat → Int32} {d : Nat} (hm : m ≤ 8) (h : iN m N) (hd : d < m) (h0 : N d ≠ 0) (h6 : N d ≠ 6) : iN m (nQ N d) := by
  refine iN.one hm h hd (fun e j he hn hj => nQ_same (by omega) (by omega) hn hj) h0 (by rw [nQ_0 (by omega)]; decide) (nQ_32 (by omega) (by omega)) (nQ_ok (by omega) (h.2.1 d hd)) (fun c => ?_) (fun c => absurd c h6)
  rw [nQ_0 (by omega)] at c
  rcases c with c | c | c | c <;> exact absurd c (by decide)
/-- failing at a bite -/
def nFail (m : Nat) (R N : Nat → Int32) (d : Nat) (v : Int32) : Nat → Int32 := if v + 1 < R 3 then nQ N d else nRefuse m N d 1
theorem cFail {m : Nat} {fr fu fp : Nat → Int32} {d : Nat} (hm : m ≤ 8) (hd : d < 8) : ∃ f, F_X0_fail fr (nI m) fu fp (nI d) = some f ∧ nz f = nFail m fu (nz fr) d (fr (24 + d)) ∧ nf f = upd (nf fr) (24 + d) (fr (24 + d) + 1) := by
  unfold F_X0_fail nFail
  simp (disch := omega) only [pIx, pCl, pLe, pLt, pEq, pNm, pS1, pA0, pA8, pA16, pA24, pA32, pA40, pA48, pA56, pA64, pA72, pA80, pA88, pBs, pE8, pb0, pb1, pbo, if_true, if_false, pIy, pbq, pNz, pIw, cQueue, cRefuse hm, pUs]
  by_cases c : fr (24 + d) + 1 < fu 3
  · rw [if_pos c, if_pos c]
    refine ⟨_, rfl, ?_, ?_⟩
    · rw [nQ_nz hd, nzO (by omega)]
    · rw [nQ_nf hd, nfO (by omega)]
  · rw [if_neg c, if_neg c]
    refine ⟨_, rfl, ?_, ?_⟩
    · rw [nRefuse_nz hm hd, nzO (by omega)]
    · rw [nRefuse_nf hm hd, nfO (by omega)]
theorem rFails {m : Nat} {ru nw : Nat → Int32} {d : Nat} (hm : m ≤ 8) (hi : iN m (nz nw)) (hd : d < m) (h0 : nz nw d ≠ 0) (h6 : nz nw d ≠ 6) (h7 : nz nw d ≠ 7) : ∃ f, F_X10_fails (nI m) ru nw (nI d) = some f ∧ nz f = nFail m ru (nz nw) d (nw (24 + d)) ∧ nf f = upd (nf nw) (24 + d) (nw (24 + d) + 1) := by
  unfold F_X10_fails nFail
  simp (disch := omega) only [pIx, pCl, pLe, pLt, pEq, pNm, pS1, pA0, pA8, pA16, pA24, pA32, pA40, pA48, pA56, pA64, pA72, pA80, pA88, pBs, pE8, pb0, pb1, pbo, if_true, if_false, pIy, pbq, pNz, pIw, rWaits, pUs]
  have hO := hi.2.1 d hd
  have ez : nz (upd nw (24 + d) (nw (24 + d) + 1)) = nz nw := nzO (by omega)
  by_cases c : nw (24 + d) + 1 < ru 3
  · rw [if_pos c, if_pos c]
    refine ⟨_, rfl, ?_, ?_⟩
    · rw [rW_nz (by omega), ez, rW_q (by omega) (hO.2.2.2.2.2.1 h6) (hO.2.2.2.2.2.2.2.1 h7)]
    · rw [rW_nf (by omega), nfO (by omega)]
  · rw [if_neg c, if_neg c]
    obtain ⟨f, h1, h2, h3⟩ := rRefuses (nw := upd nw (24 + d) (nw (24 + d) + 1)) (why := 1) hm (by rw [ez]; exact hi) hd (by rw [ez]; exact h0)
    refine ⟨f, by rw [h1, pBs], by rw [h2, ez], by rw [h3, nfO (by omega)]⟩
theorem nFail_iN {m : Nat} {R N : Nat → Int32} {d : Nat} {v : Int32} (hm : m ≤ 8) (hz : nz N = N) (h : iN m N) (hd : d < m) (h0 : N d ≠ 0) (h6 : N d ≠ 6) : iN m (nFail m R N d v) := by
  unfold nFail
  split
  · exact nQ_iN hm h hd h0 h6
  · exact nRefuse_iN hm hd hz h h0
end

section
/-! settling; time of the bus -/
def nSt (d : Nat) (f : Nat → Int32) : Nat → Int32 := if f d = 1 then (if 0 < f (8 + d) - 1 then upd f (8 + d) (f (8 + d) - 1) else nQ (upd f (8 + d) (f (8 + d) - 1)) d) else f
def nSettle (m : Nat) (f : Nat → Int32) : Nat → Int32 := pF nSt m 0 f
theorem cSettle {m : Nat} {fr fu fp : Nat → Int32} (hm : m ≤ 8) : F_X0_settle fr (nI m) fu fp = some (nSettle m fr) := by
  unfold F_X0_settle nSettle
  refine pLoop0 (m := m) (L := fun n i a => FL_X0_settle_2 fr (nI m) fu fp n i a) (g := nSt) (fin := id) (fun n j a hj => ?_) (fun n a => ?_) 1000 _ (by omega)
  · show FL_X0_settle_2 fr (nI m) fu fp (n + 1) (nI j) a = _
    simp (disch := omega) only [FL_X0_settle_2, pIx, pCl, pLe, pLt, pEq, pNm, pS1, pA0, pA8, pA16, pA24, pA32, pA40, pA48, pA56, pA64, pA72, pA80, pA88, pBs, pE8, pb0, pb1, pbo, if_true, if_false, pIy, pbq, pNz, pIw, cQueue, nSt, pUs]
    rw [if_neg (by omega)]
    by_cases c : a j = 1 <;> by_cases c2 : 0 < a (8 + j) - 1 <;> simp [c, c2]
  · show FL_X0_settle_2 fr (nI m) fu fp (n + 1) (nI m) a = _
    simp (disch := omega) only [FL_X0_settle_2, pIx, pCl, pLe, pLt, pEq, pNm, pS1, pA0, pA8, pA16, pA24, pA32, pA40, pA48, pA56, pA64, pA72, pA80, pA88, pBs, pE8, pb0, pb1, pbo, if_true, if_false, pIy, pbq, pNz, pIw]
    rw [if_pos (Nat.le_refl m)]; rfl
theorem nSt_nz {d : Nat} {f : Nat → Int32} (hd : d < 8) : nz (nSt d f) = nSt d (nz f) := by
  unfold nSt
  simp (disch := omega) only [pNz]
  split
  · split
    · rw [nzU (by omega)]
    · rw [nQ_nz hd, nzU (by omega)]
  · rfl
theorem nSt_nf {d : Nat} {f : Nat → Int32} (hd : d < 8) : nf (nSt d f) = nf f := by
  unfold nSt
  split
  · split
    · rw [nfU (by omega)]
    · rw [nQ_nf hd, nfU (by omega)]
  · rfl
theorem nSettle_nz {m : Nat} {f : Nat → Int32} (hm : m ≤ 8) : nz (nSettle m f) = nSettle m (nz f) :=
  pF_map (fun _ _ => True) m 0 _ (fun i a _ hi _ => nSt_nz (by omega)) (fun _ _ _ _ _ => trivial) trivial
theorem nSettle_nf {m : Nat} {f : Nat → Int32} (hm : m ≤ 8) : nf (nSettle m f) = nf f :=
  pF_const (φ := nf) m 0 f (fun i a _ hi => nSt_nf (by omega))
theorem nQ_upd8 {N : Nat → Int32} {d : Nat} {v : Int32} (hd : d < 8) : nQ (upd N (8 + d) v) d = nQ N d := by
  funext k; simp only [nQ, nLow, upd]; grind
theorem nSt_iN {m : Nat} {N : Nat → Int32} {d : Nat} (hm : m ≤ 8) (h : iN m N) (hd : d < m) : iN m (nSt d N) := by
  unfold nSt
  by_cases c : N d = 1
  · rw [if_pos c]
    by_cases c2 : 0 < N (8 + d) - 1
    · rw [if_pos c2]
      have e0 : upd N (8 + d) (N (8 + d) - 1) d = N d := pUn (by omega)
      refine iN.one hm h hd (fun e j he hn hj => ?_) (by rw [c]; decide) (by rw [e0, c]; decide) (pUn (by omega)) ?_ (fun c' => ?_) (fun c' => by rw [c] at c'; exact absurd c' (by decide))
      · simp only [upd]; grind
      · have hO := h.2.1 d hd
        obtain ⟨h1, h2, h3, h4, h5, h6, h7, h8, h9⟩ := hO
        unfold dOK
        rw [e0, pUs, pUn (by omega), pUn (by omega), pUn (by omega), pUn (by omega), pUn (by omega), pUn (by omega), pUn (by omega), pUn (by omega)]
        exact ⟨h1, h2, fun _ => c2, fun q => absurd (Or.inl c) q, h5, h6, h7, h8, h9⟩
      · rw [e0, c] at c'; rcases c' with c' | c' | c' | c' <;> exact absurd c' (by decide)
    · rw [if_neg c2, nQ_upd8 (by omega)]
      exact nQ_iN hm h hd (by rw [c]; decide) (by rw [c]; decide)
  · rw [if_neg c]; exact h
theorem nSettle_iN {m : Nat} {N : Nat → Int32} (hm : m ≤ 8) (h : iN m N) : iN m (nSettle m N) := by
  have := pF_inv (g := nSt) (fun _ a => iN m a) m 0 N (fun i a _ hi hI => nSt_iN hm hI (by omega)) h
  exact this
def rSt (d : Nat) (f : Nat → Int32) : Nat → Int32 := if f d = 1 then (if f (8 + d) - 1 = 0 then rW (upd f (8 + d) (f (8 + d) - 1)) d else upd f (8 + d) (f (8 + d) - 1)) else f
theorem pos_dec {t : Int32} (h : 0 < t) : (t - 1 = 0) ↔ ¬ 0 < t - 1 := by
  rw [q_lt] at h
  have h0 : (0 : Int32).toInt = 0 := by decide
  have h1 : (1 : Int32).toInt = 1 := by decide
  have hr := Int32.toInt_lt t
  have e : (t - 1).toInt = t.toInt - 1 := by
    rw [Int32.toInt_sub, h1, Int.bmod_eq_of_le (by omega) (by omega)]
  rw [q_lt, q_eq, e, h0]
  omega
theorem rSt_nz {d : Nat} {f : Nat → Int32} (hd : d < 8) (h : dOK (nz f) d) : nz (rSt d f) = nSt d (nz f) := by
  unfold rSt nSt
  simp (disch := omega) only [pNz]
  by_cases c : f d = 1
  · have c' : nz f d = 1 := by rw [pNz (by omega)]; exact c
    have ht := h.2.2.1 (Or.inl c')
    rw [pNz (by omega)] at ht
    have hp := pos_dec ht
    rw [if_pos c, if_pos c]
    by_cases c2 : f (8 + d) - 1 = 0
    · rw [if_pos c2, if_neg (hp.mp c2), rW_nz hd, nzU (by omega)]
      apply rW_q hd
      · rw [pUn (by omega), pUn (by omega), pUn (by omega)]; exact h.2.2.2.2.2.1 (by rw [c']; decide)
      · rw [pUn (by omega)]; exact h.2.2.2.2.2.2.2.1 (by rw [c']; decide)
    · rw [if_neg c2, if_pos (Decidable.byContradiction (fun q => c2 (hp.mpr q))), nzU (by omega)]
  · rw [if_neg c, if_neg c]
theorem rSt_nf {d : Nat} {f : Nat → Int32} (hd : d < 8) : nf (rSt d f) = nf f := by
  unfold rSt
  split
  · split
    · rw [rW_nf hd, nfU (by omega)]
    · rw [nfU (by omega)]
  · rfl
theorem rSettles {m : Nat} {nw : Nat → Int32} (hm : m ≤ 8) (hi : iN m (nz nw)) : ∃ f, F_X10_settles (nI m) nw = some f ∧ nz f = nSettle m (nz nw) ∧ nf f = nf nw := by
  unfold F_X10_settles
  have hl := pLoop0 (m := m) (L := fun n i a => FL_X10_settles_2 (nI m) nw n i a) (g := rSt) (fin := id) (fun n j a hj => ?_) (fun n a => ?_) 1000 nw (by omega)
  · refine ⟨_, hl, ?_, ?_⟩
    · exact pF_map (fun _ N => iN m N) m 0 nw (fun i a _ hi hI => rSt_nz (by omega) (hI.2.1 i (by omega))) (fun i b _ hi hI => nSt_iN hm hI (by omega)) hi
    · exact pF_const (φ := nf) m 0 nw (fun i a _ hi => rSt_nf (by omega))
  · show FL_X10_settles_2 (nI m) nw (n + 1) (nI j) a = _
    simp (disch := omega) only [FL_X10_settles_2, pIx, pCl, pLe, pLt, pEq, pNm, pS1, pA0, pA8, pA16, pA24, pA32, pA40, pA48, pA56, pA64, pA72, pA80, pA88, pBs, pE8, pb0, pb1, pbo, if_true, if_false, pIy, pbq, pNz, pIw, rState, rWaits, rSt, pUs]
    rw [if_neg (by omega)]
    by_cases c : a j = 1 <;> by_cases c2 : a (8 + j) - 1 = 0 <;> simp [c, c2]
  · show FL_X10_settles_2 (nI m) nw (n + 1) (nI m) a = _
    simp (disch := omega) only [FL_X10_settles_2, pIx, pCl, pLe, pLt, pEq, pNm, pS1, pA0, pA8, pA16, pA24, pA32, pA40, pA48, pA56, pA64, pA72, pA80, pA88, pBs, pE8, pb0, pb1, pbo, if_true, if_false, pIy, pbq, pNz, pIw]
    rw [if_pos (Nat.le_refl m)]; rfl
/-! sums with one more -/
theorem pF_one {g g' : Nat → Int32 → Int32} {d : Nat} {x : Int32} (ha : ∀ e a b, g e (a + b) = g e a + b) (hd : ∀ a, g d a = a) (hd' : ∀ a, g' d a = a + x) : ∀ (k j : Nat) (a : Int32), (∀ e a, j ≤ e → e < j + k → e ≠ d → g' e a = g e a) → pF g' k j a = if j ≤ d ∧ d < j + k then pF g k j a + x else pF g k j a
  | 0, j, a, _ => by rw [if_neg (by omega)]; rfl
  | k + 1, j, a, h => by
    have add : ∀ (k j : Nat) (a b : Int32), pF g k j (a + b) = pF g k j a + b := by
      intro k
      induction k with
      | zero => intro j a b; rfl
      | succ k ih => intro j a b; show pF g k (j + 1) (g j (a + b)) = pF g k (j + 1) (g j a) + b; rw [ha, ih]
    show pF g' k (j + 1) (g' j a) = if _ then pF g k (j + 1) (g j a) + x else pF g k (j + 1) (g j a)
    have ih := pF_one ha hd hd' k (j + 1) (g' j a) (fun e a p q r => h e a (by omega) (by omega) r)
    rw [ih]
    by_cases c : j = d
    · subst c
      rw [if_neg (by omega), if_pos (by omega), hd', hd, add]
    · rw [h j a (by omega) (by omega) c]
      by_cases c2 : j + 1 ≤ d ∧ d < j + 1 + k
      · rw [if_pos c2, if_pos (by omega)]
      · rw [if_neg c2, if_neg (by omega)]
def zTimeC (m : Nat) (R : Nat → Int32) (T : Nat → Nat → Int32) (N : Nat → Int32) (d : Nat) (sp : Int32) : Bool := !decide (R 5 < zBus m T N + zBFor T d sp) && (decide (sp = 2) || !decide (R 6 < zHelp m T N (zAbv N d) + zHFor T d sp))
theorem cTime {m : Nat} {fr fu fp : Nat → Int32} {d c : Nat} (hm : m ≤ 8) (hi : iN m (nz fr)) (hd : d < m) (h0 : nz fr d ≠ 0) (hc : c ≤ 8) (hh : nz fr (32 + d) = nI c) : F_X0_timeSuffices fr (nI m) fu fp (nI d) = some (pb (zTimeC m fu (tP m fp) (nz fr) d (zSp (tP m fp) (nz fr) c d))) := by
  obtain ⟨r, hr⟩ := hi.r hm
  obtain ⟨b, hb, hab, -⟩ := zAbv_nI hm hr hd h0
  have hne : zAbv (nz fr) d ≠ -1 := by rw [hab, Ne, pNm (by omega)]; exact id
  unfold F_X0_timeSuffices zTimeC
  simp (disch := omega) only [cSpeed (m := m) (fr := fr) (fu := fu) (fp := fp) (d := d) (c := c) hm (by omega) hc hh, cBus hm hr hi.s hi.rn, cBFor, cAbv, cHelp hm hi.s hi.rn hne, cHFor, pBs]
  generalize zSp (tP m fp) (nz fr) c d = sp
  by_cases c1 : zBus m (tP m fp) (nz fr) + zBFor (tP m fp) d sp ≤ fu 5
  · have c1' : ¬ fu 5 < zBus m (tP m fp) (nz fr) + zBFor (tP m fp) d sp := by rw [q_lt]; rw [q_le] at c1; omega
    by_cases c2 : sp = 2 <;> by_cases c3 : fu 6 < zHelp m (tP m fp) (nz fr) (zAbv (nz fr) d) + zHFor (tP m fp) d sp <;> simp_all [pb]
  · have c1' : fu 5 < zBus m (tP m fp) (nz fr) + zBFor (tP m fp) d sp := by rw [q_lt]; rw [q_le] at c1; omega
    simp [c1, c1', pb]
theorem time_eq {m : Nat} {R : Nat → Int32} {T : Nat → Nat → Int32} {N N' : Nat → Int32} {d : Nat} {sp : Int32} (hd : d < m) (ha : ∀ e, e < m → e ≠ d → zAwk N' e = zAwk N e) (h1 : zAwk N' d = true) (h2 : zAwk N d = false) (h3 : ∀ e, e < m → e ≠ d → zAwk N e = true → zHlp N' e = zHlp N e ∧ N' (48 + e) = N (48 + e)) (hsp : N' (48 + d) = sp) (hs3 : sp = 0 ∨ sp = 1 ∨ sp = 2) (hab : zAbv N' d = zAbv N d) (hne : zAbv N d ≠ -1) : zTime m R T N' d = zTimeC m R T N d sp := by
  have hl : zHlp N' d = if sp = 2 then -1 else zAbv N d := by
    unfold zHlp; rw [hsp, hab]
    rcases hs3 with rfl | rfl | rfl <;> simp
  have eb : zBus m T N' = zBus m T N + zBFor T d sp := by
    unfold zBus
    have := pF_one (g := zBf T N) (g' := zBf T N') (d := d) (x := zBFor T d sp) (fun e a b => ?_) (fun a => ?_) (fun a => ?_) m 0 0 (fun e a _ he hn => ?_)
    · rw [this, if_pos (by omega)]
    · unfold zBf; split
      · rw [Int32.add_assoc, Int32.add_assoc, Int32.add_comm b]
      · rfl
    · unfold zBf; rw [h2]; rfl
    · unfold zBf zBFor
      rw [if_pos h1, hl]
      rcases hs3 with rfl | rfl | rfl
      · rw [if_neg (show ¬ (0 : Int32) = 2 from by decide)]; simp [hne, show ¬ (2 : Int32) ≤ 0 from by decide]
      · rw [if_neg (show ¬ (1 : Int32) = 2 from by decide)]; simp [hne, show ¬ (2 : Int32) ≤ 1 from by decide]
      · simp
    · unfold zBf
      rw [ha e (by omega) hn]
      by_cases c : zAwk N e = true
      · rw [if_pos c, if_pos c, (h3 e (by omega) hn c).1]
      · rw [if_neg c, if_neg c]
  have eh : ∀ z, zHlp N' d = z → zHelp m T N' z = zHelp m T N z + zHFor T d sp := fun z hz => by
    unfold zHelp
    have := pF_one (g := zHf T N z) (g' := zHf T N' z) (d := d) (x := zHFor T d sp) (fun e a b => ?_) (fun a => ?_) (fun a => ?_) m 0 0 (fun e a _ he hn => ?_)
    · rw [this, if_pos (by omega)]
    · unfold zHf; split
      · rw [Int32.add_assoc, Int32.add_assoc, Int32.add_comm b]
      · rfl
    · unfold zHf; rw [h2]; simp
    · unfold zHf zHFor
      rw [if_pos ⟨h1, hz⟩, hsp]
    · unfold zHf
      rw [ha e (by omega) hn]
      by_cases c : zAwk N e = true
      · obtain ⟨q1, q2⟩ := h3 e (by omega) hn c
        rw [q1, q2]
      · rw [if_neg (fun q => c q.1), if_neg (fun q => c q.1)]
  unfold zTime zTimeC
  rw [eb, eh _ rfl, hl]
  by_cases c : sp = 2
  · simp [c]
  · simp [c, hne]
end

section
/-! judging -/
def wRu (R : Nat → Int32) (t : Nat) : Prop := t ≤ 9 ∧ R 7 = nI t ∧ 0 < R 1 ∧ 0 < R 2 ∧ ∃ p, p ≤ 4 ∧ 0 < p ∧ R 0 = nI p
def wSp (m : Nat) (T : Nat → Nat → Int32) (N : Nat → Int32) : Prop := ∀ d, d < m → N d = 6 → ∀ c, c ≤ 8 → N (32 + d) = nI c → N (48 + d) = zSp T N c d
theorem cl_avoid {m : Nat} {N N' : Nat → Int32} {d : Nat} (hm : m ≤ 8) (hC : wC m N) (h4 : ∀ h, h < 8 → N' (32 + h) = N (32 + h)) (h6 : ∀ h, h < 8 → h ≠ d → N' (48 + h) = N (48 + h)) (hd : N d ≠ 6) : ∀ (k c : Nat), (c = 8 ∨ (c < m ∧ N c = 6)) → zCl N' (fun h => decide (N' (48 + h.toNatClampNeg) = 2)) k (nI c) = zCl N (fun h => decide (N (48 + h.toNatClampNeg) = 2)) k (nI c)
  | 0, _, _ => rfl
  | k + 1, c, hc => by
    rcases hc with rfl | ⟨h1, h2⟩
    · rw [zCl_8, zCl_8]
    · have hcd : c ≠ d := fun q => by subst q; exact hd h2
      rw [zCl_s (by omega), zCl_s (by omega), pCl (by omega), h6 c (by omega) hcd, h4 c (by omega)]
      split
      · rfl
      · rcases hC c h1 (Or.inr (Or.inr (Or.inr h2))) with h3 | ⟨b, hb, h3, h5⟩
        · rw [h3]; exact cl_avoid hm hC h4 h6 hd k 8 (Or.inl rfl)
        · rw [h3]; exact cl_avoid hm hC h4 h6 hd k b (Or.inr ⟨hb, h5⟩)
theorem abv_avoid {m : Nat} {N N' : Nat → Int32} {d e : Nat} (hm : m ≤ 8) (hC : wC m N) (h4 : ∀ h, h < 8 → N' (32 + h) = N (32 + h)) (h6 : ∀ h, h < 8 → h ≠ d → N' (48 + h) = N (48 + h)) (hd : N d ≠ 6) (he : e < m) (hs : runs36 (N e)) : zAbv N' e = zAbv N e := by
  unfold zAbv
  rw [h4 e (by omega)]
  rcases hC e he hs with h3 | ⟨b, hb, h3, h5⟩
  · rw [h3]; exact cl_avoid hm hC h4 h6 hd 8 8 (Or.inl rfl)
  · rw [h3]; exact cl_avoid hm hC h4 h6 hd 8 b (Or.inr ⟨hb, h5⟩)
theorem zSp_3 {m : Nat} {T : Nat → Nat → Int32} {N : Nat → Int32} {c d : Nat} (hT : wT m T) (hd : d < m) : zSp T N c d = 0 ∨ zSp T N c d = 1 ∨ zSp T N c d = 2 := by
  obtain ⟨-, ⟨s, hs, e⟩, -⟩ := hT d hd
  unfold zSp
  rw [e]
  have h : ∀ s : Fin 3, (nI s.1 = 0 ∨ nI s.1 = 1 ∨ nI s.1 = 2) ∧ ((if nI s.1 < 1 then nI s.1 else 1) = 0 ∨ (if nI s.1 < 1 then nI s.1 else 1) = 1 ∨ (if nI s.1 < 1 then nI s.1 else 1) = 2) := by decide
  split
  · exact (h ⟨s, by omega⟩).1
  · exact (h ⟨s, by omega⟩).2
/-- the hub of one that runs -/
theorem hub36 {m : Nat} {N : Nat → Int32} {d : Nat} (hm : m ≤ 8) (hC : wC m N) (hd : d < m) (hs : runs36 (N d)) : ∃ c, c ≤ 8 ∧ N (32 + d) = nI c ∧ (c = 8 ∨ (c < m ∧ N c = 6)) := by
  rcases hC d hd hs with h3 | ⟨b, hb, h3, h5⟩
  · exact ⟨8, by omega, h3, Or.inl rfl⟩
  · exact ⟨b, by omega, h3, Or.inr ⟨hb, h5⟩⟩
def zWhy (m t : Nat) (R : Nat → Int32) (T : Nat → Nat → Int32) (N : Nat → Int32) (d c : Nat) : Int32 := if zDepth N d ≤ 4 then (if zAddr m t N = -1 then 5 else if zPow m R T N c (zTakes T N d) (nI d) = true then (if zTimeC m R T N d (zSp T N c d) = true then 0 else 3) else 2) else 4
theorem cWhy {m t : Nat} {fr fu fp : Nat → Int32} {d c : Nat} (hm : m ≤ 8) (hR : wRu fu t) (hi : iN m (nz fr)) (hd : d < m) (h0 : nz fr d ≠ 0) (hc : c ≤ 8) (hh : nz fr (32 + d) = nI c) : F_X0_reasonAgainst fr (nI m) fu fp (nI d) = some (zWhy m t fu (tP m fp) (nz fr) d c) := by
  unfold F_X0_reasonAgainst zWhy
  have ht := hR.1
  have hcm := hi.hm hm hd h0 hc hh
  simp (disch := omega) only [cDepth, cAddr hm (by omega : t ≤ 200) hR.2.1 hi.ad, cTakes, cPow hm (by omega : d < m) hc hcm hh, cTime hm hi hd h0 hc hh, pBs, pb0]
  by_cases c1 : zDepth (nz fr) d ≤ 4 <;> by_cases c2 : zAddr m t (nz fr) = -1 <;> by_cases c3 : zPow m fu (tP m fp) (nz fr) c (zTakes (tP m fp) (nz fr) d) (nI d) = true <;> by_cases c4 : zTimeC m fu (tP m fp) (nz fr) d (zSp (tP m fp) (nz fr) c d) = true <;> simp [c1, c2, c3, c4]
theorem zTakes_9 {m : Nat} {T : Nat → Nat → Int32} {N : Nat → Int32} {d : Nat} (hT : wT m T) (hd : d < m) : ∃ u, u ≤ 9 ∧ zTakes T N d = nI u := by
  obtain ⟨-, -, ⟨u, hu, e⟩, -⟩ := hT d hd
  unfold zTakes zNeed
  split
  · exact ⟨0, by omega, rfl⟩
  · split
    · exact ⟨0, by omega, rfl⟩
    · exact ⟨u, hu, e⟩
theorem zLeft_out {m : Nat} {R : Nat → Int32} {T : Nat → Nat → Int32} {N : Nat → Int32} {h d : Nat} (hm : m ≤ 8) (hd : d < m) (hn : N d ≠ 6) : zLeft m R T N h (-1) = zLeft m R T N h (nI d) := by
  unfold zLeft
  apply pF_congr
  intro i a _ hi
  unfold zLf
  by_cases c : i = d
  · subst c; simp [hn]
  · simp (disch := omega) only [pNm, pEq, c]
/-- the reference's test of power is the program's -/
theorem pow_r {m : Nat} {R : Nat → Int32} {T : Nat → Nat → Int32} {N : Nat → Int32} {c : Nat} {u out : Int32} (hu : ∃ k, k ≤ 9 ∧ u = nI k) : (¬ zGv R N (nI c) < u ∧ u ≤ (if c = 8 ∨ N (72 + c) = 1 then 1000000 else zLeft m R T N c out)) ↔ zPow m R T N c u out = true := by
  obtain ⟨k, hk, rfl⟩ := hu
  unfold zPow
  by_cases c1 : c = 8 ∨ N (72 + c) = 1
  · rw [if_pos c1]
    have h1 : nI k ≤ 1000000 := (pLe (a := k) (b := 1000000) (by omega) (by decide)).mpr (by omega)
    have h2 : (decide (c = 8) || decide (N (72 + c) = 1)) = true := by simpa using c1
    rw [h2]
    simp [h1]
  · rw [if_neg c1]
    have h2 : (decide (c = 8) || decide (N (72 + c) = 1)) = false := by simpa using c1
    rw [h2]
    have h3 : nI k ≤ zLeft m R T N c out ↔ ¬ zLeft m R T N c out < nI k := by rw [q_le, q_lt]; omega
    rw [h3]
    simp
theorem rTimeJ {m : Nat} {ru td nw : Nat → Int32} {d : Nat} {sp : Int32} (hm : m ≤ 8) (hi : iN m (nz nw)) (hd : d < m) (h5 : nz nw d = 5) (hs3 : sp = 0 ∨ sp = 1 ∨ sp = 2) : F_X10_hasTime (nI m) ru td (upd (upd nw (48 + d) sp) d 6) (nI d) = some (pb (zTimeC m ru (tT m td) (nz nw) d sp)) := by
  have hO := hi.2.1 d hd
  have h6 := hO.2.2.2.2.2.1 (by rw [h5]; decide)
  have hC := hi.2.2
  have hqq := hi.q
  obtain ⟨⟨L, hL⟩, -⟩ := hi
  have en : nz (upd (upd nw (48 + d) sp) d 6) = upd (upd (nz nw) (48 + d) sp) d 6 := by rw [nzU (by omega), nzU (by omega)]
  have k32 : ∀ h, h < 8 → upd (upd (nz nw) (48 + d) sp) d 6 (32 + h) = nz nw (32 + h) := fun h hh => by simp only [upd]; grind
  have k48 : ∀ h, h < 8 → h ≠ d → upd (upd (nz nw) (48 + d) sp) d 6 (48 + h) = nz nw (48 + h) := fun h hh hn => by simp only [upd]; grind
  have k0 : ∀ h, h < 8 → h ≠ d → upd (upd (nz nw) (48 + d) sp) d 6 h = nz nw h := fun h hh hn => by simp only [upd]; grind
  have k88 : ∀ h, h < 8 → upd (upd (nz nw) (48 + d) sp) d 6 (88 + h) = nz nw (88 + h) := fun h hh => by simp only [upd]; grind
  have kd : upd (upd (nz nw) (48 + d) sp) d 6 d = 6 := pUs
  have kds : upd (upd (nz nw) (48 + d) sp) d 6 (48 + d) = sp := by simp only [upd]; grind
  have hL' : wL m (upd (upd (nz nw) (48 + d) sp) d 6) L := hL.keep (fun e he => by
    by_cases c : e = d
    · subst c; rw [kd, h5]; exact ⟨fun _ => by decide, fun _ => by decide⟩
    · rw [k0 e (by omega) c]) (fun e he => k32 e (by omega))
  have hq' : wQ m (upd (upd (nz nw) (48 + d) sp) d 6) := fun e he hr => by
    by_cases c : e = d
    · subst c; rw [kd]; decide
    · rw [k48 e (by omega) c] at hr
      rw [k0 e (by omega) c]
      exact hqq e he hr
  rw [rTime (nw := upd (upd nw (48 + d) sp) d 6) hm (by rw [en]; exact hL'.r hm) (by rw [en]; exact hq') hd, en]
  have hne : zAbv (nz nw) d ≠ -1 := by
    obtain ⟨b, hb, hab, -⟩ := zAbv_nI hm (hL.r hm) hd (by rw [h5]; decide)
    rw [hab, Ne, pNm (by omega)]; exact id
  have g1 : ∀ e, e < m → e ≠ d → zAwk (upd (upd (nz nw) (48 + d) sp) d 6) e = zAwk (nz nw) e := fun e he hn => by
    unfold zAwk; rw [k0 e (by omega) hn, k88 e (by omega)]
  have g2 : zAwk (upd (upd (nz nw) (48 + d) sp) d 6) d = true := by
    unfold zAwk; rw [kd, k88 d (by omega), h6.2.2]; decide
  have g3 : zAwk (nz nw) d = false := by unfold zAwk; rw [h5]; rfl
  have g4 : ∀ e, e < m → e ≠ d → zAwk (nz nw) e = true → zHlp (upd (upd (nz nw) (48 + d) sp) d 6) e = zHlp (nz nw) e ∧ upd (upd (nz nw) (48 + d) sp) d 6 (48 + e) = nz nw (48 + e) := fun e he hn hw => by
    have e6 := zAwk_6 hw
    refine ⟨?_, k48 e (by omega) hn⟩
    unfold zHlp
    rw [k48 e (by omega) hn, abv_avoid hm hC k32 k48 (by rw [h5]; decide) he (Or.inr (Or.inr (Or.inr e6)))]
  have g5 := abv_avoid hm hC k32 k48 (by rw [h5]; decide) hd (by rw [h5]; exact Or.inr (Or.inr (Or.inl rfl)))
  rw [time_eq (N := nz nw) hd g1 g2 g3 g4 kds hs3 g5 hne]
theorem rWhy {m t : Nat} {ru td nw : Nat → Int32} {d c : Nat} (hm : m ≤ 8) (hR : wRu ru t) (hT : wT m (tT m td)) (hi : iN m (nz nw)) (hd : d < m) (h5 : nz nw d = 5) (hc : c ≤ 8) (hh : nz nw (32 + d) = nI c) (hc6 : c = 8 ∨ (c < m ∧ nz nw c = 6)) : F_X10_whyRefused (nI m) ru td nw (nI d) = some (zWhy m t ru (tT m td) (nz nw) d c, nw) := by
  obtain ⟨r, hr⟩ := hi.r hm
  have ht := hR.1
  have hh' : nw (32 + d) = nI c := by rw [← hh, pNz (by omega)]
  have h5' : nw d = 5 := by rw [← h5, pNz (by omega)]
  have h6 := (hi.2.1 d hd).2.2.2.2.2.1 (by rw [h5]; decide)
  have h48 : nw (48 + d) = -1 := by rw [← h6.1, pNz (by omega)]
  have hub : c = 8 ∨ (c < m ∧ ∃ b, b ≤ 8 ∧ nz nw (32 + c) = nI b) := by
    rcases hc6 with q | ⟨q1, q2⟩
    · exact Or.inl q
    · exact Or.inr ⟨q1, hi.h hm c q1 (by rw [q2]; decide)⟩
  have back : ∀ sp, upd (upd (upd (upd nw (48 + d) sp) d 6) d 5) (48 + d) (-1) = nw := fun sp => by
    funext k; simp only [upd]; grind
  have hw := fun sp hs => rTimeJ (ru := ru) (td := td) (nw := nw) (sp := sp) hm hi hd h5 hs
  have hs3 := zSp_3 (N := nz nw) (c := c) hT hd
  have hp := pow_r (m := m) (R := ru) (T := tT m td) (N := nz nw) (c := c) (out := -1) (zTakes_9 (N := nz nw) hT hd)
  have hpo : zPow m ru (tT m td) (nz nw) c (zTakes (tT m td) (nz nw) d) (-1) = zPow m ru (tT m td) (nz nw) c (zTakes (tT m td) (nz nw) d) (nI d) := by
    unfold zPow; rw [zLeft_out hm hd (by rw [h5]; decide)]
  unfold F_X10_whyRefused zWhy
  simp (disch := omega) only [pIx, pCl, pLe, pLt, pEq, pNm, pS1, pA0, pA8, pA16, pA24, pA32, pA40, pA48, pA56, pA64, pA72, pA80, pA88, pBs, pE8, pb0, pb1, pbo, if_true, if_false, pIy, pbq, pNz, pIw, hh', rDepth hm hr hi.f hd, rAddr hm (by omega : t ≤ 200) hR.2.1, rTakes (m := m), rGives, rLeft hm hc hub, rSpeed, rTold1 (m := m)]
  by_cases c1 : zDepth (nz nw) d ≤ 4
  · rw [if_pos c1, if_pos c1]
    by_cases c2 : zAddr m t (nz nw) = -1
    · rw [if_pos c2, if_pos c2]
    · rw [if_neg c2, if_neg c2]
      have hp' : (¬ zGv ru (nz nw) (nI c) < zTakes (tT m td) (nz nw) d ∧ zTakes (tT m td) (nz nw) d ≤ (if c = 8 ∨ nw (72 + c) = 1 then 1000000 else zLeft m ru (tT m td) (nz nw) c (-1))) ↔ zPow m ru (tT m td) (nz nw) c (zTakes (tT m td) (nz nw) d) (nI d) = true := by
        rw [← hpo, ← hp, pNz (by omega)]
      by_cases c3 : zPow m ru (tT m td) (nz nw) c (zTakes (tT m td) (nz nw) d) (nI d) = true
      · obtain ⟨p1, p2⟩ := hp'.mpr c3
        rw [if_neg p1, if_pos p2, if_pos c3]
        by_cases cs : zSpd (nz nw) c = 2
        · have es : zSp (tT m td) (nz nw) c d = tT m td d 1 := if_pos cs
          rw [es] at hs3 ⊢
          rw [if_pos cs, hw _ hs3, pBs]
          simp only [pb0, back]
          by_cases c4 : zTimeC m ru (tT m td) (nz nw) d (tT m td d 1) = true <;> simp [c4]
        · have es : zSp (tT m td) (nz nw) c d = if tT m td d 1 < 1 then tT m td d 1 else 1 := if_neg cs
          rw [es] at hs3 ⊢
          rw [if_neg cs, hw _ hs3, pBs]
          simp only [pb0, back]
          by_cases c4 : zTimeC m ru (tT m td) (nz nw) d (if tT m td d 1 < 1 then tT m td d 1 else 1) = true <;> simp [c4]
      · rw [if_neg c3]
        by_cases p1 : zGv ru (nz nw) (nI c) < zTakes (tT m td) (nz nw) d
        · rw [if_pos p1]
        · rw [if_neg p1, if_neg (fun p2 => c3 (hp'.mp ⟨p1, p2⟩))]
  · rw [if_neg c1, if_neg c1]
end

section
/-! judging, going on -/
def k6 (m : Nat) (N N' : Nat → Int32) : Prop := ∀ e, e < m → N' e = 6 → N e = 6 ∧ N' (48 + e) = N (48 + e)
theorem k6.tr {m : Nat} {N N' N'' : Nat → Int32} (h : k6 m N N') (h' : k6 m N' N'') : k6 m N N'' := fun e he h6 => by
  obtain ⟨a, b⟩ := h' e he h6
  obtain ⟨a', b'⟩ := h e he a
  exact ⟨a', b.trans b'⟩
theorem wSp.keep {m : Nat} {T : Nat → Nat → Int32} {N N' : Nat → Int32} (hm : m ≤ 8) (h : wSp m T N) (hC : wC m N') (h1 : k6 m N N') (h4 : ∀ e, e < m → N' (32 + e) = N (32 + e)) : wSp m T N' := by
  intro e he h6 c hc hh
  obtain ⟨a, b⟩ := h1 e he h6
  rw [b, h e he a c hc (by rw [← h4 e he]; exact hh)]
  have key : zSpd N c = zSpd N' c := by
    unfold zSpd
    by_cases c8 : c = 8
    · rw [if_pos c8, if_pos c8]
    · rw [if_neg c8, if_neg c8]
      rcases hC e he (Or.inr (Or.inr (Or.inr h6))) with q | ⟨q, hq, q1, q2⟩
      · rw [hh] at q; exact absurd ((nI_eq (a := c) (b := 8) (by omega) (by omega)).mp q) c8
      · rw [hh] at q1
        have := (nI_eq (a := c) (b := q) (by omega) (by omega)).mp q1
        subst this
        exact (h1 c hq q2).2.symm
  unfold zSp
  rw [key]
theorem zSp_congr {T : Nat → Nat → Int32} {N N' : Nat → Int32} {c d : Nat} (h : zSpd N' c = zSpd N c) : zSp T N c d = zSp T N' c d := by unfold zSp; rw [h]
theorem nQ_k6 {m : Nat} {N : Nat → Int32} {d : Nat} (hm : m ≤ 8) (hd : d < m) : k6 m N (nQ N d) := fun e he h6 => by
  by_cases c : e = d
  · subst c; rw [nQ_0 (by omega)] at h6; exact absurd h6 (by decide)
  · have h0 := nQ_same (N := N) (d := d) (e := e) (j := 0) (by omega) (by omega) c (by decide)
    have h48 := nQ_same (N := N) (d := d) (e := e) (j := 6) (by omega) (by omega) c (by decide)
    simp only [Nat.mul_zero, Nat.zero_add, Nat.reduceMul] at h0 h48
    rw [h0] at h6
    exact ⟨h6, h48⟩
theorem nRefuse_k6 {m : Nat} {N : Nat → Int32} {d : Nat} {why : Int32} (hm : m ≤ 8) (hd : d < m) : k6 m N (nRefuse m N d why) := by
  have := pF_inv (g := cRf (nI d)) (fun _ a => k6 m N a) m 0 (nRef0 N d why) (fun i a _ hi hI => ?_) (fun e he h6 => ?_)
  · exact this
  · show k6 m N (cRf (nI d) i a)
    unfold cRf
    split
    · exact hI.tr (nQ_k6 hm (by omega))
    · exact hI
  · by_cases c : e = d
    · subst c; rw [nRef0_0 (by omega)] at h6; exact absurd h6 (by decide)
    · have h0 := nRef0_same (N := N) (why := why) (d := d) (e := e) (j := 0) (by omega) (by omega) c (by decide)
      have h48 := nRef0_same (N := N) (why := why) (d := d) (e := e) (j := 6) (by omega) (by omega) c (by decide)
      simp only [Nat.mul_zero, Nat.zero_add, Nat.reduceMul] at h0 h48
      rw [h0] at h6
      exact ⟨h6, h48⟩
/-- all that holds of the bus -/
def iT (m : Nat) (T : Nat → Nat → Int32) (N : Nat → Int32) : Prop := iN m N ∧ wSp m T N ∧ nz N = N
theorem nQ_iT {m : Nat} {T : Nat → Nat → Int32} {N : Nat → Int32} {d : Nat} (hm : m ≤ 8) (h : iT m T N) (hd : d < m) (h0 : N d ≠ 0) (h6 : N d ≠ 6) : iT m T (nQ N d) := by
  have hi := nQ_iN hm h.1 hd h0 h6
  exact ⟨hi, h.2.1.keep hm hi.2.2 (nQ_k6 hm hd) (fun e he => nQ_32 (by omega) (by omega)), by rw [nQ_nz (by omega), h.2.2]⟩
theorem nRefuse_32 {m : Nat} {N : Nat → Int32} {d : Nat} {why : Int32} (hm : m ≤ 8) (hd : d < m) (h : iN m N) (hz : nz N = N) (h0 : N d ≠ 0) : ∀ c, c < 8 → nRefuse m N d why (32 + c) = N (32 + c) := fun c hc => by
  obtain ⟨-, -, hH, -⟩ := nRefuse_I (why := why) hm hd hz ⟨h.1, h.2.1⟩ h0
  rw [hH c hc, nRef0_32 (by omega) hc]
theorem nRefuse_iT {m : Nat} {T : Nat → Nat → Int32} {N : Nat → Int32} {d : Nat} {why : Int32} (hm : m ≤ 8) (h : iT m T N) (hd : d < m) (h0 : N d ≠ 0) : iT m T (nRefuse m N d why) := by
  have hi := nRefuse_iN (why := why) hm hd h.2.2 h.1 h0
  exact ⟨hi, h.2.1.keep hm hi.2.2 (nRefuse_k6 hm hd) (fun e he => nRefuse_32 hm hd h.1 h.2.2 h0 e (by omega)), by rw [nRefuse_nz hm (by omega), h.2.2]⟩
theorem nFail_iT {m : Nat} {R : Nat → Int32} {T : Nat → Nat → Int32} {N : Nat → Int32} {d : Nat} {v : Int32} (hm : m ≤ 8) (h : iT m T N) (hd : d < m) (h0 : N d ≠ 0) (h6 : N d ≠ 6) : iT m T (nFail m R N d v) := by
  unfold nFail
  split
  · exact nQ_iT hm h hd h0 h6
  · exact nRefuse_iT hm h hd h0
theorem nSt_iT {m : Nat} {T : Nat → Nat → Int32} {N : Nat → Int32} {d : Nat} (hm : m ≤ 8) (h : iT m T N) (hd : d < m) : iT m T (nSt d N) := by
  have hi := nSt_iN hm h.1 hd
  refine ⟨hi, h.2.1.keep hm hi.2.2 (fun e he h6 => ?_) (fun e he => ?_), by rw [nSt_nz (by omega), h.2.2]⟩
  · unfold nSt at h6 ⊢
    by_cases c : N d = 1
    · rw [if_pos c] at h6 ⊢
      by_cases c2 : 0 < N (8 + d) - 1
      · rw [if_pos c2] at h6 ⊢
        rw [pUn (by omega)] at h6 ⊢
        exact ⟨h6, rfl⟩
      · rw [if_neg c2, nQ_upd8 (by omega)] at h6 ⊢
        exact nQ_k6 hm hd e he h6
    · rw [if_neg c] at h6 ⊢; exact ⟨h6, rfl⟩
  · unfold nSt
    split
    · split
      · exact pUn (by omega)
      · rw [nQ_32 (by omega) (by omega), pUn (by omega)]
    · rfl
theorem nSettle_iT {m : Nat} {T : Nat → Nat → Int32} {N : Nat → Int32} (hm : m ≤ 8) (h : iT m T N) : iT m T (nSettle m N) :=
  pF_inv (g := nSt) (fun _ a => iT m T a) m 0 N (fun i a _ hi hI => nSt_iT hm hI (by omega)) h
def nConf (f : Nat → Int32) (d : Nat) (a sp : Int32) : Nat → Int32 := upd (upd (nLow f d 6) (56 + d) a) (48 + d) sp
theorem nConf_nz {f : Nat → Int32} {d : Nat} {a sp : Int32} (hd : d < 8) : nz (nConf f d a sp) = nConf (nz f) d a sp := by
  unfold nConf; simp (disch := omega) only [nzU, nLow_nz]
theorem nConf_nf {f : Nat → Int32} {d : Nat} {a sp : Int32} (hd : d < 8) : nf (nConf f d a sp) = nf f := by
  unfold nConf; simp (disch := omega) only [nfU, nLow_nf]
theorem nConf_same {N : Nat → Int32} {d e j : Nat} {a sp : Int32} (hd : d < 8) (he : e < 8) (hn : e ≠ d) (hj : j < 12) : nConf N d a sp (8 * j + e) = N (8 * j + e) := by
  simp only [nConf, nLow, upd]; grind
theorem nConf_32 {N : Nat → Int32} {d c : Nat} {a sp : Int32} (hd : d < 8) (hc : c < 8) : nConf N d a sp (32 + c) = N (32 + c) := by simp only [nConf, nLow, upd]; grind
theorem nConf_0 {N : Nat → Int32} {d : Nat} {a sp : Int32} (hd : d < 8) : nConf N d a sp d = 6 := by simp only [nConf, nLow, upd]; grind
theorem nConf_48 {N : Nat → Int32} {d : Nat} {a sp : Int32} (hd : d < 8) : nConf N d a sp (48 + d) = sp := by simp only [nConf, nLow, upd]; grind
theorem nConf_iT {m : Nat} {T : Nat → Nat → Int32} {N : Nat → Int32} {d c : Nat} {a : Int32} (hm : m ≤ 8) (hT : wT m T) (h : iT m T N) (hd : d < m) (h5 : N d = 5) (hc : c ≤ 8) (hh : N (32 + d) = nI c) (hc6 : c = 8 ∨ (c < m ∧ N c = 6)) : iT m T (nConf N d a (zSp T N c d)) := by
  have hs3 := zSp_3 (N := N) (c := c) hT hd
  have hO := h.1.2.1 d hd
  have k0 : ∀ e, e < m → e ≠ d → nConf N d a (zSp T N c d) e = N e := fun e he hn => by
    have := nConf_same (N := N) (a := a) (sp := zSp T N c d) (d := d) (e := e) (j := 0) (by omega) (by omega) hn (by decide); simpa using this
  have k48 : ∀ e, e < m → e ≠ d → nConf N d a (zSp T N c d) (48 + e) = N (48 + e) := fun e he hn => nConf_same (j := 6) (by omega) (by omega) hn (by decide)
  have hi : iN m (nConf N d a (zSp T N c d)) := by
    refine iN.one hm h.1 hd (fun e j he hn hj => nConf_same (by omega) (by omega) hn hj) (by rw [h5]; decide) (by rw [nConf_0 (by omega)]; decide) (nConf_32 (by omega) (by omega)) ?_ (fun _ => h.1.2.2 d hd (by rw [h5]; exact Or.inr (Or.inr (Or.inl rfl)))) (fun q => by rw [h5] at q; exact absurd q (by decide))
    have e1 : nConf N d a (zSp T N c d) (8 + d) = 0 := by simp only [nConf, nLow, upd]; grind
    have e2 : nConf N d a (zSp T N c d) (16 + d) = 0 := by simp only [nConf, nLow, upd]; grind
    have e8 : nConf N d a (zSp T N c d) (64 + d) = 0 := by simp only [nConf, nLow, upd]; grind
    have e9 : nConf N d a (zSp T N c d) (72 + d) = N (72 + d) := by simp only [nConf, nLow, upd]; grind
    have e11 : nConf N d a (zSp T N c d) (88 + d) = 0 := by simp only [nConf, nLow, upd]; grind
    unfold dOK
    rw [nConf_0 (by omega), e1, e2, nConf_48 (by omega), e8, e9, e11]
    exact ⟨⟨6, by decide, rfl⟩, fun q => absurd q (by decide), fun q => absurd q (by decide), fun _ => rfl, fun _ => rfl, fun q => absurd rfl q, fun _ => ⟨hs3, Or.inl rfl⟩, fun _ => rfl, hO.2.2.2.2.2.2.2.2⟩
  refine ⟨hi, fun e he h6 b hb hhb => ?_, by rw [nConf_nz (by omega), h.2.2]⟩
  rw [nConf_32 (by omega) (by omega)] at hhb
  by_cases ce : e = d
  · subst ce
    rw [hh] at hhb
    have := (nI_eq (a := c) (b := b) (by omega) (by omega)).mp hhb
    subst this
    rw [nConf_48 (by omega)]
    have : zSpd (nConf N e a (zSp T N c e)) c = zSpd N c := by
      unfold zSpd
      rcases hc6 with q | ⟨q1, q2⟩
      · rw [if_pos q, if_pos q]
      · rw [if_neg (by omega), if_neg (by omega), k48 c q1 (fun q => by subst q; rw [h5] at q2; exact absurd q2 (by decide))]
    exact zSp_congr this
  · rw [k0 e he ce] at h6
    rw [k48 e he ce, h.2.1 e he h6 b hb hhb]
    have : zSpd (nConf N d a (zSp T N c d)) b = zSpd N b := by
      unfold zSpd
      by_cases c8 : b = 8
      · rw [if_pos c8, if_pos c8]
      · rw [if_neg c8, if_neg c8]
        rcases h.1.2.2 e he (Or.inr (Or.inr (Or.inr h6))) with q | ⟨q, hq, q1, q2⟩
        · rw [hhb] at q; exact absurd ((nI_eq (a := b) (b := 8) (by omega) (by omega)).mp q) c8
        · rw [hhb] at q1
          have := (nI_eq (a := b) (b := q) (by omega) (by omega)).mp q1
          subst this
          exact k48 b hq (fun q => by subst q; rw [h5] at q2; exact absurd q2 (by decide))
    exact zSp_congr this
def nJudge (m t : Nat) (R : Nat → Int32) (T : Nat → Nat → Int32) (N : Nat → Int32) (d c : Nat) : Nat → Int32 := if zWhy m t R T N d c = 0 then nConf N d (zAddr m t N) (zSp T N c d) else nRefuse m N d (zWhy m t R T N d c)
theorem nJudge_iT {m t : Nat} {R : Nat → Int32} {T : Nat → Nat → Int32} {N : Nat → Int32} {d c : Nat} (hm : m ≤ 8) (hT : wT m T) (h : iT m T N) (hd : d < m) (h5 : N d = 5) (hc : c ≤ 8) (hh : N (32 + d) = nI c) (hc6 : c = 8 ∨ (c < m ∧ N c = 6)) : iT m T (nJudge m t R T N d c) := by
  unfold nJudge
  split
  · exact nConf_iT hm hT h hd h5 hc hh hc6
  · exact nRefuse_iT hm h hd (by rw [h5]; decide)
theorem who_congr {m : Nat} {N N' : Nat → Int32} {d : Nat} {z : Int32} (h : ∀ e, e < m → e ≠ d → N' e = N e ∧ N' (56 + e) = N (56 + e)) (h1 : N' (56 + d) = 0) (h2 : N d ≠ 6) (hz : z ≠ 0) : zWho m N' z = zWho m N z := by
  unfold zWho
  refine pFd_congr m 0 (fun e _ he => ?_)
  by_cases c : e = d
  · subst c
    have : ¬ (0 : Int32) = z := fun q => hz q.symm
    simp [h1, h2, this]
  · obtain ⟨a, b⟩ := h e (by omega) c
    rw [a, b]
theorem addr_congr {m t : Nat} {N N' : Nat → Int32} {d : Nat} (ht : t ≤ 200) (h : ∀ e, e < m → e ≠ d → N' e = N e ∧ N' (56 + e) = N (56 + e)) (h1 : N' (56 + d) = 0) (h2 : N d ≠ 6) : zAddr m t N' = zAddr m t N := by
  unfold zAddr
  refine pFd_congr t 1 (fun a h3 h4 => ?_)
  rw [who_congr h h1 h2 (by rw [Ne, pE0z (by omega)]; omega)]
theorem cConclude {m t : Nat} {fr fu fp : Nat → Int32} {d c : Nat} (hm : m ≤ 8) (hR : wRu fu t) (hi : iN m (nz fr)) (hd : d < m) (h5 : nz fr d = 5) (hc : c ≤ 8) (hh : nz fr (32 + d) = nI c) (hc6 : c = 8 ∨ (c < m ∧ nz fr c = 6)) : ∃ f, F_X0_conclude fr (nI m) fu fp (nI d) (zWhy m t fu (tP m fp) (nz fr) d c) = some f ∧ nz f = nJudge m t fu (tP m fp) (nz fr) d c ∧ nf f = nf fr := by
  unfold F_X0_conclude nJudge
  by_cases c0 : zWhy m t fu (tP m fp) (nz fr) d c = 0
  · rw [if_pos c0, if_pos c0]
    have ht := hR.1
    have e1 : nz (nLow fr d 6) = nLow (nz fr) d 6 := nLow_nz (by omega)
    have s0 : ∀ e, e < m → e ≠ d → nLow (nz fr) d 6 e = nz fr e ∧ nLow (nz fr) d 6 (56 + e) = nz fr (56 + e) := fun e he hn => by
      constructor <;> simp (disch := omega) only [nLow, pUn]
    have s1 : nLow (nz fr) d 6 (56 + d) = 0 := by simp only [nLow, upd]; grind
    have ha : wAd m (nz (nLow fr d 6)) := fun e he h6 => by
      rw [e1] at h6 ⊢
      by_cases ce : e = d
      · subst ce; exact s1
      · rw [(s0 e he ce).1] at h6
        rw [(s0 e he ce).2]; exact hi.ad e he h6
    have ead := addr_congr (t := t) (by omega) s0 s1 (by rw [h5]; decide)
    have hh2 : nz (upd (nLow fr d 6) (56 + d) (zAddr m t (nz fr))) (32 + d) = nI c := by
      rw [nzU (by omega), e1, ← hh]; simp only [nLow, upd]; grind
    have hsp : zSp (tP m fp) (nz (upd (nLow fr d 6) (56 + d) (zAddr m t (nz fr)))) c d = zSp (tP m fp) (nz fr) c d := by
      have : zSpd (nz (upd (nLow fr d 6) (56 + d) (zAddr m t (nz fr)))) c = zSpd (nz fr) c := by
        rw [nzU (by omega), e1]
        unfold zSpd
        rcases hc6 with q | ⟨q1, q2⟩
        · rw [if_pos q, if_pos q]
        · rw [if_neg (by omega), if_neg (by omega)]
          have : c ≠ d := fun q => by subst q; rw [h5] at q2; exact absurd q2 (by decide)
          simp only [nLow, upd]; grind
      unfold zSp; rw [this]
    simp (disch := omega) only [pIx, pCl, pLe, pLt, pEq, pNm, pS1, pA0, pA8, pA16, pA24, pA32, pA40, pA48, pA56, pA64, pA72, pA80, pA88, pBs, pE8, pb0, pb1, pbo, if_true, if_false, pIy, pbq, pNz, pIw, cLower, cAddr (fr := nLow fr d 6) hm (by omega : t ≤ 200) hR.2.1 ha]
    rw [e1, ead, cSpeed hm (by omega) hc hh2, hsp]
    exact ⟨nConf fr d (zAddr m t (nz fr)) (zSp (tP m fp) (nz fr) c d), rfl, nConf_nz (by omega), nConf_nf (by omega)⟩
  · rw [if_neg c0, if_neg c0, cRefuse hm (by omega), pBs]
    exact ⟨_, rfl, nRefuse_nz hm (by omega), nRefuse_nf hm (by omega)⟩
theorem zWhy_le {m t : Nat} {R : Nat → Int32} {T : Nat → Nat → Int32} {N : Nat → Int32} {d c : Nat} : zWhy m t R T N d c ≤ 0 ↔ zWhy m t R T N d c = 0 := by
  unfold zWhy
  split
  · split
    · decide
    · split
      · split <;> decide
      · decide
  · decide
theorem rJudges {m t : Nat} {ru td nw : Nat → Int32} {d c : Nat} (hm : m ≤ 8) (hR : wRu ru t) (hT : wT m (tT m td)) (hi : iN m (nz nw)) (hd : d < m) (h5 : nz nw d = 5) (hc : c ≤ 8) (hh : nz nw (32 + d) = nI c) (hc6 : c = 8 ∨ (c < m ∧ nz nw c = 6)) : ∃ f, F_X10_judges (nI m) ru td nw (nI d) = some f ∧ nz f = nJudge m t ru (tT m td) (nz nw) d c ∧ nf f = nf nw := by
  have ht := hR.1
  have hh' : nw (32 + d) = nI c := by rw [← hh, pNz (by omega)]
  unfold F_X10_judges nJudge
  rw [rWhy hm hR hT hi hd h5 hc hh hc6, pBs]
  simp only [zWhy_le]
  by_cases c0 : zWhy m t ru (tT m td) (nz nw) d c = 0
  · rw [if_pos c0, if_pos c0]
    have hs : zSpd (nz (upd (upd nw d 6) (56 + d) (zAddr m t (nz nw)))) c = zSpd (nz nw) c := by
      rw [nzU (by omega), nzU (by omega)]
      unfold zSpd
      rcases hc6 with q | ⟨q1, q2⟩
      · rw [if_pos q, if_pos q]
      · rw [if_neg (by omega), if_neg (by omega)]
        have : c ≠ d := fun q => by subst q; rw [h5] at q2; exact absurd q2 (by decide)
        simp only [upd]; grind
    simp (disch := omega) only [pIx, pCl, pLe, pLt, pEq, pNm, pS1, pA0, pA8, pA16, pA24, pA32, pA40, pA48, pA56, pA64, pA72, pA80, pA88, pBs, pE8, pb0, pb1, pbo, if_true, if_false, pIy, pbq, pNz, pIw, hh', rAddr hm (by omega : t ≤ 200) hR.2.1, rSpeed, hs, rTold1 (m := m)]
    have hO := hi.2.1 d hd
    have e1 : nz nw (8 + d) = 0 := hO.2.2.2.1 (by rw [h5]; decide)
    have e2 : nz nw (16 + d) = 0 := hO.2.2.2.2.1 (by rw [h5]; decide)
    have e6 := hO.2.2.2.2.2.1 (by rw [h5]; decide)
    have e8 : nz nw (64 + d) = 0 := hO.2.2.2.2.2.2.2.1 (by rw [h5]; decide)
    refine ⟨upd (upd (upd nw d 6) (56 + d) (zAddr m t (nz nw))) (48 + d) (zSp (tT m td) (nz nw) c d), ?_, ?_, ?_⟩
    · unfold zSp
      by_cases cs : zSpd (nz nw) c = 2
      · rw [if_pos cs, if_pos cs]
      · rw [if_neg cs, if_neg cs]
    · rw [nzU (by omega), nzU (by omega), nzU (by omega)]
      funext k; simp only [nConf, nLow, upd]; grind
    · rw [nfU (by omega), nfU (by omega), nfU (by omega)]
  · rw [if_neg c0, if_neg c0]
    obtain ⟨f, h1, h2, h3⟩ := rRefuses (nw := nw) (why := zWhy m t ru (tT m td) (nz nw) d c) hm hi hd (by rw [h5]; decide)
    exact ⟨f, by rw [h1, pBs], h2, h3⟩
end

section
/-! going on, and a tick -/
def zOk8 (T : Nat → Nat → Int32) (N : Nat → Int32) (d : Nat) : Bool := !decide (zBy T N d 0 < 8) && !decide (12 < zBy T N d 0)
def nGo (m t : Nat) (R : Nat → Int32) (T : Nat → Nat → Int32) (N : Nat → Int32) (d : Nat) (v : Int32) : Nat → Int32 :=
  if N d = 3 then upd (upd N (8 + d) (N (8 + d) - 1)) d (if N (8 + d) - 1 ≤ 0 then 4 else 3) else if N d = 4 then (if zOk8 T N d = true then upd N d 5 else nFail m R N d v) else (if zRight T N d = true then nJudge m t R T N d (N (32 + d)).toNatClampNeg else nFail m R N d v)
def zFlG (T : Nat → Nat → Int32) (N : Nat → Int32) (d : Nat) : Bool := if N d = 3 then false else if N d = 4 then !zOk8 T N d else !zRight T N d
theorem bsy_c {N : Nat → Int32} {d : Nat} (h : ∃ k, k ≤ 7 ∧ N d = nI k) : zBsy N d = true ↔ (N d = 3 ∨ N d = 4 ∨ N d = 5) := by
  obtain ⟨k, hk, e⟩ := h
  unfold zBsy
  rw [e]
  have : ∀ k : Fin 8, ((!decide (nI k.1 < 3) && !decide (5 < nI k.1)) = true) ↔ (nI k.1 = 3 ∨ nI k.1 = 4 ∨ nI k.1 = 5) := by decide
  exact this ⟨k, by omega⟩
theorem pos_dec2 {t : Int32} (h : 0 < t) : (t - 1 = 0) ↔ t - 1 ≤ 0 := by
  rw [q_lt] at h
  have h0 : (0 : Int32).toInt = 0 := by decide
  have h1 : (1 : Int32).toInt = 1 := by decide
  have hr := Int32.toInt_lt t
  have e : (t - 1).toInt = t.toInt - 1 := by
    rw [Int32.toInt_sub, h1, Int.bmod_eq_of_le (by omega) (by omega)]
  rw [q_le, q_eq, e, h0]
  omega
theorem nGo_iT {m t : Nat} {R : Nat → Int32} {T : Nat → Nat → Int32} {N : Nat → Int32} {d : Nat} {v : Int32} (hm : m ≤ 8) (hT : wT m T) (h : iT m T N) (hd : d < m) (hb : zBsy N d = true) : iT m T (nGo m t R T N d v) := by
  have hO := h.1.2.1 d hd
  have hs := (bsy_c hO.1).mp hb
  have h0 : N d ≠ 0 := by rcases hs with q | q | q <;> rw [q] <;> decide
  have h6 : N d ≠ 6 := by rcases hs with q | q | q <;> rw [q] <;> decide
  have hub := h.1.2.2 d hd (by rcases hs with q | q | q; exact Or.inl q; exact Or.inr (Or.inl q); exact Or.inr (Or.inr (Or.inl q)))
  obtain ⟨o1, o2, o3, o4, o5, o6, o7, o8, o9⟩ := hO
  unfold nGo
  by_cases c3 : N d = 3
  · rw [if_pos c3]
    have ht := o3 (Or.inr c3)
    have hp := pos_dec2 ht
    have hp' := pos_dec ht
    have e0 : upd (upd N (8 + d) (N (8 + d) - 1)) d (if N (8 + d) - 1 ≤ 0 then 4 else 3) d = (if N (8 + d) - 1 ≤ 0 then 4 else 3) := pUs
    have e1 : upd (upd N (8 + d) (N (8 + d) - 1)) d (if N (8 + d) - 1 ≤ 0 then 4 else 3) (8 + d) = N (8 + d) - 1 := by rw [pUn (by omega), pUs]
    have ek : ∀ k, k ≠ d → k ≠ 8 + d → upd (upd N (8 + d) (N (8 + d) - 1)) d (if N (8 + d) - 1 ≤ 0 then 4 else 3) k = N k := fun k h1 h2 => by rw [pUn h1, pUn h2]
    have hi : iN m (upd (upd N (8 + d) (N (8 + d) - 1)) d (if N (8 + d) - 1 ≤ 0 then 4 else 3)) := by
      refine iN.one hm h.1 hd (fun e j he hn hj => ek _ (by omega) (by omega)) h0 (by rw [e0]; split <;> decide) (ek _ (by omega) (by omega)) ?_ (fun _ => hub) (fun q => absurd q h6)
      unfold dOK
      rw [e0, e1, ek _ (by omega) (by omega), ek _ (by omega) (by omega), ek _ (by omega) (by omega), ek _ (by omega) (by omega), ek _ (by omega) (by omega), ek _ (by omega) (by omega), ek _ (by omega) (by omega), ek _ (by omega) (by omega)]
      have t2 := o5 (by rw [c3]; decide)
      have t6 := o6 h6
      have t8 := o8 (by rw [c3]; decide)
      by_cases c : N (8 + d) - 1 ≤ 0
      · rw [if_pos c]
        exact ⟨⟨4, by decide, rfl⟩, fun q => absurd q (by decide), fun q => absurd q (by decide), fun _ => hp.mpr c, fun _ => t2, fun _ => t6, fun q => absurd q (by decide), fun _ => t8, o9⟩
      · rw [if_neg c]
        exact ⟨⟨3, by decide, rfl⟩, fun q => absurd q (by decide), fun _ => Decidable.byContradiction (fun q => c (hp.mp (hp'.mpr q))), fun q => absurd (Or.inr rfl) q, fun _ => t2, fun _ => t6, fun q => absurd q (by decide), fun _ => t8, o9⟩
    refine ⟨hi, h.2.1.keep hm hi.2.2 (fun e he h6e => ?_) (fun e he => ek _ (by omega) (by omega)), ?_⟩
    · by_cases ce : e = d
      · subst ce; rw [e0] at h6e; exact absurd h6e (by split <;> decide)
      · rw [ek _ ce (by omega)] at h6e
        exact ⟨h6e, ek _ (by omega) (by omega)⟩
    · rw [nzU (by omega), nzU (by omega), h.2.2]
  · rw [if_neg c3]
    by_cases c4 : N d = 4
    · rw [if_pos c4]
      by_cases c : zOk8 T N d = true
      · rw [if_pos c]
        have ek : ∀ k, k ≠ d → upd N d 5 k = N k := fun k h1 => pUn h1
        have hi : iN m (upd N d 5) := by
          refine iN.one hm h.1 hd (fun e j he hn hj => ek _ (by omega)) h0 (by rw [pUs]; decide) (ek _ (by omega)) ?_ (fun _ => hub) (fun q => absurd q h6)
          unfold dOK
          rw [pUs, ek _ (by omega), ek _ (by omega), ek _ (by omega), ek _ (by omega), ek _ (by omega), ek _ (by omega), ek _ (by omega), ek _ (by omega), ek _ (by omega)]
          exact ⟨⟨5, by decide, rfl⟩, fun q => absurd q (by decide), fun q => absurd q (by decide), fun _ => o4 (by rw [c4]; decide), fun _ => o5 (by rw [c4]; decide), fun _ => o6 h6, fun q => absurd q (by decide), fun _ => o8 (by rw [c4]; decide), o9⟩
        refine ⟨hi, h.2.1.keep hm hi.2.2 (fun e he h6e => ?_) (fun e he => ek _ (by omega)), by rw [nzU (by omega), h.2.2]⟩
        by_cases ce : e = d
        · subst ce; rw [pUs] at h6e; exact absurd h6e (by decide)
        · rw [ek _ ce] at h6e
          exact ⟨h6e, ek _ (by omega)⟩
      · rw [if_neg c]; exact nFail_iT hm h hd h0 h6
    · rw [if_neg c4]
      have h5 : N d = 5 := by rcases hs with q | q | q; exact absurd q c3; exact absurd q c4; exact q
      by_cases c : zRight T N d = true
      · rw [if_pos c]
        obtain ⟨b, hb, hh, hc6⟩ := hub36 hm h.1.2.2 hd (by rw [h5]; exact Or.inr (Or.inr (Or.inl rfl)))
        rw [hh, pCl (by omega)]
        exact nJudge_iT hm hT h hd h5 hb hh hc6
      · rw [if_neg c]; exact nFail_iT hm h hd h0 h6
theorem rGoesOn {m t : Nat} {ru td nw : Nat → Int32} {d : Nat} (hm : m ≤ 8) (hR : wRu ru t) (hT : wT m (tT m td)) (hi : iN m (nz nw)) (hd : d < m) (hb : zBsy (nz nw) d = true) : ∃ f, F_X10_goesOn (nI m) ru td nw (nI d) = some f ∧ nz f = nGo m t ru (tT m td) (nz nw) d (nw (24 + d)) ∧ nf f = if zFlG (tT m td) (nz nw) d = true then upd (nf nw) (24 + d) (nw (24 + d) + 1) else nf nw := by
  have hO := hi.2.1 d hd
  have hs := (bsy_c hO.1).mp hb
  have h0 : nz nw d ≠ 0 := by rcases hs with q | q | q <;> rw [q] <;> decide
  have h6 : nz nw d ≠ 6 := by rcases hs with q | q | q <;> rw [q] <;> decide
  have h7 : nz nw d ≠ 7 := by rcases hs with q | q | q <;> rw [q] <;> decide
  have ez : nz nw d = nw d := pNz (by omega)
  have ez8 : nz nw (8 + d) = nw (8 + d) := pNz (by omega)
  obtain ⟨ff, f1, f2, f3⟩ := rFails (ru := ru) hm hi hd h0 h6 h7
  unfold F_X10_goesOn nGo zFlG
  rw [ez, ez8]
  simp (disch := omega) only [pIx, pCl, pLe, pLt, pEq, pNm, pS1, pA0, pA8, pA16, pA24, pA32, pA40, pA48, pA56, pA64, pA72, pA80, pA88, pBs, pE8, pb0, pb1, pbo, if_true, if_false, pIy, pbq, pNz, pIw, rState, pUs, rRight1 hm hT hd]
  by_cases c3 : nw d = 3
  · rw [if_pos c3, if_pos c3, if_pos c3]
    have ht := hO.2.2.1 (Or.inr (ez.trans c3))
    rw [ez8] at ht
    have hp := pos_dec2 ht
    by_cases c : nw (8 + d) - 1 = 0
    · rw [if_pos c, if_pos (hp.mp c)]
      exact ⟨_, rfl, by rw [nzU (by omega), nzU (by omega)], by rw [nfU (by omega), nfU (by omega)]; simp⟩
    · rw [if_neg c, if_neg (fun q => c (hp.mpr q))]
      exact ⟨_, rfl, by rw [nzU (by omega), nzU (by omega)], by rw [nfU (by omega), nfU (by omega)]; simp⟩
  · rw [if_neg c3, if_neg c3, if_neg c3]
    by_cases c4 : nw d = 4
    · rw [if_pos c4, if_pos c4, if_pos c4]
      rw [show F_X10_byteAt td nw (nI d) 0 = _ from rByte (i := 0) hm hT hd (by omega)]
      simp only [pBs, rIn, pb0]
      show ∃ f, (if zOk8 (tT m td) (nz nw) d = false then _ else _) = some f ∧ _
      by_cases c : zOk8 (tT m td) (nz nw) d = true
      · rw [if_neg (by simp [c]), if_pos c]
        exact ⟨_, rfl, by rw [nzU (by omega)], by rw [nfU (by omega)]; simp [c]⟩
      · have c' : zOk8 (tT m td) (nz nw) d = false := by simpa using c
        rw [if_pos c', if_neg c]
        exact ⟨ff, by rw [f1, pBs], f2, by rw [f3]; simp [c']⟩
    · rw [if_neg c4, if_neg c4, if_neg c4]
      have h5 : nz nw d = 5 := by rw [ez] at hs ⊢; rcases hs with q | q | q; exact absurd q c3; exact absurd q c4; exact q
      by_cases c : zRight (tT m td) (nz nw) d = true
      · rw [if_neg (by simp [c]), if_pos c]
        obtain ⟨b, hb', hh, hc6⟩ := hub36 hm hi.2.2 hd (by rw [h5]; exact Or.inr (Or.inr (Or.inl rfl)))
        obtain ⟨f, g1, g2, g3⟩ := rJudges hm hR hT hi hd h5 hb' hh hc6
        have hh' : nw (32 + d) = nI b := by rw [← hh, pNz (by omega)]
        exact ⟨f, by rw [g1, pBs], by rw [g2, hh', pCl (by omega)], by rw [g3]; simp [c]⟩
      · have c' : zRight (tT m td) (nz nw) d = false := by simpa using c
        rw [if_pos c', if_neg c]
        exact ⟨ff, by rw [f1, pBs], f2, by rw [f3]; simp [c']⟩
theorem next_q {m : Nat} {N : Nat → Int32} : zNext m N = -1 ∨ ∃ q, q < m ∧ zNext m N = nI q ∧ N q = 2 ∧ (N (32 + q) = 8 ∨ N (N (32 + q)).toNatClampNeg = 6 ∧ ¬ N (88 + (N (32 + q)).toNatClampNeg) = 1) := by
  refine pF_inv (g := zNf N) (fun _ b => b = -1 ∨ ∃ q, q < m ∧ b = nI q ∧ N q = 2 ∧ (N (32 + q) = 8 ∨ N (N (32 + q)).toNatClampNeg = 6 ∧ ¬ N (88 + (N (32 + q)).toNatClampNeg) = 1)) m 0 (-1) (fun i a _ hi hI => ?_) (Or.inl rfl)
  show zNf N i a = -1 ∨ _
  unfold zNf
  by_cases c : N i = 2 ∧ (N (32 + i) = 8 ∨ N (N (32 + i)).toNatClampNeg = 6 ∧ ¬ N (88 + (N (32 + i)).toNatClampNeg) = 1)
  · rw [if_pos c]
    split
    · exact Or.inr ⟨i, by omega, rfl, c⟩
    · split
      · exact hI
      · exact Or.inr ⟨i, by omega, rfl, c⟩
  · rw [if_neg c]; exact hI
def nTail (m : Nat) (R f : Nat → Int32) : Nat → Int32 := if pFd (zBsy (nz f)) m 0 = -1 then (if zNext m (nz f) = -1 then f else upd (nLow f (zNext m (nz f)).toNatClampNeg 3) (8 + (zNext m (nz f)).toNatClampNeg) (R 2)) else f
theorem nTail_nz {m : Nat} {R f : Nat → Int32} (hm : m ≤ 8) : nz (nTail m R f) = nTail m R (nz f) := by
  unfold nTail
  rw [nz_nz]
  split
  · split
    · rfl
    · rename_i h
      rcases next_q (m := m) (N := nz f) with q | ⟨q, hq, e, -⟩
      · exact absurd q h
      · rw [e, pCl (by omega), nzU (by omega), nLow_nz (by omega)]
  · rfl
theorem nTail_nf {m : Nat} {R f : Nat → Int32} (hm : m ≤ 8) : nf (nTail m R f) = nf f := by
  unfold nTail
  split
  · split
    · rfl
    · rename_i h
      rcases next_q (m := m) (N := nz f) with q | ⟨q, hq, e, -⟩
      · exact absurd q h
      · rw [e, pCl (by omega), nfU (by omega), nLow_nf (by omega)]
  · rfl
theorem nTail_iT {m : Nat} {R : Nat → Int32} {T : Nat → Nat → Int32} {N : Nat → Int32} (hm : m ≤ 8) (h2 : 0 < R 2) (h : iT m T N) : iT m T (nTail m R N) := by
  unfold nTail
  rw [h.2.2]
  split
  · split
    · exact h
    · rename_i hx
      rcases next_q (m := m) (N := N) with q | ⟨q, hq, e, q2, q3⟩
      · exact absurd q hx
      · rw [e, pCl (by omega)]
        obtain ⟨o1, o2, o3, o4, o5, o6, o7, o8, o9⟩ := h.1.2.1 q hq
        have e0 : upd (nLow N q 3) (8 + q) (R 2) q = 3 := by simp only [nLow, upd]; grind
        have e1 : upd (nLow N q 3) (8 + q) (R 2) (8 + q) = R 2 := pUs
        have e2 : upd (nLow N q 3) (8 + q) (R 2) (16 + q) = 0 := by simp only [nLow, upd]; grind
        have e4 : ∀ c, c < 8 → upd (nLow N q 3) (8 + q) (R 2) (32 + c) = N (32 + c) := fun c hc => by simp (disch := omega) only [nLow, pUn]
        have e6 : upd (nLow N q 3) (8 + q) (R 2) (48 + q) = -1 := by simp only [nLow, upd]; grind
        have e7 : upd (nLow N q 3) (8 + q) (R 2) (56 + q) = 0 := by simp only [nLow, upd]; grind
        have e8 : upd (nLow N q 3) (8 + q) (R 2) (64 + q) = 0 := by simp only [nLow, upd]; grind
        have e9 : upd (nLow N q 3) (8 + q) (R 2) (72 + q) = N (72 + q) := by simp (disch := omega) only [nLow, pUn]
        have e11 : upd (nLow N q 3) (8 + q) (R 2) (88 + q) = 0 := by simp only [nLow, upd]; grind
        have same : ∀ e j, e < m → e ≠ q → j < 12 → upd (nLow N q 3) (8 + q) (R 2) (8 * j + e) = N (8 * j + e) := fun e j he hn hj => by simp (disch := omega) only [nLow, pUn]
        have h0 : N q ≠ 0 := by rw [q2]; decide
        have hi : iN m (upd (nLow N q 3) (8 + q) (R 2)) := by
          refine iN.one hm h.1 hq same h0 (by rw [e0]; decide) (e4 q (by omega)) ?_ (fun _ => ?_) (fun c => by rw [q2] at c; exact absurd c (by decide))
          · unfold dOK
            rw [e0, e1, e2, e6, e7, e8, e9, e11]
            exact ⟨⟨3, by decide, rfl⟩, fun c => absurd c (by decide), fun _ => h2, fun c => absurd (Or.inr rfl) c, fun _ => rfl, fun _ => ⟨rfl, rfl, rfl⟩, fun c => absurd c (by decide), fun _ => rfl, o9⟩
          · rcases q3 with q3 | ⟨q3, -⟩
            · exact Or.inl q3
            · obtain ⟨r, hr⟩ := h.1.r hm
              obtain ⟨-, b, hb1, hb2⟩ := hr q hq h0
              rcases hb2 with hb2 | ⟨hb2, -, -⟩
              · exact Or.inl (by rw [hb1, hb2]; rfl)
              · refine Or.inr ⟨b, hb2, hb1, ?_⟩
                rw [hb1, pCl (by omega)] at q3; exact q3
        refine ⟨hi, h.2.1.keep hm hi.2.2 (fun e he h6e => ?_) (fun e he => e4 e (by omega)), by rw [nzU (by omega), nLow_nz (by omega), h.2.2]⟩
        by_cases ce : e = q
        · subst ce; rw [e0] at h6e; exact absurd h6e (by decide)
        · have s0 := same e 0 he ce (by decide)
          have s6 := same e 6 he ce (by decide)
          simp only [Nat.mul_zero, Nat.zero_add, Nat.reduceMul] at s0 s6
          rw [s0] at h6e
          exact ⟨h6e, s6⟩
  · exact h
end

section
/-! a tick -/
def zS (m : Nat) (N : Nat → Int32) : Int32 := pFd (zBsy (nSettle m N)) m 0
def zF (m : Nat) (T : Nat → Nat → Int32) (N : Nat → Int32) : Bool := !decide (zS m N = -1) && zFlG T (nSettle m N) (zS m N).toNatClampNeg
def zGone (m t : Nat) (R : Nat → Int32) (T : Nat → Nat → Int32) (N : Nat → Int32) (v : Int32) : Nat → Int32 := if zS m N = -1 then nSettle m N else nGo m t R T (nSettle m N) (zS m N).toNatClampNeg v
/-- a tick but for the time -/
def zTk (m t : Nat) (R : Nat → Int32) (T : Nat → Nat → Int32) (N : Nat → Int32) (v : Int32) : Nat → Int32 := nTail m R (zGone m t R T N v)
def zV (m : Nat) (N f : Nat → Int32) : Int32 := f (24 + (zS m N).toNatClampNeg)
def nfT (m : Nat) (T : Nat → Nat → Int32) (N f : Nat → Int32) : Nat → Int32 := if zF m T N = true then upd (nf f) (24 + (zS m N).toNatClampNeg) (zV m N f + 1) else nf f
theorem zS_c (m : Nat) (N : Nat → Int32) : zS m N = -1 ∨ ∃ d, d < m ∧ zS m N = nI d ∧ zBsy (nSettle m N) d = true := by
  rcases pFd_cases (zBsy (nSettle m N)) m 0 with ⟨h, -⟩ | ⟨i, -, hi, h, hb, -⟩
  · exact Or.inl h
  · exact Or.inr ⟨i, by omega, h, hb⟩
theorem zGone_iT {m t : Nat} {R : Nat → Int32} {T : Nat → Nat → Int32} {N : Nat → Int32} {v : Int32} (hm : m ≤ 8) (hT : wT m T) (h : iT m T N) : iT m T (zGone m t R T N v) := by
  unfold zGone
  rcases zS_c m N with q | ⟨d, hd, q, hb⟩
  · rw [if_pos q]; exact nSettle_iT hm h
  · rw [q, if_neg (by rw [pNm (by omega)]; exact id), pCl (by omega)]
    exact nGo_iT hm hT (nSettle_iT hm h) hd hb
theorem zTk_iT {m t : Nat} {R : Nat → Int32} {T : Nat → Nat → Int32} {N : Nat → Int32} {v : Int32} (hm : m ≤ 8) (hR : wRu R t) (hT : wT m T) (h : iT m T N) : iT m T (zTk m t R T N v) :=
  nTail_iT hm hR.2.2.2.1 (zGone_iT hm hT h)
theorem rTail {m : Nat} {ru f : Nat → Int32} (hm : m ≤ 8) (hi : iN m (nz f)) : ∃ g, ((F_X10_busy (nI m) f).bind fun o_6 => (if o_6 = (-1) then ((F_X10_nextOne (nI m) f).bind fun o_10 => (if o_10 = (-1) then some ((upd f 96 ((f 96) + 1))) else (if (0 + o_10) < 0 ∨ 279 ≤ ((0 + o_10)).toNatClampNeg then none else (if (8 + o_10) < 0 ∨ 279 ≤ ((8 + o_10)).toNatClampNeg then none else (if (16 + o_10) < 0 ∨ 279 ≤ ((16 + o_10)).toNatClampNeg then none else ((some (((upd (upd (upd f (0 + o_10).toNatClampNeg 3) (8 + o_10).toNatClampNeg (ru 2)) (16 + o_10).toNatClampNeg 0) 96) + 1)).bind fun v_16 => some ((upd (upd (upd (upd f (0 + o_10).toNatClampNeg 3) (8 + o_10).toNatClampNeg (ru 2)) (16 + o_10).toNatClampNeg 0) 96 v_16)))))))) else some ((upd f 96 ((f 96) + 1))))) = some g ∧ nz g = nTail m ru (nz f) ∧ nf g = upd (nf f) 96 (f 96 + 1) := by
  rw [rBusy hm, pBs, (rNext hm (hi.h hm)).1]
  unfold nTail
  rw [nz_nz]
  by_cases c : pFd (zBsy (nz f)) m 0 = -1
  · rw [if_pos c, if_pos c, pBs]
    rcases next_q (m := m) (N := nz f) with q | ⟨q, hq, e, q2, q3⟩
    · rw [if_pos q, if_pos q]
      exact ⟨_, rfl, nzO (by omega), nfO (by omega)⟩
    · rw [e]
      simp (disch := omega) only [pIx, pCl, pLe, pLt, pEq, pNm, pS1, pA0, pA8, pA16, pA24, pA32, pA40, pA48, pA56, pA64, pA72, pA80, pA88, pBs, pE8, pb0, pb1, pbo, if_true, if_false, pIy, pbq, pNz, pIw]
      obtain ⟨o1, o2, o3, o4, o5, o6, o7, o8, o9⟩ := hi.2.1 q hq
      have t6 := o6 (by rw [q2]; decide)
      have t8 := o8 (by rw [q2]; decide)
      refine ⟨_, rfl, ?_, ?_⟩
      · rw [pUn (by omega), pUn (by omega), pUn (by omega), nzO (by omega), nzU (by omega), nzU (by omega), nzU (by omega)]
        funext k; simp only [nLow, upd]; grind
      · rw [pUn (by omega), pUn (by omega), pUn (by omega), nfO (by omega), nfU (by omega), nfU (by omega), nfU (by omega)]
  · rw [if_neg c, if_neg c]
    exact ⟨_, rfl, nzO (by omega), nfO (by omega)⟩
theorem rTick {m t : Nat} {ru td nw : Nat → Int32} (hm : m ≤ 8) (hR : wRu ru t) (hT : wT m (tT m td)) (hi : iT m (tT m td) (nz nw)) : ∃ f, F_X10_tickNow (nI m) ru td nw = some f ∧ nz f = zTk m t ru (tT m td) (nz nw) (zV m (nz nw) nw) ∧ nf f = upd (nfT m (tT m td) (nz nw) nw) 96 (nw 96 + 1) := by
  obtain ⟨f1, g1, z1, n1⟩ := rSettles hm hi.1
  have i1 : iT m (tT m td) (nz f1) := by rw [z1]; exact nSettle_iT hm hi
  have hfl : ∀ d, d < 8 → f1 (24 + d) = nw (24 + d) := fun d hd => by
    have this : nf f1 (24 + d) = nf nw (24 + d) := by rw [n1]
    rw [nfE (by omega), nfE (by omega)] at this; exact this
  have h96 : f1 96 = nw 96 := by
    have this : nf f1 96 = nf nw 96 := by rw [n1]
    rw [nfE (by omega), nfE (by omega)] at this; exact this
  unfold F_X10_tickNow
  rw [g1, pBs, rBusy hm, pBs]
  have es : pFd (zBsy (nz f1)) m 0 = zS m (nz nw) := by unfold zS; rw [z1]
  rw [es]
  unfold zTk zGone nfT zF
  rcases zS_c m (nz nw) with q | ⟨d, hd, q, hb⟩
  · rw [if_pos q, if_pos q]
    obtain ⟨g, h1, h2, h3⟩ := rTail (ru := ru) (f := f1) hm i1.1
    rw [rBusy hm, es] at h1
    refine ⟨g, h1, ?_, ?_⟩
    · rw [h2, z1]
    · rw [h3, n1, q, h96]; simp
  · have hne : ¬ (nI d : Int32) = -1 := by rw [pNm (by omega)]; exact id
    rw [q, if_neg hne, if_neg hne, pCl (by omega)]
    rw [← z1] at hb
    obtain ⟨f2, g2, z2, n2⟩ := rGoesOn (ru := ru) (td := td) hm hR hT i1.1 hd hb
    have i2 : iT m (tT m td) (nz f2) := by rw [z2]; exact nGo_iT hm hT i1 hd hb
    rw [pBs, g2, pBs]
    obtain ⟨g, h1, h2, h3⟩ := rTail (ru := ru) (f := f2) hm i2.1
    have ev : f1 (24 + d) = zV m (nz nw) nw := by
      unfold zV; rw [q, pCl (by omega)]; exact hfl d (by omega)
    refine ⟨g, h1, ?_, ?_⟩
    · rw [h2, z2, z1, ev]
    · have h96' : f2 96 = nw 96 := by
        have this : nf f2 96 = nf f1 96 := by rw [n2]; split; exact pUn (by omega); rfl
        rw [nfE (by omega), nfE (by omega)] at this; exact this.trans h96
      rw [h3, n2, z1, n1, ev, h96']
      by_cases c : zFlG (tT m td) (nSettle m (nz nw)) d = true
      · simp [c, hne]
      · simp [c, hne]
end

section
/-! a tick, the program's -/
def cCap (x : Int32) : Int32 := if 9999 < x + 1 then 9999 else x + 1
theorem cTail {m : Nat} {fu fp f : Nat → Int32} (hm : m ≤ 8) (hi : iN m (nz f)) : ∃ g, ((F_X0_standing f (nI m) fu fp).bind fun o_6 => (if o_6 = (-1) then ((F_X0_firstInLine f (nI m) fu fp).bind fun o_10 => (if o_10 = (-1) then some (upd f 96 (if 9999 < ((f 96) + 1) then 9999 else ((f 96) + 1))) else ((F_X0_lower f (nI m) fu fp o_10 3).bind fun o_13 => (if (8 + o_10) < 0 ∨ 98 ≤ ((8 + o_10)).toNatClampNeg then none else some (upd (upd (o_13) (8 + o_10).toNatClampNeg (fu 2)) 96 (if 9999 < (((upd (o_13) (8 + o_10).toNatClampNeg (fu 2)) 96) + 1) then 9999 else (((upd (o_13) (8 + o_10).toNatClampNeg (fu 2)) 96) + 1))))))) else some (upd f 96 (if 9999 < ((f 96) + 1) then 9999 else ((f 96) + 1))))) = some g ∧ nz g = nTail m fu (nz f) ∧ nf g = upd (nf f) 96 (cCap (f 96)) := by
  rw [cStanding hm, pBs, (cNext hm (hi.h hm) hi.f).1]
  unfold nTail cCap
  rw [nz_nz]
  by_cases c : pFd (zBsy (nz f)) m 0 = -1
  · rw [if_pos c, if_pos c, pBs]
    rcases next_q (m := m) (N := nz f) with q | ⟨q, hq, e, q2, q3⟩
    · rw [if_pos q, if_pos q]
      exact ⟨_, rfl, nzO (by omega), nfO (by omega)⟩
    · rw [e]
      simp (disch := omega) only [pIx, pCl, pLe, pLt, pEq, pNm, pS1, pA0, pA8, pA16, pA24, pA32, pA40, pA48, pA56, pA64, pA72, pA80, pA88, pBs, pE8, pb0, pb1, pbo, if_true, if_false, pIy, pbq, pNz, pIw, cLower]
      have h96 : upd (nLow f q 3) (8 + q) (fu 2) 96 = f 96 := by simp (disch := omega) only [nLow, pUn]
      rw [h96]
      refine ⟨_, rfl, ?_, ?_⟩
      · rw [nzO (by omega), nzU (by omega), nLow_nz (by omega)]
      · rw [nfO (by omega), nfU (by omega), nLow_nf (by omega)]
  · rw [if_neg c, if_neg c]
    exact ⟨_, rfl, nzO (by omega), nfO (by omega)⟩
theorem cPasses {m : Nat} {fr fu fp : Nat → Int32} {d : Nat} (hm : m ≤ 8) (hT : wT m (tP m fp)) (hd : d < m) (hs : nz fr d = 3 ∨ nz fr d = 4 ∨ nz fr d = 5) : ∃ f, F_X0_passes fr (nI m) fu fp (nI d) = some (pb (!zFlG (tP m fp) (nz fr) d), f) ∧ nf f = nf fr ∧ nz f = (if nz fr d = 3 then upd (upd (nz fr) (8 + d) (nz fr (8 + d) - 1)) d (if nz fr (8 + d) - 1 ≤ 0 then 4 else 3) else if nz fr d = 4 then (if zOk8 (tP m fp) (nz fr) d = true then upd (nz fr) d 5 else nz fr) else nz fr) := by
  have ez : nz fr d = fr d := pNz (by omega)
  have ez8 : nz fr (8 + d) = fr (8 + d) := pNz (by omega)
  unfold F_X0_passes zFlG
  rw [ez, ez8]
  rw [ez] at hs
  simp (disch := omega) only [pIx, pCl, pLe, pLt, pEq, pNm, pS1, pA0, pA8, pA16, pA24, pA32, pA40, pA48, pA56, pA64, pA72, pA80, pA88, pBs, pE8, pb0, pb1, pbo, if_true, if_false, pIy, pbq, pNz, pIw, cSound hm hT hd, pUs]
  by_cases c5 : fr d = 5
  · simp only [c5]
    exact ⟨fr, by simp, rfl, by simp⟩
  · rw [if_neg c5]
    by_cases c4 : fr d = 4
    · rw [if_pos c4]
      rw [show F_X0_byteOf fr (nI m) fu fp (nI d) 0 = _ from cByte (i := 0) hm hT hd (by omega), pBs]
      have hb : zOk8 (tP m fp) (nz fr) d = (!decide (zBy (tP m fp) (nz fr) d 0 < 8) && !decide (12 < zBy (tP m fp) (nz fr) d 0)) := rfl
      have u4 : upd fr d 4 = fr := by funext k; simp only [upd]; grind
      by_cases c : zBy (tP m fp) (nz fr) d 0 < 8
      · have hb' : zOk8 (tP m fp) (nz fr) d = false := by rw [hb]; simp [c]
        refine ⟨fr, ?_, rfl, ?_⟩
        · rw [if_pos c, u4]; simp [c4, hb', pb]
        · simp [c4, hb']
      · by_cases c' : 12 < zBy (tP m fp) (nz fr) d 0
        · have hb' : zOk8 (tP m fp) (nz fr) d = false := by rw [hb]; simp [c']
          refine ⟨fr, ?_, rfl, ?_⟩
          · rw [if_neg c, if_pos c', u4]; simp [c4, hb', pb]
          · simp [c4, hb']
        · have hb' : zOk8 (tP m fp) (nz fr) d = true := by rw [hb]; simp [c, c']
          refine ⟨upd fr d 5, ?_, nfU (by omega), ?_⟩
          · rw [if_neg c, if_neg c']; simp [c4, hb', pb]
          · rw [nzU (by omega)]; simp [c4, hb']
    · have c3 : fr d = 3 := by rcases hs with q | q | q; exact q; exact absurd q c4; exact absurd q c5
      rw [if_neg c4]
      by_cases c : fr (8 + d) - 1 ≤ 0
      · refine ⟨upd (upd fr (8 + d) (fr (8 + d) - 1)) d 4, ?_, by rw [nfU (by omega), nfU (by omega)], ?_⟩
        · rw [if_pos c]; simp [c3, pb]
        · rw [nzU (by omega), nzU (by omega)]; simp [c3, c]
      · refine ⟨upd (upd fr (8 + d) (fr (8 + d) - 1)) d 3, ?_, by rw [nfU (by omega), nfU (by omega)], ?_⟩
        · rw [if_neg c]; simp [c3, pb]
        · rw [nzU (by omega), nzU (by omega)]; simp [c3, c]
theorem cTick {m t : Nat} {fr fu fp : Nat → Int32} (hm : m ≤ 8) (hR : wRu fu t) (hT : wT m (tP m fp)) (hi : iT m (tP m fp) (nz fr)) : ∃ f, F_X0_passTick fr (nI m) fu fp = some f ∧ nz f = zTk m t fu (tP m fp) (nz fr) (zV m (nz fr) fr) ∧ nf f = upd (nfT m (tP m fp) (nz fr) fr) 96 (cCap (fr 96)) := by
  have z1 : nz (nSettle m fr) = nSettle m (nz fr) := nSettle_nz hm
  have n1 : nf (nSettle m fr) = nf fr := nSettle_nf hm
  have i1 : iT m (tP m fp) (nz (nSettle m fr)) := by rw [z1]; exact nSettle_iT hm hi
  have hfl : ∀ d, d < 8 → nSettle m fr (24 + d) = fr (24 + d) := fun d hd => by
    have this : nf (nSettle m fr) (24 + d) = nf fr (24 + d) := by rw [n1]
    rw [nfE (by omega), nfE (by omega)] at this; exact this
  have h96 : nSettle m fr 96 = fr 96 := by
    have this : nf (nSettle m fr) 96 = nf fr 96 := by rw [n1]
    rw [nfE (by omega), nfE (by omega)] at this; exact this
  unfold F_X0_passTick
  rw [cSettle hm, pBs]
  generalize nSettle m fr = f1 at z1 n1 i1 hfl h96 ⊢
  rw [cStanding hm, pBs]
  have es : pFd (zBsy (nz f1)) m 0 = zS m (nz fr) := by unfold zS; rw [z1]
  rw [es]
  unfold zTk zGone nfT zF
  rcases zS_c m (nz fr) with q | ⟨d, hd, q, hb⟩
  · rw [if_pos q, if_pos q]
    obtain ⟨g, h1, h2, h3⟩ := cTail (fu := fu) (fp := fp) (f := f1) hm i1.1
    rw [cStanding hm, es] at h1
    refine ⟨g, h1, ?_, ?_⟩
    · rw [h2, z1]
    · rw [h3, n1, q, h96]; simp
  · have hne : ¬ (nI d : Int32) = -1 := by rw [pNm (by omega)]; exact id
    rw [q, if_neg hne, if_neg hne, pCl (by omega)]
    rw [← z1] at hb
    have hO := i1.1.2.1 d hd
    have hs := (bsy_c hO.1).mp hb
    have h0 : nz f1 d ≠ 0 := by rcases hs with q | q | q <;> rw [q] <;> decide
    obtain ⟨p, p1, p2, p3⟩ := cPasses (fr := f1) (fu := fu) (fp := fp) hm hT hd hs
    have ev : f1 (24 + d) = zV m (nz fr) fr := by
      unfold zV; rw [q, pCl (by omega)]; exact hfl d (by omega)
    have ef : p (24 + d) = f1 (24 + d) := by
      have this : nf p (24 + d) = nf f1 (24 + d) := by rw [p2]
      rw [nfE (by omega), nfE (by omega)] at this; exact this
    have p96 : p 96 = fr 96 := by
      have this : nf p 96 = nf f1 96 := by rw [p2]
      rw [nfE (by omega), nfE (by omega)] at this; exact this.trans h96
    rw [pA0, pIx (by omega) (by omega), pCl (by omega), p1, pBs, pBs]
    dsimp only
    have e0 : nz f1 d = f1 d := pNz (by omega)
    by_cases cf : zFlG (tP m fp) (nz f1) d = true
    · -- it fails
      obtain ⟨g, g1, g2, g3⟩ := cFail (fr := p) (fu := fu) (fp := fp) (d := d) hm (by omega)
      have c3 : ¬ nz f1 d = 3 := fun c => by unfold zFlG at cf; rw [if_pos c] at cf; exact Bool.false_ne_true cf
      have pz : nz p = nz f1 := by
        rw [p3, if_neg c3]
        by_cases c4 : nz f1 d = 4
        · rw [if_pos c4]
          unfold zFlG at cf; rw [if_neg c3, if_pos c4] at cf
          have cf : zOk8 (tP m fp) (nz f1) d = false := by simpa using cf
          rw [cf]; rfl
        · rw [if_neg c4]
      have hgo : nGo m t fu (tP m fp) (nz f1) d (f1 (24 + d)) = nFail m fu (nz f1) d (f1 (24 + d)) := by
        unfold nGo; unfold zFlG at cf
        rw [if_neg c3] at cf ⊢
        by_cases c4 : nz f1 d = 4
        · rw [if_pos c4] at cf ⊢
          rw [if_neg (by simpa using cf)]
        · rw [if_neg c4] at cf ⊢
          rw [if_neg (by simpa using cf)]
      have gz : nz g = nGo m t fu (tP m fp) (nz f1) d (f1 (24 + d)) := by rw [g2, pz, ef, hgo]
      have ig : iT m (tP m fp) (nz g) := by rw [gz]; exact nGo_iT hm hT i1 hd hb
      obtain ⟨k, h1, h2, h3⟩ := cTail (fu := fu) (fp := fp) (f := g) hm ig.1
      refine ⟨k, ?_, ?_, ?_⟩
      · rw [cf]
        rw [if_pos (show pb (!true) = 0 from rfl), if_pos (show pb (!true) = 0 from rfl), g1, pBs]
        by_cases c5 : f1 d = 5
        · rw [if_pos c5]; exact h1
        · rw [if_neg c5]; exact h1
      · rw [h2, gz, z1, ev]
      · have g96 : g 96 = fr 96 := by
          have this : nf g 96 = nf p 96 := by rw [g3]; exact pUn (by omega)
          rw [nfE (by omega), nfE (by omega)] at this; exact this.trans p96
        rw [h3, g3, p2, n1, ef, ev, ← z1, cf, g96]; simp [hne]
    · have cf' : zFlG (tP m fp) (nz f1) d = false := by simpa using cf
      rw [cf', if_neg (show ¬ pb (!false) = 0 from by decide), if_neg (show ¬ pb (!false) = 0 from by decide)]
      by_cases c5 : f1 d = 5
      · rw [if_pos c5]
        have c5z : nz f1 d = 5 := e0.trans c5
        have pz : nz p = nz f1 := by
          rw [p3, c5z]; rfl
        have rt : zRight (tP m fp) (nz f1) d = true := by
          unfold zFlG at cf'; rw [c5z] at cf'
          simpa using cf'
        obtain ⟨b, hb', hh, hc6⟩ := hub36 hm i1.1.2.2 hd (by rw [c5z]; exact Or.inr (Or.inr (Or.inl rfl)))
        rw [← pz] at hh hc6
        rw [cWhy (fr := p) hm hR (by rw [pz]; exact i1.1) hd (by rw [pz]; exact h0) hb' hh, pBs]
        obtain ⟨g, g1, g2, g3⟩ := cConclude (fr := p) (fu := fu) (fp := fp) hm hR (by rw [pz]; exact i1.1) hd (by rw [pz]; exact c5z) hb' hh hc6
        rw [g1, pBs]
        rw [pz] at hh
        have gz : nz g = nGo m t fu (tP m fp) (nz f1) d (f1 (24 + d)) := by
          rw [g2, pz]; unfold nGo
          rw [c5z, if_neg (by decide), if_neg (by decide), if_pos rt, hh, pCl (by omega)]
        have ig : iT m (tP m fp) (nz g) := by rw [gz]; exact nGo_iT hm hT i1 hd hb
        obtain ⟨k, h1, h2, h3⟩ := cTail (fu := fu) (fp := fp) (f := g) hm ig.1
        refine ⟨k, h1, ?_, ?_⟩
        · rw [h2, gz, z1, ev]
        · have g96 : g 96 = fr 96 := by
            have this : nf g 96 = nf p 96 := by rw [g3]
            rw [nfE (by omega), nfE (by omega)] at this; exact this.trans p96
          rw [h3, g3, p2, n1, ← z1, cf', g96]; simp [hne]
      · rw [if_neg c5]
        have gz : nz p = nGo m t fu (tP m fp) (nz f1) d (f1 (24 + d)) := by
          rw [p3]; unfold nGo
          by_cases c3 : nz f1 d = 3
          · rw [if_pos c3, if_pos c3]
          · have c4 : nz f1 d = 4 := by rcases hs with q | q | q; exact absurd q c3; exact q; exact absurd (e0.symm.trans q) c5
            rw [if_neg c3, if_neg c3, if_pos c4, if_pos c4]
            unfold zFlG at cf'; rw [if_neg c3, if_pos c4] at cf'
            have : zOk8 (tP m fp) (nz f1) d = true := by simpa using cf'
            rw [if_pos this, if_pos this]
        have ig : iT m (tP m fp) (nz p) := by rw [gz]; exact nGo_iT hm hT i1 hd hb
        obtain ⟨k, h1, h2, h3⟩ := cTail (fu := fu) (fp := fp) (f := p) hm ig.1
        refine ⟨k, h1, ?_, ?_⟩
        · rw [h2, gz, z1, ev]
        · rw [h3, p2, n1, ← z1, cf', p96]; simp [hne]
end
