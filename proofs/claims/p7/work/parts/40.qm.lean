/-! texts kept, and what stays of the scripts -/
theorem ScR_keep {f1 f2 sq sl sq' sl' : Nat → Int32} {s z : Nat} (h : ScR f1 f2 sq sl s) (hz : s ≤ z) (h1 : ∀ k, ¬ (64 * z ≤ k ∧ k < 64 * z + 64) → sq' k = sq k) (h2 : ∀ k, k ≠ z → sl' k = sl k) : ScR f1 f2 sq' sl' s :=
  ⟨h.1, fun i hi => by
    obtain ⟨l, a1, a2, a3, a4⟩ := h.2 i hi
    refine ⟨l, a1, a2, by rw [h2 i (by omega)]; exact a3, fun j hj => ⟨(a4 j hj).1, fun c hc => ?_⟩⟩
    rw [h1 _ (by omega)]; exact (a4 j hj).2 c hc⟩
theorem ScR_add {f1 f2 f3 sq sl sq' sl' : Nat → Int32} {s j : Nat} {ds : Int32} (h : ScR f1 f2 sq sl s) (hs : s < 4) (hj : j ≤ 16) (e1 : ds = nI j) (e2 : sl' s = nI j) (h1 : ∀ k, ¬ (64 * s ≤ k ∧ k < 64 * s + 64) → sq' k = sq k) (h2 : ∀ k, k ≠ s → sl' k = sl k) (hr : ∀ i, i < j → sRow s f3 sq' i) : ScR (va_cpy f3 f1 0 (s * 64) 64) (upd f2 s ds) sq' sl' (s + 1) := by
  refine ⟨by omega, fun i hi => ?_⟩
  by_cases c : i = s
  · subst c
    refine ⟨j, hj, by rw [pUs]; exact e1, e2, fun q hq => ?_⟩
    have key : ∀ c, c < 4 → va_cpy f3 f1 0 (i * 64) 64 (i * 64 + q * 4 + c) = f3 (4 * q + c) := fun c hc => by
      simp only [va_cpy]; rw [if_pos (by omega)]; congr 1; omega
    obtain ⟨⟨k, hk, r1⟩, r2⟩ := hr q hq
    refine ⟨⟨k, hk, ?_⟩, fun c hc => ?_⟩
    · have := key 0 (by omega)
      rw [Nat.add_zero, Nat.add_zero] at this; rw [this]; exact r1
    · rw [key c hc]; exact r2 c hc
  · obtain ⟨l, a1, a2, a3, a4⟩ := h.2 i (by omega)
    have key : ∀ k, k < s * 64 → va_cpy f3 f1 0 (s * 64) 64 k = f1 k := fun k hk => by simp only [va_cpy]; rw [if_neg (by omega)]
    refine ⟨l, a1, by rw [pUn c]; exact a2, by rw [h2 i c]; exact a3, fun q hq => ?_⟩
    obtain ⟨⟨k, hk, r1⟩, r2⟩ := a4 q hq
    refine ⟨⟨k, hk, by rw [key _ (by omega)]; exact r1⟩, fun c' hc => ?_⟩
    rw [h1 _ (by omega), key _ (by omega)]; exact r2 c' hc
theorem keepD {f1 f2 f3 : Nat → Int32} {ds : Int32} {s : Nat} (hs : s < 4) : F_X7_keepDraft f1 f2 f3 ds (nI s) = some (nI s + 1 - 1, va_cpy f3 f1 0 (s * 64) 64, upd f2 s ds, nI s + 1) := by
  unfold F_X7_keepDraft
  have e : (nI s : Int32) * 64 = nI (s * 64) := pM s 64
  rw [if_pos (show nI s < 4 from (pLt (b := 4) (by omega) (by omega)).mpr hs), e, if_pos (nI_pos (show s * 64 < 2147483648 by omega)), pCl (show s * 64 < 2147483648 by omega), if_pos (by omega), pIx (by omega) (by omega), pCl (by omega)]
