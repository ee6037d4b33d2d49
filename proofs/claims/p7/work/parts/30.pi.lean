/-! refusing -/
theorem pF_map {α β : Type} {φ : α → β} {g : Nat → α → α} {g' : Nat → β → β} (I : Nat → β → Prop) : ∀ (k j : Nat) (a : α), (∀ i a, j ≤ i → i < j + k → I i (φ a) → φ (g i a) = g' i (φ a)) → (∀ i b, j ≤ i → i < j + k → I i b → I (i + 1) (g' i b)) → I j (φ a) → φ (pF g k j a) = pF g' k j (φ a)
  | 0, _, _, _, _, _ => rfl
  | k + 1, j, a, h1, h2, h3 => by
    show φ (pF g k (j + 1) (g j a)) = pF g' k (j + 1) (g' j (φ a))
    have e := h1 j a (by omega) (by omega) h3
    rw [← e]
    exact pF_map I k (j + 1) (g j a) (fun i a p q => h1 i a (by omega) (by omega)) (fun i b p q => h2 i b (by omega) (by omega)) (by rw [e]; exact h2 j _ (by omega) (by omega) h3)
theorem pF_id {α : Type} {g : Nat → α → α} {a : α} : ∀ (k j : Nat), (∀ i, j ≤ i → i < j + k → g i a = a) → pF g k j a = a
  | 0, _, _ => rfl
  | k + 1, j, h => by
    show pF g k (j + 1) (g j a) = a
    rw [h j (by omega) (by omega)]
    exact pF_id k (j + 1) (fun i p q => h i (by omega) (by omega))
theorem nz_nz (f : Nat → Int32) : nz (nz f) = nz f := by
  funext k; simp only [nz]; grind
theorem zCl_congr {N N' : Nat → Int32} {p : Int32 → Bool} (h : ∀ c, c < 8 → N' (32 + c) = N (32 + c)) : ∀ (k : Nat) (x : Int32), zCl N' p k x = zCl N p k x
  | 0, _ => rfl
  | k + 1, x => by
    rcases pX3 x with c | c | ⟨c, hc, rfl⟩
    · simp only [zCl, c, true_or, if_true]
    · simp only [zCl, c, or_true, if_true]
    · rw [zCl_s hc, zCl_s hc, h c hc]
      split
      · rfl
      · exact zCl_congr h k _
theorem zHang_congr {N N' : Nat → Int32} {e : Nat} {z : Int32} (h : ∀ c, c < 8 → N' (32 + c) = N (32 + c)) (he : e < 8) : zHang N' e z = zHang N e z := by
  unfold zHang; rw [h e he, zCl_congr h]
/-- who is in reset, at a bite or configured, hangs on configured ones alone -/
theorem chain_cl {m : Nat} {N : Nat → Int32} {d : Nat} (hm : m ≤ 8) (hC : wC m N) (hd : d < m) : ∀ (k c : Nat), (c = 8 ∨ (c < m ∧ N c = 6)) → zCl N (fun h => decide (h = nI d)) k (nI c) = nI d → N d = 6
  | 0, c, hc, e => by
    have := (nI_eq (a := c) (b := d) (by omega) (by omega)).mp e
    subst this
    rcases hc with hc | hc
    · omega
    · exact hc.2
  | k + 1, c, hc, e => by
    rcases hc with rfl | ⟨h1, h2⟩
    · rw [zCl_8] at e
      have := (nI_eq (a := 8) (b := d) (by omega) (by omega)).mp e
      omega
    · rw [zCl_s (by omega)] at e
      by_cases cd : c = d
      · subst cd; exact h2
      · rw [if_neg (by simp (disch := omega) only [pEq, cd, decide_false]; exact Bool.false_ne_true)] at e
        rcases hC c h1 (Or.inr (Or.inr (Or.inr h2))) with h3 | ⟨b, hb, h3, h4⟩
        · rw [h3] at e; exact chain_cl hm hC hd k 8 (Or.inl rfl) e
        · rw [h3] at e; exact chain_cl hm hC hd k b (Or.inr ⟨hb, h4⟩) e
def runs36 (x : Int32) : Prop := x = 3 ∨ x = 4 ∨ x = 5 ∨ x = 6
theorem chain {m : Nat} {N : Nat → Int32} {d e : Nat} (hm : m ≤ 8) (hC : wC m N) (hd : d < m) (he : e < m) (hs : runs36 (N e)) (hh : zHang N e (nI d) = true) : N d = 6 := by
  unfold zHang at hh
  have hh := of_decide_eq_true hh
  rcases hC e he hs with h3 | ⟨b, hb, h3, h4⟩
  · rw [h3] at hh; exact chain_cl hm hC hd 8 8 (Or.inl rfl) hh
  · rw [h3] at hh; exact chain_cl hm hC hd 8 b (Or.inr ⟨hb, h4⟩) hh
theorem st36 {x : Int32} (h : ∃ k, k ≤ 7 ∧ x = nI k) : (¬ x < 3 ∧ ¬ 6 < x) ↔ runs36 x := by
  obtain ⟨k, hk, rfl⟩ := h
  have : ∀ k : Fin 8, (¬ nI k.1 < 3 ∧ ¬ 6 < nI k.1) ↔ (nI k.1 = 3 ∨ nI k.1 = 4 ∨ nI k.1 = 5 ∨ nI k.1 = 6) := by decide
  exact this ⟨k, by omega⟩
theorem bsy36 {N : Nat → Int32} {d : Nat} (h : ∃ k, k ≤ 7 ∧ N d = nI k) : (zBsy N d = true ∨ N d = 6) ↔ runs36 (N d) := by
  obtain ⟨k, hk, e⟩ := h
  unfold zBsy runs36
  rw [e]
  have : ∀ k : Fin 8, ((!decide (nI k.1 < 3) && !decide (5 < nI k.1)) = true ∨ nI k.1 = 6) ↔ (nI k.1 = 3 ∨ nI k.1 = 4 ∨ nI k.1 = 5 ∨ nI k.1 = 6) := by decide
  exact this ⟨k, by omega⟩
def cRf (z : Int32) (e : Nat) (f : Nat → Int32) : Nat → Int32 := if zHang (nz f) e z = true ∧ ¬ f e < 3 ∧ ¬ 6 < f e then nQ f e else f
def nRef0 (f : Nat → Int32) (d : Nat) (why : Int32) : Nat → Int32 := upd (nLow f d 7) (64 + d) why
def nRefuse (m : Nat) (f : Nat → Int32) (d : Nat) (why : Int32) : Nat → Int32 := pF (cRf (nI d)) m 0 (nRef0 f d why)
theorem cRefuse {m : Nat} {fr fu fp : Nat → Int32} {d : Nat} {why : Int32} (hm : m ≤ 8) (hd : d < 8) : F_X0_refuse fr (nI m) fu fp (nI d) why = some (nRefuse m fr d why) := by
  unfold F_X0_refuse nRefuse nRef0
  simp (disch := omega) only [pIx, pCl, pLe, pLt, pEq, pNm, pS1, pA0, pA8, pA16, pA24, pA32, pA40, pA48, pA56, pA64, pA72, pA80, pA88, pBs, pE8, pb0, pb1, pbo, if_true, if_false, pIy, pbq, pNz, pIw, cLower]
  refine pLoop0 (m := m) (L := fun n i a => FL_X0_refuse_19 fr (nI m) fu fp (nI d) why n i a) (g := cRf (nI d)) (fin := id) (fun n j a hj => ?_) (fun n a => ?_) 1000 _ (by omega)
  · show FL_X0_refuse_19 fr (nI m) fu fp (nI d) why (n + 1) (nI j) a = _
    simp (disch := omega) only [FL_X0_refuse_19, pIx, pCl, pLe, pLt, pEq, pNm, pS1, pA0, pA8, pA16, pA24, pA32, pA40, pA48, pA56, pA64, pA72, pA80, pA88, pBs, pE8, pb0, pb1, pbo, if_true, if_false, pIy, pbq, pNz, pIw, cHang, cQueue, cRf]
    rw [if_neg (by omega)]
    by_cases c : zHang (nz a) j (nI d) = true <;> by_cases c2 : a j < 3 <;> by_cases c3 : 6 < a j <;> simp [c, c2, c3]
  · show FL_X0_refuse_19 fr (nI m) fu fp (nI d) why (n + 1) (nI m) a = _
    simp (disch := omega) only [FL_X0_refuse_19, pIx, pCl, pLe, pLt, pEq, pNm, pS1, pA0, pA8, pA16, pA24, pA32, pA40, pA48, pA56, pA64, pA72, pA80, pA88, pBs, pE8, pb0, pb1, pbo, if_true, if_false, pIy, pbq, pNz, pIw]
    rw [if_pos (Nat.le_refl m)]; rfl
theorem cRf_nz {z : Int32} {e : Nat} {f : Nat → Int32} (he : e < 8) : nz (cRf z e f) = cRf z e (nz f) := by
  unfold cRf
  simp (disch := omega) only [nz_nz, pNz]
  split
  · exact nQ_nz he
  · rfl
theorem cRf_nf {z : Int32} {e : Nat} {f : Nat → Int32} (he : e < 8) : nf (cRf z e f) = nf f := by
  unfold cRf
  split
  · exact nQ_nf he
  · rfl
theorem nRef0_nz {f : Nat → Int32} {d : Nat} {why : Int32} (hd : d < 8) : nz (nRef0 f d why) = nRef0 (nz f) d why := by
  unfold nRef0; simp (disch := omega) only [nzU, nLow_nz]
theorem nRefuse_nz {m : Nat} {f : Nat → Int32} {d : Nat} {why : Int32} (hm : m ≤ 8) (hd : d < 8) : nz (nRefuse m f d why) = nRefuse m (nz f) d why := by
  unfold nRefuse
  rw [← nRef0_nz hd]
  exact pF_map (fun _ _ => True) m 0 _ (fun i a _ hi _ => cRf_nz (by omega)) (fun _ _ _ _ _ => trivial) trivial
theorem pF_const {α β : Type} {φ : α → β} {g : Nat → α → α} : ∀ (k j : Nat) (a : α), (∀ i a, j ≤ i → i < j + k → φ (g i a) = φ a) → φ (pF g k j a) = φ a
  | 0, _, _, _ => rfl
  | k + 1, j, a, h => by
    show φ (pF g k (j + 1) (g j a)) = φ a
    rw [pF_const k (j + 1) (g j a) (fun i a p q => h i a (by omega) (by omega)), h j a (by omega) (by omega)]
theorem nRefuse_nf {m : Nat} {f : Nat → Int32} {d : Nat} {why : Int32} (hm : m ≤ 8) (hd : d < 8) : nf (nRefuse m f d why) = nf f := by
  unfold nRefuse
  rw [pF_const (φ := nf) m 0 _ (fun i a _ hi => cRf_nf (by omega))]
  unfold nRef0; simp (disch := omega) only [nfU, nLow_nf]
/-- queueing one that is in its place -/
theorem nQ_same {N : Nat → Int32} {d e j : Nat} (hd : d < 8) (he : e < 8) (hn : e ≠ d) (hj : j < 12) : nQ N d (8 * j + e) = N (8 * j + e) := by
  simp only [nQ, nLow, upd]; grind
theorem nQ_0 {N : Nat → Int32} {d : Nat} (hd : d < 8) : nQ N d d = 2 := by simp only [nQ, nLow, upd]; grind
theorem nQ_32 {N : Nat → Int32} {d c : Nat} (hd : d < 8) (hc : c < 8) : nQ N d (32 + c) = N (32 + c) := by simp only [nQ, nLow, upd]; grind
theorem nQ_72 {N : Nat → Int32} {d c : Nat} (hd : d < 8) (hc : c < 8) : nQ N d (72 + c) = N (72 + c) := by simp only [nQ, nLow, upd]; grind
theorem nQ_ok {N : Nat → Int32} {d : Nat} (hd : d < 8) (h : dOK N d) : dOK (nQ N d) d := by
  obtain ⟨-, -, -, -, -, -, -, -, h9⟩ := h
  have e0 := nQ_0 (N := N) hd
  have e1 : nQ N d (8 + d) = 0 := by simp only [nQ, nLow, upd]; grind
  have e6 : nQ N d (48 + d) = -1 := by simp only [nQ, nLow, upd]; grind
  have e7 : nQ N d (56 + d) = 0 := by simp only [nQ, nLow, upd]; grind
  have e8 : nQ N d (64 + d) = 0 := by simp only [nQ, nLow, upd]; grind
  have e11 : nQ N d (88 + d) = 0 := by simp only [nQ, nLow, upd]; grind
  unfold dOK
  rw [e0, e1, e6, e7, e8, e11, nQ_72 hd hd]
  refine ⟨⟨2, by decide, rfl⟩, fun h => absurd h (by decide), fun h => absurd h (by decide), fun _ => rfl, fun h => absurd rfl h, fun _ => ⟨rfl, rfl, rfl⟩, fun h => absurd h (by decide), fun _ => rfl, h9⟩
theorem nRef0_same {N : Nat → Int32} {d e j : Nat} {why : Int32} (hd : d < 8) (he : e < 8) (hn : e ≠ d) (hj : j < 12) : nRef0 N d why (8 * j + e) = N (8 * j + e) := by
  simp only [nRef0, nLow, upd]; grind
theorem nRef0_0 {N : Nat → Int32} {d : Nat} {why : Int32} (hd : d < 8) : nRef0 N d why d = 7 := by simp only [nRef0, nLow, upd]; grind
theorem nRef0_32 {N : Nat → Int32} {d c : Nat} {why : Int32} (hd : d < 8) (hc : c < 8) : nRef0 N d why (32 + c) = N (32 + c) := by simp only [nRef0, nLow, upd]; grind
theorem nRef0_ok {N : Nat → Int32} {d : Nat} {why : Int32} (hd : d < 8) (h : dOK N d) : dOK (nRef0 N d why) d := by
  obtain ⟨-, -, -, -, -, -, -, -, h9⟩ := h
  have e0 := nRef0_0 (N := N) (why := why) hd
  have e1 : nRef0 N d why (8 + d) = 0 := by simp only [nRef0, nLow, upd]; grind
  have e2 : nRef0 N d why (16 + d) = 0 := by simp only [nRef0, nLow, upd]; grind
  have e6 : nRef0 N d why (48 + d) = -1 := by simp only [nRef0, nLow, upd]; grind
  have e7 : nRef0 N d why (56 + d) = 0 := by simp only [nRef0, nLow, upd]; grind
  have e9 : nRef0 N d why (72 + d) = N (72 + d) := by simp only [nRef0, nLow, upd]; grind
  have e11 : nRef0 N d why (88 + d) = 0 := by simp only [nRef0, nLow, upd]; grind
  unfold dOK
  rw [e0, e1, e2, e6, e7, e9, e11]
  exact ⟨⟨7, by decide, rfl⟩, fun h => absurd h (by decide), fun h => absurd h (by decide), fun _ => rfl, fun _ => rfl, fun _ => ⟨rfl, rfl, rfl⟩, fun h => absurd h (by decide), fun h => absurd rfl h, h9⟩
/-- the loop of a refusal: what holds at each round -/
def rfI (m : Nat) (N0 : Nat → Int32) (z : Int32) (j : Nat) (N : Nat → Int32) : Prop := (∃ L, wL m N L) ∧ (∀ e, e < m → dOK N e) ∧ (∀ c, c < 8 → N (32 + c) = N0 (32 + c)) ∧ (∀ e, e < m → (e < j ∧ zHang N0 e z = true ∧ runs36 (N0 e) → N e = 2) ∧ (¬ (e < j ∧ zHang N0 e z = true ∧ runs36 (N0 e)) → N e = N0 e)) ∧ nz N = N
theorem rfI_step {m : Nat} {N0 N : Nat → Int32} {z : Int32} {j : Nat} (hm : m ≤ 8) (hj : j < m) (h : rfI m N0 z j N) : rfI m N0 z (j + 1) (cRf z j N) := by
  obtain ⟨⟨L, hL⟩, hO, hH, hE, hz⟩ := h
  have hNj : N j = N0 j := (hE j hj).2 (fun c => by omega)
  have hg : zHang N j z = zHang N0 j z := zHang_congr hH (by omega)
  unfold cRf
  rw [hz, hg]
  by_cases c : zHang N0 j z = true ∧ ¬ N j < 3 ∧ ¬ 6 < N j
  · rw [if_pos c]
    have hs : runs36 (N j) := (st36 (hO j hj).1).mp c.2
    have h0 : N j ≠ 0 := by rcases hs with h | h | h | h <;> rw [h] <;> decide
    refine ⟨⟨L, hL.keep (fun e he => ?_) (fun e he => nQ_32 (by omega) (by omega))⟩, fun e he => ?_, fun c hc => (nQ_32 (by omega) hc).trans (hH c hc), fun e he => ?_, by rw [nQ_nz (by omega), hz]⟩
    · by_cases ce : e = j
      · subst ce; rw [nQ_0 (by omega)]; exact ⟨fun _ => h0, fun _ => by decide⟩
      · have := nQ_same (N := N) (d := j) (e := e) (j := 0) (by omega) (by omega) ce (by decide)
        simp only [Nat.mul_zero, Nat.zero_add] at this
        rw [this]
    · by_cases ce : e = j
      · subst ce; exact nQ_ok (by omega) (hO e he)
      · exact dOK_congr (fun q hq => nQ_same (by omega) (by omega) ce hq) (hO e he)
    · by_cases ce : e = j
      · subst ce
        refine ⟨fun _ => nQ_0 (by omega), fun h => absurd ⟨by omega, c.1, hNj ▸ hs⟩ h⟩
      · have := nQ_same (N := N) (d := j) (e := e) (j := 0) (by omega) (by omega) ce (by decide)
        simp only [Nat.mul_zero, Nat.zero_add] at this
        rw [this]
        exact ⟨fun h => (hE e he).1 ⟨by omega, h.2⟩, fun h => (hE e he).2 (fun h' => h ⟨by omega, h'.2⟩)⟩
  · rw [if_neg c]
    refine ⟨⟨L, hL⟩, hO, hH, fun e he => ?_, hz⟩
    by_cases ce : e = j
    · subst ce
      refine ⟨fun h => ?_, fun _ => hNj⟩
      exact absurd ⟨h.2.1, (st36 (hO e he).1).mpr (hNj.symm ▸ h.2.2)⟩ c
    · exact ⟨fun h => (hE e he).1 ⟨by omega, h.2⟩, fun h => (hE e he).2 (fun h' => h ⟨by omega, h'.2⟩)⟩
theorem rfI_0 {m : Nat} {N : Nat → Int32} {d : Nat} {why z : Int32} (hm : m ≤ 8) (hd : d < m) (hz : nz N = N) (h : (∃ L, wL m N L) ∧ (∀ e, e < m → dOK N e)) (h0 : N d ≠ 0) : rfI m (nRef0 N d why) z 0 (nRef0 N d why) := by
  obtain ⟨⟨L, hL⟩, hO⟩ := h
  refine ⟨⟨L, hL.keep (fun e he => ?_) (fun e he => nRef0_32 (by omega) (by omega))⟩, fun e he => ?_, fun _ _ => rfl, fun e he => ⟨fun h => by omega, fun _ => rfl⟩, by rw [nRef0_nz (by omega), hz]⟩
  · by_cases ce : e = d
    · subst ce; rw [nRef0_0 (by omega)]; exact ⟨fun _ => h0, fun _ => by decide⟩
    · have := nRef0_same (N := N) (why := why) (d := d) (e := e) (j := 0) (by omega) (by omega) ce (by decide)
      simp only [Nat.mul_zero, Nat.zero_add] at this
      rw [this]
  · by_cases ce : e = d
    · subst ce; exact nRef0_ok (by omega) (hO e he)
    · exact dOK_congr (fun q hq => nRef0_same (by omega) (by omega) ce hq) (hO e he)
theorem nRefuse_I {m : Nat} {N : Nat → Int32} {d : Nat} {why : Int32} (hm : m ≤ 8) (hd : d < m) (hz : nz N = N) (h : (∃ L, wL m N L) ∧ (∀ e, e < m → dOK N e)) (h0 : N d ≠ 0) : rfI m (nRef0 N d why) (nI d) m (nRefuse m N d why) := by
  have := pF_inv (g := cRf (nI d)) (fun j a => rfI m (nRef0 N d why) (nI d) j a) m 0 (nRef0 N d why) (fun i a _ hi hI => rfI_step hm (by omega) hI) (rfI_0 hm hd hz h h0)
  rw [Nat.zero_add] at this
  exact this
