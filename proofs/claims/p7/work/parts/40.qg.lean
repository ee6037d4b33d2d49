/-! reading: characters, blanks, numbers -/
def ch (tb : Nat → Int32) (l a : Nat) : Int32 := if a < l then tb a else -1
def sk (tb : Nat → Int32) (l : Nat) : Nat → Nat → Nat
  | 0, a => a
  | n + 1, a => if a < l ∧ tb a = 32 then sk tb l n (a + 1) else a
def skp (tb : Nat → Int32) (l a : Nat) : Nat := sk tb l (l - a) a
def dg (v : Int32) : Bool := !decide (v < 48) && !decide (57 < v)
section
variable {tb : Nat → Int32} {l : Nat}
theorem ch_end {a : Nat} (h : l ≤ a) : ch tb l a = -1 := if_neg (by omega)
theorem ch_in {a : Nat} (h : a < l) : ch tb l a = tb a := if_pos h
theorem ch_b (hb : tOK tb) {a : Nat} (h : a < l) : ∃ v, v < 256 ∧ ch tb l a = nI v := by rw [ch_in h]; exact hb a
theorem ch_m (hb : tOK tb) {a : Nat} : ch tb l a = -1 ↔ l ≤ a := by
  refine ⟨fun h => ?_, ch_end⟩
  refine Decidable.byContradiction (fun q => ?_)
  obtain ⟨v, hv, e⟩ := ch_b hb (show a < l by omega)
  rw [e, pNm (by omega)] at h; exact h
theorem sk_spec : ∀ (n a : Nat), a ≤ l → l ≤ a + n → a ≤ sk tb l n a ∧ sk tb l n a ≤ l ∧ ch tb l (sk tb l n a) ≠ 32
  | 0, a, h1, h2 => by
    unfold sk
    refine ⟨by omega, by omega, ?_⟩
    rw [ch_end (by omega)]; decide
  | n + 1, a, h1, h2 => by
    unfold sk
    by_cases c : a < l ∧ tb a = 32
    · rw [if_pos c]
      obtain ⟨e1, e2, e3⟩ := sk_spec n (a + 1) (by omega) (by omega)
      exact ⟨by omega, e2, e3⟩
    · rw [if_neg c]
      refine ⟨by omega, by omega, ?_⟩
      by_cases ca : a < l
      · rw [ch_in ca]; exact fun q => c ⟨ca, q⟩
      · rw [ch_end (by omega)]; decide
theorem skp_s {a : Nat} (h : a ≤ l) : a ≤ skp tb l a ∧ skp tb l a ≤ l ∧ ch tb l (skp tb l a) ≠ 32 := sk_spec (l - a) a h (by omega)
theorem skp_id {a : Nat} (h : ch tb l a ≠ 32) : skp tb l a = a := by
  unfold skp
  cases hn : l - a with
  | zero => rfl
  | succ n =>
    unfold sk
    rw [if_neg (fun q => h (by rw [ch_in q.1]; exact q.2))]
theorem cSkip {a : Nat} (hl : l ≤ 240) (h : a ≤ l) : F_X6_skipBlanks tb (nI l) (nI a) = some (nI (skp tb l a)) := by
  unfold F_X6_skipBlanks
  have key : ∀ (k n a : Nat) (x : Int32), a ≤ l → a + k = l → k < n → FL_X6_skipBlanks_0 tb (nI l) x n (nI a) = some (nI (sk tb l k a)) := by
    intro k
    induction k with
    | zero =>
      intro n a x h1 h2 h3
      obtain ⟨n, rfl⟩ : ∃ y, n = y + 1 := ⟨n - 1, by omega⟩
      rw [FL_X6_skipBlanks_0, if_pos ((pLe (by omega) (by omega)).mpr (by omega))]; rfl
    | succ k ih =>
      intro n a x h1 h2 h3
      obtain ⟨n, rfl⟩ : ∃ y, n = y + 1 := ⟨n - 1, by omega⟩
      rw [FL_X6_skipBlanks_0, if_neg (fun q => by have := (pLe (by omega) (by omega)).mp q; omega), pIx (by omega) (by omega), pCl (by omega), pS1]
      unfold sk
      by_cases c : tb a = 32
      · rw [if_pos c, if_pos ⟨by omega, c⟩]; exact ih n (a + 1) x (by omega) (by omega) (by omega)
      · rw [if_neg c, if_neg (fun q => c q.2)]
  exact key (l - a) 1000 a (nI a) h (by omega) (by omega)
theorem rHere {a : Nat} (hl : l ≤ 240) (h : a ≤ l) : F_X10_here (nI l) (nI a) tb = some (ch tb l a) := by
  unfold F_X10_here
  by_cases c : a < l
  · rw [if_neg (fun q => by have := (pLe (by omega) (by omega)).mp q; omega), pIx (by omega) (by omega), pCl (by omega), ch_in c]
  · rw [if_pos ((pLe (by omega) (by omega)).mpr (by omega)), ch_end (by omega)]
theorem rAhead {a : Nat} (hl : l ≤ 240) (h : a ≤ l) : F_X10_ahead (nI l) (nI a) tb = some (ch tb l (skp tb l a), nI (skp tb l a)) := by
  unfold F_X10_ahead
  have key : ∀ (k n a : Nat) (x : Int32), a ≤ l → a + k = l → k < n → FL_X10_ahead_0 (nI l) x tb n (nI a) = some (ch tb l (sk tb l k a), nI (sk tb l k a)) := by
    intro k
    induction k with
    | zero =>
      intro n a x h1 h2 h3
      obtain ⟨n, rfl⟩ : ∃ y, n = y + 1 := ⟨n - 1, by omega⟩
      rw [FL_X10_ahead_0, rHere hl h1, pBs, ch_end (by omega), if_neg (by decide), pBs]
      unfold sk; rw [ch_end (by omega)]
    | succ k ih =>
      intro n a x h1 h2 h3
      obtain ⟨n, rfl⟩ : ∃ y, n = y + 1 := ⟨n - 1, by omega⟩
      rw [FL_X10_ahead_0, rHere hl h1, pBs, pBs, pS1]
      unfold sk
      rw [ch_in (show a < l by omega)]
      by_cases c : tb a = 32
      · rw [if_pos c, if_pos ⟨by omega, c⟩]; exact ih n (a + 1) x (by omega) (by omega) (by omega)
      · rw [if_neg c, if_neg (fun q => c q.2), ch_in (show a < l by omega)]
  exact key (l - a) 1000 a (nI a) h (by omega) (by omega)
theorem cStands {a : Nat} {c : Int32} (hl : l ≤ 240) (h : a ≤ l) (hc : c ≠ -1) : F_X6_stands tb (nI l) (nI a) c = some (pb (decide (ch tb l a = c))) := by
  unfold F_X6_stands
  by_cases q : a < l
  · rw [if_neg (fun q => by have := (pLe (by omega) (by omega)).mp q; omega), pIx (by omega) (by omega), pCl (by omega), ch_in q]
    by_cases w : tb a = c <;> simp [w, pb]
  · rw [if_pos ((pLe (by omega) (by omega)).mpr (by omega)), ch_end (by omega)]
    have : ¬ (-1 : Int32) = c := fun w => hc w.symm
    simp [this, pb]
theorem cDig {a : Nat} (hl : l ≤ 240) (h : a ≤ l) : F_X6_standsDigit tb (nI l) (nI a) = some (pb (dg (ch tb l a))) := by
  unfold F_X6_standsDigit dg
  by_cases q : a < l
  · rw [if_neg (fun q => by have := (pLe (by omega) (by omega)).mp q; omega), pIx (by omega) (by omega), pIx (by omega) (by omega), pCl (by omega), ch_in q]
    by_cases w : tb a < 48 <;> by_cases w2 : 57 < tb a <;> simp [w, w2, pb]
  · rw [if_pos ((pLe (by omega) (by omega)).mpr (by omega)), ch_end (by omega)]; rfl
theorem rDig {v : Int32} : F_X10_isDigit v = some (pb (dg v)) := by
  unfold F_X10_isDigit dg
  by_cases w : v < 48 <;> by_cases w2 : 57 < v <;> simp [w, w2, pb]
theorem dg_in {a : Nat} (h : dg (ch tb l a) = true) : a < l := by
  refine Decidable.byContradiction (fun q => ?_)
  rw [ch_end (by omega)] at h; exact absurd h (by decide)
theorem cRdD {a : Nat} {rv : Int32} (hl : l ≤ 240) (h : a ≤ l) : F_X6_readDigit tb (nI l) (nI a) rv = some (if dg (ch tb l a) = true then (1, nI (a + 1), ch tb l a - 48) else (0, nI a, rv)) := by
  unfold F_X6_readDigit
  rw [cDig hl h, pBs]
  by_cases c : dg (ch tb l a) = true
  · have := dg_in c
    rw [c, if_neg (show ¬ pb true = 0 from by decide), pIx (by omega) (by omega), pCl (by omega), pS1, if_pos rfl, ch_in this]
  · have c' : dg (ch tb l a) = false := by simpa using c
    rw [c', if_pos (show pb false = 0 from rfl), if_neg (by decide)]
/-- digits, so many at most -/
def nmG (tb : Nat → Int32) (l : Nat) : Nat → Nat → Int32 → Nat × Int32
  | 0, a, x => (a, x)
  | k + 1, a, x => if dg (ch tb l a) = true then nmG tb l k (a + 1) (x * 10 + (ch tb l a - 48)) else (a, x)
theorem nmG_le : ∀ (k a : Nat) (x : Int32), a ≤ l → a ≤ (nmG tb l k a x).1 ∧ (nmG tb l k a x).1 ≤ l
  | 0, a, x, h => ⟨Nat.le_refl a, h⟩
  | k + 1, a, x, h => by
    unfold nmG
    by_cases c : dg (ch tb l a) = true
    · rw [if_pos c]
      have := dg_in c
      have ih := nmG_le k (a + 1) (x * 10 + (ch tb l a - 48)) (by omega)
      exact ⟨by omega, ih.2⟩
    · rw [if_neg c]; exact ⟨Nat.le_refl a, h⟩
theorem cNum {a z : Nat} {rv : Int32} (hl : l ≤ 240) (h : a ≤ l) (hz : z ≤ 3) : F_X6_readNumber tb (nI l) (nI a) rv (nI z) = some (pb (decide (a < (nmG tb l z a 0).1) && !dg (ch tb l (nmG tb l z a 0).1)), nI (nmG tb l z a 0).1, (nmG tb l z a 0).2) := by
  unfold F_X6_readNumber
  have key : ∀ (k n c b : Nat) (x y : Int32), c + k = z → k < n → b ≤ l → b = a + c → FL_X6_readNumber_4 tb (nI l) (nI a) rv (nI z) n x (nI c) (nI b) y = some (pb (decide (a < (nmG tb l k b x).1) && !dg (ch tb l (nmG tb l k b x).1)), nI (nmG tb l k b x).1, (nmG tb l k b x).2) := by
    intro k
    induction k with
    | zero =>
      intro n c b x y h1 h2 h3 h4
      obtain ⟨n, rfl⟩ : ∃ y, n = y + 1 := ⟨n - 1, by omega⟩
      obtain rfl : c = z := by omega
      rw [FL_X6_readNumber_4, if_pos (le_rfl32 _), cDig hl h3, pBs]
      unfold nmG
      by_cases c0 : c = 0
      · rw [if_pos (by rw [pLe0 (by omega)]; exact c0)]
        have : ¬ a < b := by omega
        simp [this, pb]
      · rw [if_neg (by rw [pLe0 (by omega)]; exact c0)]
        have : a < b := by omega
        by_cases w : dg (ch tb l b) = true <;> simp [this, w, pb]
    | succ k ih =>
      intro n c b x y h1 h2 h3 h4
      obtain ⟨n, rfl⟩ : ∃ y, n = y + 1 := ⟨n - 1, by omega⟩
      rw [FL_X6_readNumber_4, if_neg (fun q => by have := (pLe (by omega) (by omega)).mp q; omega), cRdD hl h3, pBs]
      unfold nmG
      by_cases w : dg (ch tb l b) = true
      · have := dg_in w
        rw [if_pos w, if_pos w]
        show (if (1 : Int32) = 0 then _ else FL_X6_readNumber_4 tb (nI l) (nI a) rv (nI z) n (x * 10 + (ch tb l b - 48)) (nI c + 1) (nI (b + 1)) (ch tb l b - 48)) = _
        rw [if_neg (by decide), pS1]
        exact ih n (c + 1) (b + 1) _ _ (by omega) (by omega) (by omega) (by omega)
      · have w' : dg (ch tb l b) = false := by simpa using w
        rw [if_neg w, if_neg w]
        show (if (0 : Int32) = 0 then (if nI c ≤ 0 then some (0, nI b, x) else (F_X6_standsDigit tb (nI l) (nI b)).bind _) else _) = _
        rw [if_pos rfl, cDig hl h3, pBs, w']
        by_cases c0 : c = 0
        · rw [if_pos (by rw [pLe0 (by omega)]; exact c0)]
          have : ¬ a < b := by omega
          simp [this, pb]
        · rw [if_neg (by rw [pLe0 (by omega)]; exact c0)]
          have : a < b := by omega
          simp [this, w', pb]
  exact key z 1000 0 a 0 rv (by omega) (by omega) h (by omega)
/-- a number, as the reference reads it -/
def nmR (tb : Nat → Int32) (l z : Nat) (lo hi : Int32) (a : Nat) : Int32 × Nat × Int32 :=
  if dg (ch tb l a) = true then
    (if dg (ch tb l (nmG tb l z a 0).1) = true then ((nmG tb l z a 0).2, (nmG tb l z a 0).1, nI (nmG tb l z a 0).1)
     else if (!decide ((nmG tb l z a 0).2 < lo) && !decide (hi < (nmG tb l z a 0).2)) = true then ((nmG tb l z a 0).2, (nmG tb l z a 0).1, -1)
     else ((nmG tb l z a 0).2, (nmG tb l z a 0).1 - 1, nI ((nmG tb l z a 0).1 - 1)))
  else (lo, a, nI a)
theorem dig_eq (x o : Int32) : ((10 * x) + o) - 48 = x * 10 + (o - 48) := by
  rw [Int32.mul_comm 10 x, Int32.sub_eq_add_neg, Int32.sub_eq_add_neg, Int32.add_assoc]
theorem rNum {a z : Nat} {lo hi : Int32} (hl : l ≤ 240) (h : a ≤ l) (hz : z ≤ 3) (hz1 : 1 ≤ z) : F_X10_number (nI l) (nI a) (-1) tb (nI z) lo hi = some ((nmR tb l z lo hi (skp tb l a)).1, nI (nmR tb l z lo hi (skp tb l a)).2.1, (nmR tb l z lo hi (skp tb l a)).2.2) := by
  unfold F_X10_number
  obtain ⟨s1, s2, s3⟩ := skp_s (tb := tb) h
  rw [rAhead hl h, pBs]
  generalize skp tb l a = b at s1 s2 s3 ⊢
  show ((F_X10_isDigit (ch tb l b)).bind fun o_3 => _) = _
  rw [rDig, pBs]
  unfold nmR F_X10_bad
  by_cases w : dg (ch tb l b) = true
  · rw [w, if_neg (show ¬ pb true = 0 from by decide), if_pos rfl]
    have hgt : b < (nmG tb l z b 0).1 := by
      obtain ⟨y, rfl⟩ : ∃ y, z = y + 1 := ⟨z - 1, by omega⟩
      unfold nmG; rw [if_pos w]
      have := dg_in w
      have := (nmG_le (tb := tb) (l := l) y (b + 1) (0 * 10 + (ch tb l b - 48)) (by omega)).1
      omega
    have key : ∀ (k n c d : Nat) (x x0 : Int32), c + k = z → k < n → d ≤ l → b < (nmG tb l k d x).1 → FL_X10_number_22 (nI l) x0 (-1) tb (nI z) lo hi n x (nI c) (nI d) (-1) = some (if dg (ch tb l (nmG tb l k d x).1) = true then ((nmG tb l k d x).2, nI (nmG tb l k d x).1, nI (nmG tb l k d x).1) else if (!decide ((nmG tb l k d x).2 < lo) && !decide (hi < (nmG tb l k d x).2)) = true then ((nmG tb l k d x).2, nI (nmG tb l k d x).1, -1) else ((nmG tb l k d x).2, nI ((nmG tb l k d x).1 - 1), nI ((nmG tb l k d x).1 - 1))) := by
      intro k
      induction k with
      | zero =>
        intro n c d x x0 h1 h2 h3 h4
        obtain ⟨n, rfl⟩ : ∃ y, n = y + 1 := ⟨n - 1, by omega⟩
        obtain rfl : c = z := by omega
        unfold nmG at h4 ⊢
        have hd1 : b < d := h4
        have ed : nI d - 1 = nI (d - 1) := by rw [show (1 : Int32) = nI 1 from rfl, pSub (by omega) (by omega)]
        rw [FL_X10_number_22, if_pos (le_rfl32 _), rHere hl h3, pBs, rDig, pBs, rIn, pBs, ed]
        unfold F_X10_bad
        by_cases q : dg (ch tb l d) = true <;> by_cases q2 : (!decide (x < lo) && !decide (hi < x)) = true <;> simp [q, q2, pb, pBs]
      | succ k ih =>
        intro n c d x x0 h1 h2 h3 h4
        obtain ⟨n, rfl⟩ : ∃ y, n = y + 1 := ⟨n - 1, by omega⟩
        rw [FL_X10_number_22, if_neg (fun q => by have := (pLe (by omega) (by omega)).mp q; omega), rHere hl h3, pBs, rDig, pBs, pBs, pBs, rIn, pBs]
        unfold nmG at h4 ⊢
        by_cases q : dg (ch tb l d) = true
        · have := dg_in q
          rw [if_pos q] at h4 ⊢
          rw [q, if_neg (show ¬ pb true = 0 from by decide), pS1, pS1, dig_eq]
          exact ih n (c + 1) (d + 1) _ _ (by omega) (by omega) (by omega) h4
        · have q' : dg (ch tb l d) = false := by simpa using q
          rw [if_neg q] at h4 ⊢
          have hd1 : b < d := h4
          have ed : nI d - 1 = nI (d - 1) := by rw [show (1 : Int32) = nI 1 from rfl, pSub (by omega) (by omega)]
          rw [ed]
          unfold F_X10_bad
          by_cases q2 : (!decide (x < lo) && !decide (hi < x)) = true <;> simp [q', q2, pb, pBs, rDig]
    rw [show FL_X10_number_22 (nI l) (nI a) (-1) tb (nI z) lo hi 1000 0 0 ((ch tb l b, nI b) : Int32 × Int32).2 (-1) = _ from key z 1000 0 b 0 (nI a) (by omega) (by omega) s2 hgt]
    by_cases q : dg (ch tb l (nmG tb l z b 0).1) = true
    · rw [if_pos q, if_pos q]
    · rw [if_neg q, if_neg q]
      by_cases q2 : (!decide ((nmG tb l z b 0).2 < lo) && !decide (hi < (nmG tb l z b 0).2)) = true
      · rw [if_pos q2, if_pos q2]
      · rw [if_neg q2, if_neg q2]
  · have w' : dg (ch tb l b) = false := by simpa using w
    rw [w', if_pos (show pb false = 0 from rfl), if_pos (show (-1 : Int32) = -1 from rfl), pBs, if_neg Bool.false_ne_true]
theorem idx0 : ∀ v : Fin 256, F_J0_indexOf_0 (nI v.1) = F_X10_itemOf 115 (nI v.1) := by decide +kernel
theorem idx1 : ∀ v : Fin 256, F_J0_indexOf_1 (nI v.1) = F_X10_itemOf 100 (nI v.1) := by decide +kernel
theorem idx2 : ∀ v : Fin 256, F_J0_indexOf_2 (nI v.1) = F_X10_sortOf (nI v.1) := by decide +kernel
theorem itm0 : ∀ v : Fin 256, F_X10_itemOf 115 (nI v.1) = some (-1) ∨ ∃ i : Fin 8, F_X10_itemOf 115 (nI v.1) = some (nI i.1) ∧ v.1 ≠ 59 := by decide +kernel
theorem itm1 : ∀ v : Fin 256, F_X10_itemOf 100 (nI v.1) = some (-1) ∨ ∃ i : Fin 6, F_X10_itemOf 100 (nI v.1) = some (nI i.1) ∧ v.1 ≠ 59 := by decide +kernel
theorem itm2 : ∀ v : Fin 256, F_X10_sortOf (nI v.1) = some (-1) ∨ ∃ i : Fin 6, F_X10_sortOf (nI v.1) = some (nI i.1) := by decide +kernel
end
