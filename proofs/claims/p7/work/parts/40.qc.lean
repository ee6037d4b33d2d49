/-! the order of those that will run, the reference's -/
theorem dMorgan (a b : Int32) : (a ||| b) ^^^ -1 = (b ^^^ -1) &&& (a ^^^ -1) := by
  apply Int32.toBitVec_inj.1
  have e : (-1 : Int32).toBitVec = BitVec.allOnes 32 := by decide
  simp only [Int32.toBitVec_xor, Int32.toBitVec_or, Int32.toBitVec_and, e]
  ext i hi
  simp only [BitVec.getElem_xor, BitVec.getElem_or, BitVec.getElem_and, BitVec.getElem_allOnes]
  cases a.toBitVec[i] <;> cases b.toBitVec[i] <;> rfl
theorem and_as (a b c : Int32) : a &&& (b &&& c) = (a &&& b) &&& c := by rw [Int32.and_assoc]
theorem pMin8 : ∀ (b0 b1 b2 b3 b4 b5 b6 b7 : Bool) (k : Fin 8), pB8 b0 b1 b2 b3 b4 b5 b6 b7 &&& ((1 <<< (nI k.1 &&& 31)) ^^^ -1) = pB8 (b0 && !decide (k.1 = 0)) (b1 && !decide (k.1 = 1)) (b2 && !decide (k.1 = 2)) (b3 && !decide (k.1 = 3)) (b4 && !decide (k.1 = 4)) (b5 && !decide (k.1 = 5)) (b6 && !decide (k.1 = 6)) (b7 && !decide (k.1 = 7)) := by decide +kernel
theorem pMin {q : Nat → Bool} {m d : Nat} (hm : m ≤ 8) (hd : d < 8) : pSet q m &&& ((1 <<< (nI d &&& 31)) ^^^ -1) = pSet (fun e => q e && !decide (d = e)) m := by
  rw [pSetm hm, pSet8, pSetm (p := fun e => q e && !decide (d = e)) hm, pSet8]
  have h := pMin8 (q 0 && decide (0 < m)) (q 1 && decide (1 < m)) (q 2 && decide (2 < m)) (q 3 && decide (3 < m)) (q 4 && decide (4 < m)) (q 5 && decide (5 < m)) (q 6 && decide (6 < m)) (q 7 && decide (7 < m)) ⟨d, hd⟩
  rw [h]
  have key : ∀ j, ((q j && decide (j < m)) && !decide (d = j)) = ((q j && !decide (d = j)) && decide (j < m)) := fun j => by
    cases q j <;> cases decide (j < m) <;> cases decide (d = j) <;> rfl
  simp only [key]
theorem and_m1 (a : Int32) : a &&& (0 ^^^ -1) = a := by
  have : (0 : Int32) ^^^ -1 = -1 := by decide
  rw [this]
  apply Int32.toBitVec_inj.1
  rw [Int32.toBitVec_and]
  have e : (-1 : Int32).toBitVec = BitVec.allOnes 32 := by decide
  rw [e, BitVec.and_allOnes]
theorem pDif {p q : Nat → Bool} {m : Nat} (hm : m ≤ 8) : pSet q m &&& (pSet p m ^^^ -1) = pSet (fun d => q d && !p d) m := by
  have key : ∀ (k j : Nat) (q : Nat → Bool) (a : Int32), j + k ≤ 8 → pSet q m &&& (pF (pSb p) k j a ^^^ -1) = pSet (fun d => q d && !(p d && decide (j ≤ d ∧ d < j + k))) m &&& (a ^^^ -1) := by
    intro k
    induction k with
    | zero =>
      intro j q a _
      have : (fun d => q d && !(p d && decide (j ≤ d ∧ d < j + 0))) = q := by
        funext d
        have : ¬ (j ≤ d ∧ d < j + 0) := by omega
        rw [decide_eq_false this]; simp
      rw [this]; rfl
    | succ k ih =>
      intro j q a hj
      show pSet q m &&& (pF (pSb p) k (j + 1) (pSb p j a) ^^^ -1) = _
      rw [ih (j + 1) q _ (by omega)]
      unfold pSb
      by_cases c : p j = true
      · rw [if_pos c, dMorgan, and_as, pMin hm (by omega)]
        congr 2
        funext d
        by_cases cd : d = j
        · subst cd; simp [c]
        · have e1 : (j + 1 ≤ d ∧ d < j + 1 + k) ↔ (j ≤ d ∧ d < j + (k + 1)) := by omega
          have e2 : ¬ j = d := fun q => cd q.symm
          simp [e1, e2]
      · rw [if_neg c]
        have : a ||| 0 = a := by simp
        rw [this]
        congr 2
        funext d
        by_cases cd : d = j
        · subst cd; simp [c]
        · have e1 : (j + 1 ≤ d ∧ d < j + 1 + k) ↔ (j ≤ d ∧ d < j + (k + 1)) := by omega
          simp [e1]
  have h := key m 0 q 0 (by omega)
  rw [and_m1] at h
  have e : pSet (fun d => q d && !(p d && decide (0 ≤ d ∧ d < 0 + m))) m = pSet (fun d => q d && !p d) m := pSet_congr (fun d hd => by
    have : (0 ≤ d ∧ d < 0 + m) := by omega
    rw [decide_eq_true this]; simp)
  rw [← e, ← h]
  rfl
theorem pF_last {α : Type} {g : Nat → α → α} : ∀ (k j : Nat) (a : α), pF g (k + 1) j a = g (j + k) (pF g k j a)
  | 0, j, a => rfl
  | k + 1, j, a => by
    show pF g (k + 1) (j + 1) (g j a) = g (j + (k + 1)) (pF g k (j + 1) (g j a))
    rw [pF_last k (j + 1) (g j a)]
    congr 1; omega
theorem pNum_s (w : Nat → Bool) (j : Nat) : pNum w (j + 1) = if w j = true then pNum w j + 1 else pNum w j := by
  unfold pNum; rw [pF_last, Nat.zero_add]
theorem pNum_mono (w : Nat → Bool) {j m : Nat} (h : j ≤ m) : pNum w j ≤ pNum w m := by
  induction m with
  | zero => have : j = 0 := by omega
            rw [this]; exact Nat.le_refl _
  | succ m ih =>
    by_cases c : j = m + 1
    · rw [c]; exact Nat.le_refl _
    · have := ih (by omega)
      rw [pNum_s]; split <;> omega
section
variable {m t : Nat} {ru fp td : Nat → Int32}
theorem order_in {nw0 as0 od0 nw a : Nat → Int32} {z1 x4 : Int32} {p w : Nat → Bool} {kk : Int32 → Int32 → Int32 → (Nat → Int32) → (Nat → Int32) → (Nat → Int32) → Option (Int32 × (Nat → Int32) × (Nat → Int32) × (Nat → Int32))} {Q : Option (Int32 × (Nat → Int32) × (Nat → Int32) × (Nat → Int32)) → Prop} (hm : m ≤ 8) (hpw : ∀ d, d < m → (p d && w d) = false) (hkk : ∀ c od, c ≤ pNum (fun d => p d || w d) m → Q (kk (pSet (fun d => p d || w d) m) (nI c) (x4 + 1) nw a od)) : ∀ (k j n c : Nat) (od : Nat → Int32), j + k = m → k < n → c ≤ pNum p m + pNum w j → Q (FL_X10_order_65 (nI m) ru td nw0 as0 od0 z1 kk n (pSet p m) (nI c) x4 (pSet w m) (nI j) nw a od)
  | k, j, 0, c, od, _, h, _ => absurd h (by omega)
  | 0, j, n + 1, c, od, h1, h2, h3 => by
    obtain rfl : j = m := by omega
    rw [FL_X10_order_65, if_pos (le_rfl32 _), pSet_or]
    refine hkk c od ?_
    rw [pNum_add (p := p) (q := w) (r := fun d => p d || w d) (fun d hd => ⟨rfl, hpw d hd⟩)]; exact h3
  | k + 1, j, n + 1, c, od, h1, h2, h3 => by
    rw [FL_X10_order_65, if_neg (by rw [pLe (by omega) (by omega)]; omega), pBit w m j hm (by omega), pBs, pS1]
    have hs := pNum_s w j
    by_cases cw : w j = true
    · have hjm : j < m := by omega
      rw [if_neg (by simp [cw, hjm, pb])]
      rw [if_pos cw] at hs
      have hle : pNum p m + pNum w m ≤ m := by
        rw [← pNum_add (p := p) (q := w) (r := fun d => p d || w d) (fun d hd => ⟨rfl, hpw d hd⟩)]; exact pNum_le _ m
      have hmo := pNum_mono w (show j + 1 ≤ m by omega)
      rw [pIx (by omega) (by omega), pCl (by omega), pS1]
      exact order_in hm hpw hkk k (j + 1) n (c + 1) _ (by omega) (by omega) (by omega)
    · rw [if_pos (by simp [cw, pb])]
      rw [if_neg cw] at hs
      exact order_in hm hpw hkk k (j + 1) n c od (by omega) (by omega) (by omega)
theorem order_end {nw a od : Nat → Int32} {z1 : Int32} {c : Nat} (hc : c ≤ 8) : ∃ r, ((F_X10_in z1 0 (nI c - 1)).bind fun o_11 => (if o_11 = 0 then some ((-1 : Int32), nw, a, od) else (if z1 < 0 ∨ 8 ≤ (z1).toNatClampNeg then none else some ((od (z1).toNatClampNeg), nw, a, od)))) = some (r, nw, a, od) := by
  rw [rIn, pBs]
  split
  · exact ⟨_, rfl⟩
  · rename_i h
    have c1 : ¬ z1 < 0 := fun q => h (by simp [q, pb])
    have c2 : ¬ nI c - 1 < z1 := fun q => h (by simp [q, pb])
    obtain ⟨i, hi, rfl⟩ := nI_of c1
    rw [q_lt, show (1 : Int32) = nI 1 from rfl, pk_sub_toInt (by omega) (by omega), nI_toInt hi] at c2
    rw [pIx (by omega) (by omega)]
    exact ⟨_, rfl⟩
theorem order_L {nw nw0 as0 od0 a : Nat → Int32} {z1 : Int32} (hc : Cx m t ru fp td) (h0 : 0 < m) (ha : ∀ k, k < 98 → a k = nw k) : ∀ (k j n c : Nat) (p : Nat → Bool) (f od : Nat → Int32), j + k = 200 → k < n → c ≤ pNum p m → iU m ru (tT m td) (nz f) → kD nw f → ∃ r od', FL_X10_order_25 (nI m) ru td nw0 as0 od0 z1 n (pSet p m) (nI c) (nI j) f a od = some (r, nw, a, od')
  | k, j, 0, c, p, f, od, _, h, _, _, _ => absurd h (by omega)
  | 0, j, n + 1, c, p, f, od, h1, h2, h3, hi, hk => by
    obtain rfl : j = 200 := by omega
    have hm := hc.1
    have := pNum_le p m
    obtain ⟨r, e⟩ := order_end (nw := nw) (a := a) (od := od) (z1 := z1) (c := c) (by omega)
    rw [FL_X10_order_25, if_pos (show (200 : Int32) ≤ nI 200 from by decide), bring_eq ha hk, pBs]
    exact ⟨r, od, e⟩
  | k + 1, j, n + 1, c, p, f, od, h1, h2, h3, hi, hk => by
    have hm := hc.1
    have hcm := pNum_le p m
    rw [FL_X10_order_25, if_neg (by rw [show (200 : Int32) = nI 200 from rfl, pLe (by omega) (by omega)]; omega), bring_eq ha hk, pBs]
    split
    · obtain ⟨r, e⟩ := order_end (nw := nw) (a := a) (od := od) (z1 := z1) (c := c) (by omega)
      exact ⟨r, od, e⟩
    · obtain ⟨g, g1, g2, g3⟩ := rTick_t hc h0 hi
      rw [g1, pBs, rThose hm, pBs, pDif hm]
      refine order_in (p := p) (w := fun d => decide (nz g d = 6) && !p d) (Q := fun X => ∃ r od', X = some (r, nw, a, od')) hm (fun d hd => by cases p d <;> simp) (fun c' od' hc' => ?_) m 0 1000 c od (by omega) (by omega) (by omega)
      rw [pS1]
      exact order_L hc h0 ha k (j + 1) n c' _ g od' (by omega) (by omega) hc' g2 (fun x hx => (g3 x hx).trans (hk x hx))
theorem order_r {nw as_ od : Nat → Int32} {z1 : Int32} (hc : Cx m t ru fp td) (hi : iU m ru (tT m td) (nz nw)) : ∃ r as' od', F_X10_order (nI m) ru td nw as_ od z1 = some (r, nw, as', od') := by
  have hm := hc.1
  unfold F_X10_order
  rw [rTree hm, pBs]
  split
  · exact ⟨_, _, _, rfl⟩
  · rename_i h0
    have h0' : 0 < m := by
      refine Decidable.byContradiction (fun q => h0 ?_)
      simp [q, pb]
    obtain ⟨a, a1, a2⟩ := aside_L (nw := nw) (as_ := as_)
    rw [a1, pBs, rThose hm, pBs]
    obtain ⟨r, od', e⟩ := order_L (nw := nw) (nw0 := nw) (as0 := as_) (od0 := od) (a := a) (z1 := z1) hc h0' a2 200 0 1000 0 (fun d => decide (nz nw d = 6)) nw od (by omega) (by omega) (by omega) hi (fun _ _ => rfl)
    exact ⟨r, a, od', e⟩
end
