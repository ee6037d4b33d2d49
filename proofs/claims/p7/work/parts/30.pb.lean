/-! sets of devices as numbers -/
def pBk (b0 b1 b2 b3 b4 b5 b6 b7 : Bool) : Nat → Bool
  | 0 => b0 | 1 => b1 | 2 => b2 | 3 => b3 | 4 => b4 | 5 => b5 | 6 => b6 | 7 => b7 | _ => false
def pB8 (b0 b1 b2 b3 b4 b5 b6 b7 : Bool) : Int32 := pSet (pBk b0 b1 b2 b3 b4 b5 b6 b7) 8
theorem pSet8 (p : Nat → Bool) : pSet p 8 = pB8 (p 0) (p 1) (p 2) (p 3) (p 4) (p 5) (p 6) (p 7) := rfl
theorem pSetm {p : Nat → Bool} : ∀ {m : Nat}, m ≤ 8 → pSet p m = pSet (fun d => p d && decide (d < m)) 8
  | 0, _ => by simp [pSet, pF, pSb]
  | 1, _ => by simp [pSet, pF, pSb]
  | 2, _ => by simp [pSet, pF, pSb]
  | 3, _ => by simp [pSet, pF, pSb]
  | 4, _ => by simp [pSet, pF, pSb]
  | 5, _ => by simp [pSet, pF, pSb]
  | 6, _ => by simp [pSet, pF, pSb]
  | 7, _ => by simp [pSet, pF, pSb]
  | 8, _ => by simp [pSet, pF, pSb]
  | m + 9, h => absurd h (by omega)
theorem pHas8 : ∀ (b0 b1 b2 b3 b4 b5 b6 b7 : Bool) (k : Fin 8), (((pB8 b0 b1 b2 b3 b4 b5 b6 b7 >>> (nI k.1 &&& 31)) &&& 1) = if pBk b0 b1 b2 b3 b4 b5 b6 b7 k.1 = true then 1 else 0) := by decide +kernel
theorem pHas {p : Nat → Bool} {m k : Nat} (hm : m ≤ 8) (hk : k < 8) : ((pSet p m >>> (nI k &&& 31)) &&& 1) = if (p k && decide (k < m)) = true then 1 else 0 := by
  rw [pSetm hm, pSet8]
  have h := pHas8 (p 0 && decide (0 < m)) (p 1 && decide (1 < m)) (p 2 && decide (2 < m)) (p 3 && decide (3 < m)) (p 4 && decide (4 < m)) (p 5 && decide (5 < m)) (p 6 && decide (6 < m)) (p 7 && decide (7 < m)) ⟨k, hk⟩
  rw [h]
  match k, hk with
  | 0, _ => rfl
  | 1, _ => rfl
  | 2, _ => rfl
  | 3, _ => rfl
  | 4, _ => rfl
  | 5, _ => rfl
  | 6, _ => rfl
  | 7, _ => rfl
/-- how many -/
def pNum (p : Nat → Bool) (m : Nat) : Nat := pF (fun d (a : Nat) => if p d = true then a + 1 else a) m 0 0
theorem pNum_congr {p q : Nat → Bool} {m : Nat} (h : ∀ d, d < m → p d = q d) : pNum p m = pNum q m := by
  unfold pNum; apply pF_congr
  intro i a h1 h2
  rw [h i (by omega)]
theorem pNum_le (p : Nat → Bool) (m : Nat) : pNum p m ≤ m := by
  have := pF_inv (g := fun d (a : Nat) => if p d = true then a + 1 else a) (fun j a => a ≤ j) m 0 0 (fun i a _ _ h => by
    by_cases c : p i = true
    · show (if p i = true then a + 1 else a) ≤ i + 1
      rw [if_pos c]; omega
    · show (if p i = true then a + 1 else a) ≤ i + 1
      rw [if_neg c]; omega) (Nat.le_refl 0)
  simpa [pNum] using this
def pBn (b0 b1 b2 b3 b4 b5 b6 b7 : Bool) : Nat := pF (fun d (a : Nat) => if pBk b0 b1 b2 b3 b4 b5 b6 b7 d = true then a + 1 else a) 8 0 0
theorem pBits8 : ∀ (b0 b1 b2 b3 b4 b5 b6 b7 : Bool), F_X10_bits (pB8 b0 b1 b2 b3 b4 b5 b6 b7) = some (nI (pBn b0 b1 b2 b3 b4 b5 b6 b7)) := by decide +kernel
theorem pCount8 : ∀ (b0 b1 b2 b3 b4 b5 b6 b7 : Bool), F_J6_bitCount_0f7a4 (pB8 b0 b1 b2 b3 b4 b5 b6 b7) = some (nI (pBn b0 b1 b2 b3 b4 b5 b6 b7)) := by decide +kernel
theorem pNumm {p : Nat → Bool} : ∀ {m : Nat}, m ≤ 8 → pNum p m = pNum (fun d => p d && decide (d < m)) 8
  | 0, _ => by simp [pNum, pF]
  | 1, _ => by simp [pNum, pF]
  | 2, _ => by simp [pNum, pF]
  | 3, _ => by simp [pNum, pF]
  | 4, _ => by simp [pNum, pF]
  | 5, _ => by simp [pNum, pF]
  | 6, _ => by simp [pNum, pF]
  | 7, _ => by simp [pNum, pF]
  | 8, _ => by simp [pNum, pF]
  | m + 9, h => absurd h (by omega)
theorem pNum8 (p : Nat → Bool) : pNum p 8 = pBn (p 0) (p 1) (p 2) (p 3) (p 4) (p 5) (p 6) (p 7) := rfl
theorem pBits {p : Nat → Bool} {m : Nat} (hm : m ≤ 8) : F_X10_bits (pSet p m) = some (nI (pNum p m)) := by
  rw [pSetm hm, pSet8, pBits8, pNumm hm, pNum8]
theorem pCount {p : Nat → Bool} {m : Nat} (hm : m ≤ 8) : F_J6_bitCount_0f7a4 (pSet p m) = some (nI (pNum p m)) := by
  rw [pSetm hm, pSet8, pCount8, pNumm hm, pNum8]
