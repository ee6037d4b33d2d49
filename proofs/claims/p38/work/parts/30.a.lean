section
/-! pure land: numbers and loops -/
theorem pIx {α : Type} {i N : Nat} {a : Option α} (h : i < N) (hN : N < 2147483648) : (if nI i < 0 ∨ N ≤ (nI i).toNatClampNeg then none else a) = a := if_neg (nI_in h hN)
theorem pCl {i : Nat} (h : i < 2147483648) : (nI i).toNatClampNeg = i := nI_clamp h
theorem pLe {a b : Nat} (ha : a < 2147483648) (hb : b < 2147483648) : (nI a ≤ nI b) = (a ≤ b) := propext (nI_leI ha hb)
theorem pLt {a b : Nat} (ha : a < 2147483648) (hb : b < 2147483648) : (nI a < nI b) = (a < b) := propext (nI_ltI ha hb)
theorem pEq {a b : Nat} (ha : a < 2147483648) (hb : b < 2147483648) : (nI a = nI b) = (a = b) := propext (nI_eq ha hb)
theorem pNm {a : Nat} (ha : a < 2147483648) : (nI a = -1) = False := by
  apply propext; refine ⟨fun h => ?_, False.elim⟩
  have e := congrArg Int32.toInt h
  rw [nI_toInt ha] at e
  have : (-1 : Int32).toInt = -1 := by decide
  omega
theorem pS1 (a : Nat) : nI a + 1 = nI (a + 1) := nI_1 a
theorem pA0 (a : Nat) : 0 + nI a = nI a := by rw [show (0 : Int32) = nI 0 from rfl, nI_add, Nat.zero_add]
theorem pA8 (a : Nat) : 8 + nI a = nI (8 + a) := nI_add 8 a
theorem pA16 (a : Nat) : 16 + nI a = nI (16 + a) := nI_add 16 a
theorem pA24 (a : Nat) : 24 + nI a = nI (24 + a) := nI_add 24 a
theorem pA32 (a : Nat) : 32 + nI a = nI (32 + a) := nI_add 32 a
theorem pA40 (a : Nat) : 40 + nI a = nI (40 + a) := nI_add 40 a
theorem pA48 (a : Nat) : 48 + nI a = nI (48 + a) := nI_add 48 a
theorem pA56 (a : Nat) : 56 + nI a = nI (56 + a) := nI_add 56 a
theorem pA64 (a : Nat) : 64 + nI a = nI (64 + a) := nI_add 64 a
theorem pA72 (a : Nat) : 72 + nI a = nI (72 + a) := nI_add 72 a
theorem pA80 (a : Nat) : 80 + nI a = nI (80 + a) := nI_add 80 a
theorem pA88 (a : Nat) : 88 + nI a = nI (88 + a) := nI_add 88 a
theorem pBi {α β : Type} {x : Option α} {a : α} {f : α → Option β} (h : x = some a) : x.bind f = f a := by rw [h]; rfl
theorem pBs {α β : Type} {a : α} {f : α → Option β} : (some a).bind f = f a := rfl
theorem pUs {f : Nat → Int32} {k : Nat} {x : Int32} : upd f k x k = x := if_pos rfl
theorem pUn {f : Nat → Int32} {k j : Nat} {x : Int32} (h : j ≠ k) : upd f k x j = f j := if_neg h
/-- a loop from j on, so many rounds -/
def pF {α : Type} (g : Nat → α → α) : Nat → Nat → α → α
  | 0, _, a => a
  | k + 1, j, a => pF g k (j + 1) (g j a)
theorem pF_inv {α : Type} {g : Nat → α → α} (I : Nat → α → Prop) : ∀ (k j : Nat) (a : α), (∀ i a, j ≤ i → i < j + k → I i a → I (i + 1) (g i a)) → I j a → I (j + k) (pF g k j a)
  | 0, j, a, _, h => h
  | k + 1, j, a, hs, h => by
    have := pF_inv I k (j + 1) (g j a) (fun i a h1 h2 => hs i a (by omega) (by omega)) (hs j a (by omega) (by omega) h)
    rw [show j + 1 + k = j + (k + 1) from by omega] at this
    exact this
theorem pF_congr {α : Type} {g g' : Nat → α → α} : ∀ (k j : Nat) (a : α), (∀ i a, j ≤ i → i < j + k → g i a = g' i a) → pF g k j a = pF g' k j a
  | 0, _, _, _ => rfl
  | k + 1, j, a, h => by
    show pF g k (j + 1) (g j a) = pF g' k (j + 1) (g' j a)
    rw [h j a (by omega) (by omega)]
    exact pF_congr k (j + 1) _ (fun i a h1 h2 => h i a (by omega) (by omega))
theorem pLoop {α β : Type} {m : Nat} {L : Nat → Int32 → α → Option β} {g : Nat → α → α} {fin : α → β} (I : Nat → α → Prop)
    (hs : ∀ n j a, j < m → I j a → L (n + 1) (nI j) a = L n (nI (j + 1)) (g j a) ∧ I (j + 1) (g j a))
    (he : ∀ n a, I m a → L (n + 1) (nI m) a = some (fin a)) : ∀ (k n j : Nat) (a : α), j + k = m → k < n → I j a → L n (nI j) a = some (fin (pF g k j a)) ∧ I m (pF g k j a)
  | 0, 0, j, a, _, h, _ => absurd h (by omega)
  | 0, n + 1, j, a, h1, _, hI => by
    obtain rfl : j = m := by omega
    exact ⟨he n a hI, hI⟩
  | k + 1, 0, j, a, _, h, _ => absurd h (by omega)
  | k + 1, n + 1, j, a, h1, h2, hI => by
    obtain ⟨e1, e2⟩ := hs n j a (by omega) hI
    rw [e1]
    exact pLoop I hs he k n (j + 1) (g j a) (by omega) (by omega) e2
theorem pLoop0 {α β : Type} {m : Nat} {L : Nat → Int32 → α → Option β} {g : Nat → α → α} {fin : α → β}
    (hs : ∀ n j a, j < m → L (n + 1) (nI j) a = L n (nI (j + 1)) (g j a)) (he : ∀ n a, L (n + 1) (nI m) a = some (fin a)) (n : Nat) (a : α) (hn : m < n) : L n 0 a = some (fin (pF g m 0 a)) :=
  (pLoop (fun _ _ => True) (fun n j a h _ => ⟨hs n j a h, trivial⟩) (fun n a _ => he n a) m n 0 a (by omega) hn trivial).1
/-- the first for which it holds, from j on -/
def pFd (p : Nat → Bool) : Nat → Nat → Int32
  | 0, _ => -1
  | k + 1, j => if p j = true then nI j else pFd p k (j + 1)
theorem pFind {β : Type} {m : Nat} {L : Nat → Int32 → Option β} {p : Nat → Bool} {r : Nat → β} {e : β} (f : Int32 → β) (hr : ∀ j, j < m → r j = f (nI j)) (hf : f (-1) = e)
    (hs : ∀ n j, j < m → L (n + 1) (nI j) = if p j = true then some (r j) else L n (nI (j + 1))) (he : ∀ n, L (n + 1) (nI m) = some e) : ∀ (k n j : Nat), j + k = m → k < n → L n (nI j) = some (f (pFd p k j))
  | 0, 0, j, _, h => absurd h (by omega)
  | 0, n + 1, j, h1, _ => by
    obtain rfl : j = m := by omega
    rw [he]; show _ = some (f (-1)); rw [hf]
  | k + 1, 0, j, _, h => absurd h (by omega)
  | k + 1, n + 1, j, h1, h2 => by
    rw [hs n j (by omega)]
    show _ = some (f (if p j = true then nI j else pFd p k (j + 1)))
    by_cases c : p j = true
    · rw [if_pos c, if_pos c, hr j (by omega)]
    · rw [if_neg c, if_neg c]; exact pFind f hr hf hs he k n (j + 1) (by omega) (by omega)
theorem pFd_cases (p : Nat → Bool) : ∀ (k j : Nat), (pFd p k j = -1 ∧ ∀ i, j ≤ i → i < j + k → p i = false) ∨ ∃ i, j ≤ i ∧ i < j + k ∧ pFd p k j = nI i ∧ p i = true ∧ ∀ i', j ≤ i' → i' < i → p i' = false
  | 0, j => Or.inl ⟨rfl, fun i h1 h2 => by omega⟩
  | k + 1, j => by
    by_cases c : p j = true
    · exact Or.inr ⟨j, by omega, by omega, if_pos c, c, fun i' h1 h2 => by omega⟩
    · have e : pFd p (k + 1) j = pFd p k (j + 1) := if_neg c
      have c' : p j = false := by simpa using c
      rcases pFd_cases p k (j + 1) with ⟨h1, h2⟩ | ⟨i, h1, h2, h3, h4, h5⟩
      · refine Or.inl ⟨e.trans h1, fun i h3 h4 => ?_⟩
        by_cases c2 : i = j
        · rw [c2]; exact c'
        · exact h2 i (by omega) (by omega)
      · refine Or.inr ⟨i, by omega, by omega, e.trans h3, h4, fun i' h6 h7 => ?_⟩
        by_cases c2 : i' = j
        · rw [c2]; exact c'
        · exact h5 i' (by omega) h7
theorem pFd_congr {p q : Nat → Bool} : ∀ (k j : Nat), (∀ i, j ≤ i → i < j + k → p i = q i) → pFd p k j = pFd q k j
  | 0, _, _ => rfl
  | k + 1, j, h => by
    show (if p j = true then _ else _) = (if q j = true then _ else _)
    rw [h j (by omega) (by omega), pFd_congr k (j + 1) (fun i h1 h2 => h i (by omega) (by omega))]
/-- the set of those for which it holds -/
def pSb (p : Nat → Bool) (d : Nat) (a : Int32) : Int32 := a ||| (if p d = true then (1 <<< (nI d &&& 31)) else 0)
def pSet (p : Nat → Bool) (m : Nat) : Int32 := pF (pSb p) m 0 0
theorem pSet_congr {p q : Nat → Bool} {m : Nat} (h : ∀ d, d < m → p d = q d) : pSet p m = pSet q m := by
  unfold pSet; apply pF_congr
  intro i a h1 h2
  unfold pSb; rw [h i (by omega)]
end

section
/-! sets of devices as numbers -/
def pBk (b0 b1 b2 b3 b4 b5 b6 b7 : Bool) : Nat → Bool
  | 0 => b0 | 1 => b1 | 2 => b2 | 3 => b3 | 4 => b4 | 5 => b5 | 6 => b6 | 7 => b7 | _ => false
def pB8 (b0 b1 b2 b3 b4 b5 b6 b7 : Bool) : Int32 := pSet (pBk b0 b1 b2 b3 b4 b5 b6 b7) 8
theorem pSet8 (p : Nat → Bool) : pSet p 8 = pB8 (p 0) (p 1) (p 2) (p 3) (p 4) (p 5) (p 6) (p 7) := rfl
theorem pSetm {p : Nat → Bool} : ∀ {m : Nat}, m ≤ 8 → pSet p m = pSet (fun d => p d && decide (d < m)) 8
  | 0, _ => by simp [pSet, pF, pSb]
  | 1, _ => by simp [pSet, pF, pSb]
  | 2, _ => by simp [pSet, pF, pSb]
  | 3, _ => by simp [pSet, pF, pSb]
  | 4, _ => by simp [pSet, pF, pSb]
  | 5, _ => by simp [pSet, pF, pSb]
  | 6, _ => by simp [pSet, pF, pSb]
  | 7, _ => by simp [pSet, pF, pSb]
  | 8, _ => by simp [pSet, pF, pSb]
  | m + 9, h => absurd h (by omega)
theorem pHas8 : ∀ (b0 b1 b2 b3 b4 b5 b6 b7 : Bool) (k : Fin 8), (((pB8 b0 b1 b2 b3 b4 b5 b6 b7 >>> (nI k.1 &&& 31)) &&& 1) = if pBk b0 b1 b2 b3 b4 b5 b6 b7 k.1 = true then 1 else 0) := by decide +kernel
theorem pHas {p : Nat → Bool} {m k : Nat} (hm : m ≤ 8) (hk : k < 8) : ((pSet p m >>> (nI k &&& 31)) &&& 1) = if (p k && decide (k < m)) = true then 1 else 0 := by
  rw [pSetm hm, pSet8]
  have h := pHas8 (p 0 && decide (0 < m)) (p 1 && decide (1 < m)) (p 2 && decide (2 < m)) (p 3 && decide (3 < m)) (p 4 && decide (4 < m)) (p 5 && decide (5 < m)) (p 6 && decide (6 < m)) (p 7 && decide (7 < m)) ⟨k, hk⟩
  rw [h]
  match k, hk with
  | 0, _ => rfl
  | 1, _ => rfl
  | 2, _ => rfl
  | 3, _ => rfl
  | 4, _ => rfl
  | 5, _ => rfl
  | 6, _ => rfl
  | 7, _ => rfl
/-- how many -/
def pNum (p : Nat → Bool) (m : Nat) : Nat := pF (fun d (a : Nat) => if p d = true then a + 1 else a) m 0 0
theorem pNum_congr {p q : Nat → Bool} {m : Nat} (h : ∀ d, d < m → p d = q d) : pNum p m = pNum q m := by
  unfold pNum; apply pF_congr
  intro i a h1 h2
  rw [h i (by omega)]
theorem pNum_le (p : Nat → Bool) (m : Nat) : pNum p m ≤ m := by
  have := pF_inv (g := fun d (a : Nat) => if p d = true then a + 1 else a) (fun j a => a ≤ j) m 0 0 (fun i a _ _ h => by
    by_cases c : p i = true
    · show (if p i = true then a + 1 else a) ≤ i + 1
      rw [if_pos c]; omega
    · show (if p i = true then a + 1 else a) ≤ i + 1
      rw [if_neg c]; omega) (Nat.le_refl 0)
  simpa [pNum] using this
def pBn (b0 b1 b2 b3 b4 b5 b6 b7 : Bool) : Nat := pF (fun d (a : Nat) => if pBk b0 b1 b2 b3 b4 b5 b6 b7 d = true then a + 1 else a) 8 0 0
theorem pBits8 : ∀ (b0 b1 b2 b3 b4 b5 b6 b7 : Bool), F_X10_bits (pB8 b0 b1 b2 b3 b4 b5 b6 b7) = some (nI (pBn b0 b1 b2 b3 b4 b5 b6 b7)) := by decide +kernel
theorem pCount8 : ∀ (b0 b1 b2 b3 b4 b5 b6 b7 : Bool), F_J6_bitCount_0f7a4 (pB8 b0 b1 b2 b3 b4 b5 b6 b7) = some (nI (pBn b0 b1 b2 b3 b4 b5 b6 b7)) := by decide +kernel
theorem pNumm {p : Nat → Bool} : ∀ {m : Nat}, m ≤ 8 → pNum p m = pNum (fun d => p d && decide (d < m)) 8
  | 0, _ => by simp [pNum, pF]
  | 1, _ => by simp [pNum, pF]
  | 2, _ => by simp [pNum, pF]
  | 3, _ => by simp [pNum, pF]
  | 4, _ => by simp [pNum, pF]
  | 5, _ => by simp [pNum, pF]
  | 6, _ => by simp [pNum, pF]
  | 7, _ => by simp [pNum, pF]
  | 8, _ => by simp [pNum, pF]
  | m + 9, h => absurd h (by omega)
theorem pNum8 (p : Nat → Bool) : pNum p 8 = pBn (p 0) (p 1) (p 2) (p 3) (p 4) (p 5) (p 6) (p 7) := rfl
theorem pBits {p : Nat → Bool} {m : Nat} (hm : m ≤ 8) : F_X10_bits (pSet p m) = some (nI (pNum p m)) := by
  rw [pSetm hm, pSet8, pBits8, pNumm hm, pNum8]
theorem pCount {p : Nat → Bool} {m : Nat} (hm : m ≤ 8) : F_J6_bitCount_0f7a4 (pSet p m) = some (nI (pNum p m)) := by
  rw [pSetm hm, pSet8, pCount8, pNumm hm, pNum8]
end

section
/-! the reference's readers -/
theorem pE8 {a : Nat} (h : a < 2147483648) : (nI a = 8) = (a = 8) := pEq h (by decide)
theorem pIy {α : Type} {i N : Nat} {a : Option α} [Decidable (nI i < 0 ∨ N ≤ i)] (h : i < N) (hN : N < 2147483648) : (if nI i < 0 ∨ N ≤ i then none else a) = a := if_neg (fun c => c.elim (nI_pos (by omega)) (fun c => by omega))
theorem pIw {α : Type} {i N : Nat} {a : Option α} [Decidable (False ∨ N ≤ i)] (h : i < N) : (if False ∨ N ≤ i then none else a) = a := if_neg (fun c => c.elim id (fun c => by omega))
theorem pLe0 {a : Nat} (h : a < 2147483648) : (nI a ≤ 0) = (a = 0) := (pLe h (by decide)).trans (propext ⟨fun h => Nat.le_zero.mp h, fun h => h ▸ Nat.le_refl _⟩)
theorem pLt0 {a : Nat} (h : a < 2147483648) : (nI a < 0) = False := eq_false (nI_pos h)
def nz (N : Nat → Int32) : Nat → Int32 := fun k => if k < 24 ∨ (32 ≤ k ∧ k < 96) ∨ k = 97 then N k else 0
theorem pNz {N : Nat → Int32} {k : Nat} (h : k < 24 ∨ (32 ≤ k ∧ k < 96) ∨ k = 97) : nz N k = N k := if_pos h
def pb (b : Bool) : Int32 := if b = true then 1 else 0
theorem pb0 (b : Bool) : (pb b = 0) = (b = false) := by cases b <;> decide
theorem pb1 (b : Bool) : (pb b = 1) = (b = true) := by cases b <;> decide
theorem pbo (b : Bool) {α : Type} (x y : α) : (if pb b = 0 ∨ pb b = 1 then x else y) = x := by cases b <;> rfl
theorem pbq (b : Bool) {α : Type} (x y : α) [Decidable (b = false ∨ b = true)] : (if b = false ∨ b = true then x else y) = x := if_pos (by cases b <;> simp)
theorem pbi {c : Prop} [Decidable c] : (if c then some (1 : Int32) else some 0) = some (pb (decide c)) := by by_cases h : c <;> simp [h, pb]
theorem pbi' {c : Prop} [Decidable c] : (if c then some (0 : Int32) else some 1) = some (pb (!decide c)) := by by_cases h : c <;> simp [h, pb]
/-- what is told of one, in the reference's row -/
def tT (m : Nat) (td : Nat → Int32) (d k : Nat) : Int32 := if d < m ∧ k < 6 then td (6 * d + k) else 0
theorem rTold {m : Nat} {td : Nat → Int32} {d k : Nat} (hm : m ≤ 8) (h : d < m) (hk : k < 6) : F_X10_toldOf td (nI d) (nI k) = some (tT m td d k) := by
  have e : (6 : Int32) * nI d + nI k = nI (6 * d + k) := by
    rw [show (6 : Int32) = nI 6 from rfl, ← nI_add]
    unfold nI; rw [Int32.ofNat_mul]
  unfold F_X10_toldOf; rw [e, pIx (by omega) (by omega), pCl (by omega)]
  unfold tT; rw [if_pos ⟨h, hk⟩]
theorem rTold0 {m : Nat} {td : Nat → Int32} {d : Nat} (hm : m ≤ 8) (h : d < m) : F_X10_toldOf td (nI d) 0 = some (tT m td d 0) := rTold hm h (by decide)
theorem rTold1 {m : Nat} {td : Nat → Int32} {d : Nat} (hm : m ≤ 8) (h : d < m) : F_X10_toldOf td (nI d) 1 = some (tT m td d 1) := rTold hm h (by decide)
theorem rTold2 {m : Nat} {td : Nat → Int32} {d : Nat} (hm : m ≤ 8) (h : d < m) : F_X10_toldOf td (nI d) 2 = some (tT m td d 2) := rTold hm h (by decide)
theorem rTold3 {m : Nat} {td : Nat → Int32} {d : Nat} (hm : m ≤ 8) (h : d < m) : F_X10_toldOf td (nI d) 3 = some (tT m td d 3) := rTold hm h (by decide)
theorem rTold4 {m : Nat} {td : Nat → Int32} {d : Nat} (hm : m ≤ 8) (h : d < m) : F_X10_toldOf td (nI d) 4 = some (tT m td d 4) := rTold hm h (by decide)
theorem rTold5 {m : Nat} {td : Nat → Int32} {d : Nat} (hm : m ≤ 8) (h : d < m) : F_X10_toldOf td (nI d) 5 = some (tT m td d 5) := rTold hm h (by decide)
theorem rState {nw : Nat → Int32} {d : Nat} (h : d < 8) : F_X10_state nw (nI d) = some (nw d) := by
  unfold F_X10_state; simp (disch := omega) only [pIx, pCl, pLe, pLt, pEq, pNm, pS1, pA0, pA8, pA16, pA24, pA32, pA40, pA48, pA56, pA64, pA72, pA80, pA88, pBs, pE8, pb0, pb1, pbo, if_true, if_false, pIy, pbq, pNz, pIw]
def zSlp (N : Nat → Int32) (h : Nat) : Bool := !decide (h = 8) && decide (N (88 + h) = 1)
theorem rAsleep {nw : Nat → Int32} {h : Nat} (hh : h ≤ 8) : F_X10_isAsleep nw (nI h) = some (pb (zSlp (nz nw) h)) := by
  unfold F_X10_isAsleep zSlp
  by_cases c : h = 8
  · subst c; simp (disch := omega) only [pIx, pCl, pLe, pLt, pEq, pNm, pS1, pA0, pA8, pA16, pA24, pA32, pA40, pA48, pA56, pA64, pA72, pA80, pA88, pBs, pE8, pb0, pb1, pbo, if_true, if_false, pIy, pbq, pNz, pIw]; simp [pb]
  · simp (disch := omega) only [pIx, pCl, pLe, pLt, pEq, pNm, pS1, pA0, pA8, pA16, pA24, pA32, pA40, pA48, pA56, pA64, pA72, pA80, pA88, pBs, pE8, pb0, pb1, pbo, if_true, if_false, pIy, pbq, pNz, pIw]
    by_cases c2 : nw (88 + h) = 1 <;> simp [c, c2, pb]
def zRun (N : Nat → Int32) (h : Nat) : Bool := decide (h = 8) || decide (N h = 6)
theorem rRunning {nw : Nat → Int32} {h : Nat} (hh : h ≤ 8) : F_X10_isRunning nw (nI h) = some (pb (zRun (nz nw) h)) := by
  unfold F_X10_isRunning zRun
  by_cases c : h = 8
  · subst c; rfl
  · simp (disch := omega) only [pIx, pCl, pLe, pLt, pEq, pNm, pS1, pA0, pA8, pA16, pA24, pA32, pA40, pA48, pA56, pA64, pA72, pA80, pA88, pBs, pE8, pb0, pb1, pbo, if_true, if_false, pIy, pbq, pNz, pIw, rState, c]
    by_cases c2 : nw h = 6 <;> simp [c2, pb]
def zSpd (N : Nat → Int32) (h : Nat) : Int32 := if h = 8 then 2 else N (48 + h)
theorem rSpeed {nw : Nat → Int32} {h : Nat} (hh : h ≤ 8) : F_X10_speedOf nw (nI h) = some (zSpd (nz nw) h) := by
  unfold F_X10_speedOf zSpd; simp (disch := omega) only [pIx, pCl, pLe, pLt, pEq, pNm, pS1, pA0, pA8, pA16, pA24, pA32, pA40, pA48, pA56, pA64, pA72, pA80, pA88, pBs, pE8, pb0, pb1, pbo, if_true, if_false, pIy, pbq, pNz, pIw]
  by_cases c : h = 8 <;> simp [c]
theorem rIn {v lo hi : Int32} : F_X10_in v lo hi = some (pb (!decide (v < lo) && !decide (hi < v))) := by
  unfold F_X10_in
  by_cases c : v < lo <;> by_cases c2 : hi < v <;> simp [c, c2, pb]
theorem rTree {m : Nat} (hm : m ≤ 8) : F_X10_isTree (nI m) = some (pb (decide (0 < m))) := by
  unfold F_X10_isTree
  simp (disch := omega) only [pLe0]
  by_cases c : 0 < m
  · rw [if_neg (by omega)]; simp [c, pb]
  · rw [if_pos (by omega)]; simp [c, pb]
def zDev (m : Nat) (z : Int32) : Bool := !decide (z < 0) && !decide (nI m - 1 < z)
theorem rDev {m : Nat} {z : Int32} : F_X10_isDevice (nI m) z = some (pb (zDev m z)) := by
  unfold F_X10_isDevice; simp only [rIn, pBs, pbo]; rfl
theorem zDev_lt {m : Nat} {z : Int32} (hm : m ≤ 8) (h : zDev m z = true) : ∃ d, d < m ∧ z = nI d := by
  unfold zDev at h
  simp only [Bool.and_eq_true, Bool.not_eq_true', decide_eq_false_iff_not] at h
  obtain ⟨j, hj, rfl⟩ := nI_of h.1
  refine ⟨j, ?_, rfl⟩
  rcases Nat.lt_or_ge j m with c | c
  · exact c
  · exfalso
    apply h.2
    have e1 : (nI m - 1).toInt = (m : Int) - 1 := pk_sub_toInt (a := m) (b := 1) (by omega) (by decide)
    rw [q_lt, e1, nI_toInt hj]
    omega
theorem zDev_nI {m d : Nat} (hm : m ≤ 8) (hd : d < 2147483648) : zDev m (nI d) = decide (d < m) := by
  unfold zDev
  have e1 : (nI m - 1).toInt = (m : Int) - 1 := pk_sub_toInt (a := m) (b := 1) (by omega) (by decide)
  have e2 : (nI d).toInt = d := nI_toInt hd
  have e3 : ¬ nI d < 0 := nI_pos hd
  by_cases c : d < m
  · have : ¬ nI m - 1 < nI d := by rw [q_lt, e1, e2]; omega
    simp [e3, this, c]
  · have : nI m - 1 < nI d := by rw [q_lt, e1, e2]; omega
    simp [e3, this, c]
def zHub (m : Nat) (T : Nat → Nat → Int32) (z : Int32) : Bool := (decide (0 < m) && decide (z = 8)) || (zDev m z && !decide (T z.toNatClampNeg 0 ≤ 0))
theorem rHub {m : Nat} {td : Nat → Int32} {z : Int32} (hm : m ≤ 8) : F_X10_isHub (nI m) td z = some (pb (zHub m (tT m td) z)) := by
  unfold F_X10_isHub zHub
  simp only [rTree hm, rDev, pBs, pb0]
  by_cases c : zDev m z = true
  · obtain ⟨d, hd, rfl⟩ := zDev_lt hm c
    simp (disch := omega) only [rTold0 (m := m), pBs, c, pCl, pE8]
    by_cases c1 : 0 < m <;> by_cases c2 : d = 8 <;> by_cases c3 : tT m td d 0 ≤ 0 <;> simp [c1, c2, c3, pb] <;> omega
  · simp only [c, Bool.not_eq_true] at c ⊢
    by_cases c1 : 0 < m <;> by_cases c2 : z = 8 <;> simp [c1, c2, c, pb]
theorem rPorts8 {ru td : Nat → Int32} : F_X10_portsOf ru td 8 = some (ru 0) := rfl
theorem rPorts {m : Nat} {ru td : Nat → Int32} {d : Nat} (hm : m ≤ 8) (h : d < m) : F_X10_portsOf ru td (nI d) = some (tT m td d 0) := by
  unfold F_X10_portsOf; simp (disch := omega) only [pIx, pCl, pLe, pLt, pEq, pNm, pS1, pA0, pA8, pA16, pA24, pA32, pA40, pA48, pA56, pA64, pA72, pA80, pA88, pBs, pE8, pb0, pb1, pbo, if_true, if_false, pIy, pbq, pNz, pIw, rTold0 (m := m)]
  rw [if_neg (by omega)]
theorem rThose {m : Nat} {nw : Nat → Int32} {w : Int32} (hm : m ≤ 8) : F_X10_those (nI m) nw w = some (pSet (fun d => decide (nz nw d = w)) m) := by
  unfold F_X10_those
  refine pLoop0 (L := fun n i a => FL_X10_those_4 (nI m) nw w n a i) (fin := id) (fun n j a hj => ?_) (fun n a => ?_) 1000 0 (by omega)
  · show FL_X10_those_4 (nI m) nw w (n + 1) a (nI j) = _
    simp (disch := omega) only [FL_X10_those_4, pIx, pCl, pLe, pLt, pEq, pNm, pS1, pA0, pA8, pA16, pA24, pA32, pA40, pA48, pA56, pA64, pA72, pA80, pA88, pBs, pE8, pb0, pb1, pbo, if_true, if_false, pIy, pbq, pNz, pIw, rState, pSb]
    rw [if_neg (by omega)]
    by_cases c : nw j = w <;> simp [c]
  · show FL_X10_those_4 (nI m) nw w (n + 1) a (nI m) = _
    simp (disch := omega) only [FL_X10_those_4, pIx, pCl, pLe, pLt, pEq, pNm, pS1, pA0, pA8, pA16, pA24, pA32, pA40, pA48, pA56, pA64, pA72, pA80, pA88, pBs, pE8, pb0, pb1, pbo, if_true, if_false, pIy, pbq, pNz, pIw]
    rw [if_pos (Nat.le_refl m)]; rfl
end

section
/-! the tree: who hangs where, climbing -/
def wR (m : Nat) (N : Nat → Int32) (r : Nat → Nat) : Prop := ∀ d, d < m → N d ≠ 0 → r d < 8 ∧ ∃ h, N (32 + d) = nI h ∧ (h = 8 ∨ (h < m ∧ N h ≠ 0 ∧ r h < r d))
def wF (m : Nat) (N : Nat → Int32) : Prop := ∀ d, d < m → N d = 0 → N (32 + d) = -1
def wP (m : Nat) (N : Nat → Int32) (r : Nat → Nat) (k c : Nat) : Prop := c = 8 ∨ (c < m ∧ N c ≠ 0 ∧ r c < k)
theorem wP.up {m : Nat} {N : Nat → Int32} {r : Nat → Nat} {k c : Nat} (hw : wR m N r) (h : wP m N r (k + 1) c) (h8 : c ≠ 8) : c < m ∧ ∃ h, N (32 + c) = nI h ∧ wP m N r k h := by
  rcases h with h | ⟨h1, h2, h3⟩
  · exact absurd h h8
  · obtain ⟨h4, h, h5, h6⟩ := hw c h1 h2
    refine ⟨h1, h, h5, ?_⟩
    rcases h6 with h6 | ⟨h6, h7, h9⟩
    · exact Or.inl h6
    · exact Or.inr ⟨h6, h7, by omega⟩
theorem wP.zero {m : Nat} {N : Nat → Int32} {r : Nat → Nat} {c : Nat} (h : wP m N r 0 c) : c = 8 := by
  rcases h with h | ⟨_, _, h⟩
  · exact h
  · omega
theorem wP.le {m : Nat} {N : Nat → Int32} {r : Nat → Nat} {k c : Nat} (hm : m ≤ 8) (h : wP m N r k c) : c ≤ 8 := by
  rcases h with h | ⟨h, _, _⟩ <;> omega
theorem wP.of {m : Nat} {N : Nat → Int32} {r : Nat → Nat} {d : Nat} (hw : wR m N r) (hd : d < m) (h : N d ≠ 0) : ∃ c, N (32 + d) = nI c ∧ wP m N r 7 c := by
  obtain ⟨h1, c, h2, h3⟩ := hw d hd h
  refine ⟨c, h2, ?_⟩
  rcases h3 with h3 | ⟨h3, h4, h5⟩
  · exact Or.inl h3
  · exact Or.inr ⟨h3, h4, by omega⟩
theorem p8Le {c : Nat} (h : c < 2147483648) : (8 ≤ nI c) = (8 ≤ c) := pLe (a := 8) (by decide) h
/-- climbing, up to so many steps, till it stops -/
def zCl (N : Nat → Int32) (p : Int32 → Bool) : Nat → Int32 → Int32
  | 0, h => h
  | k + 1, h => if h < 0 ∨ 8 ≤ h then h else if p h = true then h else zCl N p k (N (32 + h.toNatClampNeg))
theorem zCl_8 (N : Nat → Int32) (p : Int32 → Bool) : ∀ k, zCl N p k (nI 8) = nI 8
  | 0 => rfl
  | k + 1 => by unfold zCl; exact if_pos (by decide)
theorem zCl_m (N : Nat → Int32) (p : Int32 → Bool) : ∀ k, zCl N p k (-1) = -1
  | 0 => rfl
  | k + 1 => by unfold zCl; exact if_pos (by decide)
theorem zCl_s {N : Nat → Int32} {p : Int32 → Bool} {k c : Nat} (h : c < 8) : zCl N p (k + 1) (nI c) = if p (nI c) = true then nI c else zCl N p k (N (32 + c)) := by
  show (if nI c < 0 ∨ 8 ≤ nI c then _ else _) = _
  rw [if_neg (fun e => e.elim (nI_pos (by omega)) (fun e => by rw [p8Le (by omega)] at e; omega)), pCl (by omega)]
def zHang (N : Nat → Int32) (d : Nat) (hub : Int32) : Bool := decide (zCl N (fun h => decide (h = hub)) 8 (N (32 + d)) = hub)
theorem rBenL {m : Nat} {nw : Nat → Int32} {r : Nat → Nat} {z : Int32} {h : Nat} (hm : m ≤ 8) (hw : wR m (nz nw) r) (hh : h ≤ 8) : ∀ (k n c : Nat), k < n → wP m (nz nw) r k c → FL_X10_isBeneath_22 nw z (nI h) n (nI c) = some (pb (decide (zCl (nz nw) (fun x => decide (x = nI h)) (k + 1) (nI c) = nI h)))
  | _, 0, c, hn, hc => absurd hn (by omega)
  | 0, n + 1, c, hn, hc => by
    obtain rfl := hc.zero
    rw [zCl_8]
    simp (disch := omega) only [FL_X10_isBeneath_22, pIx, pCl, pLe, pLt, pEq, pNm, pS1, pA0, pA8, pA16, pA24, pA32, pA40, pA48, pA56, pA64, pA72, pA80, pA88, pBs, pE8, pb0, pb1, pbo, if_true, if_false, pIy, pbq, pNz, pIw]
    by_cases c1 : 8 = h
    · simp [c1, pb]
    · simp [c1, pb]
  | k + 1, n + 1, c, hn, hc => by
    by_cases c8 : c = 8
    · subst c8
      rw [zCl_8]
      simp (disch := omega) only [FL_X10_isBeneath_22, pIx, pCl, pLe, pLt, pEq, pNm, pS1, pA0, pA8, pA16, pA24, pA32, pA40, pA48, pA56, pA64, pA72, pA80, pA88, pBs, pE8, pb0, pb1, pbo, if_true, if_false, pIy, pbq, pNz, pIw]
      by_cases c1 : 8 = h
      · simp [c1, pb]
      · simp [c1, pb]
    · obtain ⟨h1, b, h2, h3⟩ := hc.up hw c8
      have h2' : nw (32 + c) = nI b := by rw [← h2, pNz (by omega)]
      rw [zCl_s (by omega), h2]
      by_cases c1 : c = h
      · subst c1
        simp (disch := omega) only [FL_X10_isBeneath_22, pIx, pCl, pLe, pLt, pEq, pNm, pS1, pA0, pA8, pA16, pA24, pA32, pA40, pA48, pA56, pA64, pA72, pA80, pA88, pBs, pE8, pb0, pb1, pbo, if_true, if_false, pIy, pbq, pNz, pIw]
        simp [c8, pb]
      · have := rBenL (z := z) hm hw hh k n b (by omega) h3
        simp (disch := omega) only [FL_X10_isBeneath_22, pIx, pCl, pLe, pLt, pEq, pNm, pS1, pA0, pA8, pA16, pA24, pA32, pA40, pA48, pA56, pA64, pA72, pA80, pA88, pBs, pE8, pb0, pb1, pbo, if_true, if_false, pIy, pbq, pNz, pIw, h2']
        rw [if_neg c8, if_neg c1, this]
        simp (disch := omega) only [pEq, c1, decide_false, Bool.false_eq_true, if_false]
theorem zCl_more {m : Nat} {N : Nat → Int32} {r : Nat → Nat} {p : Int32 → Bool} (hm : m ≤ 8) (hw : wR m N r) : ∀ (k j c : Nat), wP m N r k c → zCl N p (j + k) (nI c) = zCl N p k (nI c)
  | 0, j, c, hc => by obtain rfl := hc.zero; rw [zCl_8, zCl_8]
  | k + 1, j, c, hc => by
    by_cases c8 : c = 8
    · subst c8; rw [zCl_8, zCl_8]
    · obtain ⟨h1, b, h2, h3⟩ := hc.up hw c8
      rw [show j + (k + 1) = (j + k) + 1 from by omega, zCl_s (by omega), zCl_s (by omega), h2, zCl_more hm hw k j b h3]
theorem rBeneath1 {m : Nat} {nw : Nat → Int32} {r : Nat → Nat} {d h : Nat} (hm : m ≤ 8) (hw : wR m (nz nw) r) (hf : wF m (nz nw)) (hd : d < m) (hh : h ≤ 8) : F_X10_isBeneath nw (nI d) (nI h) = some (pb (zHang (nz nw) d (nI h))) := by
  unfold F_X10_isBeneath zHang
  by_cases cz : nz nw d = 0
  · have c : nw d = 0 := by rw [← cz, pNz (by omega)]
    rw [hf d hd cz, zCl_m]
    simp (disch := omega) only [pIx, pCl, pLe, pLt, pEq, pNm, pS1, pA0, pA8, pA16, pA24, pA32, pA40, pA48, pA56, pA64, pA72, pA80, pA88, pBs, pE8, pb0, pb1, pbo, if_true, if_false, pIy, pbq, pNz, pIw, rState]
    rw [if_pos c]
    have e : ¬ (-1 : Int32) = nI h := fun e => by have := pNm (a := h) (by omega); rw [← this]; exact e.symm
    have g : ∀ n, FL_X10_isBeneath_22 nw (nI d) (nI h) (n + 1) (-1) = some (pb (decide (-1 = nI h))) := fun n => by
      simp only [FL_X10_isBeneath_22]
      simp [e, pb]
    exact g 999
  · have c : ¬ nw d = 0 := by rw [← pNz (N := nw) (k := d) (by omega)]; exact cz
    obtain ⟨c2, h2, h3⟩ := wP.of hw hd cz
    have h2' : nw (32 + d) = nI c2 := by rw [← h2, pNz (by omega)]
    rw [h2]
    simp (disch := omega) only [pIx, pCl, pLe, pLt, pEq, pNm, pS1, pA0, pA8, pA16, pA24, pA32, pA40, pA48, pA56, pA64, pA72, pA80, pA88, pBs, pE8, pb0, pb1, pbo, if_true, if_false, pIy, pbq, pNz, pIw, rState, h2']
    rw [if_neg c]
    exact rBenL hm hw hh 7 1000 c2 (by omega) h3
def zDp (N : Nat → Int32) : Nat → Int32 → Int32 → Int32
  | 0, _, a => a
  | k + 1, h, a => if h < 0 ∨ 8 ≤ h then a else zDp N k (N (32 + h.toNatClampNeg)) (if N (32 + h.toNatClampNeg) = -1 then a + 0 else a + 1)
theorem zDp_8 (N : Nat → Int32) (a : Int32) : ∀ k, zDp N k (nI 8) a = a
  | 0 => rfl
  | k + 1 => by unfold zDp; exact if_pos (by decide)
theorem zDp_m (N : Nat → Int32) (a : Int32) : ∀ k, zDp N k (-1) a = a
  | 0 => rfl
  | k + 1 => by unfold zDp; exact if_pos (by decide)
theorem zDp_s {N : Nat → Int32} {k c : Nat} {a : Int32} (h : c < 8) : zDp N (k + 1) (nI c) a = zDp N k (N (32 + c)) (if N (32 + c) = -1 then a + 0 else a + 1) := by
  show (if nI c < 0 ∨ 8 ≤ nI c then _ else _) = _
  rw [if_neg (fun e => e.elim (nI_pos (by omega)) (fun e => by rw [p8Le (by omega)] at e; omega)), pCl (by omega)]
def zDepth (N : Nat → Int32) (d : Nat) : Int32 := zDp N 8 (nI d) 0
theorem rDepL {m : Nat} {nw : Nat → Int32} {r : Nat → Nat} {d : Nat} (hm : m ≤ 8) (hw : wR m (nz nw) r) (hd : d < m) (hn : nz nw d ≠ 0) : ∀ (k n c : Nat) (a : Int32), k < n → wP m (nz nw) r k c → FL_X10_depthOf_4 nw (nI d) n a (nI c) = some (zDp (nz nw) k (nI c) a)
  | _, 0, c, a, hn, hc => absurd hn (by omega)
  | 0, n + 1, c, a, _, hc => by
    obtain rfl := hc.zero
    rw [zDp_8]
    simp (disch := omega) only [FL_X10_depthOf_4, pIx, pCl, pLe, pLt, pEq, pNm, pS1, pA0, pA8, pA16, pA24, pA32, pA40, pA48, pA56, pA64, pA72, pA80, pA88, pBs, pE8, pb0, pb1, pbo, if_true, if_false, pIy, pbq, pNz, pIw, rState]
    have hn' : ¬ nw d = 0 := by rw [← pNz (N := nw) (k := d) (by omega)]; exact hn
    simp [hn']
  | k + 1, n + 1, c, a, hk, hc => by
    by_cases c8 : c = 8
    · subst c8
      rw [zDp_8]
      simp (disch := omega) only [FL_X10_depthOf_4, pIx, pCl, pLe, pLt, pEq, pNm, pS1, pA0, pA8, pA16, pA24, pA32, pA40, pA48, pA56, pA64, pA72, pA80, pA88, pBs, pE8, pb0, pb1, pbo, if_true, if_false, pIy, pbq, pNz, pIw, rState]
      have hn' : ¬ nw d = 0 := by rw [← pNz (N := nw) (k := d) (by omega)]; exact hn
      simp [hn']
    · obtain ⟨h1, b, h2, h3⟩ := hc.up hw c8
      have h2' : nw (32 + c) = nI b := by rw [← h2, pNz (by omega)]
      rw [zDp_s (by omega), h2]
      have := rDepL hm hw hd hn k n b (a + 1) (by omega) h3
      have hb := h3.le hm
      simp (disch := omega) only [FL_X10_depthOf_4, pIx, pCl, pLe, pLt, pEq, pNm, pS1, pA0, pA8, pA16, pA24, pA32, pA40, pA48, pA56, pA64, pA72, pA80, pA88, pBs, pE8, pb0, pb1, pbo, if_true, if_false, pIy, pbq, pNz, pIw, h2']
      rw [if_neg c8, this]
theorem rDepth {m : Nat} {nw : Nat → Int32} {r : Nat → Nat} {d : Nat} (hm : m ≤ 8) (hw : wR m (nz nw) r) (hf : wF m (nz nw)) (hd : d < m) : F_X10_depthOf nw (nI d) = some (zDepth (nz nw) d) := by
  unfold F_X10_depthOf zDepth
  by_cases cz : nz nw d = 0
  · have c : nw d = 0 := by rw [← cz, pNz (by omega)]
    have h' : nw (32 + d) = -1 := by rw [← hf d hd cz, pNz (by omega)]
    rw [zDp_s (by omega), hf d hd cz, zDp_m]
    have g : ∀ n, FL_X10_depthOf_4 nw (nI d) (n + 1 + 1) 0 (nI d) = some 0 := fun n => by
      simp (disch := omega) only [FL_X10_depthOf_4, pIx, pCl, pLe, pLt, pEq, pNm, pS1, pA0, pA8, pA16, pA24, pA32, pA40, pA48, pA56, pA64, pA72, pA80, pA88, pBs, pE8, pb0, pb1, pbo, if_true, if_false, pIy, pbq, pNz, pIw, h', rState, c]
      rw [if_neg (by omega)]
      rfl
    rw [if_pos rfl]
    exact g 998
  · exact rDepL hm hw hd cz 8 1000 d 0 (by omega) (Or.inr ⟨hd, cz, (hw d hd cz).1⟩)
def zAbv (N : Nat → Int32) (d : Nat) : Int32 := zCl N (fun h => decide (N (48 + h.toNatClampNeg) = 2)) 8 (N (32 + d))
def zHlp (N : Nat → Int32) (d : Nat) : Int32 := if N (48 + d) = -1 ∨ N (48 + d) = 2 then -1 else zAbv N d
theorem rHlpL {m : Nat} {nw : Nat → Int32} {r : Nat → Nat} {z : Int32} (hm : m ≤ 8) (hw : wR m (nz nw) r) : ∀ (k n c : Nat), k < n → wP m (nz nw) r k c → FL_X10_helperOf_38 nw z n (nI c) = some (zCl (nz nw) (fun h => decide (nz nw (48 + h.toNatClampNeg) = 2)) (k + 1) (nI c))
  | _, 0, c, hn, hc => absurd hn (by omega)
  | 0, n + 1, c, _, hc => by
    obtain rfl := hc.zero
    rw [zCl_8]
    rfl
  | k + 1, n + 1, c, hk, hc => by
    by_cases c8 : c = 8
    · subst c8
      rw [zCl_8]
      rfl
    · obtain ⟨h1, b, h2, h3⟩ := hc.up hw c8
      have h2' : nw (32 + c) = nI b := by rw [← h2, pNz (by omega)]
      have := rHlpL (z := z) hm hw k n b (by omega) h3
      rw [zCl_s (by omega), h2, pCl (by omega)]
      simp (disch := omega) only [FL_X10_helperOf_38, pIx, pCl, pLe, pLt, pEq, pNm, pS1, pA0, pA8, pA16, pA24, pA32, pA40, pA48, pA56, pA64, pA72, pA80, pA88, pBs, pE8, pb0, pb1, pbo, if_true, if_false, pIy, pbq, pNz, pIw, rSpeed, zSpd, h2', this, c8]
      by_cases c2 : nw (48 + c) = 2 <;> simp [c2]
theorem rHelper {m : Nat} {nw : Nat → Int32} {r : Nat → Nat} {d : Nat} (hm : m ≤ 8) (hw : wR m (nz nw) r) (hd : d < m) (hr : nz nw (48 + d) ≠ -1 → nz nw d ≠ 0) : F_X10_helperOf nw (nI d) = some (zHlp (nz nw) d) := by
  unfold F_X10_helperOf zHlp
  simp (disch := omega) only [pIx, pCl, pLe, pLt, pEq, pNm, pS1, pA0, pA8, pA16, pA24, pA32, pA40, pA48, pA56, pA64, pA72, pA80, pA88, pBs, pE8, pb0, pb1, pbo, if_true, if_false, pIy, pbq, pNz, pIw]
  have hr' : nw (48 + d) ≠ -1 → nz nw d ≠ 0 := by rw [← pNz (N := nw) (k := 48 + d) (by omega)]; exact hr
  by_cases c : nw (48 + d) = -1
  · simp [c]
  · by_cases c2 : nw (48 + d) = 2
    · simp [c2]
    · obtain ⟨b, h2, h3⟩ := wP.of hw hd (hr' c)
      have h2' : nw (32 + d) = nI b := by rw [← h2, pNz (by omega)]
      rw [if_neg c, if_neg c2, if_neg (by simp [c, c2])]
      unfold zAbv
      rw [h2, h2']
      exact rHlpL hm hw 7 1000 b (by omega) h3
end

section
/-! the readers of the reference with loops -/
theorem pE0z {a : Nat} (h : a < 2147483648) : (nI a = 0) = (a = 0) := pEq h (by decide)
theorem pE1z {a : Nat} (h : a < 2147483648) : (nI a = 1) = (a = 1) := pEq h (by decide)
theorem pE2z {a : Nat} (h : a < 2147483648) : (nI a = 2) = (a = 2) := pEq h (by decide)
theorem pE3z {a : Nat} (h : a < 2147483648) : (nI a = 3) = (a = 3) := pEq h (by decide)
theorem pE4z {a : Nat} (h : a < 2147483648) : (nI a = 4) = (a = 4) := pEq h (by decide)
theorem pE5z {a : Nat} (h : a < 2147483648) : (nI a = 5) = (a = 5) := pEq h (by decide)
theorem pE6z {a : Nat} (h : a < 2147483648) : (nI a = 6) = (a = 6) := pEq h (by decide)
theorem rRight {m : Nat} {nw : Nat → Int32} {z : Int32} (hm : m ≤ 8) : F_X10_rightAt (nI m) nw z = some (pSet (fun d => !decide (nz nw d = 0) && decide (nz nw (32 + d) = z)) m) := by
  unfold F_X10_rightAt
  refine pLoop0 (L := fun n i a => FL_X10_rightAt_4 (nI m) nw z n a i) (fin := id) (fun n j a hj => ?_) (fun n a => ?_) 1000 0 (by omega)
  · show FL_X10_rightAt_4 (nI m) nw z (n + 1) a (nI j) = _
    simp (disch := omega) only [FL_X10_rightAt_4, pIx, pCl, pLe, pLt, pEq, pNm, pS1, pA0, pA8, pA16, pA24, pA32, pA40, pA48, pA56, pA64, pA72, pA80, pA88, pBs, pE8, pb0, pb1, pbo, if_true, if_false, pIy, pbq, pNz, pIw, pSb, rState]
    rw [if_neg (by omega)]
    by_cases c : nw j = 0 <;> by_cases c2 : nw (32 + j) = z <;> simp [c, c2]
  · show FL_X10_rightAt_4 (nI m) nw z (n + 1) a (nI m) = _
    simp (disch := omega) only [FL_X10_rightAt_4, pIx, pCl, pLe, pLt, pEq, pNm, pS1, pA0, pA8, pA16, pA24, pA32, pA40, pA48, pA56, pA64, pA72, pA80, pA88, pBs, pE8, pb0, pb1, pbo, if_true, if_false, pIy, pbq, pNz, pIw]
    rw [if_pos (Nat.le_refl m)]; rfl
theorem rBeneath {m : Nat} {nw : Nat → Int32} {r : Nat → Nat} {h : Nat} (hm : m ≤ 8) (hw : wR m (nz nw) r) (hf : wF m (nz nw)) (hh : h ≤ 8) : F_X10_beneath (nI m) nw (nI h) = some (pSet (fun d => zHang (nz nw) d (nI h)) m) := by
  unfold F_X10_beneath
  refine pLoop0 (L := fun n i a => FL_X10_beneath_4 (nI m) nw (nI h) n a i) (fin := id) (fun n j a hj => ?_) (fun n a => ?_) 1000 0 (by omega)
  · show FL_X10_beneath_4 (nI m) nw (nI h) (n + 1) a (nI j) = _
    simp (disch := omega) only [FL_X10_beneath_4, pIx, pCl, pLe, pLt, pEq, pNm, pS1, pA0, pA8, pA16, pA24, pA32, pA40, pA48, pA56, pA64, pA72, pA80, pA88, pBs, pE8, pb0, pb1, pbo, if_true, if_false, pIy, pbq, pNz, pIw, pSb, rBeneath1 hm hw hf hj hh]
    rw [if_neg (by omega)]
    by_cases c : zHang (nz nw) j (nI h) = true <;> simp [c]
  · show FL_X10_beneath_4 (nI m) nw (nI h) (n + 1) a (nI m) = _
    simp (disch := omega) only [FL_X10_beneath_4, pIx, pCl, pLe, pLt, pEq, pNm, pS1, pA0, pA8, pA16, pA24, pA32, pA40, pA48, pA56, pA64, pA72, pA80, pA88, pBs, pE8, pb0, pb1, pbo, if_true, if_false, pIy, pbq, pNz, pIw]
    rw [if_pos (Nat.le_refl m)]; rfl
theorem rInPort {m : Nat} {nw : Nat → Int32} {z z2 : Int32} (hm : m ≤ 8) : F_X10_inPort (nI m) nw z z2 = some (pFd (fun d => !decide (nz nw d = 0) && decide (nz nw (32 + d) = z) && decide (nz nw (40 + d) = z2)) m 0) := by
  unfold F_X10_inPort
  refine pFind (m := m) (L := fun n i => FL_X10_inPort_2 (nI m) nw z z2 n i) (p := (fun d => !decide (nz nw d = 0) && decide (nz nw (32 + d) = z) && decide (nz nw (40 + d) = z2))) (r := fun j => nI j) (e := -1) id (fun _ _ => rfl) rfl (fun n j hj => ?_) (fun n => ?_) m 1000 0 (by omega) (by omega)
  · show FL_X10_inPort_2 (nI m) nw z z2 (n + 1) (nI j) = _
    simp (disch := omega) only [FL_X10_inPort_2, pIx, pCl, pLe, pLt, pEq, pNm, pS1, pA0, pA8, pA16, pA24, pA32, pA40, pA48, pA56, pA64, pA72, pA80, pA88, pBs, pE8, pb0, pb1, pbo, if_true, if_false, pIy, pbq, pNz, pIw, rState]
    rw [if_neg (by omega)]
    by_cases c : nw j = 0 <;> by_cases c2 : nw (32 + j) = z <;> by_cases c3 : nw (40 + j) = z2 <;> simp [c, c2, c3]
  · show FL_X10_inPort_2 (nI m) nw z z2 (n + 1) (nI m) = _
    simp (disch := omega) only [FL_X10_inPort_2, pIx, pCl, pLe, pLt, pEq, pNm, pS1, pA0, pA8, pA16, pA24, pA32, pA40, pA48, pA56, pA64, pA72, pA80, pA88, pBs, pE8, pb0, pb1, pbo, if_true, if_false, pIy, pbq, pNz, pIw]
    rw [if_pos (Nat.le_refl m)]
def zNeed (T : Nat → Nat → Int32) (N : Nat → Int32) (d : Nat) : Int32 := if N (72 + d) = 1 then 0 else T d 2
theorem rNeed {m : Nat} {td nw : Nat → Int32} {d : Nat} (hm : m ≤ 8) (h : d < m) : F_X10_needOf td nw (nI d) = some (zNeed (tT m td) (nz nw) d) := by
  unfold F_X10_needOf zNeed; simp (disch := omega) only [pIx, pCl, pLe, pLt, pEq, pNm, pS1, pA0, pA8, pA16, pA24, pA32, pA40, pA48, pA56, pA64, pA72, pA80, pA88, pBs, pE8, pb0, pb1, pbo, if_true, if_false, pIy, pbq, pNz, pIw, rTold2 (m := m)]
  by_cases c : nw (72 + d) = 1 <;> simp [c]
def zTakes (T : Nat → Nat → Int32) (N : Nat → Int32) (d : Nat) : Int32 := if N (88 + d) = 1 then 0 else zNeed T N d
theorem zSlp_d {N : Nat → Int32} {d : Nat} (h : d < 8) : zSlp N d = decide (N (88 + d) = 1) := by
  unfold zSlp; simp (disch := omega) [show ¬ d = 8 from by omega]
theorem rTakes {m : Nat} {td nw : Nat → Int32} {d : Nat} (hm : m ≤ 8) (h : d < m) : F_X10_takesOf td nw (nI d) = some (zTakes (tT m td) (nz nw) d) := by
  unfold F_X10_takesOf zTakes; simp (disch := omega) only [pIx, pCl, pLe, pLt, pEq, pNm, pS1, pA0, pA8, pA16, pA24, pA32, pA40, pA48, pA56, pA64, pA72, pA80, pA88, pBs, pE8, pb0, pb1, pbo, if_true, if_false, pIy, pbq, pNz, pIw, rAsleep, rNeed (m := m), zSlp_d]
  by_cases c : nw (88 + d) = 1 <;> simp [c]
def zGv (R : Nat → Int32) (N : Nat → Int32) (x : Int32) : Int32 := if x = 8 then R 4 else if (¬ x < 0 ∧ ¬ 8 ≤ x) ∧ N (72 + x.toNatClampNeg) = 1 then 5 else 1
theorem rGives {ru nw : Nat → Int32} {c : Nat} (h : c ≤ 8) : F_X10_givesOf ru nw (nI c) = some (zGv ru (nz nw) (nI c)) := by
  unfold F_X10_givesOf zGv; simp (disch := omega) only [pIx, pCl, pLe, pLt, pEq, pNm, pS1, pA0, pA8, pA16, pA24, pA32, pA40, pA48, pA56, pA64, pA72, pA80, pA88, pBs, pE8, pb0, pb1, pbo, if_true, if_false, pIy, pbq, pNz, pIw, pLt0, p8Le]
  by_cases c8 : c = 8
  · simp [c8]
  · by_cases c2 : nw (72 + c) = 1 <;> simp [c8, c2] <;> omega
def zLf (T : Nat → Nat → Int32) (N : Nat → Int32) (h : Nat) (out : Int32) (d : Nat) (a : Int32) : Int32 := if N d = 6 ∧ N (32 + d) = nI h ∧ ¬ nI d = out then a - zTakes T N d else a
def zLeft (m : Nat) (R : Nat → Int32) (T : Nat → Nat → Int32) (N : Nat → Int32) (h : Nat) (out : Int32) : Int32 := pF (zLf T N h out) m 0 (zGv R N (N (32 + h)) - T h 2)
theorem p_sub0 (a : Int32) : a - 0 = a := by simp
theorem p_add0 (a : Int32) : a + 0 = a := by simp
theorem rLeftL {m : Nat} {ru td nw : Nat → Int32} {h : Nat} {out b : Int32} (hm : m ≤ 8) (hh : h ≤ 8) : FL_X10_leftOf_46 (nI m) ru td nw (nI h) out 1000 b 0 = some (pF (zLf (tT m td) (nz nw) h out) m 0 b) := by
  refine pLoop0 (L := fun n i a => FL_X10_leftOf_46 (nI m) ru td nw (nI h) out n a i) (fin := id) (fun n j a hj => ?_) (fun n a => ?_) 1000 _ (by omega)
  · show FL_X10_leftOf_46 (nI m) ru td nw (nI h) out (n + 1) a (nI j) = _
    simp (disch := omega) only [FL_X10_leftOf_46, pIx, pCl, pLe, pLt, pEq, pNm, pS1, pA0, pA8, pA16, pA24, pA32, pA40, pA48, pA56, pA64, pA72, pA80, pA88, pBs, pE8, pb0, pb1, pbo, if_true, if_false, pIy, pbq, pNz, pIw, rState, rTakes (m := m), zLf, p_sub0]
    rw [if_neg (by omega)]
    by_cases c : nw j = 6 <;> by_cases c2 : nw (32 + j) = nI h <;> by_cases c3 : nI j = out <;> simp [c, c2, c3]
  · show FL_X10_leftOf_46 (nI m) ru td nw (nI h) out (n + 1) a (nI m) = _
    simp (disch := omega) only [FL_X10_leftOf_46, pIx, pCl, pLe, pLt, pEq, pNm, pS1, pA0, pA8, pA16, pA24, pA32, pA40, pA48, pA56, pA64, pA72, pA80, pA88, pBs, pE8, pb0, pb1, pbo, if_true, if_false, pIy, pbq, pNz, pIw]
    rw [if_pos (Nat.le_refl m)]; rfl
theorem rLeft {m : Nat} {ru td nw : Nat → Int32} {h : Nat} {out : Int32} (hm : m ≤ 8) (hh : h ≤ 8) (hub : h = 8 ∨ (h < m ∧ ∃ c, c ≤ 8 ∧ nz nw (32 + h) = nI c)) : F_X10_leftOf (nI m) ru td nw (nI h) out = some (if h = 8 ∨ nz nw (72 + h) = 1 then 1000000 else zLeft m ru (tT m td) (nz nw) h out) := by
  unfold F_X10_leftOf
  by_cases c8 : h = 8
  · simp (disch := omega) only [pIx, pCl, pLe, pLt, pEq, pNm, pS1, pA0, pA8, pA16, pA24, pA32, pA40, pA48, pA56, pA64, pA72, pA80, pA88, pBs, pE8, pb0, pb1, pbo, if_true, if_false, pIy, pbq, pNz, pIw]; simp [c8]
  · rcases hub with hub | ⟨hm', c, hc, e⟩
    · exact absurd hub c8
    · have e' : nw (32 + h) = nI c := by rw [← e, pNz (by omega)]
      simp (disch := omega) only [pIx, pCl, pLe, pLt, pEq, pNm, pS1, pA0, pA8, pA16, pA24, pA32, pA40, pA48, pA56, pA64, pA72, pA80, pA88, pBs, pE8, pb0, pb1, pbo, if_true, if_false, pIy, pbq, pNz, pIw, e', rGives, rTold2 (m := m), rLeftL hm hh]
      by_cases c2 : nw (72 + h) = 1
      · simp [c8, c2]
      · simp [c8, c2, zLeft, e]
def zAwk (N : Nat → Int32) (d : Nat) : Bool := decide (N d = 6) && !decide (N (88 + d) = 1)
theorem rAwake {nw : Nat → Int32} {d : Nat} (h : d < 8) : F_X10_isAwake nw (nI d) = some (pb (zAwk (nz nw) d)) := by
  unfold F_X10_isAwake zAwk; simp (disch := omega) only [pIx, pCl, pLe, pLt, pEq, pNm, pS1, pA0, pA8, pA16, pA24, pA32, pA40, pA48, pA56, pA64, pA72, pA80, pA88, pBs, pE8, pb0, pb1, pbo, if_true, if_false, pIy, pbq, pNz, pIw, rState, rAsleep, zSlp_d]
  by_cases c : nw d = 6 <;> by_cases c2 : nw (88 + d) = 1 <;> simp [c, c2, pb]
/-- who runs is not away -/
def wQ (m : Nat) (N : Nat → Int32) : Prop := ∀ d, d < m → N (48 + d) ≠ -1 → N d ≠ 0
def zHf (T : Nat → Nat → Int32) (N : Nat → Int32) (z : Int32) (d : Nat) (a : Int32) : Int32 := if zAwk N d = true ∧ zHlp N d = z then a + T d 4 * (if N (48 + d) = 0 then 8 else 2) else a
def zHelp (m : Nat) (T : Nat → Nat → Int32) (N : Nat → Int32) (z : Int32) : Int32 := pF (zHf T N z) m 0 0
theorem rHelpL {m : Nat} {td nw : Nat → Int32} {r : Nat → Nat} {z : Int32} (hm : m ≤ 8) (hw : wR m (nz nw) r) (hq : wQ m (nz nw)) : FL_X10_helpOf_4 (nI m) td nw z 1000 0 0 = some (pF (zHf (tT m td) (nz nw) z) m 0 0) := by
  refine pLoop0 (L := fun n i a => FL_X10_helpOf_4 (nI m) td nw z n a i) (fin := id) (fun n j a hj => ?_) (fun n a => ?_) 1000 _ (by omega)
  · show FL_X10_helpOf_4 (nI m) td nw z (n + 1) a (nI j) = _
    simp (disch := omega) only [FL_X10_helpOf_4, pIx, pCl, pLe, pLt, pEq, pNm, pS1, pA0, pA8, pA16, pA24, pA32, pA40, pA48, pA56, pA64, pA72, pA80, pA88, pBs, pE8, pb0, pb1, pbo, if_true, if_false, pIy, pbq, pNz, pIw, rAwake, rTold4 (m := m), zHf, rHelper hm hw hj (hq j hj)]
    rw [if_neg (by omega)]
    by_cases c : zAwk (nz nw) j = true <;> by_cases c2 : zHlp (nz nw) j = z <;> by_cases c3 : nw (48 + j) = 0 <;> simp [c, c2, c3]
  · show FL_X10_helpOf_4 (nI m) td nw z (n + 1) a (nI m) = _
    simp (disch := omega) only [FL_X10_helpOf_4, pIx, pCl, pLe, pLt, pEq, pNm, pS1, pA0, pA8, pA16, pA24, pA32, pA40, pA48, pA56, pA64, pA72, pA80, pA88, pBs, pE8, pb0, pb1, pbo, if_true, if_false, pIy, pbq, pNz, pIw]
    rw [if_pos (Nat.le_refl m)]; rfl
theorem rHelp {m : Nat} {td nw : Nat → Int32} {r : Nat → Nat} {z : Int32} (hm : m ≤ 8) (hw : wR m (nz nw) r) (hq : wQ m (nz nw)) : F_X10_helpOf (nI m) td nw z = some (zHelp m (tT m td) (nz nw) z) := rHelpL hm hw hq
def zBf (T : Nat → Nat → Int32) (N : Nat → Int32) (d : Nat) (a : Int32) : Int32 := if zAwk N d = true then a + (T d 4 + (if zHlp N d = -1 ∨ T d 4 ≤ 0 then 0 else 4)) else a
def zBus (m : Nat) (T : Nat → Nat → Int32) (N : Nat → Int32) : Int32 := pF (zBf T N) m 0 0
theorem rBusL {m : Nat} {td nw : Nat → Int32} {r : Nat → Nat} (hm : m ≤ 8) (hw : wR m (nz nw) r) (hq : wQ m (nz nw)) : FL_X10_busOfAll_4 (nI m) td nw 1000 0 0 = some (pF (zBf (tT m td) (nz nw)) m 0 0) := by
  refine pLoop0 (L := fun n i a => FL_X10_busOfAll_4 (nI m) td nw n a i) (fin := id) (fun n j a hj => ?_) (fun n a => ?_) 1000 _ (by omega)
  · show FL_X10_busOfAll_4 (nI m) td nw (n + 1) a (nI j) = _
    simp (disch := omega) only [FL_X10_busOfAll_4, pIx, pCl, pLe, pLt, pEq, pNm, pS1, pA0, pA8, pA16, pA24, pA32, pA40, pA48, pA56, pA64, pA72, pA80, pA88, pBs, pE8, pb0, pb1, pbo, if_true, if_false, pIy, pbq, pNz, pIw, rAwake, rTold4 (m := m), zBf, rHelper hm hw hj (hq j hj)]
    rw [if_neg (by omega)]
    by_cases c : zAwk (nz nw) j = true <;> by_cases c2 : zHlp (nz nw) j = -1 <;> by_cases c3 : tT m td j 4 ≤ 0 <;> simp [c, c2, c3]
  · show FL_X10_busOfAll_4 (nI m) td nw (n + 1) a (nI m) = _
    simp (disch := omega) only [FL_X10_busOfAll_4, pIx, pCl, pLe, pLt, pEq, pNm, pS1, pA0, pA8, pA16, pA24, pA32, pA40, pA48, pA56, pA64, pA72, pA80, pA88, pBs, pE8, pb0, pb1, pbo, if_true, if_false, pIy, pbq, pNz, pIw]
    rw [if_pos (Nat.le_refl m)]; rfl
theorem rBus {m : Nat} {td nw : Nat → Int32} {r : Nat → Nat} (hm : m ≤ 8) (hw : wR m (nz nw) r) (hq : wQ m (nz nw)) : F_X10_busOfAll (nI m) td nw = some (zBus m (tT m td) (nz nw)) := rBusL hm hw hq
def zTime (m : Nat) (R : Nat → Int32) (T : Nat → Nat → Int32) (N : Nat → Int32) (d : Nat) : Bool := !decide (R 5 < zBus m T N) && (decide (zHlp N d = -1) || !decide (R 6 < zHelp m T N (zHlp N d)))
theorem rTime {m : Nat} {ru td nw : Nat → Int32} {r : Nat → Nat} {d : Nat} (hm : m ≤ 8) (hw : wR m (nz nw) r) (hq : wQ m (nz nw)) (hd : d < m) : F_X10_hasTime (nI m) ru td nw (nI d) = some (pb (zTime m ru (tT m td) (nz nw) d)) := by
  unfold F_X10_hasTime zTime
  simp only [rHelper hm hw hd (hq d hd), rBus hm hw hq, rHelp hm hw hq, pBs]
  by_cases c : ru 5 < zBus m (tT m td) (nz nw) <;> by_cases c2 : zHlp (nz nw) d = -1 <;> by_cases c3 : ru 6 < zHelp m (tT m td) (nz nw) (zHlp (nz nw) d) <;> simp [c, c2, c3, pb]
def zWho (m : Nat) (N : Nat → Int32) (z : Int32) : Int32 := pFd (fun d => decide (N d = 6) && decide (N (56 + d) = z)) m 0
theorem rWho_ {m : Nat} {nw : Nat → Int32} {z : Int32} (hm : m ≤ 8) : F_X10_whoHas (nI m) nw z = some (pFd (fun d => decide (nz nw d = 6) && decide (nz nw (56 + d) = z)) m 0) := by
  unfold F_X10_whoHas
  refine pFind (m := m) (L := fun n i => FL_X10_whoHas_2 (nI m) nw z n i) (p := (fun d => decide (nz nw d = 6) && decide (nz nw (56 + d) = z))) (r := fun j => nI j) (e := -1) id (fun _ _ => rfl) rfl (fun n j hj => ?_) (fun n => ?_) m 1000 0 (by omega) (by omega)
  · show FL_X10_whoHas_2 (nI m) nw z (n + 1) (nI j) = _
    simp (disch := omega) only [FL_X10_whoHas_2, pIx, pCl, pLe, pLt, pEq, pNm, pS1, pA0, pA8, pA16, pA24, pA32, pA40, pA48, pA56, pA64, pA72, pA80, pA88, pBs, pE8, pb0, pb1, pbo, if_true, if_false, pIy, pbq, pNz, pIw, rState]
    rw [if_neg (by omega)]
    by_cases c : nw j = 6 <;> by_cases c2 : nw (56 + j) = z <;> simp [c, c2]
  · show FL_X10_whoHas_2 (nI m) nw z (n + 1) (nI m) = _
    simp (disch := omega) only [FL_X10_whoHas_2, pIx, pCl, pLe, pLt, pEq, pNm, pS1, pA0, pA8, pA16, pA24, pA32, pA40, pA48, pA56, pA64, pA72, pA80, pA88, pBs, pE8, pb0, pb1, pbo, if_true, if_false, pIy, pbq, pNz, pIw]
    rw [if_pos (Nat.le_refl m)]
theorem rWho {m : Nat} {nw : Nat → Int32} {z : Int32} (hm : m ≤ 8) : F_X10_whoHas (nI m) nw z = some (zWho m (nz nw) z) := rWho_ hm
def zAddr (m t : Nat) (N : Nat → Int32) : Int32 := pFd (fun a => decide (zWho m N (nI a) = -1)) t 1
theorem rAddr {m t : Nat} {ru nw : Nat → Int32} (hm : m ≤ 8) (ht : t ≤ 200) (h7 : ru 7 = nI t) : F_X10_freeAddress (nI m) ru nw = some (zAddr m t (nz nw)) := by
  unfold F_X10_freeAddress
  refine pFind (m := t + 1) (L := fun n i => FL_X10_freeAddress_2 (nI m) ru nw n i) (p := fun a => decide (zWho m (nz nw) (nI a) = -1)) (r := fun j => nI j) (e := -1) id (fun _ _ => rfl) rfl (fun n j hj => ?_) (fun n => ?_) t 1000 1 (by omega) (by omega)
  · show FL_X10_freeAddress_2 (nI m) ru nw (n + 1) (nI j) = _
    simp (disch := omega) only [FL_X10_freeAddress_2, pIx, pCl, pLe, pLt, pEq, pNm, pS1, pA0, pA8, pA16, pA24, pA32, pA40, pA48, pA56, pA64, pA72, pA80, pA88, pBs, pE8, pb0, pb1, pbo, if_true, if_false, pIy, pbq, pNz, pIw, h7, rWho hm]
    rw [if_neg (by omega)]
    by_cases c : zWho m (nz nw) (nI j) = -1 <;> simp [c]
  · show FL_X10_freeAddress_2 (nI m) ru nw (n + 1) (nI (t + 1)) = _
    simp (disch := omega) only [FL_X10_freeAddress_2, pIx, pCl, pLe, pLt, pEq, pNm, pS1, pA0, pA8, pA16, pA24, pA32, pA40, pA48, pA56, pA64, pA72, pA80, pA88, pBs, pE8, pb0, pb1, pbo, if_true, if_false, pIy, pbq, pNz, pIw, h7]
    rw [if_pos (by omega)]
def zBsy (N : Nat → Int32) (d : Nat) : Bool := !decide (N d < 3) && !decide (5 < N d)
theorem rBusy1 {nw : Nat → Int32} {d : Nat} (h : d < 8) : F_X10_isBusy nw (nI d) = some (pb (zBsy (nz nw) d)) := by
  unfold F_X10_isBusy zBsy; simp (disch := omega) only [pIx, pCl, pLe, pLt, pEq, pNm, pS1, pA0, pA8, pA16, pA24, pA32, pA40, pA48, pA56, pA64, pA72, pA80, pA88, pBs, pE8, pb0, pb1, pbo, if_true, if_false, pIy, pbq, pNz, pIw, rState, rIn]
theorem rBusy {m : Nat} {nw : Nat → Int32} (hm : m ≤ 8) : F_X10_busy (nI m) nw = some (pFd (zBsy (nz nw)) m 0) := by
  unfold F_X10_busy
  refine pFind (m := m) (L := fun n i => FL_X10_busy_2 (nI m) nw n i) (p := (zBsy (nz nw))) (r := fun j => nI j) (e := -1) id (fun _ _ => rfl) rfl (fun n j hj => ?_) (fun n => ?_) m 1000 0 (by omega) (by omega)
  · show FL_X10_busy_2 (nI m) nw (n + 1) (nI j) = _
    simp (disch := omega) only [FL_X10_busy_2, pIx, pCl, pLe, pLt, pEq, pNm, pS1, pA0, pA8, pA16, pA24, pA32, pA40, pA48, pA56, pA64, pA72, pA80, pA88, pBs, pE8, pb0, pb1, pbo, if_true, if_false, pIy, pbq, pNz, pIw, rBusy1]
    rw [if_neg (by omega)]
    by_cases c : zBsy (nz nw) j = true <;> simp [c]
  · show FL_X10_busy_2 (nI m) nw (n + 1) (nI m) = _
    simp (disch := omega) only [FL_X10_busy_2, pIx, pCl, pLe, pLt, pEq, pNm, pS1, pA0, pA8, pA16, pA24, pA32, pA40, pA48, pA56, pA64, pA72, pA80, pA88, pBs, pE8, pb0, pb1, pbo, if_true, if_false, pIy, pbq, pNz, pIw]
    rw [if_pos (Nat.le_refl m)]
def wB (m : Nat) (b : Int32) : Prop := b = -1 ∨ ∃ e, e < m ∧ b = nI e
def zGf (T : Nat → Nat → Int32) (N : Nat → Int32) (z : Int32) (d : Nat) (b : Int32) : Int32 := if N d = 6 ∧ N (32 + d) = z then (if b = -1 then nI d else if zTakes T N d < zTakes T N b.toNatClampNeg then b else nI d) else b
def zGrd (m : Nat) (T : Nat → Nat → Int32) (N : Nat → Int32) (z : Int32) : Int32 := pF (zGf T N z) m 0 (-1)
theorem rGreed {m : Nat} {td nw : Nat → Int32} {z : Int32} (hm : m ≤ 8) : F_X10_greediest (nI m) td nw z = some (zGrd m (tT m td) (nz nw) z) ∧ wB m (zGrd m (tT m td) (nz nw) z) := by
  unfold F_X10_greediest
  refine pLoop (m := m) (L := fun n i a => FL_X10_greediest_4 (nI m) td nw z n a i) (g := zGf (tT m td) (nz nw) z) (fin := id) (fun j b => wB m b) (fun n j b hj hb => ?_) (fun n b hb => ?_) m 1000 0 (-1) (by omega) (by omega) (Or.inl rfl)
  · refine ⟨?_, ?_⟩
    · show FL_X10_greediest_4 (nI m) td nw z (n + 1) b (nI j) = _
      rcases hb with rfl | ⟨e, he, rfl⟩
      · simp (disch := omega) only [FL_X10_greediest_4, pIx, pCl, pLe, pLt, pEq, pNm, pS1, pA0, pA8, pA16, pA24, pA32, pA40, pA48, pA56, pA64, pA72, pA80, pA88, pBs, pE8, pb0, pb1, pbo, if_true, if_false, pIy, pbq, pNz, pIw, rState, rTakes (m := m), zGf]
        rw [if_neg (by omega)]
        by_cases c : nw j = 6 <;> by_cases c2 : nw (32 + j) = z <;> simp [c, c2]
      · simp (disch := omega) only [FL_X10_greediest_4, pIx, pCl, pLe, pLt, pEq, pNm, pS1, pA0, pA8, pA16, pA24, pA32, pA40, pA48, pA56, pA64, pA72, pA80, pA88, pBs, pE8, pb0, pb1, pbo, if_true, if_false, pIy, pbq, pNz, pIw, rState, rTakes (m := m), zGf]
        rw [if_neg (by omega)]
        by_cases c : nw j = 6 <;> by_cases c2 : nw (32 + j) = z <;> by_cases c3 : zTakes (tT m td) (nz nw) j < zTakes (tT m td) (nz nw) e <;> simp [c, c2, c3]
    · unfold zGf
      by_cases c : nz nw j = 6 ∧ nz nw (32 + j) = z
      · rw [if_pos c]
        by_cases c1 : b = -1
        · rw [if_pos c1]; exact Or.inr ⟨j, hj, rfl⟩
        · rw [if_neg c1]
          by_cases c3 : zTakes (tT m td) (nz nw) j < zTakes (tT m td) (nz nw) b.toNatClampNeg
          · rw [if_pos c3]; exact hb
          · rw [if_neg c3]; exact Or.inr ⟨j, hj, rfl⟩
      · rw [if_neg c]; exact hb
  · show FL_X10_greediest_4 (nI m) td nw z (n + 1) b (nI m) = _
    simp (disch := omega) only [FL_X10_greediest_4, pIx, pCl, pLe, pLt, pEq, pNm, pS1, pA0, pA8, pA16, pA24, pA32, pA40, pA48, pA56, pA64, pA72, pA80, pA88, pBs, pE8, pb0, pb1, pbo, if_true, if_false, pIy, pbq, pNz, pIw]
    rw [if_pos (Nat.le_refl m)]; rfl
def zNf (N : Nat → Int32) (d : Nat) (b : Int32) : Int32 := if N d = 2 ∧ (N (32 + d) = 8 ∨ N (N (32 + d)).toNatClampNeg = 6 ∧ ¬ N (88 + (N (32 + d)).toNatClampNeg) = 1) then (if b = -1 then nI d else if N (16 + b.toNatClampNeg) ≤ N (16 + d) then b else nI d) else b
def zNext (m : Nat) (N : Nat → Int32) : Int32 := pF (zNf N) m 0 (-1)
/-- of all that are not away the hub is one -/
def wH (m : Nat) (N : Nat → Int32) : Prop := ∀ d, d < m → N d ≠ 0 → ∃ c, c ≤ 8 ∧ N (32 + d) = nI c
theorem wR.h {m : Nat} {N : Nat → Int32} {r : Nat → Nat} (hm : m ≤ 8) (hw : wR m N r) : wH m N := fun d hd h => by
  obtain ⟨_, c, h1, h2⟩ := hw d hd h
  exact ⟨c, by rcases h2 with h2 | ⟨h2, _, _⟩ <;> omega, h1⟩
theorem rNext {m : Nat} {nw : Nat → Int32} (hm : m ≤ 8) (hh : wH m (nz nw)) : F_X10_nextOne (nI m) nw = some (zNext m (nz nw)) ∧ wB m (zNext m (nz nw)) := by
  unfold F_X10_nextOne
  refine pLoop (m := m) (L := fun n i a => FL_X10_nextOne_4 (nI m) nw n a i) (g := zNf (nz nw)) (fin := id) (fun j b => wB m b) (fun n j b hj hb => ?_) (fun n b hb => ?_) m 1000 0 (-1) (by omega) (by omega) (Or.inl rfl)
  · refine ⟨?_, ?_⟩
    · show FL_X10_nextOne_4 (nI m) nw (n + 1) b (nI j) = _
      by_cases c : nw j = 2
      · obtain ⟨h, h1, h2⟩ := hh j hj (by rw [pNz (by omega), c]; decide)
        rw [pNz (by omega)] at h2
        rcases hb with rfl | ⟨e, he, rfl⟩
        · simp (disch := omega) only [FL_X10_nextOne_4, pIx, pCl, pLe, pLt, pEq, pNm, pS1, pA0, pA8, pA16, pA24, pA32, pA40, pA48, pA56, pA64, pA72, pA80, pA88, pBs, pE8, pb0, pb1, pbo, if_true, if_false, pIy, pbq, pNz, pIw, rState, zNf, c, h2, rRunning, rAsleep, zRun, zSlp]
          rw [if_neg (by omega)]
          by_cases c8 : h = 8 <;> by_cases c6 : nw h = 6 <;> by_cases c1 : nw (88 + h) = 1 <;> simp (disch := omega) [c8, c6, c1, pNz]
        · simp (disch := omega) only [FL_X10_nextOne_4, pIx, pCl, pLe, pLt, pEq, pNm, pS1, pA0, pA8, pA16, pA24, pA32, pA40, pA48, pA56, pA64, pA72, pA80, pA88, pBs, pE8, pb0, pb1, pbo, if_true, if_false, pIy, pbq, pNz, pIw, rState, zNf, c, h2, rRunning, rAsleep, zRun, zSlp]
          rw [if_neg (by omega)]
          by_cases c8 : h = 8 <;> by_cases c6 : nw h = 6 <;> by_cases c1 : nw (88 + h) = 1 <;> by_cases c9 : nw (16 + e) ≤ nw (16 + j) <;> simp (disch := omega) [c8, c6, c1, c9, pNz]
      · simp (disch := omega) only [FL_X10_nextOne_4, pIx, pCl, pLe, pLt, pEq, pNm, pS1, pA0, pA8, pA16, pA24, pA32, pA40, pA48, pA56, pA64, pA72, pA80, pA88, pBs, pE8, pb0, pb1, pbo, if_true, if_false, pIy, pbq, pNz, pIw, rState, zNf, c]
        rw [if_neg (by omega)]; simp
    · unfold zNf
      split
      · split
        · exact Or.inr ⟨j, hj, rfl⟩
        · split
          · exact hb
          · exact Or.inr ⟨j, hj, rfl⟩
      · exact hb
  · show FL_X10_nextOne_4 (nI m) nw (n + 1) b (nI m) = _
    simp (disch := omega) only [FL_X10_nextOne_4, pIx, pCl, pLe, pLt, pEq, pNm, pS1, pA0, pA8, pA16, pA24, pA32, pA40, pA48, pA56, pA64, pA72, pA80, pA88, pBs, pE8, pb0, pb1, pbo, if_true, if_false, pIy, pbq, pNz, pIw]
    rw [if_pos (Nat.le_refl m)]; rfl
theorem rHas {p : Nat → Bool} {m k : Nat} (hm : m ≤ 8) (hk : k < m) : F_X10_has (pSet p m) (nI k) = some (pb (p k)) := by
  unfold F_X10_has
  rw [pHas hm (by omega)]
  cases h : p k <;> simp [hk, pb]
def zRt (N : Nat → Int32) (z : Int32) (d : Nat) : Bool := !decide (N d = 0) && decide (N (32 + d) = z)
def zMp (R : Nat → Int32) (T : Nat → Nat → Int32) (N : Nat → Int32) (z : Int32) (d : Nat) : Bool := zRt N z d && decide (N d = 6) && !decide (zTakes T N d ≤ zGv R N z)
def zMuch (m : Nat) (R : Nat → Int32) (T : Nat → Nat → Int32) (N : Nat → Int32) (h : Nat) : Bool := !decide (pFd (zMp R T N (nI h)) m 0 = -1) || (!(decide (h = 8) || decide (N (72 + h) = 1)) && decide (zLeft m R T N h (-1) < 0))
theorem rMuch {m : Nat} {ru td nw : Nat → Int32} {h : Nat} (hm : m ≤ 8) (hh : h < m) (hub : ∃ c, c ≤ 8 ∧ nz nw (32 + h) = nI c) : F_X10_isTooMuch (nI m) ru td nw (nI h) = some (pb (zMuch m ru (tT m td) (nz nw) h)) := by
  unfold F_X10_isTooMuch
  rw [rRight hm, pBs]
  have e := pFind (m := m) (L := fun n i => FL_X10_isTooMuch_8 (nI m) ru td nw (nI h) n (pSet (fun d => !decide (nz nw d = 0) && decide (nz nw (32 + d) = nI h)) m) i) (p := zMp ru (tT m td) (nz nw) (nI h)) (r := fun j => 1) (e := pb (!(decide (h = 8) || decide (nz nw (72 + h) = 1)) && decide (zLeft m ru (tT m td) (nz nw) h (-1) < 0))) (fun x => if x = -1 then pb (!(decide (h = 8) || decide (nz nw (72 + h) = 1)) && decide (zLeft m ru (tT m td) (nz nw) h (-1) < 0)) else 1) (fun j hj => by simp (disch := omega) only [pNm, if_false]) (if_pos rfl) (fun n j hj => ?_) (fun n => ?_) m 1000 0 (by omega) (by omega)
  · refine e.trans ?_
    unfold zMuch
    by_cases c : pFd (zMp ru (tT m td) (nz nw) (nI h)) m 0 = -1 <;> simp [c, pb]
  · show FL_X10_isTooMuch_8 (nI m) ru td nw (nI h) (n + 1) _ (nI j) = _
    simp (disch := omega) only [FL_X10_isTooMuch_8, pIx, pCl, pLe, pLt, pEq, pNm, pS1, pA0, pA8, pA16, pA24, pA32, pA40, pA48, pA56, pA64, pA72, pA80, pA88, pBs, pE8, pb0, pb1, pbo, if_true, if_false, pIy, pbq, pNz, pIw, rHas hm hj, rState, rTakes (m := m), rGives, zMp, zRt]
    rw [if_neg (by omega)]
    by_cases c : nw j = 0 <;> by_cases c2 : nw (32 + j) = nI h <;> by_cases c3 : nw j = 6 <;> by_cases c4 : zTakes (tT m td) (nz nw) j ≤ zGv ru (nz nw) (nI h) <;> first | (simp [c, c2, c3, c4]; done) | simp_all
  · show FL_X10_isTooMuch_8 (nI m) ru td nw (nI h) (n + 1) _ (nI m) = _
    simp (disch := omega) only [FL_X10_isTooMuch_8, pIx, pCl, pLe, pLt, pEq, pNm, pS1, pA0, pA8, pA16, pA24, pA32, pA40, pA48, pA56, pA64, pA72, pA80, pA88, pBs, pE8, pb0, pb1, pbo, if_true, if_false, pIy, pbq, pNz, pIw, rLeft hm (by omega : h ≤ 8) (Or.inr ⟨hh, hub⟩)]
    rw [if_pos (Nat.le_refl m)]
    by_cases c : h = 8 ∨ nw (72 + h) = 1
    · rw [if_pos c]
      have : (decide (h = 8) || decide (nw (72 + h) = 1)) = true := by simpa using c
      simp [this, pb]
    · rw [if_neg c]
      have : (decide (h = 8) || decide (nw (72 + h) = 1)) = false := by simpa using c
      by_cases c0 : 0 ≤ zLeft m ru (tT m td) (nz nw) h (-1)
      · have c1 : ¬ zLeft m ru (tT m td) (nz nw) h (-1) < 0 := by rw [q_lt]; rw [q_le] at c0; omega
        simp [this, c0, c1, pb]
      · have c1 : zLeft m ru (tT m td) (nz nw) h (-1) < 0 := by rw [q_lt]; rw [q_le] at c0; omega
        simp [this, c0, c1, pb]
def zCp (N : Nat → Int32) (z : Int32) (d : Nat) : Bool := zRt N z d && (zBsy N d || zAwk N d)
def zCanFall (m : Nat) (N : Nat → Int32) (z : Int32) : Bool := decide (pFd (zCp N z) m 0 = -1)
theorem rCanFall {m : Nat} {nw : Nat → Int32} {z : Int32} (hm : m ≤ 8) : F_X10_canFall (nI m) nw z = some (pb (zCanFall m (nz nw) z)) := by
  unfold F_X10_canFall
  rw [rRight hm, pBs]
  have e := pFind (m := m) (L := fun n i => FL_X10_canFall_8 (nI m) nw z n (pSet (fun d => !decide (nz nw d = 0) && decide (nz nw (32 + d) = z)) m) i) (p := zCp (nz nw) z) (r := fun j => 0) (e := 1) (fun x => if x = -1 then 1 else 0) (fun j hj => by simp (disch := omega) only [pNm, if_false]) (if_pos rfl) (fun n j hj => ?_) (fun n => ?_) m 1000 0 (by omega) (by omega)
  · refine e.trans ?_
    unfold zCanFall
    by_cases c : pFd (zCp (nz nw) z) m 0 = -1 <;> simp [c, pb]
  · show FL_X10_canFall_8 (nI m) nw z (n + 1) _ (nI j) = _
    simp (disch := omega) only [FL_X10_canFall_8, pIx, pCl, pLe, pLt, pEq, pNm, pS1, pA0, pA8, pA16, pA24, pA32, pA40, pA48, pA56, pA64, pA72, pA80, pA88, pBs, pE8, pb0, pb1, pbo, if_true, if_false, pIy, pbq, pNz, pIw, rHas hm hj, rBusy1, rAwake, zCp, zRt]
    rw [if_neg (by omega)]
    by_cases c : nw j = 0 <;> by_cases c2 : nw (32 + j) = z <;> by_cases c3 : zBsy (nz nw) j = true <;> by_cases c4 : zAwk (nz nw) j = true <;> first | (simp [c, c2, c3, c4]; done) | simp_all
  · show FL_X10_canFall_8 (nI m) nw z (n + 1) _ (nI m) = _
    simp (disch := omega) only [FL_X10_canFall_8, pIx, pCl, pLe, pLt, pEq, pNm, pS1, pA0, pA8, pA16, pA24, pA32, pA40, pA48, pA56, pA64, pA72, pA80, pA88, pBs, pE8, pb0, pb1, pbo, if_true, if_false, pIy, pbq, pNz, pIw]
    rw [if_pos (Nat.le_refl m)]
end

section
/-! the program's readers of the bus -/
def tP (m : Nat) (fp : Nat → Int32) (d k : Nat) : Int32 := if d < m ∧ k < 6 then fp (8 * k + d) else 0
theorem tP0 {m : Nat} {fp : Nat → Int32} {d : Nat} (hm : m ≤ 8) (h : d < m) : tP m fp d 0 = fp d := by unfold tP; rw [if_pos ⟨h, by decide⟩, Nat.mul_zero, Nat.zero_add]
theorem tP1 {m : Nat} {fp : Nat → Int32} {d : Nat} (hm : m ≤ 8) (h : d < m) : tP m fp d 1 = fp (8 + d) := if_pos ⟨h, by decide⟩
theorem tP2 {m : Nat} {fp : Nat → Int32} {d : Nat} (hm : m ≤ 8) (h : d < m) : tP m fp d 2 = fp (16 + d) := if_pos ⟨h, by decide⟩
theorem tP3 {m : Nat} {fp : Nat → Int32} {d : Nat} (hm : m ≤ 8) (h : d < m) : tP m fp d 3 = fp (24 + d) := if_pos ⟨h, by decide⟩
theorem tP4 {m : Nat} {fp : Nat → Int32} {d : Nat} (hm : m ≤ 8) (h : d < m) : tP m fp d 4 = fp (32 + d) := if_pos ⟨h, by decide⟩
theorem tP5 {m : Nat} {fp : Nat → Int32} {d : Nat} (hm : m ≤ 8) (h : d < m) : tP m fp d 5 = fp (40 + d) := if_pos ⟨h, by decide⟩
theorem pX3 (x : Int32) : x < 0 ∨ 8 ≤ x ∨ ∃ c, c < 8 ∧ x = nI c := by
  by_cases h : x < 0
  · exact Or.inl h
  · obtain ⟨j, hj, rfl⟩ := nI_of h
    by_cases h8 : 8 ≤ j
    · exact Or.inr (Or.inl ((p8Le (by omega)).mpr h8))
    · exact Or.inr (Or.inr ⟨j, by omega, rfl⟩)
theorem cTold {m : Nat} (hm : m ≤ 8) : F_X5_isTold (nI m) = some (pb (decide (0 < m))) := by
  unfold F_X5_isTold
  simp (disch := omega) only [pLe0]
  by_cases c : 0 < m
  · rw [if_neg (by omega)]; simp [c, pb]
  · rw [if_pos (by omega)]; simp [c, pb]
theorem cHas {m : Nat} {z : Int32} (hm : m ≤ 8) : F_X5_has (nI m) z = some (pb (zDev m z)) := by
  unfold F_X5_has
  by_cases c : z < 0
  · have : zDev m z = false := by unfold zDev; simp [c]
    rw [if_pos c, this]; rfl
  · obtain ⟨j, hj, rfl⟩ := nI_of c
    rw [zDev_nI hm hj, if_neg c]
    simp (disch := omega) only [pLe]
    by_cases c2 : j < m
    · rw [if_neg (by omega)]; simp [c2, pb]
    · rw [if_pos (by omega)]; simp [c2, pb]
theorem cIs {m : Nat} {fr fu fp : Nat → Int32} {c : Nat} {e : Int32} (h : c ≤ 8) : F_X0_is fr (nI m) fu fp (nI c) e = some (pb (!decide (c = 8) && decide (nz fr c = e))) := by
  unfold F_X0_is
  by_cases c8 : c = 8
  · subst c8
    simp [show ¬ nI 8 < 0 from by decide, show (8 : Int32) ≤ nI 8 from by decide, pb]
  · simp (disch := omega) only [pIx, pCl, pLe, pLt, pEq, pNm, pS1, pA0, pA8, pA16, pA24, pA32, pA40, pA48, pA56, pA64, pA72, pA80, pA88, pBs, pE8, pb0, pb1, pbo, if_true, if_false, pIy, pbq, pNz, pIw, pLt0, p8Le]
    rw [if_neg (by omega)]
    by_cases c2 : fr c = e <;> simp [c8, c2, pb]
theorem cIsm {m : Nat} {fr fu fp : Nat → Int32} {e : Int32} : F_X0_is fr (nI m) fu fp (-1) e = some (pb false) := rfl
theorem cAsleep {m : Nat} {fr fu fp : Nat → Int32} {c : Nat} (h : c ≤ 8) : F_X0_isAsleep fr (nI m) fu fp (nI c) = some (pb (zSlp (nz fr) c)) := by
  unfold F_X0_isAsleep zSlp
  by_cases c8 : c = 8
  · subst c8
    simp [show ¬ nI 8 < 0 from by decide, show (8 : Int32) ≤ nI 8 from by decide, pb]
  · simp (disch := omega) only [pIx, pCl, pLe, pLt, pEq, pNm, pS1, pA0, pA8, pA16, pA24, pA32, pA40, pA48, pA56, pA64, pA72, pA80, pA88, pBs, pE8, pb0, pb1, pbo, if_true, if_false, pIy, pbq, pNz, pIw, pLt0, p8Le]
    rw [if_neg (by omega)]
    by_cases c2 : fr (88 + c) = 1 <;> simp [c8, c2, pb]
/-- asleep is 0 or 1 -/
def wS (m : Nat) (N : Nat → Int32) : Prop := ∀ d, d < m → N (88 + d) = 0 ∨ N (88 + d) = 1
theorem cAwake {m : Nat} {fr fu fp : Nat → Int32} {d : Nat} (h : d < 8) (hs : nz fr (88 + d) = 0 ∨ nz fr (88 + d) = 1) : F_X0_isAwake fr (nI m) fu fp (nI d) = some (pb (zAwk (nz fr) d)) := by
  rw [pNz (by omega)] at hs
  unfold F_X0_isAwake zAwk; simp (disch := omega) only [pIx, pCl, pLe, pLt, pEq, pNm, pS1, pA0, pA8, pA16, pA24, pA32, pA40, pA48, pA56, pA64, pA72, pA80, pA88, pBs, pE8, pb0, pb1, pbo, if_true, if_false, pIy, pbq, pNz, pIw]
  rcases hs with hs | hs <;> by_cases c : fr d = 6 <;> simp [c, hs, pb]
theorem cStand1 {m : Nat} {fr fu fp : Nat → Int32} {d : Nat} (h : d < 8) : F_X0_isStanding fr (nI m) fu fp (nI d) = some (pb (zBsy (nz fr) d)) := by
  unfold F_X0_isStanding zBsy; simp (disch := omega) only [pIx, pCl, pLe, pLt, pEq, pNm, pS1, pA0, pA8, pA16, pA24, pA32, pA40, pA48, pA56, pA64, pA72, pA80, pA88, pBs, pE8, pb0, pb1, pbo, if_true, if_false, pIy, pbq, pNz, pIw]
  by_cases c : fr d < 3 <;> by_cases c2 : 5 < fr d <;> simp [c, c2, pb]
theorem cAll {m : Nat} {fr fu fp : Nat → Int32} {e : Int32} (hm : m ≤ 8) : F_X0_allThatAre fr (nI m) fu fp e = some (pSet (fun d => decide (nz fr d = e)) m) := by
  unfold F_X0_allThatAre
  refine pLoop0 (L := fun n i a => FL_X0_allThatAre_4 fr (nI m) fu fp e n a i) (fin := id) (fun n j a hj => ?_) (fun n a => ?_) 1000 0 (by omega)
  · show FL_X0_allThatAre_4 fr (nI m) fu fp e (n + 1) a (nI j) = _
    simp (disch := omega) only [FL_X0_allThatAre_4, pIx, pCl, pLe, pLt, pEq, pNm, pS1, pA0, pA8, pA16, pA24, pA32, pA40, pA48, pA56, pA64, pA72, pA80, pA88, pBs, pE8, pb0, pb1, pbo, if_true, if_false, pIy, pbq, pNz, pIw, pSb]
    rw [if_neg (by omega)]
    by_cases c : fr j = e <;> simp [c]
  · show FL_X0_allThatAre_4 fr (nI m) fu fp e (n + 1) a (nI m) = _
    simp (disch := omega) only [FL_X0_allThatAre_4, pIx, pCl, pLe, pLt, pEq, pNm, pS1, pA0, pA8, pA16, pA24, pA32, pA40, pA48, pA56, pA64, pA72, pA80, pA88, pBs, pE8, pb0, pb1, pbo, if_true, if_false, pIy, pbq, pNz, pIw]
    rw [if_pos (Nat.le_refl m)]; rfl
theorem cRunning {m : Nat} {fr fu fp : Nat → Int32} (hm : m ≤ 8) : F_X0_running fr (nI m) fu fp = some (nI (pNum (fun d => decide (nz fr d = 6)) m)) := by
  unfold F_X0_running; rw [cAll hm, pBs, pCount hm, pBs]
theorem cStanding {m : Nat} {fr fu fp : Nat → Int32} (hm : m ≤ 8) : F_X0_standing fr (nI m) fu fp = some (pFd (zBsy (nz fr)) m 0) := by
  unfold F_X0_standing
  refine pFind (m := m) (L := fun n i => FL_X0_standing_2 fr (nI m) fu fp n i) (p := (zBsy (nz fr))) (r := fun j => nI j) (e := -1) id (fun _ _ => rfl) rfl (fun n j hj => ?_) (fun n => ?_) m 1000 0 (by omega) (by omega)
  · show FL_X0_standing_2 fr (nI m) fu fp (n + 1) (nI j) = _
    simp (disch := omega) only [FL_X0_standing_2, pIx, pCl, pLe, pLt, pEq, pNm, pS1, pA0, pA8, pA16, pA24, pA32, pA40, pA48, pA56, pA64, pA72, pA80, pA88, pBs, pE8, pb0, pb1, pbo, if_true, if_false, pIy, pbq, pNz, pIw, cStand1]
    rw [if_neg (by omega)]
    by_cases c : zBsy (nz fr) j = true <;> simp [c]
  · show FL_X0_standing_2 fr (nI m) fu fp (n + 1) (nI m) = _
    simp (disch := omega) only [FL_X0_standing_2, pIx, pCl, pLe, pLt, pEq, pNm, pS1, pA0, pA8, pA16, pA24, pA32, pA40, pA48, pA56, pA64, pA72, pA80, pA88, pBs, pE8, pb0, pb1, pbo, if_true, if_false, pIy, pbq, pNz, pIw]
    rw [if_pos (Nat.le_refl m)]
theorem cPlugged_ {m : Nat} {fr fu fp : Nat → Int32} {z z2 : Int32} (hm : m ≤ 8) : F_X0_pluggedInto fr (nI m) fu fp z z2 = some (pFd (fun d => decide (nz fr (32 + d) = z) && decide (nz fr (40 + d) = z2)) m 0) := by
  unfold F_X0_pluggedInto
  refine pFind (m := m) (L := fun n i => FL_X0_pluggedInto_2 fr (nI m) fu fp z z2 n i) (p := (fun d => decide (nz fr (32 + d) = z) && decide (nz fr (40 + d) = z2))) (r := fun j => nI j) (e := -1) id (fun _ _ => rfl) rfl (fun n j hj => ?_) (fun n => ?_) m 1000 0 (by omega) (by omega)
  · show FL_X0_pluggedInto_2 fr (nI m) fu fp z z2 (n + 1) (nI j) = _
    simp (disch := omega) only [FL_X0_pluggedInto_2, pIx, pCl, pLe, pLt, pEq, pNm, pS1, pA0, pA8, pA16, pA24, pA32, pA40, pA48, pA56, pA64, pA72, pA80, pA88, pBs, pE8, pb0, pb1, pbo, if_true, if_false, pIy, pbq, pNz, pIw]
    rw [if_neg (by omega)]
    by_cases c2 : fr (32 + j) = z <;> by_cases c3 : fr (40 + j) = z2 <;> simp [c2, c3]
  · show FL_X0_pluggedInto_2 fr (nI m) fu fp z z2 (n + 1) (nI m) = _
    simp (disch := omega) only [FL_X0_pluggedInto_2, pIx, pCl, pLe, pLt, pEq, pNm, pS1, pA0, pA8, pA16, pA24, pA32, pA40, pA48, pA56, pA64, pA72, pA80, pA88, pBs, pE8, pb0, pb1, pbo, if_true, if_false, pIy, pbq, pNz, pIw]
    rw [if_pos (Nat.le_refl m)]
theorem cPlugged {m : Nat} {fr fu fp : Nat → Int32} {z z2 : Int32} (hm : m ≤ 8) (hf : wF m (nz fr)) (hz : z ≠ -1) : F_X0_pluggedInto fr (nI m) fu fp z z2 = some (pFd (fun d => !decide (nz fr d = 0) && decide (nz fr (32 + d) = z) && decide (nz fr (40 + d) = z2)) m 0) := by
  rw [cPlugged_ hm]; congr 1
  refine pFd_congr m 0 (fun i _ h => ?_)
  by_cases c : nz fr i = 0
  · have e := hf i (by omega) c
    have : ¬ nz fr (32 + i) = z := by rw [e]; exact fun h => hz h.symm
    simp [this]
  · simp [c]
theorem cRight_ {m : Nat} {fr fu fp : Nat → Int32} {z : Int32} (hm : m ≤ 8) : F_X0_rightAt fr (nI m) fu fp z = some (pSet (fun d => decide (nz fr (32 + d) = z)) m) := by
  unfold F_X0_rightAt
  refine pLoop0 (L := fun n i a => FL_X0_rightAt_4 fr (nI m) fu fp z n a i) (fin := id) (fun n j a hj => ?_) (fun n a => ?_) 1000 0 (by omega)
  · show FL_X0_rightAt_4 fr (nI m) fu fp z (n + 1) a (nI j) = _
    simp (disch := omega) only [FL_X0_rightAt_4, pIx, pCl, pLe, pLt, pEq, pNm, pS1, pA0, pA8, pA16, pA24, pA32, pA40, pA48, pA56, pA64, pA72, pA80, pA88, pBs, pE8, pb0, pb1, pbo, if_true, if_false, pIy, pbq, pNz, pIw, pSb]
    rw [if_neg (by omega)]
    by_cases c2 : fr (32 + j) = z <;> simp [c2]
  · show FL_X0_rightAt_4 fr (nI m) fu fp z (n + 1) a (nI m) = _
    simp (disch := omega) only [FL_X0_rightAt_4, pIx, pCl, pLe, pLt, pEq, pNm, pS1, pA0, pA8, pA16, pA24, pA32, pA40, pA48, pA56, pA64, pA72, pA80, pA88, pBs, pE8, pb0, pb1, pbo, if_true, if_false, pIy, pbq, pNz, pIw]
    rw [if_pos (Nat.le_refl m)]; rfl
theorem cRight {m : Nat} {fr fu fp : Nat → Int32} {z : Int32} (hm : m ≤ 8) (hf : wF m (nz fr)) (hz : z ≠ -1) : F_X0_rightAt fr (nI m) fu fp z = some (pSet (fun d => !decide (nz fr d = 0) && decide (nz fr (32 + d) = z)) m) := by
  rw [cRight_ hm]; congr 1
  refine pSet_congr (fun i h => ?_)
  by_cases c : nz fr i = 0
  · have e := hf i (by omega) c
    have : ¬ nz fr (32 + i) = z := by rw [e]; exact fun h => hz h.symm
    simp [this]
  · simp [c]
theorem cHangL {m : Nat} {fr fu fp : Nat → Int32} {y z : Int32} : ∀ (k n j : Nat) (x : Int32), j + k = 8 → k < n → FL_X0_hangsOn_13 fr (nI m) fu fp y z n x (nI j) = some (pb (decide (zCl (nz fr) (fun h => decide (h = z)) k x = z)))
  | _, 0, j, x, hj, hn => absurd hn (by omega)
  | 0, n + 1, j, x, hj, hn => by
    obtain rfl : j = 8 := by omega
    simp only [FL_X0_hangsOn_13, zCl]
    rw [if_pos (by decide)]
    exact pbi
  | k + 1, n + 1, j, x, hj, hn => by
    simp (disch := omega) only [FL_X0_hangsOn_13, zCl, pIx, pCl, pLe, pLt, pEq, pNm, pS1, pA0, pA8, pA16, pA24, pA32, pA40, pA48, pA56, pA64, pA72, pA80, pA88, pBs, pE8, pb0, pb1, pbo, if_true, if_false, pIy, pbq, pNz, pIw, p8Le]
    rw [if_neg (by omega)]
    rcases pX3 x with c | c | ⟨c, hc, rfl⟩
    · by_cases e : x = z <;> simp [c, e, pb]
    · by_cases c0 : x < 0
      · by_cases e : x = z <;> simp [c0, e, pb]
      · by_cases e : x = z <;> simp [c, c0, e, pb]
    · have ih := cHangL (m := m) (fr := fr) (fu := fu) (fp := fp) (y := y) (z := z) k n (j + 1) (fr (32 + c)) (by omega) (by omega)
      simp (disch := omega) only [pIx, pCl, pLe, pLt, pEq, pNm, pS1, pA0, pA8, pA16, pA24, pA32, pA40, pA48, pA56, pA64, pA72, pA80, pA88, pBs, pE8, pb0, pb1, pbo, if_true, if_false, pIy, pbq, pNz, pIw, p8Le, pLt0, ih]
      by_cases e : nI c = z
      · simp [e, pb, hc]
      · simp (disch := omega) [e, hc, show ¬ 8 ≤ c from by omega]
theorem cHang {m : Nat} {fr fu fp : Nat → Int32} {d : Nat} {z : Int32} (hd : d < 8) : F_X0_hangsOn fr (nI m) fu fp (nI d) z = some (pb (zHang (nz fr) d z)) := by
  unfold F_X0_hangsOn zHang
  simp (disch := omega) only [pIx, pCl, pLe, pLt, pEq, pNm, pS1, pA0, pA8, pA16, pA24, pA32, pA40, pA48, pA56, pA64, pA72, pA80, pA88, pBs, pE8, pb0, pb1, pbo, if_true, if_false, pIy, pbq, pNz, pIw]
  exact cHangL 8 1000 0 _ (by omega) (by omega)
theorem cBeneath {m : Nat} {fr fu fp : Nat → Int32} {z : Int32} (hm : m ≤ 8) : F_X0_beneath fr (nI m) fu fp z = some (pSet (fun d => zHang (nz fr) d z) m) := by
  unfold F_X0_beneath
  refine pLoop0 (L := fun n i a => FL_X0_beneath_4 fr (nI m) fu fp z n a i) (fin := id) (fun n j a hj => ?_) (fun n a => ?_) 1000 0 (by omega)
  · show FL_X0_beneath_4 fr (nI m) fu fp z (n + 1) a (nI j) = _
    simp (disch := omega) only [FL_X0_beneath_4, pIx, pCl, pLe, pLt, pEq, pNm, pS1, pA0, pA8, pA16, pA24, pA32, pA40, pA48, pA56, pA64, pA72, pA80, pA88, pBs, pE8, pb0, pb1, pbo, if_true, if_false, pIy, pbq, pNz, pIw, pSb, cHang]
    rw [if_neg (by omega)]
    by_cases c : zHang (nz fr) j z = true <;> simp [c]
  · show FL_X0_beneath_4 fr (nI m) fu fp z (n + 1) a (nI m) = _
    simp (disch := omega) only [FL_X0_beneath_4, pIx, pCl, pLe, pLt, pEq, pNm, pS1, pA0, pA8, pA16, pA24, pA32, pA40, pA48, pA56, pA64, pA72, pA80, pA88, pBs, pE8, pb0, pb1, pbo, if_true, if_false, pIy, pbq, pNz, pIw]
    rw [if_pos (Nat.le_refl m)]; rfl
theorem cDepL {m : Nat} {fr fu fp : Nat → Int32} {y : Int32} : ∀ (k n j : Nat) (x a : Int32), j + k = 8 → k < n → FL_X0_depthOf_7 fr (nI m) fu fp y n a x (nI j) = some (zDp (nz fr) k x a)
  | _, 0, j, x, a, hj, hn => absurd hn (by omega)
  | 0, n + 1, j, x, a, hj, hn => by
    obtain rfl : j = 8 := by omega
    simp only [FL_X0_depthOf_7, zDp]
    rw [if_pos (by decide)]
  | k + 1, n + 1, j, x, a, hj, hn => by
    simp (disch := omega) only [FL_X0_depthOf_7, zDp, pIx, pCl, pLe, pLt, pEq, pNm, pS1, pA0, pA8, pA16, pA24, pA32, pA40, pA48, pA56, pA64, pA72, pA80, pA88, pBs, pE8, pb0, pb1, pbo, if_true, if_false, pIy, pbq, pNz, pIw, p8Le]
    rw [if_neg (by omega)]
    rcases pX3 x with c | c | ⟨c, hc, rfl⟩
    · simp [c]
    · by_cases c0 : x < 0
      · simp [c0]
      · simp [c, c0]
    · have ih := fun a => cDepL (m := m) (fr := fr) (fu := fu) (fp := fp) (y := y) k n (j + 1) (fr (32 + c)) a (by omega) (by omega)
      simp (disch := omega) only [pIx, pCl, pLe, pLt, pEq, pNm, pS1, pA0, pA8, pA16, pA24, pA32, pA40, pA48, pA56, pA64, pA72, pA80, pA88, pBs, pE8, pb0, pb1, pbo, if_true, if_false, pIy, pbq, pNz, pIw, p8Le, pLt0, ih]
      by_cases e : fr (32 + c) = -1
      · simp [e, show ¬ 8 ≤ c from by omega]
      · simp [e, show ¬ 8 ≤ c from by omega]
theorem cDepth {m : Nat} {fr fu fp : Nat → Int32} {d : Nat} (hd : d < 8) : F_X0_depthOf fr (nI m) fu fp (nI d) = some (zDepth (nz fr) d) := by
  unfold F_X0_depthOf zDepth
  exact cDepL 8 1000 0 _ _ (by omega) (by omega)
theorem cAbvL {m : Nat} {fr fu fp : Nat → Int32} {y : Int32} : ∀ (k n j : Nat) (x : Int32), j + k = 8 → k < n → FL_X0_helperAbove_12 fr (nI m) fu fp y n x (nI j) = some (zCl (nz fr) (fun h => decide (nz fr (48 + h.toNatClampNeg) = 2)) k x)
  | _, 0, j, x, hj, hn => absurd hn (by omega)
  | 0, n + 1, j, x, hj, hn => by
    obtain rfl : j = 8 := by omega
    simp only [FL_X0_helperAbove_12, zCl]
    rw [if_pos (by decide)]
  | k + 1, n + 1, j, x, hj, hn => by
    simp (disch := omega) only [FL_X0_helperAbove_12, zCl, pIx, pCl, pLe, pLt, pEq, pNm, pS1, pA0, pA8, pA16, pA24, pA32, pA40, pA48, pA56, pA64, pA72, pA80, pA88, pBs, pE8, pb0, pb1, pbo, if_true, if_false, pIy, pbq, pNz, pIw, p8Le]
    rw [if_neg (by omega)]
    rcases pX3 x with c | c | ⟨c, hc, rfl⟩
    · simp [c]
    · by_cases c0 : x < 0
      · simp [c0]
      · simp [c, c0]
    · have ih := cAbvL (m := m) (fr := fr) (fu := fu) (fp := fp) (y := y) k n (j + 1) (fr (32 + c)) (by omega) (by omega)
      simp (disch := omega) only [pIx, pCl, pLe, pLt, pEq, pNm, pS1, pA0, pA8, pA16, pA24, pA32, pA40, pA48, pA56, pA64, pA72, pA80, pA88, pBs, pE8, pb0, pb1, pbo, if_true, if_false, pIy, pbq, pNz, pIw, p8Le, pLt0, ih]
      by_cases e : fr (48 + c) = 2
      · simp [e, show ¬ 8 ≤ c from by omega]
      · simp [e, show ¬ 8 ≤ c from by omega]
theorem cAbv {m : Nat} {fr fu fp : Nat → Int32} {d : Nat} (hd : d < 8) : F_X0_helperAbove fr (nI m) fu fp (nI d) = some (zAbv (nz fr) d) := by
  unfold F_X0_helperAbove zAbv
  simp (disch := omega) only [pIx, pCl, pLe, pLt, pEq, pNm, pS1, pA0, pA8, pA16, pA24, pA32, pA40, pA48, pA56, pA64, pA72, pA80, pA88, pBs, pE8, pb0, pb1, pbo, if_true, if_false, pIy, pbq, pNz, pIw]
  exact cAbvL 8 1000 0 _ (by omega) (by omega)
/-- who is not configured has no address -/
def wAd (m : Nat) (N : Nat → Int32) : Prop := ∀ d, d < m → N d ≠ 6 → N (56 + d) = 0
theorem cWith_ {m : Nat} {fr fu fp : Nat → Int32} {z : Int32} (hm : m ≤ 8) : F_X0_withAddress fr (nI m) fu fp z = some (pFd (fun d => decide (nz fr (56 + d) = z)) m 0) := by
  unfold F_X0_withAddress
  refine pFind (m := m) (L := fun n i => FL_X0_withAddress_2 fr (nI m) fu fp z n i) (p := (fun d => decide (nz fr (56 + d) = z))) (r := fun j => nI j) (e := -1) id (fun _ _ => rfl) rfl (fun n j hj => ?_) (fun n => ?_) m 1000 0 (by omega) (by omega)
  · show FL_X0_withAddress_2 fr (nI m) fu fp z (n + 1) (nI j) = _
    simp (disch := omega) only [FL_X0_withAddress_2, pIx, pCl, pLe, pLt, pEq, pNm, pS1, pA0, pA8, pA16, pA24, pA32, pA40, pA48, pA56, pA64, pA72, pA80, pA88, pBs, pE8, pb0, pb1, pbo, if_true, if_false, pIy, pbq, pNz, pIw]
    rw [if_neg (by omega)]
    by_cases c2 : fr (56 + j) = z <;> simp [c2]
  · show FL_X0_withAddress_2 fr (nI m) fu fp z (n + 1) (nI m) = _
    simp (disch := omega) only [FL_X0_withAddress_2, pIx, pCl, pLe, pLt, pEq, pNm, pS1, pA0, pA8, pA16, pA24, pA32, pA40, pA48, pA56, pA64, pA72, pA80, pA88, pBs, pE8, pb0, pb1, pbo, if_true, if_false, pIy, pbq, pNz, pIw]
    rw [if_pos (Nat.le_refl m)]
theorem cWith {m : Nat} {fr fu fp : Nat → Int32} {z : Int32} (hm : m ≤ 8) (ha : wAd m (nz fr)) (hz : z ≠ 0) : F_X0_withAddress fr (nI m) fu fp z = some (zWho m (nz fr) z) := by
  rw [cWith_ hm]; congr 1
  refine pFd_congr m 0 (fun i _ h => ?_)
  by_cases c : nz fr i = 6
  · simp [c]
  · have e := ha i (by omega) c
    have : ¬ nz fr (56 + i) = z := by rw [e]; exact fun h => hz h.symm
    simp [this]
theorem cAddr {m : Nat} {fr fu fp : Nat → Int32} {t : Nat} (hm : m ≤ 8) (ht : t ≤ 200) (h7 : fu 7 = nI t) (ha : wAd m (nz fr)) : F_X0_freeAddress fr (nI m) fu fp = some (zAddr m t (nz fr)) := by
  unfold F_X0_freeAddress
  have hc := pFind (m := t + 1) (L := fun n i => FL_X0_freeAddress_2 fr (nI m) fu fp n i) (p := fun a => decide (pFd (fun d => decide (nz fr (56 + d) = nI a)) m 0 = -1)) (r := fun j => nI j) (e := -1) id (fun _ _ => rfl) rfl (fun n j hj => ?_) (fun n => ?_) t 1000 1 (by omega) (by omega)
  · refine hc.trans ?_
    show some (pFd _ _ _) = some (zAddr m t (nz fr))
    unfold zAddr; congr 1
    refine pFd_congr t 1 (fun i h1 h2 => ?_)
    have e := Option.some.inj ((cWith_ (fu := fu) (fp := fp) (fr := fr) (z := nI i) hm).symm.trans (cWith hm ha (by rw [Ne, pE0z (by omega)]; omega)))
    show decide (_ = -1) = decide (_ = -1)
    rw [e]
  · show FL_X0_freeAddress_2 fr (nI m) fu fp (n + 1) (nI j) = _
    simp (disch := omega) only [FL_X0_freeAddress_2, pIx, pCl, pLe, pLt, pEq, pNm, pS1, pA0, pA8, pA16, pA24, pA32, pA40, pA48, pA56, pA64, pA72, pA80, pA88, pBs, pE8, pb0, pb1, pbo, if_true, if_false, pIy, pbq, pNz, pIw, h7, cWith_ hm]
    rw [if_neg (by omega)]
    by_cases c : pFd (fun d => decide (nz fr (56 + d) = nI j)) m 0 = -1 <;> simp [c]
  · show FL_X0_freeAddress_2 fr (nI m) fu fp (n + 1) (nI (t + 1)) = _
    simp (disch := omega) only [FL_X0_freeAddress_2, pIx, pCl, pLe, pLt, pEq, pNm, pS1, pA0, pA8, pA16, pA24, pA32, pA40, pA48, pA56, pA64, pA72, pA80, pA88, pBs, pE8, pb0, pb1, pbo, if_true, if_false, pIy, pbq, pNz, pIw, h7]
    rw [if_pos (by omega)]
theorem cTakes {m : Nat} {fr fu fp : Nat → Int32} {d : Nat} (hm : m ≤ 8) (h : d < m) : F_X0_takesOf fr (nI m) fu fp (nI d) = some (zTakes (tP m fp) (nz fr) d) := by
  unfold F_X0_takesOf zTakes zNeed; simp (disch := omega) only [pIx, pCl, pLe, pLt, pEq, pNm, pS1, pA0, pA8, pA16, pA24, pA32, pA40, pA48, pA56, pA64, pA72, pA80, pA88, pBs, pE8, pb0, pb1, pbo, if_true, if_false, pIy, pbq, pNz, pIw, tP2 (m := m)]
  by_cases c : fr (72 + d) = 1 <;> by_cases c2 : fr (88 + d) = 1 <;> simp [c, c2]
theorem cGives {m : Nat} {fr fu fp : Nat → Int32} {x : Int32} : F_X0_portGives fr (nI m) fu fp x = some (zGv fu (nz fr) x) := by
  unfold F_X0_portGives zGv
  by_cases c8 : x = 8
  · simp [c8]
  · rcases pX3 x with c | c | ⟨c, hc, rfl⟩
    · simp [c8, c]
    · by_cases c0 : x < 0
      · simp [c8, c0]
      · simp [c8, c, c0]
    · simp (disch := omega) only [pIx, pCl, pLe, pLt, pEq, pNm, pS1, pA0, pA8, pA16, pA24, pA32, pA40, pA48, pA56, pA64, pA72, pA80, pA88, pBs, pE8, pb0, pb1, pbo, if_true, if_false, pIy, pbq, pNz, pIw, p8Le, pLt0]
      by_cases c2 : fr (72 + c) = 1 <;> simp [c2, show ¬ 8 ≤ c from by omega, show ¬ c = 8 from by omega]
theorem cBound {m : Nat} {fr fu fp : Nat → Int32} {c : Nat} (hc : c ≤ 8) : F_X0_isBoundless fr (nI m) fu fp (nI c) = some (pb (decide (c = 8) || decide (nz fr (72 + c) = 1))) := by
  unfold F_X0_isBoundless
  simp (disch := omega) only [pIx, pCl, pLe, pLt, pEq, pNm, pS1, pA0, pA8, pA16, pA24, pA32, pA40, pA48, pA56, pA64, pA72, pA80, pA88, pBs, pE8, pb0, pb1, pbo, if_true, if_false, pIy, pbq, pNz, pIw, p8Le, pLt0]
  by_cases c8 : c = 8
  · simp [c8, pb]
  · by_cases c2 : fr (72 + c) = 1 <;> simp [c2, c8, show ¬ 8 ≤ c from by omega, pb]
theorem cLeftL {m : Nat} {fr fu fp : Nat → Int32} {h : Nat} {out b : Int32} (hm : m ≤ 8) (hh : h ≤ 8) : FL_X0_leftOf_42 fr (nI m) fu fp (nI h) out 1000 b 0 = some (pF (zLf (tP m fp) (nz fr) h out) m 0 b) := by
  refine pLoop0 (L := fun n i a => FL_X0_leftOf_42 fr (nI m) fu fp (nI h) out n a i) (fin := id) (fun n j a hj => ?_) (fun n a => ?_) 1000 _ (by omega)
  · show FL_X0_leftOf_42 fr (nI m) fu fp (nI h) out (n + 1) a (nI j) = _
    simp (disch := omega) only [FL_X0_leftOf_42, pIx, pCl, pLe, pLt, pEq, pNm, pS1, pA0, pA8, pA16, pA24, pA32, pA40, pA48, pA56, pA64, pA72, pA80, pA88, pBs, pE8, pb0, pb1, pbo, if_true, if_false, pIy, pbq, pNz, pIw, cTakes, zLf]
    rw [if_neg (by omega)]
    by_cases c : fr j = 6 <;> by_cases c2 : fr (32 + j) = nI h <;> by_cases c3 : nI j = out <;> simp [c, c2, c3]
  · show FL_X0_leftOf_42 fr (nI m) fu fp (nI h) out (n + 1) a (nI m) = _
    simp (disch := omega) only [FL_X0_leftOf_42, pIx, pCl, pLe, pLt, pEq, pNm, pS1, pA0, pA8, pA16, pA24, pA32, pA40, pA48, pA56, pA64, pA72, pA80, pA88, pBs, pE8, pb0, pb1, pbo, if_true, if_false, pIy, pbq, pNz, pIw]
    rw [if_pos (Nat.le_refl m)]; rfl
theorem cLeft {m : Nat} {fr fu fp : Nat → Int32} {h : Nat} {out : Int32} (hm : m ≤ 8) (hh : h < m) : F_X0_leftOf fr (nI m) fu fp (nI h) out = some (zLeft m fu (tP m fp) (nz fr) h out) := by
  unfold F_X0_leftOf zLeft
  simp (disch := omega) only [pIx, pCl, pLe, pLt, pEq, pNm, pS1, pA0, pA8, pA16, pA24, pA32, pA40, pA48, pA56, pA64, pA72, pA80, pA88, pBs, pE8, pb0, pb1, pbo, if_true, if_false, pIy, pbq, pNz, pIw, cGives, cLeftL hm (by omega : h ≤ 8), pLt0, tP2 (m := m)]
  rw [if_pos (show nI h < 8 from (pLt (a := h) (b := 8) (by omega) (by decide)).mpr (by omega))]
def zPow (m : Nat) (R : Nat → Int32) (T : Nat → Nat → Int32) (N : Nat → Int32) (c : Nat) (u out : Int32) : Bool := !decide (zGv R N (nI c) < u) && (decide (c = 8) || decide (N (72 + c) = 1) || !decide (zLeft m R T N c out < u))
theorem cPow {m : Nat} {fr fu fp : Nat → Int32} {d c : Nat} {u : Int32} (hm : m ≤ 8) (hd : d < m) (hc : c ≤ 8) (hcm : c = 8 ∨ c < m) (hh : nz fr (32 + d) = nI c) : F_X0_powerSuffices fr (nI m) fu fp (nI d) u = some (pb (zPow m fu (tP m fp) (nz fr) c u (nI d))) := by
  have hh' : fr (32 + d) = nI c := by rw [← hh, pNz (by omega)]
  unfold F_X0_powerSuffices zPow
  simp (disch := omega) only [pIx, pCl, pLe, pLt, pEq, pNm, pS1, pA0, pA8, pA16, pA24, pA32, pA40, pA48, pA56, pA64, pA72, pA80, pA88, pBs, pE8, pb0, pb1, pbo, if_true, if_false, pIy, pbq, pNz, pIw, hh', cGives, cBound]
  by_cases c8 : c = 8
  · subst c8
    by_cases c1 : zGv fu (nz fr) (nI 8) < u <;> simp [c1, pb]
  · rw [cLeft hm (by omega), pBs]
    by_cases c1 : zGv fu (nz fr) (nI c) < u <;> by_cases c2 : fr (72 + c) = 1 <;> by_cases c3 : zLeft m fu (tP m fp) (nz fr) c (nI d) < u <;> simp [c1, c2, c3, c8, pb]
theorem cRuns {m : Nat} {fr fu fp : Nat → Int32} {c : Nat} (hc : c ≤ 8) : F_X0_runsAt fr (nI m) fu fp (nI c) = some (zSpd (nz fr) c) := by
  unfold F_X0_runsAt zSpd
  simp (disch := omega) only [pIx, pCl, pLe, pLt, pEq, pNm, pS1, pA0, pA8, pA16, pA24, pA32, pA40, pA48, pA56, pA64, pA72, pA80, pA88, pBs, pE8, pb0, pb1, pbo, if_true, if_false, pIy, pbq, pNz, pIw, p8Le, pLt0]
  by_cases c8 : c = 8
  · simp [c8]
  · simp [c8, show ¬ 8 ≤ c from by omega]
def zSp (T : Nat → Nat → Int32) (N : Nat → Int32) (c d : Nat) : Int32 := if zSpd N c = 2 then T d 1 else if T d 1 < 1 then T d 1 else 1
theorem p_min1 (x : Int32) : (if 1 < x then 1 else x) = if x < 1 then x else 1 := by
  by_cases c : 1 < x
  · have : ¬ x < 1 := by rw [q_lt] at c ⊢; omega
    rw [if_pos c, if_neg this]
  · rw [if_neg c]
    by_cases c2 : x < 1
    · rw [if_pos c2]
    · rw [if_neg c2]
      rw [q_lt] at c c2
      apply Int32.toInt_inj.mp; omega
theorem cSpeed {m : Nat} {fr fu fp : Nat → Int32} {d c : Nat} (hm : m ≤ 8) (hd : d < m) (hc : c ≤ 8) (hh : nz fr (32 + d) = nI c) : F_X0_speedOf fr (nI m) fu fp (nI d) = some (zSp (tP m fp) (nz fr) c d) := by
  have hh' : fr (32 + d) = nI c := by rw [← hh, pNz (by omega)]
  unfold F_X0_speedOf zSp
  simp (disch := omega) only [pIx, pCl, pLe, pLt, pEq, pNm, pS1, pA0, pA8, pA16, pA24, pA32, pA40, pA48, pA56, pA64, pA72, pA80, pA88, pBs, pE8, pb0, pb1, pbo, if_true, if_false, pIy, pbq, pNz, pIw, hh', cRuns, tP1 (m := m)]
  rw [p_min1]
  by_cases c1 : zSpd (nz fr) c = 2 <;> by_cases c3 : fp (8 + d) < 1 <;> simp [c1, c3]
def zHFor (T : Nat → Nat → Int32) (d : Nat) (s : Int32) : Int32 := T d 4 * (if s = 0 then 8 else 2)
theorem cHFor {m : Nat} {fr fu fp : Nat → Int32} {d : Nat} {s : Int32} (hm : m ≤ 8) (hd : d < m) : F_X0_helpFor fr (nI m) fu fp (nI d) s = some (zHFor (tP m fp) d s) := by
  unfold F_X0_helpFor zHFor
  simp (disch := omega) only [pIx, pCl, pLe, pLt, pEq, pNm, pS1, pA0, pA8, pA16, pA24, pA32, pA40, pA48, pA56, pA64, pA72, pA80, pA88, pBs, pE8, pb0, pb1, pbo, if_true, if_false, pIy, pbq, pNz, pIw, tP4 (m := m)]
  by_cases c : s = 0 <;> simp [c]
def zBFor (T : Nat → Nat → Int32) (d : Nat) (s : Int32) : Int32 := T d 4 + (if 2 ≤ s ∨ T d 4 ≤ 0 then 0 else 4)
theorem cBFor {m : Nat} {fr fu fp : Nat → Int32} {d : Nat} {s : Int32} (hm : m ≤ 8) (hd : d < m) : F_X0_busFor fr (nI m) fu fp (nI d) s = some (zBFor (tP m fp) d s) := by
  unfold F_X0_busFor zBFor
  simp (disch := omega) only [pIx, pCl, pLe, pLt, pEq, pNm, pS1, pA0, pA8, pA16, pA24, pA32, pA40, pA48, pA56, pA64, pA72, pA80, pA88, pBs, pE8, pb0, pb1, pbo, if_true, if_false, pIy, pbq, pNz, pIw, tP4 (m := m)]
  by_cases c : 2 ≤ s <;> by_cases c2 : fp (32 + d) ≤ 0 <;> simp [c, c2]
/-- who is configured runs at 0, 1 or 2 -/
def wRn (m : Nat) (N : Nat → Int32) : Prop := ∀ d, d < m → N d = 6 → N (48 + d) = 0 ∨ N (48 + d) = 1 ∨ N (48 + d) = 2
theorem zAwk_6 {N : Nat → Int32} {d : Nat} (h : zAwk N d = true) : N d = 6 := by unfold zAwk at h; simp at h; exact h.1
theorem cHelpL {m : Nat} {fr fu fp : Nat → Int32} {z : Int32} (hm : m ≤ 8) (hs : wS m (nz fr)) (hr : wRn m (nz fr)) (hz : z ≠ -1) : FL_X0_helpOf_4 fr (nI m) fu fp z 1000 0 0 = some (pF (zHf (tP m fp) (nz fr) z) m 0 0) := by
  refine pLoop0 (L := fun n i a => FL_X0_helpOf_4 fr (nI m) fu fp z n a i) (fin := id) (fun n j a hj => ?_) (fun n a => ?_) 1000 _ (by omega)
  · show FL_X0_helpOf_4 fr (nI m) fu fp z (n + 1) a (nI j) = _
    simp (disch := omega) only [FL_X0_helpOf_4, pIx, pCl, pLe, pLt, pEq, pNm, pS1, pA0, pA8, pA16, pA24, pA32, pA40, pA48, pA56, pA64, pA72, pA80, pA88, pBs, pE8, pb0, pb1, pbo, if_true, if_false, pIy, pbq, pNz, pIw, cAwake (d := j) (by omega) (hs j hj), zHf, cAbv, cHFor, zHFor, zHlp]
    rw [if_neg (by omega)]
    by_cases c : zAwk (nz fr) j = true
    · have h6 := hr j hj (zAwk_6 c)
      rw [pNz (by omega)] at h6
      rcases h6 with h6 | h6 | h6
      · by_cases c2 : zAbv (nz fr) j = z <;> simp [c, c2, h6, show ¬ (2 : Int32) ≤ 0 from by decide, show ¬ (0 : Int32) = -1 from by decide, show ¬ (0 : Int32) = 2 from by decide]
      · by_cases c2 : zAbv (nz fr) j = z <;> simp [c, c2, h6, show ¬ (2 : Int32) ≤ 1 from by decide, show ¬ (1 : Int32) = -1 from by decide, show ¬ (1 : Int32) = 2 from by decide]
      · have hz' : ¬ (-1 : Int32) = z := fun h => hz h.symm
        simp [c, h6, show (2 : Int32) ≤ 2 from by decide, hz']
    · simp [c]
  · show FL_X0_helpOf_4 fr (nI m) fu fp z (n + 1) a (nI m) = _
    simp (disch := omega) only [FL_X0_helpOf_4, pIx, pCl, pLe, pLt, pEq, pNm, pS1, pA0, pA8, pA16, pA24, pA32, pA40, pA48, pA56, pA64, pA72, pA80, pA88, pBs, pE8, pb0, pb1, pbo, if_true, if_false, pIy, pbq, pNz, pIw]
    rw [if_pos (Nat.le_refl m)]; rfl
theorem cHelp {m : Nat} {fr fu fp : Nat → Int32} {z : Int32} (hm : m ≤ 8) (hs : wS m (nz fr)) (hr : wRn m (nz fr)) (hz : z ≠ -1) : F_X0_helpOf fr (nI m) fu fp z = some (zHelp m (tP m fp) (nz fr) z) := cHelpL hm hs hr hz
theorem zCl_p {m : Nat} {N : Nat → Int32} {r : Nat → Nat} {p : Int32 → Bool} (hm : m ≤ 8) (hw : wR m N r) : ∀ (k c : Nat), wP m N r 8 c → ∃ b, b ≤ 8 ∧ zCl N p k (nI c) = nI b ∧ wP m N r 8 b
  | 0, c, hc => ⟨c, hc.le hm, rfl, hc⟩
  | k + 1, c, hc => by
    by_cases c8 : c = 8
    · subst c8; exact ⟨8, Nat.le_refl 8, zCl_8 N p _, hc⟩
    · obtain ⟨h1, b, h2, h3⟩ := hc.up hw c8
      rw [zCl_s (by omega), h2]
      by_cases cp : p (nI c) = true
      · rw [if_pos cp]; exact ⟨c, by omega, rfl, hc⟩
      · rw [if_neg cp]
        refine zCl_p hm hw k b ?_
        rcases h3 with h3 | ⟨h3, h4, h5⟩
        · exact Or.inl h3
        · exact Or.inr ⟨h3, h4, by omega⟩
theorem zAbv_nI {m : Nat} {N : Nat → Int32} {r : Nat → Nat} {d : Nat} (hm : m ≤ 8) (hw : wR m N r) (hd : d < m) (h : N d ≠ 0) : ∃ b, b ≤ 8 ∧ zAbv N d = nI b ∧ wP m N r 8 b := by
  obtain ⟨c, h1, h2⟩ := wP.of hw hd h
  unfold zAbv
  rw [h1]
  refine zCl_p hm hw 8 c ?_
  rcases h2 with h2 | ⟨h3, h4, h5⟩
  · exact Or.inl h2
  · exact Or.inr ⟨h3, h4, by omega⟩
theorem cBusL {m : Nat} {fr fu fp : Nat → Int32} {r : Nat → Nat} (hm : m ≤ 8) (hw : wR m (nz fr) r) (hs : wS m (nz fr)) (hr : wRn m (nz fr)) : FL_X0_busUsed_4 fr (nI m) fu fp 1000 0 0 = some (pF (zBf (tP m fp) (nz fr)) m 0 0) := by
  refine pLoop0 (L := fun n i a => FL_X0_busUsed_4 fr (nI m) fu fp n a i) (fin := id) (fun n j a hj => ?_) (fun n a => ?_) 1000 _ (by omega)
  · show FL_X0_busUsed_4 fr (nI m) fu fp (n + 1) a (nI j) = _
    simp (disch := omega) only [FL_X0_busUsed_4, pIx, pCl, pLe, pLt, pEq, pNm, pS1, pA0, pA8, pA16, pA24, pA32, pA40, pA48, pA56, pA64, pA72, pA80, pA88, pBs, pE8, pb0, pb1, pbo, if_true, if_false, pIy, pbq, pNz, pIw, cAwake (d := j) (by omega) (hs j hj), zBf, cBFor, zBFor, zHlp]
    rw [if_neg (by omega)]
    by_cases c : zAwk (nz fr) j = true
    · have h60 := zAwk_6 c
      have h6 := hr j hj h60
      obtain ⟨b, hb, hab, _⟩ := zAbv_nI hm hw hj (by rw [h60]; decide)
      have hn : ¬ zAbv (nz fr) j = -1 := by rw [hab, pNm (by omega)]; exact id
      rw [pNz (by omega)] at h6
      rcases h6 with h6 | h6 | h6
      · simp [c, h6, hn, show ¬ (2 : Int32) ≤ 0 from by decide, show ¬ (0 : Int32) = -1 from by decide, show ¬ (0 : Int32) = 2 from by decide]
      · simp [c, h6, hn, show ¬ (2 : Int32) ≤ 1 from by decide, show ¬ (1 : Int32) = -1 from by decide, show ¬ (1 : Int32) = 2 from by decide]
      · simp [c, h6, show (2 : Int32) ≤ 2 from by decide]
    · simp [c]
  · show FL_X0_busUsed_4 fr (nI m) fu fp (n + 1) a (nI m) = _
    simp (disch := omega) only [FL_X0_busUsed_4, pIx, pCl, pLe, pLt, pEq, pNm, pS1, pA0, pA8, pA16, pA24, pA32, pA40, pA48, pA56, pA64, pA72, pA80, pA88, pBs, pE8, pb0, pb1, pbo, if_true, if_false, pIy, pbq, pNz, pIw]
    rw [if_pos (Nat.le_refl m)]; rfl
theorem cBus {m : Nat} {fr fu fp : Nat → Int32} {r : Nat → Nat} (hm : m ≤ 8) (hw : wR m (nz fr) r) (hs : wS m (nz fr)) (hr : wRn m (nz fr)) : F_X0_busUsed fr (nI m) fu fp = some (zBus m (tP m fp) (nz fr)) := cBusL hm hw hs hr
theorem cGreed {m : Nat} {fr fu fp : Nat → Int32} {z : Int32} (hm : m ≤ 8) : F_X0_greatestTaker fr (nI m) fu fp z = some (zGrd m (tP m fp) (nz fr) z) ∧ wB m (zGrd m (tP m fp) (nz fr) z) := by
  unfold F_X0_greatestTaker
  refine pLoop (m := m) (L := fun n i a => FL_X0_greatestTaker_4 fr (nI m) fu fp z n a i) (g := zGf (tP m fp) (nz fr) z) (fin := id) (fun j b => wB m b) (fun n j b hj hb => ?_) (fun n b hb => ?_) m 1000 0 (-1) (by omega) (by omega) (Or.inl rfl)
  · refine ⟨?_, ?_⟩
    · show FL_X0_greatestTaker_4 fr (nI m) fu fp z (n + 1) b (nI j) = _
      rcases hb with rfl | ⟨e, he, rfl⟩
      · simp (disch := omega) only [FL_X0_greatestTaker_4, pIx, pCl, pLe, pLt, pEq, pNm, pS1, pA0, pA8, pA16, pA24, pA32, pA40, pA48, pA56, pA64, pA72, pA80, pA88, pBs, pE8, pb0, pb1, pbo, if_true, if_false, pIy, pbq, pNz, pIw, cTakes, zGf]
        rw [if_neg (by omega)]
        by_cases c : fr j = 6 <;> by_cases c2 : fr (32 + j) = z <;> simp [c, c2]
      · simp (disch := omega) only [FL_X0_greatestTaker_4, pIx, pCl, pLe, pLt, pEq, pNm, pS1, pA0, pA8, pA16, pA24, pA32, pA40, pA48, pA56, pA64, pA72, pA80, pA88, pBs, pE8, pb0, pb1, pbo, if_true, if_false, pIy, pbq, pNz, pIw, cTakes, zGf]
        rw [if_neg (by omega)]
        by_cases c : fr j = 6 <;> by_cases c2 : fr (32 + j) = z <;> by_cases c3 : zTakes (tP m fp) (nz fr) j < zTakes (tP m fp) (nz fr) e <;> simp [c, c2, c3]
    · unfold zGf
      split
      · split
        · exact Or.inr ⟨j, hj, rfl⟩
        · split
          · exact hb
          · exact Or.inr ⟨j, hj, rfl⟩
      · exact hb
  · show FL_X0_greatestTaker_4 fr (nI m) fu fp z (n + 1) b (nI m) = _
    simp (disch := omega) only [FL_X0_greatestTaker_4, pIx, pCl, pLe, pLt, pEq, pNm, pS1, pA0, pA8, pA16, pA24, pA32, pA40, pA48, pA56, pA64, pA72, pA80, pA88, pBs, pE8, pb0, pb1, pbo, if_true, if_false, pIy, pbq, pNz, pIw]
    rw [if_pos (Nat.le_refl m)]; rfl
theorem cNext {m : Nat} {fr fu fp : Nat → Int32} (hm : m ≤ 8) (hh : wH m (nz fr)) (hf : wF m (nz fr)) : F_X0_firstInLine fr (nI m) fu fp = some (zNext m (nz fr)) ∧ wB m (zNext m (nz fr)) := by
  unfold F_X0_firstInLine
  refine pLoop (m := m) (L := fun n i a => FL_X0_firstInLine_4 fr (nI m) fu fp n a i) (g := zNf (nz fr)) (fin := id) (fun j b => wB m b) (fun n j b hj hb => ?_) (fun n b hb => ?_) m 1000 0 (-1) (by omega) (by omega) (Or.inl rfl)
  · refine ⟨?_, ?_⟩
    · show FL_X0_firstInLine_4 fr (nI m) fu fp (n + 1) b (nI j) = _
      by_cases c0 : nz fr j = 0
      · have h2 := hf j hj c0
        rw [pNz (by omega)] at h2 c0
        simp (disch := omega) only [FL_X0_firstInLine_4, pIx, pCl, pLe, pLt, pEq, pNm, pS1, pA0, pA8, pA16, pA24, pA32, pA40, pA48, pA56, pA64, pA72, pA80, pA88, pBs, pE8, pb0, pb1, pbo, if_true, if_false, pIy, pbq, pNz, pIw, zNf, c0, h2, cIsm]
        rw [if_neg (by omega)]
        simp [show ¬ (-1 : Int32) = 8 from by decide, show ¬ (0 : Int32) = 2 from by decide]
      · obtain ⟨h, h1, h2⟩ := hh j hj c0
        rw [pNz (by omega)] at h2
        rcases hb with rfl | ⟨e, he, rfl⟩
        · simp (disch := omega) only [FL_X0_firstInLine_4, pIx, pCl, pLe, pLt, pEq, pNm, pS1, pA0, pA8, pA16, pA24, pA32, pA40, pA48, pA56, pA64, pA72, pA80, pA88, pBs, pE8, pb0, pb1, pbo, if_true, if_false, pIy, pbq, pNz, pIw, zNf, h2, cIs, cAsleep, zSlp]
          rw [if_neg (by omega)]
          by_cases c : fr j = 2 <;> by_cases c8 : h = 8 <;> by_cases c6 : fr h = 6 <;> by_cases c1 : fr (88 + h) = 1 <;> simp (disch := omega) [c, c8, c6, c1, pNz]
        · simp (disch := omega) only [FL_X0_firstInLine_4, pIx, pCl, pLe, pLt, pEq, pNm, pS1, pA0, pA8, pA16, pA24, pA32, pA40, pA48, pA56, pA64, pA72, pA80, pA88, pBs, pE8, pb0, pb1, pbo, if_true, if_false, pIy, pbq, pNz, pIw, zNf, h2, cIs, cAsleep, zSlp]
          rw [if_neg (by omega)]
          by_cases c : fr j = 2 <;> by_cases c8 : h = 8 <;> by_cases c6 : fr h = 6 <;> by_cases c1 : fr (88 + h) = 1 <;> by_cases c9 : fr (16 + e) ≤ fr (16 + j) <;> simp (disch := omega) [c, c8, c6, c1, c9, pNz]
    · unfold zNf
      split
      · split
        · exact Or.inr ⟨j, hj, rfl⟩
        · split
          · exact hb
          · exact Or.inr ⟨j, hj, rfl⟩
      · exact hb
  · show FL_X0_firstInLine_4 fr (nI m) fu fp (n + 1) b (nI m) = _
    simp (disch := omega) only [FL_X0_firstInLine_4, pIx, pCl, pLe, pLt, pEq, pNm, pS1, pA0, pA8, pA16, pA24, pA32, pA40, pA48, pA56, pA64, pA72, pA80, pA88, pBs, pE8, pb0, pb1, pbo, if_true, if_false, pIy, pbq, pNz, pIw]
    rw [if_pos (Nat.le_refl m)]; rfl
def zStill (m : Nat) (N : Nat → Int32) : Bool := decide (pSet (fun d => decide (N d = 1)) m = 0) && decide (pFd (zBsy N) m 0 = -1) && decide (zNext m N = -1)
theorem cStill {m : Nat} {fr fu fp : Nat → Int32} (hm : m ≤ 8) (hh : wH m (nz fr)) (hf : wF m (nz fr)) : F_X0_isStill fr (nI m) fu fp = some (pb (zStill m (nz fr))) := by
  unfold F_X0_isStill zStill
  simp only [cAll hm, cStanding hm, (cNext hm hh hf).1, pBs]
  by_cases c : pSet (fun d => decide (nz fr d = 1)) m = 0 <;> by_cases c2 : pFd (zBsy (nz fr)) m 0 = -1 <;> by_cases c3 : zNext m (nz fr) = -1 <;> simp [c, c2, c3, pb]
theorem cCanFall {m : Nat} {fr fu fp : Nat → Int32} {d : Nat} (hm : m ≤ 8) (hd : d < m) (hf : wF m (nz fr)) (hs : wS m (nz fr)) : F_X0_canFallAsleep fr (nI m) fu fp (nI d) = some (pb (zCanFall m (nz fr) (nI d) && decide (nz fr d = 6))) := by
  unfold F_X0_canFallAsleep
  have e := pFind (m := m) (L := fun n i => FL_X0_canFallAsleep_2 fr (nI m) fu fp (nI d) n i) (p := zCp (nz fr) (nI d)) (r := fun j => 0) (e := pb (decide (nz fr d = 6))) (fun x => if x = -1 then pb (decide (nz fr d = 6)) else 0) (fun j hj => by simp (disch := omega) only [pNm, if_false]) (if_pos rfl) (fun n j hj => ?_) (fun n => ?_) m 1000 0 (by omega) (by omega)
  · refine e.trans ?_
    unfold zCanFall
    by_cases c : pFd (zCp (nz fr) (nI d)) m 0 = -1 <;> simp [c, pb]
  · show FL_X0_canFallAsleep_2 fr (nI m) fu fp (nI d) (n + 1) (nI j) = _
    have hz := hf j hj
    rw [pNz (by omega), pNz (by omega)] at hz
    simp (disch := omega) only [FL_X0_canFallAsleep_2, pIx, pCl, pLe, pLt, pEq, pNm, pS1, pA0, pA8, pA16, pA24, pA32, pA40, pA48, pA56, pA64, pA72, pA80, pA88, pBs, pE8, pb0, pb1, pbo, if_true, if_false, pIy, pbq, pNz, pIw, cStand1, cAwake (d := j) (by omega) (hs j hj), zCp, zRt]
    rw [if_neg (by omega)]
    by_cases c : fr j = 0
    · have : ¬ fr (32 + j) = nI d := by rw [hz c]; intro e; have := pNm (a := d) (by omega); rw [← this]; exact e.symm
      simp [c, this]
    · by_cases c2 : fr (32 + j) = nI d <;> by_cases c3 : zBsy (nz fr) j = true <;> by_cases c4 : zAwk (nz fr) j = true <;> simp [c, c2, c3, c4]
  · show FL_X0_canFallAsleep_2 fr (nI m) fu fp (nI d) (n + 1) (nI m) = _
    simp (disch := omega) only [FL_X0_canFallAsleep_2, pIx, pCl, pLe, pLt, pEq, pNm, pS1, pA0, pA8, pA16, pA24, pA32, pA40, pA48, pA56, pA64, pA72, pA80, pA88, pBs, pE8, pb0, pb1, pbo, if_true, if_false, pIy, pbq, pNz, pIw]
    rw [if_pos (Nat.le_refl m)]
    by_cases c : fr d = 6 <;> simp [c, pb]
end

section
/-! what one tells of itself -/
def wT (m : Nat) (T : Nat → Nat → Int32) : Prop := ∀ d, d < m → (∃ p, p ≤ 4 ∧ T d 0 = nI p) ∧ (∃ s, s ≤ 2 ∧ T d 1 = nI s) ∧ (∃ u, u ≤ 9 ∧ T d 2 = nI u) ∧ (∃ o, o ≤ 1 ∧ T d 3 = nI o) ∧ (∃ b, b ≤ 99 ∧ T d 4 = nI b) ∧ (∃ e, e ≤ 3 ∧ T d 5 = nI e)
def zTB (T : Nat → Nat → Int32) (d k : Nat) : Int32 := if k = 0 then 8 + T d 0 else if k = 1 then (if T d 0 ≤ 0 then 1 else 9) else if k = 2 then T d 1 else if k = 3 then T d 2 else if k = 4 then T d 0 else if k = 5 then T d 4 else if k = 6 then T d 3 else (10 + nI k) - 7
def zCk (T : Nat → Nat → Int32) (N : Nat → Int32) (d k : Nat) : Int32 := if k = 4 ∧ N (80 + d) = 3 then 7 else zTB T d k
def zCf (T : Nat → Nat → Int32) (N : Nat → Int32) (d k : Nat) (a : Int32) : Int32 := a + zCk T N d k
theorem zCk_b {m : Nat} {T : Nat → Nat → Int32} {N : Nat → Int32} {d k : Nat} (hT : wT m T) (hd : d < m) (hk : k < 11) : ∃ c, zCk T N d k = nI c ∧ c ≤ (if k = 5 then 99 else 14) := by
  obtain ⟨⟨p, hp, e0⟩, ⟨s, hs, e1⟩, ⟨u, hu, e2⟩, ⟨o, ho, e3⟩, ⟨b, hb, e4⟩, -⟩ := hT d hd
  unfold zCk
  by_cases c : k = 4 ∧ N (80 + d) = 3
  · rw [if_pos c]; exact ⟨7, rfl, by rw [if_neg (by omega)]; omega⟩
  · rw [if_neg c]
    unfold zTB
    rw [e0, e1, e2, e3, e4]
    by_cases c0 : k = 0
    · rw [if_pos c0]; exact ⟨8 + p, pA8 p, by rw [if_neg (by omega)]; omega⟩
    rw [if_neg c0]
    by_cases c1 : k = 1
    · rw [if_pos c1]
      by_cases c : nI p ≤ 0
      · rw [if_pos c]; exact ⟨1, rfl, by rw [if_neg (by omega)]; omega⟩
      · rw [if_neg c]; exact ⟨9, rfl, by rw [if_neg (by omega)]; omega⟩
    rw [if_neg c1]
    by_cases c2 : k = 2
    · rw [if_pos c2]; exact ⟨s, rfl, by rw [if_neg (by omega)]; omega⟩
    rw [if_neg c2]
    by_cases c3 : k = 3
    · rw [if_pos c3]; exact ⟨u, rfl, by rw [if_neg (by omega)]; omega⟩
    rw [if_neg c3]
    by_cases c4 : k = 4
    · rw [if_pos c4]; exact ⟨p, rfl, by rw [if_neg (by omega)]; omega⟩
    rw [if_neg c4]
    by_cases c5 : k = 5
    · rw [if_pos c5]; exact ⟨b, rfl, by rw [if_pos c5]; omega⟩
    rw [if_neg c5]
    by_cases c6 : k = 6
    · rw [if_pos c6]; exact ⟨o, rfl, by rw [if_neg (by omega)]; omega⟩
    rw [if_neg c6]
    refine ⟨3 + k, ?_, by rw [if_neg (by omega)]; omega⟩
    have : ∀ k : Fin 11, (10 + nI k.1) - 7 = nI (3 + k.1) := by decide
    exact this ⟨k, hk⟩
theorem zSum_b {m : Nat} {T : Nat → Nat → Int32} {N : Nat → Int32} {d n : Nat} (hT : wT m T) (hd : d < m) (hn : n ≤ 11) : ∃ s, s < 256 ∧ pF (zCf T N d) n 0 0 = nI s := by
  have := pF_inv (g := zCf T N d) (fun j a => ∃ s, a = nI s ∧ s ≤ 14 * j + (if j > 5 then 85 else 0)) n 0 0 (fun i a _ hi hI => by
    obtain ⟨s, rfl, hs⟩ := hI
    obtain ⟨c, hc, hb⟩ := zCk_b (N := N) hT hd (show i < 11 from by omega)
    refine ⟨s + c, ?_, ?_⟩
    · unfold zCf; rw [hc, nI_add]
    · split at hs <;> split at hb <;> split <;> omega) ⟨0, rfl, by simp⟩
  obtain ⟨s, h1, h2⟩ := this
  refine ⟨s, ?_, h1⟩
  rw [Nat.zero_add] at h2
  split at h2 <;> omega
def zPt (T : Nat → Nat → Int32) (d : Nat) : Nat := (T d 0).toNatClampNeg
def zBy (T : Nat → Nat → Int32) (N : Nat → Int32) (d i : Nat) : Int32 := if i < 7 + zPt T d then (if i = 0 ∧ N (80 + d) = 1 then 3 else zCk T N d i) else (if N (80 + d) = 2 then 1 - pF (zCf T N d) (7 + zPt T d) 0 0 else -(pF (zCf T N d) (7 + zPt T d) 0 0)) &&& 255
theorem zPt_e {m : Nat} {T : Nat → Nat → Int32} {d : Nat} (hT : wT m T) (hd : d < m) : zPt T d ≤ 4 ∧ T d 0 = nI (zPt T d) := by
  obtain ⟨⟨p, hp, e0⟩, -⟩ := hT d hd
  unfold zPt
  rw [e0, pCl (by omega)]
  exact ⟨hp, rfl⟩
theorem p_chk : ∀ s : Fin 256, (-(nI s.1)) &&& 255 = (256 - (nI s.1 - nI s.1 / 256 * 256)) - (256 - (nI s.1 - nI s.1 / 256 * 256)) / 256 * 256 := by decide +kernel
theorem p_chk2 : ∀ s : Fin 256, (1 - nI s.1) &&& 255 = (((256 - (nI s.1 - nI s.1 / 256 * 256)) - (256 - (nI s.1 - nI s.1 / 256 * 256)) / 256 * 256) + 1) - (((256 - (nI s.1 - nI s.1 / 256 * 256)) - (256 - (nI s.1 - nI s.1 / 256 * 256)) / 256 * 256) + 1) / 256 * 256 := by decide +kernel
theorem rLong {m : Nat} {td : Nat → Int32} {d : Nat} (hm : m ≤ 8) (hd : d < m) : F_X10_longOf td (nI d) = some (8 + tT m td d 0) := by
  unfold F_X10_longOf; simp (disch := omega) only [rTold0 (m := m), pBs]
theorem rTB {m : Nat} {td : Nat → Int32} {d k : Nat} (hm : m ≤ 8) (hd : d < m) (hk : k < 12) : F_X10_trueByte td (nI d) (nI k) = some (zTB (tT m td) d k) := by
  unfold F_X10_trueByte zTB
  simp (disch := omega) only [rLong (m := m), rTold0 (m := m), rTold1 (m := m), rTold2 (m := m), rTold3 (m := m), rTold4 (m := m), pBs, pE0z, pE1z, pE2z, pE3z, pE4z, pE5z, pE6z]
  by_cases c0 : k = 0
  · simp [c0]
  by_cases c1 : k = 1
  · by_cases c : tT m td d 0 ≤ 0 <;> simp [c1, c]
  by_cases c2 : k = 2
  · simp [c2]
  by_cases c3 : k = 3
  · simp [c3]
  by_cases c4 : k = 4
  · simp [c4]
  by_cases c5 : k = 5
  · simp [c5]
  by_cases c6 : k = 6
  · simp [c6]
  simp [c0, c1, c2, c3, c4, c5, c6]
theorem p_87 (p : Nat) : nI (8 + p) - 1 = nI (7 + p) := by
  rw [show 8 + p = (7 + p) + 1 from by omega, nI_pred]
theorem rByte {m : Nat} {td nw : Nat → Int32} {d i : Nat} (hm : m ≤ 8) (hT : wT m (tT m td)) (hd : d < m) (hi : i < 12) : F_X10_byteAt td nw (nI d) (nI i) = some (zBy (tT m td) (nz nw) d i) := by
  obtain ⟨hp, e0⟩ := zPt_e hT hd
  unfold F_X10_byteAt zBy
  simp (disch := omega) only [pIx, pCl, pLe, pLt, pEq, pNm, pS1, pA0, pA8, pA16, pA24, pA32, pA40, pA48, pA56, pA64, pA72, pA80, pA88, pBs, pE8, pb0, pb1, pbo, if_true, if_false, pIy, pbq, pNz, pIw, rLong (m := m), e0, pE0z, pE4z]
  rw [p_87]
  simp (disch := omega) only [pIx, pCl, pLe, pLt, pEq, pNm, pS1, pA0, pA8, pA16, pA24, pA32, pA40, pA48, pA56, pA64, pA72, pA80, pA88, pBs, pE8, pb0, pb1, pbo, if_true, if_false, pIy, pbq, pNz, pIw, rTB (m := m)]
  by_cases c : i < 7 + zPt (tT m td) d
  · rw [if_neg (by omega), if_pos c]
    unfold zCk
    simp (disch := omega) only [pNz]
    by_cases c1 : nw (80 + d) = 1 <;> by_cases c3 : nw (80 + d) = 3 <;> by_cases ci : i = 0 <;> by_cases c4 : i = 4 <;> simp_all
  · rw [if_pos (by omega), if_neg c]
    have hl := pLoop0 (m := 7 + zPt (tT m td) d) (L := fun n x a => FL_X10_byteAt_62 td nw (nI d) (nI i) n (nw (80 + d)) a x) (g := zCf (tT m td) (nz nw) d) (fin := fun a => if nw (80 + d) = 2 then ((((256 - (a - a / 256 * 256)) - (256 - (a - a / 256 * 256)) / 256 * 256) + 1) - (((256 - (a - a / 256 * 256)) - (256 - (a - a / 256 * 256)) / 256 * 256) + 1) / 256 * 256) else ((256 - (a - a / 256 * 256)) - (256 - (a - a / 256 * 256)) / 256 * 256)) (fun n j a hj => ?_) (fun n a => ?_) 1000 0 (by omega)
    · refine hl.trans ?_
      obtain ⟨s, hs, es⟩ := zSum_b (N := nz nw) hT hd (show 7 + zPt (tT m td) d ≤ 11 from by omega)
      rw [es]
      have h1 := p_chk ⟨s, hs⟩
      have h2 := p_chk2 ⟨s, hs⟩
      by_cases c2 : nw (80 + d) = 2
      · simp only [c2, if_true]; rw [← h2]
      · simp only [c2, if_false]; rw [← h1]
    · show FL_X10_byteAt_62 td nw (nI d) (nI i) (n + 1) (nw (80 + d)) a (nI j) = _
      simp (disch := omega) only [FL_X10_byteAt_62, pIx, pCl, pLe, pLt, pEq, pNm, pS1, pA0, pA8, pA16, pA24, pA32, pA40, pA48, pA56, pA64, pA72, pA80, pA88, pBs, pE8, pb0, pb1, pbo, if_true, if_false, pIy, pbq, pNz, pIw, rLong (m := m), e0, rTB (m := m), pE4z]
      rw [p_87]
      simp (disch := omega) only [pIx, pCl, pLe, pLt, pEq, pNm, pS1, pA0, pA8, pA16, pA24, pA32, pA40, pA48, pA56, pA64, pA72, pA80, pA88, pBs, pE8, pb0, pb1, pbo, if_true, if_false, pIy, pbq, pNz, pIw, zCf, zCk]
      rw [if_neg (by omega)]
      by_cases c3 : nw (80 + d) = 3 <;> by_cases c4 : j = 4 <;> simp [c3, c4]
    · show FL_X10_byteAt_62 td nw (nI d) (nI i) (n + 1) (nw (80 + d)) a (nI (7 + zPt (tT m td) d)) = _
      simp (disch := omega) only [FL_X10_byteAt_62, pIx, pCl, pLe, pLt, pEq, pNm, pS1, pA0, pA8, pA16, pA24, pA32, pA40, pA48, pA56, pA64, pA72, pA80, pA88, pBs, pE8, pb0, pb1, pbo, if_true, if_false, pIy, pbq, pNz, pIw, rLong (m := m), e0]
      rw [p_87]
      simp (disch := omega) only [pIx, pCl, pLe, pLt, pEq, pNm, pS1, pA0, pA8, pA16, pA24, pA32, pA40, pA48, pA56, pA64, pA72, pA80, pA88, pBs, pE8, pb0, pb1, pbo, if_true, if_false, pIy, pbq, pNz, pIw]
      rw [if_pos (Nat.le_refl _)]
      by_cases c2 : nw (80 + d) = 2 <;> simp [c2]
def zSf (T : Nat → Nat → Int32) (N : Nat → Int32) (d i : Nat) (a : Int32) : Int32 := a + zBy T N d i
def zRight (T : Nat → Nat → Int32) (N : Nat → Int32) (d : Nat) : Bool := decide ((pF (zSf T N d) (8 + zPt T d) 0 0) &&& 255 = 0) && decide (zBy T N d 0 = 8 + zBy T N d 4)
theorem zBy_b {m : Nat} {T : Nat → Nat → Int32} {N : Nat → Int32} {d i : Nat} (hT : wT m T) (hd : d < m) (hi : i < 12) : ∃ c, zBy T N d i = nI c ∧ c < 256 := by
  unfold zBy
  by_cases c : i < 7 + zPt T d
  · rw [if_pos c]
    by_cases c2 : i = 0 ∧ N (80 + d) = 1
    · rw [if_pos c2]; exact ⟨3, rfl, by omega⟩
    · rw [if_neg c2]
      have := (zPt_e hT hd).1
      obtain ⟨b, h1, h2⟩ := zCk_b (N := N) hT hd (show i < 11 from by omega)
      refine ⟨b, h1, ?_⟩
      split at h2 <;> omega
  · rw [if_neg c]
    have := (zPt_e hT hd).1
    obtain ⟨s, hs, es⟩ := zSum_b (N := N) hT hd (show 7 + zPt T d ≤ 11 from by omega)
    rw [es]
    have h1 : ∀ s : Fin 256, (-(nI s.1)) &&& 255 = nI ((256 - s.1) % 256) := by decide +kernel
    have h2 : ∀ s : Fin 256, (1 - (nI s.1)) &&& 255 = nI ((257 - s.1) % 256) := by decide +kernel
    by_cases c2 : N (80 + d) = 2
    · rw [if_pos c2]; exact ⟨_, h2 ⟨s, hs⟩, by omega⟩
    · rw [if_neg c2]; exact ⟨_, h1 ⟨s, hs⟩, by omega⟩
theorem zSum2_b {m : Nat} {T : Nat → Nat → Int32} {N : Nat → Int32} {d n : Nat} (hT : wT m T) (hd : d < m) (hn : n ≤ 12) : ∃ s, s < 4096 ∧ pF (zSf T N d) n 0 0 = nI s := by
  have := pF_inv (g := zSf T N d) (fun j a => ∃ s, a = nI s ∧ s ≤ 256 * j) n 0 0 (fun i a _ hi hI => by
    obtain ⟨s, rfl, hs⟩ := hI
    obtain ⟨c, hc, hb⟩ := zBy_b (N := N) hT hd (show i < 12 from by omega)
    exact ⟨s + c, by unfold zSf; rw [hc, nI_add], by omega⟩) ⟨0, rfl, by simp⟩
  obtain ⟨s, h1, h2⟩ := this
  exact ⟨s, by omega, h1⟩
theorem p_mod0 : ∀ (h : Fin 16) (l : Fin 256), (nI (256 * h.1 + l.1) - nI (256 * h.1 + l.1) / 256 * 256 = 0) ↔ (nI (256 * h.1 + l.1) &&& 255 = 0) := by decide +kernel
theorem p_mod (s : Nat) (hs : s < 4096) : (nI s - nI s / 256 * 256 = 0) ↔ (nI s &&& 255 = 0) := by
  have := p_mod0 ⟨s / 256, by omega⟩ ⟨s % 256, by omega⟩
  simp only [Nat.div_add_mod] at this
  exact this
theorem p_80 (p : Nat) : (8 : Int32) + nI p = nI (8 + p) := pA8 p
theorem rRight1 {m : Nat} {td nw : Nat → Int32} {d : Nat} (hm : m ≤ 8) (hT : wT m (tT m td)) (hd : d < m) : F_X10_isRight td nw (nI d) = some (pb (zRight (tT m td) (nz nw) d)) := by
  obtain ⟨hp, e0⟩ := zPt_e hT hd
  unfold F_X10_isRight zRight
  have hl := pLoop0 (m := 8 + zPt (tT m td) d) (L := fun n x a => FL_X10_isRight_4 td nw (nI d) n a x) (g := zSf (tT m td) (nz nw) d) (fin := fun a => pb (decide (a - a / 256 * 256 = 0) && decide (zBy (tT m td) (nz nw) d 0 = 8 + zBy (tT m td) (nz nw) d 4))) (fun n j a hj => ?_) (fun n a => ?_) 1000 0 (by omega)
  · refine hl.trans ?_
    obtain ⟨s, hs, es⟩ := zSum2_b (N := nz nw) hT hd (show 8 + zPt (tT m td) d ≤ 12 from by omega)
    rw [es]
    have h1 := p_mod s hs
    congr 2
    rw [decide_eq_decide.mpr h1]
  · show FL_X10_isRight_4 td nw (nI d) (n + 1) a (nI j) = _
    simp (disch := omega) only [FL_X10_isRight_4, pIx, pCl, pLe, pLt, pEq, pNm, pS1, pA0, pA8, pA16, pA24, pA32, pA40, pA48, pA56, pA64, pA72, pA80, pA88, pBs, pE8, pb0, pb1, pbo, if_true, if_false, pIy, pbq, pNz, pIw, rLong (m := m), e0, rByte hm hT hd (show j < 12 from by omega), zSf]
    rw [if_neg (by omega)]
  · show FL_X10_isRight_4 td nw (nI d) (n + 1) a (nI (8 + zPt (tT m td) d)) = _
    have b0 := rByte (nw := nw) hm hT hd (show 0 < 12 from by omega)
    have b4 := rByte (nw := nw) hm hT hd (show 4 < 12 from by omega)
    simp (disch := omega) only [FL_X10_isRight_4, pIx, pCl, pLe, pLt, pEq, pNm, pS1, pA0, pA8, pA16, pA24, pA32, pA40, pA48, pA56, pA64, pA72, pA80, pA88, pBs, pE8, pb0, pb1, pbo, if_true, if_false, pIy, pbq, pNz, pIw, rLong (m := m), e0]
    rw [if_pos (Nat.le_refl _), show F_X10_byteAt td nw (nI d) 0 = _ from b0, show F_X10_byteAt td nw (nI d) 4 = _ from b4]
    simp only [pBs]
    by_cases c : a - a / 256 * 256 = 0 <;> by_cases c2 : zBy (tT m td) (nz nw) d 0 = 8 + zBy (tT m td) (nz nw) d 4 <;> simp [c, c2, pb]
theorem cCk {m : Nat} {fr fu fp : Nat → Int32} {d k : Nat} (hm : m ≤ 8) (hd : d < m) (hk : k < 12) : F_X0_byteChecked fr (nI m) fu fp (nI d) (nI k) = some (zCk (tP m fp) (nz fr) d k) := by
  unfold F_X0_byteChecked zCk zTB
  simp (disch := omega) only [pIx, pCl, pLe, pLt, pEq, pNm, pS1, pA0, pA8, pA16, pA24, pA32, pA40, pA48, pA56, pA64, pA72, pA80, pA88, pBs, pE8, pb0, pb1, pbo, if_true, if_false, pIy, pbq, pNz, pIw, tP0 (m := m), tP1 (m := m), tP2 (m := m), tP3 (m := m), tP4 (m := m), pE0z, pE1z, pE2z, pE3z, pE4z, pE5z, pE6z]
  by_cases c0 : k = 0
  · simp [c0]
  by_cases c1 : k = 1
  · by_cases c : fp d ≤ 0 <;> simp [c1, c]
  by_cases c2 : k = 2
  · simp [c2]
  by_cases c3 : k = 3
  · simp [c3]
  by_cases c4 : k = 4
  · by_cases c : fr (80 + d) = 3 <;> simp [c4, c]
  by_cases c5 : k = 5
  · simp [c5]
  by_cases c6 : k = 6
  · simp [c6]
  simp [c0, c1, c2, c3, c4, c5, c6]
theorem p_7 (p : Nat) : (7 : Int32) + nI p = nI (7 + p) := nI_add 7 p
theorem cByte {m : Nat} {fr fu fp : Nat → Int32} {d i : Nat} (hm : m ≤ 8) (hT : wT m (tP m fp)) (hd : d < m) (hi : i < 12) : F_X0_byteOf fr (nI m) fu fp (nI d) (nI i) = some (zBy (tP m fp) (nz fr) d i) := by
  obtain ⟨hp, e0⟩ := zPt_e hT hd
  rw [tP0 hm (by omega)] at e0
  unfold F_X0_byteOf zBy
  simp (disch := omega) only [pIx, pCl, pLe, pLt, pEq, pNm, pS1, pA0, pA8, pA16, pA24, pA32, pA40, pA48, pA56, pA64, pA72, pA80, pA88, pBs, pE8, pb0, pb1, pbo, if_true, if_false, pIy, pbq, pNz, pIw, e0, pE0z, p_7, cCk]
  by_cases c : i < 7 + zPt (tP m fp) d
  · rw [if_neg (by omega), if_pos c]
    by_cases c1 : fr (80 + d) = 1 <;> by_cases ci : i = 0 <;> simp [c1, ci]
  · rw [if_pos (by omega), if_neg c]
    have hl := pLoop0 (m := 7 + zPt (tP m fp) d) (L := fun n x a => FL_X0_byteOf_54 fr (nI m) fu fp (nI d) (nI i) n (nI (7 + zPt (tP m fp) d)) a x) (g := zCf (tP m fp) (nz fr) d) (fin := fun a => (if nz fr (80 + d) = 2 then 1 - a else -a) &&& 255) (fun n j a hj => ?_) (fun n a => ?_) 1000 0 (by omega)
    · rw [pNz (by omega)] at hl; exact hl
    · show FL_X0_byteOf_54 fr (nI m) fu fp (nI d) (nI i) (n + 1) _ a (nI j) = _
      simp (disch := omega) only [FL_X0_byteOf_54, pIx, pCl, pLe, pLt, pEq, pNm, pS1, pA0, pA8, pA16, pA24, pA32, pA40, pA48, pA56, pA64, pA72, pA80, pA88, pBs, pE8, pb0, pb1, pbo, if_true, if_false, pIy, pbq, pNz, pIw, cCk, zCf]
      rw [if_neg (by omega)]
    · show FL_X0_byteOf_54 fr (nI m) fu fp (nI d) (nI i) (n + 1) _ a (nI (7 + zPt (tP m fp) d)) = _
      simp (disch := omega) only [FL_X0_byteOf_54, pIx, pCl, pLe, pLt, pEq, pNm, pS1, pA0, pA8, pA16, pA24, pA32, pA40, pA48, pA56, pA64, pA72, pA80, pA88, pBs, pE8, pb0, pb1, pbo, if_true, if_false, pIy, pbq, pNz, pIw]
      rw [if_pos (Nat.le_refl _)]
      by_cases c2 : fr (80 + d) = 2 <;> simp [c2]
theorem cSound {m : Nat} {fr fu fp : Nat → Int32} {d : Nat} (hm : m ≤ 8) (hT : wT m (tP m fp)) (hd : d < m) : F_X0_isSound fr (nI m) fu fp (nI d) = some (pb (zRight (tP m fp) (nz fr) d)) := by
  obtain ⟨hp, e0⟩ := zPt_e hT hd
  rw [tP0 hm (by omega)] at e0
  unfold F_X0_isSound zRight
  have hl := pLoop0 (m := 8 + zPt (tP m fp) d) (L := fun n x a => FL_X0_isSound_4 fr (nI m) fu fp (nI d) n a x) (g := zSf (tP m fp) (nz fr) d) (fin := fun a => pb (decide (a &&& 255 = 0) && decide (zBy (tP m fp) (nz fr) d 0 = 8 + zBy (tP m fp) (nz fr) d 4))) (fun n j a hj => ?_) (fun n a => ?_) 1000 0 (by omega)
  · exact hl
  · show FL_X0_isSound_4 fr (nI m) fu fp (nI d) (n + 1) a (nI j) = _
    simp (disch := omega) only [FL_X0_isSound_4, F_X5_lengthOf, pIx, pCl, pLe, pLt, pEq, pNm, pS1, pA0, pA8, pA16, pA24, pA32, pA40, pA48, pA56, pA64, pA72, pA80, pA88, pBs, pE8, pb0, pb1, pbo, if_true, if_false, pIy, pbq, pNz, pIw, e0, cByte hm hT hd (show j < 12 from by omega), zSf]
    rw [if_neg (by omega)]
  · show FL_X0_isSound_4 fr (nI m) fu fp (nI d) (n + 1) a (nI (8 + zPt (tP m fp) d)) = _
    have b0 := cByte (fr := fr) (fu := fu) hm hT hd (show 0 < 12 from by omega)
    have b4 := cByte (fr := fr) (fu := fu) hm hT hd (show 4 < 12 from by omega)
    simp (disch := omega) only [FL_X0_isSound_4, F_X5_lengthOf, pIx, pCl, pLe, pLt, pEq, pNm, pS1, pA0, pA8, pA16, pA24, pA32, pA40, pA48, pA56, pA64, pA72, pA80, pA88, pBs, pE8, pb0, pb1, pbo, if_true, if_false, pIy, pbq, pNz, pIw, e0]
    rw [if_pos (Nat.le_refl _), show F_X0_byteOf fr (nI m) fu fp (nI d) 0 = _ from b0, show F_X0_byteOf fr (nI m) fu fp (nI d) 4 = _ from b4]
    simp only [pBs]
    by_cases c : a &&& 255 = 0 <;> by_cases c2 : zBy (tP m fp) (nz fr) d 0 = 8 + zBy (tP m fp) (nz fr) d 4 <;> simp [c, c2, pb]
end
