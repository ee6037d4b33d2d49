/-! pure land: numbers and loops -/
theorem pIx {α : Type} {i N : Nat} {a : Option α} (h : i < N) (hN : N < 2147483648) : (if nI i < 0 ∨ N ≤ (nI i).toNatClampNeg then none else a) = a := if_neg (nI_in h hN)
theorem pCl {i : Nat} (h : i < 2147483648) : (nI i).toNatClampNeg = i := nI_clamp h
theorem pLe {a b : Nat} (ha : a < 2147483648) (hb : b < 2147483648) : (nI a ≤ nI b) = (a ≤ b) := propext (nI_leI ha hb)
theorem pLt {a b : Nat} (ha : a < 2147483648) (hb : b < 2147483648) : (nI a < nI b) = (a < b) := propext (nI_ltI ha hb)
theorem pEq {a b : Nat} (ha : a < 2147483648) (hb : b < 2147483648) : (nI a = nI b) = (a = b) := propext (nI_eq ha hb)
theorem pNm {a : Nat} (ha : a < 2147483648) : (nI a = -1) = False := by
  apply propext; refine ⟨fun h => ?_, False.elim⟩
  have e := congrArg Int32.toInt h
  rw [nI_toInt ha] at e
  have : (-1 : Int32).toInt = -1 := by decide
  omega
theorem pS1 (a : Nat) : nI a + 1 = nI (a + 1) := nI_1 a
theorem pA0 (a : Nat) : 0 + nI a = nI a := by rw [show (0 : Int32) = nI 0 from rfl, nI_add, Nat.zero_add]
theorem pA8 (a : Nat) : 8 + nI a = nI (8 + a) := nI_add 8 a
theorem pA16 (a : Nat) : 16 + nI a = nI (16 + a) := nI_add 16 a
theorem pA24 (a : Nat) : 24 + nI a = nI (24 + a) := nI_add 24 a
theorem pA32 (a : Nat) : 32 + nI a = nI (32 + a) := nI_add 32 a
theorem pA40 (a : Nat) : 40 + nI a = nI (40 + a) := nI_add 40 a
theorem pA48 (a : Nat) : 48 + nI a = nI (48 + a) := nI_add 48 a
theorem pA56 (a : Nat) : 56 + nI a = nI (56 + a) := nI_add 56 a
theorem pA64 (a : Nat) : 64 + nI a = nI (64 + a) := nI_add 64 a
theorem pA72 (a : Nat) : 72 + nI a = nI (72 + a) := nI_add 72 a
theorem pA80 (a : Nat) : 80 + nI a = nI (80 + a) := nI_add 80 a
theorem pA88 (a : Nat) : 88 + nI a = nI (88 + a) := nI_add 88 a
theorem pBi {α β : Type} {x : Option α} {a : α} {f : α → Option β} (h : x = some a) : x.bind f = f a := by rw [h]; rfl
theorem pBs {α β : Type} {a : α} {f : α → Option β} : (some a).bind f = f a := rfl
theorem pUs {f : Nat → Int32} {k : Nat} {x : Int32} : upd f k x k = x := if_pos rfl
theorem pUn {f : Nat → Int32} {k j : Nat} {x : Int32} (h : j ≠ k) : upd f k x j = f j := if_neg h
/-- a loop from j on, so many rounds -/
def pF {α : Type} (g : Nat → α → α) : Nat → Nat → α → α
  | 0, _, a => a
  | k + 1, j, a => pF g k (j + 1) (g j a)
theorem pF_inv {α : Type} {g : Nat → α → α} (I : Nat → α → Prop) : ∀ (k j : Nat) (a : α), (∀ i a, j ≤ i → i < j + k → I i a → I (i + 1) (g i a)) → I j a → I (j + k) (pF g k j a)
  | 0, j, a, _, h => h
  | k + 1, j, a, hs, h => by
    have := pF_inv I k (j + 1) (g j a) (fun i a h1 h2 => hs i a (by omega) (by omega)) (hs j a (by omega) (by omega) h)
    rw [show j + 1 + k = j + (k + 1) from by omega] at this
    exact this
theorem pF_congr {α : Type} {g g' : Nat → α → α} : ∀ (k j : Nat) (a : α), (∀ i a, j ≤ i → i < j + k → g i a = g' i a) → pF g k j a = pF g' k j a
  | 0, _, _, _ => rfl
  | k + 1, j, a, h => by
    show pF g k (j + 1) (g j a) = pF g' k (j + 1) (g' j a)
    rw [h j a (by omega) (by omega)]
    exact pF_congr k (j + 1) _ (fun i a h1 h2 => h i a (by omega) (by omega))
theorem pLoop {α β : Type} {m : Nat} {L : Nat → Int32 → α → Option β} {g : Nat → α → α} {fin : α → β} (I : Nat → α → Prop)
    (hs : ∀ n j a, j < m → I j a → L (n + 1) (nI j) a = L n (nI (j + 1)) (g j a) ∧ I (j + 1) (g j a))
    (he : ∀ n a, I m a → L (n + 1) (nI m) a = some (fin a)) : ∀ (k n j : Nat) (a : α), j + k = m → k < n → I j a → L n (nI j) a = some (fin (pF g k j a)) ∧ I m (pF g k j a)
  | 0, 0, j, a, _, h, _ => absurd h (by omega)
  | 0, n + 1, j, a, h1, _, hI => by
    obtain rfl : j = m := by omega
    exact ⟨he n a hI, hI⟩
  | k + 1, 0, j, a, _, h, _ => absurd h (by omega)
  | k + 1, n + 1, j, a, h1, h2, hI => by
    obtain ⟨e1, e2⟩ := hs n j a (by omega) hI
    rw [e1]
    exact pLoop I hs he k n (j + 1) (g j a) (by omega) (by omega) e2
theorem pLoop0 {α β : Type} {m : Nat} {L : Nat → Int32 → α → Option β} {g : Nat → α → α} {fin : α → β}
    (hs : ∀ n j a, j < m → L (n + 1) (nI j) a = L n (nI (j + 1)) (g j a)) (he : ∀ n a, L (n + 1) (nI m) a = some (fin a)) (n : Nat) (a : α) (hn : m < n) : L n 0 a = some (fin (pF g m 0 a)) :=
  (pLoop (fun _ _ => True) (fun n j a h _ => ⟨hs n j a h, trivial⟩) (fun n a _ => he n a) m n 0 a (by omega) hn trivial).1
/-- the first for which it holds, from j on -/
def pFd (p : Nat → Bool) : Nat → Nat → Int32
  | 0, _ => -1
  | k + 1, j => if p j = true then nI j else pFd p k (j + 1)
theorem pFind {β : Type} {m : Nat} {L : Nat → Int32 → Option β} {p : Nat → Bool} {r : Nat → β} {e : β} (f : Int32 → β) (hr : ∀ j, j < m → r j = f (nI j)) (hf : f (-1) = e)
    (hs : ∀ n j, j < m → L (n + 1) (nI j) = if p j = true then some (r j) else L n (nI (j + 1))) (he : ∀ n, L (n + 1) (nI m) = some e) : ∀ (k n j : Nat), j + k = m → k < n → L n (nI j) = some (f (pFd p k j))
  | 0, 0, j, _, h => absurd h (by omega)
  | 0, n + 1, j, h1, _ => by
    obtain rfl : j = m := by omega
    rw [he]; show _ = some (f (-1)); rw [hf]
  | k + 1, 0, j, _, h => absurd h (by omega)
  | k + 1, n + 1, j, h1, h2 => by
    rw [hs n j (by omega)]
    show _ = some (f (if p j = true then nI j else pFd p k (j + 1)))
    by_cases c : p j = true
    · rw [if_pos c, if_pos c, hr j (by omega)]
    · rw [if_neg c, if_neg c]; exact pFind f hr hf hs he k n (j + 1) (by omega) (by omega)
theorem pFd_cases (p : Nat → Bool) : ∀ (k j : Nat), (pFd p k j = -1 ∧ ∀ i, j ≤ i → i < j + k → p i = false) ∨ ∃ i, j ≤ i ∧ i < j + k ∧ pFd p k j = nI i ∧ p i = true ∧ ∀ i', j ≤ i' → i' < i → p i' = false
  | 0, j => Or.inl ⟨rfl, fun i h1 h2 => by omega⟩
  | k + 1, j => by
    by_cases c : p j = true
    · exact Or.inr ⟨j, by omega, by omega, if_pos c, c, fun i' h1 h2 => by omega⟩
    · have e : pFd p (k + 1) j = pFd p k (j + 1) := if_neg c
      have c' : p j = false := by simpa using c
      rcases pFd_cases p k (j + 1) with ⟨h1, h2⟩ | ⟨i, h1, h2, h3, h4, h5⟩
      · refine Or.inl ⟨e.trans h1, fun i h3 h4 => ?_⟩
        by_cases c2 : i = j
        · rw [c2]; exact c'
        · exact h2 i (by omega) (by omega)
      · refine Or.inr ⟨i, by omega, by omega, e.trans h3, h4, fun i' h6 h7 => ?_⟩
        by_cases c2 : i' = j
        · rw [c2]; exact c'
        · exact h5 i' (by omega) h7
theorem pFd_congr {p q : Nat → Bool} : ∀ (k j : Nat), (∀ i, j ≤ i → i < j + k → p i = q i) → pFd p k j = pFd q k j
  | 0, _, _ => rfl
  | k + 1, j, h => by
    show (if p j = true then _ else _) = (if q j = true then _ else _)
    rw [h j (by omega) (by omega), pFd_congr k (j + 1) (fun i h1 h2 => h i (by omega) (by omega))]
/-- the set of those for which it holds -/
def pSb (p : Nat → Bool) (d : Nat) (a : Int32) : Int32 := a ||| (if p d = true then (1 <<< (nI d &&& 31)) else 0)
def pSet (p : Nat → Bool) (m : Nat) : Int32 := pF (pSb p) m 0 0
theorem pSet_congr {p q : Nat → Bool} {m : Nat} (h : ∀ d, d < m → p d = q d) : pSet p m = pSet q m := by
  unfold pSet; apply pF_congr
  intro i a h1 h2
  unfold pSb; rw [h i (by omega)]
