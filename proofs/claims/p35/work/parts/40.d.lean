section
/-! how many addresses are left, both ways -/
theorem pNum_true (t : Nat) : pNum (fun _ => true) t = t := by
  induction t with
  | zero => rfl
  | succ t ih => rw [pNum_s, ih]; rfl
theorem pNum_not {p : Nat → Bool} {t : Nat} : pNum (fun a => !p a) t + pNum p t = t := by
  have h := pNum_add (p := fun a => !p a) (q := p) (r := fun _ => true) (m := t) (fun d _ => ⟨by cases p d <;> rfl, by cases p d <;> rfl⟩)
  rw [pNum_true] at h; omega
theorem pNum_zero {p : Nat → Bool} {t : Nat} (h : ∀ a, a < t → p a = false) : pNum p t = 0 := by
  induction t with
  | zero => rfl
  | succ t ih => rw [pNum_s, ih (fun a ha => h a (by omega)), h t (by omega)]; rfl
theorem pNum_one1 {c t : Nat} (h : c < t) : pNum (fun a => decide (a = c)) t = 1 := by
  induction t with
  | zero => omega
  | succ t ih =>
    rw [pNum_s]
    by_cases e : t = c
    · rw [pNum_zero (fun a ha => by simp; omega)]; simp [e]
    · rw [ih (by omega)]; simp [e]
/-- who among the first j has this address -/
def hasA (N : Nat → Int32) : Nat → Nat → Bool
  | 0, _ => false
  | j + 1, a => hasA N j a || (decide (N j = 6) && decide (N (56 + j) = nI (a + 1)))
theorem hasA_e {N : Nat → Int32} : ∀ (j a : Nat), hasA N j a = true → ∃ e, e < j ∧ N e = 6 ∧ N (56 + e) = nI (a + 1)
  | 0, a, h => by simp [hasA] at h
  | j + 1, a, h => by
    simp only [hasA, Bool.or_eq_true, Bool.and_eq_true, decide_eq_true_eq] at h
    rcases h with h | h
    · obtain ⟨e, h1, h2⟩ := hasA_e j a h
      exact ⟨e, by omega, h2⟩
    · exact ⟨j, by omega, h⟩
theorem hasA_i {N : Nat → Int32} : ∀ (j a e : Nat), e < j → N e = 6 → N (56 + e) = nI (a + 1) → hasA N j a = true
  | 0, a, e, h, _, _ => by omega
  | j + 1, a, e, h, h1, h2 => by
    simp only [hasA, Bool.or_eq_true, Bool.and_eq_true, decide_eq_true_eq]
    by_cases c : e = j
    · subst c; exact Or.inr ⟨h1, h2⟩
    · exact Or.inl (hasA_i j a e (by omega) h1 h2)
theorem hasA_n {m t : Nat} {R N : Nat → Int32} (ht : t ≤ 9) (eR : R 7 = nI t) (h : wAdr m R N) : ∀ j, j ≤ m → pNum (hasA N j) t = pNum (fun d => decide (N d = 6)) j
  | 0, _ => pNum_zero (fun _ _ => rfl)
  | j + 1, hj => by
    have ih := hasA_n ht eR h j (by omega)
    rw [pNum_s]
    by_cases c : N j = 6
    · obtain ⟨a, a1, a2, a3, a4⟩ := h.1 j (by omega) c
      rw [eR, pLe (by omega) (by omega)] at a3
      have e := pNum_add (p := hasA N j) (q := fun x => decide (x = a - 1)) (r := hasA N (j + 1)) (m := t) (fun x hx => by
        have ex : (N (56 + j) = nI (x + 1)) ↔ x = a - 1 := by
          rw [a4]
          refine ⟨fun q => by have := (nI_eq (by omega) (by omega)).mp q; omega, fun q => by rw [q]; congr 1; omega⟩
        refine ⟨?_, ?_⟩
        · show (hasA N j x || (decide (N j = 6) && decide (N (56 + j) = nI (x + 1)))) = _
          by_cases cx : x = a - 1
          · simp [c, cx, ex.mpr cx]
          · have : ¬ N (56 + j) = nI (x + 1) := fun q => cx (ex.mp q)
            simp [cx, this]
        · by_cases cx : x = a - 1
          · have : hasA N j x = false := by
              cases hh : hasA N j x with
              | false => rfl
              | true =>
                obtain ⟨e, e1, e2, e3⟩ := hasA_e j x hh
                have := h.2 e j (by omega) (by omega) e2 c (e3.trans (ex.mpr cx).symm)
                omega
            rw [this]; rfl
          · simp [cx])
      rw [e, ih, pNum_one1 (by omega), if_pos (by simp [c])]
    · rw [if_neg (by simp [c]), ← ih]
      exact pNum_congr (fun x _ => by show (hasA N j x || (decide (N j = 6) && _)) = _; simp [c])
section
variable {m t : Nat} {ru fp td : Nat → Int32}
theorem free_L9 {nw : Nat → Int32} (hm : m ≤ 8) (ht : t ≤ 9) (eR : ru 7 = nI t) : ∀ (k j n x : Nat), j + k = t → k < n → x = pNum (fun a => decide (zWho m (nz nw) (nI (a + 1)) = -1)) j → FL_X10_freeAddresses_4 (nI m) ru nw n (nI x) (nI (j + 1)) = some (nI (pNum (fun a => decide (zWho m (nz nw) (nI (a + 1)) = -1)) t))
  | k, j, 0, x, _, h, _ => absurd h (by omega)
  | 0, j, n + 1, x, h1, h2, h3 => by
    obtain rfl : j = t := by omega
    rw [FL_X10_freeAddresses_4, eR, if_pos (by rw [pLt (by omega) (by omega)]; omega), h3]
  | k + 1, j, n + 1, x, h1, h2, h3 => by
    have hs := pNum_s (fun a => decide (zWho m (nz nw) (nI (a + 1)) = -1)) j
    rw [FL_X10_freeAddresses_4, eR, if_neg (by rw [pLt (by omega) (by omega)]; omega), rWho hm, pBs, pS1, pS1]
    by_cases c : zWho m (nz nw) (nI (j + 1)) = -1
    · rw [if_pos c]
      rw [if_pos (by simp [c])] at hs
      exact free_L9 hm ht eR k (j + 1) n (x + 1) (by omega) (by omega) (by omega)
    · rw [if_neg c, show (nI x : Int32) + 0 = nI x from nI_add x 0]
      rw [if_neg (by simp [c])] at hs
      exact free_L9 hm ht eR k (j + 1) n x (by omega) (by omega) (by omega)
theorem who_A {N : Nat → Int32} (a : Nat) (hm : m ≤ 8) : decide (zWho m N (nI (a + 1)) = -1) = !hasA N m a := by
  unfold zWho
  rcases pFd_cases (fun d => decide (N d = 6) && decide (N (56 + d) = nI (a + 1))) m 0 with ⟨q, g⟩ | ⟨i, -, i2, i3, i4, -⟩
  · rw [q]
    have : hasA N m a = false := by
      cases hh : hasA N m a with
      | false => rfl
      | true =>
        obtain ⟨e, e1, e2, e3⟩ := hasA_e m a hh
        have := g e (by omega) (by omega)
        simp [e2, e3] at this
    rw [this]; rfl
  · rw [i3]
    simp only [Bool.and_eq_true, decide_eq_true_eq] at i4
    rw [hasA_i m a i (by omega) i4.1 i4.2, decide_eq_false (by rw [pNm (by omega)]; exact id)]; rfl
theorem free_sim {fr nw : Nat → Int32} (hc : Cx m t ru fp td) (h0 : 0 < m) (hr : Rl m fr nw) (hi : iU m ru (tT m td) (nz nw)) : ∃ r, F_X0_freeAddresses fr (nI m) ru fp = some r ∧ F_X10_freeAddresses (nI m) ru nw = some r := by
  have hm := hc.1
  obtain ⟨ht, eR, -⟩ := hc.2.1 h0
  unfold F_X0_freeAddresses F_X10_freeAddresses
  rw [cRunning hm, pBs, hr.1]
  have e1 := free_L9 (nw := nw) hm ht eR t 0 1000 0 (by omega) (by omega) rfl
  have e2 : pNum (fun a => decide (zWho m (nz nw) (nI (a + 1)) = -1)) t = pNum (fun a => !hasA (nz nw) m a) t := pNum_congr (fun a _ => who_A a hm)
  have e3 := pNum_not (p := hasA (nz nw) m) (t := t)
  have e4 := hasA_n ht eR hi.2.2 m (Nat.le_refl m)
  rw [e2] at e1
  refine ⟨_, rfl, e1.trans ?_⟩
  congr 1
  rw [eR]
  apply Int32.toInt_inj.mp
  rw [pk_sub_toInt (by omega) (by have := pNum_le (fun d => decide (nz nw d = 6)) m; omega), nI_toInt (by omega)]
  omega
theorem all_sim9 {fr nw : Nat → Int32} {z1 : Int32} (hc : Cx m t ru fp td) (hr : Rl m fr nw) (hi : iU m ru (tT m td) (nz nw)) (h96 : fr 96 = nw 96) : ∃ r, F_X9_all (nI m) ru fp fr z1 = some r ∧ F_X10_all (nI m) ru td nw z1 = some (r, nw) := by
  have hm := hc.1
  by_cases c9 : z1 = 9
  · subst c9
    unfold F_X9_all F_X10_all F_X5_isTold
    rw [rTree hm, pBs, rIn, pBs]
    by_cases m0 : m = 0
    · subst m0; exact ⟨_, rfl, rfl⟩
    · have m0' : 0 < m := by omega
      rw [if_neg (by rw [pLe0 (by omega)]; exact m0), pBs, if_neg (show ¬ (1 : Int32) = 0 from by decide), if_neg (show ¬ pb (decide (0 < m)) = 0 by simp [m0', pb])]
      obtain ⟨r, a, b⟩ := free_sim hc m0' hr hi
      rw [a, b]
      exact ⟨r, rfl, rfl⟩
  · obtain ⟨r, r', a, b, c⟩ := all_sim hc hr hi h96
    have e := c c9
    subst e
    exact ⟨r, a, b⟩
end
end

section
theorem st_33e {cmp : Bool} : q_st cmp SX_33 SY_33 iv_I := by
  intro x y z j hj h
  obtain ⟨xa, xi, xl⟩ := x
  obtain ⟨ya, yi, yl⟩ := y
  have h : iv_H xa xi xl ya yi yl j := h
  obtain ⟨m, t, nx, p, tt, te, l, s, e1, e2, h3, e4, h5, e6, e7, e8, e9, e10, h11, e12, e13, e14, e15, e16, e17, hW, hI, e20, e21, h22, h23, h24⟩ := h
  have hC := hW.1
  have hR := hW.2.1.1
  have hU := hW.2.1.2.1
  have hF : iU m (ya 4) (tT m (ya 5)) (nz (xa 15)) := by rw [hR.1]; exact hU
  have h96 : xa 15 96 = ya 8 96 := by obtain ⟨k, -, k1, k2⟩ := hW.2.1.2.2.1; rw [k1, k2]
  obtain ⟨r, q1, q2⟩ := all_sim9 (z1 := z 1) hC hR hU h96
  have X : F_X9_all (xi 4) (xa 8) (xa 9) (xa 15) (z 1) = some r := by rw [e6, e8]; exact q1
  have Y : F_X10_all (yi 5) (ya 4) (ya 5) (ya 8) (z 1) = some (r, ya 8) := by rw [e7]; exact q2
  exact ⟨_, _, pBi X, pBi Y, iv_mk m t nx p tt te l s e1 e2 h3 e4 h5 e6 e7 e8 e9 e10 h11 e12 e13 e14 e15 e16 e17 hW hI e20 e21 (by omega) (by omega) h24, fun _ => rfl⟩
end
