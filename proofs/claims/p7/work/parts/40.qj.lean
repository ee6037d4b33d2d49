/-! reading a script -/
section
variable {tb : Nat → Int32} {l : Nat}
theorem rDigit {a : Nat} (hl : l ≤ 240) (h : a ≤ l) : F_X10_digit (nI l) (nI a) (-1) tb = if dg (ch tb l (skp tb l a)) = true then some (ch tb l (skp tb l a) - 48, nI (skp tb l a + 1), -1) else some (0, nI (skp tb l a), nI (skp tb l a)) := by
  obtain ⟨s1, s2, s3⟩ := skp_s (tb := tb) h
  unfold F_X10_digit
  rw [if_pos rfl, rAhead hl h, pBs]
  dsimp only
  rw [rDig, pBs, rHere hl s2, pBs]
  by_cases c : dg (ch tb l (skp tb l a)) = true
  · rw [c, if_neg (show ¬ pb true = 0 from by decide), if_pos rfl, pS1]
  · have c' : dg (ch tb l (skp tb l a)) = false := by simpa using c
    rw [c', if_pos (show pb false = 0 from rfl), if_neg Bool.false_ne_true]; rfl
theorem rDigit_w {a w : Int32} (hw : w ≠ -1) : F_X10_digit (nI l) a w tb = some (0, a, w) := by
  unfold F_X10_digit F_X10_bad
  rw [if_neg hw, if_neg hw, pBs]
theorem q6 : ∀ i : Fin 6, ∃ x : Fin 4, q_tab 6 i.1 = nI x.1 ∧ 1 ≤ x.1 := by decide
def na : Nat → Nat | 0 => 3 | 1 => 1 | 2 => 1 | 3 => 1 | 4 => 2 | 5 => 1 | _ => 0
theorem q6n : ∀ i : Fin 6, q_tab 6 i.1 = nI (na i.1) := by decide
section
variable {ra0 rv0 : Int32} {fi0 f : Nat → Int32} {i j x a n : Nat} {rv : Int32}
theorem stp_e (hi : i < 6) (hx : na i < x) (hx4 : x ≤ 4) : FL_X6_readStep_7 tb (nI l) ra0 rv0 fi0 (nI i) (nI (j * 4)) (n + 1) (nI x) (nI a) rv f = some (1, nI a, rv, f) := by
  have h4 : na i ≤ 3 := by
    have : ∀ k : Fin 6, na k.1 ≤ 3 := by decide
    exact this ⟨i, hi⟩
  rw [FL_X6_readStep_7, pIx (by omega) (by omega), pCl (by omega), show q_tab 6 i = nI (na i) from q6n ⟨i, hi⟩, if_pos ((pLt (by omega) (by omega)).mpr hx)]
theorem stp_d (hl : l ≤ 240) (hi : i < 6) (h2 : i ≠ 2) (hx : x ≤ na i) (hj : j < 16) (ha : a ≤ l) : FL_X6_readStep_7 tb (nI l) ra0 rv0 fi0 (nI i) (nI (j * 4)) (n + 1) (nI x) (nI a) rv f = if dg (ch tb l (skp tb l a)) = true then FL_X6_readStep_7 tb (nI l) ra0 rv0 fi0 (nI i) (nI (j * 4)) n (nI (x + 1)) (nI (skp tb l a + 1)) (ch tb l (skp tb l a) - 48) (upd f (j * 4 + x) (ch tb l (skp tb l a) - 48)) else some (0, nI (skp tb l a), rv, f) := by
  have h4 : na i ≤ 3 := by
    have : ∀ k : Fin 6, na k.1 ≤ 3 := by decide
    exact this ⟨i, hi⟩
  obtain ⟨s1, s2, s3⟩ := skp_s (tb := tb) ha
  rw [FL_X6_readStep_7, pIx (by omega) (by omega), pCl (by omega), show q_tab 6 i = nI (na i) from q6n ⟨i, hi⟩, if_neg (fun q => by have := (pLt (by omega) (by omega)).mp q; omega), cSkip hl ha, pBs, if_neg (show ¬ (nI i : Int32) = 2 from fun q => h2 ((nI_eq (a := i) (b := 2) (by omega) (by omega)).mp q)), cRdD hl s2, pBs]
  by_cases c : dg (ch tb l (skp tb l a)) = true
  · rw [if_pos c, if_pos c]
    dsimp only
    rw [if_neg (by decide), nI_add, pIx (by omega) (by omega), pCl (by omega), pS1]
  · rw [if_neg c, if_neg c]
    dsimp only
    rw [if_pos rfl]
theorem stp_n (hl : l ≤ 240) (hj : j < 16) (ha : a ≤ l) : FL_X6_readStep_7 tb (nI l) ra0 rv0 fi0 2 (nI (j * 4)) (n + 1 + 1) 1 (nI a) rv f = if (decide (skp tb l a < (nmG tb l 2 (skp tb l a) 0).1) && !dg (ch tb l (nmG tb l 2 (skp tb l a) 0).1)) = true then some (1, nI (nmG tb l 2 (skp tb l a) 0).1, (nmG tb l 2 (skp tb l a) 0).2, upd f (j * 4 + 1) (nmG tb l 2 (skp tb l a) 0).2) else some (0, nI (nmG tb l 2 (skp tb l a) 0).1, (nmG tb l 2 (skp tb l a) 0).2, f) := by
  obtain ⟨s1, s2, s3⟩ := skp_s (tb := tb) ha
  have hn := cNum (tb := tb) (a := skp tb l a) (z := 2) (rv := rv) hl s2 (by omega)
  rw [FL_X6_readStep_7, if_neg (by decide), if_neg (by decide), cSkip hl ha, pBs, if_pos rfl, show F_X6_readNumber tb (nI l) (nI (skp tb l a)) rv 2 = _ from hn, pBs]
  dsimp only
  by_cases c : (decide (skp tb l a < (nmG tb l 2 (skp tb l a) 0).1) && !dg (ch tb l (nmG tb l 2 (skp tb l a) 0).1)) = true
  · rw [c, if_neg (show ¬ pb true = 0 from by decide), if_pos rfl, show nI (j * 4) + 1 = nI (j * 4 + 1) from nI_add _ 1, pIx (by omega) (by omega), pCl (by omega)]
    show FL_X6_readStep_7 tb (nI l) ra0 rv0 fi0 (nI 2) (nI (j * 4)) (n + 1) (nI 2) _ _ _ = _
    rw [stp_e (by omega) (show na 2 < 2 by decide) (by omega)]
  · have c' : (decide (skp tb l a < (nmG tb l 2 (skp tb l a) 0).1) && !dg (ch tb l (nmG tb l 2 (skp tb l a) 0).1)) = false := by simpa using c
    rw [c', if_pos (show pb false = 0 from rfl), if_neg Bool.false_ne_true]
end
theorem nm2_99 {a : Nat} (hb : tOK tb) (ha : a ≤ l) : (!decide ((nmG tb l 2 a 0).2 < 0) && !decide (99 < (nmG tb l 2 a 0).2)) = true := by
  have hd : ∀ v : Fin 256, dg (nI v.1) = true → ∃ x : Fin 10, nI v.1 - 48 = nI x.1 := by decide +kernel
  have dv : ∀ b, dg (ch tb l b) = true → ∃ x : Fin 10, ch tb l b - 48 = nI x.1 := fun b h => by
    obtain ⟨v, hv, ev⟩ := ch_b hb (dg_in h)
    rw [ev] at h ⊢; exact hd ⟨v, hv⟩ h
  have t0 : (!decide ((0 : Int32) < 0) && !decide ((99 : Int32) < 0)) = true := by decide
  have t1 : ∀ x : Fin 10, (!decide ((0 : Int32) * 10 + nI x.1 < 0) && !decide ((99 : Int32) < 0 * 10 + nI x.1)) = true := by decide
  have t2 : ∀ x y : Fin 10, (!decide (((0 : Int32) * 10 + nI x.1) * 10 + nI y.1 < 0) && !decide ((99 : Int32) < (0 * 10 + nI x.1) * 10 + nI y.1)) = true := by decide
  unfold nmG
  by_cases c : dg (ch tb l a) = true
  · rw [if_pos c]
    obtain ⟨x, ex⟩ := dv a c
    rw [ex]
    unfold nmG
    by_cases c2 : dg (ch tb l (a + 1)) = true
    · rw [if_pos c2]
      obtain ⟨y, ey⟩ := dv (a + 1) c2
      rw [ey]; exact t2 x y
    · rw [if_neg c2]; exact t1 x
  · rw [if_neg c]; exact t0
/-- one step, both sides -/
theorem step_L {rv : Int32} {f3 sq : Nat → Int32} {z j a : Nat} (hl : l ≤ 240) (hb : tOK tb) (hz : z < 5) (hj : j < 16) (ha : a ≤ l) (hm1 : ∀ k, 4 * j ≤ k → k < 64 → f3 k = -1) : ((∃ q sq', q ≤ l ∧ q = skp tb l a ∧ (l ≤ q ∨ F_J0_indexOf_2 (tb q) = some (-1)) ∧ F_X10_readStep (nI l) (nI a) (-1) tb sq (nI (4 * (16 * z + j))) = some (nI q, nI q, sq') ∧ (∀ k, ¬ (4 * (16 * z + j) ≤ k ∧ k < 4 * (16 * z + j) + 4) → sq' k = sq k)) ∨
     (∃ i, i < 6 ∧ skp tb l a < l ∧ F_J0_indexOf_2 (tb (skp tb l a)) = some (nI i) ∧
       ((∃ q rv' f3' at' sq', q ≤ l ∧ F_X6_readStep tb (nI l) (nI (skp tb l a + 1)) rv f3 (nI i) (nI (j * 4)) = some (0, nI q, rv', f3') ∧ F_X10_readStep (nI l) (nI a) (-1) tb sq (nI (4 * (16 * z + j))) = some (at', nI q, sq') ∧ (∀ k, ¬ (4 * (16 * z + j) ≤ k ∧ k < 4 * (16 * z + j) + 4) → sq' k = sq k)) ∨
        (∃ p rv' f3' sq', skp tb l a < p ∧ p ≤ l ∧ F_X6_readStep tb (nI l) (nI (skp tb l a + 1)) rv f3 (nI i) (nI (j * 4)) = some (1, nI p, rv', f3') ∧ F_X10_readStep (nI l) (nI a) (-1) tb sq (nI (4 * (16 * z + j))) = some (nI p, -1, sq') ∧ (∀ k, ¬ (4 * (16 * z + j) ≤ k ∧ k < 4 * (16 * z + j) + 4) → sq' k = sq k) ∧ (∀ k, ¬ (4 * j ≤ k ∧ k < 4 * j + 4) → f3' k = f3 k) ∧ f3' (4 * j) = nI i ∧ ∀ c, c < 4 → sq' (4 * (16 * z + j) + c) = f3' (4 * j + c))))) := by
  obtain ⟨s1, s2, s3⟩ := skp_s (tb := tb) ha
  generalize hZ : 4 * (16 * z + j) = Z
  have hZ4 : Z + 4 ≤ 320 := by omega
  unfold F_X10_readStep
  rw [rAhead hl ha, pBs]
  dsimp only
  generalize hS : skp tb l a = s at s1 s2 s3
  have bad : ∀ o, F_X10_sortOf (ch tb l s) = some o → o = -1 → ((F_X10_sortOf (ch tb l s)).bind fun o_3 => (if o_3 = -1 then ((F_X10_bad (nI s) (-1)).bind fun o_52 => some ((nI s), (o_52), sq)) else none)) = some (nI s, nI s, sq) := fun o ho h => by
    subst h; rw [ho, pBs, if_pos rfl]; rfl
  by_cases hsl : s < l
  · obtain ⟨v, hv, ev⟩ := hb s
    have ech : ch tb l s = nI v := by rw [ch_in hsl]; exact ev
    rcases itm2 ⟨v, hv⟩ with q | ⟨⟨i, hi⟩, q⟩
    · left
      have q' : F_X10_sortOf (ch tb l s) = some (-1) := by rw [ech]; exact q
      refine ⟨s, sq, s2, rfl, Or.inr (by rw [ev, idx2 ⟨v, hv⟩]; exact q), ?_, fun _ _ => rfl⟩
      rw [q', pBs, if_pos rfl]; rfl
    · right
      have q' : F_X10_sortOf (ch tb l s) = some (nI i) := by rw [ech]; exact q
      refine ⟨i, hi, hsl, by rw [ev, idx2 ⟨v, hv⟩]; exact q, ?_⟩
      have hne : ¬ (nI i : Int32) = -1 := by rw [pNm (by omega)]; exact id
      have z1 : nI Z + 1 = nI (Z + 1) := nI_add Z 1
      have z2 : nI Z + 2 = nI (Z + 2) := nI_add Z 2
      have z3 : nI Z + 3 = nI (Z + 3) := nI_add Z 3
      have x0 : ¬ (nI Z < 0 ∨ 320 ≤ Z) := fun q => q.elim (nI_pos (by omega)) (fun q => by omega)
      have x1 : ¬ (nI (Z + 1) < 0 ∨ 320 ≤ Z + 1) := fun q => q.elim (nI_pos (by omega)) (fun q => by omega)
      have x2 : ¬ (nI (Z + 2) < 0 ∨ 320 ≤ Z + 2) := fun q => q.elim (nI_pos (by omega)) (fun q => by omega)
      have x3 : ¬ (nI (Z + 3) < 0 ∨ 320 ≤ Z + 3) := fun q => q.elim (nI_pos (by omega)) (fun q => by omega)
      have c0 : (nI Z).toNatClampNeg = Z := pCl (by omega)
      have c1 : (nI (Z + 1)).toNatClampNeg = Z + 1 := pCl (by omega)
      have c2 : (nI (Z + 2)).toNatClampNeg = Z + 2 := pCl (by omega)
      have c3 : (nI (Z + 3)).toNatClampNeg = Z + 3 := pCl (by omega)
      rw [q', pBs, if_neg hne, z1, z2, z3, pS1]
      simp only [if_neg x0, if_neg x1, if_neg x2, if_neg x3, c0, c1, c2, c3]
      unfold F_X6_readStep
      rw [pIx (by omega) (by omega), pCl (by omega)]
      have e0 : f3 (4 * j) = -1 := hm1 _ (by omega) (by omega)
      have e1 : f3 (4 * j + 1) = -1 := hm1 _ (by omega) (by omega)
      have e2 : f3 (4 * j + 2) = -1 := hm1 _ (by omega) (by omega)
      have e3 : f3 (4 * j + 3) = -1 := hm1 _ (by omega) (by omega)
      have j4 : j * 4 = 4 * j := Nat.mul_comm j 4
      have hi6 : i = 0 ∨ i = 1 ∨ i = 2 ∨ i = 3 ∨ i = 4 ∨ i = 5 := by omega
      have D1 := rDigit (tb := tb) (a := s + 1) hl (by omega)
      obtain ⟨t1, t2, t3⟩ := skp_s (tb := tb) (show s + 1 ≤ l by omega)
      -- one digit alone
      have one : ∀ i, i < 6 → na i = 1 → i ≠ 2 → ∀ X, X = FL_X6_readStep_7 tb (nI l) (nI (s + 1)) rv f3 (nI i) (nI (j * 4)) (998 + 1 + 1) 1 (nI (s + 1)) rv (upd f3 (j * 4) (nI i)) → ∀ Y, Y = ((F_X10_digit (nI l) (nI (s + 1)) (-1) tb).bind fun o_10 => some ((o_10.2.1), (o_10.2.2), (upd (upd (upd (upd sq Z (nI i)) (Z + 2) (-1)) (Z + 3) (-1)) (Z + 1) o_10.1))) → ((∃ q rv' f3' at' sq', q ≤ l ∧ X = some (0, nI q, rv', f3') ∧ Y = some (at', nI q, sq') ∧ (∀ k, ¬ (Z ≤ k ∧ k < Z + 4) → sq' k = sq k)) ∨ (∃ p rv' f3' sq', s < p ∧ p ≤ l ∧ X = some (1, nI p, rv', f3') ∧ Y = some (nI p, -1, sq') ∧ (∀ k, ¬ (Z ≤ k ∧ k < Z + 4) → sq' k = sq k) ∧ (∀ k, ¬ (4 * j ≤ k ∧ k < 4 * j + 4) → f3' k = f3 k) ∧ f3' (4 * j) = nI i ∧ ∀ c, c < 4 → sq' (Z + c) = f3' (4 * j + c))) := by
        intro i hi hn h2 X hX Y hY
        rw [show (1 : Int32) = nI 1 from rfl, stp_d hl hi h2 (by omega) hj (by omega)] at hX
        rw [D1] at hY
        by_cases w : dg (ch tb l (skp tb l (s + 1))) = true
        · have := dg_in w
          rw [if_pos w, stp_e hi (by omega) (by omega)] at hX
          rw [if_pos w, pBs] at hY
          right
          refine ⟨_, _, _, _, by omega, by omega, hX, hY, fun k hk => ?_, fun k hk => ?_, ?_, fun c hc => ?_⟩
          · rw [pUn (by omega), pUn (by omega), pUn (by omega), pUn (by omega)]
          · rw [pUn (by omega), pUn (by omega)]
          · rw [pUn (by omega), j4, pUs]
          · have hc4 : c = 0 ∨ c = 1 ∨ c = 2 ∨ c = 3 := by omega
            rcases hc4 with rfl | rfl | rfl | rfl
            · rw [pUn (by omega), pUn (by omega), pUn (by omega), Nat.add_zero, pUs, pUn (by omega), j4, Nat.add_zero, pUs]
            · rw [pUs, j4, pUs]
            · rw [pUn (by omega), pUn (by omega), pUs, pUn (by omega), pUn (by omega), e2]
            · rw [pUn (by omega), pUs, pUn (by omega), pUn (by omega), e3]
        · rw [if_neg w] at hX
          rw [if_neg w, pBs] at hY
          left
          exact ⟨_, _, _, _, _, t2, hX, hY, fun k hk => by rw [pUn (by omega), pUn (by omega), pUn (by omega), pUn (by omega)]⟩
      rcases hi6 with rfl | rfl | rfl | rfl | rfl | rfl
      · -- p: three digits
        show (∃ q rv' f3' at' sq', q ≤ l ∧ FL_X6_readStep_7 tb (nI l) (nI (s + 1)) rv f3 (nI 0) (nI (j * 4)) (996 + 1 + 1 + 1 + 1) (nI 1) (nI (s + 1)) rv (upd f3 (j * 4) (nI 0)) = some (0, nI q, rv', f3') ∧ ((F_X10_digit (nI l) (nI (s + 1)) (-1) tb).bind fun o_10 => ((F_X10_digit (nI l) (o_10.2.1) (o_10.2.2) tb).bind fun o_15 => ((F_X10_digit (nI l) (o_15.2.1) (o_15.2.2) tb).bind fun o_18 => some ((o_18.2.1), (o_18.2.2), (upd (upd (upd (upd (upd (upd sq Z (nI 0)) (Z + 2) (-1)) (Z + 3) (-1)) (Z + 1) o_10.1) (Z + 2) o_15.1) (Z + 3) o_18.1))))) = some (at', nI q, sq') ∧ _) ∨ (∃ p rv' f3' sq', s < p ∧ p ≤ l ∧ FL_X6_readStep_7 tb (nI l) (nI (s + 1)) rv f3 (nI 0) (nI (j * 4)) (996 + 1 + 1 + 1 + 1) (nI 1) (nI (s + 1)) rv (upd f3 (j * 4) (nI 0)) = some (1, nI p, rv', f3') ∧ ((F_X10_digit (nI l) (nI (s + 1)) (-1) tb).bind fun o_10 => ((F_X10_digit (nI l) (o_10.2.1) (o_10.2.2) tb).bind fun o_15 => ((F_X10_digit (nI l) (o_15.2.1) (o_15.2.2) tb).bind fun o_18 => some ((o_18.2.1), (o_18.2.2), (upd (upd (upd (upd (upd (upd sq Z (nI 0)) (Z + 2) (-1)) (Z + 3) (-1)) (Z + 1) o_10.1) (Z + 2) o_15.1) (Z + 3) o_18.1))))) = some (nI p, -1, sq') ∧ _)
        rw [stp_d hl (by omega) (by omega) (show 1 ≤ na 0 by decide) hj (by omega), D1]
        by_cases w : dg (ch tb l (skp tb l (s + 1))) = true
        · have l1 := dg_in w
          obtain ⟨u1, u2, u3⟩ := skp_s (tb := tb) (show skp tb l (s + 1) + 1 ≤ l by omega)
          rw [if_pos w, if_pos w, pBs]
          dsimp only
          rw [stp_d hl (by omega) (by omega) (show 1 + 1 ≤ na 0 by decide) hj (by omega), rDigit hl (by omega)]
          generalize skp tb l (skp tb l (s + 1) + 1) = s' at u1 u2 u3 ⊢
          by_cases w' : dg (ch tb l s') = true
          · have l2 := dg_in w'
            obtain ⟨y1, y2, y3⟩ := skp_s (tb := tb) (show s' + 1 ≤ l by omega)
            rw [if_pos w', if_pos w', pBs]
            dsimp only
            rw [stp_d hl (by omega) (by omega) (show 1 + 1 + 1 ≤ na 0 by decide) hj (by omega), rDigit hl (by omega)]
            generalize skp tb l (s' + 1) = s'' at y1 y2 y3 ⊢
            by_cases w'' : dg (ch tb l s'') = true
            · have l3 := dg_in w''
              rw [if_pos w'', if_pos w'', pBs, stp_e (by omega) (show na 0 < 1 + 1 + 1 + 1 by decide) (by omega)]
              right
              refine ⟨_, _, _, _, by omega, by omega, rfl, rfl, fun k hk => ?_, fun k hk => ?_, ?_, fun c hc => ?_⟩
              · rw [pUn (by omega), pUn (by omega), pUn (by omega), pUn (by omega), pUn (by omega), pUn (by omega)]
              · rw [pUn (by omega), pUn (by omega), pUn (by omega), pUn (by omega)]
              · rw [pUn (by omega), pUn (by omega), pUn (by omega), j4, pUs]
              · have hc4 : c = 0 ∨ c = 1 ∨ c = 2 ∨ c = 3 := by omega
                rcases hc4 with rfl | rfl | rfl | rfl
                · rw [pUn (by omega), pUn (by omega), pUn (by omega), pUn (by omega), pUn (by omega), Nat.add_zero, pUs, pUn (by omega), pUn (by omega), pUn (by omega), j4, Nat.add_zero, pUs]
                · rw [pUn (by omega), pUn (by omega), pUs, pUn (by omega), pUn (by omega), j4, pUs]
                · rw [pUn (by omega), pUs, pUn (by omega), j4, show 4 * j + (1 + 1) = 4 * j + 2 from rfl, pUs]
                · rw [pUs, j4, show 4 * j + (1 + 1 + 1) = 4 * j + 3 from rfl, pUs]
            · rw [if_neg w'', if_neg w'', pBs]
              left
              exact ⟨_, _, _, _, _, y2, rfl, rfl, fun k hk => by rw [pUn (by omega), pUn (by omega), pUn (by omega), pUn (by omega), pUn (by omega), pUn (by omega)]⟩
          · have hw := ne_m1 (q := s') (by omega)
            rw [if_neg w', if_neg w', pBs]
            dsimp only
            rw [rDigit_w hw, pBs]
            left
            exact ⟨_, _, _, _, _, u2, rfl, rfl, fun k hk => by rw [pUn (by omega), pUn (by omega), pUn (by omega), pUn (by omega), pUn (by omega), pUn (by omega)]⟩
        · have hw := ne_m1 (q := skp tb l (s + 1)) (by omega)
          rw [if_neg w, if_neg w, pBs]
          dsimp only
          rw [rDigit_w hw, pBs]
          dsimp only
          rw [rDigit_w hw, pBs]
          left
          exact ⟨_, _, _, _, _, t2, rfl, rfl, fun k hk => by rw [pUn (by omega), pUn (by omega), pUn (by omega), pUn (by omega), pUn (by omega), pUn (by omega)]⟩
      · exact one 1 (by omega) (by decide) (by omega) _ rfl _ rfl
      · -- t: a number of ticks
        show (∃ q rv' f3' at' sq', q ≤ l ∧ FL_X6_readStep_7 tb (nI l) (nI (s + 1)) rv f3 2 (nI (j * 4)) (998 + 1 + 1) 1 (nI (s + 1)) rv (upd f3 (j * 4) (nI 2)) = some (0, nI q, rv', f3') ∧ ((F_X10_number (nI l) (nI (s + 1)) (-1) tb (nI 2) 0 99).bind fun o_31 => some ((o_31.2.1), (o_31.2.2), (upd (upd (upd (upd sq Z (nI 2)) (Z + 2) (-1)) (Z + 3) (-1)) (Z + 1) o_31.1))) = some (at', nI q, sq') ∧ _) ∨ (∃ p rv' f3' sq', s < p ∧ p ≤ l ∧ FL_X6_readStep_7 tb (nI l) (nI (s + 1)) rv f3 2 (nI (j * 4)) (998 + 1 + 1) 1 (nI (s + 1)) rv (upd f3 (j * 4) (nI 2)) = some (1, nI p, rv', f3') ∧ ((F_X10_number (nI l) (nI (s + 1)) (-1) tb (nI 2) 0 99).bind fun o_31 => some ((o_31.2.1), (o_31.2.2), (upd (upd (upd (upd sq Z (nI 2)) (Z + 2) (-1)) (Z + 3) (-1)) (Z + 1) o_31.1))) = some (nI p, -1, sq') ∧ _)
        rw [stp_n hl hj (by omega), rNum hl (by omega) (by omega) (by omega), pBs]
        dsimp only
        have h99 := nm2_99 (tb := tb) (l := l) (a := skp tb l (s + 1)) hb t2
        have hle := nmG_le (tb := tb) (l := l) 2 (skp tb l (s + 1)) 0 t2
        unfold nmR
        generalize hSS : skp tb l (s + 1) = S at t1 t2 t3 h99 hle ⊢
        generalize hG : nmG tb l 2 S 0 = G at h99 hle ⊢
        obtain ⟨p, v0⟩ := G
        dsimp only at h99 hle ⊢
        by_cases w : dg (ch tb l S) = true
        · have hgt : S < p := by
            have e3 : nmG tb l 2 S 0 = nmG tb l 1 (S + 1) (0 * 10 + (ch tb l S - 48)) := by rw [nmG, if_pos w]
            have := dg_in w
            have := (nmG_le (tb := tb) (l := l) 1 (S + 1) (0 * 10 + (ch tb l S - 48)) (by omega)).1
            rw [← e3, hG] at this
            exact this
          by_cases w2 : dg (ch tb l p) = true
          · rw [if_neg (show ¬ (decide (S < p) && !dg (ch tb l p)) = true by simp [w2]), if_pos w, if_pos w2]
            left
            exact ⟨_, _, _, _, _, hle.2, rfl, rfl, fun k hk => by rw [pUn (by omega), pUn (by omega), pUn (by omega), pUn (by omega)]⟩
          · rw [if_pos (show (decide (S < p) && !dg (ch tb l p)) = true by simp [w2, hgt]), if_pos w, if_neg w2, if_pos h99]
            right
            refine ⟨_, _, _, _, by omega, hle.2, rfl, rfl, fun k hk => ?_, fun k hk => ?_, ?_, fun c hc => ?_⟩
            · rw [pUn (by omega), pUn (by omega), pUn (by omega), pUn (by omega)]
            · rw [pUn (by omega), pUn (by omega)]
            · rw [pUn (by omega), j4, pUs]
            · have hc4 : c = 0 ∨ c = 1 ∨ c = 2 ∨ c = 3 := by omega
              rcases hc4 with rfl | rfl | rfl | rfl
              · rw [pUn (by omega), pUn (by omega), pUn (by omega), Nat.add_zero, pUs, pUn (by omega), j4, Nat.add_zero, pUs]
              · rw [pUs, j4, pUs]
              · rw [pUn (by omega), pUn (by omega), pUs, pUn (by omega), pUn (by omega), e2]
              · rw [pUn (by omega), pUs, pUn (by omega), pUn (by omega), e3]
        · have e3 : nmG tb l 2 S 0 = (S, 0) := by rw [nmG, if_neg w]
          rw [hG] at e3
          have ep : p = S := congrArg Prod.fst e3
          rw [if_neg (show ¬ (decide (S < p) && !dg (ch tb l p)) = true by rw [decide_eq_false (by omega)]; simp), if_neg w]
          left
          exact ⟨S, _, _, _, _, t2, by rw [ep], rfl, fun k hk => by rw [pUn (by omega), pUn (by omega), pUn (by omega), pUn (by omega)]⟩
      · exact one 3 (by omega) (by decide) (by omega) _ rfl _ rfl
      · -- e: two digits
        show (∃ q rv' f3' at' sq', q ≤ l ∧ FL_X6_readStep_7 tb (nI l) (nI (s + 1)) rv f3 (nI 4) (nI (j * 4)) (997 + 1 + 1 + 1) (nI 1) (nI (s + 1)) rv (upd f3 (j * 4) (nI 4)) = some (0, nI q, rv', f3') ∧ ((F_X10_digit (nI l) (nI (s + 1)) (-1) tb).bind fun o_10 => ((F_X10_digit (nI l) (o_10.2.1) (o_10.2.2) tb).bind fun o_21 => some ((o_21.2.1), (o_21.2.2), (upd (upd (upd (upd (upd sq Z (nI 4)) (Z + 2) (-1)) (Z + 3) (-1)) (Z + 1) o_10.1) (Z + 2) o_21.1)))) = some (at', nI q, sq') ∧ _) ∨ (∃ p rv' f3' sq', s < p ∧ p ≤ l ∧ FL_X6_readStep_7 tb (nI l) (nI (s + 1)) rv f3 (nI 4) (nI (j * 4)) (997 + 1 + 1 + 1) (nI 1) (nI (s + 1)) rv (upd f3 (j * 4) (nI 4)) = some (1, nI p, rv', f3') ∧ ((F_X10_digit (nI l) (nI (s + 1)) (-1) tb).bind fun o_10 => ((F_X10_digit (nI l) (o_10.2.1) (o_10.2.2) tb).bind fun o_21 => some ((o_21.2.1), (o_21.2.2), (upd (upd (upd (upd (upd sq Z (nI 4)) (Z + 2) (-1)) (Z + 3) (-1)) (Z + 1) o_10.1) (Z + 2) o_21.1)))) = some (nI p, -1, sq') ∧ _)
        rw [stp_d hl (by omega) (by omega) (show 1 ≤ na 4 by decide) hj (by omega), D1]
        by_cases w : dg (ch tb l (skp tb l (s + 1))) = true
        · have l1 := dg_in w
          obtain ⟨u1, u2, u3⟩ := skp_s (tb := tb) (show skp tb l (s + 1) + 1 ≤ l by omega)
          rw [if_pos w, if_pos w, pBs]
          dsimp only
          rw [stp_d hl (by omega) (by omega) (show 1 + 1 ≤ na 4 by decide) hj (by omega), rDigit hl (by omega)]
          generalize skp tb l (skp tb l (s + 1) + 1) = s' at u1 u2 u3 ⊢
          by_cases w' : dg (ch tb l s') = true
          · have l2 := dg_in w'
            rw [if_pos w', if_pos w', pBs, stp_e (by omega) (show na 4 < 1 + 1 + 1 by decide) (by omega)]
            right
            refine ⟨_, _, _, _, by omega, by omega, rfl, rfl, fun k hk => ?_, fun k hk => ?_, ?_, fun c hc => ?_⟩
            · rw [pUn (by omega), pUn (by omega), pUn (by omega), pUn (by omega), pUn (by omega)]
            · rw [pUn (by omega), pUn (by omega), pUn (by omega)]
            · rw [pUn (by omega), pUn (by omega), j4, pUs]
            · have hc4 : c = 0 ∨ c = 1 ∨ c = 2 ∨ c = 3 := by omega
              rcases hc4 with rfl | rfl | rfl | rfl
              · rw [pUn (by omega), pUn (by omega), pUn (by omega), pUn (by omega), Nat.add_zero, pUs, pUn (by omega), pUn (by omega), j4, Nat.add_zero, pUs]
              · rw [pUn (by omega), pUs, pUn (by omega), j4, pUs]
              · rw [pUs, j4, show 4 * j + (1 + 1) = 4 * j + 2 from rfl, pUs]
              · rw [pUn (by omega), pUn (by omega), pUs, pUn (by omega), pUn (by omega), pUn (by omega), e3]
          · rw [if_neg w', if_neg w', pBs]
            left
            exact ⟨_, _, _, _, _, u2, rfl, rfl, fun k hk => by rw [pUn (by omega), pUn (by omega), pUn (by omega), pUn (by omega), pUn (by omega)]⟩
        · have hw := ne_m1 (q := skp tb l (s + 1)) (by omega)
          rw [if_neg w, if_neg w, pBs]
          dsimp only
          rw [rDigit_w hw, pBs]
          left
          exact ⟨_, _, _, _, _, t2, rfl, rfl, fun k hk => by rw [pUn (by omega), pUn (by omega), pUn (by omega), pUn (by omega), pUn (by omega)]⟩
      · exact one 5 (by omega) (by decide) (by omega) _ rfl _ rfl
  · left
    have q' : F_X10_sortOf (ch tb l s) = some (-1) := by rw [ch_end (by omega)]; decide
    refine ⟨s, sq, s2, rfl, Or.inl (by omega), ?_, fun _ _ => rfl⟩
    rw [q', pBs, if_pos rfl]; rfl
end
