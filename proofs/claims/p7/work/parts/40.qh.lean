/-! items of a clause -/
theorem pNum_one {i m : Nat} (hi : i < m) : pNum (fun e => decide (e = i)) m = 1 := by
  have h0 : ∀ j, j ≤ i → pNum (fun e => decide (e = i)) j = 0 := by
    intro j
    induction j with
    | zero => intro _; rfl
    | succ j ih => intro h; rw [pNum_s, if_neg (fun q => absurd (of_decide_eq_true q) (by omega))]; exact ih (by omega)
  have h1 : ∀ k, pNum (fun e => decide (e = i)) (i + 1 + k) = 1 := by
    intro k
    induction k with
    | zero => rw [Nat.add_zero, pNum_s, if_pos (by simp), h0 i (Nat.le_refl i)]
    | succ k ih => rw [show i + 1 + (k + 1) = (i + 1 + k) + 1 from by omega, pNum_s, if_neg (fun q => absurd (of_decide_eq_true q) (by omega))]; exact ih
  have := h1 (m - (i + 1))
  rw [show i + 1 + (m - (i + 1)) = m from by omega] at this
  exact this
def lo_s : Nat → Nat | 0 => 1 | 1 => 1 | 2 => 1 | 3 => 1 | 4 => 1 | 5 => 20 | 6 => 10 | 7 => 1 | _ => 0
def hi_s : Nat → Nat | 0 => 4 | 1 => 9 | 2 => 9 | 3 => 5 | 4 => 9 | 5 => 200 | 6 => 99 | 7 => 9 | _ => 0
def lo_d : Nat → Nat | _ => 0
def hi_d : Nat → Nat | 0 => 4 | 1 => 2 | 2 => 9 | 3 => 1 | 4 => 99 | 5 => 3 | _ => 0

theorem itE_s : F_X10_itemOf 115 (-1) = some (-1) := by decide
theorem itS_s : F_X10_itemOf 115 59 = some (-1) := by decide
theorem loH_s : ∀ i : Fin 8, F_X10_lowest 115 (nI i.1) = some (q_tab 0 i.1) ∧ F_X10_highest 115 (nI i.1) = some (q_tab 1 i.1) := by decide
theorem rng_s : ∀ i : Fin 8, q_tab 0 i.1 = nI (lo_s i.1) ∧ q_tab 1 i.1 = nI (hi_s i.1) ∧ lo_s i.1 ≤ 200 ∧ hi_s i.1 ≤ 200 := by decide
def row_s (_e : Nat) (fi rr : Nat → Int32) : Prop := ∀ i, i < 8 → fi (i) = rr (i) ∧ ∃ v, lo_s i ≤ v ∧ v ≤ hi_s i ∧ fi (i) = nI v
/-- only these cells change -/
def frm_s (_e : Nat) (fi fi' rr rr' : Nat → Int32) : Prop := (∀ k, (∀ i, i < 8 → k ≠ i) → fi' k = fi k) ∧ ∀ k, (∀ i, i < 8 → k ≠ i) → rr' k = rr k
theorem items_s {tb : Nat → Int32} {l  : Nat} {ra0 rv0 at0 wr0 z4 : Int32} {fi0 rr0 : Nat → Int32} (hl : l ≤ 240) (hb : tOK tb) : ∀ (k n n' c a : Nat) (P : Nat → Bool) (rv : Int32) (fi rr : Nat → Int32), c + k = 8 + 1 → k < n → k < n' → c = pNum P 8 → a ≤ l → row_s 0 fi rr →
    ∃ w a' rv' fi' b w' rr', FL_X6_readItems_s_16 tb (nI l) ra0 rv0 fi0 (0) 1 n (pSet P 8) (nI c) (nI a) rv fi = some (w, nI a', rv', fi') ∧ (∀ o, F_X10_itemOf 115 (ch tb l (skp tb l a)) = some o → FL_X10_items_s_41 (nI l) at0 wr0 tb rr0 115 (0) z4 n' (pSet P 8) o (nI (skp tb l a)) (-1) rr = some (nI b, w', rr')) ∧ a' ≤ l ∧ frm_s 0 fi fi' rr rr' ∧
      ((w = -1 ∧ w' = -1 ∧ b = a' ∧ (a' = l ∨ ch tb l a' = 59) ∧ a ≤ a' ∧ row_s 0 fi' rr') ∨ (∃ q, q ≤ l ∧ w = nI q ∧ (w' = nI q ∨ (w' = -1 ∧ b = q ∧ q < l ∧ ch tb l q ≠ 59 ∧ ch tb l q ≠ 32))))
  | k, 0, n', c, a, P, rv, fi, rr, _, h, _, _, _, _ => absurd h (by omega)
  | k, n + 1, 0, c, a, P, rv, fi, rr, _, _, h, _, _, _ => absurd h (by omega)
  | 0, n + 1, n' + 1, c, a, P, rv, fi, rr, h1, h2, h3, h4, h5, hrow => by
    have := pNum_le P 8
    omega
  | k + 1, n + 1, n' + 1, c, a, P, rv, fi, rr, h1, h2, h3, h4, h5, hrow => by
    have hc := pNum_le P 8
    obtain ⟨s1, s2, s3⟩ := skp_s (tb := tb) h5
    have hf0 : frm_s 0 fi fi rr rr := ⟨fun _ _ => rfl, fun _ _ => rfl⟩
    have eX : ∀ q : Int32, FL_X10_items_s_41 (nI l) at0 wr0 tb rr0 115 (0) z4 (n' + 1) (pSet P 8) (-1) (nI (skp tb l a)) (-1) rr = some (nI (skp tb l a), -1, rr) := fun _ => by
      rw [FL_X10_items_s_41, if_pos rfl, if_pos rfl]
    rw [FL_X6_readItems_s_16, show F_J0_length_0 = some (nI 8) from by decide, pBs, if_neg (fun q => by have := (pLt (by omega) (by omega)).mp q; omega), cSkip hl h5, pBs]
    generalize hs : skp tb l a = s at s1 s2 s3 eX ⊢
    by_cases ce : l ≤ s
    · rw [if_pos ((pLe (by omega) (by omega)).mpr ce)]
      refine ⟨_, s, _, _, s, -1, rr, rfl, fun o ho => ?_, by omega, hf0, Or.inl ⟨rfl, rfl, rfl, Or.inl (by omega), by omega, hrow⟩⟩
      rw [ch_end ce, itE_s] at ho
      obtain rfl := (Option.some.inj ho).symm
      exact eX 0
    · have hsl : s < l := by omega
      rw [if_neg (fun q => ce ((pLe (by omega) (by omega)).mp q)), cStands hl s2 (by decide), pBs]
      by_cases c59 : ch tb l s = 59
      · rw [if_neg (show ¬ pb (decide (ch tb l s = 59)) = 0 by simp [c59, pb])]
        refine ⟨_, s, _, _, s, -1, rr, rfl, fun o ho => ?_, by omega, hf0, Or.inl ⟨rfl, rfl, rfl, Or.inr c59, by omega, hrow⟩⟩
        rw [c59, itS_s] at ho
        obtain rfl := (Option.some.inj ho).symm
        exact eX 0
      · rw [if_pos (show pb (decide (ch tb l s = 59)) = 0 by simp [c59, pb]), pIx (by omega) (by omega), pCl (by omega)]
        obtain ⟨v, hv, ev⟩ := hb s
        have ech : ch tb l s = nI v := by rw [ch_in hsl]; exact ev
        rw [ev, idx0 ⟨v, hv⟩, ech]
        rcases itm0 ⟨v, hv⟩ with q | ⟨⟨i, hi⟩, q, hv59⟩
        · rw [show F_X10_itemOf 115 (nI v) = some (-1) from q, pBs, if_pos (by decide)]
          refine ⟨_, s, _, _, s, -1, rr, rfl, fun o ho => ?_, by omega, hf0, Or.inr ⟨s, by omega, rfl, Or.inr ⟨rfl, rfl, hsl, c59, s3⟩⟩⟩
          obtain rfl := (Option.some.inj ho).symm
          exact eX 0
        · rw [show F_X10_itemOf 115 (nI v) = some (nI i) from q, pBs, if_neg (nI_pos (by omega)), pHas (m := 8) (by omega) (by omega)]
          have hP : (P i && decide (i < 8)) = P i := by simp [hi]
          rw [hP]
          by_cases cP : P i = true
          · rw [cP, if_pos (show (if true = true then (1 : Int32) else 0) = 1 from rfl)]
            refine ⟨_, s, _, _, s, -1, rr, rfl, fun o ho => ?_, by omega, hf0, Or.inr ⟨s, by omega, rfl, Or.inr ⟨rfl, rfl, hsl, c59, s3⟩⟩⟩
            obtain rfl := (Option.some.inj ho).symm
            rw [FL_X10_items_s_41, if_pos rfl, if_neg (by rw [pNm (by omega)]; exact id), pBit P 8 i (by omega) (by omega), hP, cP, pBs, if_neg (by decide)]
          · have cP' : P i = false := by simpa using cP
            rw [cP', if_neg (show ¬ (if false = true then (1 : Int32) else 0) = 1 from by decide), pS1, cSkip hl (by omega), pBs]
            obtain ⟨t1, t2, t3⟩ := skp_s (tb := tb) (show s + 1 ≤ l by omega)
            have hn := cNum (tb := tb) (a := skp tb l (s + 1)) (z := 3) (rv := rv) hl t2 (by omega)
            have hR := fun lo hi => rNum (tb := tb) (a := s + 1) (z := 3) (lo := lo) (hi := hi) hl (by omega) (by omega) (by omega)
            obtain ⟨l1, l2⟩ := loH_s ⟨i, hi⟩
            obtain ⟨r1, r2, r3, r4⟩ := rng_s ⟨i, hi⟩
            have r3 : lo_s i ≤ 200 := r3
            have r4 : hi_s i ≤ 200 := r4
            have r1 : q_tab 0 i = nI (lo_s i) := r1
            have r2 : q_tab 1 i = nI (hi_s i) := r2
            have eY : ∀ o, some (nI i) = some o → FL_X10_items_s_41 (nI l) at0 wr0 tb rr0 115 (0) z4 (n' + 1) (pSet P 8) o (nI s) (-1) rr = (F_X10_number (nI l) (nI (s + 1)) (-1) tb 3 (q_tab 0 i) (q_tab 1 i)).bind fun o_15 => (if (0 + nI i) < 0 ∨ 8 ≤ ((0 + nI i)).toNatClampNeg then none else (if o_15.2.2 = -1 then ((F_X10_ahead (nI l) (o_15.2.1) tb).bind fun o_19 => ((F_X10_itemOf 115 o_19.1).bind fun o_21 => FL_X10_items_s_41 (nI l) at0 wr0 tb rr0 115 (0) z4 n' (pSet P 8 ||| (1 <<< (nI i &&& 31))) o_21 o_19.2 o_15.2.2 (upd rr (0 + nI i).toNatClampNeg o_15.1))) else FL_X10_items_s_41 (nI l) at0 wr0 tb rr0 115 (0) z4 n' (pSet P 8 ||| (1 <<< (nI i &&& 31))) (-1) o_15.2.1 o_15.2.2 (upd rr (0 + nI i).toNatClampNeg o_15.1))) := fun o ho => by
              obtain rfl := (Option.some.inj ho).symm
              rw [FL_X10_items_s_41, if_pos rfl, if_neg (by rw [pNm (by omega)]; exact id), pBit P 8 i (by omega) (by omega), hP, cP', pBs, if_pos (by decide), show F_X10_lowest 115 (nI i) = _ from l1, pBs, show F_X10_highest 115 (nI i) = _ from l2, pBs, pS1]
            have ez : 0 + nI i = nI (i) := by exact pA0 i
            have hix : i < 8 := by omega
            rw [show (3 : Int32) = nI 3 from rfl] at *
            rw [hn, pBs]
            have hR' := hR (q_tab 0 i) (q_tab 1 i)
            have hle := nmG_le (tb := tb) (l := l) 3 (skp tb l (s + 1)) 0 t2
            generalize hS : skp tb l (s + 1) = S at t1 t2 t3 hn hR' hle ⊢
            generalize hG : nmG tb l 3 S 0 = G at hn hR' hle ⊢
            obtain ⟨p, x0⟩ := G
            have stop : ∀ (q : Nat) (x1 : Int32), q ≤ l → F_X10_number (nI l) (nI (s + 1)) (-1) tb (nI 3) (q_tab 0 i) (q_tab 1 i) = some (x1, nI q, nI q) → ∀ o, some (nI i) = some o → FL_X10_items_s_41 (nI l) at0 wr0 tb rr0 115 (0) z4 (n' + 1) (pSet P 8) o (nI s) (-1) rr = some (nI q, nI q, upd rr (i) x1) := fun q x1 hq hE o ho => by
              rw [eY o ho, hE, pBs]
              obtain ⟨n2, rfl⟩ : ∃ y, n' = y + 1 := ⟨n' - 1, by omega⟩
              have hqm : ¬ (nI q : Int32) = -1 := by rw [pNm (by omega)]; exact id
              show (if (0 + nI i) < 0 ∨ 8 ≤ ((0 + nI i)).toNatClampNeg then none else (if (nI q : Int32) = -1 then _ else FL_X10_items_s_41 (nI l) at0 wr0 tb rr0 115 (0) z4 (n2 + 1) (pSet P 8 ||| (1 <<< (nI i &&& 31))) (-1) (nI q) (nI q) (upd rr (0 + nI i).toNatClampNeg x1))) = _
              rw [ez, pIx hix (by omega), pCl (by omega), if_neg hqm, FL_X10_items_s_41, if_neg hqm]
            have hfr : ∀ x1, frm_s 0 fi fi rr (upd rr (i) x1) := fun x1 => ⟨fun _ _ => rfl, fun k hk => pUn (hk i hi)⟩
            unfold nmR at hR'
            rw [hG] at hR'
            by_cases w : dg (ch tb l S) = true
            · rw [if_pos w] at hR'
              have hgt : S < p := by
                have e3 : nmG tb l 3 S 0 = nmG tb l 2 (S + 1) (0 * 10 + (ch tb l S - 48)) := by rw [nmG, if_pos w]
                have := dg_in w
                have := (nmG_le (tb := tb) (l := l) 2 (S + 1) (0 * 10 + (ch tb l S - 48)) (by omega)).1
                rw [← e3, hG] at this
                exact this
              by_cases w2 : dg (ch tb l p) = true
              · rw [if_pos w2] at hR'
                show ∃ w a' rv' fi' b w' rr', (if pb (decide (S < p) && !dg (ch tb l p)) = 0 then some (nI p, nI p, x0, fi) else _) = some (w, nI a', rv', fi') ∧ _
                rw [if_pos (show pb (decide (S < p) && !dg (ch tb l p)) = 0 by simp [w2, pb])]
                exact ⟨_, p, _, _, p, nI p, _, rfl, stop p x0 hle.2 hR', hle.2, hfr _, Or.inr ⟨p, hle.2, rfl, Or.inl rfl⟩⟩
              · have w2' : dg (ch tb l p) = false := by simpa using w2
                rw [if_neg w2] at hR'
                show ∃ w a' rv' fi' b w' rr', (if pb (decide (S < p) && !dg (ch tb l p)) = 0 then some (nI p, nI p, x0, fi) else (if nI i < 0 ∨ 8 ≤ (nI i).toNatClampNeg then none else (if x0 < q_tab 0 (nI i).toNatClampNeg then some (nI p - 1, nI p, x0, fi) else (if nI i < 0 ∨ 8 ≤ (nI i).toNatClampNeg then none else (if x0 ≤ q_tab 1 (nI i).toNatClampNeg then (if (0 + nI i * 1) < 0 ∨ 8 ≤ ((0 + nI i * 1)).toNatClampNeg then none else FL_X6_readItems_s_16 tb (nI l) ra0 rv0 fi0 (0) 1 n (pSet P 8 ||| (1 <<< (nI i &&& 31))) (nI c + 1) (nI p) x0 (upd fi (0 + nI i * 1).toNatClampNeg x0)) else some (nI p - 1, nI p, x0, fi)))))) = some (w, nI a', rv', fi') ∧ _
                have ep : nI p - 1 = nI (p - 1) := by rw [show (1 : Int32) = nI 1 from rfl, pSub (by omega) (by omega)]
                rw [if_neg (show ¬ pb (decide (S < p) && !dg (ch tb l p)) = 0 by simp [w2', hgt, pb]), pIx (by omega) (by omega), pIx (by omega) (by omega), pCl (by omega), ep]
                by_cases c1 : x0 < q_tab 0 i
                · rw [if_neg (show ¬ (!decide (x0 < q_tab 0 i) && !decide (q_tab 1 i < x0)) = true by simp [c1])] at hR'
                  rw [if_pos c1]
                  exact ⟨_, p, _, _, p - 1, nI (p - 1), _, rfl, stop (p - 1) x0 (by omega) hR', hle.2, hfr _, Or.inr ⟨p - 1, by omega, rfl, Or.inl rfl⟩⟩
                · by_cases c2 : x0 ≤ q_tab 1 i
                  · have c2' : ¬ q_tab 1 i < x0 := fun q => not_le.mpr q c2
                    rw [if_pos (show (!decide (x0 < q_tab 0 i) && !decide (q_tab 1 i < x0)) = true by simp [c1, c2'])] at hR'
                    rw [if_neg c1, if_pos c2]
                    have ec : 0 + nI i * 1 = nI (i) := by rw [Int32.mul_one]; exact pA0 i
                    have hcx : i < 8 := by omega
                    rw [ec, pIx hcx (by omega), pCl (by omega), pS1, pOr (m := 8) (by omega) hi]
                    have hx0 : ∃ v0, lo_s i ≤ v0 ∧ v0 ≤ hi_s i ∧ x0 = nI v0 := by
                      have g1 : nI (lo_s i) ≤ x0 := by rw [← r1]; exact le_of_not c1
                      have g2 : x0 ≤ nI (hi_s i) := by rw [← r2]; exact c2
                      have g0 : ¬ x0 < 0 := fun q => by
                        rw [q_lt] at q; rw [q_le, nI_toInt (by omega)] at g1
                        have z0 : (0 : Int32).toInt = 0 := by decide
                        omega
                      obtain ⟨v0, hv0, rfl⟩ := nI_of g0
                      rw [pLe (by omega) hv0] at g1
                      rw [pLe hv0 (by omega)] at g2
                      exact ⟨v0, by omega, by omega, rfl⟩
                    have hrow' : row_s 0 (upd fi (i) x0) (upd rr (i) x0) := fun j hj => by
                      by_cases cj : j = i
                      · subst cj; rw [pUs, pUs]; exact ⟨rfl, hx0⟩
                      · rw [pUn (by omega), pUn (by omega)]; exact hrow j hj
                    have hnum : c + 1 = pNum (fun e => P e || decide (e = i)) 8 := by
                      rw [h4, pNum_add (p := P) (q := fun e => decide (e = i)) (r := fun e => P e || decide (e = i)) (fun d hd => ⟨rfl, by by_cases q : d = i; subst q; simp [cP']; simp [q]⟩), pNum_one hi]
                    obtain ⟨w', a', rv', fi', b, w'', rr', e1, e2, e3, e4, e5⟩ := items_s (l := l) (ra0 := ra0) (rv0 := rv0) (at0 := at0) (wr0 := wr0) (z4 := z4) (fi0 := fi0) (rr0 := rr0) hl hb k n n' (c + 1) p (fun e => P e || decide (e = i)) x0 (upd fi (i) x0) (upd rr (i) x0) (by omega) (by omega) (by omega) hnum hle.2 hrow'
                    refine ⟨w', a', rv', fi', b, w'', rr', e1, fun o ho => ?_, e3, ⟨fun k hk => (e4.1 k hk).trans (pUn (hk i hi)), fun k hk => (e4.2 k hk).trans (pUn (hk i hi))⟩, ?_⟩
                    · rw [eY o ho, hR', pBs]
                      show (if (0 + nI i) < 0 ∨ 8 ≤ ((0 + nI i)).toNatClampNeg then none else (if (-1 : Int32) = -1 then ((F_X10_ahead (nI l) (nI p) tb).bind fun o_19 => ((F_X10_itemOf 115 o_19.1).bind fun o_21 => FL_X10_items_s_41 (nI l) at0 wr0 tb rr0 115 (0) z4 n' (pSet P 8 ||| (1 <<< (nI i &&& 31))) o_21 o_19.2 (-1) (upd rr (0 + nI i).toNatClampNeg x0))) else _)) = _
                      rw [ez, pIx hix (by omega), pCl (by omega), if_pos rfl, rAhead hl hle.2, pBs, pOr (m := 8) (by omega) hi]
                      have ho' : ∃ o', F_X10_itemOf 115 (ch tb l (skp tb l p)) = some o' := by
                        by_cases q : skp tb l p < l
                        · obtain ⟨v', hv', ev'⟩ := ch_b hb q
                          rw [ev']
                          rcases itm0 ⟨v', hv'⟩ with q | ⟨⟨i', hi'⟩, q, -⟩
                          · exact ⟨_, q⟩
                          · exact ⟨_, q⟩
                        · rw [ch_end (by omega)]; exact ⟨_, itE_s⟩
                      obtain ⟨o', ho'⟩ := ho'
                      rw [ho', pBs]
                      exact e2 o' ho'
                    · rcases e5 with ⟨q1, q2, q3, q4, q5, q6⟩ | q
                      · exact Or.inl ⟨q1, q2, q3, q4, by omega, q6⟩
                      · exact Or.inr q
                  · have c2' : q_tab 1 i < x0 := not_le.mp c2
                    rw [if_neg (show ¬ (!decide (x0 < q_tab 0 i) && !decide (q_tab 1 i < x0)) = true by simp [c2'])] at hR'
                    rw [if_neg c1, if_neg c2]
                    exact ⟨_, p, _, _, p - 1, nI (p - 1), _, rfl, stop (p - 1) x0 (by omega) hR', hle.2, hfr _, Or.inr ⟨p - 1, by omega, rfl, Or.inl rfl⟩⟩
            · rw [if_neg w] at hR'
              have e3 : nmG tb l 3 S 0 = (S, 0) := by rw [nmG, if_neg w]
              rw [hG] at e3
              have ep : p = S := congrArg Prod.fst e3
              show ∃ w a' rv' fi' b w' rr', (if pb (decide (S < p) && !dg (ch tb l p)) = 0 then some (nI p, nI p, x0, fi) else _) = some (w, nI a', rv', fi') ∧ _
              rw [if_pos (show pb (decide (S < p) && !dg (ch tb l p)) = 0 by rw [decide_eq_false (by omega)]; rfl), ep]
              exact ⟨_, S, _, _, S, nI S, _, rfl, stop S _ t2 hR', t2, hfr _, Or.inr ⟨S, t2, rfl, Or.inl rfl⟩⟩

theorem itE_d : F_X10_itemOf 100 (-1) = some (-1) := by decide
theorem itS_d : F_X10_itemOf 100 59 = some (-1) := by decide
theorem loH_d : ∀ i : Fin 6, F_X10_lowest 100 (nI i.1) = some (q_tab 3 i.1) ∧ F_X10_highest 100 (nI i.1) = some (q_tab 4 i.1) := by decide
theorem rng_d : ∀ i : Fin 6, q_tab 3 i.1 = nI (lo_d i.1) ∧ q_tab 4 i.1 = nI (hi_d i.1) ∧ lo_d i.1 ≤ 200 ∧ hi_d i.1 ≤ 200 := by decide
def row_d (e : Nat) (fi rr : Nat → Int32) : Prop := ∀ i, i < 6 → fi (e + i * 8) = rr (6 * e + i) ∧ ∃ v, lo_d i ≤ v ∧ v ≤ hi_d i ∧ fi (e + i * 8) = nI v
/-- only these cells change -/
def frm_d (e : Nat) (fi fi' rr rr' : Nat → Int32) : Prop := (∀ k, (∀ i, i < 6 → k ≠ e + i * 8) → fi' k = fi k) ∧ ∀ k, (∀ i, i < 6 → k ≠ 6 * e + i) → rr' k = rr k
theorem items_d {tb : Nat → Int32} {l e : Nat} {ra0 rv0 at0 wr0 z4 : Int32} {fi0 rr0 : Nat → Int32} (hl : l ≤ 240) (hb : tOK tb) (he : e < 8) : ∀ (k n n' c a : Nat) (P : Nat → Bool) (rv : Int32) (fi rr : Nat → Int32), c + k = 6 + 1 → k < n → k < n' → c = pNum P 6 → a ≤ l → row_d e fi rr →
    ∃ w a' rv' fi' b w' rr', FL_X6_readItems_d_16 tb (nI l) ra0 rv0 fi0 (nI e) 8 n (pSet P 6) (nI c) (nI a) rv fi = some (w, nI a', rv', fi') ∧ (∀ o, F_X10_itemOf 100 (ch tb l (skp tb l a)) = some o → FL_X10_items_d_41 (nI l) at0 wr0 tb rr0 100 (nI (6 * e)) z4 n' (pSet P 6) o (nI (skp tb l a)) (-1) rr = some (nI b, w', rr')) ∧ a' ≤ l ∧ frm_d e fi fi' rr rr' ∧
      ((w = -1 ∧ w' = -1 ∧ b = a' ∧ (a' = l ∨ ch tb l a' = 59) ∧ a ≤ a' ∧ row_d e fi' rr') ∨ (∃ q, q ≤ l ∧ w = nI q ∧ (w' = nI q ∨ (w' = -1 ∧ b = q ∧ q < l ∧ ch tb l q ≠ 59 ∧ ch tb l q ≠ 32))))
  | k, 0, n', c, a, P, rv, fi, rr, _, h, _, _, _, _ => absurd h (by omega)
  | k, n + 1, 0, c, a, P, rv, fi, rr, _, _, h, _, _, _ => absurd h (by omega)
  | 0, n + 1, n' + 1, c, a, P, rv, fi, rr, h1, h2, h3, h4, h5, hrow => by
    have := pNum_le P 6
    omega
  | k + 1, n + 1, n' + 1, c, a, P, rv, fi, rr, h1, h2, h3, h4, h5, hrow => by
    have hc := pNum_le P 6
    obtain ⟨s1, s2, s3⟩ := skp_s (tb := tb) h5
    have hf0 : frm_d e fi fi rr rr := ⟨fun _ _ => rfl, fun _ _ => rfl⟩
    have eX : ∀ q : Int32, FL_X10_items_d_41 (nI l) at0 wr0 tb rr0 100 (nI (6 * e)) z4 (n' + 1) (pSet P 6) (-1) (nI (skp tb l a)) (-1) rr = some (nI (skp tb l a), -1, rr) := fun _ => by
      rw [FL_X10_items_d_41, if_pos rfl, if_pos rfl]
    rw [FL_X6_readItems_d_16, show F_J0_length_1 = some (nI 6) from by decide, pBs, if_neg (fun q => by have := (pLt (by omega) (by omega)).mp q; omega), cSkip hl h5, pBs]
    generalize hs : skp tb l a = s at s1 s2 s3 eX ⊢
    by_cases ce : l ≤ s
    · rw [if_pos ((pLe (by omega) (by omega)).mpr ce)]
      refine ⟨_, s, _, _, s, -1, rr, rfl, fun o ho => ?_, by omega, hf0, Or.inl ⟨rfl, rfl, rfl, Or.inl (by omega), by omega, hrow⟩⟩
      rw [ch_end ce, itE_d] at ho
      obtain rfl := (Option.some.inj ho).symm
      exact eX 0
    · have hsl : s < l := by omega
      rw [if_neg (fun q => ce ((pLe (by omega) (by omega)).mp q)), cStands hl s2 (by decide), pBs]
      by_cases c59 : ch tb l s = 59
      · rw [if_neg (show ¬ pb (decide (ch tb l s = 59)) = 0 by simp [c59, pb])]
        refine ⟨_, s, _, _, s, -1, rr, rfl, fun o ho => ?_, by omega, hf0, Or.inl ⟨rfl, rfl, rfl, Or.inr c59, by omega, hrow⟩⟩
        rw [c59, itS_d] at ho
        obtain rfl := (Option.some.inj ho).symm
        exact eX 0
      · rw [if_pos (show pb (decide (ch tb l s = 59)) = 0 by simp [c59, pb]), pIx (by omega) (by omega), pCl (by omega)]
        obtain ⟨v, hv, ev⟩ := hb s
        have ech : ch tb l s = nI v := by rw [ch_in hsl]; exact ev
        rw [ev, idx1 ⟨v, hv⟩, ech]
        rcases itm1 ⟨v, hv⟩ with q | ⟨⟨i, hi⟩, q, hv59⟩
        · rw [show F_X10_itemOf 100 (nI v) = some (-1) from q, pBs, if_pos (by decide)]
          refine ⟨_, s, _, _, s, -1, rr, rfl, fun o ho => ?_, by omega, hf0, Or.inr ⟨s, by omega, rfl, Or.inr ⟨rfl, rfl, hsl, c59, s3⟩⟩⟩
          obtain rfl := (Option.some.inj ho).symm
          exact eX 0
        · rw [show F_X10_itemOf 100 (nI v) = some (nI i) from q, pBs, if_neg (nI_pos (by omega)), pHas (m := 6) (by omega) (by omega)]
          have hP : (P i && decide (i < 6)) = P i := by simp [hi]
          rw [hP]
          by_cases cP : P i = true
          · rw [cP, if_pos (show (if true = true then (1 : Int32) else 0) = 1 from rfl)]
            refine ⟨_, s, _, _, s, -1, rr, rfl, fun o ho => ?_, by omega, hf0, Or.inr ⟨s, by omega, rfl, Or.inr ⟨rfl, rfl, hsl, c59, s3⟩⟩⟩
            obtain rfl := (Option.some.inj ho).symm
            rw [FL_X10_items_d_41, if_pos rfl, if_neg (by rw [pNm (by omega)]; exact id), pBit P 6 i (by omega) (by omega), hP, cP, pBs, if_neg (by decide)]
          · have cP' : P i = false := by simpa using cP
            rw [cP', if_neg (show ¬ (if false = true then (1 : Int32) else 0) = 1 from by decide), pS1, cSkip hl (by omega), pBs]
            obtain ⟨t1, t2, t3⟩ := skp_s (tb := tb) (show s + 1 ≤ l by omega)
            have hn := cNum (tb := tb) (a := skp tb l (s + 1)) (z := 3) (rv := rv) hl t2 (by omega)
            have hR := fun lo hi => rNum (tb := tb) (a := s + 1) (z := 3) (lo := lo) (hi := hi) hl (by omega) (by omega) (by omega)
            obtain ⟨l1, l2⟩ := loH_d ⟨i, hi⟩
            obtain ⟨r1, r2, r3, r4⟩ := rng_d ⟨i, hi⟩
            have r3 : lo_d i ≤ 200 := r3
            have r4 : hi_d i ≤ 200 := r4
            have r1 : q_tab 3 i = nI (lo_d i) := r1
            have r2 : q_tab 4 i = nI (hi_d i) := r2
            have eY : ∀ o, some (nI i) = some o → FL_X10_items_d_41 (nI l) at0 wr0 tb rr0 100 (nI (6 * e)) z4 (n' + 1) (pSet P 6) o (nI s) (-1) rr = (F_X10_number (nI l) (nI (s + 1)) (-1) tb 3 (q_tab 3 i) (q_tab 4 i)).bind fun o_15 => (if (nI (6 * e) + nI i) < 0 ∨ 48 ≤ ((nI (6 * e) + nI i)).toNatClampNeg then none else (if o_15.2.2 = -1 then ((F_X10_ahead (nI l) (o_15.2.1) tb).bind fun o_19 => ((F_X10_itemOf 100 o_19.1).bind fun o_21 => FL_X10_items_d_41 (nI l) at0 wr0 tb rr0 100 (nI (6 * e)) z4 n' (pSet P 6 ||| (1 <<< (nI i &&& 31))) o_21 o_19.2 o_15.2.2 (upd rr (nI (6 * e) + nI i).toNatClampNeg o_15.1))) else FL_X10_items_d_41 (nI l) at0 wr0 tb rr0 100 (nI (6 * e)) z4 n' (pSet P 6 ||| (1 <<< (nI i &&& 31))) (-1) o_15.2.1 o_15.2.2 (upd rr (nI (6 * e) + nI i).toNatClampNeg o_15.1))) := fun o ho => by
              obtain rfl := (Option.some.inj ho).symm
              rw [FL_X10_items_d_41, if_pos rfl, if_neg (by rw [pNm (by omega)]; exact id), pBit P 6 i (by omega) (by omega), hP, cP', pBs, if_pos (by decide), show F_X10_lowest 100 (nI i) = _ from l1, pBs, show F_X10_highest 100 (nI i) = _ from l2, pBs, pS1]
            have ez : nI (6 * e) + nI i = nI (6 * e + i) := by exact nI_add _ _
            have hix : 6 * e + i < 48 := by omega
            rw [show (3 : Int32) = nI 3 from rfl] at *
            rw [hn, pBs]
            have hR' := hR (q_tab 3 i) (q_tab 4 i)
            have hle := nmG_le (tb := tb) (l := l) 3 (skp tb l (s + 1)) 0 t2
            generalize hS : skp tb l (s + 1) = S at t1 t2 t3 hn hR' hle ⊢
            generalize hG : nmG tb l 3 S 0 = G at hn hR' hle ⊢
            obtain ⟨p, x0⟩ := G
            have stop : ∀ (q : Nat) (x1 : Int32), q ≤ l → F_X10_number (nI l) (nI (s + 1)) (-1) tb (nI 3) (q_tab 3 i) (q_tab 4 i) = some (x1, nI q, nI q) → ∀ o, some (nI i) = some o → FL_X10_items_d_41 (nI l) at0 wr0 tb rr0 100 (nI (6 * e)) z4 (n' + 1) (pSet P 6) o (nI s) (-1) rr = some (nI q, nI q, upd rr (6 * e + i) x1) := fun q x1 hq hE o ho => by
              rw [eY o ho, hE, pBs]
              obtain ⟨n2, rfl⟩ : ∃ y, n' = y + 1 := ⟨n' - 1, by omega⟩
              have hqm : ¬ (nI q : Int32) = -1 := by rw [pNm (by omega)]; exact id
              show (if (nI (6 * e) + nI i) < 0 ∨ 48 ≤ ((nI (6 * e) + nI i)).toNatClampNeg then none else (if (nI q : Int32) = -1 then _ else FL_X10_items_d_41 (nI l) at0 wr0 tb rr0 100 (nI (6 * e)) z4 (n2 + 1) (pSet P 6 ||| (1 <<< (nI i &&& 31))) (-1) (nI q) (nI q) (upd rr (nI (6 * e) + nI i).toNatClampNeg x1))) = _
              rw [ez, pIx hix (by omega), pCl (by omega), if_neg hqm, FL_X10_items_d_41, if_neg hqm]
            have hfr : ∀ x1, frm_d e fi fi rr (upd rr (6 * e + i) x1) := fun x1 => ⟨fun _ _ => rfl, fun k hk => pUn (hk i hi)⟩
            unfold nmR at hR'
            rw [hG] at hR'
            by_cases w : dg (ch tb l S) = true
            · rw [if_pos w] at hR'
              have hgt : S < p := by
                have e3 : nmG tb l 3 S 0 = nmG tb l 2 (S + 1) (0 * 10 + (ch tb l S - 48)) := by rw [nmG, if_pos w]
                have := dg_in w
                have := (nmG_le (tb := tb) (l := l) 2 (S + 1) (0 * 10 + (ch tb l S - 48)) (by omega)).1
                rw [← e3, hG] at this
                exact this
              by_cases w2 : dg (ch tb l p) = true
              · rw [if_pos w2] at hR'
                show ∃ w a' rv' fi' b w' rr', (if pb (decide (S < p) && !dg (ch tb l p)) = 0 then some (nI p, nI p, x0, fi) else _) = some (w, nI a', rv', fi') ∧ _
                rw [if_pos (show pb (decide (S < p) && !dg (ch tb l p)) = 0 by simp [w2, pb])]
                exact ⟨_, p, _, _, p, nI p, _, rfl, stop p x0 hle.2 hR', hle.2, hfr _, Or.inr ⟨p, hle.2, rfl, Or.inl rfl⟩⟩
              · have w2' : dg (ch tb l p) = false := by simpa using w2
                rw [if_neg w2] at hR'
                show ∃ w a' rv' fi' b w' rr', (if pb (decide (S < p) && !dg (ch tb l p)) = 0 then some (nI p, nI p, x0, fi) else (if nI i < 0 ∨ 6 ≤ (nI i).toNatClampNeg then none else (if x0 < q_tab 3 (nI i).toNatClampNeg then some (nI p - 1, nI p, x0, fi) else (if nI i < 0 ∨ 6 ≤ (nI i).toNatClampNeg then none else (if x0 ≤ q_tab 4 (nI i).toNatClampNeg then (if (nI e + nI i * 8) < 0 ∨ 48 ≤ ((nI e + nI i * 8)).toNatClampNeg then none else FL_X6_readItems_d_16 tb (nI l) ra0 rv0 fi0 (nI e) 8 n (pSet P 6 ||| (1 <<< (nI i &&& 31))) (nI c + 1) (nI p) x0 (upd fi (nI e + nI i * 8).toNatClampNeg x0)) else some (nI p - 1, nI p, x0, fi)))))) = some (w, nI a', rv', fi') ∧ _
                have ep : nI p - 1 = nI (p - 1) := by rw [show (1 : Int32) = nI 1 from rfl, pSub (by omega) (by omega)]
                rw [if_neg (show ¬ pb (decide (S < p) && !dg (ch tb l p)) = 0 by simp [w2', hgt, pb]), pIx (by omega) (by omega), pIx (by omega) (by omega), pCl (by omega), ep]
                by_cases c1 : x0 < q_tab 3 i
                · rw [if_neg (show ¬ (!decide (x0 < q_tab 3 i) && !decide (q_tab 4 i < x0)) = true by simp [c1])] at hR'
                  rw [if_pos c1]
                  exact ⟨_, p, _, _, p - 1, nI (p - 1), _, rfl, stop (p - 1) x0 (by omega) hR', hle.2, hfr _, Or.inr ⟨p - 1, by omega, rfl, Or.inl rfl⟩⟩
                · by_cases c2 : x0 ≤ q_tab 4 i
                  · have c2' : ¬ q_tab 4 i < x0 := fun q => not_le.mpr q c2
                    rw [if_pos (show (!decide (x0 < q_tab 3 i) && !decide (q_tab 4 i < x0)) = true by simp [c1, c2'])] at hR'
                    rw [if_neg c1, if_pos c2]
                    have ec : nI e + nI i * 8 = nI (e + i * 8) := by rw [show nI i * 8 = nI (i * 8) from pM i 8, nI_add]
                    have hcx : e + i * 8 < 48 := by omega
                    rw [ec, pIx hcx (by omega), pCl (by omega), pS1, pOr (m := 6) (by omega) hi]
                    have hx0 : ∃ v0, lo_d i ≤ v0 ∧ v0 ≤ hi_d i ∧ x0 = nI v0 := by
                      have g1 : nI (lo_d i) ≤ x0 := by rw [← r1]; exact le_of_not c1
                      have g2 : x0 ≤ nI (hi_d i) := by rw [← r2]; exact c2
                      have g0 : ¬ x0 < 0 := fun q => by
                        rw [q_lt] at q; rw [q_le, nI_toInt (by omega)] at g1
                        have z0 : (0 : Int32).toInt = 0 := by decide
                        omega
                      obtain ⟨v0, hv0, rfl⟩ := nI_of g0
                      rw [pLe (by omega) hv0] at g1
                      rw [pLe hv0 (by omega)] at g2
                      exact ⟨v0, by omega, by omega, rfl⟩
                    have hrow' : row_d e (upd fi (e + i * 8) x0) (upd rr (6 * e + i) x0) := fun j hj => by
                      by_cases cj : j = i
                      · subst cj; rw [pUs, pUs]; exact ⟨rfl, hx0⟩
                      · rw [pUn (by omega), pUn (by omega)]; exact hrow j hj
                    have hnum : c + 1 = pNum (fun e => P e || decide (e = i)) 6 := by
                      rw [h4, pNum_add (p := P) (q := fun e => decide (e = i)) (r := fun e => P e || decide (e = i)) (fun d hd => ⟨rfl, by by_cases q : d = i; subst q; simp [cP']; simp [q]⟩), pNum_one hi]
                    obtain ⟨w', a', rv', fi', b, w'', rr', e1, e2, e3, e4, e5⟩ := items_d (e := e) (ra0 := ra0) (rv0 := rv0) (at0 := at0) (wr0 := wr0) (z4 := z4) (fi0 := fi0) (rr0 := rr0) hl hb he k n n' (c + 1) p (fun e => P e || decide (e = i)) x0 (upd fi (e + i * 8) x0) (upd rr (6 * e + i) x0) (by omega) (by omega) (by omega) hnum hle.2 hrow'
                    refine ⟨w', a', rv', fi', b, w'', rr', e1, fun o ho => ?_, e3, ⟨fun k hk => (e4.1 k hk).trans (pUn (hk i hi)), fun k hk => (e4.2 k hk).trans (pUn (hk i hi))⟩, ?_⟩
                    · rw [eY o ho, hR', pBs]
                      show (if (nI (6 * e) + nI i) < 0 ∨ 48 ≤ ((nI (6 * e) + nI i)).toNatClampNeg then none else (if (-1 : Int32) = -1 then ((F_X10_ahead (nI l) (nI p) tb).bind fun o_19 => ((F_X10_itemOf 100 o_19.1).bind fun o_21 => FL_X10_items_d_41 (nI l) at0 wr0 tb rr0 100 (nI (6 * e)) z4 n' (pSet P 6 ||| (1 <<< (nI i &&& 31))) o_21 o_19.2 (-1) (upd rr (nI (6 * e) + nI i).toNatClampNeg x0))) else _)) = _
                      rw [ez, pIx hix (by omega), pCl (by omega), if_pos rfl, rAhead hl hle.2, pBs, pOr (m := 6) (by omega) hi]
                      have ho' : ∃ o', F_X10_itemOf 100 (ch tb l (skp tb l p)) = some o' := by
                        by_cases q : skp tb l p < l
                        · obtain ⟨v', hv', ev'⟩ := ch_b hb q
                          rw [ev']
                          rcases itm1 ⟨v', hv'⟩ with q | ⟨⟨i', hi'⟩, q, -⟩
                          · exact ⟨_, q⟩
                          · exact ⟨_, q⟩
                        · rw [ch_end (by omega)]; exact ⟨_, itE_d⟩
                      obtain ⟨o', ho'⟩ := ho'
                      rw [ho', pBs]
                      exact e2 o' ho'
                    · rcases e5 with ⟨q1, q2, q3, q4, q5, q6⟩ | q
                      · exact Or.inl ⟨q1, q2, q3, q4, by omega, q6⟩
                      · exact Or.inr q
                  · have c2' : q_tab 4 i < x0 := not_le.mp c2
                    rw [if_neg (show ¬ (!decide (x0 < q_tab 3 i) && !decide (q_tab 4 i < x0)) = true by simp [c2'])] at hR'
                    rw [if_neg c1, if_neg c2]
                    exact ⟨_, p, _, _, p - 1, nI (p - 1), _, rfl, stop (p - 1) x0 (by omega) hR', hle.2, hfr _, Or.inr ⟨p - 1, by omega, rfl, Or.inl rfl⟩⟩
            · rw [if_neg w] at hR'
              have e3 : nmG tb l 3 S 0 = (S, 0) := by rw [nmG, if_neg w]
              rw [hG] at e3
              have ep : p = S := congrArg Prod.fst e3
              show ∃ w a' rv' fi' b w' rr', (if pb (decide (S < p) && !dg (ch tb l p)) = 0 then some (nI p, nI p, x0, fi) else _) = some (w, nI a', rv', fi') ∧ _
              rw [if_pos (show pb (decide (S < p) && !dg (ch tb l p)) = 0 by rw [decide_eq_false (by omega)]; rfl), ep]
              exact ⟨_, S, _, _, S, nI S, _, rfl, stop S _ t2 hR', t2, hfr _, Or.inr ⟨S, t2, rfl, Or.inl rfl⟩⟩
