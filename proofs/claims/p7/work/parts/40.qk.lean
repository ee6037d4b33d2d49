/-! a script read; texts taken -/
section
variable {tb : Nat → Int32} {l : Nat}
section
variable {at0 wr0 : Int32} {sq0 sl0 sq sl : Nat → Int32} {n z : Nat}
theorem rsX_w {a w : Int32} (hw : w ≠ -1) : FL_X10_readScript_19 (nI l) at0 wr0 tb sq0 sl0 (nI z) (n + 1) 0 a w sq sl = some (w, a, w, sq, sl) := by
  rw [FL_X10_readScript_19, if_pos rfl, if_neg hw]
theorem rsX_q {q : Nat} (hl : l ≤ 240) (hb : tOK tb) (hq : q < l) (h32 : ch tb l q ≠ 32) : FL_X10_readScript_19 (nI l) at0 wr0 tb sq0 sl0 (nI z) (n + 1) 0 (nI q) (-1) sq sl = some (nI q, nI q, nI q, sq, sl) := by
  rw [FL_X10_readScript_19, if_pos rfl, if_pos rfl, rAhead hl (by omega), pBs, skp_id h32]
  show (if ch tb l q = -1 then _ else (F_X10_bad (nI q) (-1)).bind _) = _
  rw [if_neg (fun w => by rw [ch_m hb] at w; omega)]
  rfl
theorem rsX_e (hl : l ≤ 240) : FL_X10_readScript_19 (nI l) at0 wr0 tb sq0 sl0 (nI z) (n + 1) 0 (nI l) (-1) sq sl = some (-1, nI l, -1, sq, sl) := by
  have h32 : ch tb l l ≠ 32 := by rw [ch_end (by omega)]; decide
  rw [FL_X10_readScript_19, if_pos rfl, if_pos rfl, rAhead hl (by omega), pBs, skp_id h32]
  show (if ch tb l l = -1 then _ else _) = _
  rw [if_pos (ch_end (by omega))]
end
def sRow (z : Nat) (f3 sq : Nat → Int32) (i : Nat) : Prop := (∃ k, k ≤ 5 ∧ f3 (4 * i) = nI k) ∧ ∀ c, c < 4 → sq (4 * (16 * z + i) + c) = f3 (4 * i + c)
def sRes (z : Nat) (sq sl : Nat → Int32) (X : Option (Int32 × Int32 × Int32 × (Nat → Int32) × Int32)) (Y : Option (Int32 × Int32 × Int32 × (Nat → Int32) × (Nat → Int32))) : Prop :=
  ∃ w a' rv' f3' ds' at' wr' sq' sl', X = some (w, a', rv', f3', ds') ∧ Y = some (w, at', wr', sq', sl') ∧ (∀ k, ¬ (64 * z ≤ k ∧ k < 64 * z + 64) → sq' k = sq k) ∧ (∀ k, k ≠ z → sl' k = sl k) ∧ (w = -1 → ∃ j, j ≤ 16 ∧ ds' = nI j ∧ sl' z = nI j ∧ ∀ i, i < j → sRow z f3' sq' i)
theorem script_L {ra0 rv0 at0 wr0 ds0 : Int32} {f30 sq0 sl0 sqA slA : Nat → Int32} {z : Nat} (hl : l ≤ 240) (hb : tOK tb) (hz : z < 5) : ∀ (k j n n' a : Nat) (rv ds : Int32) (f3 sq sl : Nat → Int32), j + k = 16 → 0 < k → k + 1 < n → k + 2 < n' → a ≤ l → sl z = nI j → (∀ i, i < j → sRow z f3 sq i) → (∀ x, 4 * j ≤ x → x < 64 → f3 x = -1) → (∀ x, ¬ (64 * z ≤ x ∧ x < 64 * z + 64) → sq x = sqA x) → (∀ x, x ≠ z → sl x = slA x) →
    sRes z sqA slA (FL_X6_readScript_15 tb (nI l) ra0 rv0 f30 ds0 n (nI j) (nI a) rv f3 ds) (FL_X10_readScript_19 (nI l) at0 wr0 tb sq0 sl0 (nI z) n' 1 (nI a) (-1) sq sl)
  | 0, j, n, n', a, rv, ds, f3, sq, sl, _, h, _, _, _, _, _, _, _, _ => absurd h (by omega)
  | k + 1, j, 0, n', a, rv, ds, f3, sq, sl, _, _, h, _, _, _, _, _, _, _ => absurd h (by omega)
  | k + 1, j, n + 1, 0, a, rv, ds, f3, sq, sl, _, _, _, h, _, _, _, _, _, _ => absurd h (by omega)
  | k + 1, j, n + 1, n' + 1, a, rv, ds, f3, sq, sl, h1, _, h2, h3, ha, hsl, hrow, hm1, hfq, hfl => by
    obtain ⟨n2, rfl⟩ : ∃ y, n' = y + 1 := ⟨n' - 1, by omega⟩
    obtain ⟨s1, s2, s3⟩ := skp_s (tb := tb) ha
    have hj : j < 16 := by omega
    have hst := step_L (tb := tb) (l := l) (rv := rv) (f3 := f3) (sq := sq) (z := z) (j := j) (a := a) hl hb hz hj ha hm1
    have e4 : (4 : Int32) * ((16 : Int32) * nI z + nI j) = nI (4 * (16 * z + j)) := by
      have q1 : (16 : Int32) * nI z = nI (16 * z) := pM 16 z
      rw [q1, nI_add]; exact pM 4 _
    have hsl' : ∀ x, x ≠ z → upd sl z (nI (j + 1)) x = slA x := fun x hx => by rw [pUn hx]; exact hfl x hx
    have xz : ¬ (nI z < 0 ∨ 5 ≤ z) := fun q => q.elim (nI_pos (by omega)) (fun q => by omega)
    rw [FL_X6_readScript_15, if_neg (fun q => by have := (pLe (a := 16) (by omega) (by omega)).mp q; omega), cSkip hl ha, pBs]
    rw [FL_X10_readScript_19, if_neg (show ¬ (1 : Int32) = 0 from by decide)]
    simp only [if_neg xz, pCl (show z < 2147483648 by omega), hsl, pUs, pS1]
    rw [e4]
    rcases hst with ⟨q, sq', q1, q2, q3, q4, q5⟩ | ⟨i, hi, g1, g2, g3⟩
    · -- no step stands there
      rw [q4, pBs]
      dsimp only
      have hw := ne_m1 (q := q) (by omega)
      rw [if_neg hw, rsX_w hw, ← q2]
      have hres : ∀ X, X = some (nI q, nI q, rv, f3, ds) → sRes z sqA slA X (some (nI q, nI q + 0, nI q, sq', upd sl z (nI (j + 1)))) := fun X hX =>
        ⟨_, _, _, _, _, _, _, _, _, hX, rfl, fun x hx => by rw [q5 x (by omega)]; exact hfq x hx, hsl', fun c => absurd c hw⟩
      by_cases ce : l ≤ q
      · rw [if_pos ((pLe (by omega) (by omega)).mpr ce)]
        exact hres _ rfl
      · have q3' := q3.resolve_left ce
        rw [if_neg (fun c => ce ((pLe (by omega) (by omega)).mp c)), pIx (by omega) (by omega), pCl (by omega), q3', pBs, if_neg (by decide)]
        exact hres _ rfl
    · rw [if_neg (fun c => by have := (pLe (by omega) (by omega)).mp c; omega), pIx (by omega) (by omega), pCl (by omega), g2, pBs, if_pos (show (0 : Int32) ≤ nI i from (pLe (a := 0) (by omega) (by omega)).mpr (by omega)), show nI j * 4 = nI (j * 4) from pM j 4]
      rcases g3 with ⟨q, rv', f3', at', sq', q1, q2, q3, q4⟩ | ⟨p, rv', f3', sq', p1, p2, p3, p4, p5, p6, p7, p8⟩
      · rw [q2, q3, pBs, pBs]
        dsimp only
        have hw := ne_m1 (q := q) (by omega)
        rw [if_pos rfl, if_neg hw, rsX_w hw]
        exact ⟨_, _, _, _, _, _, _, _, _, rfl, rfl, fun x hx => by rw [q4 x (by omega)]; exact hfq x hx, hsl', fun c => absurd c hw⟩
      · rw [p3, p4, pBs, pBs]
        dsimp only
        obtain ⟨t1, t2, t3⟩ := skp_s (tb := tb) p2
        rw [if_neg (show ¬ (1 : Int32) = 0 from by decide), if_pos rfl, cSkip hl p2, pBs, rAhead hl p2, pBs]
        dsimp only
        generalize skp tb l p = t at t1 t2 t3 ⊢
        have hfq' : ∀ x, ¬ (64 * z ≤ x ∧ x < 64 * z + 64) → sq' x = sqA x := fun x hx => by rw [p5 x (by omega)]; exact hfq x hx
        have hrow' : ∀ y, y < j + 1 → sRow z f3' sq' y := fun y hy => by
          by_cases cy : y = j
          · subst cy; exact ⟨⟨i, by omega, p7⟩, p8⟩
          · obtain ⟨⟨k0, hk0, r1⟩, r2⟩ := hrow y (by omega)
            refine ⟨⟨k0, hk0, by rw [p6 _ (by omega)]; exact r1⟩, fun c hc => ?_⟩
            rw [p5 _ (by omega), p6 _ (by omega)]; exact r2 c hc
        have hm1' : ∀ x, 4 * (j + 1) ≤ x → x < 64 → f3' x = -1 := fun x hx hx2 => by rw [p6 _ (by omega)]; exact hm1 x (by omega) hx2
        by_cases ce : t < l
        · rw [if_pos ((pLt (by omega) (by omega)).mpr ce), cStands hl t2 (by decide), pBs]
          have hw := ne_m1 (q := t) (by omega)
          by_cases c59 : ch tb l t = 59
          · rw [if_neg (show ¬ pb (decide (ch tb l t = 59)) = 0 by simp [c59, pb]), if_pos c59]
            by_cases c15 : j = 15
            · rw [if_pos (show (nI j : Int32) = 15 from by rw [c15]; rfl), if_pos (show (16 : Int32) ≤ nI (j + 1) from (pLe (a := 16) (by omega) (by omega)).mpr (by omega)), add_0, rsX_q hl hb ce t3]
              exact ⟨_, _, _, _, _, _, _, _, _, rfl, rfl, hfq', hsl', fun c => absurd c hw⟩
            · rw [if_neg (show ¬ (nI j : Int32) = 15 from fun c => c15 ((nI_eq (a := j) (b := 15) (by omega) (by omega)).mp c)), if_neg (show ¬ (16 : Int32) ≤ nI (j + 1) from fun c => by have := (pLe (a := 16) (by omega) (by omega)).mp c; omega), pS1]
              exact script_L hl hb hz k (j + 1) n (n2 + 1) (t + 1) rv' (nI (j + 1)) f3' sq' (upd sl z (nI (j + 1))) (by omega) (by omega) (by omega) (by omega) (by omega) pUs hrow' hm1' hfq' hsl'
          · rw [if_pos (show pb (decide (ch tb l t = 59)) = 0 by simp [c59, pb]), if_neg c59, add_0, rsX_q hl hb ce t3]
            exact ⟨_, _, _, _, _, _, _, _, _, rfl, rfl, hfq', hsl', fun c => absurd c hw⟩
        · obtain rfl : t = l := by omega
          rw [if_neg (fun c => by have := (pLt (by omega) (by omega)).mp c; omega), if_neg (show ¬ ch tb t t = 59 from by rw [ch_end (Nat.le_refl t)]; decide), add_0, rsX_e hl]
          exact ⟨_, _, _, _, _, _, _, _, _, rfl, rfl, hfq', hsl', fun _ => ⟨j + 1, by omega, rfl, pUs, hrow'⟩⟩
theorem fill64 {f3 : Nat → Int32} {v : Int32} : ∃ g, F_J7_fill_64 f3 v = some g ∧ ∀ k, k < 64 → g k = v := by
  unfold F_J7_fill_64
  have hl := pLoop (m := 64) (L := fun n i x => FL_J7_fill_64_5 f3 v n i x) (g := fun j x => upd x j v) (fin := id) (fun j x => ∀ k, k < j → x k = v) (fun n j x hj hI => ?_) (fun n x hI => ?_) 64 1000 0 f3 (by omega) (by omega) (fun k hk => by omega)
  · exact ⟨_, hl.1, hl.2⟩
  · refine ⟨?_, fun k hk => ?_⟩
    · show FL_J7_fill_64_5 f3 v (n + 1) (nI j) x = FL_J7_fill_64_5 f3 v n (nI (j + 1)) _
      rw [FL_J7_fill_64_5, if_neg (by rw [show (64 : Int32) = nI 64 from rfl, pLe (by omega) (by omega)]; omega), pIx (by omega) (by omega), pCl (by omega), pS1]
    · by_cases c : k = j
      · subst c; exact pUs
      · show upd x j _ k = _
        rw [pUn c]; exact hI k (by omega)
  · show FL_J7_fill_64_5 f3 v (n + 1) (nI 64) x = _
    rw [FL_J7_fill_64_5, if_pos (show (64 : Int32) ≤ nI 64 from by decide)]; rfl
theorem script_sim {ra rv ds at_ wr : Int32} {f3 sq sl : Nat → Int32} {z : Nat} (hl : l ≤ 240) (hb : tOK tb) (hz : z < 5) : sRes z sq sl (F_X6_readScript tb (nI l) ra rv f3 ds) (F_X10_readScript (nI l) at_ wr tb sq sl (nI z)) := by
  unfold F_X6_readScript F_X10_readScript
  obtain ⟨g, g1, g2⟩ := fill64 (f3 := f3) (v := -1)
  rw [g1, pBs, pIx (by omega) (by omega), pCl (by omega)]
  exact script_L (ra0 := ra) (rv0 := rv) (at0 := at_) (wr0 := wr) (ds0 := ds) (f30 := f3) (sq0 := sq) (sl0 := sl) hl hb hz 16 0 1000 1000 0 rv ds g sq (upd sl z 0) (by omega) (by omega) (by omega) (by omega) (by omega) pUs (fun i hi => by omega) (fun x _ hx => g2 x hx) (fun _ _ => rfl) (fun x hx => pUn hx)
theorem tree_sim {ra rv at_ wr rm : Int32} {fu fp rr rd : Nat → Int32} (hl : l ≤ 240) (hb : tOK tb) : tRes (F_X6_readTree tb (nI l) ra rv fu fp) (F_X10_readTree (nI l) at_ wr rm tb rr rd) := by
  unfold F_X6_readTree F_X10_readTree F_X5_clear
  rw [pBs]
  dsimp only
  have hd : ∀ i, i < 8 → va_cpy (q_tab 2) fu 0 0 8 i = q_tab 2 i := fun i hi => by
    simp only [va_cpy]; rw [if_pos (by omega), show 0 + (i - 0) = i from by omega]
  have key : ∀ (k j n : Nat) (x : Nat → Int32), j + k = 8 → k < n → (∀ i, i < j → x i = q_tab 2 i) → tRes (FL_X6_readTree_13 tb (nI l) ra rv fu fp 1000 0 0 0 rv 0 (va_cpy (q_tab 2) fu 0 0 8) fp) (FL_X10_readTree_19 (nI l) at_ wr rm tb rr rd n (nI j) 0 (-1) 0 x rd) := by
    intro k
    induction k with
    | zero =>
      intro j n x h1 h2 h3
      obtain rfl : j = 8 := by omega
      obtain ⟨n, rfl⟩ : ∃ y, n = y + 1 := ⟨n - 1, by omega⟩
      rw [FL_X10_readTree_19, if_pos (show (8 : Int32) ≤ nI 8 from by decide)]
      exact tree_L (ra0 := ra) (rv0 := rv) (at0 := at_) (wr0 := wr) (rm0 := rm) (fu0 := fu) (fp0 := fp) (rr0 := rr) (rd0 := rd) hl hb (l + 1) 0 1000 1000 0 0 0 rv (va_cpy (q_tab 2) fu 0 0 8) fp x rd (by omega) (by omega) (by omega) (by omega) (by omega) (fun _ => hd) (fun i hi => by
        rw [hd i hi, h3 i hi]
        obtain ⟨v1, v2, v3⟩ := df_s ⟨i, hi⟩
        exact ⟨rfl, d_s i, v2, v3, v1⟩) (fun d hd => by omega) (by omega)
    | succ k ih =>
      intro j n x h1 h2 h3
      obtain ⟨n, rfl⟩ : ∃ y, n = y + 1 := ⟨n - 1, by omega⟩
      rw [FL_X10_readTree_19, if_neg (by rw [show (8 : Int32) = nI 8 from rfl, pLe (by omega) (by omega)]; omega), us_s ⟨j, by omega⟩, pBs, pIx (by omega) (by omega), pCl (by omega), pS1]
      refine ih (j + 1) n _ (by omega) (by omega) (fun i hi => ?_)
      by_cases c : i = j
      · subst c; exact pUs
      · rw [pUn c]; exact h3 i (by omega)
  exact key 8 0 1000 rr (by omega) (by omega) (fun i hi => by omega)
end
