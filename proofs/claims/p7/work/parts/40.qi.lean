/-! reading a tree -/
section
variable {tb : Nat → Int32} {l : Nat}
theorem us_s : ∀ k : Fin 8, F_X10_usual 115 (nI k.1) = some (q_tab 2 k.1) := by decide
theorem us_d : ∀ k : Fin 6, F_X10_usual 100 (nI k.1) = some (q_tab 5 k.1) := by decide
def d_s : Nat → Nat | 0 => 4 | 1 => 3 | 2 => 2 | 3 => 2 | 4 => 5 | 5 => 99 | 6 => 60 | 7 => 9 | _ => 0
def d_d : Nat → Nat | 0 => 0 | 1 => 1 | 2 => 1 | 3 => 0 | 4 => 4 | 5 => 0 | _ => 0
theorem df_s : ∀ k : Fin 8, q_tab 2 k.1 = nI (d_s k.1) ∧ lo_s k.1 ≤ d_s k.1 ∧ d_s k.1 ≤ hi_s k.1 := by decide
theorem df_d : ∀ k : Fin 6, q_tab 5 k.1 = nI (d_d k.1) ∧ lo_d k.1 ≤ d_d k.1 ∧ d_d k.1 ≤ hi_d k.1 := by decide
theorem itTot_s (hb : tOK tb) (a : Nat) : ∃ o, F_X10_itemOf 115 (ch tb l a) = some o := by
  by_cases q : a < l
  · obtain ⟨v, hv, ev⟩ := ch_b hb q
    rw [ev]
    rcases itm0 ⟨v, hv⟩ with q | ⟨i, q, -⟩
    · exact ⟨_, q⟩
    · exact ⟨_, q⟩
  · rw [ch_end (by omega)]; exact ⟨_, itE_s⟩
theorem itTot_d (hb : tOK tb) (a : Nat) : ∃ o, F_X10_itemOf 100 (ch tb l a) = some o := by
  by_cases q : a < l
  · obtain ⟨v, hv, ev⟩ := ch_b hb q
    rw [ev]
    rcases itm1 ⟨v, hv⟩ with q | ⟨i, q, -⟩
    · exact ⟨_, q⟩
    · exact ⟨_, q⟩
  · rw [ch_end (by omega)]; exact ⟨_, itE_d⟩
theorem usS {rr : Nat → Int32} {a : Nat} (hl : l ≤ 240) (hb : tOK tb) (h : a ≤ l) : ∃ o rr2, F_X10_itemOf 115 (ch tb l (skp tb l a)) = some o ∧ F_X10_items_s (nI l) (nI a) (-1) tb rr 115 0 8 = FL_X10_items_s_41 (nI l) (nI a) (-1) tb rr 115 0 8 1000 0 o (nI (skp tb l a)) (-1) rr2 ∧ ∀ k, k < 8 → rr2 k = q_tab 2 k := by
  obtain ⟨o, ho⟩ := itTot_s (l := l) hb (skp tb l a)
  have key : ∀ (k j n : Nat) (x : Nat → Int32), j + k = 8 → k < n → (∀ i, i < j → x i = q_tab 2 i) → ∃ rr2, FL_X10_items_s_3 (nI l) (nI a) (-1) tb rr 115 0 8 n (nI j) (nI a) (-1) x = FL_X10_items_s_41 (nI l) (nI a) (-1) tb rr 115 0 8 1000 0 o (nI (skp tb l a)) (-1) rr2 ∧ ∀ k, k < 8 → rr2 k = q_tab 2 k := by
    intro k
    induction k with
    | zero =>
      intro j n x h1 h2 h3
      obtain rfl : j = 8 := by omega
      obtain ⟨n, rfl⟩ : ∃ y, n = y + 1 := ⟨n - 1, by omega⟩
      rw [FL_X10_items_s_3, if_pos (show (8 : Int32) ≤ nI 8 from by decide), rAhead hl h, pBs, ho, pBs]
      exact ⟨x, rfl, h3⟩
    | succ k ih =>
      intro j n x h1 h2 h3
      obtain ⟨n, rfl⟩ : ∃ y, n = y + 1 := ⟨n - 1, by omega⟩
      rw [FL_X10_items_s_3, if_neg (by rw [show (8 : Int32) = nI 8 from rfl, pLe (by omega) (by omega)]; omega), us_s ⟨j, by omega⟩, pBs, pA0, pIx (by omega) (by omega), pCl (by omega), pS1]
      refine ih (j + 1) n _ (by omega) (by omega) (fun i hi => ?_)
      by_cases c : i = j
      · subst c; exact pUs
      · rw [pUn c]; exact h3 i (by omega)
  obtain ⟨rr2, e1, e2⟩ := key 8 0 1000 rr (by omega) (by omega) (fun i hi => by omega)
  exact ⟨o, rr2, ho, e1, e2⟩
theorem usD {rd : Nat → Int32} {a e : Nat} (hl : l ≤ 240) (hb : tOK tb) (h : a ≤ l) (he : e < 8) : ∃ o rd2, F_X10_itemOf 100 (ch tb l (skp tb l a)) = some o ∧ F_X10_items_d (nI l) (nI a) (-1) tb rd 100 (nI (6 * e)) 6 = FL_X10_items_d_41 (nI l) (nI a) (-1) tb rd 100 (nI (6 * e)) 6 1000 0 o (nI (skp tb l a)) (-1) rd2 ∧ (∀ k, k < 6 → rd2 (6 * e + k) = q_tab 5 k) ∧ ∀ k, (∀ i, i < 6 → k ≠ 6 * e + i) → rd2 k = rd k := by
  obtain ⟨o, ho⟩ := itTot_d (l := l) hb (skp tb l a)
  have key : ∀ (k j n : Nat) (x : Nat → Int32), j + k = 6 → k < n → (∀ i, i < j → x (6 * e + i) = q_tab 5 i) → (∀ k, (∀ i, i < 6 → k ≠ 6 * e + i) → x k = rd k) → ∃ rd2, FL_X10_items_d_3 (nI l) (nI a) (-1) tb rd 100 (nI (6 * e)) 6 n (nI j) (nI a) (-1) x = FL_X10_items_d_41 (nI l) (nI a) (-1) tb rd 100 (nI (6 * e)) 6 1000 0 o (nI (skp tb l a)) (-1) rd2 ∧ (∀ k, k < 6 → rd2 (6 * e + k) = q_tab 5 k) ∧ ∀ k, (∀ i, i < 6 → k ≠ 6 * e + i) → rd2 k = rd k := by
    intro k
    induction k with
    | zero =>
      intro j n x h1 h2 h3 h4
      obtain rfl : j = 6 := by omega
      obtain ⟨n, rfl⟩ : ∃ y, n = y + 1 := ⟨n - 1, by omega⟩
      rw [FL_X10_items_d_3, if_pos (show (6 : Int32) ≤ nI 6 from by decide), rAhead hl h, pBs, ho, pBs]
      exact ⟨x, rfl, h3, h4⟩
    | succ k ih =>
      intro j n x h1 h2 h3 h4
      obtain ⟨n, rfl⟩ : ∃ y, n = y + 1 := ⟨n - 1, by omega⟩
      rw [FL_X10_items_d_3, if_neg (by rw [show (6 : Int32) = nI 6 from rfl, pLe (by omega) (by omega)]; omega), us_d ⟨j, by omega⟩, pBs, nI_add, pIx (by omega) (by omega), pCl (by omega), pS1]
      refine ih (j + 1) n _ (by omega) (by omega) (fun i hi => ?_) (fun k hk => ?_)
      · by_cases c : i = j
        · subst c; exact pUs
        · rw [pUn (by omega)]; exact h3 i (by omega)
      · rw [pUn (hk j (by omega))]; exact h4 k hk
  obtain ⟨rr2, e1, e2, e3⟩ := key 6 0 1000 rd (by omega) (by omega) (fun i hi => by omega) (fun _ _ => rfl)
  exact ⟨o, rr2, ho, e1, e2, e3⟩
theorem addD {fp : Nat → Int32} {e : Nat} (he : e < 8) : ∃ fp2, F_X5_addDevice (nI e) fp = some (nI (e + 1), fp2) ∧ (∀ k, k < 6 → fp2 (e + k * 8) = q_tab 5 k) ∧ ∀ k, (∀ i, i < 6 → k ≠ e + i * 8) → fp2 k = fp k := by
  unfold F_X5_addDevice
  rw [if_neg (by rw [show (8 : Int32) = nI 8 from rfl, pLe (by omega) (by omega)]; omega)]
  have key : ∀ (k j n : Nat) (x : Nat → Int32), j + k = 6 → k < n → (∀ i, i < j → x (e + i * 8) = q_tab 5 i) → (∀ k, (∀ i, i < 6 → k ≠ e + i * 8) → x k = fp k) → ∃ fp2, FL_X5_addDevice_11 (nI e) fp n (nI j) (nI e) x = some (nI (e + 1), fp2) ∧ (∀ k, k < 6 → fp2 (e + k * 8) = q_tab 5 k) ∧ ∀ k, (∀ i, i < 6 → k ≠ e + i * 8) → fp2 k = fp k := by
    intro k
    induction k with
    | zero =>
      intro j n x h1 h2 h3 h4
      obtain rfl : j = 6 := by omega
      obtain ⟨n, rfl⟩ : ∃ y, n = y + 1 := ⟨n - 1, by omega⟩
      rw [FL_X5_addDevice_11, if_pos (show (6 : Int32) ≤ nI 6 from by decide), pS1]
      exact ⟨x, rfl, h3, h4⟩
    | succ k ih =>
      intro j n x h1 h2 h3 h4
      obtain ⟨n, rfl⟩ : ∃ y, n = y + 1 := ⟨n - 1, by omega⟩
      have e8 : nI j * 8 = nI (j * 8) := pM j 8
      rw [FL_X5_addDevice_11, if_neg (by rw [show (6 : Int32) = nI 6 from rfl, pLe (by omega) (by omega)]; omega), e8, nI_add, pIx (by omega) (by omega), pIx (by omega) (by omega), pCl (by omega), pCl (by omega), pS1, Nat.add_comm (j * 8) e]
      refine ih (j + 1) n _ (by omega) (by omega) (fun i hi => ?_) (fun k hk => ?_)
      · by_cases c : i = j
        · subst c; exact pUs
        · rw [pUn (by omega)]; exact h3 i (by omega)
      · rw [pUn (hk j (by omega))]; exact h4 k hk
  exact key 6 0 1000 fp (by omega) (by omega) (fun i hi => by omega) (fun _ _ => rfl)
section
variable {at0 wr0 rm0 : Int32} {rr0 rd0 rr rd : Nat → Int32} {n : Nat} {x1 rm : Int32}
theorem rtX_w {a w : Int32} (hw : w ≠ -1) : FL_X10_readTree_45 (nI l) at0 wr0 rm0 tb rr0 rd0 (n + 1) x1 0 a w rm rr rd = some (w, a, w, rm, rr, rd) := by
  rw [FL_X10_readTree_45, if_pos rfl, if_neg hw]
theorem rtX_q {q : Nat} (hl : l ≤ 240) (hb : tOK tb) (hq : q < l) (h32 : ch tb l q ≠ 32) : FL_X10_readTree_45 (nI l) at0 wr0 rm0 tb rr0 rd0 (n + 1) x1 0 (nI q) (-1) rm rr rd = some (nI q, nI q, nI q, rm, rr, rd) := by
  rw [FL_X10_readTree_45, if_pos rfl, if_pos rfl, rAhead hl (by omega), pBs, skp_id h32]
  show (if ch tb l q = -1 then _ else (F_X10_bad (nI q) (-1)).bind _) = _
  rw [if_neg (fun w => by rw [ch_m hb] at w; omega)]
  rfl
theorem rtX_e (hl : l ≤ 240) : FL_X10_readTree_45 (nI l) at0 wr0 rm0 tb rr0 rd0 (n + 1) x1 0 (nI l) (-1) rm rr rd = if rm = 0 then some (nI l, nI l, nI l, rm, rr, rd) else some (-1, nI l, -1, rm, rr, rd) := by
  have h32 : ch tb l l ≠ 32 := by rw [ch_end (by omega)]; decide
  rw [FL_X10_readTree_45, if_pos rfl, if_pos rfl, rAhead hl (by omega), pBs, skp_id h32]
  show (if ch tb l l = -1 then (if rm = 0 then (F_X10_bad (nI l) (-1)).bind _ else _) else _) = _
  rw [if_pos (ch_end (by omega))]
  rfl
end
/-- what a reading gives -/
def tRes (X : Option (Int32 × Int32 × Int32 × Int32 × (Nat → Int32) × (Nat → Int32))) (Y : Option (Int32 × Int32 × Int32 × Int32 × (Nat → Int32) × (Nat → Int32))) : Prop :=
  ∃ w a' rv' e' fu' fp' at' wr' e'' rr' rd', X = some (w, a', rv', e', fu', fp') ∧ Y = some (w, at', wr', e'', rr', rd') ∧ (w = -1 → ∃ m, 1 ≤ m ∧ m ≤ 8 ∧ e' = nI m ∧ e'' = nI m ∧ row_s 0 fu' rr' ∧ ∀ d, d < m → row_d d fp' rd')
theorem tRes_f {w a' rv' e' at' wr' e'' : Int32} {fu' fp' rr' rd' : Nat → Int32} (hw : w ≠ -1) : tRes (some (w, a', rv', e', fu', fp')) (some (w, at', wr', e'', rr', rd')) := ⟨w, a', rv', e', fu', fp', at', wr', e'', rr', rd', rfl, rfl, fun q => absurd q hw⟩
theorem ne_m1 {q : Nat} (h : q < 2147483648) : (nI q : Int32) ≠ -1 := by rw [Ne, pNm h]; exact id
theorem add_0 (x : Int32) : x + 0 = x := Int32.add_zero x
theorem set0 : pSet (fun _ => false) 8 = 0 := by decide
theorem set06 : pSet (fun _ => false) 6 = 0 := by decide
theorem num0 : pNum (fun _ => false) 8 = 0 := by decide
theorem num06 : pNum (fun _ => false) 6 = 0 := by decide
theorem tree_L {ra0 rv0 at0 wr0 rm0 : Int32} {fu0 fp0 rr0 rd0 : Nat → Int32} (hl : l ≤ 240) (hb : tOK tb) : ∀ (k a n n' c e : Nat) (fl : Int32) (rv : Int32) (fu fp rr rd : Nat → Int32), l + 1 ≤ a + k → k + 1 < n → k + 2 < n' → c ≤ a → e ≤ 8 → (fl = 0 → ∀ i, i < 8 → fu i = q_tab 2 i) → row_s 0 fu rr → (∀ d, d < e → row_d d fp rd) → a ≤ l →
    tRes (FL_X6_readTree_13 tb (nI l) ra0 rv0 fu0 fp0 n fl (nI c) (nI a) rv (nI e) fu fp) (FL_X10_readTree_45 (nI l) at0 wr0 rm0 tb rr0 rd0 n' fl 1 (nI a) (-1) (nI e) rr rd)
  | 0, a, n, n', c, e, fl, rv, fu, fp, rr, rd, h1, _, _, _, _, _, _, _, h => absurd h (by omega)
  | k + 1, a, 0, n', c, e, fl, rv, fu, fp, rr, rd, _, h, _, _, _, _, _, _, _ => absurd h (by omega)
  | k + 1, a, n + 1, 0, c, e, fl, rv, fu, fp, rr, rd, _, _, h, _, _, _, _, _, _ => absurd h (by omega)
  | k + 1, a, n + 1, n' + 1, c, e, fl, rv, fu, fp, rr, rd, h1, h2, h3, hca, he, hdf, hrs, hrd, hal => by
    obtain ⟨n2, rfl⟩ : ∃ y, n' = y + 1 := ⟨n' - 1, by omega⟩
    obtain ⟨s1, s2, s3⟩ := skp_s (tb := tb) hal
    have hl8 : (8 ≤ (nI e : Int32)) ↔ 8 ≤ e := by rw [p8Le (by omega)]
    -- the reference, opened once
    have eY : FL_X10_readTree_45 (nI l) at0 wr0 rm0 tb rr0 rd0 (n2 + 1 + 1) fl 1 (nI a) (-1) (nI e) rr rd = (if ch tb l (skp tb l a) = 115 ∧ fl = 0 then ((F_X10_items_s (nI l) (nI (skp tb l a + 1)) (-1) tb rr (ch tb l (skp tb l a)) 0 8).bind fun o_84 => (if (o_84.2.1) = (-1) then ((F_X10_ahead (nI l) (o_84.1) tb).bind fun o_88 => (if o_88.1 = 59 then (FL_X10_readTree_45 (nI l) at0 wr0 rm0 tb rr0 rd0 (n2 + 1) 1 1 ((o_88.2) + 1) (o_84.2.1) (nI e) (o_84.2.2) rd) else (FL_X10_readTree_45 (nI l) at0 wr0 rm0 tb rr0 rd0 (n2 + 1) 1 0 ((o_88.2) + 0) (o_84.2.1) (nI e) (o_84.2.2) rd))) else (FL_X10_readTree_45 (nI l) at0 wr0 rm0 tb rr0 rd0 (n2 + 1) 1 0 ((o_84.1) + 0) (o_84.2.1) (nI e) (o_84.2.2) rd))) else if ch tb l (skp tb l a) = 100 ∧ ¬ 8 ≤ e then ((F_X10_items_d (nI l) (nI (skp tb l a + 1)) (-1) tb rd (ch tb l (skp tb l a)) (6 * nI e) 6).bind fun o_45 => (if (o_45.2.1) = (-1) then ((F_X10_ahead (nI l) (o_45.1) tb).bind fun o_49 => (if o_49.1 = 59 then (FL_X10_readTree_45 (nI l) at0 wr0 rm0 tb rr0 rd0 (n2 + 1) fl 1 ((o_49.2) + 1) (o_45.2.1) (nI e + 1) rr (o_45.2.2)) else (FL_X10_readTree_45 (nI l) at0 wr0 rm0 tb rr0 rd0 (n2 + 1) fl 0 ((o_49.2) + 0) (o_45.2.1) (nI e + 1) rr (o_45.2.2)))) else (FL_X10_readTree_45 (nI l) at0 wr0 rm0 tb rr0 rd0 (n2 + 1) fl 0 ((o_45.1) + 0) (o_45.2.1) (nI e + 1) rr (o_45.2.2)))) else some (nI (skp tb l a), nI (skp tb l a), nI (skp tb l a), nI e, rr, rd)) := by
      have hne := ne_m1 (q := skp tb l a) (by omega)
      rw [FL_X10_readTree_45, if_neg (by decide), if_pos rfl, rAhead hl hal, pBs]
      have bad : ((F_X10_bad (nI (skp tb l a)) (-1)).bind fun o_26 => (if (o_26) = (-1) then ((F_X10_ahead (nI l) (nI (skp tb l a)) tb).bind fun o_30 => (if o_30.1 = 59 then (FL_X10_readTree_45 (nI l) at0 wr0 rm0 tb rr0 rd0 (n2 + 1) fl 1 ((o_30.2) + 1) (o_26) (nI e) rr rd) else (FL_X10_readTree_45 (nI l) at0 wr0 rm0 tb rr0 rd0 (n2 + 1) fl 0 ((o_30.2) + 0) (o_26) (nI e) rr rd))) else (FL_X10_readTree_45 (nI l) at0 wr0 rm0 tb rr0 rd0 (n2 + 1) fl 0 ((nI (skp tb l a)) + 0) (o_26) (nI e) rr rd))) = some (nI (skp tb l a), nI (skp tb l a), nI (skp tb l a), nI e, rr, rd) := by
        unfold F_X10_bad
        rw [if_pos rfl, pBs, if_neg hne, add_0, rtX_w hne]
      dsimp only
      rw [bad, pS1]
      by_cases c1 : ch tb l (skp tb l a) = 115
      · have c2 : ¬ ch tb l (skp tb l a) = 100 := by rw [c1]; decide
        by_cases c3 : fl = 0
        · rw [if_pos c1, if_pos c3, if_pos (show ch tb l (skp tb l a) = 115 ∧ fl = 0 from ⟨c1, c3⟩)]
        · rw [if_neg (show ¬ (ch tb l (skp tb l a) = 115 ∧ fl = 0) from fun q => c3 q.2), if_neg (show ¬ (ch tb l (skp tb l a) = 100 ∧ ¬ 8 ≤ e) from fun q => c2 q.1), if_pos c1, if_neg c3, if_neg c2]
      · rw [if_neg (show ¬ (ch tb l (skp tb l a) = 115 ∧ fl = 0) from fun q => c1 q.1), if_neg c1]
        by_cases c2 : ch tb l (skp tb l a) = 100
        · by_cases c3 : 8 ≤ e
          · rw [if_neg (show ¬ (ch tb l (skp tb l a) = 100 ∧ ¬ 8 ≤ e) from fun q => q.2 c3), if_pos c2, if_pos (hl8.mpr c3)]
          · rw [if_pos (show ch tb l (skp tb l a) = 100 ∧ ¬ 8 ≤ e from ⟨c2, c3⟩), if_pos c2, if_neg (show ¬ (8 : Int32) ≤ nI e from fun q => c3 (hl8.mp q))]
        · rw [if_neg (show ¬ (ch tb l (skp tb l a) = 100 ∧ ¬ 8 ≤ e) from fun q => c2 q.1), if_neg c2]
    rw [eY]
    rw [FL_X6_readTree_13]
    by_cases c240 : 240 ≤ c
    · -- the program stops: all is read
      have hla : a = l := by omega
      have hsl : skp tb l a = l := by omega
      have hch : ch tb l (skp tb l a) = -1 := by rw [hsl]; exact ch_end (by omega)
      rw [if_pos (show (240 : Int32) ≤ nI c from (pLe (a := 240) (by omega) (by omega)).mpr c240), hch, if_neg (fun q => absurd q.1 (by decide)), if_neg (fun q => absurd q.1 (by decide)), hsl, hla]
      exact tRes_f (ne_m1 (by omega))
    · rw [if_neg (show ¬ (240 : Int32) ≤ nI c from fun q => c240 ((pLe (a := 240) (by omega) (by omega)).mp q)), cSkip hl hal, pBs, cStands hl s2 (by decide), pBs, cStands hl s2 (by decide), pBs]
      generalize hS : skp tb l a = s at s1 s2 s3 ⊢
      have hne := ne_m1 (q := s) (by omega)
      -- behind the items of a clause
      have behind : ∀ (fl' : Int32) (e1 : Nat) (rv' : Int32) (fu1 fp1 rr1 rd1 : Nat → Int32) (a' : Nat), e1 ≤ 8 → s < a' → a' ≤ l → (a' = l ∨ ch tb l a' = 59) → (fl' = 0 → ∀ i, i < 8 → fu1 i = q_tab 2 i) → row_s 0 fu1 rr1 → (∀ d, d < e1 → row_d d fp1 rd1) →
          tRes (if nI a' < nI l then FL_X6_readTree_13 tb (nI l) ra0 rv0 fu0 fp0 n fl' (nI c + 1) (nI a' + 1) rv' (nI e1) fu1 fp1 else ((F_X5_isTold (nI e1)).bind fun o_19 => if o_19 = 0 then some (nI a', nI a', rv', nI e1, fu1, fp1) else some (-1, nI a', rv', nI e1, fu1, fp1)))
            ((F_X10_ahead (nI l) (nI a') tb).bind fun o_88 => (if o_88.1 = 59 then (FL_X10_readTree_45 (nI l) at0 wr0 rm0 tb rr0 rd0 (n2 + 1) fl' 1 ((o_88.2) + 1) (-1) (nI e1) rr1 rd1) else (FL_X10_readTree_45 (nI l) at0 wr0 rm0 tb rr0 rd0 (n2 + 1) fl' 0 ((o_88.2) + 0) (-1) (nI e1) rr1 rd1))) := by
        intro fl' e1 rv' fu1 fp1 rr1 rd1 a' q1 q2 q3 q4 q5 q6 q7
        have h32 : ch tb l a' ≠ 32 := by
          rcases q4 with q | q
          · rw [ch_end (by omega)]; decide
          · rw [q]; decide
        rw [rAhead hl q3, pBs, skp_id h32]
        dsimp only
        by_cases cl : a' < l
        · have c59 : ch tb l a' = 59 := q4.resolve_left (by omega)
          rw [if_pos ((pLt (by omega) (by omega)).mpr cl), if_pos c59, pS1, pS1]
          exact tree_L hl hb k (a' + 1) n (n2 + 1) (c + 1) e1 fl' rv' fu1 fp1 rr1 rd1 (by omega) (by omega) (by omega) (by omega) q1 q5 q6 q7 (by omega)
        · obtain rfl : a' = l := by omega
          rw [if_neg (fun q => by have := (pLt (by omega) (by omega)).mp q; omega), if_neg (by rw [ch_end (Nat.le_refl a')]; decide), add_0, rtX_e hl]
          unfold F_X5_isTold
          by_cases ce : e1 = 0
          · subst ce
            rw [if_pos (show (nI 0 : Int32) ≤ 0 from by decide), pBs, if_pos rfl, if_pos (show nI 0 = 0 from rfl)]
            exact tRes_f (ne_m1 (by omega))
          · have n0 : ¬ (nI e1 : Int32) = 0 := by rw [show (0 : Int32) = nI 0 from rfl, pEq (by omega) (by omega)]; exact ce
            rw [if_neg (by rw [pLe0 (by omega)]; exact ce), pBs, if_neg (by decide), if_neg n0]
            exact ⟨_, _, _, _, _, _, _, _, _, _, _, rfl, rfl, fun _ => ⟨e1, by omega, q1, rfl, rfl, q6, q7⟩⟩
      -- the reference, where the items went wrong
      have wrong : ∀ (fl' : Int32) (e1 : Int32) (rr1 rd1 : Nat → Int32) (b q : Nat) (w' : Int32), q ≤ l → (w' = nI q ∨ (w' = -1 ∧ b = q ∧ q < l ∧ ch tb l q ≠ 59 ∧ ch tb l q ≠ 32)) → ∃ at' wr' rr2 rd2 e2, (if w' = (-1) then ((F_X10_ahead (nI l) (nI b) tb).bind fun o_88 => (if o_88.1 = 59 then (FL_X10_readTree_45 (nI l) at0 wr0 rm0 tb rr0 rd0 (n2 + 1) fl' 1 ((o_88.2) + 1) w' e1 rr1 rd1) else (FL_X10_readTree_45 (nI l) at0 wr0 rm0 tb rr0 rd0 (n2 + 1) fl' 0 ((o_88.2) + 0) w' e1 rr1 rd1))) else (FL_X10_readTree_45 (nI l) at0 wr0 rm0 tb rr0 rd0 (n2 + 1) fl' 0 ((nI b) + 0) w' e1 rr1 rd1)) = some (nI q, at', wr', e2, rr2, rd2) := by
        intro fl' e1 rr1 rd1 b q w' q1 q2
        rcases q2 with rfl | ⟨rfl, rfl, q3, q4, q5⟩
        · have := ne_m1 (q := q) (by omega)
          rw [if_neg this, rtX_w this]; exact ⟨_, _, _, _, _, rfl⟩
        · rw [if_pos rfl, rAhead hl (by omega), pBs, skp_id q5]
          dsimp only
          rw [if_neg q4, add_0, rtX_q hl hb q3 q5]; exact ⟨_, _, _, _, _, rfl⟩
      -- a device's clause, in the program
      have dev : tRes (if 8 ≤ nI e then some (nI s, nI s, rv, nI e, fu, fp) else ((F_X5_addDevice (nI e) fp).bind fun o_13 => ((F_X6_readItems_d tb (nI l) (nI s) rv o_13.2 (o_13.1 - 1) 8).bind fun o_15 => (if o_15.1 = -1 then (if o_15.2.1 < nI l then FL_X6_readTree_13 tb (nI l) ra0 rv0 fu0 fp0 n fl (nI c + 1) (o_15.2.1 + 1) o_15.2.2.1 o_13.1 fu o_15.2.2.2 else ((F_X5_isTold o_13.1).bind fun o_19 => if o_19 = 0 then some (o_15.2.1, o_15.2.1, o_15.2.2.1, o_13.1, fu, o_15.2.2.2) else some (-1, o_15.2.1, o_15.2.2.1, o_13.1, fu, o_15.2.2.2))) else some (o_15.1, o_15.2.1, o_15.2.2.1, o_13.1, fu, o_15.2.2.2))))) (if ¬ 8 ≤ e then ((F_X10_items_d (nI l) (nI (s + 1)) (-1) tb rd 100 (6 * nI e) 6).bind fun o_45 => (if (o_45.2.1) = (-1) then ((F_X10_ahead (nI l) (o_45.1) tb).bind fun o_49 => (if o_49.1 = 59 then (FL_X10_readTree_45 (nI l) at0 wr0 rm0 tb rr0 rd0 (n2 + 1) fl 1 ((o_49.2) + 1) (o_45.2.1) (nI e + 1) rr (o_45.2.2)) else (FL_X10_readTree_45 (nI l) at0 wr0 rm0 tb rr0 rd0 (n2 + 1) fl 0 ((o_49.2) + 0) (o_45.2.1) (nI e + 1) rr (o_45.2.2)))) else (FL_X10_readTree_45 (nI l) at0 wr0 rm0 tb rr0 rd0 (n2 + 1) fl 0 ((o_45.1) + 0) (o_45.2.1) (nI e + 1) rr (o_45.2.2)))) else some (nI s, nI s, nI s, nI e, rr, rd)) ∨ ¬ ch tb l s = 100 := by
        by_cases c100 : ch tb l s = 100
        · left
          have hsl : s < l := by
            refine Decidable.byContradiction (fun q => ?_)
            rw [ch_end (by omega)] at c100; exact absurd c100 (by decide)
          by_cases c8 : 8 ≤ e
          · rw [if_pos (hl8.mpr c8), if_neg (fun q => q c8)]; exact tRes_f hne
          · rw [if_neg (fun q => c8 (hl8.mp q)), if_pos c8]
            obtain ⟨fp2, a1, a2, a3⟩ := addD (fp := fp) (e := e) (by omega)
            obtain ⟨o, rd2, u1, u2, u3, u4⟩ := usD (tb := tb) (l := l) (rd := rd) (a := s + 1) (e := e) hl hb (by omega) (by omega)
            have e6 : (6 : Int32) * nI e = nI (6 * e) := pM 6 e
            have e1m : nI (e + 1) - 1 = nI e := by rw [show (1 : Int32) = nI 1 from rfl, pSub (by omega) (by omega)]; rfl
            have hrow : row_d e fp2 rd2 := fun i hi => by
              rw [a2 i hi, u3 i hi]
              obtain ⟨v1, v2, v3⟩ := df_d ⟨i, hi⟩
              exact ⟨rfl, d_d i, v2, v3, v1⟩
            obtain ⟨w, a', rv', fi', b, w', rr', i1, i2, i3, i4, i5⟩ := items_d (tb := tb) (l := l) (e := e) (ra0 := nI s) (rv0 := rv) (at0 := nI (s + 1)) (wr0 := -1) (z4 := 6) (fi0 := fp2) (rr0 := rd) hl hb (by omega) 7 1000 1000 0 (s + 1) (fun _ => false) rv fp2 rd2 (by omega) (by omega) (by omega) num06.symm (by omega) hrow
            rw [set06] at i1 i2
            rw [a1, pBs]
            dsimp only
            unfold F_X6_readItems_d
            rw [e1m, pS1, show FL_X6_readItems_d_16 tb (nI l) (nI s) rv fp2 (nI e) 8 1000 0 0 (nI (s + 1)) rv fp2 = _ from i1, pBs, e6, u2, i2 o u1, pBs]
            dsimp only
            have hrd' : ∀ d, d < e → row_d d fi' rr' := fun d hd i hi => by
              have k1 : fi' (d + i * 8) = fp (d + i * 8) := by
                rw [i4.1 _ (fun j hj => by omega), a3 _ (fun j hj => by omega)]
              have k2 : rr' (6 * d + i) = rd (6 * d + i) := by
                rw [i4.2 _ (fun j hj => by omega), u4 _ (fun j hj => by omega)]
              rw [k1, k2]; exact hrd d hd i hi
            rcases i5 with ⟨rfl, rfl, rfl, p4, p5, p6⟩ | ⟨q, p1, rfl, p3⟩
            · rw [if_pos rfl, if_pos rfl, show nI e + 1 = nI (e + 1) from pS1 e]
              refine behind fl (e + 1) rv' fu fi' rr rr' b (by omega) (by omega) i3 p4 hdf hrs (fun d hd => ?_)
              by_cases cd : d = e
              · subst cd; exact p6
              · exact hrd' d (by omega)
            · have := ne_m1 (q := q) (by omega)
              rw [if_neg this]
              obtain ⟨at', wr', rr2, rd2', e2, ew⟩ := wrong fl (nI e + 1) rr rr' b q w' p1 p3
              rw [ew]; exact tRes_f this
        · exact Or.inr c100
      -- all other
      have other : tRes (some (nI s, nI s, rv, nI e, fu, fp)) (some (nI s, nI s, nI s, nI e, rr, rd)) := tRes_f hne
      by_cases c115 : ch tb l s = 115
      · have hsl : s < l := by
          refine Decidable.byContradiction (fun q => ?_)
          rw [ch_end (by omega)] at c115; exact absurd c115 (by decide)
        rw [c115]
        rw [if_neg (show ¬ pb (decide ((115 : Int32) = 115)) = 0 from by decide)]
        by_cases cf : fl = 0
        · subst cf
          rw [if_pos rfl, if_pos ⟨rfl, rfl⟩]
          obtain ⟨o, rr2, u1, u2, u3⟩ := usS (tb := tb) (l := l) (rr := rr) (a := s + 1) hl hb (by omega)
          have hrow : row_s 0 fu rr2 := fun i hi => by
            rw [hdf rfl i hi, u3 i hi]
            obtain ⟨v1, v2, v3⟩ := df_s ⟨i, hi⟩
            exact ⟨rfl, d_s i, v2, v3, v1⟩
          obtain ⟨w, a', rv', fi', b, w', rr', i1, i2, i3, i4, i5⟩ := items_s (tb := tb) (l := l) (ra0 := nI s) (rv0 := rv) (at0 := nI (s + 1)) (wr0 := -1) (z4 := 8) (fi0 := fu) (rr0 := rr) hl hb 9 1000 1000 0 (s + 1) (fun _ => false) rv fu rr2 (by omega) (by omega) (by omega) num0.symm (by omega) hrow
          rw [set0] at i1 i2
          unfold F_X6_readItems_s
          rw [pS1, show FL_X6_readItems_s_16 tb (nI l) (nI s) rv fu 0 1 1000 0 0 (nI (s + 1)) rv fu = _ from i1, pBs, u2, i2 o u1, pBs]
          dsimp only
          rcases i5 with ⟨rfl, rfl, rfl, p4, p5, p6⟩ | ⟨q, p1, rfl, p3⟩
          · rw [if_pos rfl, if_pos rfl]
            exact behind 1 e rv' fi' fp rr' rd b he (by omega) i3 p4 (fun q => absurd q (by decide)) p6 hrd
          · have := ne_m1 (q := q) (by omega)
            rw [if_neg this]
            obtain ⟨at', wr', rr2, rd2', e2, ew⟩ := wrong 1 (nI e) rr' rd b q w' p1 p3
            rw [ew]; exact tRes_f this
        · rw [if_neg cf, if_pos (show pb (decide ((115 : Int32) = 100)) = 0 from by decide), if_neg (show ¬ ((115 : Int32) = 115 ∧ fl = 0) from fun q => cf q.2), if_neg (show ¬ ((115 : Int32) = 100 ∧ ¬ 8 ≤ e) from fun q => absurd q.1 (by decide))]
          exact other
      · rw [if_pos (show pb (decide (ch tb l s = 115)) = 0 by simp [c115, pb]), if_neg (show ¬ (ch tb l s = 115 ∧ fl = 0) from fun q => c115 q.1)]
        by_cases c100 : ch tb l s = 100
        · rw [c100]
          rw [if_neg (show ¬ pb (decide ((100 : Int32) = 100)) = 0 from by decide)]
          have hd := dev.resolve_right (fun q => q c100)
          by_cases c8 : 8 ≤ e
          · rw [if_neg (show ¬ ¬ 8 ≤ e from fun q => q c8)] at hd
            rw [if_neg (show ¬ ((100 : Int32) = 100 ∧ ¬ 8 ≤ e) from fun q => q.2 c8)]; exact hd
          · rw [if_pos (show ¬ 8 ≤ e from c8)] at hd
            rw [if_pos (show (100 : Int32) = 100 ∧ ¬ 8 ≤ e from ⟨rfl, c8⟩)]; exact hd
        · rw [if_pos (show pb (decide (ch tb l s = 100)) = 0 by simp [c100, pb]), if_neg (show ¬ (ch tb l s = 100 ∧ ¬ 8 ≤ e) from fun q => c100 q.1)]
          exact other
end
