/-! supply -/
theorem le_of_not {a b : Int32} (h : ¬ a < b) : b ≤ a := by rw [q_lt] at h; rw [q_le]; omega
theorem not_le {a b : Int32} : ¬ a ≤ b ↔ b < a := by rw [q_lt, q_le]; omega
theorem lt_le {a b c : Int32} (h : a < b) (h' : b ≤ c) : a < c := by rw [q_lt] at *; rw [q_le] at h'; omega
theorem le_rfl32 (a : Int32) : a ≤ a := by rw [q_le]; omega
theorem grd_c {m : Nat} {T : Nat → Nat → Int32} {N : Nat → Int32} {z : Int32} (hm : m ≤ 8) : (zGrd m T N z = -1 ∧ ∀ d, d < m → ¬ (N d = 6 ∧ N (32 + d) = z)) ∨ ∃ g, g < m ∧ zGrd m T N z = nI g ∧ N g = 6 ∧ N (32 + g) = z ∧ ∀ d, d < m → N d = 6 → N (32 + d) = z → zTakes T N d ≤ zTakes T N g := by
  have := pF_inv (g := zGf T N z) (fun j b => (b = -1 ∧ ∀ d, d < j → ¬ (N d = 6 ∧ N (32 + d) = z)) ∨ ∃ g, g < m ∧ b = nI g ∧ N g = 6 ∧ N (32 + g) = z ∧ ∀ d, d < j → N d = 6 → N (32 + d) = z → zTakes T N d ≤ zTakes T N g) m 0 (-1) (fun i a _ hi hI => ?_) (Or.inl ⟨rfl, fun d hd => by omega⟩)
  · rw [Nat.zero_add] at this; exact this
  · unfold zGf
    by_cases c : N i = 6 ∧ N (32 + i) = z
    · rw [if_pos c]
      rcases hI with ⟨h1, h2⟩ | ⟨g, hg, h1, h2, h3, h4⟩
      · rw [if_pos h1]
        refine Or.inr ⟨i, by omega, rfl, c.1, c.2, fun d hd e1 e2 => ?_⟩
        by_cases ce : d = i
        · subst ce; exact le_rfl32 _
        · exact absurd ⟨e1, e2⟩ (h2 d (by omega))
      · rw [h1, if_neg (by rw [pNm (by omega)]; exact id), pCl (by omega)]
        by_cases c2 : zTakes T N i < zTakes T N g
        · rw [if_pos c2]
          refine Or.inr ⟨g, hg, rfl, h2, h3, fun d hd e1 e2 => ?_⟩
          by_cases ce : d = i
          · subst ce; rw [q_lt] at c2; rw [q_le]; omega
          · exact h4 d (by omega) e1 e2
        · rw [if_neg c2]
          refine Or.inr ⟨i, by omega, rfl, c.1, c.2, fun d hd e1 e2 => ?_⟩
          by_cases ce : d = i
          · subst ce; exact le_rfl32 _
          · have := h4 d (by omega) e1 e2
            rw [q_lt] at c2; rw [q_le] at this ⊢; omega
    · rw [if_neg c]
      rcases hI with ⟨h1, h2⟩ | ⟨g, hg, h1, h2, h3, h4⟩
      · refine Or.inl ⟨h1, fun d hd => ?_⟩
        by_cases ce : d = i
        · subst ce; exact c
        · exact h2 d (by omega)
      · refine Or.inr ⟨g, hg, h1, h2, h3, fun d hd e1 e2 => ?_⟩
        by_cases ce : d = i
        · subst ce; exact absurd ⟨e1, e2⟩ c
        · exact h4 d (by omega) e1 e2
theorem much_g {m : Nat} {R : Nat → Int32} {T : Nat → Nat → Int32} {N : Nat → Int32} {h g : Nat} (hm : m ≤ 8) (hh : h < m) (hs : N (72 + h) = 0) (hg : g < m) (g6 : N g = 6) (gh : N (32 + g) = nI h) (hmax : ∀ d, d < m → N d = 6 → N (32 + d) = nI h → zTakes T N d ≤ zTakes T N g) : zMuch m R T N h = true ↔ (zGv R N (nI h) < zTakes T N g ∨ zLeft m R T N h (-1) < 0) := by
  have key : pFd (zMp R T N (nI h)) m 0 = -1 ↔ ¬ zGv R N (nI h) < zTakes T N g := by
    rcases pFd_cases (zMp R T N (nI h)) m 0 with ⟨h1, h2⟩ | ⟨i, -, hi, h1, h2, -⟩
    · refine ⟨fun _ q => ?_, fun _ => h1⟩
      have h3 := h2 g (by omega) (by omega)
      unfold zMp zRt at h3
      have : ¬ zTakes T N g ≤ zGv R N (nI h) := not_le.mpr q
      have g0 : ¬ N g = 0 := by rw [g6]; decide
      simp [g6, gh, this] at h3
    · refine ⟨fun q => ?_, fun q => ?_⟩
      · rw [h1] at q
        have := pNm (a := i) (by omega)
        rw [this] at q; exact q.elim
      · exfalso
        unfold zMp zRt at h2
        simp only [Bool.and_eq_true, Bool.not_eq_true', decide_eq_true_eq, decide_eq_false_iff_not] at h2
        exact q (lt_le (not_le.mp h2.2) (hmax i (by omega) h2.1.2 h2.1.1.2))
  unfold zMuch
  have h8 : ¬ h = 8 := by omega
  have hs1 : ¬ N (72 + h) = 1 := by rw [hs]; decide
  by_cases c : zGv R N (nI h) < zTakes T N g
  · have : ¬ pFd (zMp R T N (nI h)) m 0 = -1 := fun q => key.mp q c
    simp [this, c]
  · have := key.mpr c
    simp [this, c, h8, hs1]
/-- refusing the greediest, so many times at most -/
def zMore (m : Nat) (R : Nat → Int32) (T : Nat → Nat → Int32) (N : Nat → Int32) (d : Nat) : Prop := zGrd m T N (nI d) ≠ -1 ∧ (zGv R N (nI d) < zTakes T N (zGrd m T N (nI d)).toNatClampNeg ∨ zLeft m R T N d (-1) < 0)
def zMoreI (m : Nat) (R : Nat → Int32) (T : Nat → Nat → Int32) (N : Nat → Int32) (d : Nat) : Decidable (zMore m R T N d) := by unfold zMore; infer_instance
def nShed (m : Nat) (R : Nat → Int32) (T : Nat → Nat → Int32) (d : Nat) : Nat → (Nat → Int32) → Nat → Int32
  | 0, N => N
  | k + 1, N => @ite (Nat → Int32) (zMore m R T N d) (zMoreI m R T N d) (nShed m R T d k (nRefuse m N (zGrd m T N (nI d)).toNatClampNeg 2)) N
theorem cShedL {m : Nat} {fr fu fp : Nat → Int32} {d : Nat} (hm : m ≤ 8) (hd : d < m) : ∀ (k n x : Nat) (f : Nat → Int32), x + k = 8 → k < n → ∃ g, FL_X0_shed_2 fr (nI m) fu fp (nI d) n (nI x) f = some g ∧ nz g = nShed m fu (tP m fp) d k (nz f) ∧ nf g = nf f
  | 0, 0, x, f, _, h => absurd h (by omega)
  | 0, n + 1, x, f, h1, _ => by
    obtain rfl : x = 8 := by omega
    exact ⟨f, by simp (disch := omega) only [FL_X0_shed_2, pIx, pCl, pLe, pLt, pEq, pNm, pS1, pA0, pA8, pA16, pA24, pA32, pA40, pA48, pA56, pA64, pA72, pA80, pA88, pBs, pE8, pb0, pb1, pbo, if_true, if_false, pIy, pbq, pNz, pIw]; rfl, rfl, rfl⟩
  | k + 1, 0, x, f, _, h => absurd h (by omega)
  | k + 1, n + 1, x, f, h1, h2 => by
    unfold nShed
    rw [FL_X0_shed_2]
    have x8 : ¬ (8 : Int32) ≤ nI x := by rw [p8Le (by omega)]; omega
    rw [if_neg x8, (cGreed hm).1, pBs]
    rcases grd_c (m := m) (T := tP m fp) (N := nz f) (z := nI d) hm with ⟨e1, e2⟩ | ⟨g, hg, e1, e2, e3, e4⟩
    · have : ¬ zMore m fu (tP m fp) (nz f) d := fun q => q.1 e1
      rw [if_pos e1, if_neg this]
      exact ⟨f, rfl, rfl, rfl⟩
    · have hne : ¬ (nI g : Int32) = -1 := by rw [pNm (by omega)]; exact id
      have hm' : zMore m fu (tP m fp) (nz f) d ↔ (zGv fu (nz f) (nI d) < zTakes (tP m fp) (nz f) g ∨ zLeft m fu (tP m fp) (nz f) d (-1) < 0) := by
        unfold zMore; rw [e1, pCl (by omega)]; exact ⟨fun q => q.2, fun q => ⟨hne, q⟩⟩
      rw [e1, if_neg hne, pCl (by omega)]
      obtain ⟨y, y1, y2, y3⟩ := cShedL (fr := fr) (fu := fu) (fp := fp) hm hd k n (x + 1) (nRefuse m f g 2) (by omega) (by omega)
      rw [nRefuse_nz hm (by omega)] at y2
      rw [nRefuse_nf hm (by omega)] at y3
      simp (disch := omega) only [cTakes, cGives, cLeft hm, cRefuse hm, pBs, pS1, y1]
      by_cases c : zGv fu (nz f) (nI d) < zTakes (tP m fp) (nz f) g
      · rw [if_pos c, if_pos (hm'.mpr (Or.inl c))]
        exact ⟨y, rfl, y2, y3⟩
      · rw [if_neg c]
        by_cases c2 : zLeft m fu (tP m fp) (nz f) d (-1) < 0
        · rw [if_pos c2, if_pos (hm'.mpr (Or.inr c2))]
          exact ⟨y, rfl, y2, y3⟩
        · rw [if_neg c2, if_neg (fun q => (hm'.mp q).elim c c2)]
          exact ⟨f, rfl, rfl, rfl⟩
theorem cShed {m : Nat} {fr fu fp : Nat → Int32} {d : Nat} (hm : m ≤ 8) (hd : d < m) : ∃ g, F_X0_shed fr (nI m) fu fp (nI d) = some g ∧ nz g = nShed m fu (tP m fp) d 8 (nz fr) ∧ nf g = nf fr :=
  cShedL hm hd 8 1000 0 fr (by omega) (by omega)
theorem pNum_lt {p q : Nat → Bool} {m g : Nat} (hg : g < m) (hpg : p g = false) (hqg : q g = true) (h : ∀ d, d < m → p d = true → q d = true) : pNum p m < pNum q m := by
  have := pNum_add (m := m) (p := p) (q := fun d => q d && !p d) (r := q) (fun d hd => by
    have := h d hd
    by_cases c : p d = true
    · simp [c, this c]
    · simp [c])
  have h1 : 0 < pNum (fun d => q d && !p d) m := by
    have key : ∀ (k j a : Nat), j ≤ g → g < j + k → a < pF (fun d (a : Nat) => if (q d && !p d) = true then a + 1 else a) k j a := by
      intro k
      induction k with
      | zero => intro j a h1 h2; omega
      | succ k ih =>
        intro j a h1 h2
        show a < pF _ k (j + 1) (if (q j && !p j) = true then a + 1 else a)
        have mono : ∀ (k j a : Nat), a ≤ pF (fun d (a : Nat) => if (q d && !p d) = true then a + 1 else a) k j a := by
          intro k
          induction k with
          | zero => intro j a; exact Nat.le_refl a
          | succ k ih2 =>
            intro j a
            show a ≤ pF _ k (j + 1) (if (q j && !p j) = true then a + 1 else a)
            refine Nat.le_trans ?_ (ih2 _ _)
            split <;> omega
        by_cases c : j = g
        · subst c
          rw [if_pos (by simp [hpg, hqg])]
          exact mono k (j + 1) (a + 1)
        · refine Nat.lt_of_le_of_lt ?_ (ih (j + 1) _ (by omega) (by omega))
          split <;> omega
    exact key m 0 0 (by omega) (by omega)
  omega
def zMs (m : Nat) (N : Nat → Int32) (d : Nat) : Nat := pNum (fun e => decide (N e = 6) && decide (N (32 + e) = nI d)) m
theorem ms_lt {m : Nat} {N : Nat → Int32} {d g : Nat} {why : Int32} (hm : m ≤ 8) (hg : g < m) (g6 : N g = 6) (gh : N (32 + g) = nI d) (h7 : nRefuse m N g why g ≠ 6) : zMs m (nRefuse m N g why) d < zMs m N d := by
  unfold zMs
  refine pNum_lt hg ?_ ?_ (fun e he q => ?_)
  · simp [h7]
  · simp [g6, gh]
  · simp only [Bool.and_eq_true, decide_eq_true_eq] at q ⊢
    have := nRefuse_k6 (N := N) (why := why) hm hg e he q.1
    rw [nRefuse_hp (k := 32 + e) hm (by omega) (Or.inl ⟨by omega, by omega⟩)] at q
    exact ⟨this.1, q.2⟩
theorem nRefuse_g {m : Nat} {T : Nat → Nat → Int32} {N : Nat → Int32} {g : Nat} {why : Int32} (hm : m ≤ 8) (h : iT m T N) (hg : g < m) (h0 : N g ≠ 0) : nRefuse m N g why g ≠ 6 := by
  obtain ⟨-, -, -, hE, -⟩ := nRefuse_I (why := why) hm hg h.2.2 ⟨h.1.1, h.1.2.1⟩ h0
  by_cases c : g < m ∧ zHang (nRef0 N g why) g (nI g) = true ∧ runs36 (nRef0 N g why g)
  · rw [(hE g hg).1 c]; decide
  · rw [(hE g hg).2 c, nRef0_0 (by omega)]; decide
theorem nShed_0 {m : Nat} {R : Nat → Int32} {T : Nat → Nat → Int32} {N : Nat → Int32} {d k : Nat} (h : zGrd m T N (nI d) = -1) : nShed m R T d k N = N := by
  cases k with
  | zero => rfl
  | succ k => unfold nShed; rw [if_neg (fun q => q.1 h)]
theorem nRefuse_iU {m : Nat} {R : Nat → Int32} {T : Nat → Nat → Int32} {N : Nat → Int32} {d : Nat} {why : Int32} (hm : m ≤ 8) (h : iU m R T N) (hd : d < m) (h0 : N d ≠ 0) : iU m R T (nRefuse m N d why) :=
  ⟨nRefuse_iT hm h.1 hd h0, h.2.1.keep hm (fun k h1 h2 => nRefuse_hp hm (by omega) (Or.inl ⟨h1, h2⟩)), h.2.2.keep (nRefuse_k7 hm hd)⟩
theorem nShed_iU {m : Nat} {R : Nat → Int32} {T : Nat → Nat → Int32} {d : Nat} (hm : m ≤ 8) : ∀ (k : Nat) (N : Nat → Int32), iU m R T N → iU m R T (nShed m R T d k N)
  | 0, N, h => h
  | k + 1, N, h => by
    unfold nShed
    split
    · rename_i q
      rcases grd_c (m := m) (T := T) (N := N) (z := nI d) hm with ⟨e1, e2⟩ | ⟨g, hg, e1, e2, e3, e4⟩
      · exact absurd e1 q.1
      · rw [e1, pCl (by omega)]
        exact nShed_iU hm k _ (nRefuse_iU hm h hg (by rw [e2]; decide))
    · exact h
theorem rShedL {m : Nat} {ru td nw : Nat → Int32} {d : Nat} {x : Int32} (hm : m ≤ 8) (hd : d < m) : ∀ (k n : Nat) (f : Nat → Int32), zMs m (nz f) d ≤ k → k < n → iU m ru (tT m td) (nz f) → nz f (72 + d) = 0 → nz f (32 + d) ≠ -1 → ∃ g, FL_X10_turnsSupply_106 (nI m) ru td nw (nI d) n x (zGrd m (tT m td) (nz f) (nI d)) f = some g ∧ nz g = nShed m ru (tT m td) d k (nz f) ∧ nf g = nf f
  | _, 0, f, _, h, _, _, _ => absurd h (by omega)
  | k, n + 1, f, h1, h2, hi, h72, h32 => by
    rw [FL_X10_turnsSupply_106]
    rcases grd_c (m := m) (T := tT m td) (N := nz f) (z := nI d) hm with ⟨e1, e2⟩ | ⟨g, hg, e1, e2, e3, e4⟩
    · rw [if_pos e1, nShed_0 e1]; exact ⟨f, rfl, rfl, rfl⟩
    · have hne : ¬ (nI g : Int32) = -1 := by rw [pNm (by omega)]; exact id
      have hd0 : nz f d ≠ 0 := fun q => h32 ((away_hub hm hi.1.1 hd).mp q)
      have hg0 : nz f g ≠ 0 := by rw [e2]; decide
      have hm' : zMore m ru (tT m td) (nz f) d ↔ (zGv ru (nz f) (nI d) < zTakes (tT m td) (nz f) g ∨ zLeft m ru (tT m td) (nz f) d (-1) < 0) := by
        unfold zMore; rw [e1, pCl (by omega)]; exact ⟨fun q => q.2, fun q => ⟨hne, q⟩⟩
      have hmu := much_g (R := ru) hm hd h72 hg e2 e3 e4
      rw [e1, if_neg hne, rMuch hm hd (hi.1.1.h hm d hd hd0), pBs]
      have kp : ∃ k', k = k' + 1 := by
        cases k with
        | zero =>
          exfalso
          have := ms_lt (N := nz f) (why := 2) hm hg e2 e3 (nRefuse_g (T := tT m td) hm hi.1 hg hg0)
          omega
        | succ k => exact ⟨k, rfl⟩
      obtain ⟨k', rfl⟩ := kp
      unfold nShed
      by_cases c : zMuch m ru (tT m td) (nz f) d = true
      · rw [c, if_neg (by decide), if_pos (hm'.mpr (hmu.mp c)), e1, pCl (by omega)]
        obtain ⟨f2, g1, g2, g3⟩ := rRefuses (nw := f) (why := 2) hm hi.1.1 hg hg0
        rw [g1, pBs, (rGreed hm).1, pBs]
        have h72' : nz f2 (72 + d) = 0 := by rw [g2, nRefuse_hp hm (by omega) (Or.inr ⟨by omega, by omega⟩)]; exact h72
        have h32' : nz f2 (32 + d) ≠ -1 := by rw [g2, nRefuse_hp hm (by omega) (Or.inl ⟨by omega, by omega⟩)]; exact h32
        have hms := ms_lt (N := nz f) (why := 2) hm hg e2 e3 (nRefuse_g (T := tT m td) hm hi.1 hg hg0)
        rw [← g2] at hms
        obtain ⟨y, y1, y2, y3⟩ := rShedL (nw := nw) (x := x) hm hd k' n f2 (by omega) (by omega) (by rw [g2]; exact nRefuse_iU hm hi hg hg0) h72' h32'
        exact ⟨y, y1, by rw [y2, g2], by rw [y3, g3]⟩
      · have c' : zMuch m ru (tT m td) (nz f) d = false := by simpa using c
        rw [c', if_pos (by decide), if_neg (fun q => c (hmu.mpr (hm'.mp q)))]
        exact ⟨f, rfl, rfl, rfl⟩
def nTog (N : Nat → Int32) (d : Nat) : Nat → Int32 := upd N (72 + d) (1 - N (72 + d))
theorem nTog_iU {m : Nat} {R : Nat → Int32} {T : Nat → Nat → Int32} {N : Nat → Int32} {d : Nat} (hm : m ≤ 8) (h : iU m R T N) (hd : d < m) : iU m R T (nTog N d) := by
  obtain ⟨⟨⟨⟨L, hL⟩, hO, hC⟩, hS, hz⟩, hP, hA⟩ := h
  have hk : ∀ k, k ≠ 72 + d → nTog N d k = N k := fun k q => pUn q
  have hk72 : nTog N d (72 + d) = 1 - N (72 + d) := pUs
  have hC' : wC m (nTog N d) := fun e he hs => by
    rw [hk e (by omega)] at hs; rw [hk (32 + e) (by omega)]
    rcases hC e he hs with q | ⟨b, hb, q1, q2⟩
    · exact Or.inl q
    · exact Or.inr ⟨b, hb, q1, by rw [hk b (by omega)]; exact q2⟩
  refine ⟨⟨⟨⟨L, hL.keep (fun e he => by rw [hk e (by omega)]) (fun e he => hk _ (by omega))⟩, fun e he => ?_, hC'⟩, hS.keep hm hC' (fun e he h6 => ?_) (fun e he => hk _ (by omega)), ?_⟩, hP.keep hm (fun k h1 h2 => hk k (by omega)), hA.keep (fun e he h6 => by rw [hk e (by omega)] at h6; exact ⟨h6, hk _ (by omega)⟩)⟩
  · by_cases ce : e = d
    · subst ce
      obtain ⟨o1, o2, o3, o4, o5, o6, o7, o8, o9⟩ := hO e he
      unfold dOK
      rw [hk72, hk e (by omega), hk (8 + e) (by omega), hk (16 + e) (by omega), hk (32 + e) (by omega), hk (40 + e) (by omega), hk (48 + e) (by omega), hk (56 + e) (by omega), hk (64 + e) (by omega), hk (88 + e) (by omega)]
      refine ⟨o1, o2, o3, o4, o5, o6, o7, o8, ?_⟩
      rcases o9 with q | q <;> rw [q]
      · exact Or.inr (by decide)
      · exact Or.inl (by decide)
    · exact dOK_congr (fun j hj => hk _ (by omega)) (hO e he)
  · rw [hk e (by omega)] at h6; exact ⟨h6, hk _ (by omega)⟩
  · unfold nTog; rw [nzU (by omega), hz]
def nSup (m : Nat) (R : Nat → Int32) (T : Nat → Nat → Int32) (N : Nat → Int32) (d : Nat) : Nat → Int32 := if 1 - N (72 + d) = 1 then nTog N d else if N d = 6 then (if zPow m R T (nTog N d) (N (32 + d)).toNatClampNeg (zTakes T (nTog N d) d) (nI d) = true then nShed m R T d 8 (nTog N d) else nRefuse m (nTog N d) d 2) else nTog N d
theorem nSup_iU {m : Nat} {R : Nat → Int32} {T : Nat → Nat → Int32} {N : Nat → Int32} {d : Nat} (hm : m ≤ 8) (h : iU m R T N) (hd : d < m) : iU m R T (nSup m R T N d) := by
  have h' := nTog_iU hm h hd
  unfold nSup
  split
  · exact h'
  · split
    · rename_i q
      split
      · exact nShed_iU hm 8 _ h'
      · refine nRefuse_iU hm h' hd ?_
        have : nTog N d d = N d := pUn (by omega)
        rw [this, q]; decide
    · exact h'
theorem nTog_nz {N : Nat → Int32} {d : Nat} (hd : d < 8) : nz (nTog N d) = nTog (nz N) d := by
  unfold nTog; rw [nzU (by omega), pNz (by omega)]
theorem nTog_nf {N : Nat → Int32} {d : Nat} (hd : d < 8) : nf (nTog N d) = nf N := by
  unfold nTog; rw [nfU (by omega)]
theorem cSup {m : Nat} {fr fu fp : Nat → Int32} {d : Nat} (hm : m ≤ 8) (h : iU m fu (tP m fp) (nz fr)) (hd : d < m) : ∃ f, F_X0_switchSupply fr (nI m) fu fp (nI d) = some f ∧ nz f = nSup m fu (tP m fp) (nz fr) d ∧ nf f = nf fr := by
  have e72 : nz fr (72 + d) = fr (72 + d) := pNz (by omega)
  have e0 : nz fr d = fr d := pNz (by omega)
  have ez : nz (upd fr (72 + d) (1 - fr (72 + d))) = nTog (nz fr) d := nTog_nz (N := fr) (by omega)
  have ef : nf (upd fr (72 + d) (1 - fr (72 + d))) = nf fr := nTog_nf (N := fr) (by omega)
  unfold F_X0_switchSupply nSup
  rw [e72, e0]
  simp (disch := omega) only [pIx, pCl, pLe, pLt, pEq, pNm, pS1, pA0, pA8, pA16, pA24, pA32, pA40, pA48, pA56, pA64, pA72, pA80, pA88, pBs, pE8, pb0, pb1, pbo, if_true, if_false, pIy, pbq, pNz, pIw, pUs, pUn]
  by_cases c : 1 - fr (72 + d) = 1
  · rw [if_pos c, if_pos c]; exact ⟨_, rfl, ez, ef⟩
  · rw [if_neg c, if_neg c]
    obtain ⟨y, y1, y2, y3⟩ := cShed (fr := upd fr (72 + d) (1 - fr (72 + d))) (fu := fu) (fp := fp) hm hd
    rw [ez] at y2; rw [ef] at y3
    by_cases c6 : fr d = 6
    · rw [if_pos c6, if_pos c6]
      obtain ⟨b, hb, hh, hb6⟩ := hub36 hm h.1.1.2.2 hd (by rw [e0, c6]; exact Or.inr (Or.inr (Or.inr rfl)))
      have hh' : nz (upd fr (72 + d) (1 - fr (72 + d))) (32 + d) = nI b := by rw [ez, ← hh]; exact pUn (by omega)
      simp (disch := omega) only [cTakes, cPow (fr := upd fr (72 + d) (1 - fr (72 + d))) hm (by omega : d < m) hb (hb6.imp id And.left) hh', pBs, y1, cRefuse hm]
      rw [ez, show fr (32 + d) = nI b from by rw [← hh, pNz (by omega)], pCl (by omega)]
      by_cases cp : zPow m fu (tP m fp) (nTog (nz fr) d) b (zTakes (tP m fp) (nTog (nz fr) d) d) (nI d) = true
      · rw [cp, if_neg (by decide), if_pos rfl]; exact ⟨y, rfl, y2, y3⟩
      · have cp' : zPow m fu (tP m fp) (nTog (nz fr) d) b (zTakes (tP m fp) (nTog (nz fr) d) d) (nI d) = false := by simpa using cp
        rw [cp', if_pos (by decide), if_neg (by decide)]
        exact ⟨_, rfl, by rw [nRefuse_nz hm (by omega), ez], by rw [nRefuse_nf hm (by omega), ef]⟩
    · rw [if_neg c6, if_neg c6, y1, pBs]
      refine ⟨y, rfl, ?_, y3⟩
      rw [y2]
      apply nShed_0
      rcases grd_c (m := m) (T := tP m fp) (N := nTog (nz fr) d) (z := nI d) hm with ⟨e1, e2⟩ | ⟨g, hg, e1, e2, e3, e4⟩
      · exact e1
      · exfalso
        have g0 : nTog (nz fr) d g = nz fr g := pUn (by omega)
        have g4 : nTog (nz fr) d (32 + g) = nz fr (32 + g) := pUn (by omega)
        rw [g0] at e2; rw [g4] at e3
        rcases h.1.1.2.2 g hg (Or.inr (Or.inr (Or.inr e2))) with q | ⟨b, hb, q1, q2⟩
        · rw [e3] at q; have := (nI_eq (a := d) (b := 8) (by omega) (by omega)).mp q; omega
        · rw [e3] at q1; have := (nI_eq (a := d) (b := b) (by omega) (by omega)).mp q1
          subst this; rw [e0] at q2; exact c6 q2
theorem rSup {m : Nat} {ru td nw : Nat → Int32} {d : Nat} (hm : m ≤ 8) (hT : wT m (tT m td)) (h : iU m ru (tT m td) (nz nw)) (hd : d < m) : ∃ f, F_X10_turnsSupply (nI m) ru td nw (nI d) = some f ∧ nz f = nSup m ru (tT m td) (nz nw) d ∧ nf f = nf nw := by
  have e72 : nz nw (72 + d) = nw (72 + d) := pNz (by omega)
  have e0 : nz nw d = nw d := pNz (by omega)
  have ez : nz (upd nw (72 + d) (1 - nw (72 + d))) = nTog (nz nw) d := nTog_nz (N := nw) (by omega)
  have ef : nf (upd nw (72 + d) (1 - nw (72 + d))) = nf nw := nTog_nf (N := nw) (by omega)
  have h' := nTog_iU hm h hd
  unfold F_X10_turnsSupply nSup
  rw [e72, e0]
  simp (disch := omega) only [pIx, pCl, pLe, pLt, pEq, pNm, pS1, pA0, pA8, pA16, pA24, pA32, pA40, pA48, pA56, pA64, pA72, pA80, pA88, pBs, pE8, pb0, pb1, pbo, if_true, if_false, pIy, pbq, pNz, pIw, pUs, pUn, rState]
  by_cases c : 1 - nw (72 + d) = 1
  · rw [if_pos c, if_pos c]; exact ⟨_, rfl, ez, ef⟩
  · rw [if_neg c, if_neg c]
    have h72 : nTog (nz nw) d (72 + d) = 0 := by
      have : nTog (nz nw) d (72 + d) = 1 - nw (72 + d) := by unfold nTog; rw [pUs, e72]
      rcases (h'.1.1.2.1 d hd).2.2.2.2.2.2.2.2 with q | q
      · exact q
      · rw [this] at q; exact absurd q c
    by_cases c6 : nw d = 6
    · rw [if_pos c6, if_pos c6]
      have t6 : nTog (nz nw) d d = 6 := by unfold nTog; rw [pUn (by omega), e0, c6]
      obtain ⟨b, hb, hh, hb6⟩ := hub36 hm h.1.1.2.2 hd (by rw [e0, c6]; exact Or.inr (Or.inr (Or.inr rfl)))
      have hh1 : nw (32 + d) = nI b := by rw [← hh, pNz (by omega)]
      have hub : b = 8 ∨ (b < m ∧ ∃ q, q ≤ 8 ∧ nz (upd nw (72 + d) (1 - nw (72 + d))) (32 + b) = nI q) := by
        rcases hb6 with q | ⟨q1, q2⟩
        · exact Or.inl q
        · obtain ⟨q, q3, q4⟩ := h.1.1.h hm b q1 (by rw [q2]; decide)
          exact Or.inr ⟨q1, q, q3, by rw [ez, ← q4]; exact pUn (by omega)⟩
      rw [hh1]
      obtain ⟨f2, g1, g2, g3⟩ := rRefuses (nw := upd nw (72 + d) (1 - nw (72 + d))) (why := 2) hm (by rw [ez]; exact h'.1.1) hd (by rw [ez, t6]; decide)
      rw [ez] at g2; rw [ef] at g3
      simp (disch := omega) only [rTakes (m := m), rGives, rLeft hm hb hub, pBs, g1, rHub hm, (rGreed hm).1]
      have hp := pow_r (m := m) (R := ru) (T := tT m td) (N := nTog (nz nw) d) (c := b) (out := nI d) (zTakes_9 (N := nTog (nz nw) d) hT hd)
      rw [pCl (by omega)]
      rw [ez]
      by_cases cp : zPow m ru (tT m td) (nTog (nz nw) d) b (zTakes (tT m td) (nTog (nz nw) d) d) (nI d) = true
      · obtain ⟨p1, p2⟩ := hp.mpr cp
        rw [if_neg p1, if_pos p2, if_pos cp]
        have hz8 : zHub m (tT m td) (nI d) = !decide (tT m td d 0 ≤ 0) := by
          unfold zHub
          rw [zDev_nI hm (by omega), pCl (by omega)]
          have : ¬ nI d = 8 := by rw [pE8 (by omega)]; omega
          simp [this, hd]
        rw [hz8]
        have t32 : nTog (nz nw) d (32 + d) ≠ -1 := by
          have : nTog (nz nw) d (32 + d) = nI b := by rw [← hh]; exact pUn (by omega)
          rw [this, Ne, pNm (by omega)]; exact id
        by_cases ch : tT m td d 0 ≤ 0
        · rw [if_pos (by simp [ch, pb])]
          have hg : zGrd m (tT m td) (nTog (nz nw) d) (nI d) = -1 := by
            rcases grd_c (m := m) (T := tT m td) (N := nTog (nz nw) d) (z := nI d) hm with ⟨e1, e2⟩ | ⟨g, hg, e1, e2, e3, e4⟩
            · exact e1
            · exfalso
              obtain ⟨q1, q2, q3, q4, q5, q6⟩ := h'.2.1 g hg (by rw [e3, Ne, pNm (by omega)]; exact id)
              rw [e3] at q3
              rcases q6 with ⟨r1, r2⟩ | ⟨r1, r2⟩
              · subst r1; have := (nI_eq (a := d) (b := 8) (by omega) (by omega)).mp q3; omega
              · have := (nI_eq (a := d) (b := q1) (by omega) (by omega)).mp q3
                subst this
                have h0 : ¬ (nI q2 : Int32) < 0 := nI_pos (by omega)
                rw [q_lt] at r2 h0; rw [q_le] at ch
                omega
          rw [nShed_0 hg]
          have gg := rShedL (nw := nw) (ru := ru) (td := td) (d := d) (x := nI b) hm hd 8 1000 (upd nw (72 + d) (1 - nw (72 + d))) (by unfold zMs; exact Nat.le_trans (pNum_le _ m) hm) (by omega) (by rw [ez]; exact h') (by rw [ez]; exact h72) (by rw [ez]; exact t32)
          rw [ez, hg, nShed_0 hg, ef] at gg
          exact gg
        · rw [if_neg (by simp [ch, pb])]
          have gg := rShedL (nw := nw) (ru := ru) (td := td) (d := d) (x := nI b) hm hd 8 1000 (upd nw (72 + d) (1 - nw (72 + d))) (by unfold zMs; exact Nat.le_trans (pNum_le _ m) hm) (by omega) (by rw [ez]; exact h') (by rw [ez]; exact h72) (by rw [ez]; exact t32)
          rw [ez, ef] at gg
          exact gg
      · rw [if_neg cp]
        by_cases p1 : zGv ru (nTog (nz nw) d) (nI b) < zTakes (tT m td) (nTog (nz nw) d) d
        · rw [if_pos p1]; exact ⟨f2, rfl, g2, g3⟩
        · rw [if_neg p1, if_neg (fun p2 => cp (hp.mp ⟨p1, p2⟩))]; exact ⟨f2, rfl, g2, g3⟩
    · rw [if_neg c6, if_neg c6]; exact ⟨_, rfl, ez, ef⟩
