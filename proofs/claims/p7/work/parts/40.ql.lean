/-! a tree taken -/
def nNew (T : Nat → Nat → Int32) (d : Nat) (N : Nat → Int32) : Nat → Int32 := upd (upd (nLeave N d) (72 + d) (T d 3)) (80 + d) (T d 5)
theorem nNew_ok {T : Nat → Nat → Int32} {N : Nat → Int32} {d : Nat} (hd : d < 8) (h : T d 3 = 0 ∨ T d 3 = 1) : nNew T d N d = 0 ∧ nNew T d N (32 + d) = -1 ∧ dOK (nNew T d N) d := by
  have e0 : nNew T d N d = 0 := by simp only [nNew, nLeave, nLow, upd]; grind
  have e1 : nNew T d N (8 + d) = 0 := by simp only [nNew, nLeave, nLow, upd]; grind
  have e2 : nNew T d N (16 + d) = 0 := by simp only [nNew, nLeave, nLow, upd]; grind
  have e4 : nNew T d N (32 + d) = -1 := by simp only [nNew, nLeave, nLow, upd]; grind
  have e5 : nNew T d N (40 + d) = -1 := by simp only [nNew, nLeave, nLow, upd]; grind
  have e6 : nNew T d N (48 + d) = -1 := by simp only [nNew, nLeave, nLow, upd]; grind
  have e7 : nNew T d N (56 + d) = 0 := by simp only [nNew, nLeave, nLow, upd]; grind
  have e8 : nNew T d N (64 + d) = 0 := by simp only [nNew, nLeave, nLow, upd]; grind
  have e9 : nNew T d N (72 + d) = T d 3 := by simp only [nNew, nLeave, nLow, upd]; grind
  have e11 : nNew T d N (88 + d) = 0 := by simp only [nNew, nLeave, nLow, upd]; grind
  refine ⟨e0, e4, ?_⟩
  unfold dOK
  rw [e0, e1, e2, e4, e5, e6, e7, e8, e9, e11]
  exact ⟨⟨0, by decide, rfl⟩, fun _ => ⟨rfl, rfl⟩, fun q => absurd q (by decide), fun _ => rfl, fun _ => rfl, fun _ => ⟨rfl, rfl, rfl⟩, fun q => absurd q (by decide), fun _ => rfl, h⟩
theorem nNew_nz {T : Nat → Nat → Int32} {N : Nat → Int32} {d : Nat} (hd : d < 8) : nz (nNew T d N) = nNew T d (nz N) := by
  unfold nNew; rw [nzU (by omega), nzU (by omega), nLeave_nz hd]
theorem nNew_same {T : Nat → Nat → Int32} {N : Nat → Int32} {d e j : Nat} (hd : d < 8) (he : e < 8) (hn : e ≠ d) (hj : j < 12) : nNew T d N (8 * j + e) = N (8 * j + e) := by
  unfold nNew; rw [pUn (by omega), pUn (by omega)]; exact nLeave_same hd (fun k hk => by omega)
theorem new_iU {m : Nat} {R : Nat → Int32} {T : Nat → Nat → Int32} {N : Nat → Int32} (hm : m ≤ 8) (hT : wT m T) (hz : nz N = N) : iU m R T (pF (nNew T) m 0 N) ∧ ∀ d, d < m → pF (nNew T) m 0 N d = 0 := by
  have hI := pF_inv (g := nNew T) (fun j a => j ≤ m ∧ nz a = a ∧ ∀ d, d < j → a d = 0 ∧ a (32 + d) = -1 ∧ dOK a d) m 0 N (fun i a _ hi hI => ?_) ⟨by omega, hz, fun d hd => by omega⟩
  · rw [Nat.zero_add] at hI
    obtain ⟨-, h1, h2⟩ := hI
    generalize pF (nNew T) m 0 N = M at h1 h2 ⊢
    refine ⟨⟨⟨⟨⟨[], List.nodup_nil, fun d => ⟨fun q => absurd q (by simp), fun q => absurd (h2 d q.1).1 q.2⟩, fun d q => absurd q (by simp)⟩, fun d hd => (h2 d hd).2.2, fun d hd q => ?_⟩, fun d hd q => ?_, h1⟩, fun d hd q => absurd (h2 d hd).2.1 q, fun d hd q => ?_, fun d e hd he q => ?_⟩, fun d hd => (h2 d hd).1⟩
    · rw [(h2 d hd).1] at q; rcases q with q | q | q | q <;> exact absurd q (by decide)
    · rw [(h2 d hd).1] at q; exact absurd q (by decide)
    · rw [(h2 d hd).1] at q; exact absurd q (by decide)
    · rw [(h2 d hd).1] at q; exact absurd q (by decide)
  · obtain ⟨h1, h2, h3⟩ := hI
    refine ⟨by omega, by rw [nNew_nz (by omega), h2], fun d hd => ?_⟩
    obtain ⟨-, -, -, ⟨o, ho, e⟩, -⟩ := hT i (by omega)
    by_cases c : d = i
    · subst c
      refine nNew_ok (by omega) ?_
      have : o = 0 ∨ o = 1 := by omega
      rcases this with rfl | rfl
      · exact Or.inl e
      · exact Or.inr e
    · have sm : ∀ j, j < 12 → nNew T i a (8 * j + d) = a (8 * j + d) := fun j hj => nNew_same (by omega) (by omega) c hj
      have s0 := sm 0 (by decide); have s4 := sm 4 (by decide)
      simp only [Nat.mul_zero, Nat.zero_add, Nat.reduceMul] at s0 s4
      obtain ⟨a1, a2, a3⟩ := h3 d (by omega)
      exact ⟨by rw [s0]; exact a1, by rw [s4]; exact a2, dOK_congr sm a3⟩
theorem fill98 {f3 : Nat → Int32} {v : Int32} : ∃ g, F_J7_fill_98 f3 v = some g ∧ ∀ k, k < 98 → g k = v := by
  unfold F_J7_fill_98
  have hl := pLoop (m := 98) (L := fun n i x => FL_J7_fill_98_5 f3 v n i x) (g := fun j x => upd x j v) (fin := id) (fun j x => ∀ k, k < j → x k = v) (fun n j x hj hI => ?_) (fun n x hI => ?_) 98 1000 0 f3 (by omega) (by omega) (fun k hk => by omega)
  · exact ⟨_, hl.1, hl.2⟩
  · refine ⟨?_, fun k hk => ?_⟩
    · show FL_J7_fill_98_5 f3 v (n + 1) (nI j) x = FL_J7_fill_98_5 f3 v n (nI (j + 1)) _
      rw [FL_J7_fill_98_5, if_neg (by rw [show (98 : Int32) = nI 98 from rfl, pLe (by omega) (by omega)]; omega), pIx (by omega) (by omega), pCl (by omega), pS1]
    · by_cases c : k = j
      · subst c; exact pUs
      · show upd x j _ k = _
        rw [pUn c]; exact hI k (by omega)
  · show FL_J7_fill_98_5 f3 v (n + 1) (nI 98) x = _
    rw [FL_J7_fill_98_5, if_pos (show (98 : Int32) ≤ nI 98 from by decide)]; rfl
theorem renew_c {m : Nat} {fr fu fp : Nat → Int32} (hm : m ≤ 8) : ∃ g, F_X0_renew fr (nI m) fu fp = some g ∧ nz g = pF (nNew (tP m fp)) m 0 (nz (fun _ => 0)) ∧ g 96 = 0 := by
  unfold F_X0_renew
  obtain ⟨z, z1, z2⟩ := fill98 (f3 := fr) (v := 0)
  rw [z1, pBs]
  have hl := pLoop0 (m := m) (L := fun n i a => FL_X0_renew_10 fr (nI m) fu fp n i a) (g := fun d f => upd (upd (nLeave f d) (72 + d) (fp (24 + d))) (80 + d) (fp (40 + d))) (fin := id) (fun n j a hj => ?_) (fun n a => ?_) 1000 z (by omega)
  · refine ⟨_, hl, ?_, ?_⟩
    · refine (pF_map (g' := nNew (tP m fp)) (fun _ _ => True) m 0 z (fun i a _ hi _ => ?_) (fun _ _ _ _ _ => trivial) trivial).trans ?_
      · unfold nNew
        rw [nzU (by omega), nzU (by omega), nLeave_nz (by omega), tP3 hm (by omega), tP5 hm (by omega)]
      · rw [nz_congr (f := z) (g := fun _ => 0) z2]
    · refine (pF_const (φ := fun f : Nat → Int32 => f 96) m 0 z (fun i a _ hi => ?_)).trans (z2 96 (by omega))
      show upd (upd (nLeave a i) (72 + i) _) (80 + i) _ 96 = a 96
      rw [pUn (by omega), pUn (by omega)]; exact nLeave_same (by omega) (fun j hj => by omega)
  · show FL_X0_renew_10 fr (nI m) fu fp (n + 1) (nI j) a = _
    rw [FL_X0_renew_10, if_neg (by rw [pLe (by omega) (by omega)]; omega), cLeave (by omega), pBs, pA24, pA72, pA40, pA80, pIx (by omega) (by omega), pIx (by omega) (by omega), pIx (by omega) (by omega), pIx (by omega) (by omega), pCl (by omega), pCl (by omega), pCl (by omega), pCl (by omega), pS1]
  · show FL_X0_renew_10 fr (nI m) fu fp (n + 1) (nI m) a = _
    rw [FL_X0_renew_10, if_pos (le_rfl32 _)]; rfl
theorem take_r {m : Nat} {mn ac hi : Int32} {rr rd ru td nw : Nat → Int32} (hm : m ≤ 8) : ∃ ru' td' g, F_X10_takeTree (nI m) mn ac hi rr rd ru td nw = some (nI m, nI m, 0, 0, ru', td', g) ∧ (∀ k, k < 8 → ru' k = rr k) ∧ (∀ k, 8 ≤ k → ru' k = ru k) ∧ (∀ k, k < 6 * m → td' k = rd k) ∧ nz g = pF (nNew (tT m td')) m 0 (nz (fun _ => 0)) ∧ g 96 = 0 ∧ g 98 = 0 := by
  unfold F_X10_takeTree
  have l1 : ∀ (td0 nw0 : Nat → Int32), ∃ ru', (∀ k, k < 8 → ru' k = rr k) ∧ (∀ k, 8 ≤ k → ru' k = ru k) ∧ FL_X10_takeTree_10 (nI m) mn ac hi rr rd ru td nw 1000 0 (nI m) ac hi ru td0 nw0 = FL_X10_takeTree_36 (nI m) mn ac hi rr rd ru td nw 1000 0 (nI m) ac hi ru' td0 nw0 := fun td0 nw0 => by
    have key : ∀ (k j n : Nat) (x : Nat → Int32), j + k = 8 → k < n → (∀ i, i < j → x i = rr i) → (∀ i, 8 ≤ i → x i = ru i) → ∃ ru', (∀ k, k < 8 → ru' k = rr k) ∧ (∀ k, 8 ≤ k → ru' k = ru k) ∧ FL_X10_takeTree_10 (nI m) mn ac hi rr rd ru td nw n (nI j) (nI m) ac hi x td0 nw0 = FL_X10_takeTree_36 (nI m) mn ac hi rr rd ru td nw 1000 0 (nI m) ac hi ru' td0 nw0 := by
      intro k
      induction k with
      | zero =>
        intro j n x h1 h2 h3 h4
        obtain rfl : j = 8 := by omega
        obtain ⟨n, rfl⟩ : ∃ y, n = y + 1 := ⟨n - 1, by omega⟩
        rw [FL_X10_takeTree_10, if_pos (show (8 : Int32) ≤ nI 8 from by decide)]
        exact ⟨x, h3, h4, rfl⟩
      | succ k ih =>
        intro j n x h1 h2 h3 h4
        obtain ⟨n, rfl⟩ : ∃ y, n = y + 1 := ⟨n - 1, by omega⟩
        rw [FL_X10_takeTree_10, if_neg (by rw [show (8 : Int32) = nI 8 from rfl, pLe (by omega) (by omega)]; omega), pIx (by omega) (by omega), pIx (by omega) (by omega), pCl (by omega), pS1]
        refine ih (j + 1) n _ (by omega) (by omega) (fun i hi => ?_) (fun i hi => by rw [pUn (by omega)]; exact h4 i hi)
        by_cases c : i = j
        · subst c; exact pUs
        · rw [pUn c]; exact h3 i (by omega)
    exact key 8 0 1000 ru (by omega) (by omega) (fun i hi => by omega) (fun _ _ => rfl)
  have l2 : ∀ (ru0 nw0 : Nat → Int32), ∃ td', (∀ k, k < 6 * m → td' k = rd k) ∧ FL_X10_takeTree_36 (nI m) mn ac hi rr rd ru td nw 1000 0 (nI m) ac hi ru0 td nw0 = FL_X10_takeTree_67 (nI m) mn ac hi rr rd ru td nw 1000 0 (nI m) ac hi ru0 td' nw0 := fun ru0 nw0 => by
    have e6 : (6 : Int32) * nI m = nI (6 * m) := pM 6 m
    have key : ∀ (k j n : Nat) (x : Nat → Int32), j + k = 6 * m → k < n → (∀ i, i < j → x i = rd i) → ∃ td', (∀ k, k < 6 * m → td' k = rd k) ∧ FL_X10_takeTree_36 (nI m) mn ac hi rr rd ru td nw n (nI j) (nI m) ac hi ru0 x nw0 = FL_X10_takeTree_67 (nI m) mn ac hi rr rd ru td nw 1000 0 (nI m) ac hi ru0 td' nw0 := by
      intro k
      induction k with
      | zero =>
        intro j n x h1 h2 h3
        obtain rfl : j = 6 * m := by omega
        obtain ⟨n, rfl⟩ : ∃ y, n = y + 1 := ⟨n - 1, by omega⟩
        rw [FL_X10_takeTree_36, e6, if_pos (le_rfl32 _)]
        exact ⟨x, h3, rfl⟩
      | succ k ih =>
        intro j n x h1 h2 h3
        obtain ⟨n, rfl⟩ : ∃ y, n = y + 1 := ⟨n - 1, by omega⟩
        rw [FL_X10_takeTree_36, e6, if_neg (by rw [pLe (by omega) (by omega)]; omega), pIx (by omega) (by omega), pIx (by omega) (by omega), pCl (by omega), pS1]
        refine ih (j + 1) n _ (by omega) (by omega) (fun i hi => ?_)
        by_cases c : i = j
        · subst c; exact pUs
        · rw [pUn c]; exact h3 i (by omega)
    exact key (6 * m) 0 1000 td (by omega) (by omega) (fun i hi => by omega)
  have l3 : ∀ (ru0 td0 : Nat → Int32), ∃ z, (∀ k, k < 279 → z k = 0) ∧ FL_X10_takeTree_67 (nI m) mn ac hi rr rd ru td nw 1000 0 (nI m) ac hi ru0 td0 nw = FL_X10_takeTree_89 (nI m) mn ac hi rr rd ru td nw 1000 0 (nI m) ac hi ru0 td0 z := fun ru0 td0 => by
    have key : ∀ (k j n : Nat) (x : Nat → Int32), j + k = 279 → k < n → (∀ i, i < j → x i = 0) → ∃ z, (∀ k, k < 279 → z k = 0) ∧ FL_X10_takeTree_67 (nI m) mn ac hi rr rd ru td nw n (nI j) (nI m) ac hi ru0 td0 x = FL_X10_takeTree_89 (nI m) mn ac hi rr rd ru td nw 1000 0 (nI m) ac hi ru0 td0 z := by
      intro k
      induction k with
      | zero =>
        intro j n x h1 h2 h3
        obtain rfl : j = 279 := by omega
        obtain ⟨n, rfl⟩ : ∃ y, n = y + 1 := ⟨n - 1, by omega⟩
        rw [FL_X10_takeTree_67, if_pos (show (279 : Int32) ≤ nI 279 from by decide)]
        exact ⟨x, h3, rfl⟩
      | succ k ih =>
        intro j n x h1 h2 h3
        obtain ⟨n, rfl⟩ : ∃ y, n = y + 1 := ⟨n - 1, by omega⟩
        rw [FL_X10_takeTree_67, if_neg (by rw [show (279 : Int32) = nI 279 from rfl, pLe (by omega) (by omega)]; omega), pIx (by omega) (by omega), pCl (by omega), pS1]
        refine ih (j + 1) n _ (by omega) (by omega) (fun i hi => ?_)
        by_cases c : i = j
        · subst c; exact pUs
        · rw [pUn c]; exact h3 i (by omega)
    exact key 279 0 1000 nw (by omega) (by omega) (fun i hi => by omega)
  obtain ⟨ru', a1, a2, a3⟩ := l1 td nw
  obtain ⟨td', b1, b2⟩ := l2 ru' nw
  obtain ⟨z, c1, c2⟩ := l3 ru' td'
  rw [a3, b2, c2]
  have hl := pLoop0 (m := m) (L := fun n i a => FL_X10_takeTree_89 (nI m) mn ac hi rr rd ru td nw n i (nI m) ac hi ru' td' a) (g := fun d f => upd (upd (rC f d) (72 + d) (tT m td' d 3)) (80 + d) (tT m td' d 5)) (fin := fun a => (nI m, nI m, 0, 0, ru', td', a)) (fun n j a hj => ?_) (fun n a => ?_) 1000 z (by omega)
  · refine ⟨ru', td', _, hl, a1, a2, b1, ?_, ?_, ?_⟩
    · refine (pF_map (g' := nNew (tT m td')) (fun _ _ => True) m 0 z (fun i a _ hi _ => ?_) (fun _ _ _ _ _ => trivial) trivial).trans ?_
      · unfold nNew
        rw [nzU (by omega), nzU (by omega), rC_nz (by omega)]
      · rw [nz_congr (f := z) (g := fun _ => 0) (fun k hk => c1 k (by omega))]
    · refine (pF_const (φ := fun f : Nat → Int32 => f 96) m 0 z (fun i a _ hi => ?_)).trans (c1 96 (by omega))
      show upd (upd (rC a i) (72 + i) _) (80 + i) _ 96 = a 96
      rw [pUn (by omega), pUn (by omega)]; simp (disch := omega) only [rC, pUn]
    · refine (pF_const (φ := fun f : Nat → Int32 => f 98) m 0 z (fun i a _ hi => ?_)).trans (c1 98 (by omega))
      show upd (upd (rC a i) (72 + i) _) (80 + i) _ 98 = a 98
      rw [pUn (by omega), pUn (by omega)]; simp (disch := omega) only [rC, pUn]
  · show FL_X10_takeTree_89 (nI m) mn ac hi rr rd ru td nw (n + 1) (nI j) (nI m) ac hi ru' td' a = _
    rw [FL_X10_takeTree_89, if_neg (by rw [pLe (by omega) (by omega)]; omega), rClear (by omega), pBs, rTold3 (m := m) hm hj, pBs, pA72, pIx (by omega) (by omega), rTold5 (m := m) hm hj, pBs, pA80, pIx (by omega) (by omega), pCl (by omega), pCl (by omega), pS1]
  · show FL_X10_takeTree_89 (nI m) mn ac hi rr rd ru td nw (n + 1) (nI m) (nI m) ac hi ru' td' a = _
    rw [FL_X10_takeTree_89, if_pos (le_rfl32 _)]
/-- both take the tree that both have read -/
theorem take_sim {m : Nat} {ph tt hi mn ac hi2 : Int32} {du dp fu fp fr rr rd td nw fd : Nat → Int32} {fq kp : Nat → Int32} {nx : Nat} (h1 : 1 ≤ m) (hm : m ≤ 8) (hnx : nx < 40) (hs : row_s 0 du rr) (hd : ∀ d, d < m → row_d d dp rd) : ∃ t fr' ru' td' nw', F_X0_renew fr (nI m) (va_cpy du fu 0 0 8) (va_cpy dp fp 0 0 48) = some fr' ∧ F_X10_takeTree (nI m) mn ac hi2 rr rd fu td nw = some (nI m, nI m, 0, 0, ru', td', nw') ∧ va_cpy du fu 0 0 8 = ru' ∧ (∃ g, g ≤ 9 ∧ ru' 4 = nI g) ∧ WW m t ru' (va_cpy dp fp 0 0 48) td' fr' fq nx 0 fd 0 nw' kp := by
  obtain ⟨ru', td', g, t1, t2, t3, t4, t5, t6, t7⟩ := take_r (m := m) (mn := mn) (ac := ac) (hi := hi2) (rr := rr) (rd := rd) (ru := fu) (td := td) (nw := nw) hm
  obtain ⟨fr', r1, r2, r3⟩ := renew_c (m := m) (fr := fr) (fu := va_cpy du fu 0 0 8) (fp := va_cpy dp fp 0 0 48) hm
  have hru : va_cpy du fu 0 0 8 = ru' := by
    funext k
    simp only [va_cpy]
    by_cases c : k < 8
    · rw [if_pos (by omega), t2 k c, show 0 + (k - 0) = k from by omega]; exact (hs k c).1
    · rw [if_neg (by omega), t3 k (by omega)]
  have hTT : tP m (va_cpy dp fp 0 0 48) = tT m td' := by
    funext d k
    unfold tP tT
    by_cases c : d < m ∧ k < 6
    · rw [if_pos c, if_pos c]
      simp only [va_cpy]
      rw [if_pos (by omega), t4 _ (by omega), ← (hd d c.1 k c.2).1]
      congr 1; omega
    · rw [if_neg c, if_neg c]
  have cell : ∀ d k, d < m → k < 6 → ∃ v, v ≤ hi_d k ∧ tT m td' d k = nI v := fun d k hdm hk => by
    rw [← hTT]
    unfold tP
    rw [if_pos ⟨hdm, hk⟩]
    obtain ⟨-, v, -, hv, e⟩ := hd d hdm k hk
    refine ⟨v, hv, ?_⟩
    simp only [va_cpy]
    rw [if_pos (by omega), ← e]; congr 1; omega
  have rc : ∀ k, k < 8 → ∃ v, lo_s k ≤ v ∧ v ≤ hi_s k ∧ ru' k = nI v := fun k hk => by
    obtain ⟨e1, v, v1, v2, e2⟩ := hs k hk
    exact ⟨v, v1, v2, by rw [t2 k hk, ← e1]; exact e2⟩
  have hT : wT m (tT m td') := fun d hdm => ⟨cell d 0 hdm (by omega), cell d 1 hdm (by omega), cell d 2 hdm (by omega), cell d 3 hdm (by omega), cell d 4 hdm (by omega), cell d 5 hdm (by omega)⟩
  obtain ⟨t, -, ht9, et⟩ := rc 7 (by omega)
  obtain ⟨v1, w1, w1', e1⟩ := rc 1 (by omega)
  obtain ⟨v2, w2, w2', e2⟩ := rc 2 (by omega)
  obtain ⟨v0, w0, w0', e0⟩ := rc 0 (by omega)
  obtain ⟨v4, w4, w4', e4⟩ := rc 4 (by omega)
  have q1 : v1 ≤ 9 := w1'
  have q2 : v2 ≤ 9 := w2'
  have q0 : v0 ≤ 4 := w0'
  have p1 : 1 ≤ v1 := w1
  have p2 : 1 ≤ v2 := w2
  have p0 : 1 ≤ v0 := w0
  have hR : wRu ru' t := ⟨ht9, et, by rw [e1]; exact (pLt (a := 0) (by omega) (by omega)).mpr (by omega), by rw [e2]; exact (pLt (a := 0) (by omega) (by omega)).mpr (by omega), v0, q0, by omega, e0⟩
  have hN := new_iU (R := ru') (N := nz (fun _ => 0)) hm hT (nz_nz _)
  refine ⟨t, fr', ru', td', g, r1, t1, hru, ⟨v4, w4', e4⟩, ⟨hm, fun _ => hR, hT, hTT⟩, ⟨⟨by rw [r2, t5, hTT], fun d hdm q => absurd (by rw [t5]; exact hN.2 d hdm) q⟩, by rw [t5]; exact hN.1, ⟨0, by omega, r3, t6⟩, ⟨t7, fun i c hi => by omega⟩⟩, by omega, hnx, by omega, fun i hi => by omega⟩
