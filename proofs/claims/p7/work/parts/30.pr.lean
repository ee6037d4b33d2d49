/-! sets with one more; unplugging -/
theorem pOr8 : ∀ (b0 b1 b2 b3 b4 b5 b6 b7 : Bool) (k : Fin 8), pB8 b0 b1 b2 b3 b4 b5 b6 b7 ||| (1 <<< (nI k.1 &&& 31)) = pB8 (b0 || decide (k.1 = 0)) (b1 || decide (k.1 = 1)) (b2 || decide (k.1 = 2)) (b3 || decide (k.1 = 3)) (b4 || decide (k.1 = 4)) (b5 || decide (k.1 = 5)) (b6 || decide (k.1 = 6)) (b7 || decide (k.1 = 7)) := by decide +kernel
theorem pOr {p : Nat → Bool} {m d : Nat} (hm : m ≤ 8) (hd : d < m) : pSet p m ||| (1 <<< (nI d &&& 31)) = pSet (fun e => p e || decide (e = d)) m := by
  rw [pSetm hm, pSet8, pSetm (p := fun e => p e || decide (e = d)) hm, pSet8]
  have h := pOr8 (p 0 && decide (0 < m)) (p 1 && decide (1 < m)) (p 2 && decide (2 < m)) (p 3 && decide (3 < m)) (p 4 && decide (4 < m)) (p 5 && decide (5 < m)) (p 6 && decide (6 < m)) (p 7 && decide (7 < m)) ⟨d, by omega⟩
  rw [h]
  have key : ∀ j, ((p j && decide (j < m)) || decide (d = j)) = ((p j || decide (j = d)) && decide (j < m)) := fun j => by
    by_cases c : j = d
    · subst c; simp [hd]
    · have : ¬ d = j := fun q => c q.symm
      simp [c, this]
  simp only [key]
def zPl (N : Nat → Int32) (d e : Nat) : Bool := zHang N e (nI d) || decide (e = d)
def nPf (p : Nat → Bool) (e : Nat) (f : Nat → Int32) : Nat → Int32 := if p e = true then nLeave f e else f
def nPull (m : Nat) (p : Nat → Bool) (f : Nat → Int32) : Nat → Int32 := pF (nPf p) m 0 f
theorem cPull {m : Nat} {fr fu fp : Nat → Int32} {d : Nat} (hm : m ≤ 8) (hd : d < m) : F_X0_pullOut fr (nI m) fu fp (nI d) = some (nPull m (zPl (nz fr) d) fr) := by
  unfold F_X0_pullOut
  rw [cBeneath hm, pBs, pOr hm hd]
  show FL_X0_pullOut_12 fr (nI m) fu fp (nI d) 1000 (pSet (zPl (nz fr) d) m) 0 fr = _
  refine pLoop0 (m := m) (L := fun n i a => FL_X0_pullOut_12 fr (nI m) fu fp (nI d) n (pSet (zPl (nz fr) d) m) i a) (g := nPf (zPl (nz fr) d)) (fin := id) (fun n j a hj => ?_) (fun n a => ?_) 1000 _ (by omega)
  · show FL_X0_pullOut_12 fr (nI m) fu fp (nI d) (n + 1) _ (nI j) a = _
    simp (disch := omega) only [FL_X0_pullOut_12, pIx, pCl, pLe, pLt, pEq, pNm, pS1, pA0, pA8, pA16, pA24, pA32, pA40, pA48, pA56, pA64, pA72, pA80, pA88, pBs, pE8, pb0, pb1, pbo, if_true, if_false, pIy, pbq, pNz, pIw, pHas, cLeave]
    rw [if_neg (by omega)]
    unfold nPf
    by_cases c : zPl (nz fr) d j = true
    · simp [c, hj]
    · simp [c]
  · show FL_X0_pullOut_12 fr (nI m) fu fp (nI d) (n + 1) _ (nI m) a = _
    simp (disch := omega) only [FL_X0_pullOut_12, pIx, pCl, pLe, pLt, pEq, pNm, pS1, pA0, pA8, pA16, pA24, pA32, pA40, pA48, pA56, pA64, pA72, pA80, pA88, pBs, pE8, pb0, pb1, pbo, if_true, if_false, pIy, pbq, pNz, pIw]
    rw [if_pos (Nat.le_refl m)]; rfl
theorem nPull_nz {m : Nat} {p : Nat → Bool} {f : Nat → Int32} (hm : m ≤ 8) : nz (nPull m p f) = nPull m p (nz f) :=
  pF_map (fun _ _ => True) m 0 _ (fun i a _ hi _ => by unfold nPf; split; exact nLeave_nz (by omega); rfl) (fun _ _ _ _ _ => trivial) trivial
theorem nPull_nf {m : Nat} {p : Nat → Bool} {f : Nat → Int32} (hm : m ≤ 8) : nf (nPull m p f) = nf f :=
  pF_const (φ := nf) m 0 f (fun i a _ hi => by unfold nPf; split; exact nLeave_nf (by omega); rfl)
theorem nLeave_same {N : Nat → Int32} {d k : Nat} (hd : d < 8) (hk : ∀ j, j < 12 → k ≠ 8 * j + d) : nLeave N d k = N k := by
  have h0 := hk 0 (by decide); have h1 := hk 1 (by decide); have h2 := hk 2 (by decide); have h4 := hk 4 (by decide); have h5 := hk 5 (by decide); have h6 := hk 6 (by decide); have h7 := hk 7 (by decide); have h8 := hk 8 (by decide); have h11 := hk 11 (by decide)
  simp only [Nat.mul_zero, Nat.zero_add, Nat.reduceMul] at h0 h1 h2 h4 h5 h6 h7 h8 h11
  unfold nLeave nLow
  rw [pUn h5, pUn h4, pUn h11, pUn h8, pUn h7, pUn h6, pUn h2, pUn h1, pUn h0]
theorem nLeave_ok {N : Nat → Int32} {d : Nat} (hd : d < 8) (h : N (72 + d) = 0 ∨ N (72 + d) = 1) : nLeave N d d = 0 ∧ nLeave N d (32 + d) = -1 ∧ dOK (nLeave N d) d := by
  have e0 : nLeave N d d = 0 := by simp only [nLeave, nLow, upd]; grind
  have e1 : nLeave N d (8 + d) = 0 := by simp only [nLeave, nLow, upd]; grind
  have e2 : nLeave N d (16 + d) = 0 := by simp only [nLeave, nLow, upd]; grind
  have e4 : nLeave N d (32 + d) = -1 := by simp only [nLeave, nLow, upd]; grind
  have e5 : nLeave N d (40 + d) = -1 := by simp only [nLeave, nLow, upd]; grind
  have e6 : nLeave N d (48 + d) = -1 := by simp only [nLeave, nLow, upd]; grind
  have e7 : nLeave N d (56 + d) = 0 := by simp only [nLeave, nLow, upd]; grind
  have e8 : nLeave N d (64 + d) = 0 := by simp only [nLeave, nLow, upd]; grind
  have e9 : nLeave N d (72 + d) = N (72 + d) := by simp only [nLeave, nLow, upd]; grind
  have e11 : nLeave N d (88 + d) = 0 := by simp only [nLeave, nLow, upd]; grind
  refine ⟨e0, e4, ?_⟩
  unfold dOK
  rw [e0, e1, e2, e4, e5, e6, e7, e8, e9, e11]
  exact ⟨⟨0, by decide, rfl⟩, fun _ => ⟨rfl, rfl⟩, fun q => absurd q (by decide), fun _ => rfl, fun _ => rfl, fun _ => ⟨rfl, rfl, rfl⟩, fun q => absurd q (by decide), fun _ => rfl, h⟩
/-- the loop of an unplugging -/
def plI (m : Nat) (N : Nat → Int32) (p : Nat → Bool) (j : Nat) (N' : Nat → Int32) : Prop := ∀ e, e < m → ((e < j ∧ p e = true) → N' e = 0 ∧ N' (32 + e) = -1 ∧ dOK N' e) ∧ (¬ (e < j ∧ p e = true) → ∀ q, q < 12 → N' (8 * q + e) = N (8 * q + e))
theorem nPull_I {m : Nat} {N : Nat → Int32} {p : Nat → Bool} (hm : m ≤ 8) (hO : ∀ e, e < m → dOK N e) : plI m N p m (nPull m p N) := by
  have := pF_inv (g := nPf p) (fun j a => plI m N p j a) m 0 N (fun i a _ hi hI => ?_) (fun e he => ⟨fun q => by omega, fun _ q hq => rfl⟩)
  · rw [Nat.zero_add] at this; exact this
  · intro e he
    unfold nPf
    by_cases c : p i = true
    · rw [if_pos c]
      by_cases ce : e = i
      · subst ce
        refine ⟨fun _ => nLeave_ok (by omega) ?_, fun q => absurd ⟨by omega, c⟩ q⟩
        have := (hI e he).2 (fun q => by omega) 9 (by decide)
        rw [show 8 * 9 + e = 72 + e from by omega] at this
        rw [this]; exact (hO e he).2.2.2.2.2.2.2.2
      · have sm : ∀ q, q < 12 → nLeave a i (8 * q + e) = a (8 * q + e) := fun q hq => nLeave_same (by omega) (fun j hj => by omega)
        have s0 := sm 0 (by decide); have s4 := sm 4 (by decide)
        simp only [Nat.mul_zero, Nat.zero_add, Nat.reduceMul] at s0 s4
        refine ⟨fun q => ?_, fun q k hk => ?_⟩
        · obtain ⟨a1, a2, a3⟩ := (hI e he).1 ⟨by omega, q.2⟩
          exact ⟨by rw [s0]; exact a1, by rw [s4]; exact a2, dOK_congr sm a3⟩
        · rw [sm k hk]; exact (hI e he).2 (fun r => q ⟨by omega, r.2⟩) k hk
    · rw [if_neg c]
      refine ⟨fun q => (hI e he).1 ⟨?_, q.2⟩, fun q => (hI e he).2 (fun r => q ⟨by omega, r.2⟩)⟩
      rcases Nat.lt_or_ge e i with r | r
      · exact r
      · exact absurd ((show e = i by omega) ▸ q.2) c
theorem nPull_iU {m : Nat} {R : Nat → Int32} {T : Nat → Nat → Int32} {N : Nat → Int32} {d : Nat} (hm : m ≤ 8) (h : iU m R T N) (hd : d < m) : iU m R T (nPull m (zPl N d) N) := by
  have hi := h.1.1
  obtain ⟨⟨⟨⟨L, hL⟩, hO, hC⟩, hS, hz⟩, hP, hA⟩ := h
  have hI := nPull_I (p := zPl N d) hm hO
  have hr := hL.r hm
  generalize hN' : nPull m (zPl N d) N = N' at hI
  have i0 : ∀ e, e < m → zPl N d e = true → N' e = 0 ∧ N' (32 + e) = -1 ∧ dOK N' e := fun e he q => (hI e he).1 ⟨he, q⟩
  have i1 : ∀ e, e < m → ¬ zPl N d e = true → ∀ q, q < 12 → N' (8 * q + e) = N (8 * q + e) := fun e he q => (hI e he).2 (fun r => q r.2)
  have k0 : ∀ e, e < m → ¬ zPl N d e = true → N' e = N e := fun e he q => by have := i1 e he q 0 (by decide); simpa using this
  have k4 : ∀ e, e < m → ¬ zPl N d e = true → N' (32 + e) = N (32 + e) := fun e he q => i1 e he q 4 (by decide)
  -- whose hub goes goes too
  have up : ∀ e b, e < m → b < m → N e ≠ 0 → N b ≠ 0 → N (32 + e) = nI b → ¬ zPl N d e = true → ¬ zPl N d b = true := fun e b he hb h0 hb0 hub hn q => by
    apply hn
    unfold zPl at q ⊢
    by_cases cb : b = d
    · subst cb; simp [hang_at (N := N) (e := e) (d := b) (by omega) hub]
    · have q' : zHang N b (nI d) = true := by simpa [cb] using q
      simp [hang_up hm hr hb hb0 hub q']
  have hC' : wC m N' := fun e he hs => by
    by_cases c : zPl N d e = true
    · rw [(i0 e he c).1] at hs; rcases hs with q | q | q | q <;> exact absurd q (by decide)
    · rw [k0 e he c] at hs; rw [k4 e he c]
      rcases hC e he hs with q | ⟨b, hb, q1, q2⟩
      · exact Or.inl q
      · have e0 : N e ≠ 0 := by rcases hs with q | q | q | q <;> rw [q] <;> decide
        refine Or.inr ⟨b, hb, q1, ?_⟩
        rw [k0 b hb (up e b he hb e0 (by rw [q2]; decide) q1 c)]; exact q2
  refine ⟨⟨⟨⟨L.filter (fun e => !zPl N d e), hL.1.filter _, fun e => ?_, fun e he => ?_⟩, fun e he => ?_, hC'⟩, hS.keep' hm hC' (fun e he h6 => ?_) (fun e he h6 => ?_), ?_⟩, fun e he hn => ?_, hA.keep (fun e he h6 => ?_)⟩
  · rw [List.mem_filter, hL.2.1 e]
    by_cases c : zPl N d e = true
    · refine ⟨fun q => by rw [c] at q; exact absurd q.2 (by decide), fun q => absurd (i0 e q.1 c).1 q.2⟩
    · refine ⟨fun q => ⟨q.1.1, by rw [k0 e q.1.1 c]; exact q.1.2⟩, fun q => ⟨⟨q.1, by rw [← k0 e q.1 c]; exact q.2⟩, by simpa using c⟩⟩
  · rw [List.mem_filter] at he
    have c : ¬ zPl N d e = true := by simpa using he.2
    have hem := (hL.2.1 e).mp he.1
    obtain ⟨b, q1, q2⟩ := hL.2.2 e he.1
    refine ⟨b, by rw [k4 e hem.1 c]; exact q1, ?_⟩
    rcases q2 with q2 | ⟨q2, q3⟩
    · exact Or.inl q2
    · have hbm := (hL.2.1 b).mp q2
      have cb := up e b hem.1 hbm.1 hem.2 hbm.2 q1 c
      have cb' : (!zPl N d b) = true := by simpa using cb
      exact Or.inr ⟨List.mem_filter.mpr ⟨q2, cb'⟩, idx_filter (p := fun e => !zPl N d e) cb' he.2 L q2 q3⟩
  · by_cases c : zPl N d e = true
    · exact (i0 e he c).2.2
    · exact dOK_congr (i1 e he c) (hO e he)
  · by_cases c : zPl N d e = true
    · rw [(i0 e he c).1] at h6; exact absurd h6 (by decide)
    · rw [k0 e he c] at h6; exact ⟨h6, i1 e he c 6 (by decide)⟩
  · by_cases c : zPl N d e = true
    · rw [(i0 e he c).1] at h6; exact absurd h6 (by decide)
    · exact k4 e he c
  · rw [← hN', nPull_nz hm, hz]
  · by_cases c : zPl N d e = true
    · exact absurd (i0 e he c).2.1 hn
    · have k5 : N' (40 + e) = N (40 + e) := i1 e he c 5 (by decide)
      rw [k4 e he c] at hn ⊢; rw [k5]; exact hP e he hn
  · by_cases c : zPl N d e = true
    · rw [(i0 e he c).1] at h6; exact absurd h6 (by decide)
    · rw [k0 e he c] at h6; exact ⟨h6, i1 e he c 7 (by decide)⟩
/-- the reference's -/
def rPf (p : Nat → Bool) (e : Nat) (f : Nat → Int32) : Nat → Int32 := if p e = true then rC f e else f
theorem rPull {m : Nat} {nw : Nat → Int32} {d : Nat} (hm : m ≤ 8) (hi : iN m (nz nw)) (hd : d < m) : ∃ f, F_X10_unplugs (nI m) nw (nI d) = some (nI (pNum (zPl (nz nw) d) m), f) ∧ nz f = nPull m (zPl (nz nw) d) (nz nw) ∧ (∀ e, e < m → ¬ zPl (nz nw) d e = true → f (24 + e) = nw (24 + e)) ∧ f 96 = nw 96 ∧ ∀ k, 98 ≤ k → f k = nw k := by
  obtain ⟨r, hr⟩ := hi.r hm
  unfold F_X10_unplugs
  rw [rBeneath hm hr hi.f (by omega), pBs, pOr hm hd]
  have hl := pLoop0 (m := m) (L := fun n i a => FL_X10_unplugs_12 (nI m) nw (nI d) n (pSet (zPl (nz nw) d) m) i a) (g := rPf (zPl (nz nw) d)) (fin := fun a => (nI (pNum (zPl (nz nw) d) m), a)) (fun n j a hj => ?_) (fun n a => ?_) 1000 nw (by omega)
  · refine ⟨_, hl, ?_, fun e he hn => ?_, ?_, fun k hk => ?_⟩
    · exact pF_map (fun _ _ => True) m 0 nw (fun i a _ hi _ => by unfold rPf nPf; split; exact rC_nz (by omega); rfl) (fun _ _ _ _ _ => trivial) trivial
    · exact pF_const (φ := fun f : Nat → Int32 => f (24 + e)) m 0 nw (fun i a _ hi => by
        show rPf _ i a (24 + e) = _
        unfold rPf
        split
        · rename_i q
          have : e ≠ i := fun r => hn (r ▸ q)
          simp (disch := omega) only [rC, pUn]
        · rfl)
    · exact pF_const (φ := fun f : Nat → Int32 => f 96) m 0 nw (fun i a _ hi => by
        show rPf _ i a 96 = _
        unfold rPf
        split
        · simp (disch := omega) only [rC, pUn]
        · rfl)
    · exact pF_const (φ := fun f : Nat → Int32 => f k) m 0 nw (fun i a _ hi => by
        show rPf _ i a k = _
        unfold rPf
        split
        · simp (disch := omega) only [rC, pUn]
        · rfl)
  · show FL_X10_unplugs_12 (nI m) nw (nI d) (n + 1) _ (nI j) a = _
    have hh : F_X10_has (pSet (zPl (nz nw) d) m) (nI j) = some (pb (zPl (nz nw) d j)) := by
      unfold F_X10_has
      rw [pHas hm (by omega)]
      by_cases c : zPl (nz nw) d j = true <;> simp [c, hj, pb]
    simp (disch := omega) only [FL_X10_unplugs_12, pIx, pCl, pLe, pLt, pEq, pNm, pS1, pA0, pA8, pA16, pA24, pA32, pA40, pA48, pA56, pA64, pA72, pA80, pA88, pBs, pE8, pb0, pb1, pbo, if_true, if_false, pIy, pbq, pNz, pIw, hh, rClear]
    rw [if_neg (by omega)]
    unfold rPf
    by_cases c : zPl (nz nw) d j = true
    · simp [c]
    · simp [c]
  · show FL_X10_unplugs_12 (nI m) nw (nI d) (n + 1) _ (nI m) a = _
    simp (disch := omega) only [FL_X10_unplugs_12, pIx, pCl, pLe, pLt, pEq, pNm, pS1, pA0, pA8, pA16, pA24, pA32, pA40, pA48, pA56, pA64, pA72, pA80, pA88, pBs, pE8, pb0, pb1, pbo, if_true, if_false, pIy, pbq, pNz, pIw, pBits hm]
    rw [if_pos (Nat.le_refl m)]
/-- how many went -/
theorem pNum_add {p q r : Nat → Bool} {m : Nat} (h : ∀ d, d < m → (r d = (p d || q d)) ∧ (p d && q d) = false) : pNum r m = pNum p m + pNum q m := by
  unfold pNum
  have key : ∀ (k j a b : Nat), j + k ≤ m → pF (fun d (a : Nat) => if r d = true then a + 1 else a) k j (a + b) = pF (fun d (a : Nat) => if p d = true then a + 1 else a) k j a + pF (fun d (a : Nat) => if q d = true then a + 1 else a) k j b := by
    intro k
    induction k with
    | zero => intro j a b _; rfl
    | succ k ih =>
      intro j a b hj
      show pF _ k (j + 1) (if r j = true then a + b + 1 else a + b) = pF _ k (j + 1) (if p j = true then a + 1 else a) + pF _ k (j + 1) (if q j = true then b + 1 else b)
      obtain ⟨h1, h2⟩ := h j (by omega)
      rw [← ih (j + 1) _ _ (by omega)]
      congr 1
      rw [h1]
      by_cases c1 : p j = true <;> by_cases c2 : q j = true
      · rw [c1, c2] at h2; exact absurd h2 (by decide)
      · simp [c1, c2]; omega
      · simp [c1, c2]; omega
      · simp [c1, c2]
  exact key m 0 0 0 (by omega)
theorem hang_in {m : Nat} {N : Nat → Int32} {d e : Nat} (hm : m ≤ 8) (h : iN m N) (he : e < m) (hd : d < 8) (hh : zHang N e (nI d) = true) : N e ≠ 0 := fun q => by
  unfold zHang at hh
  rw [h.f e he q, zCl_m] at hh
  have := of_decide_eq_true hh
  have e := pNm (a := d) (by omega)
  rw [← e]; exact this.symm
theorem gone_num {m : Nat} {N : Nat → Int32} {d : Nat} (hm : m ≤ 8) (h : iN m N) (hd : d < m) (h0 : N d ≠ 0) : nI (pNum (fun e => decide (nPull m (zPl N d) N e = 0)) m) - nI (pNum (fun e => decide (N e = 0)) m) = nI (pNum (zPl N d) m) := by
  have hI := nPull_I (p := zPl N d) hm h.2.1
  have := pNum_add (m := m) (p := fun e => decide (N e = 0)) (q := zPl N d) (r := fun e => decide (nPull m (zPl N d) N e = 0)) (fun e he => ?_)
  · rw [this]
    have a := pNum_le (fun e => decide (N e = 0)) m
    have b := pNum_le (zPl N d) m
    rw [q_eq, pk_sub_toInt (by omega) (by omega), nI_toInt (by omega)]; omega
  · have hp : zPl N d e = true → N e ≠ 0 := fun q => by
      unfold zPl at q
      by_cases ce : e = d
      · subst ce; exact h0
      · exact hang_in (d := d) hm h he (by omega) (by simpa [ce] using q)
    by_cases c : zPl N d e = true
    · have e1 := ((hI e he).1 ⟨he, c⟩).1
      have e2 := hp c
      simp [e1, e2, c]
    · have e1 : nPull m (zPl N d) N e = N e := by have := (hI e he).2 (fun q => c q.2) 0 (by decide); simpa using this
      simp [e1, c]
