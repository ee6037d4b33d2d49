/-! the diary and the past -/
theorem pM (a b : Nat) : nI a * nI b = nI (a * b) := by unfold nI; rw [Int32.ofNat_mul]
theorem pSub {a b : Nat} (h : b ≤ a) (ha : a < 1073741824) : nI a - nI b = nI (a - b) := by
  rw [q_eq, pk_sub_toInt (by omega) (by omega), nI_toInt (by omega)]; omega
theorem pDiv {a b : Nat} (ha : a < 1073741824) (hb : b < 1073741824) : nI a / nI b = nI (a / b) := by
  have h1 : a / b ≤ a := Nat.div_le_self a b
  rw [q_eq, Int32.toInt_div, nI_toInt (by omega), nI_toInt (by omega), nI_toInt (by omega), ← Int.ofNat_tdiv]
  generalize a / b = q at h1 ⊢
  rw [Int.bmod_eq_of_le (by omega) (by omega)]
theorem pMod {a b : Nat} (ha : a < 1073741824) (hb : b < 1073741824) : nI a - nI a / nI b * nI b = nI (a % b) := by
  have h1 : a / b * b ≤ a := Nat.div_mul_le_self a b
  rw [pDiv ha hb, pM, pSub h1 ha]
  congr 1
  have := Nat.div_add_mod a b
  rw [Nat.mul_comm] at this; omega
def wr3 (fd : Nat → Int32) (s : Nat) (a b c : Int32) : Nat → Int32 := upd (upd (upd fd (s * 3) a) (s * 3 + 1) b) (s * 3 + 2) c
theorem cWrite {fd : Nat → Int32} {tt : Nat} {z1 z2 z3 : Int32} (ht : tt < 536870912) : F_X1_write fd (nI tt) z1 z2 z3 = some (wr3 fd (tt % 100) z1 z2 z3, nI (tt + 1)) := by
  unfold F_X1_write wr3
  have e : (nI tt - nI tt / 100 * 100) = nI (tt % 100) := pMod (a := tt) (b := 100) (by omega) (by decide)
  have e3 : (nI tt - nI tt / 100 * 100) * 3 = nI (tt % 100 * 3) := by rw [e]; exact pM _ 3
  have e4 : nI (tt % 100 * 3) + 1 = nI (tt % 100 * 3 + 1) := nI_add _ 1
  have e5 : nI (tt % 100 * 3) + 2 = nI (tt % 100 * 3 + 2) := nI_add _ 2
  rw [e3, e4, e5, pIx (by omega) (by omega), pIx (by omega) (by omega), pIx (by omega) (by omega), pCl (by omega), pCl (by omega), pCl (by omega), pS1]
def shf (nw : Nat → Int32) (j : Nat) : Nat → Int32 := fun k => if 99 ≤ k ∧ k + 3 < 99 + j then nw (k + 3) else nw k
theorem shf_s {nw : Nat → Int32} {j : Nat} (hj : 3 ≤ j) : upd (shf nw j) (96 + j) (shf nw j (99 + j)) = shf nw (j + 1) := by
  funext k; simp only [shf, upd]; grind
def ent (g : Nat → Int32) (n : Nat) (a b c : Int32) : Prop := g (99 + 3 * n) = a ∧ g (99 + 3 * n + 1) = b ∧ g (99 + 3 * n + 2) = c
theorem rThose_o {m : Nat} {nw f : Nat → Int32} (hm : m ≤ 8) (h : nz f = nz nw) : (F_X10_those (nI m) f 6) = some (pSet (fun d => decide (nz nw d = 6)) m) := by rw [rThose hm, h]
theorem rNote {m n : Nat} {nw : Nat → Int32} {z1 z2 : Int32} (hm : m ≤ 8) (h98 : nw 98 = nI n) (hn : n ≤ 60) : ∃ g, F_X10_note (nI m) nw z1 z2 = some g ∧ (∀ k, k < 98 → g k = nw k) ∧ g 98 = nI (min (n + 1) 60) ∧ ent g (min (n + 1) 60 - 1) z1 z2 (nI (pNum (fun d => decide (nz nw d = 6)) m)) ∧ ∀ i c, i < min (n + 1) 60 - 1 → c < 3 → g (99 + 3 * i + c) = nw (99 + 3 * (i + (n + 1 - min (n + 1) 60)) + c) := by
  unfold F_X10_note
  rw [h98]
  by_cases c : n = 60
  · subst c
    have c60 : nI 60 = 60 := rfl
    rw [if_pos c60]
    have hl := pLoop (m := 180) (L := fun n i a => FL_X10_note_14 (nI m) nw z1 z2 n i a) (g := fun j a => upd a (96 + j) (a (99 + j))) (fin := fun _ => upd (upd (upd (upd (upd (shf nw 180) 98 59) (99 + 3 * 59) z1) (99 + 3 * 59 + 1) z2) (99 + 3 * 59 + 2) (nI (pNum (fun d => decide (nz nw d = 6)) m))) 98 60) (fun j a => 3 ≤ j ∧ a = shf nw j) (fun n j a hj hI => ?_) (fun n a hI => ?_) 177 1000 3 nw (by omega) (by omega) ⟨by omega, ?_⟩
    · refine ⟨_, hl.1, fun k hk => ?_, ?_, ⟨?_, ?_, ?_⟩, fun i c hi hc => ?_⟩
      · simp only [upd, shf]; grind
      · exact pUs
      · simp only [upd]; grind
      · simp only [upd]; grind
      · simp only [upd]; grind
      · simp only [upd, shf]; grind
    · obtain ⟨h3, rfl⟩ := hI
      refine ⟨?_, by omega, shf_s h3⟩
      show FL_X10_note_14 (nI m) nw z1 z2 (n + 1) (nI j) (shf nw j) = FL_X10_note_14 (nI m) nw z1 z2 n (nI (j + 1)) (upd (shf nw j) (96 + j) (shf nw j (99 + j)))
      have e1 : (99 : Int32) + nI j = nI (99 + j) := nI_add 99 j
      have e2 : nI (99 + j) - 3 = nI (96 + j) := by
        rw [show (3 : Int32) = nI 3 from rfl, pSub (by omega) (by omega)]; congr 1; omega
      rw [FL_X10_note_14, if_neg (by rw [show (180 : Int32) = nI 180 from rfl, pLe (by omega) (by omega)]; omega), e1, e2, pIx (by omega) (by omega), pIx (by omega) (by omega), pCl (by omega), pCl (by omega), pS1]
    · obtain ⟨h3, rfl⟩ := hI
      show FL_X10_note_14 (nI m) nw z1 z2 (n + 1) (nI 180) (shf nw 180) = _
      have s98 : shf nw 180 98 = 60 := by simp only [shf]; rw [if_neg (by omega), h98]; rfl
      have e59 : (60 : Int32) - 1 = 59 := by decide
      rw [FL_X10_note_14, if_pos (show (180 : Int32) ≤ nI 180 from by decide), s98, pUs, e59]
      have i1 : (99 + 3 * (59 : Int32)) = nI (99 + 3 * 59) := by decide
      have i2 : nI (99 + 3 * 59) + 1 = nI (99 + 3 * 59 + 1) := by decide
      have i3 : nI (99 + 3 * 59) + 2 = nI (99 + 3 * 59 + 2) := by decide
      rw [i1, i2, i3, pIx (by omega) (by omega), pIx (by omega) (by omega)]
      simp only [pCl (show 99 + 3 * 59 < 2147483648 by omega), pCl (show 99 + 3 * 59 + 1 < 2147483648 by omega), pCl (show 99 + 3 * 59 + 2 < 2147483648 by omega)]
      have ez : nz (upd (upd (upd (shf nw 180) 98 59) (99 + 3 * 59) z1) (99 + 3 * 59 + 1) z2) = nz nw := by
        funext k; simp only [nz, upd, shf]; grind
      rw [rThose_o hm ez, pBs, pBits hm, pBs, pIy (by omega) (by omega)]
      have v59 : upd (upd (upd (upd (shf nw 180) 98 59) (99 + 3 * 59) z1) (99 + 3 * 59 + 1) z2) (99 + 3 * 59 + 2) (nI (pNum (fun d => decide (nz nw d = 6)) m)) 98 = 59 := by
        simp only [upd]; grind
      rw [v59]; rfl
    · funext k; simp only [shf]; rw [if_neg (by omega)]
  · have c60 : ¬ nI n = 60 := by rw [show (60 : Int32) = nI 60 from rfl, pEq (by omega) (by omega)]; exact c
    rw [if_neg c60]
    have i0 : (3 : Int32) * nI n = nI (3 * n) := pM 3 n
    have i1 : (99 : Int32) + nI (3 * n) = nI (99 + 3 * n) := nI_add 99 _
    have i2 : nI (99 + 3 * n) + 1 = nI (99 + 3 * n + 1) := nI_add _ 1
    have i3 : nI (99 + 3 * n) + 2 = nI (99 + 3 * n + 2) := nI_add _ 2
    rw [i0, i1, i2, i3, pIx (by omega) (by omega), pIx (by omega) (by omega)]
    simp only [pCl (show 99 + 3 * n < 2147483648 by omega), pCl (show 99 + 3 * n + 1 < 2147483648 by omega), pCl (show 99 + 3 * n + 2 < 2147483648 by omega)]
    have ez : nz (upd (upd nw (99 + 3 * n) z1) (99 + 3 * n + 1) z2) = nz nw := by rw [nzO (by omega), nzO (by omega)]
    rw [rThose_o hm ez, pBs, pBits hm, pBs, pIy (by omega) (by omega), pBs, pUn (by omega), pUn (by omega), pUn (by omega), h98, pS1]
    have emin : min (n + 1) 60 = n + 1 := by omega
    rw [emin]
    refine ⟨_, rfl, fun k hk => ?_, pUs, ⟨?_, ?_, ?_⟩, fun i c hi hc => ?_⟩
    · rw [pUn (by omega), pUn (by omega), pUn (by omega), pUn (by omega)]
    · rw [show n + 1 - 1 = n from by omega, pUn (by omega), pUn (by omega), pUn (by omega), pUs]
    · rw [show n + 1 - 1 = n from by omega, pUn (by omega), pUn (by omega), pUs]
    · rw [show n + 1 - 1 = n from by omega, pUn (by omega), pUs]
    · rw [pUn (by omega), pUn (by omega), pUn (by omega), pUn (by omega)]
      congr 1; omega
/-- the diary, as both hold it -/
def DV (fd : Nat → Int32) (tt : Nat) (nw : Nat → Int32) : Prop := nw 98 = nI (min tt 60) ∧ ∀ i c, i < min tt 60 → c < 3 → nw (99 + 3 * (min tt 60 - 1 - i) + c) = fd (((tt - 1 - i) % 100) * 3 + c)
theorem DV_congr {fd nw nw' : Nat → Int32} {tt : Nat} (h : ∀ k, 98 ≤ k → k < 279 → nw' k = nw k) (hd : DV fd tt nw) : DV fd tt nw' :=
  ⟨by rw [h 98 (by omega) (by omega)]; exact hd.1, fun i c hi hc => by rw [h _ (by omega) (by omega)]; exact hd.2 i c hi hc⟩
theorem DV_wr {fd nw : Nat → Int32} {tt u : Nat} {a b c : Int32} (h : DV fd u nw) (h1 : u ≤ tt) (h2 : tt < u + 40) : DV (wr3 fd (tt % 100) a b c) u nw :=
  ⟨h.1, fun i c hi hc => by
    rw [h.2 i c hi hc]; unfold wr3
    rw [pUn (by omega), pUn (by omega), pUn (by omega)]⟩
theorem DV_note {m : Nat} {fd nw g0 : Nat → Int32} {tt : Nat} {z1 z2 : Int32} (hm : m ≤ 8) (h : DV fd tt nw) (hk : kD nw g0) : ∃ g, F_X10_note (nI m) g0 z1 z2 = some g ∧ (∀ k, k < 98 → g k = g0 k) ∧ DV (wr3 fd (tt % 100) z1 z2 (nI (pNum (fun d => decide (nz g0 d = 6)) m))) (tt + 1) g := by
  have h98 : g0 98 = nI (min tt 60) := by rw [hk 98 (by omega)]; exact h.1
  obtain ⟨g, g1, g2, g3, ⟨g4, g5, g6⟩, g7⟩ := rNote (nw := g0) (z1 := z1) (z2 := z2) hm h98 (by omega)
  have em : min (min tt 60 + 1) 60 = min (tt + 1) 60 := by omega
  rw [em] at g3 g4 g5 g6 g7
  refine ⟨g, g1, g2, g3, fun i c hi hc => ?_⟩
  by_cases ci : i = 0
  · subst ci
    unfold wr3
    rw [show tt + 1 - 1 - 0 = tt from by omega, show min (tt + 1) 60 - 1 - 0 = min (tt + 1) 60 - 1 from by omega]
    have : c = 0 ∨ c = 1 ∨ c = 2 := by omega
    rcases this with rfl | rfl | rfl
    · simp only [Nat.add_zero]; rw [g4, pUn (by omega), pUn (by omega), pUs]
    · rw [g5, pUn (by omega), pUs]
    · rw [g6, pUs]
  · rw [g7 _ c (by omega) hc, hk _ (by omega)]
    have e := h.2 (i - 1) c (by omega) hc
    rw [show min tt 60 - 1 - (i - 1) = min (tt + 1) 60 - 1 - i + (min tt 60 + 1 - min (tt + 1) 60) from by omega] at e
    rw [e]
    unfold wr3
    rw [show tt - 1 - (i - 1) = tt - i from by omega, show tt + 1 - 1 - i = tt - i from by omega]
    rw [pUn (by omega), pUn (by omega), pUn (by omega)]
/-- one state, as both hold it -/
def SR (m : Nat) (R : Nat → Int32) (T : Nat → Nat → Int32) (fr fd : Nat → Int32) (tt : Nat) (nw : Nat → Int32) : Prop := Rl m fr nw ∧ iU m R T (nz nw) ∧ (∃ k, k ≤ 9999 ∧ fr 96 = nI k ∧ nw 96 = nI k) ∧ DV fd tt nw
theorem nz_congr {f g : Nat → Int32} (h : ∀ k, k < 98 → f k = g k) : nz f = nz g := by
  funext k; simp only [nz]
  split
  · exact h k (by omega)
  · rfl
theorem Rl_congr {m : Nat} {fr fr' nw nw' : Nat → Int32} (hm : m ≤ 8) (h1 : ∀ k, k < 98 → fr' k = fr k) (h2 : ∀ k, k < 98 → nw' k = nw k) (h : Rl m fr nw) : Rl m fr' nw' := by
  unfold Rl
  rw [nz_congr h1, nz_congr h2]
  exact ⟨h.1, fun d hd hn => by rw [h1 _ (by omega), h2 _ (by omega)]; exact h.2 d hd hn⟩
theorem SR_congr {m : Nat} {R : Nat → Int32} {T : Nat → Nat → Int32} {fr fr' fd nw nw' : Nat → Int32} {tt : Nat} (hm : m ≤ 8) (h1 : ∀ k, k < 98 → fr' k = fr k) (h2 : ∀ k, k < 279 → nw' k = nw k) (h : SR m R T fr fd tt nw) : SR m R T fr' fd tt nw' := by
  refine ⟨Rl_congr hm h1 (fun k hk => h2 k (by omega)) h.1, ?_, ?_, DV_congr (fun k _ hk => h2 k hk) h.2.2.2⟩
  · rw [nz_congr (f := nw') (g := nw) (fun k hk => h2 k (by omega))]; exact h.2.1
  · rw [h1 96 (by omega), h2 96 (by omega)]; exact h.2.2.1
theorem SR_wr {m : Nat} {R : Nat → Int32} {T : Nat → Nat → Int32} {fr fd nw : Nat → Int32} {u tt : Nat} {a b c : Int32} (h : SR m R T fr fd u nw) (h1 : u ≤ tt) (h2 : tt < u + 40) : SR m R T fr (wr3 fd (tt % 100) a b c) u nw := ⟨h.1, h.2.1, h.2.2.1, DV_wr h.2.2.2 h1 h2⟩
def rwX (fq : Nat → Int32) (q : Nat) : Nat → Int32 := fun k => fq (98 * q + k)
def rwY (kp : Nat → Int32) (q : Nat) : Nat → Int32 := fun k => kp (279 * q + k)
/-- the past, as both hold it -/
def KP (m : Nat) (R : Nat → Int32) (T : Nat → Nat → Int32) (fq : Nat → Int32) (nx p : Nat) (fd : Nat → Int32) (tt : Nat) (kp : Nat → Int32) : Prop := p ≤ 40 ∧ nx < 40 ∧ p ≤ tt ∧ ∀ i, i < p → SR m R T (rwX fq ((nx + 39 - i) % 40)) fd (tt - 1 - i) (rwY kp (p - 1 - i))
theorem cKeep {fq fr : Nat → Int32} {nx p : Nat} (hn : nx < 40) (hp : p ≤ 40) : F_X4_keep fq (nI nx) (nI p) fr = some (va_cpy fr fq 0 (nx * 98) 98, nI ((nx + 1) % 40), nI (min (p + 1) 40)) := by
  unfold F_X4_keep
  have e : nI nx * 98 = nI (nx * 98) := pM nx 98
  have e2 : (nI (nx + 1) - nI (nx + 1) / 40 * 40) = nI ((nx + 1) % 40) := pMod (a := nx + 1) (b := 40) (by omega) (by decide)
  rw [e, pS1, pS1, e2, if_pos (nI_pos (by omega)), pCl (by omega), if_pos (by omega)]
  have e3 : (if 40 < nI (p + 1) then (40 : Int32) else nI (p + 1)) = nI (min (p + 1) 40) := by
    rw [show (40 : Int32) = nI 40 from rfl]
    by_cases c : p = 40
    · subst c; rfl
    · rw [if_neg (by rw [pLt (by omega) (by omega)]; omega)]; congr 1; omega
  rw [e3]
def kps (kp : Nat → Int32) (j : Nat) : Nat → Int32 := fun k => if k + 279 < j then kp (k + 279) else kp k
def kpw (kp nw : Nat → Int32) (a j : Nat) : Nat → Int32 := fun k => if 279 * a ≤ k ∧ k < 279 * a + j then nw (k - 279 * a) else kp k
theorem rKeepL {ac : Int32} {nw kp kp0 : Nat → Int32} {a : Nat} (ha : a < 40) : FL_X10_keep_54 ac nw kp0 1000 0 (nI a) kp = some (nI (a + 1), kpw kp nw a 279) := by
  have hl := pLoop (m := 279) (L := fun n i x => FL_X10_keep_54 ac nw kp0 n i (nI a) x) (g := fun j x => upd x (279 * a + j) (nw j)) (fin := fun x => (nI (a + 1), x)) (fun j x => x = kpw kp nw a j) (fun n j x hj hI => ?_) (fun n x hI => ?_) 279 1000 0 kp (by omega) (by omega) ?_
  · exact hl.1.trans (by rw [hl.2])
  · subst hI
    refine ⟨?_, ?_⟩
    · show FL_X10_keep_54 ac nw kp0 (n + 1) (nI j) (nI a) (kpw kp nw a j) = FL_X10_keep_54 ac nw kp0 n (nI (j + 1)) (nI a) _
      have e1 : (279 : Int32) * nI a = nI (279 * a) := pM 279 a
      rw [FL_X10_keep_54, if_neg (by rw [show (279 : Int32) = nI 279 from rfl, pLe (by omega) (by omega)]; omega), e1, nI_add, pIx (by omega) (by omega), pIx (by omega) (by omega), pCl (by omega), pCl (by omega), pS1]
    · funext k; simp only [kpw, upd]
      by_cases c : k = 279 * a + j
      · subst c; simp
      · rw [if_neg c]
        by_cases c2 : 279 * a ≤ k ∧ k < 279 * a + j
        · rw [if_pos c2, if_pos (by omega)]
        · rw [if_neg c2, if_neg (by omega)]
  · subst hI
    show FL_X10_keep_54 ac nw kp0 (n + 1) (nI 279) (nI a) (kpw kp nw a 279) = _
    rw [FL_X10_keep_54, if_pos (show (279 : Int32) ≤ nI 279 from by decide), pS1]
  · funext k; simp only [kpw]; rw [if_neg (by omega)]
theorem rKeep {nw kp : Nat → Int32} {p : Nat} (hp : p ≤ 40) : F_X10_keep (nI p) nw kp = some (nI (min (p + 1) 40), if p = 40 then kpw (kps kp 11160) nw 39 279 else kpw kp nw p 279) := by
  unfold F_X10_keep
  by_cases c : p = 40
  · subst c
    rw [if_pos (show nI 40 = 40 from rfl), if_pos rfl]
    have hl := pLoop (m := 11160) (L := fun n i x => FL_X10_keep_13 (nI 40) nw kp n i (nI 40) x) (g := fun j x => upd x (j - 279) (x j)) (fin := fun _ => (nI 40, kpw (kps kp 11160) nw 39 279)) (fun j x => 279 ≤ j ∧ x = kps kp j) (fun n j x hj hI => ?_) (fun n x hI => ?_) 10881 12000 279 kp (by omega) (by omega) ⟨by omega, ?_⟩
    · exact hl.1
    · obtain ⟨h3, rfl⟩ := hI
      refine ⟨?_, by omega, ?_⟩
      · show FL_X10_keep_13 (nI 40) nw kp (n + 1) (nI j) (nI 40) (kps kp j) = FL_X10_keep_13 (nI 40) nw kp n (nI (j + 1)) (nI 40) _
        have e2 : nI j - 279 = nI (j - 279) := by
          rw [show (279 : Int32) = nI 279 from rfl, pSub (by omega) (by omega)]
        rw [FL_X10_keep_13, if_neg (by rw [show (11160 : Int32) = nI 11160 from rfl, pLe (by omega) (by omega)]; omega), e2, pIx (by omega) (by omega), pIx (by omega) (by omega), pCl (by omega), pCl (by omega), pS1]
      · funext k; simp only [kps, upd]
        by_cases c : k = j - 279
        · rw [if_pos c, if_neg (by omega), if_pos (by omega), show k + 279 = j from by omega]
        · rw [if_neg c]
          by_cases c2 : k + 279 < j
          · rw [if_pos c2, if_pos (by omega)]
          · rw [if_neg c2, if_neg (by omega)]
    · obtain ⟨h3, rfl⟩ := hI
      show FL_X10_keep_13 (nI 40) nw kp (n + 1) (nI 11160) (nI 40) (kps kp 11160) = _
      rw [FL_X10_keep_13, if_pos (show (11160 : Int32) ≤ nI 11160 from by decide), show nI 40 - 1 = nI 39 from by decide, rKeepL (by omega)]
    · funext k; simp only [kps]; rw [if_neg (by omega)]
  · rw [if_neg (by rw [show (40 : Int32) = nI 40 from rfl, pEq (by omega) (by omega)]; exact c), if_neg c, rKeepL (by omega)]
    congr 3; omega
/-- keeping, and writing behind it -/
theorem KP_keep {m : Nat} {R : Nat → Int32} {T : Nat → Nat → Int32} {fr fq fd nw kp : Nat → Int32} {nx p tt : Nat} {a b c : Int32} (hm : m ≤ 8) (h : KP m R T fq nx p fd tt kp) (hs : SR m R T fr fd tt nw) : KP m R T (va_cpy fr fq 0 (nx * 98) 98) ((nx + 1) % 40) (min (p + 1) 40) (wr3 fd (tt % 100) a b c) (tt + 1) (if p = 40 then kpw (kps kp 11160) nw 39 279 else kpw kp nw p 279) := by
  obtain ⟨h1, h2, h3, h4⟩ := h
  refine ⟨by omega, by omega, by omega, fun i hi => ?_⟩
  by_cases ci : i = 0
  · subst ci
    rw [show tt + 1 - 1 - 0 = tt from by omega, show ((nx + 1) % 40 + 39 - 0) % 40 = nx from by omega]
    refine SR_congr hm (fun k hk => ?_) (fun k hk => ?_) (SR_wr (tt := tt) (a := a) (b := b) (c := c) hs (by omega) (by omega))
    · simp only [rwX, va_cpy]
      rw [if_pos (by omega)]; congr 1; omega
    · simp only [rwY]
      by_cases c : p = 40
      · subst c
        simp only [if_true, kpw]
        rw [if_pos (by omega), show 279 * (min (40 + 1) 40 - 1 - 0) + k - 279 * 39 = k from by omega]
      · rw [if_neg c]
        simp only [kpw]
        rw [if_pos (by omega)]; congr 1; omega
  · have hs' := h4 (i - 1) (by omega)
    rw [show tt + 1 - 1 - i = tt - 1 - (i - 1) from by omega]
    refine SR_congr hm (fun k hk => ?_) (fun k hk => ?_) (SR_wr (tt := tt) (a := a) (b := b) (c := c) hs' (by omega) (by omega))
    · simp only [rwX, va_cpy]
      rw [show ((nx + 1) % 40 + 39 - i) % 40 = (nx + 39 - (i - 1)) % 40 from by omega, if_neg (by omega)]
    · simp only [rwY]
      by_cases c : p = 40
      · subst c
        simp only [if_true, kpw, kps]
        rw [if_neg (by omega), if_pos (by omega), show 279 * (min (40 + 1) 40 - 1 - i) + k + 279 = 279 * (40 - 1 - (i - 1)) + k from by omega]
      · rw [if_neg c]
        simp only [kpw]
        rw [if_neg (by omega)]; congr 1; omega
