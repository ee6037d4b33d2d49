section
/-! the tape -/
def bt (z : Int32) (s : Int32) : Int32 := (z >>> (s &&& 31)) &&& 255
theorem b255 {i : Nat} (hi : i < 32) (h8 : 8 ≤ i) : (255#32)[i] = false := by
  rw [BitVec.getElem_eq_testBit_toNat]
  show Nat.testBit 255 i = false
  refine Nat.testBit_lt_two_pow ?_
  have : 2 ^ 8 ≤ 2 ^ i := Nat.pow_le_pow_right (by decide) h8
  omega
theorem sh255 (z : BitVec 32) (s i : Nat) (hs : s ≤ 24) (hi : i < 32) : (z.getLsbD (s + i) && (255#32)[i]) = ((z.sshiftRight s)[i] && (255#32)[i]) := by
  by_cases h8 : 8 ≤ i
  · rw [b255 hi h8]; simp
  · rw [BitVec.getElem_sshiftRight, dif_pos (show s + i < 32 by omega), BitVec.getLsbD_eq_getElem (by omega)]
theorem bt_u24 (z : Int32) : ((z.toUInt32 >>> ((24 : Int32).toUInt32 &&& Int32.toUInt32 31)).toInt32) &&& 255 = bt z 24 := by
  unfold bt
  apply Int32.toBitVec_inj.1
  have e1 : ((24 : Int32).toUInt32 &&& Int32.toUInt32 31) = 24 := by decide
  have e2 : ((24 : Int32) &&& 31) = 24 := by decide
  rw [e1, e2]
  simp only [Int32.toBitVec_and]
  ext i hi
  simp [Int32.toBitVec_shiftRight, UInt32.toBitVec_shiftRight]
  exact sh255 z.toBitVec 24 i (by omega) hi
theorem bt_u16 (z : Int32) : ((z.toUInt32 >>> ((16 : Int32).toUInt32 &&& Int32.toUInt32 31)).toInt32) &&& 255 = bt z 16 := by
  unfold bt
  apply Int32.toBitVec_inj.1
  have e1 : ((16 : Int32).toUInt32 &&& Int32.toUInt32 31) = 16 := by decide
  have e2 : ((16 : Int32) &&& 31) = 16 := by decide
  rw [e1, e2]
  simp only [Int32.toBitVec_and]
  ext i hi
  simp [Int32.toBitVec_shiftRight, UInt32.toBitVec_shiftRight]
  exact sh255 z.toBitVec 16 i (by omega) hi
theorem bt_u8 (z : Int32) : ((z.toUInt32 >>> ((8 : Int32).toUInt32 &&& Int32.toUInt32 31)).toInt32) &&& 255 = bt z 8 := by
  unfold bt
  apply Int32.toBitVec_inj.1
  have e1 : ((8 : Int32).toUInt32 &&& Int32.toUInt32 31) = 8 := by decide
  have e2 : ((8 : Int32) &&& 31) = 8 := by decide
  rw [e1, e2]
  simp only [Int32.toBitVec_and]
  ext i hi
  simp [Int32.toBitVec_shiftRight, UInt32.toBitVec_shiftRight]
  exact sh255 z.toBitVec 8 i (by omega) hi
theorem bt_u0 (z : Int32) : ((z.toUInt32 >>> ((0 : Int32).toUInt32 &&& Int32.toUInt32 31)).toInt32) &&& 255 = bt z 0 := by
  unfold bt
  apply Int32.toBitVec_inj.1
  have e1 : ((0 : Int32).toUInt32 &&& Int32.toUInt32 31) = 0 := by decide
  have e2 : ((0 : Int32) &&& 31) = 0 := by decide
  rw [e1, e2]
  simp only [Int32.toBitVec_and]
  ext i hi
  simp [Int32.toBitVec_shiftRight, UInt32.toBitVec_shiftRight]
theorem and255 (x : Int32) : ∃ k, k < 256 ∧ x &&& 255 = nI k := by
  have h : (x &&& 255).toBitVec.toNat ≤ 255 := by
    rw [Int32.toBitVec_and, BitVec.toNat_and]
    exact Nat.and_le_right
  refine ⟨(x &&& 255).toBitVec.toNat, by omega, ?_⟩
  apply Int32.toBitVec_inj.1
  show _ = (Int32.ofNat _).toBitVec
  rw [Int32.toBitVec_ofNat']
  apply BitVec.eq_of_toNat_eq
  rw [BitVec.toNat_ofNat, Nat.mod_eq_of_lt (by omega)]
theorem nar_c : ∀ k : Fin 256, vp_nar .char (((nI k.1 : Int32).toUInt32 % 65536).toInt32) = nI k.1 := by decide +kernel
theorem nar_b (z s : Int32) : vp_nar .char (((bt z s : Int32).toUInt32 % 65536).toInt32) = bt z s := by
  obtain ⟨k, hk, e⟩ := and255 (z >>> (s &&& 31))
  have e' : bt z s = nI k := e
  rw [e']; exact nar_c ⟨k, hk⟩
/-- one more byte -/
def aB (v : Int32) (a : (Nat → Int32) × Nat) : (Nat → Int32) × Nat := if v = 0 then a else (upd a.1 a.2 v, a.2 + 1)
def eB (v : Int32) : Nat := if v = 0 then 0 else 1
theorem aB_2 (v : Int32) (a : (Nat → Int32) × Nat) : (aB v a).2 = a.2 + eB v := by
  unfold aB eB; split <;> simp
theorem addS {tb : Nat → Int32} {tl z s v : Int32} {n : Nat} {a : (Nat → Int32) × Nat} (hs : ¬ s < 0) (hv : ((z.toUInt32 >>> (s.toUInt32 &&& Int32.toUInt32 31)).toInt32) &&& 255 = v) (hn : vp_nar .char ((v.toUInt32 % 65536).toInt32) = v) (h : a.2 + eB v ≤ 240) : FL_X8_add_3 tb tl z (n + 1) s a.1 (nI a.2) = FL_X8_add_3 tb tl z n (s + (-8)) (aB v a).1 (nI (aB v a).2) := by
  rw [FL_X8_add_3, if_neg hs, hv, pBs]
  unfold aB
  by_cases c : v = 0
  · rw [if_pos c, if_pos c]
  · unfold eB at h
    rw [if_neg c] at h
    rw [if_neg c, if_neg c, if_neg (by rw [show (240 : Int32) = nI 240 from rfl, pLe (by omega) (by omega)]; omega), pIx (by omega) (by omega), pCl (by omega), pS1, hn]
theorem cAdd {tb : Nat → Int32} {z : Int32} {l : Nat} (h : l + eB (bt z 24) + eB (bt z 16) + eB (bt z 8) + eB (bt z 0) ≤ 240) : F_X8_add tb (nI l) z = some ((aB (bt z 0) (aB (bt z 8) (aB (bt z 16) (aB (bt z 24) (tb, l))))).1, nI (aB (bt z 0) (aB (bt z 8) (aB (bt z 16) (aB (bt z 24) (tb, l))))).2) := by
  unfold F_X8_add
  show FL_X8_add_3 tb (nI l) z (995 + 1 + 1 + 1 + 1 + 1) 24 (tb, l).1 (nI (tb, l).2) = _
  rw [addS (by decide) (bt_u24 z) (nar_b z 24) (by show l + _ ≤ 240; omega), show (24 : Int32) + (-8) = 16 from by decide,
    addS (by decide) (bt_u16 z) (nar_b z 16) (by rw [aB_2]; show l + _ + _ ≤ 240; omega), show (16 : Int32) + (-8) = 8 from by decide,
    addS (by decide) (bt_u8 z) (nar_b z 8) (by rw [aB_2, aB_2]; show l + _ + _ + _ ≤ 240; omega), show (8 : Int32) + (-8) = 0 from by decide,
    addS (by decide) (bt_u0 z) (nar_b z 0) (by rw [aB_2, aB_2, aB_2]; show l + _ + _ + _ + _ ≤ 240; omega), show (0 : Int32) + (-8) = -8 from by decide,
    FL_X8_add_3, if_pos (by decide)]
theorem inS {z s v : Int32} {n c : Nat} (hs : ¬ s < 0) (hv : ((z.toUInt32 >>> (s.toUInt32 &&& Int32.toUInt32 31)).toInt32) &&& 255 = v) : FL_X8_bytesIn_5 z (n + 1) (nI c) s = FL_X8_bytesIn_5 z n (nI (c + eB v)) (s + (-8)) := by
  rw [FL_X8_bytesIn_5, if_neg hs, hv, pBs]
  unfold eB
  by_cases c0 : v = 0
  · rw [if_pos c0, if_pos c0, show (0 : Int32) = nI 0 from rfl, nI_add]
  · rw [if_neg c0, if_neg c0, pS1]
def eZ (z : Int32) : Nat := eB (bt z 24) + eB (bt z 16) + eB (bt z 8) + eB (bt z 0)
theorem eB_1 (v : Int32) : eB v ≤ 1 := by unfold eB; split <;> omega
theorem eZ_4 (z : Int32) : eZ z ≤ 4 := by
  unfold eZ
  have := eB_1 (bt z 24); have := eB_1 (bt z 16); have := eB_1 (bt z 8); have := eB_1 (bt z 0)
  omega
theorem cIn {z : Int32} : F_X8_bytesIn z = some (nI (eZ z)) := by
  unfold F_X8_bytesIn
  show FL_X8_bytesIn_5 z (995 + 1 + 1 + 1 + 1 + 1) (nI 0) 24 = _
  rw [inS (by decide) (bt_u24 z), show (24 : Int32) + (-8) = 16 from by decide, inS (by decide) (bt_u16 z), show (16 : Int32) + (-8) = 8 from by decide, inS (by decide) (bt_u8 z), show (8 : Int32) + (-8) = 0 from by decide, inS (by decide) (bt_u0 z), show (0 : Int32) + (-8) = -8 from by decide, FL_X8_bytesIn_5, if_pos (by decide), Nat.zero_add]
  rfl
def aZ (z : Int32) (a : (Nat → Int32) × Nat) : (Nat → Int32) × Nat := aB (bt z 0) (aB (bt z 8) (aB (bt z 16) (aB (bt z 24) a)))
theorem aZ_2 (z : Int32) (a : (Nat → Int32) × Nat) : (aZ z a).2 = a.2 + eZ z := by
  unfold aZ eZ; rw [aB_2, aB_2, aB_2, aB_2]; omega
theorem cAddZ {tb : Nat → Int32} {z : Int32} {l : Nat} (h : l + eZ z ≤ 240) : F_X8_add tb (nI l) z = some ((aZ z (tb, l)).1, nI (aZ z (tb, l)).2) := cAdd (by unfold eZ at h; omega)
theorem cAddP {a : (Nat → Int32) × Nat} {z : Int32} (h : a.2 + eZ z ≤ 240) : F_X8_add a.1 (nI a.2) z = some ((aZ z a).1, nI (aZ z a).2) := cAddZ h
def tOK (tb : Nat → Int32) : Prop := ∀ p, ∃ v, v < 256 ∧ tb p = nI v
theorem tOK_B {z s : Int32} {a : (Nat → Int32) × Nat} (h : tOK a.1) : tOK (aB (bt z s) a).1 := by
  unfold aB
  split
  · exact h
  · intro p
    by_cases c : p = a.2
    · obtain ⟨k, hk, e⟩ := and255 (z >>> (s &&& 31))
      exact ⟨k, hk, by rw [c]; exact pUs.trans e⟩
    · rw [show (upd a.1 a.2 (bt z s), a.2 + 1).1 p = a.1 p from pUn c]; exact h p
theorem tOK_Z {z : Int32} {a : (Nat → Int32) × Nat} (h : tOK a.1) : tOK (aZ z a).1 := by
  unfold aZ; exact tOK_B (tOK_B (tOK_B (tOK_B h)))
/-- the twenty bytes of a feeding -/
def bF (a1 a2 a3 a4 a5 : Int32) : Nat → Int32
  | 0 => bt a1 24 | 1 => bt a1 16 | 2 => bt a1 8 | 3 => bt a1 0
  | 4 => bt a2 24 | 5 => bt a2 16 | 6 => bt a2 8 | 7 => bt a2 0
  | 8 => bt a3 24 | 9 => bt a3 16 | 10 => bt a3 8 | 11 => bt a3 0
  | 12 => bt a4 24 | 13 => bt a4 16 | 14 => bt a4 8 | 15 => bt a4 0
  | 16 => bt a5 24 | 17 => bt a5 16 | 18 => bt a5 8 | 19 => bt a5 0 | _ => 0
theorem rByteOf {a1 a2 a3 a4 a5 : Int32} : ∀ {k : Nat}, k < 20 → F_X10_byteOf a1 a2 a3 a4 a5 (nI k) = some (bF a1 a2 a3 a4 a5 k)
  | 0, _ => rfl | 1, _ => rfl | 2, _ => rfl | 3, _ => rfl | 4, _ => rfl | 5, _ => rfl | 6, _ => rfl | 7, _ => rfl | 8, _ => rfl | 9, _ => rfl
  | 10, _ => rfl | 11, _ => rfl | 12, _ => rfl | 13, _ => rfl | 14, _ => rfl | 15, _ => rfl | 16, _ => rfl | 17, _ => rfl | 18, _ => rfl | 19, _ => rfl
  | k + 20, h => absurd h (by omega)
def eF (B : Nat → Int32) : Nat → Nat → Nat
  | 0, _ => 0
  | n + 1, k => eB (B k) + eF B n (k + 1)
theorem feed_r {tp : Nat → Int32} {l : Nat} {a1 a2 a3 a4 a5 : Int32} (hl : l ≤ 240) : F_X10_feed (nI l) tp a1 a2 a3 a4 a5 = if l + eF (bF a1 a2 a3 a4 a5) 20 0 ≤ 240 then some (nI (pF (fun k a => aB (bF a1 a2 a3 a4 a5 k) a) 20 0 (tp, l)).2, nI (pF (fun k a => aB (bF a1 a2 a3 a4 a5 k) a) 20 0 (tp, l)).2, (pF (fun k a => aB (bF a1 a2 a3 a4 a5 k) a) 20 0 (tp, l)).1) else some (-1, nI l, tp) := by
  unfold F_X10_feed
  have add : l + eF (bF a1 a2 a3 a4 a5) 20 0 ≤ 240 → ∀ x, FL_X10_feed_62 (nI l) tp a1 a2 a3 a4 a5 1000 x 0 (nI l) tp = some (nI (pF (fun k a => aB (bF a1 a2 a3 a4 a5 k) a) 20 0 (tp, l)).2, nI (pF (fun k a => aB (bF a1 a2 a3 a4 a5 k) a) 20 0 (tp, l)).2, (pF (fun k a => aB (bF a1 a2 a3 a4 a5 k) a) 20 0 (tp, l)).1) := fun h x => by
    have hl2 := pLoop (m := 20) (L := fun n i (a : (Nat → Int32) × Nat) => FL_X10_feed_62 (nI l) tp a1 a2 a3 a4 a5 n x i (nI a.2) a.1) (g := fun k a => aB (bF a1 a2 a3 a4 a5 k) a) (fin := fun a => (nI a.2, nI a.2, a.1)) (fun j a => j ≤ 20 ∧ a.2 + eF (bF a1 a2 a3 a4 a5) (20 - j) j ≤ 240) (fun n j a hj hI => ?_) (fun n a hI => ?_) 20 1000 0 (tp, l) (by omega) (by omega) ⟨by omega, h⟩
    · exact hl2.1
    · have e : 20 - j = (20 - (j + 1)) + 1 := by omega
      have hI2 := hI.2
      rw [e] at hI2
      unfold eF at hI2
      refine ⟨?_, by omega, by rw [aB_2]; omega⟩
      show FL_X10_feed_62 (nI l) tp a1 a2 a3 a4 a5 (n + 1) x (nI j) (nI a.2) a.1 = FL_X10_feed_62 (nI l) tp a1 a2 a3 a4 a5 n x (nI (j + 1)) (nI (aB (bF a1 a2 a3 a4 a5 j) a).2) (aB (bF a1 a2 a3 a4 a5 j) a).1
      rw [FL_X10_feed_62, if_neg (by rw [show (20 : Int32) = nI 20 from rfl, pLe (by omega) (by omega)]; omega), rByteOf hj, pBs, pS1]
      unfold aB eB at *
      by_cases c : bF a1 a2 a3 a4 a5 j = 0
      · rw [if_pos c, if_pos c]
      · rw [if_neg c] at hI2
        rw [if_neg c, if_neg c, pIx (by omega) (by omega), pCl (by omega), pS1]
    · show FL_X10_feed_62 (nI l) tp a1 a2 a3 a4 a5 (n + 1) x (nI 20) (nI a.2) a.1 = _
      rw [FL_X10_feed_62, if_pos (show (20 : Int32) ≤ nI 20 from by decide)]
  have eF_le : ∀ (B : Nat → Int32) (n k : Nat), eF B n k ≤ n := by
    intro B n
    induction n with
    | zero => intro k; exact Nat.le_refl 0
    | succ n ih => intro k; unfold eF; have := eB_1 (B k); have := ih (k + 1); omega
  have h20 := eF_le (bF a1 a2 a3 a4 a5) 20 0
  have cnt : ∀ (k j n c : Nat), j + k = 20 → k < n → c + eF (bF a1 a2 a3 a4 a5) k j = eF (bF a1 a2 a3 a4 a5) 20 0 → FL_X10_feed_6 (nI l) tp a1 a2 a3 a4 a5 n (nI c) (nI j) (nI l) tp = if l + eF (bF a1 a2 a3 a4 a5) 20 0 ≤ 240 then some (nI (pF (fun k a => aB (bF a1 a2 a3 a4 a5 k) a) 20 0 (tp, l)).2, nI (pF (fun k a => aB (bF a1 a2 a3 a4 a5 k) a) 20 0 (tp, l)).2, (pF (fun k a => aB (bF a1 a2 a3 a4 a5 k) a) 20 0 (tp, l)).1) else some (-1, nI l, tp) := by
    intro k
    induction k with
    | zero =>
      intro j n c h1 h2 h3
      obtain rfl : j = 20 := by omega
      obtain ⟨n, rfl⟩ : ∃ x, n = x + 1 := ⟨n - 1, by omega⟩
      have h3' : c = eF (bF a1 a2 a3 a4 a5) 20 0 := h3
      rw [FL_X10_feed_6, if_pos (show (20 : Int32) ≤ nI 20 from by decide), nI_add]
      by_cases c2 : l + eF (bF a1 a2 a3 a4 a5) 20 0 ≤ 240
      · rw [if_pos c2, if_pos (by rw [show (240 : Int32) = nI 240 from rfl, pLe (by omega) (by omega)]; omega)]; exact add c2 _
      · rw [if_neg c2, if_neg (by rw [show (240 : Int32) = nI 240 from rfl, pLe (by omega) (by omega)]; omega)]
    | succ k ih =>
      intro j n c h1 h2 h3
      obtain ⟨n, rfl⟩ : ∃ x, n = x + 1 := ⟨n - 1, by omega⟩
      have h3' : c + (eB (bF a1 a2 a3 a4 a5 j) + eF (bF a1 a2 a3 a4 a5) k (j + 1)) = eF (bF a1 a2 a3 a4 a5) 20 0 := h3
      rw [FL_X10_feed_6, if_neg (by rw [show (20 : Int32) = nI 20 from rfl, pLe (by omega) (by omega)]; omega), rByteOf (by omega), pBs, pS1]
      unfold eB at h3'
      by_cases c2 : bF a1 a2 a3 a4 a5 j = 0
      · rw [if_pos c2] at h3'
        rw [if_pos c2, show (0 : Int32) = nI 0 from rfl, nI_add]
        exact ih (j + 1) n (c + 0) (by omega) (by omega) (by omega)
      · rw [if_neg c2] at h3'
        rw [if_neg c2, pS1]
        exact ih (j + 1) n (c + 1) (by omega) (by omega) (by omega)
  exact cnt 20 0 1000 0 (by omega) (by omega) (by omega)
theorem feed_sim {tp : Nat → Int32} {l : Nat} {a1 a2 a3 a4 a5 : Int32} (hl : l ≤ 240) (hb : tOK tp) : ∃ r tp' l', (l' ≤ 240 ∧ tOK tp') ∧ F_X9_feed (nI l) tp a1 a2 a3 a4 a5 = some (r, nI l', tp') ∧ F_X10_feed (nI l) tp a1 a2 a3 a4 a5 = some (r, nI l', tp') := by
  rw [feed_r hl]
  unfold F_X9_feed
  rw [cIn, pBs, cIn, pBs, cIn, pBs, cIn, pBs, cIn, pBs, nI_add, nI_add, nI_add, nI_add, nI_add]
  have h1 := eZ_4 a1; have h2 := eZ_4 a2; have h3 := eZ_4 a3; have h4 := eZ_4 a4; have h5 := eZ_4 a5
  have ee : eF (bF a1 a2 a3 a4 a5) 20 0 = eZ a1 + eZ a2 + eZ a3 + eZ a4 + eZ a5 := by
    simp only [eF, bF, eZ]; omega
  by_cases c : l + eF (bF a1 a2 a3 a4 a5) 20 0 ≤ 240
  · rw [if_pos c]
    rw [ee] at c
    rw [if_pos (by rw [show (240 : Int32) = nI 240 from rfl, pLe (by omega) (by omega)]; omega)]
    rw [cAddZ (by omega), pBs]
    show ∃ r tp' l', (l' ≤ 240 ∧ tOK tp') ∧ ((F_X8_add (aZ a1 (tp, l)).1 (nI (aZ a1 (tp, l)).2) a2).bind _) = _ ∧ _
    rw [cAddP (by rw [aZ_2]; show l + _ + _ ≤ 240; omega), pBs]
    show ∃ r tp' l', (l' ≤ 240 ∧ tOK tp') ∧ ((F_X8_add (aZ a2 (aZ a1 (tp, l))).1 (nI (aZ a2 (aZ a1 (tp, l))).2) a3).bind _) = _ ∧ _
    rw [cAddP (by rw [aZ_2, aZ_2]; show l + _ + _ + _ ≤ 240; omega), pBs]
    show ∃ r tp' l', (l' ≤ 240 ∧ tOK tp') ∧ ((F_X8_add (aZ a3 (aZ a2 (aZ a1 (tp, l)))).1 (nI (aZ a3 (aZ a2 (aZ a1 (tp, l)))).2) a4).bind _) = _ ∧ _
    rw [cAddP (by rw [aZ_2, aZ_2, aZ_2]; show l + _ + _ + _ + _ ≤ 240; omega), pBs]
    show ∃ r tp' l', (l' ≤ 240 ∧ tOK tp') ∧ ((F_X8_add (aZ a4 (aZ a3 (aZ a2 (aZ a1 (tp, l))))).1 (nI (aZ a4 (aZ a3 (aZ a2 (aZ a1 (tp, l))))).2) a5).bind _) = _ ∧ _
    rw [cAddP (by rw [aZ_2, aZ_2, aZ_2, aZ_2]; show l + _ + _ + _ + _ + _ ≤ 240; omega), pBs]
    refine ⟨_, _, (aZ a5 (aZ a4 (aZ a3 (aZ a2 (aZ a1 (tp, l)))))).2, ⟨?_, tOK_Z (tOK_Z (tOK_Z (tOK_Z (tOK_Z (a := (tp, l)) hb))))⟩, rfl, rfl⟩
    rw [aZ_2, aZ_2, aZ_2, aZ_2, aZ_2]; show l + _ + _ + _ + _ + _ ≤ 240; omega
  · rw [if_neg c]
    rw [ee] at c
    rw [if_neg (by rw [show (240 : Int32) = nI 240 from rfl, pLe (by omega) (by omega)]; omega)]
    exact ⟨_, tp, l, ⟨hl, hb⟩, rfl, rfl⟩
theorem end_sim {l : Nat} {z1 : Int32} (hl : l ≤ 240) : ∃ r l', l' ≤ 240 ∧ F_X9_end (nI l) z1 = some (r, nI l') ∧ F_X10_end (nI l) z1 = some (r, nI l') := by
  unfold F_X9_end F_X10_end
  rw [rIn, pBs]
  by_cases c1 : z1 < 0
  · rw [if_pos c1, if_pos (show pb (!decide (z1 < 0) && !decide (nI l < z1)) = 0 by simp [c1, pb])]; exact ⟨_, l, hl, rfl, rfl⟩
  · rw [if_neg c1]
    obtain ⟨k, hk, rfl⟩ := nI_of c1
    by_cases c2 : k ≤ l
    · rw [if_pos ((pLe hk (by omega)).mpr c2), if_neg (show ¬ pb (!decide (nI k < 0) && !decide (nI l < nI k)) = 0 by
        have : ¬ nI l < nI k := fun q => by have := (pLt (by omega) hk).mp q; omega
        simp [c1, this, pb])]
      exact ⟨_, k, by omega, rfl, rfl⟩
    · rw [if_neg (fun q => c2 ((pLe hk (by omega)).mp q)), if_pos (show pb (!decide (nI k < 0) && !decide (nI l < nI k)) = 0 by
        have : nI l < nI k := (pLt (by omega) hk).mpr (by omega)
        simp [this, pb])]
      exact ⟨_, l, hl, rfl, rfl⟩
end

section
/-! reading: characters, blanks, numbers -/
def ch (tb : Nat → Int32) (l a : Nat) : Int32 := if a < l then tb a else -1
def sk (tb : Nat → Int32) (l : Nat) : Nat → Nat → Nat
  | 0, a => a
  | n + 1, a => if a < l ∧ tb a = 32 then sk tb l n (a + 1) else a
def skp (tb : Nat → Int32) (l a : Nat) : Nat := sk tb l (l - a) a
def dg (v : Int32) : Bool := !decide (v < 48) && !decide (57 < v)
section
variable {tb : Nat → Int32} {l : Nat}
theorem ch_end {a : Nat} (h : l ≤ a) : ch tb l a = -1 := if_neg (by omega)
theorem ch_in {a : Nat} (h : a < l) : ch tb l a = tb a := if_pos h
theorem ch_b (hb : tOK tb) {a : Nat} (h : a < l) : ∃ v, v < 256 ∧ ch tb l a = nI v := by rw [ch_in h]; exact hb a
theorem ch_m (hb : tOK tb) {a : Nat} : ch tb l a = -1 ↔ l ≤ a := by
  refine ⟨fun h => ?_, ch_end⟩
  refine Decidable.byContradiction (fun q => ?_)
  obtain ⟨v, hv, e⟩ := ch_b hb (show a < l by omega)
  rw [e, pNm (by omega)] at h; exact h
theorem sk_spec : ∀ (n a : Nat), a ≤ l → l ≤ a + n → a ≤ sk tb l n a ∧ sk tb l n a ≤ l ∧ ch tb l (sk tb l n a) ≠ 32
  | 0, a, h1, h2 => by
    unfold sk
    refine ⟨by omega, by omega, ?_⟩
    rw [ch_end (by omega)]; decide
  | n + 1, a, h1, h2 => by
    unfold sk
    by_cases c : a < l ∧ tb a = 32
    · rw [if_pos c]
      obtain ⟨e1, e2, e3⟩ := sk_spec n (a + 1) (by omega) (by omega)
      exact ⟨by omega, e2, e3⟩
    · rw [if_neg c]
      refine ⟨by omega, by omega, ?_⟩
      by_cases ca : a < l
      · rw [ch_in ca]; exact fun q => c ⟨ca, q⟩
      · rw [ch_end (by omega)]; decide
theorem skp_s {a : Nat} (h : a ≤ l) : a ≤ skp tb l a ∧ skp tb l a ≤ l ∧ ch tb l (skp tb l a) ≠ 32 := sk_spec (l - a) a h (by omega)
theorem skp_id {a : Nat} (h : ch tb l a ≠ 32) : skp tb l a = a := by
  unfold skp
  cases hn : l - a with
  | zero => rfl
  | succ n =>
    unfold sk
    rw [if_neg (fun q => h (by rw [ch_in q.1]; exact q.2))]
theorem cSkip {a : Nat} (hl : l ≤ 240) (h : a ≤ l) : F_X6_skipBlanks tb (nI l) (nI a) = some (nI (skp tb l a)) := by
  unfold F_X6_skipBlanks
  have key : ∀ (k n a : Nat) (x : Int32), a ≤ l → a + k = l → k < n → FL_X6_skipBlanks_0 tb (nI l) x n (nI a) = some (nI (sk tb l k a)) := by
    intro k
    induction k with
    | zero =>
      intro n a x h1 h2 h3
      obtain ⟨n, rfl⟩ : ∃ y, n = y + 1 := ⟨n - 1, by omega⟩
      rw [FL_X6_skipBlanks_0, if_pos ((pLe (by omega) (by omega)).mpr (by omega))]; rfl
    | succ k ih =>
      intro n a x h1 h2 h3
      obtain ⟨n, rfl⟩ : ∃ y, n = y + 1 := ⟨n - 1, by omega⟩
      rw [FL_X6_skipBlanks_0, if_neg (fun q => by have := (pLe (by omega) (by omega)).mp q; omega), pIx (by omega) (by omega), pCl (by omega), pS1]
      unfold sk
      by_cases c : tb a = 32
      · rw [if_pos c, if_pos ⟨by omega, c⟩]; exact ih n (a + 1) x (by omega) (by omega) (by omega)
      · rw [if_neg c, if_neg (fun q => c q.2)]
  exact key (l - a) 1000 a (nI a) h (by omega) (by omega)
theorem rHere {a : Nat} (hl : l ≤ 240) (h : a ≤ l) : F_X10_here (nI l) (nI a) tb = some (ch tb l a) := by
  unfold F_X10_here
  by_cases c : a < l
  · rw [if_neg (fun q => by have := (pLe (by omega) (by omega)).mp q; omega), pIx (by omega) (by omega), pCl (by omega), ch_in c]
  · rw [if_pos ((pLe (by omega) (by omega)).mpr (by omega)), ch_end (by omega)]
theorem rAhead {a : Nat} (hl : l ≤ 240) (h : a ≤ l) : F_X10_ahead (nI l) (nI a) tb = some (ch tb l (skp tb l a), nI (skp tb l a)) := by
  unfold F_X10_ahead
  have key : ∀ (k n a : Nat) (x : Int32), a ≤ l → a + k = l → k < n → FL_X10_ahead_0 (nI l) x tb n (nI a) = some (ch tb l (sk tb l k a), nI (sk tb l k a)) := by
    intro k
    induction k with
    | zero =>
      intro n a x h1 h2 h3
      obtain ⟨n, rfl⟩ : ∃ y, n = y + 1 := ⟨n - 1, by omega⟩
      rw [FL_X10_ahead_0, rHere hl h1, pBs, ch_end (by omega), if_neg (by decide), pBs]
      unfold sk; rw [ch_end (by omega)]
    | succ k ih =>
      intro n a x h1 h2 h3
      obtain ⟨n, rfl⟩ : ∃ y, n = y + 1 := ⟨n - 1, by omega⟩
      rw [FL_X10_ahead_0, rHere hl h1, pBs, pBs, pS1]
      unfold sk
      rw [ch_in (show a < l by omega)]
      by_cases c : tb a = 32
      · rw [if_pos c, if_pos ⟨by omega, c⟩]; exact ih n (a + 1) x (by omega) (by omega) (by omega)
      · rw [if_neg c, if_neg (fun q => c q.2), ch_in (show a < l by omega)]
  exact key (l - a) 1000 a (nI a) h (by omega) (by omega)
theorem cStands {a : Nat} {c : Int32} (hl : l ≤ 240) (h : a ≤ l) (hc : c ≠ -1) : F_X6_stands tb (nI l) (nI a) c = some (pb (decide (ch tb l a = c))) := by
  unfold F_X6_stands
  by_cases q : a < l
  · rw [if_neg (fun q => by have := (pLe (by omega) (by omega)).mp q; omega), pIx (by omega) (by omega), pCl (by omega), ch_in q]
    by_cases w : tb a = c <;> simp [w, pb]
  · rw [if_pos ((pLe (by omega) (by omega)).mpr (by omega)), ch_end (by omega)]
    have : ¬ (-1 : Int32) = c := fun w => hc w.symm
    simp [this, pb]
theorem cDig {a : Nat} (hl : l ≤ 240) (h : a ≤ l) : F_X6_standsDigit tb (nI l) (nI a) = some (pb (dg (ch tb l a))) := by
  unfold F_X6_standsDigit dg
  by_cases q : a < l
  · rw [if_neg (fun q => by have := (pLe (by omega) (by omega)).mp q; omega), pIx (by omega) (by omega), pIx (by omega) (by omega), pCl (by omega), ch_in q]
    by_cases w : tb a < 48 <;> by_cases w2 : 57 < tb a <;> simp [w, w2, pb]
  · rw [if_pos ((pLe (by omega) (by omega)).mpr (by omega)), ch_end (by omega)]; rfl
theorem rDig {v : Int32} : F_X10_isDigit v = some (pb (dg v)) := by
  unfold F_X10_isDigit dg
  by_cases w : v < 48 <;> by_cases w2 : 57 < v <;> simp [w, w2, pb]
theorem dg_in {a : Nat} (h : dg (ch tb l a) = true) : a < l := by
  refine Decidable.byContradiction (fun q => ?_)
  rw [ch_end (by omega)] at h; exact absurd h (by decide)
theorem cRdD {a : Nat} {rv : Int32} (hl : l ≤ 240) (h : a ≤ l) : F_X6_readDigit tb (nI l) (nI a) rv = some (if dg (ch tb l a) = true then (1, nI (a + 1), ch tb l a - 48) else (0, nI a, rv)) := by
  unfold F_X6_readDigit
  rw [cDig hl h, pBs]
  by_cases c : dg (ch tb l a) = true
  · have := dg_in c
    rw [c, if_neg (show ¬ pb true = 0 from by decide), pIx (by omega) (by omega), pCl (by omega), pS1, if_pos rfl, ch_in this]
  · have c' : dg (ch tb l a) = false := by simpa using c
    rw [c', if_pos (show pb false = 0 from rfl), if_neg (by decide)]
/-- digits, so many at most -/
def nmG (tb : Nat → Int32) (l : Nat) : Nat → Nat → Int32 → Nat × Int32
  | 0, a, x => (a, x)
  | k + 1, a, x => if dg (ch tb l a) = true then nmG tb l k (a + 1) (x * 10 + (ch tb l a - 48)) else (a, x)
theorem nmG_le : ∀ (k a : Nat) (x : Int32), a ≤ l → a ≤ (nmG tb l k a x).1 ∧ (nmG tb l k a x).1 ≤ l
  | 0, a, x, h => ⟨Nat.le_refl a, h⟩
  | k + 1, a, x, h => by
    unfold nmG
    by_cases c : dg (ch tb l a) = true
    · rw [if_pos c]
      have := dg_in c
      have ih := nmG_le k (a + 1) (x * 10 + (ch tb l a - 48)) (by omega)
      exact ⟨by omega, ih.2⟩
    · rw [if_neg c]; exact ⟨Nat.le_refl a, h⟩
theorem cNum {a z : Nat} {rv : Int32} (hl : l ≤ 240) (h : a ≤ l) (hz : z ≤ 3) : F_X6_readNumber tb (nI l) (nI a) rv (nI z) = some (pb (decide (a < (nmG tb l z a 0).1) && !dg (ch tb l (nmG tb l z a 0).1)), nI (nmG tb l z a 0).1, (nmG tb l z a 0).2) := by
  unfold F_X6_readNumber
  have key : ∀ (k n c b : Nat) (x y : Int32), c + k = z → k < n → b ≤ l → b = a + c → FL_X6_readNumber_4 tb (nI l) (nI a) rv (nI z) n x (nI c) (nI b) y = some (pb (decide (a < (nmG tb l k b x).1) && !dg (ch tb l (nmG tb l k b x).1)), nI (nmG tb l k b x).1, (nmG tb l k b x).2) := by
    intro k
    induction k with
    | zero =>
      intro n c b x y h1 h2 h3 h4
      obtain ⟨n, rfl⟩ : ∃ y, n = y + 1 := ⟨n - 1, by omega⟩
      obtain rfl : c = z := by omega
      rw [FL_X6_readNumber_4, if_pos (le_rfl32 _), cDig hl h3, pBs]
      unfold nmG
      by_cases c0 : c = 0
      · rw [if_pos (by rw [pLe0 (by omega)]; exact c0)]
        have : ¬ a < b := by omega
        simp [this, pb]
      · rw [if_neg (by rw [pLe0 (by omega)]; exact c0)]
        have : a < b := by omega
        by_cases w : dg (ch tb l b) = true <;> simp [this, w, pb]
    | succ k ih =>
      intro n c b x y h1 h2 h3 h4
      obtain ⟨n, rfl⟩ : ∃ y, n = y + 1 := ⟨n - 1, by omega⟩
      rw [FL_X6_readNumber_4, if_neg (fun q => by have := (pLe (by omega) (by omega)).mp q; omega), cRdD hl h3, pBs]
      unfold nmG
      by_cases w : dg (ch tb l b) = true
      · have := dg_in w
        rw [if_pos w, if_pos w]
        show (if (1 : Int32) = 0 then _ else FL_X6_readNumber_4 tb (nI l) (nI a) rv (nI z) n (x * 10 + (ch tb l b - 48)) (nI c + 1) (nI (b + 1)) (ch tb l b - 48)) = _
        rw [if_neg (by decide), pS1]
        exact ih n (c + 1) (b + 1) _ _ (by omega) (by omega) (by omega) (by omega)
      · have w' : dg (ch tb l b) = false := by simpa using w
        rw [if_neg w, if_neg w]
        show (if (0 : Int32) = 0 then (if nI c ≤ 0 then some (0, nI b, x) else (F_X6_standsDigit tb (nI l) (nI b)).bind _) else _) = _
        rw [if_pos rfl, cDig hl h3, pBs, w']
        by_cases c0 : c = 0
        · rw [if_pos (by rw [pLe0 (by omega)]; exact c0)]
          have : ¬ a < b := by omega
          simp [this, pb]
        · rw [if_neg (by rw [pLe0 (by omega)]; exact c0)]
          have : a < b := by omega
          simp [this, w', pb]
  exact key z 1000 0 a 0 rv (by omega) (by omega) h (by omega)
/-- a number, as the reference reads it -/
def nmR (tb : Nat → Int32) (l z : Nat) (lo hi : Int32) (a : Nat) : Int32 × Nat × Int32 :=
  if dg (ch tb l a) = true then
    (if dg (ch tb l (nmG tb l z a 0).1) = true then ((nmG tb l z a 0).2, (nmG tb l z a 0).1, nI (nmG tb l z a 0).1)
     else if (!decide ((nmG tb l z a 0).2 < lo) && !decide (hi < (nmG tb l z a 0).2)) = true then ((nmG tb l z a 0).2, (nmG tb l z a 0).1, -1)
     else ((nmG tb l z a 0).2, (nmG tb l z a 0).1 - 1, nI ((nmG tb l z a 0).1 - 1)))
  else (lo, a, nI a)
theorem dig_eq (x o : Int32) : ((10 * x) + o) - 48 = x * 10 + (o - 48) := by
  rw [Int32.mul_comm 10 x, Int32.sub_eq_add_neg, Int32.sub_eq_add_neg, Int32.add_assoc]
theorem rNum {a z : Nat} {lo hi : Int32} (hl : l ≤ 240) (h : a ≤ l) (hz : z ≤ 3) (hz1 : 1 ≤ z) : F_X10_number (nI l) (nI a) (-1) tb (nI z) lo hi = some ((nmR tb l z lo hi (skp tb l a)).1, nI (nmR tb l z lo hi (skp tb l a)).2.1, (nmR tb l z lo hi (skp tb l a)).2.2) := by
  unfold F_X10_number
  obtain ⟨s1, s2, s3⟩ := skp_s (tb := tb) h
  rw [rAhead hl h, pBs]
  generalize skp tb l a = b at s1 s2 s3 ⊢
  show ((F_X10_isDigit (ch tb l b)).bind fun o_3 => _) = _
  rw [rDig, pBs]
  unfold nmR F_X10_bad
  by_cases w : dg (ch tb l b) = true
  · rw [w, if_neg (show ¬ pb true = 0 from by decide), if_pos rfl]
    have hgt : b < (nmG tb l z b 0).1 := by
      obtain ⟨y, rfl⟩ : ∃ y, z = y + 1 := ⟨z - 1, by omega⟩
      unfold nmG; rw [if_pos w]
      have := dg_in w
      have := (nmG_le (tb := tb) (l := l) y (b + 1) (0 * 10 + (ch tb l b - 48)) (by omega)).1
      omega
    have key : ∀ (k n c d : Nat) (x x0 : Int32), c + k = z → k < n → d ≤ l → b < (nmG tb l k d x).1 → FL_X10_number_22 (nI l) x0 (-1) tb (nI z) lo hi n x (nI c) (nI d) (-1) = some (if dg (ch tb l (nmG tb l k d x).1) = true then ((nmG tb l k d x).2, nI (nmG tb l k d x).1, nI (nmG tb l k d x).1) else if (!decide ((nmG tb l k d x).2 < lo) && !decide (hi < (nmG tb l k d x).2)) = true then ((nmG tb l k d x).2, nI (nmG tb l k d x).1, -1) else ((nmG tb l k d x).2, nI ((nmG tb l k d x).1 - 1), nI ((nmG tb l k d x).1 - 1))) := by
      intro k
      induction k with
      | zero =>
        intro n c d x x0 h1 h2 h3 h4
        obtain ⟨n, rfl⟩ : ∃ y, n = y + 1 := ⟨n - 1, by omega⟩
        obtain rfl : c = z := by omega
        unfold nmG at h4 ⊢
        have hd1 : b < d := h4
        have ed : nI d - 1 = nI (d - 1) := by rw [show (1 : Int32) = nI 1 from rfl, pSub (by omega) (by omega)]
        rw [FL_X10_number_22, if_pos (le_rfl32 _), rHere hl h3, pBs, rDig, pBs, rIn, pBs, ed]
        unfold F_X10_bad
        by_cases q : dg (ch tb l d) = true <;> by_cases q2 : (!decide (x < lo) && !decide (hi < x)) = true <;> simp [q, q2, pb, pBs]
      | succ k ih =>
        intro n c d x x0 h1 h2 h3 h4
        obtain ⟨n, rfl⟩ : ∃ y, n = y + 1 := ⟨n - 1, by omega⟩
        rw [FL_X10_number_22, if_neg (fun q => by have := (pLe (by omega) (by omega)).mp q; omega), rHere hl h3, pBs, rDig, pBs, pBs, pBs, rIn, pBs]
        unfold nmG at h4 ⊢
        by_cases q : dg (ch tb l d) = true
        · have := dg_in q
          rw [if_pos q] at h4 ⊢
          rw [q, if_neg (show ¬ pb true = 0 from by decide), pS1, pS1, dig_eq]
          exact ih n (c + 1) (d + 1) _ _ (by omega) (by omega) (by omega) h4
        · have q' : dg (ch tb l d) = false := by simpa using q
          rw [if_neg q] at h4 ⊢
          have hd1 : b < d := h4
          have ed : nI d - 1 = nI (d - 1) := by rw [show (1 : Int32) = nI 1 from rfl, pSub (by omega) (by omega)]
          rw [ed]
          unfold F_X10_bad
          by_cases q2 : (!decide (x < lo) && !decide (hi < x)) = true <;> simp [q', q2, pb, pBs, rDig]
    rw [show FL_X10_number_22 (nI l) (nI a) (-1) tb (nI z) lo hi 1000 0 0 ((ch tb l b, nI b) : Int32 × Int32).2 (-1) = _ from key z 1000 0 b 0 (nI a) (by omega) (by omega) s2 hgt]
    by_cases q : dg (ch tb l (nmG tb l z b 0).1) = true
    · rw [if_pos q, if_pos q]
    · rw [if_neg q, if_neg q]
      by_cases q2 : (!decide ((nmG tb l z b 0).2 < lo) && !decide (hi < (nmG tb l z b 0).2)) = true
      · rw [if_pos q2, if_pos q2]
      · rw [if_neg q2, if_neg q2]
  · have w' : dg (ch tb l b) = false := by simpa using w
    rw [w', if_pos (show pb false = 0 from rfl), if_pos (show (-1 : Int32) = -1 from rfl), pBs, if_neg Bool.false_ne_true]
theorem idx0 : ∀ v : Fin 256, F_J0_indexOf_0 (nI v.1) = F_X10_itemOf 115 (nI v.1) := by decide +kernel
theorem idx1 : ∀ v : Fin 256, F_J0_indexOf_1 (nI v.1) = F_X10_itemOf 100 (nI v.1) := by decide +kernel
theorem idx2 : ∀ v : Fin 256, F_J0_indexOf_2 (nI v.1) = F_X10_sortOf (nI v.1) := by decide +kernel
theorem itm0 : ∀ v : Fin 256, F_X10_itemOf 115 (nI v.1) = some (-1) ∨ ∃ i : Fin 8, F_X10_itemOf 115 (nI v.1) = some (nI i.1) ∧ v.1 ≠ 59 := by decide +kernel
theorem itm1 : ∀ v : Fin 256, F_X10_itemOf 100 (nI v.1) = some (-1) ∨ ∃ i : Fin 6, F_X10_itemOf 100 (nI v.1) = some (nI i.1) ∧ v.1 ≠ 59 := by decide +kernel
theorem itm2 : ∀ v : Fin 256, F_X10_sortOf (nI v.1) = some (-1) ∨ ∃ i : Fin 6, F_X10_sortOf (nI v.1) = some (nI i.1) := by decide +kernel
end
end

section
/-! items of a clause -/
theorem pNum_one {i m : Nat} (hi : i < m) : pNum (fun e => decide (e = i)) m = 1 := by
  have h0 : ∀ j, j ≤ i → pNum (fun e => decide (e = i)) j = 0 := by
    intro j
    induction j with
    | zero => intro _; rfl
    | succ j ih => intro h; rw [pNum_s, if_neg (fun q => absurd (of_decide_eq_true q) (by omega))]; exact ih (by omega)
  have h1 : ∀ k, pNum (fun e => decide (e = i)) (i + 1 + k) = 1 := by
    intro k
    induction k with
    | zero => rw [Nat.add_zero, pNum_s, if_pos (by simp), h0 i (Nat.le_refl i)]
    | succ k ih => rw [show i + 1 + (k + 1) = (i + 1 + k) + 1 from by omega, pNum_s, if_neg (fun q => absurd (of_decide_eq_true q) (by omega))]; exact ih
  have := h1 (m - (i + 1))
  rw [show i + 1 + (m - (i + 1)) = m from by omega] at this
  exact this
def lo_s : Nat → Nat | 0 => 1 | 1 => 1 | 2 => 1 | 3 => 1 | 4 => 1 | 5 => 20 | 6 => 10 | 7 => 1 | _ => 0
def hi_s : Nat → Nat | 0 => 4 | 1 => 9 | 2 => 9 | 3 => 5 | 4 => 9 | 5 => 200 | 6 => 99 | 7 => 9 | _ => 0
def lo_d : Nat → Nat | _ => 0
def hi_d : Nat → Nat | 0 => 4 | 1 => 2 | 2 => 9 | 3 => 1 | 4 => 99 | 5 => 3 | _ => 0

theorem itE_s : F_X10_itemOf 115 (-1) = some (-1) := by decide
theorem itS_s : F_X10_itemOf 115 59 = some (-1) := by decide
theorem loH_s : ∀ i : Fin 8, F_X10_lowest 115 (nI i.1) = some (q_tab 0 i.1) ∧ F_X10_highest 115 (nI i.1) = some (q_tab 1 i.1) := by decide
theorem rng_s : ∀ i : Fin 8, q_tab 0 i.1 = nI (lo_s i.1) ∧ q_tab 1 i.1 = nI (hi_s i.1) ∧ lo_s i.1 ≤ 200 ∧ hi_s i.1 ≤ 200 := by decide
def row_s (_e : Nat) (fi rr : Nat → Int32) : Prop := ∀ i, i < 8 → fi (i) = rr (i) ∧ ∃ v, lo_s i ≤ v ∧ v ≤ hi_s i ∧ fi (i) = nI v
/-- only these cells change -/
def frm_s (_e : Nat) (fi fi' rr rr' : Nat → Int32) : Prop := (∀ k, (∀ i, i < 8 → k ≠ i) → fi' k = fi k) ∧ ∀ k, (∀ i, i < 8 → k ≠ i) → rr' k = rr k
theorem items_s {tb : Nat → Int32} {l  : Nat} {ra0 rv0 at0 wr0 z4 : Int32} {fi0 rr0 : Nat → Int32} (hl : l ≤ 240) (hb : tOK tb) : ∀ (k n n' c a : Nat) (P : Nat → Bool) (rv : Int32) (fi rr : Nat → Int32), c + k = 8 + 1 → k < n → k < n' → c = pNum P 8 → a ≤ l → row_s 0 fi rr →
    ∃ w a' rv' fi' b w' rr', FL_X6_readItems_s_16 tb (nI l) ra0 rv0 fi0 (0) 1 n (pSet P 8) (nI c) (nI a) rv fi = some (w, nI a', rv', fi') ∧ (∀ o, F_X10_itemOf 115 (ch tb l (skp tb l a)) = some o → FL_X10_items_s_41 (nI l) at0 wr0 tb rr0 115 (0) z4 n' (pSet P 8) o (nI (skp tb l a)) (-1) rr = some (nI b, w', rr')) ∧ a' ≤ l ∧ frm_s 0 fi fi' rr rr' ∧
      ((w = -1 ∧ w' = -1 ∧ b = a' ∧ (a' = l ∨ ch tb l a' = 59) ∧ a ≤ a' ∧ row_s 0 fi' rr') ∨ (∃ q, q ≤ l ∧ w = nI q ∧ (w' = nI q ∨ (w' = -1 ∧ b = q ∧ q < l ∧ ch tb l q ≠ 59 ∧ ch tb l q ≠ 32))))
  | k, 0, n', c, a, P, rv, fi, rr, _, h, _, _, _, _ => absurd h (by omega)
  | k, n + 1, 0, c, a, P, rv, fi, rr, _, _, h, _, _, _ => absurd h (by omega)
  | 0, n + 1, n' + 1, c, a, P, rv, fi, rr, h1, h2, h3, h4, h5, hrow => by
    have := pNum_le P 8
    omega
  | k + 1, n + 1, n' + 1, c, a, P, rv, fi, rr, h1, h2, h3, h4, h5, hrow => by
    have hc := pNum_le P 8
    obtain ⟨s1, s2, s3⟩ := skp_s (tb := tb) h5
    have hf0 : frm_s 0 fi fi rr rr := ⟨fun _ _ => rfl, fun _ _ => rfl⟩
    have eX : ∀ q : Int32, FL_X10_items_s_41 (nI l) at0 wr0 tb rr0 115 (0) z4 (n' + 1) (pSet P 8) (-1) (nI (skp tb l a)) (-1) rr = some (nI (skp tb l a), -1, rr) := fun _ => by
      rw [FL_X10_items_s_41, if_pos rfl, if_pos rfl]
    rw [FL_X6_readItems_s_16, show F_J0_length_0 = some (nI 8) from by decide, pBs, if_neg (fun q => by have := (pLt (by omega) (by omega)).mp q; omega), cSkip hl h5, pBs]
    generalize hs : skp tb l a = s at s1 s2 s3 eX ⊢
    by_cases ce : l ≤ s
    · rw [if_pos ((pLe (by omega) (by omega)).mpr ce)]
      refine ⟨_, s, _, _, s, -1, rr, rfl, fun o ho => ?_, by omega, hf0, Or.inl ⟨rfl, rfl, rfl, Or.inl (by omega), by omega, hrow⟩⟩
      rw [ch_end ce, itE_s] at ho
      obtain rfl := (Option.some.inj ho).symm
      exact eX 0
    · have hsl : s < l := by omega
      rw [if_neg (fun q => ce ((pLe (by omega) (by omega)).mp q)), cStands hl s2 (by decide), pBs]
      by_cases c59 : ch tb l s = 59
      · rw [if_neg (show ¬ pb (decide (ch tb l s = 59)) = 0 by simp [c59, pb])]
        refine ⟨_, s, _, _, s, -1, rr, rfl, fun o ho => ?_, by omega, hf0, Or.inl ⟨rfl, rfl, rfl, Or.inr c59, by omega, hrow⟩⟩
        rw [c59, itS_s] at ho
        obtain rfl := (Option.some.inj ho).symm
        exact eX 0
      · rw [if_pos (show pb (decide (ch tb l s = 59)) = 0 by simp [c59, pb]), pIx (by omega) (by omega), pCl (by omega)]
        obtain ⟨v, hv, ev⟩ := hb s
        have ech : ch tb l s = nI v := by rw [ch_in hsl]; exact ev
        rw [ev, idx0 ⟨v, hv⟩, ech]
        rcases itm0 ⟨v, hv⟩ with q | ⟨⟨i, hi⟩, q, hv59⟩
        · rw [show F_X10_itemOf 115 (nI v) = some (-1) from q, pBs, if_pos (by decide)]
          refine ⟨_, s, _, _, s, -1, rr, rfl, fun o ho => ?_, by omega, hf0, Or.inr ⟨s, by omega, rfl, Or.inr ⟨rfl, rfl, hsl, c59, s3⟩⟩⟩
          obtain rfl := (Option.some.inj ho).symm
          exact eX 0
        · rw [show F_X10_itemOf 115 (nI v) = some (nI i) from q, pBs, if_neg (nI_pos (by omega)), pHas (m := 8) (by omega) (by omega)]
          have hP : (P i && decide (i < 8)) = P i := by simp [hi]
          rw [hP]
          by_cases cP : P i = true
          · rw [cP, if_pos (show (if true = true then (1 : Int32) else 0) = 1 from rfl)]
            refine ⟨_, s, _, _, s, -1, rr, rfl, fun o ho => ?_, by omega, hf0, Or.inr ⟨s, by omega, rfl, Or.inr ⟨rfl, rfl, hsl, c59, s3⟩⟩⟩
            obtain rfl := (Option.some.inj ho).symm
            rw [FL_X10_items_s_41, if_pos rfl, if_neg (by rw [pNm (by omega)]; exact id), pBit P 8 i (by omega) (by omega), hP, cP, pBs, if_neg (by decide)]
          · have cP' : P i = false := by simpa using cP
            rw [cP', if_neg (show ¬ (if false = true then (1 : Int32) else 0) = 1 from by decide), pS1, cSkip hl (by omega), pBs]
            obtain ⟨t1, t2, t3⟩ := skp_s (tb := tb) (show s + 1 ≤ l by omega)
            have hn := cNum (tb := tb) (a := skp tb l (s + 1)) (z := 3) (rv := rv) hl t2 (by omega)
            have hR := fun lo hi => rNum (tb := tb) (a := s + 1) (z := 3) (lo := lo) (hi := hi) hl (by omega) (by omega) (by omega)
            obtain ⟨l1, l2⟩ := loH_s ⟨i, hi⟩
            obtain ⟨r1, r2, r3, r4⟩ := rng_s ⟨i, hi⟩
            have r3 : lo_s i ≤ 200 := r3
            have r4 : hi_s i ≤ 200 := r4
            have r1 : q_tab 0 i = nI (lo_s i) := r1
            have r2 : q_tab 1 i = nI (hi_s i) := r2
            have eY : ∀ o, some (nI i) = some o → FL_X10_items_s_41 (nI l) at0 wr0 tb rr0 115 (0) z4 (n' + 1) (pSet P 8) o (nI s) (-1) rr = (F_X10_number (nI l) (nI (s + 1)) (-1) tb 3 (q_tab 0 i) (q_tab 1 i)).bind fun o_15 => (if (0 + nI i) < 0 ∨ 8 ≤ ((0 + nI i)).toNatClampNeg then none else (if o_15.2.2 = -1 then ((F_X10_ahead (nI l) (o_15.2.1) tb).bind fun o_19 => ((F_X10_itemOf 115 o_19.1).bind fun o_21 => FL_X10_items_s_41 (nI l) at0 wr0 tb rr0 115 (0) z4 n' (pSet P 8 ||| (1 <<< (nI i &&& 31))) o_21 o_19.2 o_15.2.2 (upd rr (0 + nI i).toNatClampNeg o_15.1))) else FL_X10_items_s_41 (nI l) at0 wr0 tb rr0 115 (0) z4 n' (pSet P 8 ||| (1 <<< (nI i &&& 31))) (-1) o_15.2.1 o_15.2.2 (upd rr (0 + nI i).toNatClampNeg o_15.1))) := fun o ho => by
              obtain rfl := (Option.some.inj ho).symm
              rw [FL_X10_items_s_41, if_pos rfl, if_neg (by rw [pNm (by omega)]; exact id), pBit P 8 i (by omega) (by omega), hP, cP', pBs, if_pos (by decide), show F_X10_lowest 115 (nI i) = _ from l1, pBs, show F_X10_highest 115 (nI i) = _ from l2, pBs, pS1]
            have ez : 0 + nI i = nI (i) := by exact pA0 i
            have hix : i < 8 := by omega
            rw [show (3 : Int32) = nI 3 from rfl] at *
            rw [hn, pBs]
            have hR' := hR (q_tab 0 i) (q_tab 1 i)
            have hle := nmG_le (tb := tb) (l := l) 3 (skp tb l (s + 1)) 0 t2
            generalize hS : skp tb l (s + 1) = S at t1 t2 t3 hn hR' hle ⊢
            generalize hG : nmG tb l 3 S 0 = G at hn hR' hle ⊢
            obtain ⟨p, x0⟩ := G
            have stop : ∀ (q : Nat) (x1 : Int32), q ≤ l → F_X10_number (nI l) (nI (s + 1)) (-1) tb (nI 3) (q_tab 0 i) (q_tab 1 i) = some (x1, nI q, nI q) → ∀ o, some (nI i) = some o → FL_X10_items_s_41 (nI l) at0 wr0 tb rr0 115 (0) z4 (n' + 1) (pSet P 8) o (nI s) (-1) rr = some (nI q, nI q, upd rr (i) x1) := fun q x1 hq hE o ho => by
              rw [eY o ho, hE, pBs]
              obtain ⟨n2, rfl⟩ : ∃ y, n' = y + 1 := ⟨n' - 1, by omega⟩
              have hqm : ¬ (nI q : Int32) = -1 := by rw [pNm (by omega)]; exact id
              show (if (0 + nI i) < 0 ∨ 8 ≤ ((0 + nI i)).toNatClampNeg then none else (if (nI q : Int32) = -1 then _ else FL_X10_items_s_41 (nI l) at0 wr0 tb rr0 115 (0) z4 (n2 + 1) (pSet P 8 ||| (1 <<< (nI i &&& 31))) (-1) (nI q) (nI q) (upd rr (0 + nI i).toNatClampNeg x1))) = _
              rw [ez, pIx hix (by omega), pCl (by omega), if_neg hqm, FL_X10_items_s_41, if_neg hqm]
            have hfr : ∀ x1, frm_s 0 fi fi rr (upd rr (i) x1) := fun x1 => ⟨fun _ _ => rfl, fun k hk => pUn (hk i hi)⟩
            unfold nmR at hR'
            rw [hG] at hR'
            by_cases w : dg (ch tb l S) = true
            · rw [if_pos w] at hR'
              have hgt : S < p := by
                have e3 : nmG tb l 3 S 0 = nmG tb l 2 (S + 1) (0 * 10 + (ch tb l S - 48)) := by rw [nmG, if_pos w]
                have := dg_in w
                have := (nmG_le (tb := tb) (l := l) 2 (S + 1) (0 * 10 + (ch tb l S - 48)) (by omega)).1
                rw [← e3, hG] at this
                exact this
              by_cases w2 : dg (ch tb l p) = true
              · rw [if_pos w2] at hR'
                show ∃ w a' rv' fi' b w' rr', (if pb (decide (S < p) && !dg (ch tb l p)) = 0 then some (nI p, nI p, x0, fi) else _) = some (w, nI a', rv', fi') ∧ _
                rw [if_pos (show pb (decide (S < p) && !dg (ch tb l p)) = 0 by simp [w2, pb])]
                exact ⟨_, p, _, _, p, nI p, _, rfl, stop p x0 hle.2 hR', hle.2, hfr _, Or.inr ⟨p, hle.2, rfl, Or.inl rfl⟩⟩
              · have w2' : dg (ch tb l p) = false := by simpa using w2
                rw [if_neg w2] at hR'
                show ∃ w a' rv' fi' b w' rr', (if pb (decide (S < p) && !dg (ch tb l p)) = 0 then some (nI p, nI p, x0, fi) else (if nI i < 0 ∨ 8 ≤ (nI i).toNatClampNeg then none else (if x0 < q_tab 0 (nI i).toNatClampNeg then some (nI p - 1, nI p, x0, fi) else (if nI i < 0 ∨ 8 ≤ (nI i).toNatClampNeg then none else (if x0 ≤ q_tab 1 (nI i).toNatClampNeg then (if (0 + nI i * 1) < 0 ∨ 8 ≤ ((0 + nI i * 1)).toNatClampNeg then none else FL_X6_readItems_s_16 tb (nI l) ra0 rv0 fi0 (0) 1 n (pSet P 8 ||| (1 <<< (nI i &&& 31))) (nI c + 1) (nI p) x0 (upd fi (0 + nI i * 1).toNatClampNeg x0)) else some (nI p - 1, nI p, x0, fi)))))) = some (w, nI a', rv', fi') ∧ _
                have ep : nI p - 1 = nI (p - 1) := by rw [show (1 : Int32) = nI 1 from rfl, pSub (by omega) (by omega)]
                rw [if_neg (show ¬ pb (decide (S < p) && !dg (ch tb l p)) = 0 by simp [w2', hgt, pb]), pIx (by omega) (by omega), pIx (by omega) (by omega), pCl (by omega), ep]
                by_cases c1 : x0 < q_tab 0 i
                · rw [if_neg (show ¬ (!decide (x0 < q_tab 0 i) && !decide (q_tab 1 i < x0)) = true by simp [c1])] at hR'
                  rw [if_pos c1]
                  exact ⟨_, p, _, _, p - 1, nI (p - 1), _, rfl, stop (p - 1) x0 (by omega) hR', hle.2, hfr _, Or.inr ⟨p - 1, by omega, rfl, Or.inl rfl⟩⟩
                · by_cases c2 : x0 ≤ q_tab 1 i
                  · have c2' : ¬ q_tab 1 i < x0 := fun q => not_le.mpr q c2
                    rw [if_pos (show (!decide (x0 < q_tab 0 i) && !decide (q_tab 1 i < x0)) = true by simp [c1, c2'])] at hR'
                    rw [if_neg c1, if_pos c2]
                    have ec : 0 + nI i * 1 = nI (i) := by rw [Int32.mul_one]; exact pA0 i
                    have hcx : i < 8 := by omega
                    rw [ec, pIx hcx (by omega), pCl (by omega), pS1, pOr (m := 8) (by omega) hi]
                    have hx0 : ∃ v0, lo_s i ≤ v0 ∧ v0 ≤ hi_s i ∧ x0 = nI v0 := by
                      have g1 : nI (lo_s i) ≤ x0 := by rw [← r1]; exact le_of_not c1
                      have g2 : x0 ≤ nI (hi_s i) := by rw [← r2]; exact c2
                      have g0 : ¬ x0 < 0 := fun q => by
                        rw [q_lt] at q; rw [q_le, nI_toInt (by omega)] at g1
                        have z0 : (0 : Int32).toInt = 0 := by decide
                        omega
                      obtain ⟨v0, hv0, rfl⟩ := nI_of g0
                      rw [pLe (by omega) hv0] at g1
                      rw [pLe hv0 (by omega)] at g2
                      exact ⟨v0, by omega, by omega, rfl⟩
                    have hrow' : row_s 0 (upd fi (i) x0) (upd rr (i) x0) := fun j hj => by
                      by_cases cj : j = i
                      · subst cj; rw [pUs, pUs]; exact ⟨rfl, hx0⟩
                      · rw [pUn (by omega), pUn (by omega)]; exact hrow j hj
                    have hnum : c + 1 = pNum (fun e => P e || decide (e = i)) 8 := by
                      rw [h4, pNum_add (p := P) (q := fun e => decide (e = i)) (r := fun e => P e || decide (e = i)) (fun d hd => ⟨rfl, by by_cases q : d = i; subst q; simp [cP']; simp [q]⟩), pNum_one hi]
                    obtain ⟨w', a', rv', fi', b, w'', rr', e1, e2, e3, e4, e5⟩ := items_s (l := l) (ra0 := ra0) (rv0 := rv0) (at0 := at0) (wr0 := wr0) (z4 := z4) (fi0 := fi0) (rr0 := rr0) hl hb k n n' (c + 1) p (fun e => P e || decide (e = i)) x0 (upd fi (i) x0) (upd rr (i) x0) (by omega) (by omega) (by omega) hnum hle.2 hrow'
                    refine ⟨w', a', rv', fi', b, w'', rr', e1, fun o ho => ?_, e3, ⟨fun k hk => (e4.1 k hk).trans (pUn (hk i hi)), fun k hk => (e4.2 k hk).trans (pUn (hk i hi))⟩, ?_⟩
                    · rw [eY o ho, hR', pBs]
                      show (if (0 + nI i) < 0 ∨ 8 ≤ ((0 + nI i)).toNatClampNeg then none else (if (-1 : Int32) = -1 then ((F_X10_ahead (nI l) (nI p) tb).bind fun o_19 => ((F_X10_itemOf 115 o_19.1).bind fun o_21 => FL_X10_items_s_41 (nI l) at0 wr0 tb rr0 115 (0) z4 n' (pSet P 8 ||| (1 <<< (nI i &&& 31))) o_21 o_19.2 (-1) (upd rr (0 + nI i).toNatClampNeg x0))) else _)) = _
                      rw [ez, pIx hix (by omega), pCl (by omega), if_pos rfl, rAhead hl hle.2, pBs, pOr (m := 8) (by omega) hi]
                      have ho' : ∃ o', F_X10_itemOf 115 (ch tb l (skp tb l p)) = some o' := by
                        by_cases q : skp tb l p < l
                        · obtain ⟨v', hv', ev'⟩ := ch_b hb q
                          rw [ev']
                          rcases itm0 ⟨v', hv'⟩ with q | ⟨⟨i', hi'⟩, q, -⟩
                          · exact ⟨_, q⟩
                          · exact ⟨_, q⟩
                        · rw [ch_end (by omega)]; exact ⟨_, itE_s⟩
                      obtain ⟨o', ho'⟩ := ho'
                      rw [ho', pBs]
                      exact e2 o' ho'
                    · rcases e5 with ⟨q1, q2, q3, q4, q5, q6⟩ | q
                      · exact Or.inl ⟨q1, q2, q3, q4, by omega, q6⟩
                      · exact Or.inr q
                  · have c2' : q_tab 1 i < x0 := not_le.mp c2
                    rw [if_neg (show ¬ (!decide (x0 < q_tab 0 i) && !decide (q_tab 1 i < x0)) = true by simp [c2'])] at hR'
                    rw [if_neg c1, if_neg c2]
                    exact ⟨_, p, _, _, p - 1, nI (p - 1), _, rfl, stop (p - 1) x0 (by omega) hR', hle.2, hfr _, Or.inr ⟨p - 1, by omega, rfl, Or.inl rfl⟩⟩
            · rw [if_neg w] at hR'
              have e3 : nmG tb l 3 S 0 = (S, 0) := by rw [nmG, if_neg w]
              rw [hG] at e3
              have ep : p = S := congrArg Prod.fst e3
              show ∃ w a' rv' fi' b w' rr', (if pb (decide (S < p) && !dg (ch tb l p)) = 0 then some (nI p, nI p, x0, fi) else _) = some (w, nI a', rv', fi') ∧ _
              rw [if_pos (show pb (decide (S < p) && !dg (ch tb l p)) = 0 by rw [decide_eq_false (by omega)]; rfl), ep]
              exact ⟨_, S, _, _, S, nI S, _, rfl, stop S _ t2 hR', t2, hfr _, Or.inr ⟨S, t2, rfl, Or.inl rfl⟩⟩

theorem itE_d : F_X10_itemOf 100 (-1) = some (-1) := by decide
theorem itS_d : F_X10_itemOf 100 59 = some (-1) := by decide
theorem loH_d : ∀ i : Fin 6, F_X10_lowest 100 (nI i.1) = some (q_tab 3 i.1) ∧ F_X10_highest 100 (nI i.1) = some (q_tab 4 i.1) := by decide
theorem rng_d : ∀ i : Fin 6, q_tab 3 i.1 = nI (lo_d i.1) ∧ q_tab 4 i.1 = nI (hi_d i.1) ∧ lo_d i.1 ≤ 200 ∧ hi_d i.1 ≤ 200 := by decide
def row_d (e : Nat) (fi rr : Nat → Int32) : Prop := ∀ i, i < 6 → fi (e + i * 8) = rr (6 * e + i) ∧ ∃ v, lo_d i ≤ v ∧ v ≤ hi_d i ∧ fi (e + i * 8) = nI v
/-- only these cells change -/
def frm_d (e : Nat) (fi fi' rr rr' : Nat → Int32) : Prop := (∀ k, (∀ i, i < 6 → k ≠ e + i * 8) → fi' k = fi k) ∧ ∀ k, (∀ i, i < 6 → k ≠ 6 * e + i) → rr' k = rr k
theorem items_d {tb : Nat → Int32} {l e : Nat} {ra0 rv0 at0 wr0 z4 : Int32} {fi0 rr0 : Nat → Int32} (hl : l ≤ 240) (hb : tOK tb) (he : e < 8) : ∀ (k n n' c a : Nat) (P : Nat → Bool) (rv : Int32) (fi rr : Nat → Int32), c + k = 6 + 1 → k < n → k < n' → c = pNum P 6 → a ≤ l → row_d e fi rr →
    ∃ w a' rv' fi' b w' rr', FL_X6_readItems_d_16 tb (nI l) ra0 rv0 fi0 (nI e) 8 n (pSet P 6) (nI c) (nI a) rv fi = some (w, nI a', rv', fi') ∧ (∀ o, F_X10_itemOf 100 (ch tb l (skp tb l a)) = some o → FL_X10_items_d_41 (nI l) at0 wr0 tb rr0 100 (nI (6 * e)) z4 n' (pSet P 6) o (nI (skp tb l a)) (-1) rr = some (nI b, w', rr')) ∧ a' ≤ l ∧ frm_d e fi fi' rr rr' ∧
      ((w = -1 ∧ w' = -1 ∧ b = a' ∧ (a' = l ∨ ch tb l a' = 59) ∧ a ≤ a' ∧ row_d e fi' rr') ∨ (∃ q, q ≤ l ∧ w = nI q ∧ (w' = nI q ∨ (w' = -1 ∧ b = q ∧ q < l ∧ ch tb l q ≠ 59 ∧ ch tb l q ≠ 32))))
  | k, 0, n', c, a, P, rv, fi, rr, _, h, _, _, _, _ => absurd h (by omega)
  | k, n + 1, 0, c, a, P, rv, fi, rr, _, _, h, _, _, _ => absurd h (by omega)
  | 0, n + 1, n' + 1, c, a, P, rv, fi, rr, h1, h2, h3, h4, h5, hrow => by
    have := pNum_le P 6
    omega
  | k + 1, n + 1, n' + 1, c, a, P, rv, fi, rr, h1, h2, h3, h4, h5, hrow => by
    have hc := pNum_le P 6
    obtain ⟨s1, s2, s3⟩ := skp_s (tb := tb) h5
    have hf0 : frm_d e fi fi rr rr := ⟨fun _ _ => rfl, fun _ _ => rfl⟩
    have eX : ∀ q : Int32, FL_X10_items_d_41 (nI l) at0 wr0 tb rr0 100 (nI (6 * e)) z4 (n' + 1) (pSet P 6) (-1) (nI (skp tb l a)) (-1) rr = some (nI (skp tb l a), -1, rr) := fun _ => by
      rw [FL_X10_items_d_41, if_pos rfl, if_pos rfl]
    rw [FL_X6_readItems_d_16, show F_J0_length_1 = some (nI 6) from by decide, pBs, if_neg (fun q => by have := (pLt (by omega) (by omega)).mp q; omega), cSkip hl h5, pBs]
    generalize hs : skp tb l a = s at s1 s2 s3 eX ⊢
    by_cases ce : l ≤ s
    · rw [if_pos ((pLe (by omega) (by omega)).mpr ce)]
      refine ⟨_, s, _, _, s, -1, rr, rfl, fun o ho => ?_, by omega, hf0, Or.inl ⟨rfl, rfl, rfl, Or.inl (by omega), by omega, hrow⟩⟩
      rw [ch_end ce, itE_d] at ho
      obtain rfl := (Option.some.inj ho).symm
      exact eX 0
    · have hsl : s < l := by omega
      rw [if_neg (fun q => ce ((pLe (by omega) (by omega)).mp q)), cStands hl s2 (by decide), pBs]
      by_cases c59 : ch tb l s = 59
      · rw [if_neg (show ¬ pb (decide (ch tb l s = 59)) = 0 by simp [c59, pb])]
        refine ⟨_, s, _, _, s, -1, rr, rfl, fun o ho => ?_, by omega, hf0, Or.inl ⟨rfl, rfl, rfl, Or.inr c59, by omega, hrow⟩⟩
        rw [c59, itS_d] at ho
        obtain rfl := (Option.some.inj ho).symm
        exact eX 0
      · rw [if_pos (show pb (decide (ch tb l s = 59)) = 0 by simp [c59, pb]), pIx (by omega) (by omega), pCl (by omega)]
        obtain ⟨v, hv, ev⟩ := hb s
        have ech : ch tb l s = nI v := by rw [ch_in hsl]; exact ev
        rw [ev, idx1 ⟨v, hv⟩, ech]
        rcases itm1 ⟨v, hv⟩ with q | ⟨⟨i, hi⟩, q, hv59⟩
        · rw [show F_X10_itemOf 100 (nI v) = some (-1) from q, pBs, if_pos (by decide)]
          refine ⟨_, s, _, _, s, -1, rr, rfl, fun o ho => ?_, by omega, hf0, Or.inr ⟨s, by omega, rfl, Or.inr ⟨rfl, rfl, hsl, c59, s3⟩⟩⟩
          obtain rfl := (Option.some.inj ho).symm
          exact eX 0
        · rw [show F_X10_itemOf 100 (nI v) = some (nI i) from q, pBs, if_neg (nI_pos (by omega)), pHas (m := 6) (by omega) (by omega)]
          have hP : (P i && decide (i < 6)) = P i := by simp [hi]
          rw [hP]
          by_cases cP : P i = true
          · rw [cP, if_pos (show (if true = true then (1 : Int32) else 0) = 1 from rfl)]
            refine ⟨_, s, _, _, s, -1, rr, rfl, fun o ho => ?_, by omega, hf0, Or.inr ⟨s, by omega, rfl, Or.inr ⟨rfl, rfl, hsl, c59, s3⟩⟩⟩
            obtain rfl := (Option.some.inj ho).symm
            rw [FL_X10_items_d_41, if_pos rfl, if_neg (by rw [pNm (by omega)]; exact id), pBit P 6 i (by omega) (by omega), hP, cP, pBs, if_neg (by decide)]
          · have cP' : P i = false := by simpa using cP
            rw [cP', if_neg (show ¬ (if false = true then (1 : Int32) else 0) = 1 from by decide), pS1, cSkip hl (by omega), pBs]
            obtain ⟨t1, t2, t3⟩ := skp_s (tb := tb) (show s + 1 ≤ l by omega)
            have hn := cNum (tb := tb) (a := skp tb l (s + 1)) (z := 3) (rv := rv) hl t2 (by omega)
            have hR := fun lo hi => rNum (tb := tb) (a := s + 1) (z := 3) (lo := lo) (hi := hi) hl (by omega) (by omega) (by omega)
            obtain ⟨l1, l2⟩ := loH_d ⟨i, hi⟩
            obtain ⟨r1, r2, r3, r4⟩ := rng_d ⟨i, hi⟩
            have r3 : lo_d i ≤ 200 := r3
            have r4 : hi_d i ≤ 200 := r4
            have r1 : q_tab 3 i = nI (lo_d i) := r1
            have r2 : q_tab 4 i = nI (hi_d i) := r2
            have eY : ∀ o, some (nI i) = some o → FL_X10_items_d_41 (nI l) at0 wr0 tb rr0 100 (nI (6 * e)) z4 (n' + 1) (pSet P 6) o (nI s) (-1) rr = (F_X10_number (nI l) (nI (s + 1)) (-1) tb 3 (q_tab 3 i) (q_tab 4 i)).bind fun o_15 => (if (nI (6 * e) + nI i) < 0 ∨ 48 ≤ ((nI (6 * e) + nI i)).toNatClampNeg then none else (if o_15.2.2 = -1 then ((F_X10_ahead (nI l) (o_15.2.1) tb).bind fun o_19 => ((F_X10_itemOf 100 o_19.1).bind fun o_21 => FL_X10_items_d_41 (nI l) at0 wr0 tb rr0 100 (nI (6 * e)) z4 n' (pSet P 6 ||| (1 <<< (nI i &&& 31))) o_21 o_19.2 o_15.2.2 (upd rr (nI (6 * e) + nI i).toNatClampNeg o_15.1))) else FL_X10_items_d_41 (nI l) at0 wr0 tb rr0 100 (nI (6 * e)) z4 n' (pSet P 6 ||| (1 <<< (nI i &&& 31))) (-1) o_15.2.1 o_15.2.2 (upd rr (nI (6 * e) + nI i).toNatClampNeg o_15.1))) := fun o ho => by
              obtain rfl := (Option.some.inj ho).symm
              rw [FL_X10_items_d_41, if_pos rfl, if_neg (by rw [pNm (by omega)]; exact id), pBit P 6 i (by omega) (by omega), hP, cP', pBs, if_pos (by decide), show F_X10_lowest 100 (nI i) = _ from l1, pBs, show F_X10_highest 100 (nI i) = _ from l2, pBs, pS1]
            have ez : nI (6 * e) + nI i = nI (6 * e + i) := by exact nI_add _ _
            have hix : 6 * e + i < 48 := by omega
            rw [show (3 : Int32) = nI 3 from rfl] at *
            rw [hn, pBs]
            have hR' := hR (q_tab 3 i) (q_tab 4 i)
            have hle := nmG_le (tb := tb) (l := l) 3 (skp tb l (s + 1)) 0 t2
            generalize hS : skp tb l (s + 1) = S at t1 t2 t3 hn hR' hle ⊢
            generalize hG : nmG tb l 3 S 0 = G at hn hR' hle ⊢
            obtain ⟨p, x0⟩ := G
            have stop : ∀ (q : Nat) (x1 : Int32), q ≤ l → F_X10_number (nI l) (nI (s + 1)) (-1) tb (nI 3) (q_tab 3 i) (q_tab 4 i) = some (x1, nI q, nI q) → ∀ o, some (nI i) = some o → FL_X10_items_d_41 (nI l) at0 wr0 tb rr0 100 (nI (6 * e)) z4 (n' + 1) (pSet P 6) o (nI s) (-1) rr = some (nI q, nI q, upd rr (6 * e + i) x1) := fun q x1 hq hE o ho => by
              rw [eY o ho, hE, pBs]
              obtain ⟨n2, rfl⟩ : ∃ y, n' = y + 1 := ⟨n' - 1, by omega⟩
              have hqm : ¬ (nI q : Int32) = -1 := by rw [pNm (by omega)]; exact id
              show (if (nI (6 * e) + nI i) < 0 ∨ 48 ≤ ((nI (6 * e) + nI i)).toNatClampNeg then none else (if (nI q : Int32) = -1 then _ else FL_X10_items_d_41 (nI l) at0 wr0 tb rr0 100 (nI (6 * e)) z4 (n2 + 1) (pSet P 6 ||| (1 <<< (nI i &&& 31))) (-1) (nI q) (nI q) (upd rr (nI (6 * e) + nI i).toNatClampNeg x1))) = _
              rw [ez, pIx hix (by omega), pCl (by omega), if_neg hqm, FL_X10_items_d_41, if_neg hqm]
            have hfr : ∀ x1, frm_d e fi fi rr (upd rr (6 * e + i) x1) := fun x1 => ⟨fun _ _ => rfl, fun k hk => pUn (hk i hi)⟩
            unfold nmR at hR'
            rw [hG] at hR'
            by_cases w : dg (ch tb l S) = true
            · rw [if_pos w] at hR'
              have hgt : S < p := by
                have e3 : nmG tb l 3 S 0 = nmG tb l 2 (S + 1) (0 * 10 + (ch tb l S - 48)) := by rw [nmG, if_pos w]
                have := dg_in w
                have := (nmG_le (tb := tb) (l := l) 2 (S + 1) (0 * 10 + (ch tb l S - 48)) (by omega)).1
                rw [← e3, hG] at this
                exact this
              by_cases w2 : dg (ch tb l p) = true
              · rw [if_pos w2] at hR'
                show ∃ w a' rv' fi' b w' rr', (if pb (decide (S < p) && !dg (ch tb l p)) = 0 then some (nI p, nI p, x0, fi) else _) = some (w, nI a', rv', fi') ∧ _
                rw [if_pos (show pb (decide (S < p) && !dg (ch tb l p)) = 0 by simp [w2, pb])]
                exact ⟨_, p, _, _, p, nI p, _, rfl, stop p x0 hle.2 hR', hle.2, hfr _, Or.inr ⟨p, hle.2, rfl, Or.inl rfl⟩⟩
              · have w2' : dg (ch tb l p) = false := by simpa using w2
                rw [if_neg w2] at hR'
                show ∃ w a' rv' fi' b w' rr', (if pb (decide (S < p) && !dg (ch tb l p)) = 0 then some (nI p, nI p, x0, fi) else (if nI i < 0 ∨ 6 ≤ (nI i).toNatClampNeg then none else (if x0 < q_tab 3 (nI i).toNatClampNeg then some (nI p - 1, nI p, x0, fi) else (if nI i < 0 ∨ 6 ≤ (nI i).toNatClampNeg then none else (if x0 ≤ q_tab 4 (nI i).toNatClampNeg then (if (nI e + nI i * 8) < 0 ∨ 48 ≤ ((nI e + nI i * 8)).toNatClampNeg then none else FL_X6_readItems_d_16 tb (nI l) ra0 rv0 fi0 (nI e) 8 n (pSet P 6 ||| (1 <<< (nI i &&& 31))) (nI c + 1) (nI p) x0 (upd fi (nI e + nI i * 8).toNatClampNeg x0)) else some (nI p - 1, nI p, x0, fi)))))) = some (w, nI a', rv', fi') ∧ _
                have ep : nI p - 1 = nI (p - 1) := by rw [show (1 : Int32) = nI 1 from rfl, pSub (by omega) (by omega)]
                rw [if_neg (show ¬ pb (decide (S < p) && !dg (ch tb l p)) = 0 by simp [w2', hgt, pb]), pIx (by omega) (by omega), pIx (by omega) (by omega), pCl (by omega), ep]
                by_cases c1 : x0 < q_tab 3 i
                · rw [if_neg (show ¬ (!decide (x0 < q_tab 3 i) && !decide (q_tab 4 i < x0)) = true by simp [c1])] at hR'
                  rw [if_pos c1]
                  exact ⟨_, p, _, _, p - 1, nI (p - 1), _, rfl, stop (p - 1) x0 (by omega) hR', hle.2, hfr _, Or.inr ⟨p - 1, by omega, rfl, Or.inl rfl⟩⟩
                · by_cases c2 : x0 ≤ q_tab 4 i
                  · have c2' : ¬ q_tab 4 i < x0 := fun q => not_le.mpr q c2
                    rw [if_pos (show (!decide (x0 < q_tab 3 i) && !decide (q_tab 4 i < x0)) = true by simp [c1, c2'])] at hR'
                    rw [if_neg c1, if_pos c2]
                    have ec : nI e + nI i * 8 = nI (e + i * 8) := by rw [show nI i * 8 = nI (i * 8) from pM i 8, nI_add]
                    have hcx : e + i * 8 < 48 := by omega
                    rw [ec, pIx hcx (by omega), pCl (by omega), pS1, pOr (m := 6) (by omega) hi]
                    have hx0 : ∃ v0, lo_d i ≤ v0 ∧ v0 ≤ hi_d i ∧ x0 = nI v0 := by
                      have g1 : nI (lo_d i) ≤ x0 := by rw [← r1]; exact le_of_not c1
                      have g2 : x0 ≤ nI (hi_d i) := by rw [← r2]; exact c2
                      have g0 : ¬ x0 < 0 := fun q => by
                        rw [q_lt] at q; rw [q_le, nI_toInt (by omega)] at g1
                        have z0 : (0 : Int32).toInt = 0 := by decide
                        omega
                      obtain ⟨v0, hv0, rfl⟩ := nI_of g0
                      rw [pLe (by omega) hv0] at g1
                      rw [pLe hv0 (by omega)] at g2
                      exact ⟨v0, by omega, by omega, rfl⟩
                    have hrow' : row_d e (upd fi (e + i * 8) x0) (upd rr (6 * e + i) x0) := fun j hj => by
                      by_cases cj : j = i
                      · subst cj; rw [pUs, pUs]; exact ⟨rfl, hx0⟩
                      · rw [pUn (by omega), pUn (by omega)]; exact hrow j hj
                    have hnum : c + 1 = pNum (fun e => P e || decide (e = i)) 6 := by
                      rw [h4, pNum_add (p := P) (q := fun e => decide (e = i)) (r := fun e => P e || decide (e = i)) (fun d hd => ⟨rfl, by by_cases q : d = i; subst q; simp [cP']; simp [q]⟩), pNum_one hi]
                    obtain ⟨w', a', rv', fi', b, w'', rr', e1, e2, e3, e4, e5⟩ := items_d (e := e) (ra0 := ra0) (rv0 := rv0) (at0 := at0) (wr0 := wr0) (z4 := z4) (fi0 := fi0) (rr0 := rr0) hl hb he k n n' (c + 1) p (fun e => P e || decide (e = i)) x0 (upd fi (e + i * 8) x0) (upd rr (6 * e + i) x0) (by omega) (by omega) (by omega) hnum hle.2 hrow'
                    refine ⟨w', a', rv', fi', b, w'', rr', e1, fun o ho => ?_, e3, ⟨fun k hk => (e4.1 k hk).trans (pUn (hk i hi)), fun k hk => (e4.2 k hk).trans (pUn (hk i hi))⟩, ?_⟩
                    · rw [eY o ho, hR', pBs]
                      show (if (nI (6 * e) + nI i) < 0 ∨ 48 ≤ ((nI (6 * e) + nI i)).toNatClampNeg then none else (if (-1 : Int32) = -1 then ((F_X10_ahead (nI l) (nI p) tb).bind fun o_19 => ((F_X10_itemOf 100 o_19.1).bind fun o_21 => FL_X10_items_d_41 (nI l) at0 wr0 tb rr0 100 (nI (6 * e)) z4 n' (pSet P 6 ||| (1 <<< (nI i &&& 31))) o_21 o_19.2 (-1) (upd rr (nI (6 * e) + nI i).toNatClampNeg x0))) else _)) = _
                      rw [ez, pIx hix (by omega), pCl (by omega), if_pos rfl, rAhead hl hle.2, pBs, pOr (m := 6) (by omega) hi]
                      have ho' : ∃ o', F_X10_itemOf 100 (ch tb l (skp tb l p)) = some o' := by
                        by_cases q : skp tb l p < l
                        · obtain ⟨v', hv', ev'⟩ := ch_b hb q
                          rw [ev']
                          rcases itm1 ⟨v', hv'⟩ with q | ⟨⟨i', hi'⟩, q, -⟩
                          · exact ⟨_, q⟩
                          · exact ⟨_, q⟩
                        · rw [ch_end (by omega)]; exact ⟨_, itE_d⟩
                      obtain ⟨o', ho'⟩ := ho'
                      rw [ho', pBs]
                      exact e2 o' ho'
                    · rcases e5 with ⟨q1, q2, q3, q4, q5, q6⟩ | q
                      · exact Or.inl ⟨q1, q2, q3, q4, by omega, q6⟩
                      · exact Or.inr q
                  · have c2' : q_tab 4 i < x0 := not_le.mp c2
                    rw [if_neg (show ¬ (!decide (x0 < q_tab 3 i) && !decide (q_tab 4 i < x0)) = true by simp [c2'])] at hR'
                    rw [if_neg c1, if_neg c2]
                    exact ⟨_, p, _, _, p - 1, nI (p - 1), _, rfl, stop (p - 1) x0 (by omega) hR', hle.2, hfr _, Or.inr ⟨p - 1, by omega, rfl, Or.inl rfl⟩⟩
            · rw [if_neg w] at hR'
              have e3 : nmG tb l 3 S 0 = (S, 0) := by rw [nmG, if_neg w]
              rw [hG] at e3
              have ep : p = S := congrArg Prod.fst e3
              show ∃ w a' rv' fi' b w' rr', (if pb (decide (S < p) && !dg (ch tb l p)) = 0 then some (nI p, nI p, x0, fi) else _) = some (w, nI a', rv', fi') ∧ _
              rw [if_pos (show pb (decide (S < p) && !dg (ch tb l p)) = 0 by rw [decide_eq_false (by omega)]; rfl), ep]
              exact ⟨_, S, _, _, S, nI S, _, rfl, stop S _ t2 hR', t2, hfr _, Or.inr ⟨S, t2, rfl, Or.inl rfl⟩⟩
end

section
/-! reading a tree -/
section
variable {tb : Nat → Int32} {l : Nat}
theorem us_s : ∀ k : Fin 8, F_X10_usual 115 (nI k.1) = some (q_tab 2 k.1) := by decide
theorem us_d : ∀ k : Fin 6, F_X10_usual 100 (nI k.1) = some (q_tab 5 k.1) := by decide
def d_s : Nat → Nat | 0 => 4 | 1 => 3 | 2 => 2 | 3 => 2 | 4 => 5 | 5 => 99 | 6 => 60 | 7 => 9 | _ => 0
def d_d : Nat → Nat | 0 => 0 | 1 => 1 | 2 => 1 | 3 => 0 | 4 => 4 | 5 => 0 | _ => 0
theorem df_s : ∀ k : Fin 8, q_tab 2 k.1 = nI (d_s k.1) ∧ lo_s k.1 ≤ d_s k.1 ∧ d_s k.1 ≤ hi_s k.1 := by decide
theorem df_d : ∀ k : Fin 6, q_tab 5 k.1 = nI (d_d k.1) ∧ lo_d k.1 ≤ d_d k.1 ∧ d_d k.1 ≤ hi_d k.1 := by decide
theorem itTot_s (hb : tOK tb) (a : Nat) : ∃ o, F_X10_itemOf 115 (ch tb l a) = some o := by
  by_cases q : a < l
  · obtain ⟨v, hv, ev⟩ := ch_b hb q
    rw [ev]
    rcases itm0 ⟨v, hv⟩ with q | ⟨i, q, -⟩
    · exact ⟨_, q⟩
    · exact ⟨_, q⟩
  · rw [ch_end (by omega)]; exact ⟨_, itE_s⟩
theorem itTot_d (hb : tOK tb) (a : Nat) : ∃ o, F_X10_itemOf 100 (ch tb l a) = some o := by
  by_cases q : a < l
  · obtain ⟨v, hv, ev⟩ := ch_b hb q
    rw [ev]
    rcases itm1 ⟨v, hv⟩ with q | ⟨i, q, -⟩
    · exact ⟨_, q⟩
    · exact ⟨_, q⟩
  · rw [ch_end (by omega)]; exact ⟨_, itE_d⟩
theorem usS {rr : Nat → Int32} {a : Nat} (hl : l ≤ 240) (hb : tOK tb) (h : a ≤ l) : ∃ o rr2, F_X10_itemOf 115 (ch tb l (skp tb l a)) = some o ∧ F_X10_items_s (nI l) (nI a) (-1) tb rr 115 0 8 = FL_X10_items_s_41 (nI l) (nI a) (-1) tb rr 115 0 8 1000 0 o (nI (skp tb l a)) (-1) rr2 ∧ ∀ k, k < 8 → rr2 k = q_tab 2 k := by
  obtain ⟨o, ho⟩ := itTot_s (l := l) hb (skp tb l a)
  have key : ∀ (k j n : Nat) (x : Nat → Int32), j + k = 8 → k < n → (∀ i, i < j → x i = q_tab 2 i) → ∃ rr2, FL_X10_items_s_3 (nI l) (nI a) (-1) tb rr 115 0 8 n (nI j) (nI a) (-1) x = FL_X10_items_s_41 (nI l) (nI a) (-1) tb rr 115 0 8 1000 0 o (nI (skp tb l a)) (-1) rr2 ∧ ∀ k, k < 8 → rr2 k = q_tab 2 k := by
    intro k
    induction k with
    | zero =>
      intro j n x h1 h2 h3
      obtain rfl : j = 8 := by omega
      obtain ⟨n, rfl⟩ : ∃ y, n = y + 1 := ⟨n - 1, by omega⟩
      rw [FL_X10_items_s_3, if_pos (show (8 : Int32) ≤ nI 8 from by decide), rAhead hl h, pBs, ho, pBs]
      exact ⟨x, rfl, h3⟩
    | succ k ih =>
      intro j n x h1 h2 h3
      obtain ⟨n, rfl⟩ : ∃ y, n = y + 1 := ⟨n - 1, by omega⟩
      rw [FL_X10_items_s_3, if_neg (by rw [show (8 : Int32) = nI 8 from rfl, pLe (by omega) (by omega)]; omega), us_s ⟨j, by omega⟩, pBs, pA0, pIx (by omega) (by omega), pCl (by omega), pS1]
      refine ih (j + 1) n _ (by omega) (by omega) (fun i hi => ?_)
      by_cases c : i = j
      · subst c; exact pUs
      · rw [pUn c]; exact h3 i (by omega)
  obtain ⟨rr2, e1, e2⟩ := key 8 0 1000 rr (by omega) (by omega) (fun i hi => by omega)
  exact ⟨o, rr2, ho, e1, e2⟩
theorem usD {rd : Nat → Int32} {a e : Nat} (hl : l ≤ 240) (hb : tOK tb) (h : a ≤ l) (he : e < 8) : ∃ o rd2, F_X10_itemOf 100 (ch tb l (skp tb l a)) = some o ∧ F_X10_items_d (nI l) (nI a) (-1) tb rd 100 (nI (6 * e)) 6 = FL_X10_items_d_41 (nI l) (nI a) (-1) tb rd 100 (nI (6 * e)) 6 1000 0 o (nI (skp tb l a)) (-1) rd2 ∧ (∀ k, k < 6 → rd2 (6 * e + k) = q_tab 5 k) ∧ ∀ k, (∀ i, i < 6 → k ≠ 6 * e + i) → rd2 k = rd k := by
  obtain ⟨o, ho⟩ := itTot_d (l := l) hb (skp tb l a)
  have key : ∀ (k j n : Nat) (x : Nat → Int32), j + k = 6 → k < n → (∀ i, i < j → x (6 * e + i) = q_tab 5 i) → (∀ k, (∀ i, i < 6 → k ≠ 6 * e + i) → x k = rd k) → ∃ rd2, FL_X10_items_d_3 (nI l) (nI a) (-1) tb rd 100 (nI (6 * e)) 6 n (nI j) (nI a) (-1) x = FL_X10_items_d_41 (nI l) (nI a) (-1) tb rd 100 (nI (6 * e)) 6 1000 0 o (nI (skp tb l a)) (-1) rd2 ∧ (∀ k, k < 6 → rd2 (6 * e + k) = q_tab 5 k) ∧ ∀ k, (∀ i, i < 6 → k ≠ 6 * e + i) → rd2 k = rd k := by
    intro k
    induction k with
    | zero =>
      intro j n x h1 h2 h3 h4
      obtain rfl : j = 6 := by omega
      obtain ⟨n, rfl⟩ : ∃ y, n = y + 1 := ⟨n - 1, by omega⟩
      rw [FL_X10_items_d_3, if_pos (show (6 : Int32) ≤ nI 6 from by decide), rAhead hl h, pBs, ho, pBs]
      exact ⟨x, rfl, h3, h4⟩
    | succ k ih =>
      intro j n x h1 h2 h3 h4
      obtain ⟨n, rfl⟩ : ∃ y, n = y + 1 := ⟨n - 1, by omega⟩
      rw [FL_X10_items_d_3, if_neg (by rw [show (6 : Int32) = nI 6 from rfl, pLe (by omega) (by omega)]; omega), us_d ⟨j, by omega⟩, pBs, nI_add, pIx (by omega) (by omega), pCl (by omega), pS1]
      refine ih (j + 1) n _ (by omega) (by omega) (fun i hi => ?_) (fun k hk => ?_)
      · by_cases c : i = j
        · subst c; exact pUs
        · rw [pUn (by omega)]; exact h3 i (by omega)
      · rw [pUn (hk j (by omega))]; exact h4 k hk
  obtain ⟨rr2, e1, e2, e3⟩ := key 6 0 1000 rd (by omega) (by omega) (fun i hi => by omega) (fun _ _ => rfl)
  exact ⟨o, rr2, ho, e1, e2, e3⟩
theorem addD {fp : Nat → Int32} {e : Nat} (he : e < 8) : ∃ fp2, F_X5_addDevice (nI e) fp = some (nI (e + 1), fp2) ∧ (∀ k, k < 6 → fp2 (e + k * 8) = q_tab 5 k) ∧ ∀ k, (∀ i, i < 6 → k ≠ e + i * 8) → fp2 k = fp k := by
  unfold F_X5_addDevice
  rw [if_neg (by rw [show (8 : Int32) = nI 8 from rfl, pLe (by omega) (by omega)]; omega)]
  have key : ∀ (k j n : Nat) (x : Nat → Int32), j + k = 6 → k < n → (∀ i, i < j → x (e + i * 8) = q_tab 5 i) → (∀ k, (∀ i, i < 6 → k ≠ e + i * 8) → x k = fp k) → ∃ fp2, FL_X5_addDevice_11 (nI e) fp n (nI j) (nI e) x = some (nI (e + 1), fp2) ∧ (∀ k, k < 6 → fp2 (e + k * 8) = q_tab 5 k) ∧ ∀ k, (∀ i, i < 6 → k ≠ e + i * 8) → fp2 k = fp k := by
    intro k
    induction k with
    | zero =>
      intro j n x h1 h2 h3 h4
      obtain rfl : j = 6 := by omega
      obtain ⟨n, rfl⟩ : ∃ y, n = y + 1 := ⟨n - 1, by omega⟩
      rw [FL_X5_addDevice_11, if_pos (show (6 : Int32) ≤ nI 6 from by decide), pS1]
      exact ⟨x, rfl, h3, h4⟩
    | succ k ih =>
      intro j n x h1 h2 h3 h4
      obtain ⟨n, rfl⟩ : ∃ y, n = y + 1 := ⟨n - 1, by omega⟩
      have e8 : nI j * 8 = nI (j * 8) := pM j 8
      rw [FL_X5_addDevice_11, if_neg (by rw [show (6 : Int32) = nI 6 from rfl, pLe (by omega) (by omega)]; omega), e8, nI_add, pIx (by omega) (by omega), pIx (by omega) (by omega), pCl (by omega), pCl (by omega), pS1, Nat.add_comm (j * 8) e]
      refine ih (j + 1) n _ (by omega) (by omega) (fun i hi => ?_) (fun k hk => ?_)
      · by_cases c : i = j
        · subst c; exact pUs
        · rw [pUn (by omega)]; exact h3 i (by omega)
      · rw [pUn (hk j (by omega))]; exact h4 k hk
  exact key 6 0 1000 fp (by omega) (by omega) (fun i hi => by omega) (fun _ _ => rfl)
section
variable {at0 wr0 rm0 : Int32} {rr0 rd0 rr rd : Nat → Int32} {n : Nat} {x1 rm : Int32}
theorem rtX_w {a w : Int32} (hw : w ≠ -1) : FL_X10_readTree_45 (nI l) at0 wr0 rm0 tb rr0 rd0 (n + 1) x1 0 a w rm rr rd = some (w, a, w, rm, rr, rd) := by
  rw [FL_X10_readTree_45, if_pos rfl, if_neg hw]
theorem rtX_q {q : Nat} (hl : l ≤ 240) (hb : tOK tb) (hq : q < l) (h32 : ch tb l q ≠ 32) : FL_X10_readTree_45 (nI l) at0 wr0 rm0 tb rr0 rd0 (n + 1) x1 0 (nI q) (-1) rm rr rd = some (nI q, nI q, nI q, rm, rr, rd) := by
  rw [FL_X10_readTree_45, if_pos rfl, if_pos rfl, rAhead hl (by omega), pBs, skp_id h32]
  show (if ch tb l q = -1 then _ else (F_X10_bad (nI q) (-1)).bind _) = _
  rw [if_neg (fun w => by rw [ch_m hb] at w; omega)]
  rfl
theorem rtX_e (hl : l ≤ 240) : FL_X10_readTree_45 (nI l) at0 wr0 rm0 tb rr0 rd0 (n + 1) x1 0 (nI l) (-1) rm rr rd = if rm = 0 then some (nI l, nI l, nI l, rm, rr, rd) else some (-1, nI l, -1, rm, rr, rd) := by
  have h32 : ch tb l l ≠ 32 := by rw [ch_end (by omega)]; decide
  rw [FL_X10_readTree_45, if_pos rfl, if_pos rfl, rAhead hl (by omega), pBs, skp_id h32]
  show (if ch tb l l = -1 then (if rm = 0 then (F_X10_bad (nI l) (-1)).bind _ else _) else _) = _
  rw [if_pos (ch_end (by omega))]
  rfl
end
/-- what a reading gives -/
def tRes (X : Option (Int32 × Int32 × Int32 × Int32 × (Nat → Int32) × (Nat → Int32))) (Y : Option (Int32 × Int32 × Int32 × Int32 × (Nat → Int32) × (Nat → Int32))) : Prop :=
  ∃ w a' rv' e' fu' fp' at' wr' e'' rr' rd', X = some (w, a', rv', e', fu', fp') ∧ Y = some (w, at', wr', e'', rr', rd') ∧ (w = -1 → ∃ m, 1 ≤ m ∧ m ≤ 8 ∧ e' = nI m ∧ e'' = nI m ∧ row_s 0 fu' rr' ∧ ∀ d, d < m → row_d d fp' rd')
theorem tRes_f {w a' rv' e' at' wr' e'' : Int32} {fu' fp' rr' rd' : Nat → Int32} (hw : w ≠ -1) : tRes (some (w, a', rv', e', fu', fp')) (some (w, at', wr', e'', rr', rd')) := ⟨w, a', rv', e', fu', fp', at', wr', e'', rr', rd', rfl, rfl, fun q => absurd q hw⟩
theorem ne_m1 {q : Nat} (h : q < 2147483648) : (nI q : Int32) ≠ -1 := by rw [Ne, pNm h]; exact id
theorem add_0 (x : Int32) : x + 0 = x := Int32.add_zero x
theorem set0 : pSet (fun _ => false) 8 = 0 := by decide
theorem set06 : pSet (fun _ => false) 6 = 0 := by decide
theorem num0 : pNum (fun _ => false) 8 = 0 := by decide
theorem num06 : pNum (fun _ => false) 6 = 0 := by decide
theorem tree_L {ra0 rv0 at0 wr0 rm0 : Int32} {fu0 fp0 rr0 rd0 : Nat → Int32} (hl : l ≤ 240) (hb : tOK tb) : ∀ (k a n n' c e : Nat) (fl : Int32) (rv : Int32) (fu fp rr rd : Nat → Int32), l + 1 ≤ a + k → k + 1 < n → k + 2 < n' → c ≤ a → e ≤ 8 → (fl = 0 → ∀ i, i < 8 → fu i = q_tab 2 i) → row_s 0 fu rr → (∀ d, d < e → row_d d fp rd) → a ≤ l →
    tRes (FL_X6_readTree_13 tb (nI l) ra0 rv0 fu0 fp0 n fl (nI c) (nI a) rv (nI e) fu fp) (FL_X10_readTree_45 (nI l) at0 wr0 rm0 tb rr0 rd0 n' fl 1 (nI a) (-1) (nI e) rr rd)
  | 0, a, n, n', c, e, fl, rv, fu, fp, rr, rd, h1, _, _, _, _, _, _, _, h => absurd h (by omega)
  | k + 1, a, 0, n', c, e, fl, rv, fu, fp, rr, rd, _, h, _, _, _, _, _, _, _ => absurd h (by omega)
  | k + 1, a, n + 1, 0, c, e, fl, rv, fu, fp, rr, rd, _, _, h, _, _, _, _, _, _ => absurd h (by omega)
  | k + 1, a, n + 1, n' + 1, c, e, fl, rv, fu, fp, rr, rd, h1, h2, h3, hca, he, hdf, hrs, hrd, hal => by
    obtain ⟨n2, rfl⟩ : ∃ y, n' = y + 1 := ⟨n' - 1, by omega⟩
    obtain ⟨s1, s2, s3⟩ := skp_s (tb := tb) hal
    have hl8 : (8 ≤ (nI e : Int32)) ↔ 8 ≤ e := by rw [p8Le (by omega)]
    -- the reference, opened once
    have eY : FL_X10_readTree_45 (nI l) at0 wr0 rm0 tb rr0 rd0 (n2 + 1 + 1) fl 1 (nI a) (-1) (nI e) rr rd = (if ch tb l (skp tb l a) = 115 ∧ fl = 0 then ((F_X10_items_s (nI l) (nI (skp tb l a + 1)) (-1) tb rr (ch tb l (skp tb l a)) 0 8).bind fun o_84 => (if (o_84.2.1) = (-1) then ((F_X10_ahead (nI l) (o_84.1) tb).bind fun o_88 => (if o_88.1 = 59 then (FL_X10_readTree_45 (nI l) at0 wr0 rm0 tb rr0 rd0 (n2 + 1) 1 1 ((o_88.2) + 1) (o_84.2.1) (nI e) (o_84.2.2) rd) else (FL_X10_readTree_45 (nI l) at0 wr0 rm0 tb rr0 rd0 (n2 + 1) 1 0 ((o_88.2) + 0) (o_84.2.1) (nI e) (o_84.2.2) rd))) else (FL_X10_readTree_45 (nI l) at0 wr0 rm0 tb rr0 rd0 (n2 + 1) 1 0 ((o_84.1) + 0) (o_84.2.1) (nI e) (o_84.2.2) rd))) else if ch tb l (skp tb l a) = 100 ∧ ¬ 8 ≤ e then ((F_X10_items_d (nI l) (nI (skp tb l a + 1)) (-1) tb rd (ch tb l (skp tb l a)) (6 * nI e) 6).bind fun o_45 => (if (o_45.2.1) = (-1) then ((F_X10_ahead (nI l) (o_45.1) tb).bind fun o_49 => (if o_49.1 = 59 then (FL_X10_readTree_45 (nI l) at0 wr0 rm0 tb rr0 rd0 (n2 + 1) fl 1 ((o_49.2) + 1) (o_45.2.1) (nI e + 1) rr (o_45.2.2)) else (FL_X10_readTree_45 (nI l) at0 wr0 rm0 tb rr0 rd0 (n2 + 1) fl 0 ((o_49.2) + 0) (o_45.2.1) (nI e + 1) rr (o_45.2.2)))) else (FL_X10_readTree_45 (nI l) at0 wr0 rm0 tb rr0 rd0 (n2 + 1) fl 0 ((o_45.1) + 0) (o_45.2.1) (nI e + 1) rr (o_45.2.2)))) else some (nI (skp tb l a), nI (skp tb l a), nI (skp tb l a), nI e, rr, rd)) := by
      have hne := ne_m1 (q := skp tb l a) (by omega)
      rw [FL_X10_readTree_45, if_neg (by decide), if_pos rfl, rAhead hl hal, pBs]
      have bad : ((F_X10_bad (nI (skp tb l a)) (-1)).bind fun o_26 => (if (o_26) = (-1) then ((F_X10_ahead (nI l) (nI (skp tb l a)) tb).bind fun o_30 => (if o_30.1 = 59 then (FL_X10_readTree_45 (nI l) at0 wr0 rm0 tb rr0 rd0 (n2 + 1) fl 1 ((o_30.2) + 1) (o_26) (nI e) rr rd) else (FL_X10_readTree_45 (nI l) at0 wr0 rm0 tb rr0 rd0 (n2 + 1) fl 0 ((o_30.2) + 0) (o_26) (nI e) rr rd))) else (FL_X10_readTree_45 (nI l) at0 wr0 rm0 tb rr0 rd0 (n2 + 1) fl 0 ((nI (skp tb l a)) + 0) (o_26) (nI e) rr rd))) = some (nI (skp tb l a), nI (skp tb l a), nI (skp tb l a), nI e, rr, rd) := by
        unfold F_X10_bad
        rw [if_pos rfl, pBs, if_neg hne, add_0, rtX_w hne]
      dsimp only
      rw [bad, pS1]
      by_cases c1 : ch tb l (skp tb l a) = 115
      · have c2 : ¬ ch tb l (skp tb l a) = 100 := by rw [c1]; decide
        by_cases c3 : fl = 0
        · rw [if_pos c1, if_pos c3, if_pos (show ch tb l (skp tb l a) = 115 ∧ fl = 0 from ⟨c1, c3⟩)]
        · rw [if_neg (show ¬ (ch tb l (skp tb l a) = 115 ∧ fl = 0) from fun q => c3 q.2), if_neg (show ¬ (ch tb l (skp tb l a) = 100 ∧ ¬ 8 ≤ e) from fun q => c2 q.1), if_pos c1, if_neg c3, if_neg c2]
      · rw [if_neg (show ¬ (ch tb l (skp tb l a) = 115 ∧ fl = 0) from fun q => c1 q.1), if_neg c1]
        by_cases c2 : ch tb l (skp tb l a) = 100
        · by_cases c3 : 8 ≤ e
          · rw [if_neg (show ¬ (ch tb l (skp tb l a) = 100 ∧ ¬ 8 ≤ e) from fun q => q.2 c3), if_pos c2, if_pos (hl8.mpr c3)]
          · rw [if_pos (show ch tb l (skp tb l a) = 100 ∧ ¬ 8 ≤ e from ⟨c2, c3⟩), if_pos c2, if_neg (show ¬ (8 : Int32) ≤ nI e from fun q => c3 (hl8.mp q))]
        · rw [if_neg (show ¬ (ch tb l (skp tb l a) = 100 ∧ ¬ 8 ≤ e) from fun q => c2 q.1), if_neg c2]
    rw [eY]
    rw [FL_X6_readTree_13]
    by_cases c240 : 240 ≤ c
    · -- the program stops: all is read
      have hla : a = l := by omega
      have hsl : skp tb l a = l := by omega
      have hch : ch tb l (skp tb l a) = -1 := by rw [hsl]; exact ch_end (by omega)
      rw [if_pos (show (240 : Int32) ≤ nI c from (pLe (a := 240) (by omega) (by omega)).mpr c240), hch, if_neg (fun q => absurd q.1 (by decide)), if_neg (fun q => absurd q.1 (by decide)), hsl, hla]
      exact tRes_f (ne_m1 (by omega))
    · rw [if_neg (show ¬ (240 : Int32) ≤ nI c from fun q => c240 ((pLe (a := 240) (by omega) (by omega)).mp q)), cSkip hl hal, pBs, cStands hl s2 (by decide), pBs, cStands hl s2 (by decide), pBs]
      generalize hS : skp tb l a = s at s1 s2 s3 ⊢
      have hne := ne_m1 (q := s) (by omega)
      -- behind the items of a clause
      have behind : ∀ (fl' : Int32) (e1 : Nat) (rv' : Int32) (fu1 fp1 rr1 rd1 : Nat → Int32) (a' : Nat), e1 ≤ 8 → s < a' → a' ≤ l → (a' = l ∨ ch tb l a' = 59) → (fl' = 0 → ∀ i, i < 8 → fu1 i = q_tab 2 i) → row_s 0 fu1 rr1 → (∀ d, d < e1 → row_d d fp1 rd1) →
          tRes (if nI a' < nI l then FL_X6_readTree_13 tb (nI l) ra0 rv0 fu0 fp0 n fl' (nI c + 1) (nI a' + 1) rv' (nI e1) fu1 fp1 else ((F_X5_isTold (nI e1)).bind fun o_19 => if o_19 = 0 then some (nI a', nI a', rv', nI e1, fu1, fp1) else some (-1, nI a', rv', nI e1, fu1, fp1)))
            ((F_X10_ahead (nI l) (nI a') tb).bind fun o_88 => (if o_88.1 = 59 then (FL_X10_readTree_45 (nI l) at0 wr0 rm0 tb rr0 rd0 (n2 + 1) fl' 1 ((o_88.2) + 1) (-1) (nI e1) rr1 rd1) else (FL_X10_readTree_45 (nI l) at0 wr0 rm0 tb rr0 rd0 (n2 + 1) fl' 0 ((o_88.2) + 0) (-1) (nI e1) rr1 rd1))) := by
        intro fl' e1 rv' fu1 fp1 rr1 rd1 a' q1 q2 q3 q4 q5 q6 q7
        have h32 : ch tb l a' ≠ 32 := by
          rcases q4 with q | q
          · rw [ch_end (by omega)]; decide
          · rw [q]; decide
        rw [rAhead hl q3, pBs, skp_id h32]
        dsimp only
        by_cases cl : a' < l
        · have c59 : ch tb l a' = 59 := q4.resolve_left (by omega)
          rw [if_pos ((pLt (by omega) (by omega)).mpr cl), if_pos c59, pS1, pS1]
          exact tree_L hl hb k (a' + 1) n (n2 + 1) (c + 1) e1 fl' rv' fu1 fp1 rr1 rd1 (by omega) (by omega) (by omega) (by omega) q1 q5 q6 q7 (by omega)
        · obtain rfl : a' = l := by omega
          rw [if_neg (fun q => by have := (pLt (by omega) (by omega)).mp q; omega), if_neg (by rw [ch_end (Nat.le_refl a')]; decide), add_0, rtX_e hl]
          unfold F_X5_isTold
          by_cases ce : e1 = 0
          · subst ce
            rw [if_pos (show (nI 0 : Int32) ≤ 0 from by decide), pBs, if_pos rfl, if_pos (show nI 0 = 0 from rfl)]
            exact tRes_f (ne_m1 (by omega))
          · have n0 : ¬ (nI e1 : Int32) = 0 := by rw [show (0 : Int32) = nI 0 from rfl, pEq (by omega) (by omega)]; exact ce
            rw [if_neg (by rw [pLe0 (by omega)]; exact ce), pBs, if_neg (by decide), if_neg n0]
            exact ⟨_, _, _, _, _, _, _, _, _, _, _, rfl, rfl, fun _ => ⟨e1, by omega, q1, rfl, rfl, q6, q7⟩⟩
      -- the reference, where the items went wrong
      have wrong : ∀ (fl' : Int32) (e1 : Int32) (rr1 rd1 : Nat → Int32) (b q : Nat) (w' : Int32), q ≤ l → (w' = nI q ∨ (w' = -1 ∧ b = q ∧ q < l ∧ ch tb l q ≠ 59 ∧ ch tb l q ≠ 32)) → ∃ at' wr' rr2 rd2 e2, (if w' = (-1) then ((F_X10_ahead (nI l) (nI b) tb).bind fun o_88 => (if o_88.1 = 59 then (FL_X10_readTree_45 (nI l) at0 wr0 rm0 tb rr0 rd0 (n2 + 1) fl' 1 ((o_88.2) + 1) w' e1 rr1 rd1) else (FL_X10_readTree_45 (nI l) at0 wr0 rm0 tb rr0 rd0 (n2 + 1) fl' 0 ((o_88.2) + 0) w' e1 rr1 rd1))) else (FL_X10_readTree_45 (nI l) at0 wr0 rm0 tb rr0 rd0 (n2 + 1) fl' 0 ((nI b) + 0) w' e1 rr1 rd1)) = some (nI q, at', wr', e2, rr2, rd2) := by
        intro fl' e1 rr1 rd1 b q w' q1 q2
        rcases q2 with rfl | ⟨rfl, rfl, q3, q4, q5⟩
        · have := ne_m1 (q := q) (by omega)
          rw [if_neg this, rtX_w this]; exact ⟨_, _, _, _, _, rfl⟩
        · rw [if_pos rfl, rAhead hl (by omega), pBs, skp_id q5]
          dsimp only
          rw [if_neg q4, add_0, rtX_q hl hb q3 q5]; exact ⟨_, _, _, _, _, rfl⟩
      -- a device's clause, in the program
      have dev : tRes (if 8 ≤ nI e then some (nI s, nI s, rv, nI e, fu, fp) else ((F_X5_addDevice (nI e) fp).bind fun o_13 => ((F_X6_readItems_d tb (nI l) (nI s) rv o_13.2 (o_13.1 - 1) 8).bind fun o_15 => (if o_15.1 = -1 then (if o_15.2.1 < nI l then FL_X6_readTree_13 tb (nI l) ra0 rv0 fu0 fp0 n fl (nI c + 1) (o_15.2.1 + 1) o_15.2.2.1 o_13.1 fu o_15.2.2.2 else ((F_X5_isTold o_13.1).bind fun o_19 => if o_19 = 0 then some (o_15.2.1, o_15.2.1, o_15.2.2.1, o_13.1, fu, o_15.2.2.2) else some (-1, o_15.2.1, o_15.2.2.1, o_13.1, fu, o_15.2.2.2))) else some (o_15.1, o_15.2.1, o_15.2.2.1, o_13.1, fu, o_15.2.2.2))))) (if ¬ 8 ≤ e then ((F_X10_items_d (nI l) (nI (s + 1)) (-1) tb rd 100 (6 * nI e) 6).bind fun o_45 => (if (o_45.2.1) = (-1) then ((F_X10_ahead (nI l) (o_45.1) tb).bind fun o_49 => (if o_49.1 = 59 then (FL_X10_readTree_45 (nI l) at0 wr0 rm0 tb rr0 rd0 (n2 + 1) fl 1 ((o_49.2) + 1) (o_45.2.1) (nI e + 1) rr (o_45.2.2)) else (FL_X10_readTree_45 (nI l) at0 wr0 rm0 tb rr0 rd0 (n2 + 1) fl 0 ((o_49.2) + 0) (o_45.2.1) (nI e + 1) rr (o_45.2.2)))) else (FL_X10_readTree_45 (nI l) at0 wr0 rm0 tb rr0 rd0 (n2 + 1) fl 0 ((o_45.1) + 0) (o_45.2.1) (nI e + 1) rr (o_45.2.2)))) else some (nI s, nI s, nI s, nI e, rr, rd)) ∨ ¬ ch tb l s = 100 := by
        by_cases c100 : ch tb l s = 100
        · left
          have hsl : s < l := by
            refine Decidable.byContradiction (fun q => ?_)
            rw [ch_end (by omega)] at c100; exact absurd c100 (by decide)
          by_cases c8 : 8 ≤ e
          · rw [if_pos (hl8.mpr c8), if_neg (fun q => q c8)]; exact tRes_f hne
          · rw [if_neg (fun q => c8 (hl8.mp q)), if_pos c8]
            obtain ⟨fp2, a1, a2, a3⟩ := addD (fp := fp) (e := e) (by omega)
            obtain ⟨o, rd2, u1, u2, u3, u4⟩ := usD (tb := tb) (l := l) (rd := rd) (a := s + 1) (e := e) hl hb (by omega) (by omega)
            have e6 : (6 : Int32) * nI e = nI (6 * e) := pM 6 e
            have e1m : nI (e + 1) - 1 = nI e := by rw [show (1 : Int32) = nI 1 from rfl, pSub (by omega) (by omega)]; rfl
            have hrow : row_d e fp2 rd2 := fun i hi => by
              rw [a2 i hi, u3 i hi]
              obtain ⟨v1, v2, v3⟩ := df_d ⟨i, hi⟩
              exact ⟨rfl, d_d i, v2, v3, v1⟩
            obtain ⟨w, a', rv', fi', b, w', rr', i1, i2, i3, i4, i5⟩ := items_d (tb := tb) (l := l) (e := e) (ra0 := nI s) (rv0 := rv) (at0 := nI (s + 1)) (wr0 := -1) (z4 := 6) (fi0 := fp2) (rr0 := rd) hl hb (by omega) 7 1000 1000 0 (s + 1) (fun _ => false) rv fp2 rd2 (by omega) (by omega) (by omega) num06.symm (by omega) hrow
            rw [set06] at i1 i2
            rw [a1, pBs]
            dsimp only
            unfold F_X6_readItems_d
            rw [e1m, pS1, show FL_X6_readItems_d_16 tb (nI l) (nI s) rv fp2 (nI e) 8 1000 0 0 (nI (s + 1)) rv fp2 = _ from i1, pBs, e6, u2, i2 o u1, pBs]
            dsimp only
            have hrd' : ∀ d, d < e → row_d d fi' rr' := fun d hd i hi => by
              have k1 : fi' (d + i * 8) = fp (d + i * 8) := by
                rw [i4.1 _ (fun j hj => by omega), a3 _ (fun j hj => by omega)]
              have k2 : rr' (6 * d + i) = rd (6 * d + i) := by
                rw [i4.2 _ (fun j hj => by omega), u4 _ (fun j hj => by omega)]
              rw [k1, k2]; exact hrd d hd i hi
            rcases i5 with ⟨rfl, rfl, rfl, p4, p5, p6⟩ | ⟨q, p1, rfl, p3⟩
            · rw [if_pos rfl, if_pos rfl, show nI e + 1 = nI (e + 1) from pS1 e]
              refine behind fl (e + 1) rv' fu fi' rr rr' b (by omega) (by omega) i3 p4 hdf hrs (fun d hd => ?_)
              by_cases cd : d = e
              · subst cd; exact p6
              · exact hrd' d (by omega)
            · have := ne_m1 (q := q) (by omega)
              rw [if_neg this]
              obtain ⟨at', wr', rr2, rd2', e2, ew⟩ := wrong fl (nI e + 1) rr rr' b q w' p1 p3
              rw [ew]; exact tRes_f this
        · exact Or.inr c100
      -- all other
      have other : tRes (some (nI s, nI s, rv, nI e, fu, fp)) (some (nI s, nI s, nI s, nI e, rr, rd)) := tRes_f hne
      by_cases c115 : ch tb l s = 115
      · have hsl : s < l := by
          refine Decidable.byContradiction (fun q => ?_)
          rw [ch_end (by omega)] at c115; exact absurd c115 (by decide)
        rw [c115]
        rw [if_neg (show ¬ pb (decide ((115 : Int32) = 115)) = 0 from by decide)]
        by_cases cf : fl = 0
        · subst cf
          rw [if_pos rfl, if_pos ⟨rfl, rfl⟩]
          obtain ⟨o, rr2, u1, u2, u3⟩ := usS (tb := tb) (l := l) (rr := rr) (a := s + 1) hl hb (by omega)
          have hrow : row_s 0 fu rr2 := fun i hi => by
            rw [hdf rfl i hi, u3 i hi]
            obtain ⟨v1, v2, v3⟩ := df_s ⟨i, hi⟩
            exact ⟨rfl, d_s i, v2, v3, v1⟩
          obtain ⟨w, a', rv', fi', b, w', rr', i1, i2, i3, i4, i5⟩ := items_s (tb := tb) (l := l) (ra0 := nI s) (rv0 := rv) (at0 := nI (s + 1)) (wr0 := -1) (z4 := 8) (fi0 := fu) (rr0 := rr) hl hb 9 1000 1000 0 (s + 1) (fun _ => false) rv fu rr2 (by omega) (by omega) (by omega) num0.symm (by omega) hrow
          rw [set0] at i1 i2
          unfold F_X6_readItems_s
          rw [pS1, show FL_X6_readItems_s_16 tb (nI l) (nI s) rv fu 0 1 1000 0 0 (nI (s + 1)) rv fu = _ from i1, pBs, u2, i2 o u1, pBs]
          dsimp only
          rcases i5 with ⟨rfl, rfl, rfl, p4, p5, p6⟩ | ⟨q, p1, rfl, p3⟩
          · rw [if_pos rfl, if_pos rfl]
            exact behind 1 e rv' fi' fp rr' rd b he (by omega) i3 p4 (fun q => absurd q (by decide)) p6 hrd
          · have := ne_m1 (q := q) (by omega)
            rw [if_neg this]
            obtain ⟨at', wr', rr2, rd2', e2, ew⟩ := wrong 1 (nI e) rr' rd b q w' p1 p3
            rw [ew]; exact tRes_f this
        · rw [if_neg cf, if_pos (show pb (decide ((115 : Int32) = 100)) = 0 from by decide), if_neg (show ¬ ((115 : Int32) = 115 ∧ fl = 0) from fun q => cf q.2), if_neg (show ¬ ((115 : Int32) = 100 ∧ ¬ 8 ≤ e) from fun q => absurd q.1 (by decide))]
          exact other
      · rw [if_pos (show pb (decide (ch tb l s = 115)) = 0 by simp [c115, pb]), if_neg (show ¬ (ch tb l s = 115 ∧ fl = 0) from fun q => c115 q.1)]
        by_cases c100 : ch tb l s = 100
        · rw [c100]
          rw [if_neg (show ¬ pb (decide ((100 : Int32) = 100)) = 0 from by decide)]
          have hd := dev.resolve_right (fun q => q c100)
          by_cases c8 : 8 ≤ e
          · rw [if_neg (show ¬ ¬ 8 ≤ e from fun q => q c8)] at hd
            rw [if_neg (show ¬ ((100 : Int32) = 100 ∧ ¬ 8 ≤ e) from fun q => q.2 c8)]; exact hd
          · rw [if_pos (show ¬ 8 ≤ e from c8)] at hd
            rw [if_pos (show (100 : Int32) = 100 ∧ ¬ 8 ≤ e from ⟨rfl, c8⟩)]; exact hd
        · rw [if_pos (show pb (decide (ch tb l s = 100)) = 0 by simp [c100, pb]), if_neg (show ¬ (ch tb l s = 100 ∧ ¬ 8 ≤ e) from fun q => c100 q.1)]
          exact other
end
end

section
/-! reading a script -/
section
variable {tb : Nat → Int32} {l : Nat}
theorem rDigit {a : Nat} (hl : l ≤ 240) (h : a ≤ l) : F_X10_digit (nI l) (nI a) (-1) tb = if dg (ch tb l (skp tb l a)) = true then some (ch tb l (skp tb l a) - 48, nI (skp tb l a + 1), -1) else some (0, nI (skp tb l a), nI (skp tb l a)) := by
  obtain ⟨s1, s2, s3⟩ := skp_s (tb := tb) h
  unfold F_X10_digit
  rw [if_pos rfl, rAhead hl h, pBs]
  dsimp only
  rw [rDig, pBs, rHere hl s2, pBs]
  by_cases c : dg (ch tb l (skp tb l a)) = true
  · rw [c, if_neg (show ¬ pb true = 0 from by decide), if_pos rfl, pS1]
  · have c' : dg (ch tb l (skp tb l a)) = false := by simpa using c
    rw [c', if_pos (show pb false = 0 from rfl), if_neg Bool.false_ne_true]; rfl
theorem rDigit_w {a w : Int32} (hw : w ≠ -1) : F_X10_digit (nI l) a w tb = some (0, a, w) := by
  unfold F_X10_digit F_X10_bad
  rw [if_neg hw, if_neg hw, pBs]
theorem q6 : ∀ i : Fin 6, ∃ x : Fin 4, q_tab 6 i.1 = nI x.1 ∧ 1 ≤ x.1 := by decide
def na : Nat → Nat | 0 => 3 | 1 => 1 | 2 => 1 | 3 => 1 | 4 => 2 | 5 => 1 | _ => 0
theorem q6n : ∀ i : Fin 6, q_tab 6 i.1 = nI (na i.1) := by decide
section
variable {ra0 rv0 : Int32} {fi0 f : Nat → Int32} {i j x a n : Nat} {rv : Int32}
theorem stp_e (hi : i < 6) (hx : na i < x) (hx4 : x ≤ 4) : FL_X6_readStep_7 tb (nI l) ra0 rv0 fi0 (nI i) (nI (j * 4)) (n + 1) (nI x) (nI a) rv f = some (1, nI a, rv, f) := by
  have h4 : na i ≤ 3 := by
    have : ∀ k : Fin 6, na k.1 ≤ 3 := by decide
    exact this ⟨i, hi⟩
  rw [FL_X6_readStep_7, pIx (by omega) (by omega), pCl (by omega), show q_tab 6 i = nI (na i) from q6n ⟨i, hi⟩, if_pos ((pLt (by omega) (by omega)).mpr hx)]
theorem stp_d (hl : l ≤ 240) (hi : i < 6) (h2 : i ≠ 2) (hx : x ≤ na i) (hj : j < 16) (ha : a ≤ l) : FL_X6_readStep_7 tb (nI l) ra0 rv0 fi0 (nI i) (nI (j * 4)) (n + 1) (nI x) (nI a) rv f = if dg (ch tb l (skp tb l a)) = true then FL_X6_readStep_7 tb (nI l) ra0 rv0 fi0 (nI i) (nI (j * 4)) n (nI (x + 1)) (nI (skp tb l a + 1)) (ch tb l (skp tb l a) - 48) (upd f (j * 4 + x) (ch tb l (skp tb l a) - 48)) else some (0, nI (skp tb l a), rv, f) := by
  have h4 : na i ≤ 3 := by
    have : ∀ k : Fin 6, na k.1 ≤ 3 := by decide
    exact this ⟨i, hi⟩
  obtain ⟨s1, s2, s3⟩ := skp_s (tb := tb) ha
  rw [FL_X6_readStep_7, pIx (by omega) (by omega), pCl (by omega), show q_tab 6 i = nI (na i) from q6n ⟨i, hi⟩, if_neg (fun q => by have := (pLt (by omega) (by omega)).mp q; omega), cSkip hl ha, pBs, if_neg (show ¬ (nI i : Int32) = 2 from fun q => h2 ((nI_eq (a := i) (b := 2) (by omega) (by omega)).mp q)), cRdD hl s2, pBs]
  by_cases c : dg (ch tb l (skp tb l a)) = true
  · rw [if_pos c, if_pos c]
    dsimp only
    rw [if_neg (by decide), nI_add, pIx (by omega) (by omega), pCl (by omega), pS1]
  · rw [if_neg c, if_neg c]
    dsimp only
    rw [if_pos rfl]
theorem stp_n (hl : l ≤ 240) (hj : j < 16) (ha : a ≤ l) : FL_X6_readStep_7 tb (nI l) ra0 rv0 fi0 2 (nI (j * 4)) (n + 1 + 1) 1 (nI a) rv f = if (decide (skp tb l a < (nmG tb l 2 (skp tb l a) 0).1) && !dg (ch tb l (nmG tb l 2 (skp tb l a) 0).1)) = true then some (1, nI (nmG tb l 2 (skp tb l a) 0).1, (nmG tb l 2 (skp tb l a) 0).2, upd f (j * 4 + 1) (nmG tb l 2 (skp tb l a) 0).2) else some (0, nI (nmG tb l 2 (skp tb l a) 0).1, (nmG tb l 2 (skp tb l a) 0).2, f) := by
  obtain ⟨s1, s2, s3⟩ := skp_s (tb := tb) ha
  have hn := cNum (tb := tb) (a := skp tb l a) (z := 2) (rv := rv) hl s2 (by omega)
  rw [FL_X6_readStep_7, if_neg (by decide), if_neg (by decide), cSkip hl ha, pBs, if_pos rfl, show F_X6_readNumber tb (nI l) (nI (skp tb l a)) rv 2 = _ from hn, pBs]
  dsimp only
  by_cases c : (decide (skp tb l a < (nmG tb l 2 (skp tb l a) 0).1) && !dg (ch tb l (nmG tb l 2 (skp tb l a) 0).1)) = true
  · rw [c, if_neg (show ¬ pb true = 0 from by decide), if_pos rfl, show nI (j * 4) + 1 = nI (j * 4 + 1) from nI_add _ 1, pIx (by omega) (by omega), pCl (by omega)]
    show FL_X6_readStep_7 tb (nI l) ra0 rv0 fi0 (nI 2) (nI (j * 4)) (n + 1) (nI 2) _ _ _ = _
    rw [stp_e (by omega) (show na 2 < 2 by decide) (by omega)]
  · have c' : (decide (skp tb l a < (nmG tb l 2 (skp tb l a) 0).1) && !dg (ch tb l (nmG tb l 2 (skp tb l a) 0).1)) = false := by simpa using c
    rw [c', if_pos (show pb false = 0 from rfl), if_neg Bool.false_ne_true]
end
theorem nm2_99 {a : Nat} (hb : tOK tb) (ha : a ≤ l) : (!decide ((nmG tb l 2 a 0).2 < 0) && !decide (99 < (nmG tb l 2 a 0).2)) = true := by
  have hd : ∀ v : Fin 256, dg (nI v.1) = true → ∃ x : Fin 10, nI v.1 - 48 = nI x.1 := by decide +kernel
  have dv : ∀ b, dg (ch tb l b) = true → ∃ x : Fin 10, ch tb l b - 48 = nI x.1 := fun b h => by
    obtain ⟨v, hv, ev⟩ := ch_b hb (dg_in h)
    rw [ev] at h ⊢; exact hd ⟨v, hv⟩ h
  have t0 : (!decide ((0 : Int32) < 0) && !decide ((99 : Int32) < 0)) = true := by decide
  have t1 : ∀ x : Fin 10, (!decide ((0 : Int32) * 10 + nI x.1 < 0) && !decide ((99 : Int32) < 0 * 10 + nI x.1)) = true := by decide
  have t2 : ∀ x y : Fin 10, (!decide (((0 : Int32) * 10 + nI x.1) * 10 + nI y.1 < 0) && !decide ((99 : Int32) < (0 * 10 + nI x.1) * 10 + nI y.1)) = true := by decide
  unfold nmG
  by_cases c : dg (ch tb l a) = true
  · rw [if_pos c]
    obtain ⟨x, ex⟩ := dv a c
    rw [ex]
    unfold nmG
    by_cases c2 : dg (ch tb l (a + 1)) = true
    · rw [if_pos c2]
      obtain ⟨y, ey⟩ := dv (a + 1) c2
      rw [ey]; exact t2 x y
    · rw [if_neg c2]; exact t1 x
  · rw [if_neg c]; exact t0
/-- one step, both sides -/
theorem step_L {rv : Int32} {f3 sq : Nat → Int32} {z j a : Nat} (hl : l ≤ 240) (hb : tOK tb) (hz : z < 5) (hj : j < 16) (ha : a ≤ l) (hm1 : ∀ k, 4 * j ≤ k → k < 64 → f3 k = -1) : ((∃ q sq', q ≤ l ∧ q = skp tb l a ∧ (l ≤ q ∨ F_J0_indexOf_2 (tb q) = some (-1)) ∧ F_X10_readStep (nI l) (nI a) (-1) tb sq (nI (4 * (16 * z + j))) = some (nI q, nI q, sq') ∧ (∀ k, ¬ (4 * (16 * z + j) ≤ k ∧ k < 4 * (16 * z + j) + 4) → sq' k = sq k)) ∨
     (∃ i, i < 6 ∧ skp tb l a < l ∧ F_J0_indexOf_2 (tb (skp tb l a)) = some (nI i) ∧
       ((∃ q rv' f3' at' sq', q ≤ l ∧ F_X6_readStep tb (nI l) (nI (skp tb l a + 1)) rv f3 (nI i) (nI (j * 4)) = some (0, nI q, rv', f3') ∧ F_X10_readStep (nI l) (nI a) (-1) tb sq (nI (4 * (16 * z + j))) = some (at', nI q, sq') ∧ (∀ k, ¬ (4 * (16 * z + j) ≤ k ∧ k < 4 * (16 * z + j) + 4) → sq' k = sq k)) ∨
        (∃ p rv' f3' sq', skp tb l a < p ∧ p ≤ l ∧ F_X6_readStep tb (nI l) (nI (skp tb l a + 1)) rv f3 (nI i) (nI (j * 4)) = some (1, nI p, rv', f3') ∧ F_X10_readStep (nI l) (nI a) (-1) tb sq (nI (4 * (16 * z + j))) = some (nI p, -1, sq') ∧ (∀ k, ¬ (4 * (16 * z + j) ≤ k ∧ k < 4 * (16 * z + j) + 4) → sq' k = sq k) ∧ (∀ k, ¬ (4 * j ≤ k ∧ k < 4 * j + 4) → f3' k = f3 k) ∧ f3' (4 * j) = nI i ∧ ∀ c, c < 4 → sq' (4 * (16 * z + j) + c) = f3' (4 * j + c))))) := by
  obtain ⟨s1, s2, s3⟩ := skp_s (tb := tb) ha
  generalize hZ : 4 * (16 * z + j) = Z
  have hZ4 : Z + 4 ≤ 320 := by omega
  unfold F_X10_readStep
  rw [rAhead hl ha, pBs]
  dsimp only
  generalize hS : skp tb l a = s at s1 s2 s3
  have bad : ∀ o, F_X10_sortOf (ch tb l s) = some o → o = -1 → ((F_X10_sortOf (ch tb l s)).bind fun o_3 => (if o_3 = -1 then ((F_X10_bad (nI s) (-1)).bind fun o_52 => some ((nI s), (o_52), sq)) else none)) = some (nI s, nI s, sq) := fun o ho h => by
    subst h; rw [ho, pBs, if_pos rfl]; rfl
  by_cases hsl : s < l
  · obtain ⟨v, hv, ev⟩ := hb s
    have ech : ch tb l s = nI v := by rw [ch_in hsl]; exact ev
    rcases itm2 ⟨v, hv⟩ with q | ⟨⟨i, hi⟩, q⟩
    · left
      have q' : F_X10_sortOf (ch tb l s) = some (-1) := by rw [ech]; exact q
      refine ⟨s, sq, s2, rfl, Or.inr (by rw [ev, idx2 ⟨v, hv⟩]; exact q), ?_, fun _ _ => rfl⟩
      rw [q', pBs, if_pos rfl]; rfl
    · right
      have q' : F_X10_sortOf (ch tb l s) = some (nI i) := by rw [ech]; exact q
      refine ⟨i, hi, hsl, by rw [ev, idx2 ⟨v, hv⟩]; exact q, ?_⟩
      have hne : ¬ (nI i : Int32) = -1 := by rw [pNm (by omega)]; exact id
      have z1 : nI Z + 1 = nI (Z + 1) := nI_add Z 1
      have z2 : nI Z + 2 = nI (Z + 2) := nI_add Z 2
      have z3 : nI Z + 3 = nI (Z + 3) := nI_add Z 3
      have x0 : ¬ (nI Z < 0 ∨ 320 ≤ Z) := fun q => q.elim (nI_pos (by omega)) (fun q => by omega)
      have x1 : ¬ (nI (Z + 1) < 0 ∨ 320 ≤ Z + 1) := fun q => q.elim (nI_pos (by omega)) (fun q => by omega)
      have x2 : ¬ (nI (Z + 2) < 0 ∨ 320 ≤ Z + 2) := fun q => q.elim (nI_pos (by omega)) (fun q => by omega)
      have x3 : ¬ (nI (Z + 3) < 0 ∨ 320 ≤ Z + 3) := fun q => q.elim (nI_pos (by omega)) (fun q => by omega)
      have c0 : (nI Z).toNatClampNeg = Z := pCl (by omega)
      have c1 : (nI (Z + 1)).toNatClampNeg = Z + 1 := pCl (by omega)
      have c2 : (nI (Z + 2)).toNatClampNeg = Z + 2 := pCl (by omega)
      have c3 : (nI (Z + 3)).toNatClampNeg = Z + 3 := pCl (by omega)
      rw [q', pBs, if_neg hne, z1, z2, z3, pS1]
      simp only [if_neg x0, if_neg x1, if_neg x2, if_neg x3, c0, c1, c2, c3]
      unfold F_X6_readStep
      rw [pIx (by omega) (by omega), pCl (by omega)]
      have e0 : f3 (4 * j) = -1 := hm1 _ (by omega) (by omega)
      have e1 : f3 (4 * j + 1) = -1 := hm1 _ (by omega) (by omega)
      have e2 : f3 (4 * j + 2) = -1 := hm1 _ (by omega) (by omega)
      have e3 : f3 (4 * j + 3) = -1 := hm1 _ (by omega) (by omega)
      have j4 : j * 4 = 4 * j := Nat.mul_comm j 4
      have hi6 : i = 0 ∨ i = 1 ∨ i = 2 ∨ i = 3 ∨ i = 4 ∨ i = 5 := by omega
      have D1 := rDigit (tb := tb) (a := s + 1) hl (by omega)
      obtain ⟨t1, t2, t3⟩ := skp_s (tb := tb) (show s + 1 ≤ l by omega)
      -- one digit alone
      have one : ∀ i, i < 6 → na i = 1 → i ≠ 2 → ∀ X, X = FL_X6_readStep_7 tb (nI l) (nI (s + 1)) rv f3 (nI i) (nI (j * 4)) (998 + 1 + 1) 1 (nI (s + 1)) rv (upd f3 (j * 4) (nI i)) → ∀ Y, Y = ((F_X10_digit (nI l) (nI (s + 1)) (-1) tb).bind fun o_10 => some ((o_10.2.1), (o_10.2.2), (upd (upd (upd (upd sq Z (nI i)) (Z + 2) (-1)) (Z + 3) (-1)) (Z + 1) o_10.1))) → ((∃ q rv' f3' at' sq', q ≤ l ∧ X = some (0, nI q, rv', f3') ∧ Y = some (at', nI q, sq') ∧ (∀ k, ¬ (Z ≤ k ∧ k < Z + 4) → sq' k = sq k)) ∨ (∃ p rv' f3' sq', s < p ∧ p ≤ l ∧ X = some (1, nI p, rv', f3') ∧ Y = some (nI p, -1, sq') ∧ (∀ k, ¬ (Z ≤ k ∧ k < Z + 4) → sq' k = sq k) ∧ (∀ k, ¬ (4 * j ≤ k ∧ k < 4 * j + 4) → f3' k = f3 k) ∧ f3' (4 * j) = nI i ∧ ∀ c, c < 4 → sq' (Z + c) = f3' (4 * j + c))) := by
        intro i hi hn h2 X hX Y hY
        rw [show (1 : Int32) = nI 1 from rfl, stp_d hl hi h2 (by omega) hj (by omega)] at hX
        rw [D1] at hY
        by_cases w : dg (ch tb l (skp tb l (s + 1))) = true
        · have := dg_in w
          rw [if_pos w, stp_e hi (by omega) (by omega)] at hX
          rw [if_pos w, pBs] at hY
          right
          refine ⟨_, _, _, _, by omega, by omega, hX, hY, fun k hk => ?_, fun k hk => ?_, ?_, fun c hc => ?_⟩
          · rw [pUn (by omega), pUn (by omega), pUn (by omega), pUn (by omega)]
          · rw [pUn (by omega), pUn (by omega)]
          · rw [pUn (by omega), j4, pUs]
          · have hc4 : c = 0 ∨ c = 1 ∨ c = 2 ∨ c = 3 := by omega
            rcases hc4 with rfl | rfl | rfl | rfl
            · rw [pUn (by omega), pUn (by omega), pUn (by omega), Nat.add_zero, pUs, pUn (by omega), j4, Nat.add_zero, pUs]
            · rw [pUs, j4, pUs]
            · rw [pUn (by omega), pUn (by omega), pUs, pUn (by omega), pUn (by omega), e2]
            · rw [pUn (by omega), pUs, pUn (by omega), pUn (by omega), e3]
        · rw [if_neg w] at hX
          rw [if_neg w, pBs] at hY
          left
          exact ⟨_, _, _, _, _, t2, hX, hY, fun k hk => by rw [pUn (by omega), pUn (by omega), pUn (by omega), pUn (by omega)]⟩
      rcases hi6 with rfl | rfl | rfl | rfl | rfl | rfl
      · -- p: three digits
        show (∃ q rv' f3' at' sq', q ≤ l ∧ FL_X6_readStep_7 tb (nI l) (nI (s + 1)) rv f3 (nI 0) (nI (j * 4)) (996 + 1 + 1 + 1 + 1) (nI 1) (nI (s + 1)) rv (upd f3 (j * 4) (nI 0)) = some (0, nI q, rv', f3') ∧ ((F_X10_digit (nI l) (nI (s + 1)) (-1) tb).bind fun o_10 => ((F_X10_digit (nI l) (o_10.2.1) (o_10.2.2) tb).bind fun o_15 => ((F_X10_digit (nI l) (o_15.2.1) (o_15.2.2) tb).bind fun o_18 => some ((o_18.2.1), (o_18.2.2), (upd (upd (upd (upd (upd (upd sq Z (nI 0)) (Z + 2) (-1)) (Z + 3) (-1)) (Z + 1) o_10.1) (Z + 2) o_15.1) (Z + 3) o_18.1))))) = some (at', nI q, sq') ∧ _) ∨ (∃ p rv' f3' sq', s < p ∧ p ≤ l ∧ FL_X6_readStep_7 tb (nI l) (nI (s + 1)) rv f3 (nI 0) (nI (j * 4)) (996 + 1 + 1 + 1 + 1) (nI 1) (nI (s + 1)) rv (upd f3 (j * 4) (nI 0)) = some (1, nI p, rv', f3') ∧ ((F_X10_digit (nI l) (nI (s + 1)) (-1) tb).bind fun o_10 => ((F_X10_digit (nI l) (o_10.2.1) (o_10.2.2) tb).bind fun o_15 => ((F_X10_digit (nI l) (o_15.2.1) (o_15.2.2) tb).bind fun o_18 => some ((o_18.2.1), (o_18.2.2), (upd (upd (upd (upd (upd (upd sq Z (nI 0)) (Z + 2) (-1)) (Z + 3) (-1)) (Z + 1) o_10.1) (Z + 2) o_15.1) (Z + 3) o_18.1))))) = some (nI p, -1, sq') ∧ _)
        rw [stp_d hl (by omega) (by omega) (show 1 ≤ na 0 by decide) hj (by omega), D1]
        by_cases w : dg (ch tb l (skp tb l (s + 1))) = true
        · have l1 := dg_in w
          obtain ⟨u1, u2, u3⟩ := skp_s (tb := tb) (show skp tb l (s + 1) + 1 ≤ l by omega)
          rw [if_pos w, if_pos w, pBs]
          dsimp only
          rw [stp_d hl (by omega) (by omega) (show 1 + 1 ≤ na 0 by decide) hj (by omega), rDigit hl (by omega)]
          generalize skp tb l (skp tb l (s + 1) + 1) = s' at u1 u2 u3 ⊢
          by_cases w' : dg (ch tb l s') = true
          · have l2 := dg_in w'
            obtain ⟨y1, y2, y3⟩ := skp_s (tb := tb) (show s' + 1 ≤ l by omega)
            rw [if_pos w', if_pos w', pBs]
            dsimp only
            rw [stp_d hl (by omega) (by omega) (show 1 + 1 + 1 ≤ na 0 by decide) hj (by omega), rDigit hl (by omega)]
            generalize skp tb l (s' + 1) = s'' at y1 y2 y3 ⊢
            by_cases w'' : dg (ch tb l s'') = true
            · have l3 := dg_in w''
              rw [if_pos w'', if_pos w'', pBs, stp_e (by omega) (show na 0 < 1 + 1 + 1 + 1 by decide) (by omega)]
              right
              refine ⟨_, _, _, _, by omega, by omega, rfl, rfl, fun k hk => ?_, fun k hk => ?_, ?_, fun c hc => ?_⟩
              · rw [pUn (by omega), pUn (by omega), pUn (by omega), pUn (by omega), pUn (by omega), pUn (by omega)]
              · rw [pUn (by omega), pUn (by omega), pUn (by omega), pUn (by omega)]
              · rw [pUn (by omega), pUn (by omega), pUn (by omega), j4, pUs]
              · have hc4 : c = 0 ∨ c = 1 ∨ c = 2 ∨ c = 3 := by omega
                rcases hc4 with rfl | rfl | rfl | rfl
                · rw [pUn (by omega), pUn (by omega), pUn (by omega), pUn (by omega), pUn (by omega), Nat.add_zero, pUs, pUn (by omega), pUn (by omega), pUn (by omega), j4, Nat.add_zero, pUs]
                · rw [pUn (by omega), pUn (by omega), pUs, pUn (by omega), pUn (by omega), j4, pUs]
                · rw [pUn (by omega), pUs, pUn (by omega), j4, show 4 * j + (1 + 1) = 4 * j + 2 from rfl, pUs]
                · rw [pUs, j4, show 4 * j + (1 + 1 + 1) = 4 * j + 3 from rfl, pUs]
            · rw [if_neg w'', if_neg w'', pBs]
              left
              exact ⟨_, _, _, _, _, y2, rfl, rfl, fun k hk => by rw [pUn (by omega), pUn (by omega), pUn (by omega), pUn (by omega), pUn (by omega), pUn (by omega)]⟩
          · have hw := ne_m1 (q := s') (by omega)
            rw [if_neg w', if_neg w', pBs]
            dsimp only
            rw [rDigit_w hw, pBs]
            left
            exact ⟨_, _, _, _, _, u2, rfl, rfl, fun k hk => by rw [pUn (by omega), pUn (by omega), pUn (by omega), pUn (by omega), pUn (by omega), pUn (by omega)]⟩
        · have hw := ne_m1 (q := skp tb l (s + 1)) (by omega)
          rw [if_neg w, if_neg w, pBs]
          dsimp only
          rw [rDigit_w hw, pBs]
          dsimp only
          rw [rDigit_w hw, pBs]
          left
          exact ⟨_, _, _, _, _, t2, rfl, rfl, fun k hk => by rw [pUn (by omega), pUn (by omega), pUn (by omega), pUn (by omega), pUn (by omega), pUn (by omega)]⟩
      · exact one 1 (by omega) (by decide) (by omega) _ rfl _ rfl
      · -- t: a number of ticks
        show (∃ q rv' f3' at' sq', q ≤ l ∧ FL_X6_readStep_7 tb (nI l) (nI (s + 1)) rv f3 2 (nI (j * 4)) (998 + 1 + 1) 1 (nI (s + 1)) rv (upd f3 (j * 4) (nI 2)) = some (0, nI q, rv', f3') ∧ ((F_X10_number (nI l) (nI (s + 1)) (-1) tb (nI 2) 0 99).bind fun o_31 => some ((o_31.2.1), (o_31.2.2), (upd (upd (upd (upd sq Z (nI 2)) (Z + 2) (-1)) (Z + 3) (-1)) (Z + 1) o_31.1))) = some (at', nI q, sq') ∧ _) ∨ (∃ p rv' f3' sq', s < p ∧ p ≤ l ∧ FL_X6_readStep_7 tb (nI l) (nI (s + 1)) rv f3 2 (nI (j * 4)) (998 + 1 + 1) 1 (nI (s + 1)) rv (upd f3 (j * 4) (nI 2)) = some (1, nI p, rv', f3') ∧ ((F_X10_number (nI l) (nI (s + 1)) (-1) tb (nI 2) 0 99).bind fun o_31 => some ((o_31.2.1), (o_31.2.2), (upd (upd (upd (upd sq Z (nI 2)) (Z + 2) (-1)) (Z + 3) (-1)) (Z + 1) o_31.1))) = some (nI p, -1, sq') ∧ _)
        rw [stp_n hl hj (by omega), rNum hl (by omega) (by omega) (by omega), pBs]
        dsimp only
        have h99 := nm2_99 (tb := tb) (l := l) (a := skp tb l (s + 1)) hb t2
        have hle := nmG_le (tb := tb) (l := l) 2 (skp tb l (s + 1)) 0 t2
        unfold nmR
        generalize hSS : skp tb l (s + 1) = S at t1 t2 t3 h99 hle ⊢
        generalize hG : nmG tb l 2 S 0 = G at h99 hle ⊢
        obtain ⟨p, v0⟩ := G
        dsimp only at h99 hle ⊢
        by_cases w : dg (ch tb l S) = true
        · have hgt : S < p := by
            have e3 : nmG tb l 2 S 0 = nmG tb l 1 (S + 1) (0 * 10 + (ch tb l S - 48)) := by rw [nmG, if_pos w]
            have := dg_in w
            have := (nmG_le (tb := tb) (l := l) 1 (S + 1) (0 * 10 + (ch tb l S - 48)) (by omega)).1
            rw [← e3, hG] at this
            exact this
          by_cases w2 : dg (ch tb l p) = true
          · rw [if_neg (show ¬ (decide (S < p) && !dg (ch tb l p)) = true by simp [w2]), if_pos w, if_pos w2]
            left
            exact ⟨_, _, _, _, _, hle.2, rfl, rfl, fun k hk => by rw [pUn (by omega), pUn (by omega), pUn (by omega), pUn (by omega)]⟩
          · rw [if_pos (show (decide (S < p) && !dg (ch tb l p)) = true by simp [w2, hgt]), if_pos w, if_neg w2, if_pos h99]
            right
            refine ⟨_, _, _, _, by omega, hle.2, rfl, rfl, fun k hk => ?_, fun k hk => ?_, ?_, fun c hc => ?_⟩
            · rw [pUn (by omega), pUn (by omega), pUn (by omega), pUn (by omega)]
            · rw [pUn (by omega), pUn (by omega)]
            · rw [pUn (by omega), j4, pUs]
            · have hc4 : c = 0 ∨ c = 1 ∨ c = 2 ∨ c = 3 := by omega
              rcases hc4 with rfl | rfl | rfl | rfl
              · rw [pUn (by omega), pUn (by omega), pUn (by omega), Nat.add_zero, pUs, pUn (by omega), j4, Nat.add_zero, pUs]
              · rw [pUs, j4, pUs]
              · rw [pUn (by omega), pUn (by omega), pUs, pUn (by omega), pUn (by omega), e2]
              · rw [pUn (by omega), pUs, pUn (by omega), pUn (by omega), e3]
        · have e3 : nmG tb l 2 S 0 = (S, 0) := by rw [nmG, if_neg w]
          rw [hG] at e3
          have ep : p = S := congrArg Prod.fst e3
          rw [if_neg (show ¬ (decide (S < p) && !dg (ch tb l p)) = true by rw [decide_eq_false (by omega)]; simp), if_neg w]
          left
          exact ⟨S, _, _, _, _, t2, by rw [ep], rfl, fun k hk => by rw [pUn (by omega), pUn (by omega), pUn (by omega), pUn (by omega)]⟩
      · exact one 3 (by omega) (by decide) (by omega) _ rfl _ rfl
      · -- e: two digits
        show (∃ q rv' f3' at' sq', q ≤ l ∧ FL_X6_readStep_7 tb (nI l) (nI (s + 1)) rv f3 (nI 4) (nI (j * 4)) (997 + 1 + 1 + 1) (nI 1) (nI (s + 1)) rv (upd f3 (j * 4) (nI 4)) = some (0, nI q, rv', f3') ∧ ((F_X10_digit (nI l) (nI (s + 1)) (-1) tb).bind fun o_10 => ((F_X10_digit (nI l) (o_10.2.1) (o_10.2.2) tb).bind fun o_21 => some ((o_21.2.1), (o_21.2.2), (upd (upd (upd (upd (upd sq Z (nI 4)) (Z + 2) (-1)) (Z + 3) (-1)) (Z + 1) o_10.1) (Z + 2) o_21.1)))) = some (at', nI q, sq') ∧ _) ∨ (∃ p rv' f3' sq', s < p ∧ p ≤ l ∧ FL_X6_readStep_7 tb (nI l) (nI (s + 1)) rv f3 (nI 4) (nI (j * 4)) (997 + 1 + 1 + 1) (nI 1) (nI (s + 1)) rv (upd f3 (j * 4) (nI 4)) = some (1, nI p, rv', f3') ∧ ((F_X10_digit (nI l) (nI (s + 1)) (-1) tb).bind fun o_10 => ((F_X10_digit (nI l) (o_10.2.1) (o_10.2.2) tb).bind fun o_21 => some ((o_21.2.1), (o_21.2.2), (upd (upd (upd (upd (upd sq Z (nI 4)) (Z + 2) (-1)) (Z + 3) (-1)) (Z + 1) o_10.1) (Z + 2) o_21.1)))) = some (nI p, -1, sq') ∧ _)
        rw [stp_d hl (by omega) (by omega) (show 1 ≤ na 4 by decide) hj (by omega), D1]
        by_cases w : dg (ch tb l (skp tb l (s + 1))) = true
        · have l1 := dg_in w
          obtain ⟨u1, u2, u3⟩ := skp_s (tb := tb) (show skp tb l (s + 1) + 1 ≤ l by omega)
          rw [if_pos w, if_pos w, pBs]
          dsimp only
          rw [stp_d hl (by omega) (by omega) (show 1 + 1 ≤ na 4 by decide) hj (by omega), rDigit hl (by omega)]
          generalize skp tb l (skp tb l (s + 1) + 1) = s' at u1 u2 u3 ⊢
          by_cases w' : dg (ch tb l s') = true
          · have l2 := dg_in w'
            rw [if_pos w', if_pos w', pBs, stp_e (by omega) (show na 4 < 1 + 1 + 1 by decide) (by omega)]
            right
            refine ⟨_, _, _, _, by omega, by omega, rfl, rfl, fun k hk => ?_, fun k hk => ?_, ?_, fun c hc => ?_⟩
            · rw [pUn (by omega), pUn (by omega), pUn (by omega), pUn (by omega), pUn (by omega)]
            · rw [pUn (by omega), pUn (by omega), pUn (by omega)]
            · rw [pUn (by omega), pUn (by omega), j4, pUs]
            · have hc4 : c = 0 ∨ c = 1 ∨ c = 2 ∨ c = 3 := by omega
              rcases hc4 with rfl | rfl | rfl | rfl
              · rw [pUn (by omega), pUn (by omega), pUn (by omega), pUn (by omega), Nat.add_zero, pUs, pUn (by omega), pUn (by omega), j4, Nat.add_zero, pUs]
              · rw [pUn (by omega), pUs, pUn (by omega), j4, pUs]
              · rw [pUs, j4, show 4 * j + (1 + 1) = 4 * j + 2 from rfl, pUs]
              · rw [pUn (by omega), pUn (by omega), pUs, pUn (by omega), pUn (by omega), pUn (by omega), e3]
          · rw [if_neg w', if_neg w', pBs]
            left
            exact ⟨_, _, _, _, _, u2, rfl, rfl, fun k hk => by rw [pUn (by omega), pUn (by omega), pUn (by omega), pUn (by omega), pUn (by omega)]⟩
        · have hw := ne_m1 (q := skp tb l (s + 1)) (by omega)
          rw [if_neg w, if_neg w, pBs]
          dsimp only
          rw [rDigit_w hw, pBs]
          left
          exact ⟨_, _, _, _, _, t2, rfl, rfl, fun k hk => by rw [pUn (by omega), pUn (by omega), pUn (by omega), pUn (by omega), pUn (by omega)]⟩
      · exact one 5 (by omega) (by decide) (by omega) _ rfl _ rfl
  · left
    have q' : F_X10_sortOf (ch tb l s) = some (-1) := by rw [ch_end (by omega)]; decide
    refine ⟨s, sq, s2, rfl, Or.inl (by omega), ?_, fun _ _ => rfl⟩
    rw [q', pBs, if_pos rfl]; rfl
end
end

section
/-! a script read; texts taken -/
section
variable {tb : Nat → Int32} {l : Nat}
section
variable {at0 wr0 : Int32} {sq0 sl0 sq sl : Nat → Int32} {n z : Nat}
theorem rsX_w {a w : Int32} (hw : w ≠ -1) : FL_X10_readScript_19 (nI l) at0 wr0 tb sq0 sl0 (nI z) (n + 1) 0 a w sq sl = some (w, a, w, sq, sl) := by
  rw [FL_X10_readScript_19, if_pos rfl, if_neg hw]
theorem rsX_q {q : Nat} (hl : l ≤ 240) (hb : tOK tb) (hq : q < l) (h32 : ch tb l q ≠ 32) : FL_X10_readScript_19 (nI l) at0 wr0 tb sq0 sl0 (nI z) (n + 1) 0 (nI q) (-1) sq sl = some (nI q, nI q, nI q, sq, sl) := by
  rw [FL_X10_readScript_19, if_pos rfl, if_pos rfl, rAhead hl (by omega), pBs, skp_id h32]
  show (if ch tb l q = -1 then _ else (F_X10_bad (nI q) (-1)).bind _) = _
  rw [if_neg (fun w => by rw [ch_m hb] at w; omega)]
  rfl
theorem rsX_e (hl : l ≤ 240) : FL_X10_readScript_19 (nI l) at0 wr0 tb sq0 sl0 (nI z) (n + 1) 0 (nI l) (-1) sq sl = some (-1, nI l, -1, sq, sl) := by
  have h32 : ch tb l l ≠ 32 := by rw [ch_end (by omega)]; decide
  rw [FL_X10_readScript_19, if_pos rfl, if_pos rfl, rAhead hl (by omega), pBs, skp_id h32]
  show (if ch tb l l = -1 then _ else _) = _
  rw [if_pos (ch_end (by omega))]
end
def sRow (z : Nat) (f3 sq : Nat → Int32) (i : Nat) : Prop := (∃ k, k ≤ 5 ∧ f3 (4 * i) = nI k) ∧ ∀ c, c < 4 → sq (4 * (16 * z + i) + c) = f3 (4 * i + c)
def sRes (z : Nat) (sq sl : Nat → Int32) (X : Option (Int32 × Int32 × Int32 × (Nat → Int32) × Int32)) (Y : Option (Int32 × Int32 × Int32 × (Nat → Int32) × (Nat → Int32))) : Prop :=
  ∃ w a' rv' f3' ds' at' wr' sq' sl', X = some (w, a', rv', f3', ds') ∧ Y = some (w, at', wr', sq', sl') ∧ (∀ k, ¬ (64 * z ≤ k ∧ k < 64 * z + 64) → sq' k = sq k) ∧ (∀ k, k ≠ z → sl' k = sl k) ∧ (w = -1 → ∃ j, j ≤ 16 ∧ ds' = nI j ∧ sl' z = nI j ∧ ∀ i, i < j → sRow z f3' sq' i)
theorem script_L {ra0 rv0 at0 wr0 ds0 : Int32} {f30 sq0 sl0 sqA slA : Nat → Int32} {z : Nat} (hl : l ≤ 240) (hb : tOK tb) (hz : z < 5) : ∀ (k j n n' a : Nat) (rv ds : Int32) (f3 sq sl : Nat → Int32), j + k = 16 → 0 < k → k + 1 < n → k + 2 < n' → a ≤ l → sl z = nI j → (∀ i, i < j → sRow z f3 sq i) → (∀ x, 4 * j ≤ x → x < 64 → f3 x = -1) → (∀ x, ¬ (64 * z ≤ x ∧ x < 64 * z + 64) → sq x = sqA x) → (∀ x, x ≠ z → sl x = slA x) →
    sRes z sqA slA (FL_X6_readScript_15 tb (nI l) ra0 rv0 f30 ds0 n (nI j) (nI a) rv f3 ds) (FL_X10_readScript_19 (nI l) at0 wr0 tb sq0 sl0 (nI z) n' 1 (nI a) (-1) sq sl)
  | 0, j, n, n', a, rv, ds, f3, sq, sl, _, h, _, _, _, _, _, _, _, _ => absurd h (by omega)
  | k + 1, j, 0, n', a, rv, ds, f3, sq, sl, _, _, h, _, _, _, _, _, _, _ => absurd h (by omega)
  | k + 1, j, n + 1, 0, a, rv, ds, f3, sq, sl, _, _, _, h, _, _, _, _, _, _ => absurd h (by omega)
  | k + 1, j, n + 1, n' + 1, a, rv, ds, f3, sq, sl, h1, _, h2, h3, ha, hsl, hrow, hm1, hfq, hfl => by
    obtain ⟨n2, rfl⟩ : ∃ y, n' = y + 1 := ⟨n' - 1, by omega⟩
    obtain ⟨s1, s2, s3⟩ := skp_s (tb := tb) ha
    have hj : j < 16 := by omega
    have hst := step_L (tb := tb) (l := l) (rv := rv) (f3 := f3) (sq := sq) (z := z) (j := j) (a := a) hl hb hz hj ha hm1
    have e4 : (4 : Int32) * ((16 : Int32) * nI z + nI j) = nI (4 * (16 * z + j)) := by
      have q1 : (16 : Int32) * nI z = nI (16 * z) := pM 16 z
      rw [q1, nI_add]; exact pM 4 _
    have hsl' : ∀ x, x ≠ z → upd sl z (nI (j + 1)) x = slA x := fun x hx => by rw [pUn hx]; exact hfl x hx
    have xz : ¬ (nI z < 0 ∨ 5 ≤ z) := fun q => q.elim (nI_pos (by omega)) (fun q => by omega)
    rw [FL_X6_readScript_15, if_neg (fun q => by have := (pLe (a := 16) (by omega) (by omega)).mp q; omega), cSkip hl ha, pBs]
    rw [FL_X10_readScript_19, if_neg (show ¬ (1 : Int32) = 0 from by decide)]
    simp only [if_neg xz, pCl (show z < 2147483648 by omega), hsl, pUs, pS1]
    rw [e4]
    rcases hst with ⟨q, sq', q1, q2, q3, q4, q5⟩ | ⟨i, hi, g1, g2, g3⟩
    · -- no step stands there
      rw [q4, pBs]
      dsimp only
      have hw := ne_m1 (q := q) (by omega)
      rw [if_neg hw, rsX_w hw, ← q2]
      have hres : ∀ X, X = some (nI q, nI q, rv, f3, ds) → sRes z sqA slA X (some (nI q, nI q + 0, nI q, sq', upd sl z (nI (j + 1)))) := fun X hX =>
        ⟨_, _, _, _, _, _, _, _, _, hX, rfl, fun x hx => by rw [q5 x (by omega)]; exact hfq x hx, hsl', fun c => absurd c hw⟩
      by_cases ce : l ≤ q
      · rw [if_pos ((pLe (by omega) (by omega)).mpr ce)]
        exact hres _ rfl
      · have q3' := q3.resolve_left ce
        rw [if_neg (fun c => ce ((pLe (by omega) (by omega)).mp c)), pIx (by omega) (by omega), pCl (by omega), q3', pBs, if_neg (by decide)]
        exact hres _ rfl
    · rw [if_neg (fun c => by have := (pLe (by omega) (by omega)).mp c; omega), pIx (by omega) (by omega), pCl (by omega), g2, pBs, if_pos (show (0 : Int32) ≤ nI i from (pLe (a := 0) (by omega) (by omega)).mpr (by omega)), show nI j * 4 = nI (j * 4) from pM j 4]
      rcases g3 with ⟨q, rv', f3', at', sq', q1, q2, q3, q4⟩ | ⟨p, rv', f3', sq', p1, p2, p3, p4, p5, p6, p7, p8⟩
      · rw [q2, q3, pBs, pBs]
        dsimp only
        have hw := ne_m1 (q := q) (by omega)
        rw [if_pos rfl, if_neg hw, rsX_w hw]
        exact ⟨_, _, _, _, _, _, _, _, _, rfl, rfl, fun x hx => by rw [q4 x (by omega)]; exact hfq x hx, hsl', fun c => absurd c hw⟩
      · rw [p3, p4, pBs, pBs]
        dsimp only
        obtain ⟨t1, t2, t3⟩ := skp_s (tb := tb) p2
        rw [if_neg (show ¬ (1 : Int32) = 0 from by decide), if_pos rfl, cSkip hl p2, pBs, rAhead hl p2, pBs]
        dsimp only
        generalize skp tb l p = t at t1 t2 t3 ⊢
        have hfq' : ∀ x, ¬ (64 * z ≤ x ∧ x < 64 * z + 64) → sq' x = sqA x := fun x hx => by rw [p5 x (by omega)]; exact hfq x hx
        have hrow' : ∀ y, y < j + 1 → sRow z f3' sq' y := fun y hy => by
          by_cases cy : y = j
          · subst cy; exact ⟨⟨i, by omega, p7⟩, p8⟩
          · obtain ⟨⟨k0, hk0, r1⟩, r2⟩ := hrow y (by omega)
            refine ⟨⟨k0, hk0, by rw [p6 _ (by omega)]; exact r1⟩, fun c hc => ?_⟩
            rw [p5 _ (by omega), p6 _ (by omega)]; exact r2 c hc
        have hm1' : ∀ x, 4 * (j + 1) ≤ x → x < 64 → f3' x = -1 := fun x hx hx2 => by rw [p6 _ (by omega)]; exact hm1 x (by omega) hx2
        by_cases ce : t < l
        · rw [if_pos ((pLt (by omega) (by omega)).mpr ce), cStands hl t2 (by decide), pBs]
          have hw := ne_m1 (q := t) (by omega)
          by_cases c59 : ch tb l t = 59
          · rw [if_neg (show ¬ pb (decide (ch tb l t = 59)) = 0 by simp [c59, pb]), if_pos c59]
            by_cases c15 : j = 15
            · rw [if_pos (show (nI j : Int32) = 15 from by rw [c15]; rfl), if_pos (show (16 : Int32) ≤ nI (j + 1) from (pLe (a := 16) (by omega) (by omega)).mpr (by omega)), add_0, rsX_q hl hb ce t3]
              exact ⟨_, _, _, _, _, _, _, _, _, rfl, rfl, hfq', hsl', fun c => absurd c hw⟩
            · rw [if_neg (show ¬ (nI j : Int32) = 15 from fun c => c15 ((nI_eq (a := j) (b := 15) (by omega) (by omega)).mp c)), if_neg (show ¬ (16 : Int32) ≤ nI (j + 1) from fun c => by have := (pLe (a := 16) (by omega) (by omega)).mp c; omega), pS1]
              exact script_L hl hb hz k (j + 1) n (n2 + 1) (t + 1) rv' (nI (j + 1)) f3' sq' (upd sl z (nI (j + 1))) (by omega) (by omega) (by omega) (by omega) (by omega) pUs hrow' hm1' hfq' hsl'
          · rw [if_pos (show pb (decide (ch tb l t = 59)) = 0 by simp [c59, pb]), if_neg c59, add_0, rsX_q hl hb ce t3]
            exact ⟨_, _, _, _, _, _, _, _, _, rfl, rfl, hfq', hsl', fun c => absurd c hw⟩
        · obtain rfl : t = l := by omega
          rw [if_neg (fun c => by have := (pLt (by omega) (by omega)).mp c; omega), if_neg (show ¬ ch tb t t = 59 from by rw [ch_end (Nat.le_refl t)]; decide), add_0, rsX_e hl]
          exact ⟨_, _, _, _, _, _, _, _, _, rfl, rfl, hfq', hsl', fun _ => ⟨j + 1, by omega, rfl, pUs, hrow'⟩⟩
theorem fill64 {f3 : Nat → Int32} {v : Int32} : ∃ g, F_J7_fill_64 f3 v = some g ∧ ∀ k, k < 64 → g k = v := by
  unfold F_J7_fill_64
  have hl := pLoop (m := 64) (L := fun n i x => FL_J7_fill_64_5 f3 v n i x) (g := fun j x => upd x j v) (fin := id) (fun j x => ∀ k, k < j → x k = v) (fun n j x hj hI => ?_) (fun n x hI => ?_) 64 1000 0 f3 (by omega) (by omega) (fun k hk => by omega)
  · exact ⟨_, hl.1, hl.2⟩
  · refine ⟨?_, fun k hk => ?_⟩
    · show FL_J7_fill_64_5 f3 v (n + 1) (nI j) x = FL_J7_fill_64_5 f3 v n (nI (j + 1)) _
      rw [FL_J7_fill_64_5, if_neg (by rw [show (64 : Int32) = nI 64 from rfl, pLe (by omega) (by omega)]; omega), pIx (by omega) (by omega), pCl (by omega), pS1]
    · by_cases c : k = j
      · subst c; exact pUs
      · show upd x j _ k = _
        rw [pUn c]; exact hI k (by omega)
  · show FL_J7_fill_64_5 f3 v (n + 1) (nI 64) x = _
    rw [FL_J7_fill_64_5, if_pos (show (64 : Int32) ≤ nI 64 from by decide)]; rfl
theorem script_sim {ra rv ds at_ wr : Int32} {f3 sq sl : Nat → Int32} {z : Nat} (hl : l ≤ 240) (hb : tOK tb) (hz : z < 5) : sRes z sq sl (F_X6_readScript tb (nI l) ra rv f3 ds) (F_X10_readScript (nI l) at_ wr tb sq sl (nI z)) := by
  unfold F_X6_readScript F_X10_readScript
  obtain ⟨g, g1, g2⟩ := fill64 (f3 := f3) (v := -1)
  rw [g1, pBs, pIx (by omega) (by omega), pCl (by omega)]
  exact script_L (ra0 := ra) (rv0 := rv) (at0 := at_) (wr0 := wr) (ds0 := ds) (f30 := f3) (sq0 := sq) (sl0 := sl) hl hb hz 16 0 1000 1000 0 rv ds g sq (upd sl z 0) (by omega) (by omega) (by omega) (by omega) (by omega) pUs (fun i hi => by omega) (fun x _ hx => g2 x hx) (fun _ _ => rfl) (fun x hx => pUn hx)
theorem tree_sim {ra rv at_ wr rm : Int32} {fu fp rr rd : Nat → Int32} (hl : l ≤ 240) (hb : tOK tb) : tRes (F_X6_readTree tb (nI l) ra rv fu fp) (F_X10_readTree (nI l) at_ wr rm tb rr rd) := by
  unfold F_X6_readTree F_X10_readTree F_X5_clear
  rw [pBs]
  dsimp only
  have hd : ∀ i, i < 8 → va_cpy (q_tab 2) fu 0 0 8 i = q_tab 2 i := fun i hi => by
    simp only [va_cpy]; rw [if_pos (by omega), show 0 + (i - 0) = i from by omega]
  have key : ∀ (k j n : Nat) (x : Nat → Int32), j + k = 8 → k < n → (∀ i, i < j → x i = q_tab 2 i) → tRes (FL_X6_readTree_13 tb (nI l) ra rv fu fp 1000 0 0 0 rv 0 (va_cpy (q_tab 2) fu 0 0 8) fp) (FL_X10_readTree_19 (nI l) at_ wr rm tb rr rd n (nI j) 0 (-1) 0 x rd) := by
    intro k
    induction k with
    | zero =>
      intro j n x h1 h2 h3
      obtain rfl : j = 8 := by omega
      obtain ⟨n, rfl⟩ : ∃ y, n = y + 1 := ⟨n - 1, by omega⟩
      rw [FL_X10_readTree_19, if_pos (show (8 : Int32) ≤ nI 8 from by decide)]
      exact tree_L (ra0 := ra) (rv0 := rv) (at0 := at_) (wr0 := wr) (rm0 := rm) (fu0 := fu) (fp0 := fp) (rr0 := rr) (rd0 := rd) hl hb (l + 1) 0 1000 1000 0 0 0 rv (va_cpy (q_tab 2) fu 0 0 8) fp x rd (by omega) (by omega) (by omega) (by omega) (by omega) (fun _ => hd) (fun i hi => by
        rw [hd i hi, h3 i hi]
        obtain ⟨v1, v2, v3⟩ := df_s ⟨i, hi⟩
        exact ⟨rfl, d_s i, v2, v3, v1⟩) (fun d hd => by omega) (by omega)
    | succ k ih =>
      intro j n x h1 h2 h3
      obtain ⟨n, rfl⟩ : ∃ y, n = y + 1 := ⟨n - 1, by omega⟩
      rw [FL_X10_readTree_19, if_neg (by rw [show (8 : Int32) = nI 8 from rfl, pLe (by omega) (by omega)]; omega), us_s ⟨j, by omega⟩, pBs, pIx (by omega) (by omega), pCl (by omega), pS1]
      refine ih (j + 1) n _ (by omega) (by omega) (fun i hi => ?_)
      by_cases c : i = j
      · subst c; exact pUs
      · rw [pUn c]; exact h3 i (by omega)
  exact key 8 0 1000 rr (by omega) (by omega) (fun i hi => by omega)
end
end

section
/-! a tree taken -/
def nNew (T : Nat → Nat → Int32) (d : Nat) (N : Nat → Int32) : Nat → Int32 := upd (upd (nLeave N d) (72 + d) (T d 3)) (80 + d) (T d 5)
theorem nNew_ok {T : Nat → Nat → Int32} {N : Nat → Int32} {d : Nat} (hd : d < 8) (h : T d 3 = 0 ∨ T d 3 = 1) : nNew T d N d = 0 ∧ nNew T d N (32 + d) = -1 ∧ dOK (nNew T d N) d := by
  have e0 : nNew T d N d = 0 := by simp only [nNew, nLeave, nLow, upd]; grind
  have e1 : nNew T d N (8 + d) = 0 := by simp only [nNew, nLeave, nLow, upd]; grind
  have e2 : nNew T d N (16 + d) = 0 := by simp only [nNew, nLeave, nLow, upd]; grind
  have e4 : nNew T d N (32 + d) = -1 := by simp only [nNew, nLeave, nLow, upd]; grind
  have e5 : nNew T d N (40 + d) = -1 := by simp only [nNew, nLeave, nLow, upd]; grind
  have e6 : nNew T d N (48 + d) = -1 := by simp only [nNew, nLeave, nLow, upd]; grind
  have e7 : nNew T d N (56 + d) = 0 := by simp only [nNew, nLeave, nLow, upd]; grind
  have e8 : nNew T d N (64 + d) = 0 := by simp only [nNew, nLeave, nLow, upd]; grind
  have e9 : nNew T d N (72 + d) = T d 3 := by simp only [nNew, nLeave, nLow, upd]; grind
  have e11 : nNew T d N (88 + d) = 0 := by simp only [nNew, nLeave, nLow, upd]; grind
  refine ⟨e0, e4, ?_⟩
  unfold dOK
  rw [e0, e1, e2, e4, e5, e6, e7, e8, e9, e11]
  exact ⟨⟨0, by decide, rfl⟩, fun _ => ⟨rfl, rfl⟩, fun q => absurd q (by decide), fun _ => rfl, fun _ => rfl, fun _ => ⟨rfl, rfl, rfl⟩, fun q => absurd q (by decide), fun _ => rfl, h⟩
theorem nNew_nz {T : Nat → Nat → Int32} {N : Nat → Int32} {d : Nat} (hd : d < 8) : nz (nNew T d N) = nNew T d (nz N) := by
  unfold nNew; rw [nzU (by omega), nzU (by omega), nLeave_nz hd]
theorem nNew_same {T : Nat → Nat → Int32} {N : Nat → Int32} {d e j : Nat} (hd : d < 8) (he : e < 8) (hn : e ≠ d) (hj : j < 12) : nNew T d N (8 * j + e) = N (8 * j + e) := by
  unfold nNew; rw [pUn (by omega), pUn (by omega)]; exact nLeave_same hd (fun k hk => by omega)
theorem new_iU {m : Nat} {R : Nat → Int32} {T : Nat → Nat → Int32} {N : Nat → Int32} (hm : m ≤ 8) (hT : wT m T) (hz : nz N = N) : iU m R T (pF (nNew T) m 0 N) ∧ ∀ d, d < m → pF (nNew T) m 0 N d = 0 := by
  have hI := pF_inv (g := nNew T) (fun j a => j ≤ m ∧ nz a = a ∧ ∀ d, d < j → a d = 0 ∧ a (32 + d) = -1 ∧ dOK a d) m 0 N (fun i a _ hi hI => ?_) ⟨by omega, hz, fun d hd => by omega⟩
  · rw [Nat.zero_add] at hI
    obtain ⟨-, h1, h2⟩ := hI
    generalize pF (nNew T) m 0 N = M at h1 h2 ⊢
    refine ⟨⟨⟨⟨⟨[], List.nodup_nil, fun d => ⟨fun q => absurd q (by simp), fun q => absurd (h2 d q.1).1 q.2⟩, fun d q => absurd q (by simp)⟩, fun d hd => (h2 d hd).2.2, fun d hd q => ?_⟩, fun d hd q => ?_, h1⟩, fun d hd q => absurd (h2 d hd).2.1 q, fun d hd q => ?_, fun d e hd he q => ?_⟩, fun d hd => (h2 d hd).1⟩
    · rw [(h2 d hd).1] at q; rcases q with q | q | q | q <;> exact absurd q (by decide)
    · rw [(h2 d hd).1] at q; exact absurd q (by decide)
    · rw [(h2 d hd).1] at q; exact absurd q (by decide)
    · rw [(h2 d hd).1] at q; exact absurd q (by decide)
  · obtain ⟨h1, h2, h3⟩ := hI
    refine ⟨by omega, by rw [nNew_nz (by omega), h2], fun d hd => ?_⟩
    obtain ⟨-, -, -, ⟨o, ho, e⟩, -⟩ := hT i (by omega)
    by_cases c : d = i
    · subst c
      refine nNew_ok (by omega) ?_
      have : o = 0 ∨ o = 1 := by omega
      rcases this with rfl | rfl
      · exact Or.inl e
      · exact Or.inr e
    · have sm : ∀ j, j < 12 → nNew T i a (8 * j + d) = a (8 * j + d) := fun j hj => nNew_same (by omega) (by omega) c hj
      have s0 := sm 0 (by decide); have s4 := sm 4 (by decide)
      simp only [Nat.mul_zero, Nat.zero_add, Nat.reduceMul] at s0 s4
      obtain ⟨a1, a2, a3⟩ := h3 d (by omega)
      exact ⟨by rw [s0]; exact a1, by rw [s4]; exact a2, dOK_congr sm a3⟩
theorem fill98 {f3 : Nat → Int32} {v : Int32} : ∃ g, F_J7_fill_98 f3 v = some g ∧ ∀ k, k < 98 → g k = v := by
  unfold F_J7_fill_98
  have hl := pLoop (m := 98) (L := fun n i x => FL_J7_fill_98_5 f3 v n i x) (g := fun j x => upd x j v) (fin := id) (fun j x => ∀ k, k < j → x k = v) (fun n j x hj hI => ?_) (fun n x hI => ?_) 98 1000 0 f3 (by omega) (by omega) (fun k hk => by omega)
  · exact ⟨_, hl.1, hl.2⟩
  · refine ⟨?_, fun k hk => ?_⟩
    · show FL_J7_fill_98_5 f3 v (n + 1) (nI j) x = FL_J7_fill_98_5 f3 v n (nI (j + 1)) _
      rw [FL_J7_fill_98_5, if_neg (by rw [show (98 : Int32) = nI 98 from rfl, pLe (by omega) (by omega)]; omega), pIx (by omega) (by omega), pCl (by omega), pS1]
    · by_cases c : k = j
      · subst c; exact pUs
      · show upd x j _ k = _
        rw [pUn c]; exact hI k (by omega)
  · show FL_J7_fill_98_5 f3 v (n + 1) (nI 98) x = _
    rw [FL_J7_fill_98_5, if_pos (show (98 : Int32) ≤ nI 98 from by decide)]; rfl
theorem renew_c {m : Nat} {fr fu fp : Nat → Int32} (hm : m ≤ 8) : ∃ g, F_X0_renew fr (nI m) fu fp = some g ∧ nz g = pF (nNew (tP m fp)) m 0 (nz (fun _ => 0)) ∧ g 96 = 0 := by
  unfold F_X0_renew
  obtain ⟨z, z1, z2⟩ := fill98 (f3 := fr) (v := 0)
  rw [z1, pBs]
  have hl := pLoop0 (m := m) (L := fun n i a => FL_X0_renew_10 fr (nI m) fu fp n i a) (g := fun d f => upd (upd (nLeave f d) (72 + d) (fp (24 + d))) (80 + d) (fp (40 + d))) (fin := id) (fun n j a hj => ?_) (fun n a => ?_) 1000 z (by omega)
  · refine ⟨_, hl, ?_, ?_⟩
    · refine (pF_map (g' := nNew (tP m fp)) (fun _ _ => True) m 0 z (fun i a _ hi _ => ?_) (fun _ _ _ _ _ => trivial) trivial).trans ?_
      · unfold nNew
        rw [nzU (by omega), nzU (by omega), nLeave_nz (by omega), tP3 hm (by omega), tP5 hm (by omega)]
      · rw [nz_congr (f := z) (g := fun _ => 0) z2]
    · refine (pF_const (φ := fun f : Nat → Int32 => f 96) m 0 z (fun i a _ hi => ?_)).trans (z2 96 (by omega))
      show upd (upd (nLeave a i) (72 + i) _) (80 + i) _ 96 = a 96
      rw [pUn (by omega), pUn (by omega)]; exact nLeave_same (by omega) (fun j hj => by omega)
  · show FL_X0_renew_10 fr (nI m) fu fp (n + 1) (nI j) a = _
    rw [FL_X0_renew_10, if_neg (by rw [pLe (by omega) (by omega)]; omega), cLeave (by omega), pBs, pA24, pA72, pA40, pA80, pIx (by omega) (by omega), pIx (by omega) (by omega), pIx (by omega) (by omega), pIx (by omega) (by omega), pCl (by omega), pCl (by omega), pCl (by omega), pCl (by omega), pS1]
  · show FL_X0_renew_10 fr (nI m) fu fp (n + 1) (nI m) a = _
    rw [FL_X0_renew_10, if_pos (le_rfl32 _)]; rfl
theorem take_r {m : Nat} {mn ac hi : Int32} {rr rd ru td nw : Nat → Int32} (hm : m ≤ 8) : ∃ ru' td' g, F_X10_takeTree (nI m) mn ac hi rr rd ru td nw = some (nI m, nI m, 0, 0, ru', td', g) ∧ (∀ k, k < 8 → ru' k = rr k) ∧ (∀ k, 8 ≤ k → ru' k = ru k) ∧ (∀ k, k < 6 * m → td' k = rd k) ∧ nz g = pF (nNew (tT m td')) m 0 (nz (fun _ => 0)) ∧ g 96 = 0 ∧ g 98 = 0 := by
  unfold F_X10_takeTree
  have l1 : ∀ (td0 nw0 : Nat → Int32), ∃ ru', (∀ k, k < 8 → ru' k = rr k) ∧ (∀ k, 8 ≤ k → ru' k = ru k) ∧ FL_X10_takeTree_10 (nI m) mn ac hi rr rd ru td nw 1000 0 (nI m) ac hi ru td0 nw0 = FL_X10_takeTree_36 (nI m) mn ac hi rr rd ru td nw 1000 0 (nI m) ac hi ru' td0 nw0 := fun td0 nw0 => by
    have key : ∀ (k j n : Nat) (x : Nat → Int32), j + k = 8 → k < n → (∀ i, i < j → x i = rr i) → (∀ i, 8 ≤ i → x i = ru i) → ∃ ru', (∀ k, k < 8 → ru' k = rr k) ∧ (∀ k, 8 ≤ k → ru' k = ru k) ∧ FL_X10_takeTree_10 (nI m) mn ac hi rr rd ru td nw n (nI j) (nI m) ac hi x td0 nw0 = FL_X10_takeTree_36 (nI m) mn ac hi rr rd ru td nw 1000 0 (nI m) ac hi ru' td0 nw0 := by
      intro k
      induction k with
      | zero =>
        intro j n x h1 h2 h3 h4
        obtain rfl : j = 8 := by omega
        obtain ⟨n, rfl⟩ : ∃ y, n = y + 1 := ⟨n - 1, by omega⟩
        rw [FL_X10_takeTree_10, if_pos (show (8 : Int32) ≤ nI 8 from by decide)]
        exact ⟨x, h3, h4, rfl⟩
      | succ k ih =>
        intro j n x h1 h2 h3 h4
        obtain ⟨n, rfl⟩ : ∃ y, n = y + 1 := ⟨n - 1, by omega⟩
        rw [FL_X10_takeTree_10, if_neg (by rw [show (8 : Int32) = nI 8 from rfl, pLe (by omega) (by omega)]; omega), pIx (by omega) (by omega), pIx (by omega) (by omega), pCl (by omega), pS1]
        refine ih (j + 1) n _ (by omega) (by omega) (fun i hi => ?_) (fun i hi => by rw [pUn (by omega)]; exact h4 i hi)
        by_cases c : i = j
        · subst c; exact pUs
        · rw [pUn c]; exact h3 i (by omega)
    exact key 8 0 1000 ru (by omega) (by omega) (fun i hi => by omega) (fun _ _ => rfl)
  have l2 : ∀ (ru0 nw0 : Nat → Int32), ∃ td', (∀ k, k < 6 * m → td' k = rd k) ∧ FL_X10_takeTree_36 (nI m) mn ac hi rr rd ru td nw 1000 0 (nI m) ac hi ru0 td nw0 = FL_X10_takeTree_67 (nI m) mn ac hi rr rd ru td nw 1000 0 (nI m) ac hi ru0 td' nw0 := fun ru0 nw0 => by
    have e6 : (6 : Int32) * nI m = nI (6 * m) := pM 6 m
    have key : ∀ (k j n : Nat) (x : Nat → Int32), j + k = 6 * m → k < n → (∀ i, i < j → x i = rd i) → ∃ td', (∀ k, k < 6 * m → td' k = rd k) ∧ FL_X10_takeTree_36 (nI m) mn ac hi rr rd ru td nw n (nI j) (nI m) ac hi ru0 x nw0 = FL_X10_takeTree_67 (nI m) mn ac hi rr rd ru td nw 1000 0 (nI m) ac hi ru0 td' nw0 := by
      intro k
      induction k with
      | zero =>
        intro j n x h1 h2 h3
        obtain rfl : j = 6 * m := by omega
        obtain ⟨n, rfl⟩ : ∃ y, n = y + 1 := ⟨n - 1, by omega⟩
        rw [FL_X10_takeTree_36, e6, if_pos (le_rfl32 _)]
        exact ⟨x, h3, rfl⟩
      | succ k ih =>
        intro j n x h1 h2 h3
        obtain ⟨n, rfl⟩ : ∃ y, n = y + 1 := ⟨n - 1, by omega⟩
        rw [FL_X10_takeTree_36, e6, if_neg (by rw [pLe (by omega) (by omega)]; omega), pIx (by omega) (by omega), pIx (by omega) (by omega), pCl (by omega), pS1]
        refine ih (j + 1) n _ (by omega) (by omega) (fun i hi => ?_)
        by_cases c : i = j
        · subst c; exact pUs
        · rw [pUn c]; exact h3 i (by omega)
    exact key (6 * m) 0 1000 td (by omega) (by omega) (fun i hi => by omega)
  have l3 : ∀ (ru0 td0 : Nat → Int32), ∃ z, (∀ k, k < 279 → z k = 0) ∧ FL_X10_takeTree_67 (nI m) mn ac hi rr rd ru td nw 1000 0 (nI m) ac hi ru0 td0 nw = FL_X10_takeTree_89 (nI m) mn ac hi rr rd ru td nw 1000 0 (nI m) ac hi ru0 td0 z := fun ru0 td0 => by
    have key : ∀ (k j n : Nat) (x : Nat → Int32), j + k = 279 → k < n → (∀ i, i < j → x i = 0) → ∃ z, (∀ k, k < 279 → z k = 0) ∧ FL_X10_takeTree_67 (nI m) mn ac hi rr rd ru td nw n (nI j) (nI m) ac hi ru0 td0 x = FL_X10_takeTree_89 (nI m) mn ac hi rr rd ru td nw 1000 0 (nI m) ac hi ru0 td0 z := by
      intro k
      induction k with
      | zero =>
        intro j n x h1 h2 h3
        obtain rfl : j = 279 := by omega
        obtain ⟨n, rfl⟩ : ∃ y, n = y + 1 := ⟨n - 1, by omega⟩
        rw [FL_X10_takeTree_67, if_pos (show (279 : Int32) ≤ nI 279 from by decide)]
        exact ⟨x, h3, rfl⟩
      | succ k ih =>
        intro j n x h1 h2 h3
        obtain ⟨n, rfl⟩ : ∃ y, n = y + 1 := ⟨n - 1, by omega⟩
        rw [FL_X10_takeTree_67, if_neg (by rw [show (279 : Int32) = nI 279 from rfl, pLe (by omega) (by omega)]; omega), pIx (by omega) (by omega), pCl (by omega), pS1]
        refine ih (j + 1) n _ (by omega) (by omega) (fun i hi => ?_)
        by_cases c : i = j
        · subst c; exact pUs
        · rw [pUn c]; exact h3 i (by omega)
    exact key 279 0 1000 nw (by omega) (by omega) (fun i hi => by omega)
  obtain ⟨ru', a1, a2, a3⟩ := l1 td nw
  obtain ⟨td', b1, b2⟩ := l2 ru' nw
  obtain ⟨z, c1, c2⟩ := l3 ru' td'
  rw [a3, b2, c2]
  have hl := pLoop0 (m := m) (L := fun n i a => FL_X10_takeTree_89 (nI m) mn ac hi rr rd ru td nw n i (nI m) ac hi ru' td' a) (g := fun d f => upd (upd (rC f d) (72 + d) (tT m td' d 3)) (80 + d) (tT m td' d 5)) (fin := fun a => (nI m, nI m, 0, 0, ru', td', a)) (fun n j a hj => ?_) (fun n a => ?_) 1000 z (by omega)
  · refine ⟨ru', td', _, hl, a1, a2, b1, ?_, ?_, ?_⟩
    · refine (pF_map (g' := nNew (tT m td')) (fun _ _ => True) m 0 z (fun i a _ hi _ => ?_) (fun _ _ _ _ _ => trivial) trivial).trans ?_
      · unfold nNew
        rw [nzU (by omega), nzU (by omega), rC_nz (by omega)]
      · rw [nz_congr (f := z) (g := fun _ => 0) (fun k hk => c1 k (by omega))]
    · refine (pF_const (φ := fun f : Nat → Int32 => f 96) m 0 z (fun i a _ hi => ?_)).trans (c1 96 (by omega))
      show upd (upd (rC a i) (72 + i) _) (80 + i) _ 96 = a 96
      rw [pUn (by omega), pUn (by omega)]; simp (disch := omega) only [rC, pUn]
    · refine (pF_const (φ := fun f : Nat → Int32 => f 98) m 0 z (fun i a _ hi => ?_)).trans (c1 98 (by omega))
      show upd (upd (rC a i) (72 + i) _) (80 + i) _ 98 = a 98
      rw [pUn (by omega), pUn (by omega)]; simp (disch := omega) only [rC, pUn]
  · show FL_X10_takeTree_89 (nI m) mn ac hi rr rd ru td nw (n + 1) (nI j) (nI m) ac hi ru' td' a = _
    rw [FL_X10_takeTree_89, if_neg (by rw [pLe (by omega) (by omega)]; omega), rClear (by omega), pBs, rTold3 (m := m) hm hj, pBs, pA72, pIx (by omega) (by omega), rTold5 (m := m) hm hj, pBs, pA80, pIx (by omega) (by omega), pCl (by omega), pCl (by omega), pS1]
  · show FL_X10_takeTree_89 (nI m) mn ac hi rr rd ru td nw (n + 1) (nI m) (nI m) ac hi ru' td' a = _
    rw [FL_X10_takeTree_89, if_pos (le_rfl32 _)]
/-- both take the tree that both have read -/
theorem take_sim {m : Nat} {ph tt hi mn ac hi2 : Int32} {du dp fu fp fr rr rd td nw fd : Nat → Int32} {fq kp : Nat → Int32} {nx : Nat} (h1 : 1 ≤ m) (hm : m ≤ 8) (hnx : nx < 40) (hs : row_s 0 du rr) (hd : ∀ d, d < m → row_d d dp rd) : ∃ t fr' ru' td' nw', F_X0_renew fr (nI m) (va_cpy du fu 0 0 8) (va_cpy dp fp 0 0 48) = some fr' ∧ F_X10_takeTree (nI m) mn ac hi2 rr rd fu td nw = some (nI m, nI m, 0, 0, ru', td', nw') ∧ va_cpy du fu 0 0 8 = ru' ∧ (∃ g, g ≤ 9 ∧ ru' 4 = nI g) ∧ WW m t ru' (va_cpy dp fp 0 0 48) td' fr' fq nx 0 fd 0 nw' kp := by
  obtain ⟨ru', td', g, t1, t2, t3, t4, t5, t6, t7⟩ := take_r (m := m) (mn := mn) (ac := ac) (hi := hi2) (rr := rr) (rd := rd) (ru := fu) (td := td) (nw := nw) hm
  obtain ⟨fr', r1, r2, r3⟩ := renew_c (m := m) (fr := fr) (fu := va_cpy du fu 0 0 8) (fp := va_cpy dp fp 0 0 48) hm
  have hru : va_cpy du fu 0 0 8 = ru' := by
    funext k
    simp only [va_cpy]
    by_cases c : k < 8
    · rw [if_pos (by omega), t2 k c, show 0 + (k - 0) = k from by omega]; exact (hs k c).1
    · rw [if_neg (by omega), t3 k (by omega)]
  have hTT : tP m (va_cpy dp fp 0 0 48) = tT m td' := by
    funext d k
    unfold tP tT
    by_cases c : d < m ∧ k < 6
    · rw [if_pos c, if_pos c]
      simp only [va_cpy]
      rw [if_pos (by omega), t4 _ (by omega), ← (hd d c.1 k c.2).1]
      congr 1; omega
    · rw [if_neg c, if_neg c]
  have cell : ∀ d k, d < m → k < 6 → ∃ v, v ≤ hi_d k ∧ tT m td' d k = nI v := fun d k hdm hk => by
    rw [← hTT]
    unfold tP
    rw [if_pos ⟨hdm, hk⟩]
    obtain ⟨-, v, -, hv, e⟩ := hd d hdm k hk
    refine ⟨v, hv, ?_⟩
    simp only [va_cpy]
    rw [if_pos (by omega), ← e]; congr 1; omega
  have rc : ∀ k, k < 8 → ∃ v, lo_s k ≤ v ∧ v ≤ hi_s k ∧ ru' k = nI v := fun k hk => by
    obtain ⟨e1, v, v1, v2, e2⟩ := hs k hk
    exact ⟨v, v1, v2, by rw [t2 k hk, ← e1]; exact e2⟩
  have hT : wT m (tT m td') := fun d hdm => ⟨cell d 0 hdm (by omega), cell d 1 hdm (by omega), cell d 2 hdm (by omega), cell d 3 hdm (by omega), cell d 4 hdm (by omega), cell d 5 hdm (by omega)⟩
  obtain ⟨t, -, ht9, et⟩ := rc 7 (by omega)
  obtain ⟨v1, w1, w1', e1⟩ := rc 1 (by omega)
  obtain ⟨v2, w2, w2', e2⟩ := rc 2 (by omega)
  obtain ⟨v0, w0, w0', e0⟩ := rc 0 (by omega)
  obtain ⟨v4, w4, w4', e4⟩ := rc 4 (by omega)
  have q1 : v1 ≤ 9 := w1'
  have q2 : v2 ≤ 9 := w2'
  have q0 : v0 ≤ 4 := w0'
  have p1 : 1 ≤ v1 := w1
  have p2 : 1 ≤ v2 := w2
  have p0 : 1 ≤ v0 := w0
  have hR : wRu ru' t := ⟨ht9, et, by rw [e1]; exact (pLt (a := 0) (by omega) (by omega)).mpr (by omega), by rw [e2]; exact (pLt (a := 0) (by omega) (by omega)).mpr (by omega), v0, q0, by omega, e0⟩
  have hN := new_iU (R := ru') (N := nz (fun _ => 0)) hm hT (nz_nz _)
  refine ⟨t, fr', ru', td', g, r1, t1, hru, ⟨v4, w4', e4⟩, ⟨hm, fun _ => hR, hT, hTT⟩, ⟨⟨by rw [r2, t5, hTT], fun d hdm q => absurd (by rw [t5]; exact hN.2 d hdm) q⟩, by rw [t5]; exact hN.1, ⟨0, by omega, r3, t6⟩, ⟨t7, fun i c hi => by omega⟩⟩, by omega, hnx, by omega, fun i hi => by omega⟩
end
