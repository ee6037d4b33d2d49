/-! the tape -/
def bt (z : Int32) (s : Int32) : Int32 := (z >>> (s &&& 31)) &&& 255
theorem b255 {i : Nat} (hi : i < 32) (h8 : 8 ≤ i) : (255#32)[i] = false := by
  rw [BitVec.getElem_eq_testBit_toNat]
  show Nat.testBit 255 i = false
  refine Nat.testBit_lt_two_pow ?_
  have : 2 ^ 8 ≤ 2 ^ i := Nat.pow_le_pow_right (by decide) h8
  omega
theorem sh255 (z : BitVec 32) (s i : Nat) (hs : s ≤ 24) (hi : i < 32) : (z.getLsbD (s + i) && (255#32)[i]) = ((z.sshiftRight s)[i] && (255#32)[i]) := by
  by_cases h8 : 8 ≤ i
  · rw [b255 hi h8]; simp
  · rw [BitVec.getElem_sshiftRight, dif_pos (show s + i < 32 by omega), BitVec.getLsbD_eq_getElem (by omega)]
theorem bt_u24 (z : Int32) : ((z.toUInt32 >>> ((24 : Int32).toUInt32 &&& Int32.toUInt32 31)).toInt32) &&& 255 = bt z 24 := by
  unfold bt
  apply Int32.toBitVec_inj.1
  have e1 : ((24 : Int32).toUInt32 &&& Int32.toUInt32 31) = 24 := by decide
  have e2 : ((24 : Int32) &&& 31) = 24 := by decide
  rw [e1, e2]
  simp only [Int32.toBitVec_and]
  ext i hi
  simp [Int32.toBitVec_shiftRight, UInt32.toBitVec_shiftRight]
  exact sh255 z.toBitVec 24 i (by omega) hi
theorem bt_u16 (z : Int32) : ((z.toUInt32 >>> ((16 : Int32).toUInt32 &&& Int32.toUInt32 31)).toInt32) &&& 255 = bt z 16 := by
  unfold bt
  apply Int32.toBitVec_inj.1
  have e1 : ((16 : Int32).toUInt32 &&& Int32.toUInt32 31) = 16 := by decide
  have e2 : ((16 : Int32) &&& 31) = 16 := by decide
  rw [e1, e2]
  simp only [Int32.toBitVec_and]
  ext i hi
  simp [Int32.toBitVec_shiftRight, UInt32.toBitVec_shiftRight]
  exact sh255 z.toBitVec 16 i (by omega) hi
theorem bt_u8 (z : Int32) : ((z.toUInt32 >>> ((8 : Int32).toUInt32 &&& Int32.toUInt32 31)).toInt32) &&& 255 = bt z 8 := by
  unfold bt
  apply Int32.toBitVec_inj.1
  have e1 : ((8 : Int32).toUInt32 &&& Int32.toUInt32 31) = 8 := by decide
  have e2 : ((8 : Int32) &&& 31) = 8 := by decide
  rw [e1, e2]
  simp only [Int32.toBitVec_and]
  ext i hi
  simp [Int32.toBitVec_shiftRight, UInt32.toBitVec_shiftRight]
  exact sh255 z.toBitVec 8 i (by omega) hi
theorem bt_u0 (z : Int32) : ((z.toUInt32 >>> ((0 : Int32).toUInt32 &&& Int32.toUInt32 31)).toInt32) &&& 255 = bt z 0 := by
  unfold bt
  apply Int32.toBitVec_inj.1
  have e1 : ((0 : Int32).toUInt32 &&& Int32.toUInt32 31) = 0 := by decide
  have e2 : ((0 : Int32) &&& 31) = 0 := by decide
  rw [e1, e2]
  simp only [Int32.toBitVec_and]
  ext i hi
  simp [Int32.toBitVec_shiftRight, UInt32.toBitVec_shiftRight]
theorem and255 (x : Int32) : ∃ k, k < 256 ∧ x &&& 255 = nI k := by
  have h : (x &&& 255).toBitVec.toNat ≤ 255 := by
    rw [Int32.toBitVec_and, BitVec.toNat_and]
    exact Nat.and_le_right
  refine ⟨(x &&& 255).toBitVec.toNat, by omega, ?_⟩
  apply Int32.toBitVec_inj.1
  show _ = (Int32.ofNat _).toBitVec
  rw [Int32.toBitVec_ofNat']
  apply BitVec.eq_of_toNat_eq
  rw [BitVec.toNat_ofNat, Nat.mod_eq_of_lt (by omega)]
theorem nar_c : ∀ k : Fin 256, vp_nar .char (((nI k.1 : Int32).toUInt32 % 65536).toInt32) = nI k.1 := by decide +kernel
theorem nar_b (z s : Int32) : vp_nar .char (((bt z s : Int32).toUInt32 % 65536).toInt32) = bt z s := by
  obtain ⟨k, hk, e⟩ := and255 (z >>> (s &&& 31))
  have e' : bt z s = nI k := e
  rw [e']; exact nar_c ⟨k, hk⟩
/-- one more byte -/
def aB (v : Int32) (a : (Nat → Int32) × Nat) : (Nat → Int32) × Nat := if v = 0 then a else (upd a.1 a.2 v, a.2 + 1)
def eB (v : Int32) : Nat := if v = 0 then 0 else 1
theorem aB_2 (v : Int32) (a : (Nat → Int32) × Nat) : (aB v a).2 = a.2 + eB v := by
  unfold aB eB; split <;> simp
theorem addS {tb : Nat → Int32} {tl z s v : Int32} {n : Nat} {a : (Nat → Int32) × Nat} (hs : ¬ s < 0) (hv : ((z.toUInt32 >>> (s.toUInt32 &&& Int32.toUInt32 31)).toInt32) &&& 255 = v) (hn : vp_nar .char ((v.toUInt32 % 65536).toInt32) = v) (h : a.2 + eB v ≤ 240) : FL_X8_add_3 tb tl z (n + 1) s a.1 (nI a.2) = FL_X8_add_3 tb tl z n (s + (-8)) (aB v a).1 (nI (aB v a).2) := by
  rw [FL_X8_add_3, if_neg hs, hv, pBs]
  unfold aB
  by_cases c : v = 0
  · rw [if_pos c, if_pos c]
  · unfold eB at h
    rw [if_neg c] at h
    rw [if_neg c, if_neg c, if_neg (by rw [show (240 : Int32) = nI 240 from rfl, pLe (by omega) (by omega)]; omega), pIx (by omega) (by omega), pCl (by omega), pS1, hn]
theorem cAdd {tb : Nat → Int32} {z : Int32} {l : Nat} (h : l + eB (bt z 24) + eB (bt z 16) + eB (bt z 8) + eB (bt z 0) ≤ 240) : F_X8_add tb (nI l) z = some ((aB (bt z 0) (aB (bt z 8) (aB (bt z 16) (aB (bt z 24) (tb, l))))).1, nI (aB (bt z 0) (aB (bt z 8) (aB (bt z 16) (aB (bt z 24) (tb, l))))).2) := by
  unfold F_X8_add
  show FL_X8_add_3 tb (nI l) z (995 + 1 + 1 + 1 + 1 + 1) 24 (tb, l).1 (nI (tb, l).2) = _
  rw [addS (by decide) (bt_u24 z) (nar_b z 24) (by show l + _ ≤ 240; omega), show (24 : Int32) + (-8) = 16 from by decide,
    addS (by decide) (bt_u16 z) (nar_b z 16) (by rw [aB_2]; show l + _ + _ ≤ 240; omega), show (16 : Int32) + (-8) = 8 from by decide,
    addS (by decide) (bt_u8 z) (nar_b z 8) (by rw [aB_2, aB_2]; show l + _ + _ + _ ≤ 240; omega), show (8 : Int32) + (-8) = 0 from by decide,
    addS (by decide) (bt_u0 z) (nar_b z 0) (by rw [aB_2, aB_2, aB_2]; show l + _ + _ + _ + _ ≤ 240; omega), show (0 : Int32) + (-8) = -8 from by decide,
    FL_X8_add_3, if_pos (by decide)]
theorem inS {z s v : Int32} {n c : Nat} (hs : ¬ s < 0) (hv : ((z.toUInt32 >>> (s.toUInt32 &&& Int32.toUInt32 31)).toInt32) &&& 255 = v) : FL_X8_bytesIn_5 z (n + 1) (nI c) s = FL_X8_bytesIn_5 z n (nI (c + eB v)) (s + (-8)) := by
  rw [FL_X8_bytesIn_5, if_neg hs, hv, pBs]
  unfold eB
  by_cases c0 : v = 0
  · rw [if_pos c0, if_pos c0, show (0 : Int32) = nI 0 from rfl, nI_add]
  · rw [if_neg c0, if_neg c0, pS1]
def eZ (z : Int32) : Nat := eB (bt z 24) + eB (bt z 16) + eB (bt z 8) + eB (bt z 0)
theorem eB_1 (v : Int32) : eB v ≤ 1 := by unfold eB; split <;> omega
theorem eZ_4 (z : Int32) : eZ z ≤ 4 := by
  unfold eZ
  have := eB_1 (bt z 24); have := eB_1 (bt z 16); have := eB_1 (bt z 8); have := eB_1 (bt z 0)
  omega
theorem cIn {z : Int32} : F_X8_bytesIn z = some (nI (eZ z)) := by
  unfold F_X8_bytesIn
  show FL_X8_bytesIn_5 z (995 + 1 + 1 + 1 + 1 + 1) (nI 0) 24 = _
  rw [inS (by decide) (bt_u24 z), show (24 : Int32) + (-8) = 16 from by decide, inS (by decide) (bt_u16 z), show (16 : Int32) + (-8) = 8 from by decide, inS (by decide) (bt_u8 z), show (8 : Int32) + (-8) = 0 from by decide, inS (by decide) (bt_u0 z), show (0 : Int32) + (-8) = -8 from by decide, FL_X8_bytesIn_5, if_pos (by decide), Nat.zero_add]
  rfl
def aZ (z : Int32) (a : (Nat → Int32) × Nat) : (Nat → Int32) × Nat := aB (bt z 0) (aB (bt z 8) (aB (bt z 16) (aB (bt z 24) a)))
theorem aZ_2 (z : Int32) (a : (Nat → Int32) × Nat) : (aZ z a).2 = a.2 + eZ z := by
  unfold aZ eZ; rw [aB_2, aB_2, aB_2, aB_2]; omega
theorem cAddZ {tb : Nat → Int32} {z : Int32} {l : Nat} (h : l + eZ z ≤ 240) : F_X8_add tb (nI l) z = some ((aZ z (tb, l)).1, nI (aZ z (tb, l)).2) := cAdd (by unfold eZ at h; omega)
theorem cAddP {a : (Nat → Int32) × Nat} {z : Int32} (h : a.2 + eZ z ≤ 240) : F_X8_add a.1 (nI a.2) z = some ((aZ z a).1, nI (aZ z a).2) := cAddZ h
def tOK (tb : Nat → Int32) : Prop := ∀ p, ∃ v, v < 256 ∧ tb p = nI v
theorem tOK_B {z s : Int32} {a : (Nat → Int32) × Nat} (h : tOK a.1) : tOK (aB (bt z s) a).1 := by
  unfold aB
  split
  · exact h
  · intro p
    by_cases c : p = a.2
    · obtain ⟨k, hk, e⟩ := and255 (z >>> (s &&& 31))
      exact ⟨k, hk, by rw [c]; exact pUs.trans e⟩
    · rw [show (upd a.1 a.2 (bt z s), a.2 + 1).1 p = a.1 p from pUn c]; exact h p
theorem tOK_Z {z : Int32} {a : (Nat → Int32) × Nat} (h : tOK a.1) : tOK (aZ z a).1 := by
  unfold aZ; exact tOK_B (tOK_B (tOK_B (tOK_B h)))
/-- the twenty bytes of a feeding -/
def bF (a1 a2 a3 a4 a5 : Int32) : Nat → Int32
  | 0 => bt a1 24 | 1 => bt a1 16 | 2 => bt a1 8 | 3 => bt a1 0
  | 4 => bt a2 24 | 5 => bt a2 16 | 6 => bt a2 8 | 7 => bt a2 0
  | 8 => bt a3 24 | 9 => bt a3 16 | 10 => bt a3 8 | 11 => bt a3 0
  | 12 => bt a4 24 | 13 => bt a4 16 | 14 => bt a4 8 | 15 => bt a4 0
  | 16 => bt a5 24 | 17 => bt a5 16 | 18 => bt a5 8 | 19 => bt a5 0 | _ => 0
theorem rByteOf {a1 a2 a3 a4 a5 : Int32} : ∀ {k : Nat}, k < 20 → F_X10_byteOf a1 a2 a3 a4 a5 (nI k) = some (bF a1 a2 a3 a4 a5 k)
  | 0, _ => rfl | 1, _ => rfl | 2, _ => rfl | 3, _ => rfl | 4, _ => rfl | 5, _ => rfl | 6, _ => rfl | 7, _ => rfl | 8, _ => rfl | 9, _ => rfl
  | 10, _ => rfl | 11, _ => rfl | 12, _ => rfl | 13, _ => rfl | 14, _ => rfl | 15, _ => rfl | 16, _ => rfl | 17, _ => rfl | 18, _ => rfl | 19, _ => rfl
  | k + 20, h => absurd h (by omega)
def eF (B : Nat → Int32) : Nat → Nat → Nat
  | 0, _ => 0
  | n + 1, k => eB (B k) + eF B n (k + 1)
theorem feed_r {tp : Nat → Int32} {l : Nat} {a1 a2 a3 a4 a5 : Int32} (hl : l ≤ 240) : F_X10_feed (nI l) tp a1 a2 a3 a4 a5 = if l + eF (bF a1 a2 a3 a4 a5) 20 0 ≤ 240 then some (nI (pF (fun k a => aB (bF a1 a2 a3 a4 a5 k) a) 20 0 (tp, l)).2, nI (pF (fun k a => aB (bF a1 a2 a3 a4 a5 k) a) 20 0 (tp, l)).2, (pF (fun k a => aB (bF a1 a2 a3 a4 a5 k) a) 20 0 (tp, l)).1) else some (-1, nI l, tp) := by
  unfold F_X10_feed
  have add : l + eF (bF a1 a2 a3 a4 a5) 20 0 ≤ 240 → ∀ x, FL_X10_feed_62 (nI l) tp a1 a2 a3 a4 a5 1000 x 0 (nI l) tp = some (nI (pF (fun k a => aB (bF a1 a2 a3 a4 a5 k) a) 20 0 (tp, l)).2, nI (pF (fun k a => aB (bF a1 a2 a3 a4 a5 k) a) 20 0 (tp, l)).2, (pF (fun k a => aB (bF a1 a2 a3 a4 a5 k) a) 20 0 (tp, l)).1) := fun h x => by
    have hl2 := pLoop (m := 20) (L := fun n i (a : (Nat → Int32) × Nat) => FL_X10_feed_62 (nI l) tp a1 a2 a3 a4 a5 n x i (nI a.2) a.1) (g := fun k a => aB (bF a1 a2 a3 a4 a5 k) a) (fin := fun a => (nI a.2, nI a.2, a.1)) (fun j a => j ≤ 20 ∧ a.2 + eF (bF a1 a2 a3 a4 a5) (20 - j) j ≤ 240) (fun n j a hj hI => ?_) (fun n a hI => ?_) 20 1000 0 (tp, l) (by omega) (by omega) ⟨by omega, h⟩
    · exact hl2.1
    · have e : 20 - j = (20 - (j + 1)) + 1 := by omega
      have hI2 := hI.2
      rw [e] at hI2
      unfold eF at hI2
      refine ⟨?_, by omega, by rw [aB_2]; omega⟩
      show FL_X10_feed_62 (nI l) tp a1 a2 a3 a4 a5 (n + 1) x (nI j) (nI a.2) a.1 = FL_X10_feed_62 (nI l) tp a1 a2 a3 a4 a5 n x (nI (j + 1)) (nI (aB (bF a1 a2 a3 a4 a5 j) a).2) (aB (bF a1 a2 a3 a4 a5 j) a).1
      rw [FL_X10_feed_62, if_neg (by rw [show (20 : Int32) = nI 20 from rfl, pLe (by omega) (by omega)]; omega), rByteOf hj, pBs, pS1]
      unfold aB eB at *
      by_cases c : bF a1 a2 a3 a4 a5 j = 0
      · rw [if_pos c, if_pos c]
      · rw [if_neg c] at hI2
        rw [if_neg c, if_neg c, pIx (by omega) (by omega), pCl (by omega), pS1]
    · show FL_X10_feed_62 (nI l) tp a1 a2 a3 a4 a5 (n + 1) x (nI 20) (nI a.2) a.1 = _
      rw [FL_X10_feed_62, if_pos (show (20 : Int32) ≤ nI 20 from by decide)]
  have eF_le : ∀ (B : Nat → Int32) (n k : Nat), eF B n k ≤ n := by
    intro B n
    induction n with
    | zero => intro k; exact Nat.le_refl 0
    | succ n ih => intro k; unfold eF; have := eB_1 (B k); have := ih (k + 1); omega
  have h20 := eF_le (bF a1 a2 a3 a4 a5) 20 0
  have cnt : ∀ (k j n c : Nat), j + k = 20 → k < n → c + eF (bF a1 a2 a3 a4 a5) k j = eF (bF a1 a2 a3 a4 a5) 20 0 → FL_X10_feed_6 (nI l) tp a1 a2 a3 a4 a5 n (nI c) (nI j) (nI l) tp = if l + eF (bF a1 a2 a3 a4 a5) 20 0 ≤ 240 then some (nI (pF (fun k a => aB (bF a1 a2 a3 a4 a5 k) a) 20 0 (tp, l)).2, nI (pF (fun k a => aB (bF a1 a2 a3 a4 a5 k) a) 20 0 (tp, l)).2, (pF (fun k a => aB (bF a1 a2 a3 a4 a5 k) a) 20 0 (tp, l)).1) else some (-1, nI l, tp) := by
    intro k
    induction k with
    | zero =>
      intro j n c h1 h2 h3
      obtain rfl : j = 20 := by omega
      obtain ⟨n, rfl⟩ : ∃ x, n = x + 1 := ⟨n - 1, by omega⟩
      have h3' : c = eF (bF a1 a2 a3 a4 a5) 20 0 := h3
      rw [FL_X10_feed_6, if_pos (show (20 : Int32) ≤ nI 20 from by decide), nI_add]
      by_cases c2 : l + eF (bF a1 a2 a3 a4 a5) 20 0 ≤ 240
      · rw [if_pos c2, if_pos (by rw [show (240 : Int32) = nI 240 from rfl, pLe (by omega) (by omega)]; omega)]; exact add c2 _
      · rw [if_neg c2, if_neg (by rw [show (240 : Int32) = nI 240 from rfl, pLe (by omega) (by omega)]; omega)]
    | succ k ih =>
      intro j n c h1 h2 h3
      obtain ⟨n, rfl⟩ : ∃ x, n = x + 1 := ⟨n - 1, by omega⟩
      have h3' : c + (eB (bF a1 a2 a3 a4 a5 j) + eF (bF a1 a2 a3 a4 a5) k (j + 1)) = eF (bF a1 a2 a3 a4 a5) 20 0 := h3
      rw [FL_X10_feed_6, if_neg (by rw [show (20 : Int32) = nI 20 from rfl, pLe (by omega) (by omega)]; omega), rByteOf (by omega), pBs, pS1]
      unfold eB at h3'
      by_cases c2 : bF a1 a2 a3 a4 a5 j = 0
      · rw [if_pos c2] at h3'
        rw [if_pos c2, show (0 : Int32) = nI 0 from rfl, nI_add]
        exact ih (j + 1) n (c + 0) (by omega) (by omega) (by omega)
      · rw [if_neg c2] at h3'
        rw [if_neg c2, pS1]
        exact ih (j + 1) n (c + 1) (by omega) (by omega) (by omega)
  exact cnt 20 0 1000 0 (by omega) (by omega) (by omega)
theorem feed_sim {tp : Nat → Int32} {l : Nat} {a1 a2 a3 a4 a5 : Int32} (hl : l ≤ 240) (hb : tOK tp) : ∃ r tp' l', (l' ≤ 240 ∧ tOK tp') ∧ F_X9_feed (nI l) tp a1 a2 a3 a4 a5 = some (r, nI l', tp') ∧ F_X10_feed (nI l) tp a1 a2 a3 a4 a5 = some (r, nI l', tp') := by
  rw [feed_r hl]
  unfold F_X9_feed
  rw [cIn, pBs, cIn, pBs, cIn, pBs, cIn, pBs, cIn, pBs, nI_add, nI_add, nI_add, nI_add, nI_add]
  have h1 := eZ_4 a1; have h2 := eZ_4 a2; have h3 := eZ_4 a3; have h4 := eZ_4 a4; have h5 := eZ_4 a5
  have ee : eF (bF a1 a2 a3 a4 a5) 20 0 = eZ a1 + eZ a2 + eZ a3 + eZ a4 + eZ a5 := by
    simp only [eF, bF, eZ]; omega
  by_cases c : l + eF (bF a1 a2 a3 a4 a5) 20 0 ≤ 240
  · rw [if_pos c]
    rw [ee] at c
    rw [if_pos (by rw [show (240 : Int32) = nI 240 from rfl, pLe (by omega) (by omega)]; omega)]
    rw [cAddZ (by omega), pBs]
    show ∃ r tp' l', (l' ≤ 240 ∧ tOK tp') ∧ ((F_X8_add (aZ a1 (tp, l)).1 (nI (aZ a1 (tp, l)).2) a2).bind _) = _ ∧ _
    rw [cAddP (by rw [aZ_2]; show l + _ + _ ≤ 240; omega), pBs]
    show ∃ r tp' l', (l' ≤ 240 ∧ tOK tp') ∧ ((F_X8_add (aZ a2 (aZ a1 (tp, l))).1 (nI (aZ a2 (aZ a1 (tp, l))).2) a3).bind _) = _ ∧ _
    rw [cAddP (by rw [aZ_2, aZ_2]; show l + _ + _ + _ ≤ 240; omega), pBs]
    show ∃ r tp' l', (l' ≤ 240 ∧ tOK tp') ∧ ((F_X8_add (aZ a3 (aZ a2 (aZ a1 (tp, l)))).1 (nI (aZ a3 (aZ a2 (aZ a1 (tp, l)))).2) a4).bind _) = _ ∧ _
    rw [cAddP (by rw [aZ_2, aZ_2, aZ_2]; show l + _ + _ + _ + _ ≤ 240; omega), pBs]
    show ∃ r tp' l', (l' ≤ 240 ∧ tOK tp') ∧ ((F_X8_add (aZ a4 (aZ a3 (aZ a2 (aZ a1 (tp, l))))).1 (nI (aZ a4 (aZ a3 (aZ a2 (aZ a1 (tp, l))))).2) a5).bind _) = _ ∧ _
    rw [cAddP (by rw [aZ_2, aZ_2, aZ_2, aZ_2]; show l + _ + _ + _ + _ + _ ≤ 240; omega), pBs]
    refine ⟨_, _, (aZ a5 (aZ a4 (aZ a3 (aZ a2 (aZ a1 (tp, l)))))).2, ⟨?_, tOK_Z (tOK_Z (tOK_Z (tOK_Z (tOK_Z (a := (tp, l)) hb))))⟩, rfl, rfl⟩
    rw [aZ_2, aZ_2, aZ_2, aZ_2, aZ_2]; show l + _ + _ + _ + _ + _ ≤ 240; omega
  · rw [if_neg c]
    rw [ee] at c
    rw [if_neg (by rw [show (240 : Int32) = nI 240 from rfl, pLe (by omega) (by omega)]; omega)]
    exact ⟨_, tp, l, ⟨hl, hb⟩, rfl, rfl⟩
theorem end_sim {l : Nat} {z1 : Int32} (hl : l ≤ 240) : ∃ r l', l' ≤ 240 ∧ F_X9_end (nI l) z1 = some (r, nI l') ∧ F_X10_end (nI l) z1 = some (r, nI l') := by
  unfold F_X9_end F_X10_end
  rw [rIn, pBs]
  by_cases c1 : z1 < 0
  · rw [if_pos c1, if_pos (show pb (!decide (z1 < 0) && !decide (nI l < z1)) = 0 by simp [c1, pb])]; exact ⟨_, l, hl, rfl, rfl⟩
  · rw [if_neg c1]
    obtain ⟨k, hk, rfl⟩ := nI_of c1
    by_cases c2 : k ≤ l
    · rw [if_pos ((pLe hk (by omega)).mpr c2), if_neg (show ¬ pb (!decide (nI k < 0) && !decide (nI l < nI k)) = 0 by
        have : ¬ nI l < nI k := fun q => by have := (pLt (by omega) hk).mp q; omega
        simp [c1, this, pb])]
      exact ⟨_, k, by omega, rfl, rfl⟩
    · rw [if_neg (fun q => c2 ((pLe hk (by omega)).mp q)), if_pos (show pb (!decide (nI k < 0) && !decide (nI l < nI k)) = 0 by
        have : nI l < nI k := (pLt (by omega) hk).mpr (by omega)
        simp [this, pb])]
      exact ⟨_, l, hl, rfl, rfl⟩
