section
/-! texts kept, and what stays of the scripts -/
theorem ScR_keep {f1 f2 sq sl sq' sl' : Nat → Int32} {s z : Nat} (h : ScR f1 f2 sq sl s) (hz : s ≤ z) (h1 : ∀ k, ¬ (64 * z ≤ k ∧ k < 64 * z + 64) → sq' k = sq k) (h2 : ∀ k, k ≠ z → sl' k = sl k) : ScR f1 f2 sq' sl' s :=
  ⟨h.1, fun i hi => by
    obtain ⟨l, a1, a2, a3, a4⟩ := h.2 i hi
    refine ⟨l, a1, a2, by rw [h2 i (by omega)]; exact a3, fun j hj => ⟨(a4 j hj).1, fun c hc => ?_⟩⟩
    rw [h1 _ (by omega)]; exact (a4 j hj).2 c hc⟩
theorem ScR_add {f1 f2 f3 sq sl sq' sl' : Nat → Int32} {s j : Nat} {ds : Int32} (h : ScR f1 f2 sq sl s) (hs : s < 4) (hj : j ≤ 16) (e1 : ds = nI j) (e2 : sl' s = nI j) (h1 : ∀ k, ¬ (64 * s ≤ k ∧ k < 64 * s + 64) → sq' k = sq k) (h2 : ∀ k, k ≠ s → sl' k = sl k) (hr : ∀ i, i < j → sRow s f3 sq' i) : ScR (va_cpy f3 f1 0 (s * 64) 64) (upd f2 s ds) sq' sl' (s + 1) := by
  refine ⟨by omega, fun i hi => ?_⟩
  by_cases c : i = s
  · subst c
    refine ⟨j, hj, by rw [pUs]; exact e1, e2, fun q hq => ?_⟩
    have key : ∀ c, c < 4 → va_cpy f3 f1 0 (i * 64) 64 (i * 64 + q * 4 + c) = f3 (4 * q + c) := fun c hc => by
      simp only [va_cpy]; rw [if_pos (by omega)]; congr 1; omega
    obtain ⟨⟨k, hk, r1⟩, r2⟩ := hr q hq
    refine ⟨⟨k, hk, ?_⟩, fun c hc => ?_⟩
    · have := key 0 (by omega)
      rw [Nat.add_zero, Nat.add_zero] at this; rw [this]; exact r1
    · rw [key c hc]; exact r2 c hc
  · obtain ⟨l, a1, a2, a3, a4⟩ := h.2 i (by omega)
    have key : ∀ k, k < s * 64 → va_cpy f3 f1 0 (s * 64) 64 k = f1 k := fun k hk => by simp only [va_cpy]; rw [if_neg (by omega)]
    refine ⟨l, a1, by rw [pUn c]; exact a2, by rw [h2 i c]; exact a3, fun q hq => ?_⟩
    obtain ⟨⟨k, hk, r1⟩, r2⟩ := a4 q hq
    refine ⟨⟨k, hk, by rw [key _ (by omega)]; exact r1⟩, fun c' hc => ?_⟩
    rw [h1 _ (by omega), key _ (by omega)]; exact r2 c' hc
theorem keepD {f1 f2 f3 : Nat → Int32} {ds : Int32} {s : Nat} (hs : s < 4) : F_X7_keepDraft f1 f2 f3 ds (nI s) = some (nI s + 1 - 1, va_cpy f3 f1 0 (s * 64) 64, upd f2 s ds, nI s + 1) := by
  unfold F_X7_keepDraft
  have e : (nI s : Int32) * 64 = nI (s * 64) := pM s 64
  rw [if_pos (show nI s < 4 from (pLt (b := 4) (by omega) (by omega)).mpr hs), e, if_pos (nI_pos (show s * 64 < 2147483648 by omega)), pCl (show s * 64 < 2147483648 by omega), if_pos (by omega), pIx (by omega) (by omega), pCl (by omega)]
end

section
/-! what both hold between two calls -/
def iv_H (xa : Nat → Nat → Int32) (xi : Nat → Int32) (xl : Int64) (ya : Nat → Nat → Int32) (yi : Nat → Int32) (yl : Int64) (j : Nat) : Prop := ∃ m t nx p tt te l s : Nat, (xi 0 = nI l) ∧ (yi 1 = nI l) ∧ (l ≤ 240) ∧ (xa 2 = ya 1) ∧ (tOK (ya 1)) ∧ (xi 4 = nI m) ∧ (yi 5 = nI m) ∧ (xa 8 = ya 4) ∧ (xi 6 = nI s) ∧ (yi 6 = nI s) ∧ (ScR (xa 11) (xa 12) (ya 6) (ya 7) s) ∧ (xi 7 = nI nx) ∧ (xi 8 = nI p) ∧ (yi 7 = nI p) ∧ (xi 9 = nI tt) ∧ (xi 10 = nI te) ∧ (xi 11 = yi 8) ∧ (WW m t (ya 4) (xa 9) (ya 5) (xa 15) (xa 20) nx p (xa 22) tt (ya 8) (ya 10)) ∧ (IM m (ya 4) (tT m (ya 5)) (yi 8) (xa 24) (xa 26) te (ya 14)) ∧ (xa 28 = ya 9) ∧ (xl = yl) ∧ (tt ≤ 40 * j) ∧ (te ≤ 40 * j) ∧ (0 < m → ∃ g, g ≤ 9 ∧ ya 4 4 = nI g)
def iv_I (x y : XS) (j : Nat) : Prop := iv_H x.1 x.2.1 x.2.2 y.1 y.2.1 y.2.2 j
theorem iv_mk {xa : Nat → Nat → Int32} {xi : Nat → Int32} {xl : Int64} {ya : Nat → Nat → Int32} {yi : Nat → Int32} {yl : Int64} {j : Nat} (m t nx p tt te l s : Nat) (e1 : xi 0 = nI l) (e2 : yi 1 = nI l) (h3 : l ≤ 240) (e4 : xa 2 = ya 1) (h5 : tOK (ya 1)) (e6 : xi 4 = nI m) (e7 : yi 5 = nI m) (e8 : xa 8 = ya 4) (e9 : xi 6 = nI s) (e10 : yi 6 = nI s) (h11 : ScR (xa 11) (xa 12) (ya 6) (ya 7) s) (e12 : xi 7 = nI nx) (e13 : xi 8 = nI p) (e14 : yi 7 = nI p) (e15 : xi 9 = nI tt) (e16 : xi 10 = nI te) (e17 : xi 11 = yi 8) (hW : WW m t (ya 4) (xa 9) (ya 5) (xa 15) (xa 20) nx p (xa 22) tt (ya 8) (ya 10)) (hI : IM m (ya 4) (tT m (ya 5)) (yi 8) (xa 24) (xa 26) te (ya 14)) (e20 : xa 28 = ya 9) (e21 : xl = yl) (h22 : tt ≤ 40 * j) (h23 : te ≤ 40 * j) (h24 : 0 < m → ∃ g, g ≤ 9 ∧ ya 4 4 = nI g) : iv_H xa xi xl ya yi yl j := ⟨m, t, nx, p, tt, te, l, s, e1, e2, h3, e4, h5, e6, e7, e8, e9, e10, h11, e12, e13, e14, e15, e16, e17, hW, hI, e20, e21, h22, h23, h24⟩
theorem iv_0 : iv_I ((fun _ _ => 0), (fun _ => 0), 0) ((fun _ _ => 0), (fun _ => 0), 0) 0 := by
  have hT : wT 0 (tT 0 (fun _ => 0)) := fun d hd => absurd hd (by omega)
  have hN := (new_iU (m := 0) (R := fun _ => 0) (T := tT 0 (fun _ => 0)) (N := nz (fun _ => 0)) (by omega) hT (nz_nz _)).1
  refine iv_mk 0 0 0 0 0 0 0 0 rfl rfl (by omega) rfl (fun q => ⟨0, by decide, rfl⟩) rfl rfl rfl rfl rfl ⟨by omega, fun i hi => absurd hi (by omega)⟩ rfl rfl rfl rfl rfl rfl ⟨⟨by omega, fun q => absurd q (by omega), hT, ?_⟩, ⟨⟨rfl, fun d hd => absurd hd (by omega)⟩, hN, ⟨0, by omega, rfl, rfl⟩, ⟨rfl, fun i c hi => absurd hi (by omega)⟩⟩, by omega, by omega, by omega, fun i hi => absurd hi (by omega)⟩ (Or.inl rfl) rfl rfl (by omega) (by omega) (fun q => absurd q (by omega))
  funext d k; unfold tP tT; rw [if_neg (by omega)]
theorem iv_up (x y : XS) (j : Nat) (h : iv_I x y j) : iv_I x y (j + 1) := by
  obtain ⟨m, t, nx, p, tt, te, l, s, e1, e2, h3, e4, h5, e6, e7, e8, e9, e10, h11, e12, e13, e14, e15, e16, e17, hW, hI, e20, e21, h22, h23, h24⟩ := h
  exact iv_mk m t nx p tt te l s e1 e2 h3 e4 h5 e6 e7 e8 e9 e10 h11 e12 e13 e14 e15 e16 e17 hW hI e20 e21 (by omega) (by omega) h24
theorem st_0 {cmp : Bool} : q_st cmp SX_0 SY_0 iv_I := by
  intro x y z j hj h
  obtain ⟨xa, xi, xl⟩ := x
  obtain ⟨ya, yi, yl⟩ := y
  have h : iv_H xa xi xl ya yi yl j := h
  obtain ⟨m, t, nx, p, tt, te, l, s, e1, e2, h3, e4, h5, e6, e7, e8, e9, e10, h11, e12, e13, e14, e15, e16, e17, hW, hI, e20, e21, h22, h23, h24⟩ := h
  have hC := hW.1
  have hR := hW.2.1.1
  have hU := hW.2.1.2.1
  have hF : iU m (ya 4) (tT m (ya 5)) (nz (xa 15)) := by rw [hR.1]; exact hU
  obtain ⟨r, tp', l', ⟨q1, q2⟩, q3, q4⟩ := feed_sim (tp := ya 1) (l := l) (a1 := z 1) (a2 := z 2) (a3 := z 3) (a4 := z 4) (a5 := z 5) h3 h5
  have X : F_X9_feed (xi 0) (xa 2) (z 1) (z 2) (z 3) (z 4) (z 5) = some (r, nI l', tp') := by rw [e1, e4]; exact q3
  have Y : F_X10_feed (yi 1) (ya 1) (z 1) (z 2) (z 3) (z 4) (z 5) = some (r, nI l', tp') := by rw [e2]; exact q4
  exact ⟨_, _, pBi X, pBi Y, iv_mk m t nx p tt te l' s rfl rfl q1 rfl q2 e6 e7 e8 e9 e10 h11 e12 e13 e14 e15 e16 e17 hW hI e20 e21 (by omega) (by omega) h24, fun _ => rfl⟩
theorem st_1 {cmp : Bool} : q_st cmp SX_1 SY_1 iv_I := by
  intro x y z j hj h
  obtain ⟨xa, xi, xl⟩ := x
  obtain ⟨ya, yi, yl⟩ := y
  have h : iv_H xa xi xl ya yi yl j := h
  obtain ⟨m, t, nx, p, tt, te, l, s, e1, e2, h3, e4, h5, e6, e7, e8, e9, e10, h11, e12, e13, e14, e15, e16, e17, hW, hI, e20, e21, h22, h23, h24⟩ := h
  have hC := hW.1
  have hR := hW.2.1.1
  have hU := hW.2.1.2.1
  have hF : iU m (ya 4) (tT m (ya 5)) (nz (xa 15)) := by rw [hR.1]; exact hU
  obtain ⟨r, l', q1, q3, q4⟩ := end_sim (l := l) (z1 := z 1) h3
  have X : F_X9_end (xi 0) (z 1) = some (r, nI l') := by rw [e1]; exact q3
  have Y : F_X10_end (yi 1) (z 1) = some (r, nI l') := by rw [e2]; exact q4
  exact ⟨_, _, pBi X, pBi Y, iv_mk m t nx p tt te l' s rfl rfl q1 e4 h5 e6 e7 e8 e9 e10 h11 e12 e13 e14 e15 e16 e17 hW hI e20 e21 (by omega) (by omega) h24, fun _ => rfl⟩
theorem st_2 {cmp : Bool} : q_st cmp SX_2 SY_2 iv_I := by
  intro x y z j hj h
  obtain ⟨xa, xi, xl⟩ := x
  obtain ⟨ya, yi, yl⟩ := y
  have h : iv_H xa xi xl ya yi yl j := h
  obtain ⟨m, t, nx, p, tt, te, l, s, e1, e2, h3, e4, h5, e6, e7, e8, e9, e10, h11, e12, e13, e14, e15, e16, e17, hW, hI, e20, e21, h22, h23, h24⟩ := h
  have hC := hW.1
  have hR := hW.2.1.1
  have hU := hW.2.1.2.1
  have hF : iU m (ya 4) (tT m (ya 5)) (nz (xa 15)) := by rw [hR.1]; exact hU
  by_cases c0 : z 1 = 0
  · obtain ⟨w, a', rv', e', fu', fp', at', wr', e'', rr', rd', hX, hY, -⟩ := tree_sim (tb := ya 1) (l := l) (ra := xi 1) (rv := xi 2) (at_ := yi 2) (wr := yi 3) (rm := yi 4) (fu := xa 5) (fp := xa 6) (rr := ya 2) (rd := ya 3) h3 h5
    have X : F_X9_fault (xi 0) (xi 1) (xi 2) (xi 3) (xi 5) (xa 2) (xa 5) (xa 6) (xa 13) (z 1) = some (w, a', rv', e', xi 5, fu', fp', xa 13) := by
      unfold F_X9_fault
      rw [if_pos c0, e1, e4, hX]; try rfl
    have Y : F_X10_fault (yi 1) (yi 2) (yi 3) (yi 4) (ya 1) (ya 2) (ya 3) (ya 6) (ya 7) (z 1) = some (w, at', wr', e'', rr', rd', ya 6, ya 7) := by
      unfold F_X10_fault
      rw [if_pos c0, e2, hY]; try rfl
    exact ⟨_, _, pBi X, pBi Y, iv_mk m t nx p tt te l s e1 e2 h3 e4 h5 e6 e7 e8 e9 e10 h11 e12 e13 e14 e15 e16 e17 hW hI e20 e21 (by omega) (by omega) h24, fun _ => rfl⟩
  · by_cases c1 : z 1 = 1
    · obtain ⟨w, a', rv', f3', ds', at', wr', sq', sl', hX, hY, k1, k2, -⟩ := script_sim (tb := ya 1) (l := l) (ra := xi 1) (rv := xi 2) (ds := xi 5) (at_ := yi 2) (wr := yi 3) (f3 := xa 13) (sq := ya 6) (sl := ya 7) (z := 4) h3 h5 (by omega)
      have hY : F_X10_readScript (nI l) (yi 2) (yi 3) (ya 1) (ya 6) (ya 7) 4 = some (w, at', wr', sq', sl') := hY
      have X : F_X9_fault (xi 0) (xi 1) (xi 2) (xi 3) (xi 5) (xa 2) (xa 5) (xa 6) (xa 13) (z 1) = some (w, a', rv', xi 3, ds', xa 5, xa 6, f3') := by
        unfold F_X9_fault
        rw [if_neg c0, if_pos c1, e1, e4, hX]; try rfl
      have Y : F_X10_fault (yi 1) (yi 2) (yi 3) (yi 4) (ya 1) (ya 2) (ya 3) (ya 6) (ya 7) (z 1) = some (w, at', wr', yi 4, ya 2, ya 3, sq', sl') := by
        unfold F_X10_fault
        rw [if_neg c0, if_pos c1, e2, hY]; try rfl
      exact ⟨_, _, pBi X, pBi Y, iv_mk m t nx p tt te l s e1 e2 h3 e4 h5 e6 e7 e8 e9 e10 (ScR_keep h11 h11.1 k1 k2) e12 e13 e14 e15 e16 e17 hW hI e20 e21 (by omega) (by omega) h24, fun _ => rfl⟩
    · skip
      have X : F_X9_fault (xi 0) (xi 1) (xi 2) (xi 3) (xi 5) (xa 2) (xa 5) (xa 6) (xa 13) (z 1) = some (-2, xi 1, xi 2, xi 3, xi 5, xa 5, xa 6, xa 13) := by
        unfold F_X9_fault
        rw [if_neg c0, if_neg c1]; try rfl
      have Y : F_X10_fault (yi 1) (yi 2) (yi 3) (yi 4) (ya 1) (ya 2) (ya 3) (ya 6) (ya 7) (z 1) = some (-2, yi 2, yi 3, yi 4, ya 2, ya 3, ya 6, ya 7) := by
        unfold F_X10_fault
        rw [if_neg c0, if_neg c1]; try rfl
      exact ⟨_, _, pBi X, pBi Y, iv_mk m t nx p tt te l s e1 e2 h3 e4 h5 e6 e7 e8 e9 e10 h11 e12 e13 e14 e15 e16 e17 hW hI e20 e21 (by omega) (by omega) h24, fun _ => rfl⟩
theorem st_3 {cmp : Bool} : q_st cmp SX_3 SY_3 iv_I := by
  intro x y z j hj h
  obtain ⟨xa, xi, xl⟩ := x
  obtain ⟨ya, yi, yl⟩ := y
  have h : iv_H xa xi xl ya yi yl j := h
  obtain ⟨m, t, nx, p, tt, te, l, s, e1, e2, h3, e4, h5, e6, e7, e8, e9, e10, h11, e12, e13, e14, e15, e16, e17, hW, hI, e20, e21, h22, h23, h24⟩ := h
  have hC := hW.1
  have hR := hW.2.1.1
  have hU := hW.2.1.2.1
  have hF : iU m (ya 4) (tT m (ya 5)) (nz (xa 15)) := by rw [hR.1]; exact hU
  by_cases c0 : z 1 = 0
  · obtain ⟨w, a', rv', e', fu', fp', at', wr', e'', rr', rd', hX, hY, hw⟩ := tree_sim (tb := ya 1) (l := l) (ra := xi 1) (rv := xi 2) (at_ := yi 2) (wr := yi 3) (rm := yi 4) (fu := xa 5) (fp := xa 6) (rr := ya 2) (rd := ya 3) h3 h5
    by_cases cw : w = -1
    · obtain ⟨m', g1, g2, rfl, rfl, g3, g4⟩ := hw cw
      obtain ⟨t', fr', ru', td', nw', r1, r2, r3, r4, r5⟩ := take_sim (m := m') (ph := 0) (tt := 0) (hi := 0) (mn := nI m) (ac := nI p) (hi2 := yi 8) (du := fu') (dp := fp') (fu := ya 4) (fp := xa 9) (fr := xa 15) (rr := rr') (rd := rd') (td := ya 5) (nw := ya 8) (fd := xa 22) (fq := xa 20) (kp := ya 10) (nx := nx) g1 g2 hW.2.2.2.1 g3 g4
      have X : F_X9_text (xi 0) (xi 1) (xi 2) (xi 3) (xi 4) (xi 5) (xi 6) (xi 8) (xi 9) (xi 11) (xa 2) (xa 5) (xa 6) (xa 8) (xa 9) (xa 11) (xa 12) (xa 13) (xa 15) (z 1) = some (nI m', 0, a', rv', nI m', nI m', xi 5, xi 6, 0, 0, 0, fu', fp', va_cpy fu' (ya 4) 0 0 8, va_cpy fp' (xa 9) 0 0 48, xa 11, xa 12, xa 13, fr') := by
        unfold F_X9_text F_X9_takeTree F_X5_copyFrom F_X4_forget
        rw [if_pos c0, e1, e4, e8, hX]
        simp only [pBs]
        rw [if_pos cw, r1]; try rfl
      have Y : F_X10_text (yi 1) (yi 2) (yi 3) (yi 4) (yi 5) (yi 6) (yi 7) (yi 8) (ya 1) (ya 2) (ya 3) (ya 4) (ya 5) (ya 6) (ya 7) (ya 8) (z 1) = some (nI m', 0, at', wr', nI m', nI m', yi 6, 0, 0, rr', rd', ru', td', ya 6, ya 7, nw') := by
        unfold F_X10_text
        rw [if_pos c0, e2, e7, e14, hY]
        simp only [pBs]
        rw [if_pos cw, r2]; try rfl
      exact ⟨_, _, pBi X, pBi Y, iv_mk m' t' nx 0 0 te 0 s rfl rfl (by omega) e4 h5 rfl rfl r3 e9 e10 h11 e12 rfl rfl rfl e16 rfl r5 (Or.inl rfl) e20 e21 (by omega) (by omega) (fun _ => r4), fun _ => rfl⟩
    · skip
      have X : F_X9_text (xi 0) (xi 1) (xi 2) (xi 3) (xi 4) (xi 5) (xi 6) (xi 8) (xi 9) (xi 11) (xa 2) (xa 5) (xa 6) (xa 8) (xa 9) (xa 11) (xa 12) (xa 13) (xa 15) (z 1) = some (-1, xi 0, a', rv', e', xi 4, xi 5, xi 6, xi 8, xi 9, xi 11, fu', fp', xa 8, xa 9, xa 11, xa 12, xa 13, xa 15) := by
        unfold F_X9_text F_X9_takeTree
        rw [if_pos c0, e1, e4, hX]
        simp only [pBs]
        rw [if_neg cw]; try rfl
      have Y : F_X10_text (yi 1) (yi 2) (yi 3) (yi 4) (yi 5) (yi 6) (yi 7) (yi 8) (ya 1) (ya 2) (ya 3) (ya 4) (ya 5) (ya 6) (ya 7) (ya 8) (z 1) = some (-1, yi 1, at', wr', e'', yi 5, yi 6, yi 7, yi 8, rr', rd', ya 4, ya 5, ya 6, ya 7, ya 8) := by
        unfold F_X10_text
        rw [if_pos c0, e2, hY]
        simp only [pBs]
        rw [if_neg cw, if_neg (by rw [c0]; decide)]; try rfl
      exact ⟨_, _, pBi X, pBi Y, iv_mk m t nx p tt te l s e1 e2 h3 e4 h5 e6 e7 e8 e9 e10 h11 e12 e13 e14 e15 e16 e17 hW hI e20 e21 (by omega) (by omega) h24, fun _ => rfl⟩
  · by_cases c1 : z 1 = 1
    · by_cases c4 : s = 4
      · have h4 : (4 : Int32) ≤ nI s := by rw [c4]; decide
        have X : F_X9_text (xi 0) (xi 1) (xi 2) (xi 3) (xi 4) (xi 5) (xi 6) (xi 8) (xi 9) (xi 11) (xa 2) (xa 5) (xa 6) (xa 8) (xa 9) (xa 11) (xa 12) (xa 13) (xa 15) (z 1) = some (-1, xi 0, xi 1, xi 2, xi 3, xi 4, xi 5, xi 6, xi 8, xi 9, xi 11, xa 5, xa 6, xa 8, xa 9, xa 11, xa 12, xa 13, xa 15) := by
          unfold F_X9_text F_X9_takeScript
          rw [if_neg c0, if_pos c1, if_pos (by rw [e9]; exact h4)]; try rfl
        have Y : F_X10_text (yi 1) (yi 2) (yi 3) (yi 4) (yi 5) (yi 6) (yi 7) (yi 8) (ya 1) (ya 2) (ya 3) (ya 4) (ya 5) (ya 6) (ya 7) (ya 8) (z 1) = some (-1, yi 1, yi 2, yi 3, yi 4, yi 5, yi 6, yi 7, yi 8, ya 2, ya 3, ya 4, ya 5, ya 6, ya 7, ya 8) := by
          unfold F_X10_text
          rw [if_neg c0, if_pos c1, if_pos (by rw [e10]; exact h4)]; try rfl
        exact ⟨_, _, pBi X, pBi Y, iv_mk m t nx p tt te l s e1 e2 h3 e4 h5 e6 e7 e8 e9 e10 h11 e12 e13 e14 e15 e16 e17 hW hI e20 e21 (by omega) (by omega) h24, fun _ => rfl⟩
      · have hs4 : s < 4 := by have := h11.1; omega
        have h4 : ¬ (4 : Int32) ≤ nI s := fun q => by have := (pLe (a := 4) (by omega) (by omega)).mp q; omega
        obtain ⟨w, a', rv', f3', ds', at', wr', sq', sl', hX, hY, k1, k2, hw⟩ := script_sim (tb := ya 1) (l := l) (ra := xi 1) (rv := xi 2) (ds := xi 5) (at_ := yi 2) (wr := yi 3) (f3 := xa 13) (sq := ya 6) (sl := ya 7) (z := s) h3 h5 (by omega)
        by_cases cw : w = -1
        · obtain ⟨jj, g1, g2, g3, g4⟩ := hw cw
          have X : F_X9_text (xi 0) (xi 1) (xi 2) (xi 3) (xi 4) (xi 5) (xi 6) (xi 8) (xi 9) (xi 11) (xa 2) (xa 5) (xa 6) (xa 8) (xa 9) (xa 11) (xa 12) (xa 13) (xa 15) (z 1) = some (nI s + 1 - 1, 0, a', rv', xi 3, xi 4, ds', nI s + 1, xi 8, xi 9, xi 11, xa 5, xa 6, xa 8, xa 9, va_cpy f3' (xa 11) 0 (s * 64) 64, upd (xa 12) s ds', f3', xa 15) := by
            unfold F_X9_text F_X9_takeScript
            rw [if_neg c0, if_pos c1, e9, if_neg h4, e1, e4, hX]
            simp only [pBs]
            rw [if_pos cw, keepD hs4]; try rfl
          have Y : F_X10_text (yi 1) (yi 2) (yi 3) (yi 4) (yi 5) (yi 6) (yi 7) (yi 8) (ya 1) (ya 2) (ya 3) (ya 4) (ya 5) (ya 6) (ya 7) (ya 8) (z 1) = some (nI s + 1 - 1, 0, at', wr', yi 4, yi 5, nI s + 1, yi 7, yi 8, ya 2, ya 3, ya 4, ya 5, sq', sl', ya 8) := by
            unfold F_X10_text
            rw [if_neg c0, if_pos c1, e10, if_neg h4, e2, hY]
            simp only [pBs]
            rw [if_pos cw]; try rfl
          exact ⟨_, _, pBi X, pBi Y, iv_mk m t nx p tt te 0 (s + 1) rfl rfl (by omega) e4 h5 e6 e7 e8 (pS1 s) (pS1 s) (ScR_add h11 hs4 g1 g2 g3 k1 k2 g4) e12 e13 e14 e15 e16 e17 hW hI e20 e21 (by omega) (by omega) h24, fun _ => rfl⟩
        · skip
          have X : F_X9_text (xi 0) (xi 1) (xi 2) (xi 3) (xi 4) (xi 5) (xi 6) (xi 8) (xi 9) (xi 11) (xa 2) (xa 5) (xa 6) (xa 8) (xa 9) (xa 11) (xa 12) (xa 13) (xa 15) (z 1) = some (-1, xi 0, a', rv', xi 3, xi 4, ds', xi 6, xi 8, xi 9, xi 11, xa 5, xa 6, xa 8, xa 9, xa 11, xa 12, f3', xa 15) := by
            unfold F_X9_text F_X9_takeScript
            rw [if_neg c0, if_pos c1, e9, if_neg h4, e1, e4, hX]
            simp only [pBs]
            rw [if_neg cw]; try rfl
          have Y : F_X10_text (yi 1) (yi 2) (yi 3) (yi 4) (yi 5) (yi 6) (yi 7) (yi 8) (ya 1) (ya 2) (ya 3) (ya 4) (ya 5) (ya 6) (ya 7) (ya 8) (z 1) = some (-1, yi 1, at', wr', yi 4, yi 5, yi 6, yi 7, yi 8, ya 2, ya 3, ya 4, ya 5, sq', sl', ya 8) := by
            unfold F_X10_text
            rw [if_neg c0, if_pos c1, e10, if_neg h4, e2, hY]
            simp only [pBs]
            rw [if_neg cw]; try rfl
          exact ⟨_, _, pBi X, pBi Y, iv_mk m t nx p tt te l s e1 e2 h3 e4 h5 e6 e7 e8 e9 e10 (ScR_keep h11 (Nat.le_refl s) k1 k2) e12 e13 e14 e15 e16 e17 hW hI e20 e21 (by omega) (by omega) h24, fun _ => rfl⟩
    · skip
      have X : F_X9_text (xi 0) (xi 1) (xi 2) (xi 3) (xi 4) (xi 5) (xi 6) (xi 8) (xi 9) (xi 11) (xa 2) (xa 5) (xa 6) (xa 8) (xa 9) (xa 11) (xa 12) (xa 13) (xa 15) (z 1) = some (-1, xi 0, xi 1, xi 2, xi 3, xi 4, xi 5, xi 6, xi 8, xi 9, xi 11, xa 5, xa 6, xa 8, xa 9, xa 11, xa 12, xa 13, xa 15) := by
        unfold F_X9_text
        rw [if_neg c0, if_neg c1]; try rfl
      have Y : F_X10_text (yi 1) (yi 2) (yi 3) (yi 4) (yi 5) (yi 6) (yi 7) (yi 8) (ya 1) (ya 2) (ya 3) (ya 4) (ya 5) (ya 6) (ya 7) (ya 8) (z 1) = some (-1, yi 1, yi 2, yi 3, yi 4, yi 5, yi 6, yi 7, yi 8, ya 2, ya 3, ya 4, ya 5, ya 6, ya 7, ya 8) := by
        unfold F_X10_text
        rw [if_neg c0, if_neg c1]; try rfl
      exact ⟨_, _, pBi X, pBi Y, iv_mk m t nx p tt te l s e1 e2 h3 e4 h5 e6 e7 e8 e9 e10 h11 e12 e13 e14 e15 e16 e17 hW hI e20 e21 (by omega) (by omega) h24, fun _ => rfl⟩
theorem st_4 {cmp : Bool} : q_st cmp SX_4 SY_4 iv_I := by
  intro x y z j hj h
  obtain ⟨xa, xi, xl⟩ := x
  obtain ⟨ya, yi, yl⟩ := y
  have h : iv_H xa xi xl ya yi yl j := h
  obtain ⟨m, t, nx, p, tt, te, l, s, e1, e2, h3, e4, h5, e6, e7, e8, e9, e10, h11, e12, e13, e14, e15, e16, e17, hW, hI, e20, e21, h22, h23, h24⟩ := h
  have hC := hW.1
  have hR := hW.2.1.1
  have hU := hW.2.1.2.1
  have hF : iU m (ya 4) (tT m (ya 5)) (nz (xa 15)) := by rw [hR.1]; exact hU
  obtain ⟨r, q1, q2⟩ := rule_sim (m := m) (ru := ya 4) (fp := xa 9) (z1 := z 1) hC.1
  have X : F_X9_rule (xi 4) (xa 8) (xa 9) (z 1) = some r := by rw [e6, e8]; exact q1
  have Y : F_X10_rule (yi 5) (ya 4) (z 1) = some r := by rw [e7]; exact q2
  exact ⟨_, _, pBi X, pBi Y, iv_mk m t nx p tt te l s e1 e2 h3 e4 h5 e6 e7 e8 e9 e10 h11 e12 e13 e14 e15 e16 e17 hW hI e20 e21 (by omega) (by omega) h24, fun _ => rfl⟩
theorem st_5 {cmp : Bool} : q_st cmp SX_5 SY_5 iv_I := by
  intro x y z j hj h
  obtain ⟨xa, xi, xl⟩ := x
  obtain ⟨ya, yi, yl⟩ := y
  have h : iv_H xa xi xl ya yi yl j := h
  obtain ⟨m, t, nx, p, tt, te, l, s, e1, e2, h3, e4, h5, e6, e7, e8, e9, e10, h11, e12, e13, e14, e15, e16, e17, hW, hI, e20, e21, h22, h23, h24⟩ := h
  have hC := hW.1
  have hR := hW.2.1.1
  have hU := hW.2.1.2.1
  have hF : iU m (ya 4) (tT m (ya 5)) (nz (xa 15)) := by rw [hR.1]; exact hU
  obtain ⟨r, q1, q2⟩ := told_sim (z1 := z 1) (z2 := z 2) hC hR
  have X : F_X9_told (xi 4) (xa 8) (xa 9) (xa 15) (z 1) (z 2) = some r := by rw [e6, e8]; exact q1
  have Y : F_X10_told (yi 5) (ya 5) (ya 8) (z 1) (z 2) = some r := by rw [e7]; exact q2
  exact ⟨_, _, pBi X, pBi Y, iv_mk m t nx p tt te l s e1 e2 h3 e4 h5 e6 e7 e8 e9 e10 h11 e12 e13 e14 e15 e16 e17 hW hI e20 e21 (by omega) (by omega) h24, fun _ => rfl⟩
theorem st_6 : q_st false SX_6 SY_6 iv_I := by
  intro x y z j hj h
  obtain ⟨xa, xi, xl⟩ := x
  obtain ⟨ya, yi, yl⟩ := y
  have h : iv_H xa xi xl ya yi yl j := h
  obtain ⟨m, t, nx, p, tt, te, l, s, e1, e2, h3, e4, h5, e6, e7, e8, e9, e10, h11, e12, e13, e14, e15, e16, e17, hW, hI, e20, e21, h22, h23, h24⟩ := h
  have hC := hW.1
  have hR := hW.2.1.1
  have hU := hW.2.1.2.1
  have hF : iU m (ya 4) (tT m (ya 5)) (nz (xa 15)) := by rw [hR.1]; exact hU
  obtain ⟨⟨r, q1⟩, r2, q2⟩ := device_t (z1 := z 1) (z2 := z 2) (th := yi 0) hC hF hU
  have X : F_X9_device (xi 4) (xa 15) (xa 8) (xa 9) (z 1) (z 2) = some r := by rw [e6, e8]; exact q1
  have Y : F_X10_device (yi 0) (yi 5) (ya 5) (ya 8) (z 1) (z 2) = some r2 := by rw [e7]; exact q2
  exact ⟨_, _, pBi X, pBi Y, iv_mk m t nx p tt te l s e1 e2 h3 e4 h5 e6 e7 e8 e9 e10 h11 e12 e13 e14 e15 e16 e17 hW hI e20 e21 (by omega) (by omega) h24, fun q => absurd q (by decide)⟩
theorem st_7 {cmp : Bool} : q_st cmp SX_7 SY_7 iv_I := by
  intro x y z j hj h
  obtain ⟨xa, xi, xl⟩ := x
  obtain ⟨ya, yi, yl⟩ := y
  have h : iv_H xa xi xl ya yi yl j := h
  obtain ⟨m, t, nx, p, tt, te, l, s, e1, e2, h3, e4, h5, e6, e7, e8, e9, e10, h11, e12, e13, e14, e15, e16, e17, hW, hI, e20, e21, h22, h23, h24⟩ := h
  have hC := hW.1
  have hR := hW.2.1.1
  have hU := hW.2.1.2.1
  have hF : iU m (ya 4) (tT m (ya 5)) (nz (xa 15)) := by rw [hR.1]; exact hU
  obtain ⟨r, q1, q2⟩ := port_sim (z1 := z 1) (z2 := z 2) hC hR hU
  have X : F_X9_port (xi 4) (xa 8) (xa 9) (xa 15) (z 1) (z 2) = some r := by rw [e6, e8]; exact q1
  have Y : F_X10_port (yi 5) (ya 4) (ya 5) (ya 8) (z 1) (z 2) = some r := by rw [e7]; exact q2
  exact ⟨_, _, pBi X, pBi Y, iv_mk m t nx p tt te l s e1 e2 h3 e4 h5 e6 e7 e8 e9 e10 h11 e12 e13 e14 e15 e16 e17 hW hI e20 e21 (by omega) (by omega) h24, fun _ => rfl⟩
theorem st_8 {cmp : Bool} : q_st cmp SX_8 SY_8 iv_I := by
  intro x y z j hj h
  obtain ⟨xa, xi, xl⟩ := x
  obtain ⟨ya, yi, yl⟩ := y
  have h : iv_H xa xi xl ya yi yl j := h
  obtain ⟨m, t, nx, p, tt, te, l, s, e1, e2, h3, e4, h5, e6, e7, e8, e9, e10, h11, e12, e13, e14, e15, e16, e17, hW, hI, e20, e21, h22, h23, h24⟩ := h
  have hC := hW.1
  have hR := hW.2.1.1
  have hU := hW.2.1.2.1
  have hF : iU m (ya 4) (tT m (ya 5)) (nz (xa 15)) := by rw [hR.1]; exact hU
  obtain ⟨r, q1, q2⟩ := hub_sim (z1 := z 1) (z2 := z 2) hC h24 hR hU
  have X : F_X9_hub (xi 4) (xa 8) (xa 9) (xa 15) (z 1) (z 2) = some r := by rw [e6, e8]; exact q1
  have Y : F_X10_hub (yi 5) (ya 4) (ya 5) (ya 8) (z 1) (z 2) = some r := by rw [e7]; exact q2
  exact ⟨_, _, pBi X, pBi Y, iv_mk m t nx p tt te l s e1 e2 h3 e4 h5 e6 e7 e8 e9 e10 h11 e12 e13 e14 e15 e16 e17 hW hI e20 e21 (by omega) (by omega) h24, fun _ => rfl⟩
theorem st_9 {cmp : Bool} : q_st cmp SX_9 SY_9 iv_I := by
  intro x y z j hj h
  obtain ⟨xa, xi, xl⟩ := x
  obtain ⟨ya, yi, yl⟩ := y
  have h : iv_H xa xi xl ya yi yl j := h
  obtain ⟨m, t, nx, p, tt, te, l, s, e1, e2, h3, e4, h5, e6, e7, e8, e9, e10, h11, e12, e13, e14, e15, e16, e17, hW, hI, e20, e21, h22, h23, h24⟩ := h
  have hC := hW.1
  have hR := hW.2.1.1
  have hU := hW.2.1.2.1
  have hF : iU m (ya 4) (tT m (ya 5)) (nz (xa 15)) := by rw [hR.1]; exact hU
  obtain ⟨r, q1, q2⟩ := octet_sim (z1 := z 1) (z2 := z 2) hC hR
  have X : F_X9_octet (xi 4) (xa 8) (xa 9) (xa 15) (z 1) (z 2) = some r := by rw [e6, e8]; exact q1
  have Y : F_X10_octet (yi 5) (ya 5) (ya 8) (z 1) (z 2) = some r := by rw [e7]; exact q2
  exact ⟨_, _, pBi X, pBi Y, iv_mk m t nx p tt te l s e1 e2 h3 e4 h5 e6 e7 e8 e9 e10 h11 e12 e13 e14 e15 e16 e17 hW hI e20 e21 (by omega) (by omega) h24, fun _ => rfl⟩
theorem st_10 {cmp : Bool} : q_st cmp SX_10 SY_10 iv_I := by
  intro x y z j hj h
  obtain ⟨xa, xi, xl⟩ := x
  obtain ⟨ya, yi, yl⟩ := y
  have h : iv_H xa xi xl ya yi yl j := h
  obtain ⟨m, t, nx, p, tt, te, l, s, e1, e2, h3, e4, h5, e6, e7, e8, e9, e10, h11, e12, e13, e14, e15, e16, e17, hW, hI, e20, e21, h22, h23, h24⟩ := h
  have hC := hW.1
  have hR := hW.2.1.1
  have hU := hW.2.1.2.1
  have hF : iU m (ya 4) (tT m (ya 5)) (nz (xa 15)) := by rw [hR.1]; exact hU
  obtain ⟨r, q1, q2⟩ := at_sim (z1 := z 1) hC hR hU
  have X : F_X9_at (xi 4) (xa 8) (xa 9) (xa 15) (z 1) = some r := by rw [e6, e8]; exact q1
  have Y : F_X10_at (yi 5) (ya 8) (z 1) = some r := by rw [e7]; exact q2
  exact ⟨_, _, pBi X, pBi Y, iv_mk m t nx p tt te l s e1 e2 h3 e4 h5 e6 e7 e8 e9 e10 h11 e12 e13 e14 e15 e16 e17 hW hI e20 e21 (by omega) (by omega) h24, fun _ => rfl⟩
theorem st_11 {cmp : Bool} : q_st cmp SX_11 SY_11 iv_I := by
  intro x y z j hj h
  obtain ⟨xa, xi, xl⟩ := x
  obtain ⟨ya, yi, yl⟩ := y
  have h : iv_H xa xi xl ya yi yl j := h
  obtain ⟨m, t, nx, p, tt, te, l, s, e1, e2, h3, e4, h5, e6, e7, e8, e9, e10, h11, e12, e13, e14, e15, e16, e17, hW, hI, e20, e21, h22, h23, h24⟩ := h
  have hC := hW.1
  have hR := hW.2.1.1
  have hU := hW.2.1.2.1
  have hF : iU m (ya 4) (tT m (ya 5)) (nz (xa 15)) := by rw [hR.1]; exact hU
  obtain ⟨r, q1, q2⟩ := helper_sim (z1 := z 1) hC hR hU
  have X : F_X9_helper (xi 4) (xa 8) (xa 9) (xa 15) (z 1) = some r := by rw [e6, e8]; exact q1
  have Y : F_X10_helper (yi 5) (ya 8) (z 1) = some r := by rw [e7]; exact q2
  exact ⟨_, _, pBi X, pBi Y, iv_mk m t nx p tt te l s e1 e2 h3 e4 h5 e6 e7 e8 e9 e10 h11 e12 e13 e14 e15 e16 e17 hW hI e20 e21 (by omega) (by omega) h24, fun _ => rfl⟩
theorem st_12 {cmp : Bool} : q_st cmp SX_12 SY_12 iv_I := by
  intro x y z j hj h
  obtain ⟨xa, xi, xl⟩ := x
  obtain ⟨ya, yi, yl⟩ := y
  have h : iv_H xa xi xl ya yi yl j := h
  obtain ⟨m, t, nx, p, tt, te, l, s, e1, e2, h3, e4, h5, e6, e7, e8, e9, e10, h11, e12, e13, e14, e15, e16, e17, hW, hI, e20, e21, h22, h23, h24⟩ := h
  have hC := hW.1
  have hR := hW.2.1.1
  have hU := hW.2.1.2.1
  have hF : iU m (ya 4) (tT m (ya 5)) (nz (xa 15)) := by rw [hR.1]; exact hU
  obtain ⟨r, fr', fq', nx', p', fd', tt', nw', kp', fz', q1, q2, q3, q4⟩ := plug_act (fz := ya 9) (z1 := z 1) (z2 := z 2) (z3 := z 3) hW (by omega)
  have X : F_X9_plug (xi 4) (xi 7) (xi 8) (xi 9) (xa 8) (xa 9) (xa 15) (xa 20) (xa 22) (xa 28) (z 1) (z 2) (z 3) = some (r, nI nx', nI p', nI tt', fr', fq', fd', fz') := by rw [e6, e12, e13, e15, e8, e20]; exact q1
  have Y : F_X10_plug (yi 5) (yi 7) (ya 4) (ya 5) (ya 8) (ya 9) (ya 10) (z 1) (z 2) (z 3) = some (r, nI p', nw', fz', kp') := by rw [e7, e14]; exact q2
  exact ⟨_, _, pBi X, pBi Y, iv_mk m t nx' p' tt' te l s e1 e2 h3 e4 h5 e6 e7 e8 e9 e10 h11 rfl rfl rfl rfl e16 e17 q3 hI rfl e21 (by omega) (by omega) h24, fun _ => rfl⟩
theorem st_13 {cmp : Bool} : q_st cmp SX_13 SY_13 iv_I := by
  intro x y z j hj h
  obtain ⟨xa, xi, xl⟩ := x
  obtain ⟨ya, yi, yl⟩ := y
  have h : iv_H xa xi xl ya yi yl j := h
  obtain ⟨m, t, nx, p, tt, te, l, s, e1, e2, h3, e4, h5, e6, e7, e8, e9, e10, h11, e12, e13, e14, e15, e16, e17, hW, hI, e20, e21, h22, h23, h24⟩ := h
  have hC := hW.1
  have hR := hW.2.1.1
  have hU := hW.2.1.2.1
  have hF : iU m (ya 4) (tT m (ya 5)) (nz (xa 15)) := by rw [hR.1]; exact hU
  obtain ⟨r, fr', fq', nx', p', fd', tt', nw', kp', fz', q1, q2, q3, q4⟩ := unplug_act (fz := ya 9) (z1 := z 1) hW (by omega)
  have X : F_X9_unplug (xi 4) (xi 7) (xi 8) (xi 9) (xa 8) (xa 9) (xa 15) (xa 20) (xa 22) (xa 28) (z 1) = some (r, nI nx', nI p', nI tt', fr', fq', fd', fz') := by rw [e6, e12, e13, e15, e8, e20]; exact q1
  have Y : F_X10_unplug (yi 5) (yi 7) (ya 4) (ya 5) (ya 8) (ya 9) (ya 10) (z 1) = some (r, nI p', nw', fz', kp') := by rw [e7, e14]; exact q2
  exact ⟨_, _, pBi X, pBi Y, iv_mk m t nx' p' tt' te l s e1 e2 h3 e4 h5 e6 e7 e8 e9 e10 h11 rfl rfl rfl rfl e16 e17 q3 hI rfl e21 (by omega) (by omega) h24, fun _ => rfl⟩
theorem st_14 {cmp : Bool} : q_st cmp SX_14 SY_14 iv_I := by
  intro x y z j hj h
  obtain ⟨xa, xi, xl⟩ := x
  obtain ⟨ya, yi, yl⟩ := y
  have h : iv_H xa xi xl ya yi yl j := h
  obtain ⟨m, t, nx, p, tt, te, l, s, e1, e2, h3, e4, h5, e6, e7, e8, e9, e10, h11, e12, e13, e14, e15, e16, e17, hW, hI, e20, e21, h22, h23, h24⟩ := h
  have hC := hW.1
  have hR := hW.2.1.1
  have hU := hW.2.1.2.1
  have hF : iU m (ya 4) (tT m (ya 5)) (nz (xa 15)) := by rw [hR.1]; exact hU
  obtain ⟨r, fr', fq', nx', p', fd', tt', nw', kp', fz', q1, q2, q3, q4⟩ := tick_act (fz := ya 9) (z1 := z 1) hW (by omega)
  have X : F_X9_tick (xi 4) (xi 7) (xi 8) (xi 9) (xa 8) (xa 9) (xa 15) (xa 20) (xa 22) (xa 28) (z 1) = some (r, nI nx', nI p', nI tt', fr', fq', fd', fz') := by rw [e6, e12, e13, e15, e8, e20]; exact q1
  have Y : F_X10_tick (yi 5) (yi 7) (ya 4) (ya 5) (ya 8) (ya 9) (ya 10) (z 1) = some (r, nI p', nw', fz', kp') := by rw [e7, e14]; exact q2
  exact ⟨_, _, pBi X, pBi Y, iv_mk m t nx' p' tt' te l s e1 e2 h3 e4 h5 e6 e7 e8 e9 e10 h11 rfl rfl rfl rfl e16 e17 q3 hI rfl e21 (by omega) (by omega) h24, fun _ => rfl⟩
theorem st_15 {cmp : Bool} : q_st cmp SX_15 SY_15 iv_I := by
  intro x y z j hj h
  obtain ⟨xa, xi, xl⟩ := x
  obtain ⟨ya, yi, yl⟩ := y
  have h : iv_H xa xi xl ya yi yl j := h
  obtain ⟨m, t, nx, p, tt, te, l, s, e1, e2, h3, e4, h5, e6, e7, e8, e9, e10, h11, e12, e13, e14, e15, e16, e17, hW, hI, e20, e21, h22, h23, h24⟩ := h
  have hC := hW.1
  have hR := hW.2.1.1
  have hU := hW.2.1.2.1
  have hF : iU m (ya 4) (tT m (ya 5)) (nz (xa 15)) := by rw [hR.1]; exact hU
  obtain ⟨r, fr', fq', nx', p', fd', tt', nw', kp', fz', q1, q2, q3, q4⟩ := supply_act (fz := ya 9) (z1 := z 1) hW (by omega)
  have X : F_X9_supply (xi 4) (xi 7) (xi 8) (xi 9) (xa 8) (xa 9) (xa 15) (xa 20) (xa 22) (xa 28) (z 1) = some (r, nI nx', nI p', nI tt', fr', fq', fd', fz') := by rw [e6, e12, e13, e15, e8, e20]; exact q1
  have Y : F_X10_supply (yi 5) (yi 7) (ya 4) (ya 5) (ya 8) (ya 9) (ya 10) (z 1) = some (r, nI p', nw', fz', kp') := by rw [e7, e14]; exact q2
  exact ⟨_, _, pBi X, pBi Y, iv_mk m t nx' p' tt' te l s e1 e2 h3 e4 h5 e6 e7 e8 e9 e10 h11 rfl rfl rfl rfl e16 e17 q3 hI rfl e21 (by omega) (by omega) h24, fun _ => rfl⟩
theorem st_16 {cmp : Bool} : q_st cmp SX_16 SY_16 iv_I := by
  intro x y z j hj h
  obtain ⟨xa, xi, xl⟩ := x
  obtain ⟨ya, yi, yl⟩ := y
  have h : iv_H xa xi xl ya yi yl j := h
  obtain ⟨m, t, nx, p, tt, te, l, s, e1, e2, h3, e4, h5, e6, e7, e8, e9, e10, h11, e12, e13, e14, e15, e16, e17, hW, hI, e20, e21, h22, h23, h24⟩ := h
  have hC := hW.1
  have hR := hW.2.1.1
  have hU := hW.2.1.2.1
  have hF : iU m (ya 4) (tT m (ya 5)) (nz (xa 15)) := by rw [hR.1]; exact hU
  obtain ⟨r, fr', fq', nx', p', fd', tt', nw', kp', fz', q1, q2, q3, q4⟩ := error_act (fz := ya 9) (z1 := z 1) (z2 := z 2) hW (by omega)
  have X : F_X9_error (xi 4) (xi 7) (xi 8) (xi 9) (xa 8) (xa 9) (xa 15) (xa 20) (xa 22) (xa 28) (z 1) (z 2) = some (r, nI nx', nI p', nI tt', fr', fq', fd', fz') := by rw [e6, e12, e13, e15, e8, e20]; exact q1
  have Y : F_X10_error (yi 5) (yi 7) (ya 4) (ya 5) (ya 8) (ya 9) (ya 10) (z 1) (z 2) = some (r, nI p', nw', fz', kp') := by rw [e7, e14]; exact q2
  exact ⟨_, _, pBi X, pBi Y, iv_mk m t nx' p' tt' te l s e1 e2 h3 e4 h5 e6 e7 e8 e9 e10 h11 rfl rfl rfl rfl e16 e17 q3 hI rfl e21 (by omega) (by omega) h24, fun _ => rfl⟩
theorem st_17 {cmp : Bool} : q_st cmp SX_17 SY_17 iv_I := by
  intro x y z j hj h
  obtain ⟨xa, xi, xl⟩ := x
  obtain ⟨ya, yi, yl⟩ := y
  have h : iv_H xa xi xl ya yi yl j := h
  obtain ⟨m, t, nx, p, tt, te, l, s, e1, e2, h3, e4, h5, e6, e7, e8, e9, e10, h11, e12, e13, e14, e15, e16, e17, hW, hI, e20, e21, h22, h23, h24⟩ := h
  have hC := hW.1
  have hR := hW.2.1.1
  have hU := hW.2.1.2.1
  have hF : iU m (ya 4) (tT m (ya 5)) (nz (xa 15)) := by rw [hR.1]; exact hU
  obtain ⟨r, fr', fq', nx', p', fd', tt', nw', kp', fz', q1, q2, q3, q4⟩ := again_act (fz := ya 9) (z1 := z 1) hW (by omega)
  have X : F_X9_again (xi 4) (xi 7) (xi 8) (xi 9) (xa 8) (xa 9) (xa 15) (xa 20) (xa 22) (xa 28) (z 1) = some (r, nI nx', nI p', nI tt', fr', fq', fd', fz') := by rw [e6, e12, e13, e15, e8, e20]; exact q1
  have Y : F_X10_again (yi 5) (yi 7) (ya 4) (ya 5) (ya 8) (ya 9) (ya 10) (z 1) = some (r, nI p', nw', fz', kp') := by rw [e7, e14]; exact q2
  exact ⟨_, _, pBi X, pBi Y, iv_mk m t nx' p' tt' te l s e1 e2 h3 e4 h5 e6 e7 e8 e9 e10 h11 rfl rfl rfl rfl e16 e17 q3 hI rfl e21 (by omega) (by omega) h24, fun _ => rfl⟩
theorem st_18 {cmp : Bool} : q_st cmp SX_18 SY_18 iv_I := by
  intro x y z j hj h
  obtain ⟨xa, xi, xl⟩ := x
  obtain ⟨ya, yi, yl⟩ := y
  have h : iv_H xa xi xl ya yi yl j := h
  obtain ⟨m, t, nx, p, tt, te, l, s, e1, e2, h3, e4, h5, e6, e7, e8, e9, e10, h11, e12, e13, e14, e15, e16, e17, hW, hI, e20, e21, h22, h23, h24⟩ := h
  have hC := hW.1
  have hR := hW.2.1.1
  have hU := hW.2.1.2.1
  have hF : iU m (ya 4) (tT m (ya 5)) (nz (xa 15)) := by rw [hR.1]; exact hU
  obtain ⟨r, fr', fq', nx', p', fd', tt', nw', kp', fz', q1, q2, q3, q4⟩ := sleep_act (fz := ya 9) (z1 := z 1) hW (by omega)
  have X : F_X9_sleep (xi 4) (xi 7) (xi 8) (xi 9) (xa 8) (xa 9) (xa 15) (xa 20) (xa 22) (xa 28) (z 1) = some (r, nI nx', nI p', nI tt', fr', fq', fd', fz') := by rw [e6, e12, e13, e15, e8, e20]; exact q1
  have Y : F_X10_sleep (yi 5) (yi 7) (ya 4) (ya 5) (ya 8) (ya 9) (ya 10) (z 1) = some (r, nI p', nw', fz', kp') := by rw [e7, e14]; exact q2
  exact ⟨_, _, pBi X, pBi Y, iv_mk m t nx' p' tt' te l s e1 e2 h3 e4 h5 e6 e7 e8 e9 e10 h11 rfl rfl rfl rfl e16 e17 q3 hI rfl e21 (by omega) (by omega) h24, fun _ => rfl⟩
theorem st_19 {cmp : Bool} : q_st cmp SX_19 SY_19 iv_I := by
  intro x y z j hj h
  obtain ⟨xa, xi, xl⟩ := x
  obtain ⟨ya, yi, yl⟩ := y
  have h : iv_H xa xi xl ya yi yl j := h
  obtain ⟨m, t, nx, p, tt, te, l, s, e1, e2, h3, e4, h5, e6, e7, e8, e9, e10, h11, e12, e13, e14, e15, e16, e17, hW, hI, e20, e21, h22, h23, h24⟩ := h
  have hC := hW.1
  have hR := hW.2.1.1
  have hU := hW.2.1.2.1
  have hF : iU m (ya 4) (tT m (ya 5)) (nz (xa 15)) := by rw [hR.1]; exact hU
  obtain ⟨r, fr', fq', nx', p', fd', tt', nw', kp', xx', q1, q2, q3, q4⟩ := years_sim (xx := yl) (z1 := z 1) (z2 := ((((((z 2) : Int32).toInt64) <<< ((32 : Int32).toInt64 &&& 63))) ||| ((((z 3) : Int32).toInt64) &&& (4294967295)))) hW (by omega)
  have X : F_X9_years (xi 4) (xi 7) (xi 8) (xi 9) (xl) (xa 8) (xa 9) (xa 15) (xa 20) (xa 22) (z 1) ((((((z 2) : Int32).toInt64) <<< ((32 : Int32).toInt64 &&& 63))) ||| ((((z 3) : Int32).toInt64) &&& (4294967295))) = some (r, nI nx', nI p', nI tt', xx', fr', fq', fd') := by rw [e6, e12, e13, e15, e8, e21]; exact q1
  have Y : F_X10_years (yi 5) (yi 7) (yl) (ya 4) (ya 5) (ya 8) (ya 10) (z 1) ((((((z 2) : Int32).toInt64) <<< ((32 : Int32).toInt64 &&& 63))) ||| ((((z 3) : Int32).toInt64) &&& (4294967295))) = some (r, nI p', xx', nw', kp') := by rw [e7, e14]; exact q2
  exact ⟨_, _, pBi X, pBi Y, iv_mk m t nx' p' tt' te l s e1 e2 h3 e4 h5 e6 e7 e8 e9 e10 h11 rfl rfl rfl rfl e16 e17 q3 hI e20 rfl (by omega) (by omega) h24, fun _ => rfl⟩
theorem st_20 {cmp : Bool} : q_st cmp SX_20 SY_20 iv_I := by
  intro x y z j hj h
  obtain ⟨xa, xi, xl⟩ := x
  obtain ⟨ya, yi, yl⟩ := y
  have h : iv_H xa xi xl ya yi yl j := h
  obtain ⟨m, t, nx, p, tt, te, l, s, e1, e2, h3, e4, h5, e6, e7, e8, e9, e10, h11, e12, e13, e14, e15, e16, e17, hW, hI, e20, e21, h22, h23, h24⟩ := h
  have hC := hW.1
  have hR := hW.2.1.1
  have hU := hW.2.1.2.1
  have hF : iU m (ya 4) (tT m (ya 5)) (nz (xa 15)) := by rw [hR.1]; exact hU
  obtain ⟨r, q1, q2⟩ := status_sim (fz := ya 9) (z1 := z 1)
  have X : F_X9_status (xa 28) (z 1) = some r := by rw [e20]; exact q1
  have Y : F_X10_status (ya 9) (z 1) = some r := by exact q2
  exact ⟨_, _, pBi X, pBi Y, iv_mk m t nx p tt te l s e1 e2 h3 e4 h5 e6 e7 e8 e9 e10 h11 e12 e13 e14 e15 e16 e17 hW hI e20 e21 (by omega) (by omega) h24, fun _ => rfl⟩
theorem st_21 {cmp : Bool} : q_st cmp SX_21 SY_21 iv_I := by
  intro x y z j hj h
  obtain ⟨xa, xi, xl⟩ := x
  obtain ⟨ya, yi, yl⟩ := y
  have h : iv_H xa xi xl ya yi yl j := h
  obtain ⟨m, t, nx, p, tt, te, l, s, e1, e2, h3, e4, h5, e6, e7, e8, e9, e10, h11, e12, e13, e14, e15, e16, e17, hW, hI, e20, e21, h22, h23, h24⟩ := h
  have hC := hW.1
  have hR := hW.2.1.1
  have hU := hW.2.1.2.1
  have hF : iU m (ya 4) (tT m (ya 5)) (nz (xa 15)) := by rw [hR.1]; exact hU
  obtain ⟨r, fr', nx', p', tt', nw', q1, q2, q3, q4⟩ := undo_sim hW (by omega)
  have X : F_X9_undo (xi 7) (xi 8) (xi 9) (xa 15) (xa 20) = some (r, nI nx', nI p', nI tt', fr') := by rw [e12, e13, e15]; exact q1
  have Y : F_X10_undo (yi 7) (ya 8) (ya 10) = some (r, nI p', nw') := by rw [e14]; exact q2
  exact ⟨_, _, pBi X, pBi Y, iv_mk m t nx' p' tt' te l s e1 e2 h3 e4 h5 e6 e7 e8 e9 e10 h11 rfl rfl rfl rfl e16 e17 q3 hI e20 e21 (by omega) (by omega) h24, fun _ => rfl⟩
theorem st_22 {cmp : Bool} : q_st cmp SX_22 SY_22 iv_I := by
  intro x y z j hj h
  obtain ⟨xa, xi, xl⟩ := x
  obtain ⟨ya, yi, yl⟩ := y
  have h : iv_H xa xi xl ya yi yl j := h
  obtain ⟨m, t, nx, p, tt, te, l, s, e1, e2, h3, e4, h5, e6, e7, e8, e9, e10, h11, e12, e13, e14, e15, e16, e17, hW, hI, e20, e21, h22, h23, h24⟩ := h
  have hC := hW.1
  have hR := hW.2.1.1
  have hU := hW.2.1.2.1
  have hF : iU m (ya 4) (tT m (ya 5)) (nz (xa 15)) := by rw [hR.1]; exact hU
  obtain ⟨r, q1, q2⟩ := log_sim (z1 := z 1) (z2 := z 2) hW (by omega)
  have X : F_X9_log (xi 9) (xa 22) (z 1) (z 2) = some r := by rw [e15]; exact q1
  have Y : F_X10_log (ya 8) (z 1) (z 2) = some r := by exact q2
  exact ⟨_, _, pBi X, pBi Y, iv_mk m t nx p tt te l s e1 e2 h3 e4 h5 e6 e7 e8 e9 e10 h11 e12 e13 e14 e15 e16 e17 hW hI e20 e21 (by omega) (by omega) h24, fun _ => rfl⟩
theorem st_23 : q_st false SX_23 SY_23 iv_I := by
  intro x y z j hj h
  obtain ⟨xa, xi, xl⟩ := x
  obtain ⟨ya, yi, yl⟩ := y
  have h : iv_H xa xi xl ya yi yl j := h
  obtain ⟨m, t, nx, p, tt, te, l, s, e1, e2, h3, e4, h5, e6, e7, e8, e9, e10, h11, e12, e13, e14, e15, e16, e17, hW, hI, e20, e21, h22, h23, h24⟩ := h
  have hC := hW.1
  have hR := hW.2.1.1
  have hU := hW.2.1.2.1
  have hF : iU m (ya 4) (tT m (ya 5)) (nz (xa 15)) := by rw [hR.1]; exact hU
  obtain ⟨r, fa', q1⟩ := when_c (fa := xa 17) (z1 := z 1) hC hF
  obtain ⟨r2, as', q2⟩ := when_r (as_ := ya 11) (z1 := z 1) hC hU
  have X : F_X9_when (xi 4) (xa 8) (xa 9) (xa 15) (xa 17) (z 1) = some (r, fa') := by rw [e6, e8]; exact q1
  have Y : F_X10_when (yi 5) (ya 4) (ya 5) (ya 8) (ya 11) (z 1) = some (r2, ya 8, as') := by rw [e7]; exact q2
  exact ⟨_, _, pBi X, pBi Y, iv_mk m t nx p tt te l s e1 e2 h3 e4 h5 e6 e7 e8 e9 e10 h11 e12 e13 e14 e15 e16 e17 hW hI e20 e21 (by omega) (by omega) h24, fun q => absurd q (by decide)⟩
theorem st_24 : q_st false SX_24 SY_24 iv_I := by
  intro x y z j hj h
  obtain ⟨xa, xi, xl⟩ := x
  obtain ⟨ya, yi, yl⟩ := y
  have h : iv_H xa xi xl ya yi yl j := h
  obtain ⟨m, t, nx, p, tt, te, l, s, e1, e2, h3, e4, h5, e6, e7, e8, e9, e10, h11, e12, e13, e14, e15, e16, e17, hW, hI, e20, e21, h22, h23, h24⟩ := h
  have hC := hW.1
  have hR := hW.2.1.1
  have hU := hW.2.1.2.1
  have hF : iU m (ya 4) (tT m (ya 5)) (nz (xa 15)) := by rw [hR.1]; exact hU
  obtain ⟨r, fa', q1⟩ := ahead_c (fa := xa 17) (z1 := z 1) (z2 := z 2) hC hF
  obtain ⟨r2, as', q2⟩ := ahead_r (as_ := ya 11) (z1 := z 1) (z2 := z 2) hC hU
  have X : F_X9_ahead (xi 4) (xa 8) (xa 9) (xa 15) (xa 17) (z 1) (z 2) = some (r, fa') := by rw [e6, e8]; exact q1
  have Y : F_X10_ahead_ (yi 5) (ya 4) (ya 5) (ya 8) (ya 11) (z 1) (z 2) = some (r2, ya 8, as') := by rw [e7]; exact q2
  exact ⟨_, _, pBi X, pBi Y, iv_mk m t nx p tt te l s e1 e2 h3 e4 h5 e6 e7 e8 e9 e10 h11 e12 e13 e14 e15 e16 e17 hW hI e20 e21 (by omega) (by omega) h24, fun q => absurd q (by decide)⟩
theorem st_26 : q_st false SX_26 SY_26 iv_I := by
  intro x y z j hj h
  obtain ⟨xa, xi, xl⟩ := x
  obtain ⟨ya, yi, yl⟩ := y
  have h : iv_H xa xi xl ya yi yl j := h
  obtain ⟨m, t, nx, p, tt, te, l, s, e1, e2, h3, e4, h5, e6, e7, e8, e9, e10, h11, e12, e13, e14, e15, e16, e17, hW, hI, e20, e21, h22, h23, h24⟩ := h
  have hC := hW.1
  have hR := hW.2.1.1
  have hU := hW.2.1.2.1
  have hF : iU m (ya 4) (tT m (ya 5)) (nz (xa 15)) := by rw [hR.1]; exact hU
  obtain ⟨r, fa', q1⟩ := place_c (fa := xa 17) (z1 := z 1) hC hF
  obtain ⟨r2, as', q2⟩ := place_r (as_ := ya 11) (z1 := z 1) hC hU
  have X : F_X9_place (xi 4) (xa 8) (xa 9) (xa 15) (xa 17) (z 1) = some (r, fa') := by rw [e6, e8]; exact q1
  have Y : F_X10_place (yi 5) (ya 4) (ya 5) (ya 8) (ya 11) (z 1) = some (r2, ya 8, as') := by rw [e7]; exact q2
  exact ⟨_, _, pBi X, pBi Y, iv_mk m t nx p tt te l s e1 e2 h3 e4 h5 e6 e7 e8 e9 e10 h11 e12 e13 e14 e15 e16 e17 hW hI e20 e21 (by omega) (by omega) h24, fun q => absurd q (by decide)⟩
theorem st_28 : q_st false SX_28 SY_28 iv_I := by
  intro x y z j hj h
  obtain ⟨xa, xi, xl⟩ := x
  obtain ⟨ya, yi, yl⟩ := y
  have h : iv_H xa xi xl ya yi yl j := h
  obtain ⟨m, t, nx, p, tt, te, l, s, e1, e2, h3, e4, h5, e6, e7, e8, e9, e10, h11, e12, e13, e14, e15, e16, e17, hW, hI, e20, e21, h22, h23, h24⟩ := h
  have hC := hW.1
  have hR := hW.2.1.1
  have hU := hW.2.1.2.1
  have hF : iU m (ya 4) (tT m (ya 5)) (nz (xa 15)) := by rw [hR.1]; exact hU
  obtain ⟨r, fa', q1⟩ := lost_c (fa := xa 17) (z1 := z 1) hC hF
  obtain ⟨r2, as', q2⟩ := lost_r (as_ := ya 11) (z1 := z 1) hC hU
  have X : F_X9_lost (xi 4) (xa 8) (xa 9) (xa 15) (xa 17) (z 1) = some (r, fa') := by rw [e6, e8]; exact q1
  have Y : F_X10_lost (yi 5) (ya 4) (ya 5) (ya 8) (ya 11) (z 1) = some (r2, ya 8, as') := by rw [e7]; exact q2
  exact ⟨_, _, pBi X, pBi Y, iv_mk m t nx p tt te l s e1 e2 h3 e4 h5 e6 e7 e8 e9 e10 h11 e12 e13 e14 e15 e16 e17 hW hI e20 e21 (by omega) (by omega) h24, fun q => absurd q (by decide)⟩
theorem st_25 : q_st false SX_25 SY_25 iv_I := by
  intro x y z j hj h
  obtain ⟨xa, xi, xl⟩ := x
  obtain ⟨ya, yi, yl⟩ := y
  have h : iv_H xa xi xl ya yi yl j := h
  obtain ⟨m, t, nx, p, tt, te, l, s, e1, e2, h3, e4, h5, e6, e7, e8, e9, e10, h11, e12, e13, e14, e15, e16, e17, hW, hI, e20, e21, h22, h23, h24⟩ := h
  have hC := hW.1
  have hR := hW.2.1.1
  have hU := hW.2.1.2.1
  have hF : iU m (ya 4) (tT m (ya 5)) (nz (xa 15)) := by rw [hR.1]; exact hU
  obtain ⟨r, fa', q1⟩ := last_c (fa := xa 17) hC hF
  obtain ⟨r2, as', bf', q2⟩ := last_r (as_ := ya 11) (bf := ya 12) hC hU
  have X : F_X9_last (xi 4) (xa 8) (xa 9) (xa 15) (xa 17) = some (r, fa') := by rw [e6, e8]; exact q1
  have Y : F_X10_last (yi 5) (ya 4) (ya 5) (ya 8) (ya 11) (ya 12) = some (r2, ya 8, as', bf') := by rw [e7]; exact q2
  exact ⟨_, _, pBi X, pBi Y, iv_mk m t nx p tt te l s e1 e2 h3 e4 h5 e6 e7 e8 e9 e10 h11 e12 e13 e14 e15 e16 e17 hW hI e20 e21 (by omega) (by omega) h24, fun q => absurd q (by decide)⟩
theorem st_27 : q_st false SX_27 SY_27 iv_I := by
  intro x y z j hj h
  obtain ⟨xa, xi, xl⟩ := x
  obtain ⟨ya, yi, yl⟩ := y
  have h : iv_H xa xi xl ya yi yl j := h
  obtain ⟨m, t, nx, p, tt, te, l, s, e1, e2, h3, e4, h5, e6, e7, e8, e9, e10, h11, e12, e13, e14, e15, e16, e17, hW, hI, e20, e21, h22, h23, h24⟩ := h
  have hC := hW.1
  have hR := hW.2.1.1
  have hU := hW.2.1.2.1
  have hF : iU m (ya 4) (tT m (ya 5)) (nz (xa 15)) := by rw [hR.1]; exact hU
  obtain ⟨r, fa', q1⟩ := order_c (fa := xa 17) (z1 := z 1) hC hF
  obtain ⟨r2, as', od', q2⟩ := order_r (as_ := ya 11) (od := ya 13) (z1 := z 1) hC hU
  have X : F_X9_order (xi 4) (xa 8) (xa 9) (xa 15) (xa 17) (z 1) = some (r, fa') := by rw [e6, e8]; exact q1
  have Y : F_X10_order (yi 5) (ya 4) (ya 5) (ya 8) (ya 11) (ya 13) (z 1) = some (r2, ya 8, as', od') := by rw [e7]; exact q2
  exact ⟨_, _, pBi X, pBi Y, iv_mk m t nx p tt te l s e1 e2 h3 e4 h5 e6 e7 e8 e9 e10 h11 e12 e13 e14 e15 e16 e17 hW hI e20 e21 (by omega) (by omega) h24, fun q => absurd q (by decide)⟩
theorem st_29 {cmp : Bool} : q_st cmp SX_29 SY_29 iv_I := by
  intro x y z j hj h
  obtain ⟨xa, xi, xl⟩ := x
  obtain ⟨ya, yi, yl⟩ := y
  have h : iv_H xa xi xl ya yi yl j := h
  obtain ⟨m, t, nx, p, tt, te, l, s, e1, e2, h3, e4, h5, e6, e7, e8, e9, e10, h11, e12, e13, e14, e15, e16, e17, hW, hI, e20, e21, h22, h23, h24⟩ := h
  have hC := hW.1
  have hR := hW.2.1.1
  have hU := hW.2.1.2.1
  have hF : iU m (ya 4) (tT m (ya 5)) (nz (xa 15)) := by rw [hR.1]; exact hU
  obtain ⟨r, q1, q2⟩ := shares_sim (z1 := z 1) (z2 := z 2) hC hR
  have X : F_X9_shares (xi 4) (xa 8) (xa 9) (xa 15) (z 1) (z 2) = some r := by rw [e6, e8]; exact q1
  have Y : F_X10_shares (yi 5) (ya 5) (ya 8) (z 1) (z 2) = some r := by rw [e7]; exact q2
  exact ⟨_, _, pBi X, pBi Y, iv_mk m t nx p tt te l s e1 e2 h3 e4 h5 e6 e7 e8 e9 e10 h11 e12 e13 e14 e15 e16 e17 hW hI e20 e21 (by omega) (by omega) h24, fun _ => rfl⟩
theorem st_30 {cmp : Bool} : q_st cmp SX_30 SY_30 iv_I := by
  intro x y z j hj h
  obtain ⟨xa, xi, xl⟩ := x
  obtain ⟨ya, yi, yl⟩ := y
  have h : iv_H xa xi xl ya yi yl j := h
  obtain ⟨m, t, nx, p, tt, te, l, s, e1, e2, h3, e4, h5, e6, e7, e8, e9, e10, h11, e12, e13, e14, e15, e16, e17, hW, hI, e20, e21, h22, h23, h24⟩ := h
  have hC := hW.1
  have hR := hW.2.1.1
  have hU := hW.2.1.2.1
  have hF : iU m (ya 4) (tT m (ya 5)) (nz (xa 15)) := by rw [hR.1]; exact hU
  obtain ⟨r, q1, q2⟩ := step_sim (z1 := z 1) (z2 := z 2) (z3 := z 3) h11
  have X : F_X9_step (xi 6) (xa 11) (xa 12) (z 1) (z 2) (z 3) = some r := by rw [e9]; exact q1
  have Y : F_X10_step (yi 6) (ya 6) (ya 7) (z 1) (z 2) (z 3) = some r := by rw [e10]; exact q2
  exact ⟨_, _, pBi X, pBi Y, iv_mk m t nx p tt te l s e1 e2 h3 e4 h5 e6 e7 e8 e9 e10 h11 e12 e13 e14 e15 e16 e17 hW hI e20 e21 (by omega) (by omega) h24, fun _ => rfl⟩
theorem st_31 {cmp : Bool} : q_st cmp SX_31 SY_31 iv_I := by
  intro x y z j hj h
  obtain ⟨xa, xi, xl⟩ := x
  obtain ⟨ya, yi, yl⟩ := y
  have h : iv_H xa xi xl ya yi yl j := h
  obtain ⟨m, t, nx, p, tt, te, l, s, e1, e2, h3, e4, h5, e6, e7, e8, e9, e10, h11, e12, e13, e14, e15, e16, e17, hW, hI, e20, e21, h22, h23, h24⟩ := h
  have hC := hW.1
  have hR := hW.2.1.1
  have hU := hW.2.1.2.1
  have hF : iU m (ya 4) (tT m (ya 5)) (nz (xa 15)) := by rw [hR.1]; exact hU
  obtain ⟨r, fa', as', q1, q2⟩ := run_sim (fa := xa 17) (as_ := ya 11) (z1 := z 1) (z2 := z 2) hW h11
  have X : F_X9_run (xi 4) (xi 6) (xi 7) (xi 8) (xi 9) (xa 8) (xa 9) (xa 11) (xa 12) (xa 15) (xa 17) (xa 20) (xa 22) (z 1) (z 2) = some (r, nI nx, nI p, nI tt, fa', xa 20, xa 22) := by rw [e6, e9, e12, e13, e15, e8]; exact q1
  have Y : F_X10_run (yi 5) (yi 6) (yi 7) (ya 4) (ya 5) (ya 6) (ya 7) (ya 8) (ya 10) (ya 11) (z 1) (z 2) = some (r, nI p, ya 8, ya 10, as') := by rw [e7, e10, e14]; exact q2
  exact ⟨_, _, pBi X, pBi Y, iv_mk m t nx p tt te l s e1 e2 h3 e4 h5 e6 e7 e8 e9 e10 h11 rfl rfl rfl rfl e16 e17 hW hI e20 e21 (by omega) (by omega) h24, fun _ => rfl⟩
theorem st_32 {cmp : Bool} : q_st cmp SX_32 SY_32 iv_I := by
  intro x y z j hj h
  obtain ⟨xa, xi, xl⟩ := x
  obtain ⟨ya, yi, yl⟩ := y
  have h : iv_H xa xi xl ya yi yl j := h
  obtain ⟨m, t, nx, p, tt, te, l, s, e1, e2, h3, e4, h5, e6, e7, e8, e9, e10, h11, e12, e13, e14, e15, e16, e17, hW, hI, e20, e21, h22, h23, h24⟩ := h
  have hC := hW.1
  have hR := hW.2.1.1
  have hU := hW.2.1.2.1
  have hF : iU m (ya 4) (tT m (ya 5)) (nz (xa 15)) := by rw [hR.1]; exact hU
  obtain ⟨r, fr', fq', nx', p', fd', tt', nw', kp', q1, q2, q3, q4⟩ := perform_sim (z1 := z 1) hW (by omega) h11
  have X : F_X9_perform (xi 4) (xi 6) (xi 7) (xi 8) (xi 9) (xa 8) (xa 9) (xa 11) (xa 12) (xa 15) (xa 20) (xa 22) (z 1) = some (r, nI nx', nI p', nI tt', fr', fq', fd') := by rw [e6, e9, e12, e13, e15, e8]; exact q1
  have Y : F_X10_perform (yi 5) (yi 6) (yi 7) (ya 4) (ya 5) (ya 6) (ya 7) (ya 8) (ya 10) (z 1) = some (r, nI p', nw', kp') := by rw [e7, e10, e14]; exact q2
  exact ⟨_, _, pBi X, pBi Y, iv_mk m t nx' p' tt' te l s e1 e2 h3 e4 h5 e6 e7 e8 e9 e10 h11 rfl rfl rfl rfl e16 e17 q3 hI e20 e21 (by omega) (by omega) h24, fun _ => rfl⟩
theorem st_33 : q_st false SX_33 SY_33 iv_I := by
  intro x y z j hj h
  obtain ⟨xa, xi, xl⟩ := x
  obtain ⟨ya, yi, yl⟩ := y
  have h : iv_H xa xi xl ya yi yl j := h
  obtain ⟨m, t, nx, p, tt, te, l, s, e1, e2, h3, e4, h5, e6, e7, e8, e9, e10, h11, e12, e13, e14, e15, e16, e17, hW, hI, e20, e21, h22, h23, h24⟩ := h
  have hC := hW.1
  have hR := hW.2.1.1
  have hU := hW.2.1.2.1
  have hF : iU m (ya 4) (tT m (ya 5)) (nz (xa 15)) := by rw [hR.1]; exact hU
  have h96 : xa 15 96 = ya 8 96 := by obtain ⟨k, -, k1, k2⟩ := hW.2.1.2.2.1; rw [k1, k2]
  obtain ⟨r, r2, q1, q2, -⟩ := all_sim (z1 := z 1) hC hR hU h96
  have X : F_X9_all (xi 4) (xa 8) (xa 9) (xa 15) (z 1) = some r := by rw [e6, e8]; exact q1
  have Y : F_X10_all (yi 5) (ya 4) (ya 5) (ya 8) (z 1) = some (r2, ya 8) := by rw [e7]; exact q2
  exact ⟨_, _, pBi X, pBi Y, iv_mk m t nx p tt te l s e1 e2 h3 e4 h5 e6 e7 e8 e9 e10 h11 e12 e13 e14 e15 e16 e17 hW hI e20 e21 (by omega) (by omega) h24, fun q => absurd q (by decide)⟩
theorem st_34 {cmp : Bool} : q_st cmp SX_34 SY_34 iv_I := by
  intro x y z j hj h
  obtain ⟨xa, xi, xl⟩ := x
  obtain ⟨ya, yi, yl⟩ := y
  have h : iv_H xa xi xl ya yi yl j := h
  obtain ⟨m, t, nx, p, tt, te, l, s, e1, e2, h3, e4, h5, e6, e7, e8, e9, e10, h11, e12, e13, e14, e15, e16, e17, hW, hI, e20, e21, h22, h23, h24⟩ := h
  have hC := hW.1
  have hR := hW.2.1.1
  have hU := hW.2.1.2.1
  have hF : iU m (ya 4) (tT m (ya 5)) (nz (xa 15)) := by rw [hR.1]; exact hU
  obtain ⟨r, hi', fk', fe', te', im', q1, q2, q3, q4⟩ := image_sim hW hI
  have X : F_X9_image (xi 4) (xi 9) (xi 10) (xi 11) (xa 15) (xa 22) (xa 24) (xa 26) = some (r, nI te', hi', fk', fe') := by rw [e6, e15, e16, e17]; exact q1
  have Y : F_X10_image (yi 5) (yi 8) (ya 8) (ya 14) = some (r, hi', im') := by rw [e7]; exact q2
  exact ⟨_, _, pBi X, pBi Y, iv_mk m t nx p tt te' l s e1 e2 h3 e4 h5 e6 e7 e8 e9 e10 h11 e12 e13 e14 e15 rfl rfl hW q3 e20 e21 (by omega) (by omega) h24, fun _ => rfl⟩
theorem st_35 {cmp : Bool} : q_st cmp SX_35 SY_35 iv_I := by
  intro x y z j hj h
  obtain ⟨xa, xi, xl⟩ := x
  obtain ⟨ya, yi, yl⟩ := y
  have h : iv_H xa xi xl ya yi yl j := h
  obtain ⟨m, t, nx, p, tt, te, l, s, e1, e2, h3, e4, h5, e6, e7, e8, e9, e10, h11, e12, e13, e14, e15, e16, e17, hW, hI, e20, e21, h22, h23, h24⟩ := h
  have hC := hW.1
  have hR := hW.2.1.1
  have hU := hW.2.1.2.1
  have hF : iU m (ya 4) (tT m (ya 5)) (nz (xa 15)) := by rw [hR.1]; exact hU
  obtain ⟨r, p', fr', fd', tt', nw', q1, q2, q3, q4⟩ := back_sim hW hI
  have X : F_X9_back (xi 8) (xi 9) (xi 10) (xi 11) (xa 15) (xa 22) (xa 24) (xa 26) = some (r, nI p', nI tt', fr', fd') := by rw [e13, e15, e16, e17]; exact q1
  have Y : F_X10_back (yi 7) (yi 8) (ya 8) (ya 14) = some (r, nI p', nw') := by rw [e14]; exact q2
  exact ⟨_, _, pBi X, pBi Y, iv_mk m t nx p' tt' te l s e1 e2 h3 e4 h5 e6 e7 e8 e9 e10 h11 e12 rfl rfl rfl e16 e17 q3 hI e20 e21 (by omega) (by omega) h24, fun _ => rfl⟩
theorem st_36 {cmp : Bool} : q_st cmp SX_36 SY_36 iv_I := by
  intro x y z j hj h
  obtain ⟨xa, xi, xl⟩ := x
  obtain ⟨ya, yi, yl⟩ := y
  have h : iv_H xa xi xl ya yi yl j := h
  obtain ⟨m, t, nx, p, tt, te, l, s, e1, e2, h3, e4, h5, e6, e7, e8, e9, e10, h11, e12, e13, e14, e15, e16, e17, hW, hI, e20, e21, h22, h23, h24⟩ := h
  have hC := hW.1
  have hR := hW.2.1.1
  have hU := hW.2.1.2.1
  have hF : iU m (ya 4) (tT m (ya 5)) (nz (xa 15)) := by rw [hR.1]; exact hU
  obtain ⟨r, q1, q2⟩ := count_sim (s := s) (tl := nI l) (z1 := z 1) hW (by omega)
  have X : F_X9_count (xi 0) (xi 4) (xi 6) (xi 8) (xi 9) (z 1) = some r := by rw [e1, e6, e9, e13, e15]; exact q1
  have Y : F_X10_count (yi 1) (yi 5) (yi 6) (yi 7) (ya 8) (z 1) = some r := by rw [e2, e7, e10, e14]; exact q2
  exact ⟨_, _, pBi X, pBi Y, iv_mk m t nx p tt te l s e1 e2 h3 e4 h5 e6 e7 e8 e9 e10 h11 e12 e13 e14 e15 e16 e17 hW hI e20 e21 (by omega) (by omega) h24, fun _ => rfl⟩
end
