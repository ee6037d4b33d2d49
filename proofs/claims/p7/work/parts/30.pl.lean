/-! judging -/
def wRu (R : Nat → Int32) (t : Nat) : Prop := t ≤ 9 ∧ R 7 = nI t ∧ 0 < R 1 ∧ 0 < R 2 ∧ ∃ p, p ≤ 4 ∧ 0 < p ∧ R 0 = nI p
def wSp (m : Nat) (T : Nat → Nat → Int32) (N : Nat → Int32) : Prop := ∀ d, d < m → N d = 6 → ∀ c, c ≤ 8 → N (32 + d) = nI c → N (48 + d) = zSp T N c d
theorem cl_avoid {m : Nat} {N N' : Nat → Int32} {d : Nat} (hm : m ≤ 8) (hC : wC m N) (h4 : ∀ h, h < 8 → N' (32 + h) = N (32 + h)) (h6 : ∀ h, h < 8 → h ≠ d → N' (48 + h) = N (48 + h)) (hd : N d ≠ 6) : ∀ (k c : Nat), (c = 8 ∨ (c < m ∧ N c = 6)) → zCl N' (fun h => decide (N' (48 + h.toNatClampNeg) = 2)) k (nI c) = zCl N (fun h => decide (N (48 + h.toNatClampNeg) = 2)) k (nI c)
  | 0, _, _ => rfl
  | k + 1, c, hc => by
    rcases hc with rfl | ⟨h1, h2⟩
    · rw [zCl_8, zCl_8]
    · have hcd : c ≠ d := fun q => by subst q; exact hd h2
      rw [zCl_s (by omega), zCl_s (by omega), pCl (by omega), h6 c (by omega) hcd, h4 c (by omega)]
      split
      · rfl
      · rcases hC c h1 (Or.inr (Or.inr (Or.inr h2))) with h3 | ⟨b, hb, h3, h5⟩
        · rw [h3]; exact cl_avoid hm hC h4 h6 hd k 8 (Or.inl rfl)
        · rw [h3]; exact cl_avoid hm hC h4 h6 hd k b (Or.inr ⟨hb, h5⟩)
theorem abv_avoid {m : Nat} {N N' : Nat → Int32} {d e : Nat} (hm : m ≤ 8) (hC : wC m N) (h4 : ∀ h, h < 8 → N' (32 + h) = N (32 + h)) (h6 : ∀ h, h < 8 → h ≠ d → N' (48 + h) = N (48 + h)) (hd : N d ≠ 6) (he : e < m) (hs : runs36 (N e)) : zAbv N' e = zAbv N e := by
  unfold zAbv
  rw [h4 e (by omega)]
  rcases hC e he hs with h3 | ⟨b, hb, h3, h5⟩
  · rw [h3]; exact cl_avoid hm hC h4 h6 hd 8 8 (Or.inl rfl)
  · rw [h3]; exact cl_avoid hm hC h4 h6 hd 8 b (Or.inr ⟨hb, h5⟩)
theorem zSp_3 {m : Nat} {T : Nat → Nat → Int32} {N : Nat → Int32} {c d : Nat} (hT : wT m T) (hd : d < m) : zSp T N c d = 0 ∨ zSp T N c d = 1 ∨ zSp T N c d = 2 := by
  obtain ⟨-, ⟨s, hs, e⟩, -⟩ := hT d hd
  unfold zSp
  rw [e]
  have h : ∀ s : Fin 3, (nI s.1 = 0 ∨ nI s.1 = 1 ∨ nI s.1 = 2) ∧ ((if nI s.1 < 1 then nI s.1 else 1) = 0 ∨ (if nI s.1 < 1 then nI s.1 else 1) = 1 ∨ (if nI s.1 < 1 then nI s.1 else 1) = 2) := by decide
  split
  · exact (h ⟨s, by omega⟩).1
  · exact (h ⟨s, by omega⟩).2
/-- the hub of one that runs -/
theorem hub36 {m : Nat} {N : Nat → Int32} {d : Nat} (hm : m ≤ 8) (hC : wC m N) (hd : d < m) (hs : runs36 (N d)) : ∃ c, c ≤ 8 ∧ N (32 + d) = nI c ∧ (c = 8 ∨ (c < m ∧ N c = 6)) := by
  rcases hC d hd hs with h3 | ⟨b, hb, h3, h5⟩
  · exact ⟨8, by omega, h3, Or.inl rfl⟩
  · exact ⟨b, by omega, h3, Or.inr ⟨hb, h5⟩⟩
def zWhy (m t : Nat) (R : Nat → Int32) (T : Nat → Nat → Int32) (N : Nat → Int32) (d c : Nat) : Int32 := if zDepth N d ≤ 4 then (if zAddr m t N = -1 then 5 else if zPow m R T N c (zTakes T N d) (nI d) = true then (if zTimeC m R T N d (zSp T N c d) = true then 0 else 3) else 2) else 4
theorem cWhy {m t : Nat} {fr fu fp : Nat → Int32} {d c : Nat} (hm : m ≤ 8) (hR : wRu fu t) (hi : iN m (nz fr)) (hd : d < m) (h0 : nz fr d ≠ 0) (hc : c ≤ 8) (hh : nz fr (32 + d) = nI c) : F_X0_reasonAgainst fr (nI m) fu fp (nI d) = some (zWhy m t fu (tP m fp) (nz fr) d c) := by
  unfold F_X0_reasonAgainst zWhy
  have ht := hR.1
  have hcm := hi.hm hm hd h0 hc hh
  simp (disch := omega) only [cDepth, cAddr hm (by omega : t ≤ 200) hR.2.1 hi.ad, cTakes, cPow hm (by omega : d < m) hc hcm hh, cTime hm hi hd h0 hc hh, pBs, pb0]
  by_cases c1 : zDepth (nz fr) d ≤ 4 <;> by_cases c2 : zAddr m t (nz fr) = -1 <;> by_cases c3 : zPow m fu (tP m fp) (nz fr) c (zTakes (tP m fp) (nz fr) d) (nI d) = true <;> by_cases c4 : zTimeC m fu (tP m fp) (nz fr) d (zSp (tP m fp) (nz fr) c d) = true <;> simp [c1, c2, c3, c4]
theorem zTakes_9 {m : Nat} {T : Nat → Nat → Int32} {N : Nat → Int32} {d : Nat} (hT : wT m T) (hd : d < m) : ∃ u, u ≤ 9 ∧ zTakes T N d = nI u := by
  obtain ⟨-, -, ⟨u, hu, e⟩, -⟩ := hT d hd
  unfold zTakes zNeed
  split
  · exact ⟨0, by omega, rfl⟩
  · split
    · exact ⟨0, by omega, rfl⟩
    · exact ⟨u, hu, e⟩
theorem zLeft_out {m : Nat} {R : Nat → Int32} {T : Nat → Nat → Int32} {N : Nat → Int32} {h d : Nat} (hm : m ≤ 8) (hd : d < m) (hn : N d ≠ 6) : zLeft m R T N h (-1) = zLeft m R T N h (nI d) := by
  unfold zLeft
  apply pF_congr
  intro i a _ hi
  unfold zLf
  by_cases c : i = d
  · subst c; simp [hn]
  · simp (disch := omega) only [pNm, pEq, c]
/-- the reference's test of power is the program's -/
theorem pow_r {m : Nat} {R : Nat → Int32} {T : Nat → Nat → Int32} {N : Nat → Int32} {c : Nat} {u out : Int32} (hu : ∃ k, k ≤ 9 ∧ u = nI k) : (¬ zGv R N (nI c) < u ∧ u ≤ (if c = 8 ∨ N (72 + c) = 1 then 1000000 else zLeft m R T N c out)) ↔ zPow m R T N c u out = true := by
  obtain ⟨k, hk, rfl⟩ := hu
  unfold zPow
  by_cases c1 : c = 8 ∨ N (72 + c) = 1
  · rw [if_pos c1]
    have h1 : nI k ≤ 1000000 := (pLe (a := k) (b := 1000000) (by omega) (by decide)).mpr (by omega)
    have h2 : (decide (c = 8) || decide (N (72 + c) = 1)) = true := by simpa using c1
    rw [h2]
    simp [h1]
  · rw [if_neg c1]
    have h2 : (decide (c = 8) || decide (N (72 + c) = 1)) = false := by simpa using c1
    rw [h2]
    have h3 : nI k ≤ zLeft m R T N c out ↔ ¬ zLeft m R T N c out < nI k := by rw [q_le, q_lt]; omega
    rw [h3]
    simp
theorem rTimeJ {m : Nat} {ru td nw : Nat → Int32} {d : Nat} {sp : Int32} (hm : m ≤ 8) (hi : iN m (nz nw)) (hd : d < m) (h5 : nz nw d = 5) (hs3 : sp = 0 ∨ sp = 1 ∨ sp = 2) : F_X10_hasTime (nI m) ru td (upd (upd nw (48 + d) sp) d 6) (nI d) = some (pb (zTimeC m ru (tT m td) (nz nw) d sp)) := by
  have hO := hi.2.1 d hd
  have h6 := hO.2.2.2.2.2.1 (by rw [h5]; decide)
  have hC := hi.2.2
  have hqq := hi.q
  obtain ⟨⟨L, hL⟩, -⟩ := hi
  have en : nz (upd (upd nw (48 + d) sp) d 6) = upd (upd (nz nw) (48 + d) sp) d 6 := by rw [nzU (by omega), nzU (by omega)]
  have k32 : ∀ h, h < 8 → upd (upd (nz nw) (48 + d) sp) d 6 (32 + h) = nz nw (32 + h) := fun h hh => by simp only [upd]; grind
  have k48 : ∀ h, h < 8 → h ≠ d → upd (upd (nz nw) (48 + d) sp) d 6 (48 + h) = nz nw (48 + h) := fun h hh hn => by simp only [upd]; grind
  have k0 : ∀ h, h < 8 → h ≠ d → upd (upd (nz nw) (48 + d) sp) d 6 h = nz nw h := fun h hh hn => by simp only [upd]; grind
  have k88 : ∀ h, h < 8 → upd (upd (nz nw) (48 + d) sp) d 6 (88 + h) = nz nw (88 + h) := fun h hh => by simp only [upd]; grind
  have kd : upd (upd (nz nw) (48 + d) sp) d 6 d = 6 := pUs
  have kds : upd (upd (nz nw) (48 + d) sp) d 6 (48 + d) = sp := by simp only [upd]; grind
  have hL' : wL m (upd (upd (nz nw) (48 + d) sp) d 6) L := hL.keep (fun e he => by
    by_cases c : e = d
    · subst c; rw [kd, h5]; exact ⟨fun _ => by decide, fun _ => by decide⟩
    · rw [k0 e (by omega) c]) (fun e he => k32 e (by omega))
  have hq' : wQ m (upd (upd (nz nw) (48 + d) sp) d 6) := fun e he hr => by
    by_cases c : e = d
    · subst c; rw [kd]; decide
    · rw [k48 e (by omega) c] at hr
      rw [k0 e (by omega) c]
      exact hqq e he hr
  rw [rTime (nw := upd (upd nw (48 + d) sp) d 6) hm (by rw [en]; exact hL'.r hm) (by rw [en]; exact hq') hd, en]
  have hne : zAbv (nz nw) d ≠ -1 := by
    obtain ⟨b, hb, hab, -⟩ := zAbv_nI hm (hL.r hm) hd (by rw [h5]; decide)
    rw [hab, Ne, pNm (by omega)]; exact id
  have g1 : ∀ e, e < m → e ≠ d → zAwk (upd (upd (nz nw) (48 + d) sp) d 6) e = zAwk (nz nw) e := fun e he hn => by
    unfold zAwk; rw [k0 e (by omega) hn, k88 e (by omega)]
  have g2 : zAwk (upd (upd (nz nw) (48 + d) sp) d 6) d = true := by
    unfold zAwk; rw [kd, k88 d (by omega), h6.2.2]; decide
  have g3 : zAwk (nz nw) d = false := by unfold zAwk; rw [h5]; rfl
  have g4 : ∀ e, e < m → e ≠ d → zAwk (nz nw) e = true → zHlp (upd (upd (nz nw) (48 + d) sp) d 6) e = zHlp (nz nw) e ∧ upd (upd (nz nw) (48 + d) sp) d 6 (48 + e) = nz nw (48 + e) := fun e he hn hw => by
    have e6 := zAwk_6 hw
    refine ⟨?_, k48 e (by omega) hn⟩
    unfold zHlp
    rw [k48 e (by omega) hn, abv_avoid hm hC k32 k48 (by rw [h5]; decide) he (Or.inr (Or.inr (Or.inr e6)))]
  have g5 := abv_avoid hm hC k32 k48 (by rw [h5]; decide) hd (by rw [h5]; exact Or.inr (Or.inr (Or.inl rfl)))
  rw [time_eq (N := nz nw) hd g1 g2 g3 g4 kds hs3 g5 hne]
theorem rWhy {m t : Nat} {ru td nw : Nat → Int32} {d c : Nat} (hm : m ≤ 8) (hR : wRu ru t) (hT : wT m (tT m td)) (hi : iN m (nz nw)) (hd : d < m) (h5 : nz nw d = 5) (hc : c ≤ 8) (hh : nz nw (32 + d) = nI c) (hc6 : c = 8 ∨ (c < m ∧ nz nw c = 6)) : F_X10_whyRefused (nI m) ru td nw (nI d) = some (zWhy m t ru (tT m td) (nz nw) d c, nw) := by
  obtain ⟨r, hr⟩ := hi.r hm
  have ht := hR.1
  have hh' : nw (32 + d) = nI c := by rw [← hh, pNz (by omega)]
  have h5' : nw d = 5 := by rw [← h5, pNz (by omega)]
  have h6 := (hi.2.1 d hd).2.2.2.2.2.1 (by rw [h5]; decide)
  have h48 : nw (48 + d) = -1 := by rw [← h6.1, pNz (by omega)]
  have hub : c = 8 ∨ (c < m ∧ ∃ b, b ≤ 8 ∧ nz nw (32 + c) = nI b) := by
    rcases hc6 with q | ⟨q1, q2⟩
    · exact Or.inl q
    · exact Or.inr ⟨q1, hi.h hm c q1 (by rw [q2]; decide)⟩
  have back : ∀ sp, upd (upd (upd (upd nw (48 + d) sp) d 6) d 5) (48 + d) (-1) = nw := fun sp => by
    funext k; simp only [upd]; grind
  have hw := fun sp hs => rTimeJ (ru := ru) (td := td) (nw := nw) (sp := sp) hm hi hd h5 hs
  have hs3 := zSp_3 (N := nz nw) (c := c) hT hd
  have hp := pow_r (m := m) (R := ru) (T := tT m td) (N := nz nw) (c := c) (out := -1) (zTakes_9 (N := nz nw) hT hd)
  have hpo : zPow m ru (tT m td) (nz nw) c (zTakes (tT m td) (nz nw) d) (-1) = zPow m ru (tT m td) (nz nw) c (zTakes (tT m td) (nz nw) d) (nI d) := by
    unfold zPow; rw [zLeft_out hm hd (by rw [h5]; decide)]
  unfold F_X10_whyRefused zWhy
  simp (disch := omega) only [pIx, pCl, pLe, pLt, pEq, pNm, pS1, pA0, pA8, pA16, pA24, pA32, pA40, pA48, pA56, pA64, pA72, pA80, pA88, pBs, pE8, pb0, pb1, pbo, if_true, if_false, pIy, pbq, pNz, pIw, hh', rDepth hm hr hi.f hd, rAddr hm (by omega : t ≤ 200) hR.2.1, rTakes (m := m), rGives, rLeft hm hc hub, rSpeed, rTold1 (m := m)]
  by_cases c1 : zDepth (nz nw) d ≤ 4
  · rw [if_pos c1, if_pos c1]
    by_cases c2 : zAddr m t (nz nw) = -1
    · rw [if_pos c2, if_pos c2]
    · rw [if_neg c2, if_neg c2]
      have hp' : (¬ zGv ru (nz nw) (nI c) < zTakes (tT m td) (nz nw) d ∧ zTakes (tT m td) (nz nw) d ≤ (if c = 8 ∨ nw (72 + c) = 1 then 1000000 else zLeft m ru (tT m td) (nz nw) c (-1))) ↔ zPow m ru (tT m td) (nz nw) c (zTakes (tT m td) (nz nw) d) (nI d) = true := by
        rw [← hpo, ← hp, pNz (by omega)]
      by_cases c3 : zPow m ru (tT m td) (nz nw) c (zTakes (tT m td) (nz nw) d) (nI d) = true
      · obtain ⟨p1, p2⟩ := hp'.mpr c3
        rw [if_neg p1, if_pos p2, if_pos c3]
        by_cases cs : zSpd (nz nw) c = 2
        · have es : zSp (tT m td) (nz nw) c d = tT m td d 1 := if_pos cs
          rw [es] at hs3 ⊢
          rw [if_pos cs, hw _ hs3, pBs]
          simp only [pb0, back]
          by_cases c4 : zTimeC m ru (tT m td) (nz nw) d (tT m td d 1) = true <;> simp [c4]
        · have es : zSp (tT m td) (nz nw) c d = if tT m td d 1 < 1 then tT m td d 1 else 1 := if_neg cs
          rw [es] at hs3 ⊢
          rw [if_neg cs, hw _ hs3, pBs]
          simp only [pb0, back]
          by_cases c4 : zTimeC m ru (tT m td) (nz nw) d (if tT m td d 1 < 1 then tT m td d 1 else 1) = true <;> simp [c4]
      · rw [if_neg c3]
        by_cases p1 : zGv ru (nz nw) (nI c) < zTakes (tT m td) (nz nw) d
        · rw [if_pos p1]
        · rw [if_neg p1, if_neg (fun p2 => c3 (hp'.mp ⟨p1, p2⟩))]
  · rw [if_neg c1, if_neg c1]
