/-! an act, both sides -/
def ans (m : Nat) (z a : Int32) (fr f : Nat → Int32) (r : Int32) : Prop :=
  (z = 0 → r = zDepth (nz f) a.toNatClampNeg) ∧ (z = 1 → r = nI (pNum (fun e => decide (nz f e = 0)) m) - nI (pNum (fun e => decide (nz fr e = 0)) m)) ∧ (z = 2 → r = nI (pNum (fun e => decide (nz f e = 6)) m)) ∧ (z = 3 → r = nz f (72 + a.toNatClampNeg)) ∧ (z = 4 → r = nz fr (80 + a.toNatClampNeg)) ∧ (z = 5 → r = nz f (16 + a.toNatClampNeg)) ∧ (¬ (z = 0 ∨ z = 1 ∨ z = 2 ∨ z = 3 ∨ z = 4 ∨ z = 5) → r = nz f (88 + a.toNatClampNeg)) ∧ (z ≠ 2 → ∃ d, d < m ∧ a = nI d)
/-- how the program closes an act -/
def cEnd (m : Nat) (nx ph tt : Int32) (fq fd f : Nat → Int32) (z0 z a : Int32) : Option (Int32 × Int32 × Int32 × Int32 × (Nat → Int32) × (Nat → Int32) × (Nat → Int32)) := if z0 = 0 then some (-1, nx, ph, tt, f, fq, fd) else (F_X1_write fd tt z a (nI (pNum (fun d => decide (nz f d = 6)) m))).bind fun w => some (-1, nx, ph, w.2, f, fq, w.1)
theorem cEnd_e {m : Nat} {nx ph tt : Int32} {fu fp fq fd f : Nat → Int32} {z0 z a : Int32} (hm : m ≤ 8) : (if z0 = 0 then some (-1, nx, ph, tt, f, fq, fd) else (F_X0_running f (nI m) fu fp).bind fun o => (F_X1_write fd tt z a o).bind fun w => some (-1, nx, ph, w.2, f, fq, w.1)) = cEnd m nx ph tt fq fd f z0 z a := by
  unfold cEnd; rw [cRunning hm, pBs]
def cTks (m : Nat) (ru fp : Nat → Int32) : Nat → (Nat → Int32) → Nat → Int32
  | 0, f => f
  | k + 1, f => cTks m ru fp k ((F_X0_passTick f (nI m) ru fp).getD f)
theorem lt01 {a : Int32} (h : ¬ a < 1) : ¬ a < 0 := fun w => by
  apply h
  have h0 : (0 : Int32).toInt = 0 := by decide
  have h1 : (1 : Int32).toInt = 1 := by decide
  rw [q_lt] at w ⊢; omega
theorem ticks_sim {m t : Nat} {ru fp td fr0 nw0 fq0 fd0 : Nat → Int32} {z0 z1 z3 z4 x7 nx0 ph0 tt0 : Int32} {q : Nat} (hc : Cx m t ru fp td) (h0 : 0 < m) (hq : q ≤ 60) : ∀ (k j n n' u : Nat) (fr nw : Nat → Int32), j + k = q → k < n → k < n' → Rl m fr nw → iU m ru (tT m td) (nz nw) → fr 96 = nI u → nw 96 = nI u → u + k ≤ 9999 →
    ∃ g, (∀ nx ph tt fq fd, FL_X9_attempt_97 (nI m) nx0 ph0 tt0 fr0 ru fp fq0 fd0 z0 z1 (nI q) z3 z4 n x7 (nI j) nx ph tt fr fq fd = cEnd m nx ph tt fq fd (cTks m ru fp k fr) z0 z1 (nI q)) ∧ FL_X10_ticks_2 (nI m) ru td nw0 (nI q) n' (nI j) nw = some (nI (pNum (fun d => decide (nz (cTks m ru fp k fr) d = 6)) m), g) ∧ Rl m (cTks m ru fp k fr) g ∧ iU m ru (tT m td) (nz g) ∧ cTks m ru fp k fr 96 = nI (u + k) ∧ g 96 = nI (u + k) ∧ kD nw g
  | k, j, 0, n', u, fr, nw, _, h, _, _, _, _, _, _ => absurd h (by omega)
  | k, j, n + 1, 0, u, fr, nw, _, _, h, _, _, _, _, _ => absurd h (by omega)
  | 0, j, n + 1, n' + 1, u, fr, nw, h1, _, _, hr, hi, e1, e2, _ => by
    obtain rfl : j = q := by omega
    have hm := hc.1
    refine ⟨nw, fun nx ph tt fq fd => ?_, ?_, hr, hi, e1, e2, fun k _ => rfl⟩
    · rw [FL_X9_attempt_97, if_pos (le_rfl32 _)]; exact cEnd_e hm
    · rw [FL_X10_ticks_2, if_pos (le_rfl32 _), rThose hm, pBs, pBits hm, pBs]; unfold cTks; rw [hr.1]
  | k + 1, j, n + 1, n' + 1, u, fr, nw, h1, h2, h3, hr, hi, e1, e2, h4 => by
    have hm := hc.1
    obtain ⟨f, g, a1, a2, a3, a4, a5, a6, a7⟩ := tick_sim hc h0 hr hi
    have f96 : f 96 = nI (u + 1) := by
      rw [a5, e1]; unfold cCap; rw [pS1, show (9999 : Int32) = nI 9999 from rfl, if_neg (by rw [pLt (by omega) (by omega)]; omega)]
    have g96 : g 96 = nI (u + 1) := by rw [a6, e2, pS1]
    have ec : cTks m ru fp (k + 1) fr = cTks m ru fp k f := by rw [cTks, a1]; rfl
    rw [ec]
    obtain ⟨g', b1, b2, b3, b4, b5, b6, b7⟩ := ticks_sim (fr0 := fr0) (nw0 := nw0) (fq0 := fq0) (fd0 := fd0) (z0 := z0) (z1 := z1) (z3 := z3) (z4 := z4) (x7 := x7) (nx0 := nx0) (ph0 := ph0) (tt0 := tt0) hc h0 hq k (j + 1) n n' (u + 1) f g (by omega) (by omega) (by omega) a3 a4 f96 g96 (by omega)
    have hj : ¬ nI q ≤ nI j := by rw [pLe (by omega) (by omega)]; omega
    refine ⟨g', fun nx ph tt fq fd => ?_, ?_, b3, b4, by rw [b5]; congr 1; omega, by rw [b6]; congr 1; omega, fun x hx => (b7 x hx).trans (a7 x hx)⟩
    · rw [FL_X9_attempt_97, if_neg hj, a1, pBs, pS1]; exact b1 nx ph tt fq fd
    · rw [FL_X10_ticks_2, if_neg hj, a2, pBs, pS1]; exact b2
theorem zb_dev {m : Nat} {R : Nat → Int32} {T : Nat → Nat → Int32} {N : Nat → Int32} {tm z a b c : Int32} (hm : m ≤ 8) (h : zBar m R T N tm z a b c = -1) (hz : z ≠ 2) : ∃ d, d < m ∧ a = nI d := by
  unfold zBar at h
  rw [if_neg hz] at h
  by_cases cd : zDev m a = true
  · exact zDev_lt hm cd
  · rw [if_neg cd] at h; exact absurd h (by decide)
def doS (m : Nat) (ru fp td fr nw : Nat → Int32) (z a b c : Int32) (f g : Nat → Int32) (r : Int32) : Prop := F_X10_doNow (nI m) ru td nw z a b c = some (r, g) ∧ Rl m f g ∧ iU m ru (tT m td) (nz g) ∧ (∃ u, u ≤ 9999 ∧ f 96 = nI u ∧ g 96 = nI u) ∧ kD nw g ∧ ans m z a fr f r ∧ ∀ nx ph tt fq fd z0, F_X9_attempt (nI m) nx ph tt fr ru fp fq fd z0 z a b c = if z0 = 0 then cEnd m nx ph tt fq fd f z0 z a else (F_X4_keep fq nx ph fr).bind fun o => cEnd m o.2.1 o.2.2 tt o.1 fd f z0 z a
theorem do_sim {m t u : Nat} {ru fp td fr nw : Nat → Int32} {z a b c : Int32} (hc : Cx m t ru fp td) (hr : Rl m fr nw) (hi : iU m ru (tT m td) (nz nw)) (hu : u ≤ 9999) (e1 : fr 96 = nI u) (e2 : nw 96 = nI u) (hb : zBar m ru (tT m td) (nz nw) (nw 96) z a b c = -1) : ∃ f g r, doS m ru fp td fr nw z a b c f g r := by
  have hm := hc.1
  have hbar : F_X0_barOf fr (nI m) ru fp z a b c = some (-1) := by
    rw [cBar hm hc.2.1 (by rw [hr.1]; exact hi.1.1), hc.2.2.2, hr.1, e1, ← e2, hb]
  by_cases z2 : z = 2
  · subst z2
    unfold zBar at hb
    rw [if_pos rfl] at hb
    have h0 : 0 < m := Nat.pos_of_ne_zero (fun q => by rw [if_pos q] at hb; exact absurd hb (by decide))
    rw [if_neg (by omega)] at hb
    have c1 : ¬ a < 1 := fun q => by rw [if_pos q] at hb; exact absurd hb (by decide)
    rw [if_neg c1] at hb
    have c2 : a ≤ 60 := Decidable.byContradiction (fun q => by rw [if_neg q] at hb; exact absurd hb (by decide))
    rw [if_pos c2] at hb
    have c3 : nw 96 + a ≤ 9999 := Decidable.byContradiction (fun q => by rw [if_neg q] at hb; exact absurd hb (by decide))
    obtain ⟨q, hq, rfl⟩ := nI_of (lt01 c1)
    have hq60 : q ≤ 60 := by rw [show (60 : Int32) = nI 60 from rfl, pLe hq (by omega)] at c2; exact c2
    rw [e2, nI_add, show (9999 : Int32) = nI 9999 from rfl, pLe (by omega) (by omega)] at c3
    obtain ⟨g, b1, b2, b3, b4, b5, b6, b7⟩ := ticks_sim (fr0 := fr) (nw0 := nw) (fq0 := fr) (fd0 := fr) (z0 := 0) (z1 := 0) (z3 := b) (z4 := c) (x7 := 0) (nx0 := 0) (ph0 := 0) (tt0 := 0) hc h0 hq60 q 0 1000 1000 u fr nw (by omega) (by omega) (by omega) hr hi e1 e2 (by omega)
    refine ⟨_, g, _, ?_, b3, b4, ⟨u + q, by omega, b5, b6⟩, b7, ⟨fun w => absurd w (by decide), fun w => absurd w (by decide), fun _ => rfl, fun w => absurd w (by decide), fun w => absurd w (by decide), fun w => absurd w (by decide), fun w => absurd (Or.inr (Or.inr (Or.inl rfl))) w, fun w => absurd rfl w⟩, fun nx ph tt fq fd z0 => ?_⟩
    · unfold F_X10_doNow F_X10_ticks
      rw [if_neg (by decide), if_neg (by decide), if_pos rfl, show (0 : Int32) = nI 0 from rfl, b2, pBs]
    · obtain ⟨g', d1, -⟩ := ticks_sim (fr0 := fr) (nw0 := nw) (fq0 := fq) (fd0 := fd) (z0 := z0) (z1 := 2) (z3 := b) (z4 := c) (x7 := -1) (nx0 := nx) (ph0 := ph) (tt0 := tt) hc h0 hq60 q 0 1000 1000 u fr nw (by omega) (by omega) (by omega) hr hi e1 e2 (by omega)
      unfold F_X9_attempt
      rw [hbar, pBs, if_pos rfl]
      by_cases c0 : z0 = 0
      · refine Eq.trans ?_ (if_pos c0).symm; rw [if_pos c0, if_neg (by decide), if_neg (by decide), if_pos rfl]; exact d1 nx ph tt fq fd
      · rw [if_neg c0, if_neg c0]
        congr 1
        funext o
        rw [if_neg (by decide), if_neg (by decide), if_pos rfl]; exact d1 _ _ tt _ fd
  · obtain ⟨d, hd, rfl⟩ := zb_dev hm hb z2
    have hdv : zDev m (nI d) = true := by rw [zDev_nI hm (by omega)]; simpa using hd
    have h0 : 0 < m := by omega
    have e0 : nz nw d = nw d := pNz (by omega)
    unfold zBar at hb
    rw [if_neg z2, if_pos hdv, pCl (by omega)] at hb
    by_cases z0' : z = 0
    · subst z0'
      rw [if_pos rfl] at hb
      unfold zBarP at hb
      by_cases ch : zHub m (tT m td) b = true
      · rw [if_pos ch] at hb
        by_cases cp : c < 0 ∨ zPrt ru (tT m td) b ≤ c
        · rw [if_pos cp] at hb; exact absurd hb (by decide)
        · rw [if_neg cp] at hb
          by_cases cs : nz nw d = 0 ∧ (b = 8 ∨ nz nw b.toNatClampNeg ≠ 0) ∧ zFull m (nz nw) b c = -1
          · obtain ⟨h, hh, rfl, hh2⟩ := hub_nI hm ch
            obtain ⟨p, hp, rfl⟩ := nI_of (show ¬ c < 0 from fun w => cp (Or.inl w))
            have hlt : nI p < zPrt ru (tT m td) (nI h) := not_le.mp (fun w => cp (Or.inr w))
            have hh8 : (nI h = 8) = (h = 8) := pE8 (by omega)
            have hpp : ((h = 8 ∧ nI p < ru 0) ∨ (h < m ∧ nI p < tT m td h 0)) ∧ p < 4 := by
              unfold zPrt at hlt
              by_cases q8 : h = 8
              · rw [if_pos (by rw [hh8]; exact q8)] at hlt
                refine ⟨Or.inl ⟨q8, hlt⟩, ?_⟩
                obtain ⟨-, -, -, -, pp, h4, -, e⟩ := hc.2.1 h0
                rw [e, pLt hp (by omega)] at hlt; omega
              · have hhm : h < m := hh2.resolve_left q8
                rw [if_neg (by rw [hh8]; exact q8), pCl (by omega)] at hlt
                refine ⟨Or.inr ⟨hhm, hlt⟩, ?_⟩
                obtain ⟨⟨pp, h4, e⟩, -⟩ := hc.2.2.1 h hhm
                rw [e, pLt hp (by omega)] at hlt; omega
            have hcc : h = 8 ∨ (h < m ∧ nz nw h ≠ 0) := by
              by_cases q8 : h = 8
              · exact Or.inl q8
              · refine Or.inr ⟨hh2.resolve_left q8, ?_⟩
                rcases cs.2.1 with w | w
                · rw [hh8] at w; exact absurd w q8
                · rw [pCl (by omega)] at w; exact w
            obtain ⟨f, g, b1, b2, b3, b4, b5, b6, b7⟩ := plug_sim hc h0 hr hi hd cs.1 hcc hpp.2 hpp.1
            refine ⟨f, g, _, ?_, b3, b4, ⟨u, hu, b5.trans e1, b6.trans e2⟩, b7, ⟨fun _ => by rw [pCl (by omega), b3.1], fun w => absurd w (by decide), fun w => absurd w (by decide), fun w => absurd w (by decide), fun w => absurd w (by decide), fun w => absurd w (by decide), fun w => absurd (Or.inl rfl) w, fun _ => ⟨d, hd, rfl⟩⟩, fun nx ph tt fq fd z0 => ?_⟩
            · unfold F_X10_doNow; rw [if_pos rfl, b2, pBs]
            · unfold F_X9_attempt
              rw [hbar, pBs, if_pos rfl]
              by_cases c0 : z0 = 0
              · refine Eq.trans ?_ (if_pos c0).symm; rw [if_pos c0, if_pos rfl, b1, pBs]; exact cEnd_e hm
              · rw [if_neg c0, if_neg c0]
                congr 1; funext o
                rw [if_pos rfl, b1, pBs]; exact cEnd_e hm
          · rw [if_neg cs] at hb; exact absurd hb (by decide)
      · rw [if_neg ch] at hb; exact absurd hb (by decide)
    · rw [if_neg z0'] at hb
      by_cases z1 : z = 1
      · subst z1
        rw [if_pos rfl] at hb
        have hd0 : nz nw d ≠ 0 := fun w => by rw [if_pos w] at hb; exact absurd hb (by decide)
        obtain ⟨f, g, b1, b2, b3, b4, b5, b6, b7⟩ := pull_sim hc hr hi hd hd0
        refine ⟨f, g, _, ?_, b3, b4, ⟨u, hu, b5.trans e1, b6.trans e2⟩, b7, ⟨fun w => absurd w (by decide), fun _ => rfl, fun w => absurd w (by decide), fun w => absurd w (by decide), fun w => absurd w (by decide), fun w => absurd w (by decide), fun w => absurd (Or.inr (Or.inl rfl)) w, fun _ => ⟨d, hd, rfl⟩⟩, fun nx ph tt fq fd z0 => ?_⟩
        · unfold F_X10_doNow; rw [if_neg (by decide), if_pos rfl, b2, pBs]
        · unfold F_X9_attempt
          rw [hbar, pBs, if_pos rfl]
          by_cases c0 : z0 = 0
          · refine Eq.trans ?_ (if_pos c0).symm; rw [if_pos c0, if_neg (by decide), if_pos rfl, b1, pBs]; exact cEnd_e hm
          · rw [if_neg c0, if_neg c0]
            congr 1; funext o
            rw [if_neg (by decide), if_pos rfl, b1, pBs]; exact cEnd_e hm
      · rw [if_neg z1] at hb
        by_cases z3 : z = 3
        · subst z3
          obtain ⟨f, g, b1, b2, b3, b4, b5, b6, b7⟩ := sup_sim hc hr hi hd
          refine ⟨f, g, nz f (72 + d), ?_, b3, b4, ⟨u, hu, b5.trans e1, b6.trans e2⟩, b7, ⟨fun w => absurd w (by decide), fun w => absurd w (by decide), fun w => absurd w (by decide), fun _ => by rw [pCl (by omega)], fun w => absurd w (by decide), fun w => absurd w (by decide), fun w => absurd (Or.inr (Or.inr (Or.inr (Or.inl rfl)))) w, fun _ => ⟨d, hd, rfl⟩⟩, fun nx ph tt fq fd z0 => ?_⟩
          · unfold F_X10_doNow
            rw [if_neg (by decide), if_neg (by decide), if_neg (by decide), if_pos rfl, b2, pBs]
            simp (disch := omega) only [pIx, pIy, pCl, pA72]
            rw [b3.1, pNz (by omega)]
          · unfold F_X9_attempt
            rw [hbar, pBs, if_pos rfl]
            by_cases c0 : z0 = 0
            · refine Eq.trans ?_ (if_pos c0).symm; rw [if_pos c0, if_neg (by decide), if_neg (by decide), if_neg (by decide), if_pos rfl, b1, pBs]; exact cEnd_e hm
            · rw [if_neg c0, if_neg c0]
              congr 1; funext o
              rw [if_neg (by decide), if_neg (by decide), if_neg (by decide), if_pos rfl, b1, pBs]; exact cEnd_e hm
        · rw [if_neg z3] at hb
          by_cases z4 : z = 4
          · subst z4
            obtain ⟨b3, b4, b7⟩ := err_sim (v := b) hc hr hi hd
            refine ⟨_, _, nz fr (80 + d), ?_, b3, b4, ⟨u, hu, ?_, ?_⟩, b7, ⟨fun w => absurd w (by decide), fun w => absurd w (by decide), fun w => absurd w (by decide), fun w => absurd w (by decide), fun _ => by rw [pCl (by omega)], fun w => absurd w (by decide), fun w => absurd (Or.inr (Or.inr (Or.inr (Or.inr (Or.inl rfl))))) w, fun _ => ⟨d, hd, rfl⟩⟩, fun nx ph tt fq fd z0 => ?_⟩
            · unfold F_X10_doNow
              rw [if_neg (by decide), if_neg (by decide), if_neg (by decide), if_neg (by decide), if_pos rfl]
              simp (disch := omega) only [pIx, pIy, pCl, pA80]
              rw [hr.1, pNz (by omega)]
            · rw [pUn (by omega)]; exact e1
            · rw [pUn (by omega)]; exact e2
            · unfold F_X9_attempt
              rw [hbar, pBs, if_pos rfl]
              by_cases c0 : z0 = 0
              · refine Eq.trans ?_ (if_pos c0).symm; rw [if_pos c0, if_neg (by decide), if_neg (by decide), if_neg (by decide), if_neg (by decide), if_pos rfl, pA80, pIx (by omega) (by omega), pCl (by omega)]; exact cEnd_e hm
              · rw [if_neg c0, if_neg c0]
                congr 1; funext o
                rw [if_neg (by decide), if_neg (by decide), if_neg (by decide), if_neg (by decide), if_pos rfl, pA80, pIx (by omega) (by omega), pCl (by omega)]; exact cEnd_e hm
          · rw [if_neg z4] at hb
            by_cases z5 : z = 5
            · subst z5
              rw [if_pos rfl] at hb
              have h7 : nz nw d = 7 := Decidable.byContradiction (fun w => by rw [if_neg w] at hb; exact absurd hb (by decide))
              obtain ⟨f, g, b1, b2, b3, b4, b5, b6, b7⟩ := again_sim hc hr hi hd h7
              refine ⟨f, g, nz f (16 + d), ?_, b3, b4, ⟨u, hu, b5.trans e1, b6.trans e2⟩, b7, ⟨fun w => absurd w (by decide), fun w => absurd w (by decide), fun w => absurd w (by decide), fun w => absurd w (by decide), fun w => absurd w (by decide), fun _ => by rw [pCl (by omega)], fun w => absurd (Or.inr (Or.inr (Or.inr (Or.inr (Or.inr rfl))))) w, fun _ => ⟨d, hd, rfl⟩⟩, fun nx ph tt fq fd z0 => ?_⟩
              · unfold F_X10_doNow
                rw [if_neg (by decide), if_neg (by decide), if_neg (by decide), if_neg (by decide), if_neg (by decide), if_pos rfl]
                simp (disch := omega) only [pIx, pIy, pCl, pA64, pA24, pA16, b2, pBs]
                rw [b3.1, pNz (by omega)]
              · unfold F_X9_attempt
                rw [hbar, pBs, if_pos rfl]
                by_cases c0 : z0 = 0
                · refine Eq.trans ?_ (if_pos c0).symm; rw [if_pos c0, if_neg (by decide), if_neg (by decide), if_neg (by decide), if_neg (by decide), if_neg (by decide), if_pos rfl, b1, pBs]; exact cEnd_e hm
                · rw [if_neg c0, if_neg c0]
                  congr 1; funext o
                  rw [if_neg (by decide), if_neg (by decide), if_neg (by decide), if_neg (by decide), if_neg (by decide), if_pos rfl, b1, pBs]; exact cEnd_e hm
            · rw [if_neg z5] at hb
              have h6 : nz nw d = 6 := by
                by_cases w : nz nw (88 + d) = 1
                · refine Decidable.byContradiction (fun r => ?_)
                  have := ((hi.1.1.2.1 d hd).2.2.2.2.2.1 r).2.2
                  rw [w] at this; exact absurd this (by decide)
                · rw [if_neg w] at hb
                  refine Decidable.byContradiction (fun r => ?_)
                  rw [if_neg (fun q => r q.2)] at hb; exact absurd hb (by decide)
              obtain ⟨b3, b4, b7⟩ := slp_sim hc hr hi hd h6
              refine ⟨_, _, nz (upd fr (88 + d) (1 - fr (88 + d))) (88 + d), ?_, b3, b4, ⟨u, hu, ?_, ?_⟩, b7, ⟨fun w => absurd w z0', fun w => absurd w z1, fun w => absurd w z2, fun w => absurd w z3, fun w => absurd w z4, fun w => absurd w z5, fun _ => by rw [pCl (by omega)], fun _ => ⟨d, hd, rfl⟩⟩, fun nx ph tt fq fd z0 => ?_⟩
              · unfold F_X10_doNow
                rw [if_neg z0', if_neg z1, if_neg z2, if_neg z3, if_neg z4, if_neg z5]
                simp (disch := omega) only [pIx, pIy, pCl, pA88]
                rw [b3.1, pNz (by omega)]
              · rw [pUn (by omega)]; exact e1
              · rw [pUn (by omega)]; exact e2
              · unfold F_X9_attempt
                rw [hbar, pBs, if_pos rfl]
                by_cases c0 : z0 = 0
                · refine Eq.trans ?_ (if_pos c0).symm; rw [if_pos c0, if_neg z0', if_neg z1, if_neg z2, if_neg z3, if_neg z4, if_neg z5, pA88, pIx (by omega) (by omega), pIx (by omega) (by omega), pCl (by omega)]; exact cEnd_e hm
                · rw [if_neg c0, if_neg c0]
                  congr 1; funext o
                  rw [if_neg z0', if_neg z1, if_neg z2, if_neg z3, if_neg z4, if_neg z5, pA88, pIx (by omega) (by omega), pIx (by omega) (by omega), pCl (by omega)]; exact cEnd_e hm
