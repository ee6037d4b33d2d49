

/-! a writer's cells laid back at their places -/
def q_set : va_W → List Nat → va_W → va_W
  | ws, i :: is, c :: cs => q_set (ws.set i c) is cs
  | ws, _, _ => ws
theorem q_set_get : ∀ (is : List Nat) (cs ws : va_W) (k : Nat) (q : Nat × va_E), (q_set ws is cs)[k]? = some q → is.length = cs.length → (∃ j : Nat, cs[j]? = some q) ∨ (ws[k]? = some q ∧ k ∉ is)
  | [], _, ws, k, q, h, _ => Or.inr ⟨by simpa [q_set] using h, by simp⟩
  | i :: is, [], ws, k, q, h, hl => by simp at hl
  | i :: is, c :: cs, ws, k, q, h, hl => by
    rcases q_set_get is cs (ws.set i c) k q h (by simpa using hl) with ⟨j, hj⟩ | ⟨h1, h2⟩
    · exact Or.inl ⟨j + 1, by simpa using hj⟩
    · by_cases e : i = k
      · subst e
        rw [List.getElem?_set_self'] at h1
        cases hw : ws[i]? with
        | none => rw [hw] at h1; simp at h1
        | some w => rw [hw] at h1; exact Or.inl ⟨0, by simpa using h1⟩
      · rw [List.getElem?_set_ne e] at h1
        exact Or.inr ⟨h1, by simp [h2, Ne.symm e]⟩
theorem q_set_fst : ∀ (is : List Nat) (cs ws : va_W), is.map (fun i => (ws[i]?).map (fun q => q.1)) = cs.map (fun q => some q.1) → (q_set ws is cs).map (fun q => q.1) = ws.map (fun q => q.1)
  | [], _, _, _ => by simp [q_set]
  | _ :: _, [], _, h => by simp at h
  | i :: is, c :: cs, ws, h => by
    simp only [List.map_cons, List.cons.injEq] at h
    have hs : (ws.set i c).map (fun q => q.1) = ws.map (fun q => q.1) := by
      apply List.ext_getElem?
      intro k
      simp only [List.getElem?_map]
      by_cases e : i = k
      · subst e
        rw [List.getElem?_set_self']
        cases hw : ws[i]? with
        | none => rfl
        | some w => rw [hw] at h; simpa using h.1.symm
      · rw [List.getElem?_set_ne e]
    have hi : is.map (fun j => ((ws.set i c)[j]?).map (fun q => q.1)) = cs.map (fun q => some q.1) := by
      rw [← h.2]
      apply List.map_congr_left
      intro j hj
      have e := congrArg (fun l => l[j]?) hs
      simp only [List.getElem?_map] at e
      exact e
    exact (q_set_fst is cs (ws.set i c) hi).trans hs
theorem q_Dsame {A : Nat → Prop} {ws ws' : va_W} (h : ws'.map (fun q => q.1) = ws.map (fun q => q.1)) (hD : va_D A ws) : va_D A ws' := by
  have g : ∀ k : Nat, (ws'[k]?).map (fun q => q.1) = (ws[k]?).map (fun q => q.1) := fun k => by
    have e := congrArg (fun l => l[k]?) h
    simpa only [List.getElem?_map] using e
  have w : ∀ (k : Nat) (q : Nat × va_E), ws'[k]? = some q → ∃ q', ws[k]? = some q' ∧ q'.1 = q.1 := fun k q hk => by
    have e := g k
    rw [hk] at e
    cases hw : ws[k]? with
    | none => rw [hw] at e; simp at e
    | some q' => rw [hw] at e; exact ⟨q', rfl, (by simpa using e.symm)⟩
  refine ⟨fun i j p q hi hj he => ?_, fun k q hk => ?_⟩
  · obtain ⟨p', h1, e1⟩ := w i p hi
    obtain ⟨q', h2, e2⟩ := w j q hj
    exact hD.1 i j p' q' h1 h2 (by rw [e1, e2, he])
  · obtain ⟨q', h1, e1⟩ := w k q hk
    rw [← e1]; exact hD.2 k q' h1
theorem q_setP {A0 : Nat → Prop} {D : va_G} {cl : List vw_C} {ws wc w1 : va_W} {H H1 : Heap} (hP : va_P D cl ws H) (hD : va_D A0 ws) (isC : List Nat) (hC : isC.map (fun i => ws[i]?) = wc.map some) (hlen : isC.length = w1.length) (hk : ∀ q : Nat, q < H.size → ¬ va_A wc H.size q → H1[q]? = H[q]?) (hP1 : va_P D cl w1 H1) : va_P D cl (q_set ws isC w1) H1 := by
  intro k q hkq
  rcases q_set_get isC w1 ws k q hkq hlen with ⟨j, hj⟩ | ⟨h1, h2⟩
  · exact hP1 j q hj
  · refine (hP k q h1).kept (hk q.1 (hP k q h1).lt ?_)
    rintro (⟨m, e, hm⟩ | hm)
    · have h3 : (wc.map some)[m]? = some (some (q.1, e)) := by rw [List.getElem?_map, hm]; rfl
      rw [← hC, List.getElem?_map] at h3
      cases hi : isC[m]? with
      | none => rw [hi] at h3; simp at h3
      | some i =>
        rw [hi] at h3
        have h4 : ws[i]? = some (q.1, e) := by simpa using h3
        have := hD.1 k i q (q.1, e) h1 h4 rfl
        exact h2 (this ▸ List.mem_of_getElem? hi)
    · exact absurd (hP k q h1).lt (Nat.not_lt.mpr hm)
section QS
variable {p : Program} {l : Launch} {e : Env} {R : Room} {s : State} {m : MethodId} {args : Array Value} {below : List Frame} {meth : Method} {c : Code} {H : Heap} {locs : List Loc} {cells slots : Nat} {Q : State → Prop}
variable {pc : Nat} {ls : Array Slot} {rest st0 : List Value} {a : Array Value} {A0 : Nat → Prop} {H0 : Heap} {D : va_G} {ws wc w1 : va_W} {t1 : List (ClassId × FieldType)} {mc ms : Nat} {v : Int32}
theorem q_goi4 (hr : va_Run p l e R s m args below meth c H locs cells slots mc ms (F0 m pc ls st0) rest (va_Qi (fun (r : Int32) (_ : Unit) => r = v ∧ True) (fun _ t => q_B D (va_A wc H.size) w1 t1 t) (va_A wc H.size) a) (va_A wc H.size)) (hP : va_P D vwCl ws H) (hD : va_D A0 ws) (hS : va_S A0 H0 H locs) (hA : ∀ q, H0.size ≤ q → A0 q) (isC : List Nat) (hC : isC.map (fun i => ws[i]?) = wc.map some) (hf : wc.map (fun q => q.1) = w1.map (fun q => q.1)) 
    (kk : ∀ (H1 : Heap) (locs1 : List Loc), va_P D vwCl (q_set ws isC w1) H1 → va_D A0 (q_set ws isC w1) → va_S A0 H0 H1 locs1 → W p l e R s m args below meth c H1 locs1 (cells + mc) (slots + ms) Q (F0 m (pc + 3) ls (.int v :: rest))) : W p l e R s m args below meth c H locs cells slots Q (F0 m pc ls st0) :=
  va_calli hr hS (fun q _ h => va_free hD hS hA isC hC q h) (va_free hD hS hA isC hC) (fun r u t H1 locs1 ht hvm hw hB hz hk hS1 => by
    obtain ⟨hP1, hK1, hD1⟩ := hB
    rw [ht] at hP1
    have hl : isC.length = w1.length := by
      have h1 := congrArg List.length hC
      have h2 := congrArg List.length hf
      simp only [List.length_map] at h1 h2
      omega
    have hfst : isC.map (fun i => (ws[i]?).map (fun q => q.1)) = w1.map (fun q => some q.1) := by
      have h1 := congrArg (List.map (Option.map (fun q : Nat × va_E => q.1))) hC
      have h2 := congrArg (List.map some) hf
      simp only [List.map_map] at h1 h2
      exact h1.trans h2
    rw [hw.1]
    exact kk H1 locs1 (q_setP hP hD isC hC hl hk hP1) (q_Dsame (q_set_fst isC w1 ws hfst) hD) hS1)
end QS
/-- the cells as they are after a call, in one pass -/
def q_pick : va_W → va_W → List (Option Nat) → va_W
  | w :: ws, w1, none :: ch => w :: q_pick ws w1 ch
  | _ :: ws, w1, some j :: ch => match w1[j]? with
    | some c => c :: q_pick ws w1 ch
    | none => []
  | _, _, _ => []
theorem q_pick_get : ∀ (ws w1 : va_W) (ch : List (Option Nat)) (k : Nat) (q : Nat × va_E), (q_pick ws w1 ch)[k]? = some q → (∃ j : Nat, w1[j]? = some q) ∨ (ws[k]? = some q ∧ ch[k]? = some none)
  | [], w1, ch, k, q, h => by simp [q_pick] at h
  | w :: ws, w1, [], k, q, h => by simp [q_pick] at h
  | w :: ws, w1, none :: ch, 0, q, h => Or.inr ⟨by simpa [q_pick] using h, rfl⟩
  | w :: ws, w1, none :: ch, k + 1, q, h => by
    rcases q_pick_get ws w1 ch k q (by simpa [q_pick] using h) with h | ⟨h1, h2⟩
    · exact Or.inl h
    · exact Or.inr ⟨by simpa using h1, by simpa using h2⟩
  | w :: ws, w1, some j :: ch, k, q, h => by
    simp only [q_pick] at h
    cases hj : w1[j]? with
    | none => rw [hj] at h; simp at h
    | some c =>
      rw [hj] at h
      cases k with
      | zero => exact Or.inl ⟨j, by rw [hj]; simpa using h⟩
      | succ k =>
        rcases q_pick_get ws w1 ch k q (by simpa using h) with h | ⟨h1, h2⟩
        · exact Or.inl h
        · exact Or.inr ⟨by simpa using h1, by simpa using h2⟩
theorem q_pickP {A0 : Nat → Prop} {D : va_G} {cl : List vw_C} {ws wc w1 : va_W} {ch : List (Option Nat)} {H H1 : Heap} (hP : va_P D cl ws H) (hD : va_D A0 ws) (isC : List Nat) (hC : isC.map (fun i => ws[i]?) = wc.map some) (hno : isC.all (fun i => !decide (ch[i]? = some none)) = true) (hk : ∀ q : Nat, q < H.size → ¬ va_A wc H.size q → H1[q]? = H[q]?) (hP1 : va_P D cl w1 H1) : va_P D cl (q_pick ws w1 ch) H1 := by
  intro k q hkq
  rcases q_pick_get ws w1 ch k q hkq with ⟨j, hj⟩ | ⟨h1, h2⟩
  · exact hP1 j q hj
  · have hni : k ∉ isC := fun hm => by
      have := List.all_eq_true.mp hno k hm
      simp [h2] at this
    refine (hP k q h1).kept (hk q.1 (hP k q h1).lt ?_)
    rintro (⟨m, e, hm⟩ | hm)
    · have h3 : (wc.map some)[m]? = some (some (q.1, e)) := by rw [List.getElem?_map, hm]; rfl
      rw [← hC, List.getElem?_map] at h3
      cases hi : isC[m]? with
      | none => rw [hi] at h3; simp at h3
      | some i =>
        rw [hi] at h3
        have h4 : ws[i]? = some (q.1, e) := by simpa using h3
        have := hD.1 k i q (q.1, e) h1 h4 rfl
        exact hni (this ▸ List.mem_of_getElem? hi)
    · exact absurd (hP k q h1).lt (Nat.not_lt.mpr hm)
section QS5
variable {p : Program} {l : Launch} {e : Env} {R : Room} {s : State} {m : MethodId} {args : Array Value} {below : List Frame} {meth : Method} {c : Code} {H : Heap} {locs : List Loc} {cells slots : Nat} {Q : State → Prop}
variable {pc : Nat} {ls : Array Slot} {rest st0 : List Value} {a : Array Value} {A0 : Nat → Prop} {H0 : Heap} {D : va_G} {ws wc w1 : va_W} {t1 : List (ClassId × FieldType)} {mc ms : Nat} {v : Int32}
theorem q_goi5 (w2 : va_W) (ch : List (Option Nat)) (hr : va_Run p l e R s m args below meth c H locs cells slots mc ms (F0 m pc ls st0) rest (va_Qi (fun (r : Int32) (_ : Unit) => r = v ∧ True) (fun _ t => q_B D (va_A wc H.size) w1 t1 t) (va_A wc H.size) a) (va_A wc H.size)) (hP : va_P D vwCl ws H) (hD : va_D A0 ws) (hS : va_S A0 H0 H locs) (hA : ∀ q, H0.size ≤ q → A0 q) (isC : List Nat) (hC : isC.map (fun i => ws[i]?) = wc.map some) (hpk : q_pick ws w1 ch = w2) (hfs : w2.map (fun q => q.1) = ws.map (fun q => q.1)) (hno : isC.all (fun i => !decide (ch[i]? = some none)) = true)
    (kk : ∀ (H1 : Heap) (locs1 : List Loc), va_P D vwCl w2 H1 → va_D A0 w2 → va_S A0 H0 H1 locs1 → W p l e R s m args below meth c H1 locs1 (cells + mc) (slots + ms) Q (F0 m (pc + 3) ls (.int v :: rest))) : W p l e R s m args below meth c H locs cells slots Q (F0 m pc ls st0) :=
  va_calli hr hS (fun q _ h => va_free hD hS hA isC hC q h) (va_free hD hS hA isC hC) (fun r u t H1 locs1 ht hvm hw hB hz hk hS1 => by
    obtain ⟨hP1, hK1, hD1⟩ := hB
    rw [ht] at hP1
    rw [hw.1]
    exact kk H1 locs1 (hpk ▸ q_pickP hP hD isC hC hno hk hP1) (q_Dsame hfs hD) hS1)
end QS5
