
/-- the n bytes from p on, as numbers -/
def q_bs (c : ByteArray) (p n : Nat) : List Nat := ((c.data.toList.drop p).take n).map UInt8.toNat
section QD
variable {c : ByteArray} {p n : Nat}
theorem q_bind {α β : Type} {r : Jvm.ClassFile.Reader Jvm.ClassFile.DecodeError α} {f : α → Jvm.ClassFile.Reader Jvm.ClassFile.DecodeError β} {a : α} {p' : Nat} {z : Except Jvm.ClassFile.DecodeError (β × Nat)} (h : r c p = .ok (a, p')) (k : f a c p' = z) : (r >>= f) c p = z := by
  show (do let (a, s) ← r c p; f a c s : Except Jvm.ClassFile.DecodeError (β × Nat)) = z
  rw [h]
  exact k
theorem q_map {α β : Type} {r : Jvm.ClassFile.Reader Jvm.ClassFile.DecodeError α} {g : α → β} {a : α} {p' : Nat} (h : r c p = .ok (a, p')) : (g <$> r) c p = .ok (g a, p') := by
  show (do let (a, s) ← r c p; .ok (g a, s) : Except Jvm.ClassFile.DecodeError (β × Nat)) = _
  rw [h]
  rfl
theorem q_u1 {a : Nat} {r : List Nat} (h : q_bs c p (n + 1) = a :: r) : (Jvm.ClassFile.Reader.u1 : Jvm.ClassFile.Reader Jvm.ClassFile.DecodeError Nat) c p = .ok (a, p + 1) ∧ q_bs c (p + 1) n = r := by
  unfold q_bs at h ⊢
  cases hL : c.data.toList.drop p with
  | nil =>
    rw [hL] at h
    cases h
  | cons b rr =>
    rw [hL] at h
    have h1 : b.toNat = a := (List.cons.inj h).1
    have h2 : (rr.take n).map UInt8.toNat = r := (List.cons.inj h).2
    have hp : p < c.data.toList.length := by
      refine Nat.lt_of_not_le fun hge => ?_
      rw [List.drop_eq_nil_of_le hge] at hL
      cases hL
    have hc := List.drop_eq_getElem_cons hp
    rw [hL] at hc
    have hb := (List.cons.inj hc).1
    have hr := (List.cons.inj hc).2
    have hs : p < c.size := by simpa using hp
    refine ⟨?_, by rw [← hr]; exact h2⟩
    show (do if h : p < c.size then do set (p + 1); Pure.pure c[p].toNat else MonadExcept.throw (Jvm.ClassFile.HasTruncated.truncated p) : Jvm.ClassFile.Reader Jvm.ClassFile.DecodeError Nat) c p = _
    rw [dif_pos hs]
    have e : c[p]'hs = b := hb.symm
    rw [e, h1]
    rfl
theorem q_u2 {a b : Nat} {r : List Nat} (h : q_bs c p (n + 2) = a :: b :: r) : (Jvm.ClassFile.Reader.u2 : Jvm.ClassFile.Reader Jvm.ClassFile.DecodeError Nat) c p = .ok (a * 256 + b, p + 2) ∧ q_bs c (p + 2) n = r := by
  obtain ⟨h1, h⟩ := q_u1 h
  obtain ⟨h2, h⟩ := q_u1 h
  refine ⟨?_, h⟩
  show (Jvm.ClassFile.Reader.u1 >>= fun hi => Jvm.ClassFile.Reader.u1 >>= fun lo => pure (hi * 256 + lo) : Jvm.ClassFile.Reader Jvm.ClassFile.DecodeError Nat) c p = _
  exact q_bind h1 (q_bind h2 rfl)
theorem q_dec {i : Instr} (h : (Jvm.ClassFile.Decoder.instr p) c p = .ok (i, p + n)) : decode c p = .ok (i, n) := by
  show (do let (i, next) ← Jvm.ClassFile.Decoder.instr p c p; pure (i, next - p) : Except Jvm.ClassFile.DecodeError (Instr × Nat)) = _
  rw [h]
  show Except.ok (i, p + n - p) = _
  rw [Nat.add_sub_cancel_left]
theorem q_o42 (h : q_bs c p 1 = [42]) : decode c p = .ok (.aload_n 0, 1) := q_dec (by unfold Jvm.ClassFile.Decoder.instr; exact q_bind (q_u1 h).1 rfl)
theorem q_o43 (h : q_bs c p 1 = [43]) : decode c p = .ok (.aload_n 1, 1) := q_dec (by unfold Jvm.ClassFile.Decoder.instr; exact q_bind (q_u1 h).1 rfl)
theorem q_o44 (h : q_bs c p 1 = [44]) : decode c p = .ok (.aload_n 2, 1) := q_dec (by unfold Jvm.ClassFile.Decoder.instr; exact q_bind (q_u1 h).1 rfl)
theorem q_o26 (h : q_bs c p 1 = [26]) : decode c p = .ok (.iload_n 0, 1) := q_dec (by unfold Jvm.ClassFile.Decoder.instr; exact q_bind (q_u1 h).1 rfl)
theorem q_o27 (h : q_bs c p 1 = [27]) : decode c p = .ok (.iload_n 1, 1) := q_dec (by unfold Jvm.ClassFile.Decoder.instr; exact q_bind (q_u1 h).1 rfl)
theorem q_o28 (h : q_bs c p 1 = [28]) : decode c p = .ok (.iload_n 2, 1) := q_dec (by unfold Jvm.ClassFile.Decoder.instr; exact q_bind (q_u1 h).1 rfl)
theorem q_o29 (h : q_bs c p 1 = [29]) : decode c p = .ok (.iload_n 3, 1) := q_dec (by unfold Jvm.ClassFile.Decoder.instr; exact q_bind (q_u1 h).1 rfl)
theorem q_o172 (h : q_bs c p 1 = [172]) : decode c p = .ok (.ireturn, 1) := q_dec (by unfold Jvm.ClassFile.Decoder.instr; exact q_bind (q_u1 h).1 rfl)
theorem q_o177 (h : q_bs c p 1 = [177]) : decode c p = .ok (.return_, 1) := q_dec (by unfold Jvm.ClassFile.Decoder.instr; exact q_bind (q_u1 h).1 rfl)
theorem q_o96 (h : q_bs c p 1 = [96]) : decode c p = .ok (.iadd, 1) := q_dec (by unfold Jvm.ClassFile.Decoder.instr; exact q_bind (q_u1 h).1 rfl)
theorem q_o100 (h : q_bs c p 1 = [100]) : decode c p = .ok (.isub, 1) := q_dec (by unfold Jvm.ClassFile.Decoder.instr; exact q_bind (q_u1 h).1 rfl)
theorem q_o104 (h : q_bs c p 1 = [104]) : decode c p = .ok (.imul, 1) := q_dec (by unfold Jvm.ClassFile.Decoder.instr; exact q_bind (q_u1 h).1 rfl)
theorem q_o126 (h : q_bs c p 1 = [126]) : decode c p = .ok (.iand, 1) := q_dec (by unfold Jvm.ClassFile.Decoder.instr; exact q_bind (q_u1 h).1 rfl)
theorem q_o2 (h : q_bs c p 1 = [2]) : decode c p = .ok (.iconst (-1), 1) := q_dec (by unfold Jvm.ClassFile.Decoder.instr; exact q_bind (q_u1 h).1 rfl)
theorem q_o3 (h : q_bs c p 1 = [3]) : decode c p = .ok (.iconst 0, 1) := q_dec (by unfold Jvm.ClassFile.Decoder.instr; exact q_bind (q_u1 h).1 rfl)
theorem q_o4 (h : q_bs c p 1 = [4]) : decode c p = .ok (.iconst 1, 1) := q_dec (by unfold Jvm.ClassFile.Decoder.instr; exact q_bind (q_u1 h).1 rfl)
theorem q_o5 (h : q_bs c p 1 = [5]) : decode c p = .ok (.iconst 2, 1) := q_dec (by unfold Jvm.ClassFile.Decoder.instr; exact q_bind (q_u1 h).1 rfl)
theorem q_o6 (h : q_bs c p 1 = [6]) : decode c p = .ok (.iconst 3, 1) := q_dec (by unfold Jvm.ClassFile.Decoder.instr; exact q_bind (q_u1 h).1 rfl)
theorem q_o7 (h : q_bs c p 1 = [7]) : decode c p = .ok (.iconst 4, 1) := q_dec (by unfold Jvm.ClassFile.Decoder.instr; exact q_bind (q_u1 h).1 rfl)
theorem q_o8 (h : q_bs c p 1 = [8]) : decode c p = .ok (.iconst 5, 1) := q_dec (by unfold Jvm.ClassFile.Decoder.instr; exact q_bind (q_u1 h).1 rfl)
theorem q_o46 (h : q_bs c p 1 = [46]) : decode c p = .ok (.iaload, 1) := q_dec (by unfold Jvm.ClassFile.Decoder.instr; exact q_bind (q_u1 h).1 rfl)
theorem q_o79 (h : q_bs c p 1 = [79]) : decode c p = .ok (.iastore, 1) := q_dec (by unfold Jvm.ClassFile.Decoder.instr; exact q_bind (q_u1 h).1 rfl)
theorem q_o60 (h : q_bs c p 1 = [60]) : decode c p = .ok (.istore_n 1, 1) := q_dec (by unfold Jvm.ClassFile.Decoder.instr; exact q_bind (q_u1 h).1 rfl)
theorem q_o61 (h : q_bs c p 1 = [61]) : decode c p = .ok (.istore_n 2, 1) := q_dec (by unfold Jvm.ClassFile.Decoder.instr; exact q_bind (q_u1 h).1 rfl)
theorem q_o62 (h : q_bs c p 1 = [62]) : decode c p = .ok (.istore_n 3, 1) := q_dec (by unfold Jvm.ClassFile.Decoder.instr; exact q_bind (q_u1 h).1 rfl)
theorem q_o87 (h : q_bs c p 1 = [87]) : decode c p = .ok (.pop, 1) := q_dec (by unfold Jvm.ClassFile.Decoder.instr; exact q_bind (q_u1 h).1 rfl)
theorem q_o89 (h : q_bs c p 1 = [89]) : decode c p = .ok (.dup, 1) := q_dec (by unfold Jvm.ClassFile.Decoder.instr; exact q_bind (q_u1 h).1 rfl)
theorem q_o21 {a : Nat} (h : q_bs c p 2 = [21, a]) : decode c p = .ok (.iload a, 2) := by
  refine q_dec ?_
  unfold Jvm.ClassFile.Decoder.instr
  refine q_bind (q_u1 h).1 ?_
  show (Jvm.ClassFile.Reader.u1 >>= fun x => pure (Instr.iload x) : Jvm.ClassFile.Reader Jvm.ClassFile.DecodeError Instr) c (p + 1) = _
  exact q_bind (q_u1 (q_u1 h).2).1 rfl
theorem q_o54 {a : Nat} (h : q_bs c p 2 = [54, a]) : decode c p = .ok (.istore a, 2) := by
  refine q_dec ?_
  unfold Jvm.ClassFile.Decoder.instr
  refine q_bind (q_u1 h).1 ?_
  show (Jvm.ClassFile.Reader.u1 >>= fun x => pure (Instr.istore x) : Jvm.ClassFile.Reader Jvm.ClassFile.DecodeError Instr) c (p + 1) = _
  exact q_bind (q_u1 (q_u1 h).2).1 rfl
theorem q_o180 {a b : Nat} (h : q_bs c p 3 = [180, a, b]) : decode c p = .ok (.getfield (a * 256 + b), 3) := by
  refine q_dec ?_
  unfold Jvm.ClassFile.Decoder.instr
  refine q_bind (q_u1 h).1 ?_
  show (Jvm.ClassFile.Reader.u2 >>= fun x => pure (Instr.getfield x) : Jvm.ClassFile.Reader Jvm.ClassFile.DecodeError Instr) c (p + 1) = _
  exact q_bind (q_u2 (q_u1 h).2).1 rfl
theorem q_o181 {a b : Nat} (h : q_bs c p 3 = [181, a, b]) : decode c p = .ok (.putfield (a * 256 + b), 3) := by
  refine q_dec ?_
  unfold Jvm.ClassFile.Decoder.instr
  refine q_bind (q_u1 h).1 ?_
  show (Jvm.ClassFile.Reader.u2 >>= fun x => pure (Instr.putfield x) : Jvm.ClassFile.Reader Jvm.ClassFile.DecodeError Instr) c (p + 1) = _
  exact q_bind (q_u2 (q_u1 h).2).1 rfl
theorem q_o182 {a b : Nat} (h : q_bs c p 3 = [182, a, b]) : decode c p = .ok (.invokevirtual (a * 256 + b), 3) := by
  refine q_dec ?_
  unfold Jvm.ClassFile.Decoder.instr
  refine q_bind (q_u1 h).1 ?_
  show (Jvm.ClassFile.Reader.u2 >>= fun x => pure (Instr.invokevirtual x) : Jvm.ClassFile.Reader Jvm.ClassFile.DecodeError Instr) c (p + 1) = _
  exact q_bind (q_u2 (q_u1 h).2).1 rfl
theorem q_o183 {a b : Nat} (h : q_bs c p 3 = [183, a, b]) : decode c p = .ok (.invokespecial (a * 256 + b), 3) := by
  refine q_dec ?_
  unfold Jvm.ClassFile.Decoder.instr
  refine q_bind (q_u1 h).1 ?_
  show (Jvm.ClassFile.Reader.u2 >>= fun x => pure (Instr.invokespecial x) : Jvm.ClassFile.Reader Jvm.ClassFile.DecodeError Instr) c (p + 1) = _
  exact q_bind (q_u2 (q_u1 h).2).1 rfl
theorem q_o184 {a b : Nat} (h : q_bs c p 3 = [184, a, b]) : decode c p = .ok (.invokestatic (a * 256 + b), 3) := by
  refine q_dec ?_
  unfold Jvm.ClassFile.Decoder.instr
  refine q_bind (q_u1 h).1 ?_
  show (Jvm.ClassFile.Reader.u2 >>= fun x => pure (Instr.invokestatic x) : Jvm.ClassFile.Reader Jvm.ClassFile.DecodeError Instr) c (p + 1) = _
  exact q_bind (q_u2 (q_u1 h).2).1 rfl
theorem q_o16 {a : Nat} {v : Int} (h : q_bs c p 2 = [16, a]) (hv : Jvm.ClassFile.Reader.signed 8 a = v) : decode c p = .ok (.bipush v, 2) := by
  refine q_dec ?_
  unfold Jvm.ClassFile.Decoder.instr
  refine q_bind (q_u1 h).1 ?_
  show (Jvm.ClassFile.Reader.signed 8 <$> Jvm.ClassFile.Reader.u1 >>= fun x => pure (Instr.bipush x) : Jvm.ClassFile.Reader Jvm.ClassFile.DecodeError Instr) c (p + 1) = _
  subst hv; exact q_bind (q_map (q_u1 (q_u1 h).2).1) rfl
theorem q_o17 {a b : Nat} {v : Int} (h : q_bs c p 3 = [17, a, b]) (hv : Jvm.ClassFile.Reader.signed 16 (a * 256 + b) = v) : decode c p = .ok (.sipush v, 3) := by
  refine q_dec ?_
  unfold Jvm.ClassFile.Decoder.instr
  refine q_bind (q_u1 h).1 ?_
  show (Jvm.ClassFile.Reader.signed 16 <$> Jvm.ClassFile.Reader.u2 >>= fun x => pure (Instr.sipush x) : Jvm.ClassFile.Reader Jvm.ClassFile.DecodeError Instr) c (p + 1) = _
  subst hv; exact q_bind (q_map (q_u2 (q_u1 h).2).1) rfl
theorem q_o167 {a b : Nat} {v : Int} (h : q_bs c p 3 = [167, a, b]) (hv : Jvm.ClassFile.Reader.signed 16 (a * 256 + b) = v) : decode c p = .ok (.goto v, 3) := by
  refine q_dec ?_
  unfold Jvm.ClassFile.Decoder.instr
  refine q_bind (q_u1 h).1 ?_
  show (Jvm.ClassFile.Reader.signed 16 <$> Jvm.ClassFile.Reader.u2 >>= fun x => pure (Instr.goto x) : Jvm.ClassFile.Reader Jvm.ClassFile.DecodeError Instr) c (p + 1) = _
  subst hv; exact q_bind (q_map (q_u2 (q_u1 h).2).1) rfl
theorem q_o153 {a b : Nat} {v : Int} (h : q_bs c p 3 = [153, a, b]) (hv : Jvm.ClassFile.Reader.signed 16 (a * 256 + b) = v) : decode c p = .ok (.ifCond .eq v, 3) := by
  refine q_dec ?_
  unfold Jvm.ClassFile.Decoder.instr
  refine q_bind (q_u1 h).1 ?_
  show (Jvm.ClassFile.Reader.signed 16 <$> Jvm.ClassFile.Reader.u2 >>= fun x => pure (Instr.ifCond .eq x) : Jvm.ClassFile.Reader Jvm.ClassFile.DecodeError Instr) c (p + 1) = _
  subst hv; exact q_bind (q_map (q_u2 (q_u1 h).2).1) rfl
theorem q_o154 {a b : Nat} {v : Int} (h : q_bs c p 3 = [154, a, b]) (hv : Jvm.ClassFile.Reader.signed 16 (a * 256 + b) = v) : decode c p = .ok (.ifCond .ne v, 3) := by
  refine q_dec ?_
  unfold Jvm.ClassFile.Decoder.instr
  refine q_bind (q_u1 h).1 ?_
  show (Jvm.ClassFile.Reader.signed 16 <$> Jvm.ClassFile.Reader.u2 >>= fun x => pure (Instr.ifCond .ne x) : Jvm.ClassFile.Reader Jvm.ClassFile.DecodeError Instr) c (p + 1) = _
  subst hv; exact q_bind (q_map (q_u2 (q_u1 h).2).1) rfl
theorem q_o155 {a b : Nat} {v : Int} (h : q_bs c p 3 = [155, a, b]) (hv : Jvm.ClassFile.Reader.signed 16 (a * 256 + b) = v) : decode c p = .ok (.ifCond .lt v, 3) := by
  refine q_dec ?_
  unfold Jvm.ClassFile.Decoder.instr
  refine q_bind (q_u1 h).1 ?_
  show (Jvm.ClassFile.Reader.signed 16 <$> Jvm.ClassFile.Reader.u2 >>= fun x => pure (Instr.ifCond .lt x) : Jvm.ClassFile.Reader Jvm.ClassFile.DecodeError Instr) c (p + 1) = _
  subst hv; exact q_bind (q_map (q_u2 (q_u1 h).2).1) rfl
theorem q_o156 {a b : Nat} {v : Int} (h : q_bs c p 3 = [156, a, b]) (hv : Jvm.ClassFile.Reader.signed 16 (a * 256 + b) = v) : decode c p = .ok (.ifCond .ge v, 3) := by
  refine q_dec ?_
  unfold Jvm.ClassFile.Decoder.instr
  refine q_bind (q_u1 h).1 ?_
  show (Jvm.ClassFile.Reader.signed 16 <$> Jvm.ClassFile.Reader.u2 >>= fun x => pure (Instr.ifCond .ge x) : Jvm.ClassFile.Reader Jvm.ClassFile.DecodeError Instr) c (p + 1) = _
  subst hv; exact q_bind (q_map (q_u2 (q_u1 h).2).1) rfl
theorem q_o157 {a b : Nat} {v : Int} (h : q_bs c p 3 = [157, a, b]) (hv : Jvm.ClassFile.Reader.signed 16 (a * 256 + b) = v) : decode c p = .ok (.ifCond .gt v, 3) := by
  refine q_dec ?_
  unfold Jvm.ClassFile.Decoder.instr
  refine q_bind (q_u1 h).1 ?_
  show (Jvm.ClassFile.Reader.signed 16 <$> Jvm.ClassFile.Reader.u2 >>= fun x => pure (Instr.ifCond .gt x) : Jvm.ClassFile.Reader Jvm.ClassFile.DecodeError Instr) c (p + 1) = _
  subst hv; exact q_bind (q_map (q_u2 (q_u1 h).2).1) rfl
theorem q_o158 {a b : Nat} {v : Int} (h : q_bs c p 3 = [158, a, b]) (hv : Jvm.ClassFile.Reader.signed 16 (a * 256 + b) = v) : decode c p = .ok (.ifCond .le v, 3) := by
  refine q_dec ?_
  unfold Jvm.ClassFile.Decoder.instr
  refine q_bind (q_u1 h).1 ?_
  show (Jvm.ClassFile.Reader.signed 16 <$> Jvm.ClassFile.Reader.u2 >>= fun x => pure (Instr.ifCond .le x) : Jvm.ClassFile.Reader Jvm.ClassFile.DecodeError Instr) c (p + 1) = _
  subst hv; exact q_bind (q_map (q_u2 (q_u1 h).2).1) rfl
theorem q_o159 {a b : Nat} {v : Int} (h : q_bs c p 3 = [159, a, b]) (hv : Jvm.ClassFile.Reader.signed 16 (a * 256 + b) = v) : decode c p = .ok (.if_icmp .eq v, 3) := by
  refine q_dec ?_
  unfold Jvm.ClassFile.Decoder.instr
  refine q_bind (q_u1 h).1 ?_
  show (Jvm.ClassFile.Reader.signed 16 <$> Jvm.ClassFile.Reader.u2 >>= fun x => pure (Instr.if_icmp .eq x) : Jvm.ClassFile.Reader Jvm.ClassFile.DecodeError Instr) c (p + 1) = _
  subst hv; exact q_bind (q_map (q_u2 (q_u1 h).2).1) rfl
theorem q_o160 {a b : Nat} {v : Int} (h : q_bs c p 3 = [160, a, b]) (hv : Jvm.ClassFile.Reader.signed 16 (a * 256 + b) = v) : decode c p = .ok (.if_icmp .ne v, 3) := by
  refine q_dec ?_
  unfold Jvm.ClassFile.Decoder.instr
  refine q_bind (q_u1 h).1 ?_
  show (Jvm.ClassFile.Reader.signed 16 <$> Jvm.ClassFile.Reader.u2 >>= fun x => pure (Instr.if_icmp .ne x) : Jvm.ClassFile.Reader Jvm.ClassFile.DecodeError Instr) c (p + 1) = _
  subst hv; exact q_bind (q_map (q_u2 (q_u1 h).2).1) rfl
theorem q_o161 {a b : Nat} {v : Int} (h : q_bs c p 3 = [161, a, b]) (hv : Jvm.ClassFile.Reader.signed 16 (a * 256 + b) = v) : decode c p = .ok (.if_icmp .lt v, 3) := by
  refine q_dec ?_
  unfold Jvm.ClassFile.Decoder.instr
  refine q_bind (q_u1 h).1 ?_
  show (Jvm.ClassFile.Reader.signed 16 <$> Jvm.ClassFile.Reader.u2 >>= fun x => pure (Instr.if_icmp .lt x) : Jvm.ClassFile.Reader Jvm.ClassFile.DecodeError Instr) c (p + 1) = _
  subst hv; exact q_bind (q_map (q_u2 (q_u1 h).2).1) rfl
theorem q_o162 {a b : Nat} {v : Int} (h : q_bs c p 3 = [162, a, b]) (hv : Jvm.ClassFile.Reader.signed 16 (a * 256 + b) = v) : decode c p = .ok (.if_icmp .ge v, 3) := by
  refine q_dec ?_
  unfold Jvm.ClassFile.Decoder.instr
  refine q_bind (q_u1 h).1 ?_
  show (Jvm.ClassFile.Reader.signed 16 <$> Jvm.ClassFile.Reader.u2 >>= fun x => pure (Instr.if_icmp .ge x) : Jvm.ClassFile.Reader Jvm.ClassFile.DecodeError Instr) c (p + 1) = _
  subst hv; exact q_bind (q_map (q_u2 (q_u1 h).2).1) rfl
theorem q_o163 {a b : Nat} {v : Int} (h : q_bs c p 3 = [163, a, b]) (hv : Jvm.ClassFile.Reader.signed 16 (a * 256 + b) = v) : decode c p = .ok (.if_icmp .gt v, 3) := by
  refine q_dec ?_
  unfold Jvm.ClassFile.Decoder.instr
  refine q_bind (q_u1 h).1 ?_
  show (Jvm.ClassFile.Reader.signed 16 <$> Jvm.ClassFile.Reader.u2 >>= fun x => pure (Instr.if_icmp .gt x) : Jvm.ClassFile.Reader Jvm.ClassFile.DecodeError Instr) c (p + 1) = _
  subst hv; exact q_bind (q_map (q_u2 (q_u1 h).2).1) rfl
theorem q_o164 {a b : Nat} {v : Int} (h : q_bs c p 3 = [164, a, b]) (hv : Jvm.ClassFile.Reader.signed 16 (a * 256 + b) = v) : decode c p = .ok (.if_icmp .le v, 3) := by
  refine q_dec ?_
  unfold Jvm.ClassFile.Decoder.instr
  refine q_bind (q_u1 h).1 ?_
  show (Jvm.ClassFile.Reader.signed 16 <$> Jvm.ClassFile.Reader.u2 >>= fun x => pure (Instr.if_icmp .le x) : Jvm.ClassFile.Reader Jvm.ClassFile.DecodeError Instr) c (p + 1) = _
  subst hv; exact q_bind (q_map (q_u2 (q_u1 h).2).1) rfl
theorem q_o132 {a b : Nat} {v : Int} (h : q_bs c p 3 = [132, a, b]) (hv : Jvm.ClassFile.Reader.signed 8 b = v) : decode c p = .ok (.iinc a v, 3) := by
  refine q_dec ?_
  unfold Jvm.ClassFile.Decoder.instr
  refine q_bind (q_u1 h).1 ?_
  show (Jvm.ClassFile.Reader.u1 >>= fun x => Jvm.ClassFile.Reader.signed 8 <$> Jvm.ClassFile.Reader.u1 >>= fun y => pure (Instr.iinc x y) : Jvm.ClassFile.Reader Jvm.ClassFile.DecodeError Instr) c (p + 1) = _
  subst hv; exact q_bind (q_u1 (q_u1 h).2).1 (q_bind (q_map (q_u1 (q_u1 (q_u1 h).2).2).1) rfl)
end QD
