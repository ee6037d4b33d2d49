theorem dL_device_0 : decode cL_device 0 = .ok (.aload_n 3, 1) := by decide +kernel
theorem dL_device_1 : decode cL_device 1 = .ok (.iconst 0, 1) := q_o3 (by decide +kernel)
theorem dL_device_2 : decode cL_device 2 = .ok (.aload_n 0, 1) := q_o42 (by decide +kernel)
theorem dL_device_3 : decode cL_device 3 = .ok (.iload_n 1, 1) := q_o27 (by decide +kernel)
theorem dL_device_4 : decode cL_device 4 = .ok (.iload_n 2, 1) := q_o28 (by decide +kernel)
theorem dL_device_5 : decode cL_device 5 = .ok (.invokevirtual 7, 3) := q_o182 (a := 0) (b := 7) (by decide +kernel)
theorem dL_device_8 : decode cL_device 8 = .ok (.i2l, 1) := by decide +kernel
theorem dL_device_9 : decode cL_device 9 = .ok (.lastore, 1) := by decide +kernel
theorem dL_device_10 : decode cL_device 10 = .ok (.goto 7, 3) := q_o167 (a := 0) (b := 7) (by decide +kernel) rfl
theorem dL_device_13 : decode cL_device 13 = .ok (.astore 4, 2) := by decide +kernel
theorem dL_device_15 : decode cL_device 15 = .ok (.iconst 1, 1) := q_o4 (by decide +kernel)
theorem dL_device_16 : decode cL_device 16 = .ok (.ireturn, 1) := q_o172 (by decide +kernel)
theorem dL_device_17 : decode cL_device 17 = .ok (.iconst 0, 1) := q_o3 (by decide +kernel)
theorem dL_device_18 : decode cL_device 18 = .ok (.ireturn, 1) := q_o172 (by decide +kernel)
theorem dX9_device_0 : decode cX9_device 0 = .ok (.aload_n 0, 1) := q_o42 (by decide +kernel)
theorem dX9_device_1 : decode cX9_device 1 = .ok (.getfield 32, 3) := q_o180 (a := 0) (b := 32) (by decide +kernel)
theorem dX9_device_4 : decode cX9_device 4 = .ok (.iload_n 1, 1) := q_o27 (by decide +kernel)
theorem dX9_device_5 : decode cX9_device 5 = .ok (.invokevirtual 153, 3) := q_o182 (a := 0) (b := 153) (by decide +kernel)
theorem dX9_device_8 : decode cX9_device 8 = .ok (.ifCond .eq 13, 3) := q_o153 (a := 0) (b := 13) (by decide +kernel) rfl
theorem dX9_device_11 : decode cX9_device 11 = .ok (.iload_n 2, 1) := q_o28 (by decide +kernel)
theorem dX9_device_12 : decode cX9_device 12 = .ok (.ifCond .lt 9, 3) := q_o155 (a := 0) (b := 9) (by decide +kernel) rfl
theorem dX9_device_15 : decode cX9_device 15 = .ok (.iload_n 2, 1) := q_o28 (by decide +kernel)
theorem dX9_device_16 : decode cX9_device 16 = .ok (.bipush 12, 2) := q_o16 (a := 12) (by decide +kernel) rfl
theorem dX9_device_18 : decode cX9_device 18 = .ok (.if_icmp .le 13, 3) := q_o164 (a := 0) (b := 13) (by decide +kernel) rfl
theorem dX9_device_21 : decode cX9_device 21 = .ok (.new 161, 3) := by decide +kernel
theorem dX9_device_24 : decode cX9_device 24 = .ok (.dup, 1) := q_o89 (by decide +kernel)
theorem dX9_device_25 : decode cX9_device 25 = .ok (.ldc 163, 2) := by decide +kernel
theorem dX9_device_27 : decode cX9_device 27 = .ok (.invokespecial 165, 3) := q_o183 (a := 0) (b := 165) (by decide +kernel)
theorem dX9_device_30 : decode cX9_device 30 = .ok (.athrow, 1) := by decide +kernel
theorem dX9_device_31 : decode cX9_device 31 = .ok (.iload_n 2, 1) := q_o28 (by decide +kernel)
theorem dX9_device_32 : decode cX9_device 32 = .ok (.tableswitch 211 0 11 #[64, 76, 89, 102, 115, 128, 141, 154, 167, 180, 193, 202], 64) := by decide +kernel
theorem dX9_device_96 : decode cX9_device 96 = .ok (.aload_n 0, 1) := q_o42 (by decide +kernel)
theorem dX9_device_97 : decode cX9_device 97 = .ok (.getfield 47, 3) := q_o180 (a := 0) (b := 47) (by decide +kernel)
theorem dX9_device_100 : decode cX9_device 100 = .ok (.getfield 157, 3) := q_o180 (a := 0) (b := 157) (by decide +kernel)
theorem dX9_device_103 : decode cX9_device 103 = .ok (.iconst 0, 1) := q_o3 (by decide +kernel)
theorem dX9_device_104 : decode cX9_device 104 = .ok (.iload_n 1, 1) := q_o27 (by decide +kernel)
theorem dX9_device_105 : decode cX9_device 105 = .ok (.iadd, 1) := q_o96 (by decide +kernel)
theorem dX9_device_106 : decode cX9_device 106 = .ok (.iaload, 1) := q_o46 (by decide +kernel)
theorem dX9_device_107 : decode cX9_device 107 = .ok (.ireturn, 1) := q_o172 (by decide +kernel)
theorem dX9_device_108 : decode cX9_device 108 = .ok (.aload_n 0, 1) := q_o42 (by decide +kernel)
theorem dX9_device_109 : decode cX9_device 109 = .ok (.getfield 47, 3) := q_o180 (a := 0) (b := 47) (by decide +kernel)
theorem dX9_device_112 : decode cX9_device 112 = .ok (.getfield 157, 3) := q_o180 (a := 0) (b := 157) (by decide +kernel)
theorem dX9_device_115 : decode cX9_device 115 = .ok (.bipush 8, 2) := q_o16 (a := 8) (by decide +kernel) rfl
theorem dX9_device_117 : decode cX9_device 117 = .ok (.iload_n 1, 1) := q_o27 (by decide +kernel)
theorem dX9_device_118 : decode cX9_device 118 = .ok (.iadd, 1) := q_o96 (by decide +kernel)
theorem dX9_device_119 : decode cX9_device 119 = .ok (.iaload, 1) := q_o46 (by decide +kernel)
theorem dX9_device_120 : decode cX9_device 120 = .ok (.ireturn, 1) := q_o172 (by decide +kernel)
theorem dX9_device_121 : decode cX9_device 121 = .ok (.aload_n 0, 1) := q_o42 (by decide +kernel)
theorem dX9_device_122 : decode cX9_device 122 = .ok (.getfield 47, 3) := q_o180 (a := 0) (b := 47) (by decide +kernel)
theorem dX9_device_125 : decode cX9_device 125 = .ok (.getfield 157, 3) := q_o180 (a := 0) (b := 157) (by decide +kernel)
theorem dX9_device_128 : decode cX9_device 128 = .ok (.bipush 16, 2) := q_o16 (a := 16) (by decide +kernel) rfl
theorem dX9_device_130 : decode cX9_device 130 = .ok (.iload_n 1, 1) := q_o27 (by decide +kernel)
theorem dX9_device_131 : decode cX9_device 131 = .ok (.iadd, 1) := q_o96 (by decide +kernel)
theorem dX9_device_132 : decode cX9_device 132 = .ok (.iaload, 1) := q_o46 (by decide +kernel)
theorem dX9_device_133 : decode cX9_device 133 = .ok (.ireturn, 1) := q_o172 (by decide +kernel)
theorem dX9_device_134 : decode cX9_device 134 = .ok (.aload_n 0, 1) := q_o42 (by decide +kernel)
theorem dX9_device_135 : decode cX9_device 135 = .ok (.getfield 47, 3) := q_o180 (a := 0) (b := 47) (by decide +kernel)
theorem dX9_device_138 : decode cX9_device 138 = .ok (.getfield 157, 3) := q_o180 (a := 0) (b := 157) (by decide +kernel)
theorem dX9_device_141 : decode cX9_device 141 = .ok (.bipush 24, 2) := q_o16 (a := 24) (by decide +kernel) rfl
theorem dX9_device_143 : decode cX9_device 143 = .ok (.iload_n 1, 1) := q_o27 (by decide +kernel)
theorem dX9_device_144 : decode cX9_device 144 = .ok (.iadd, 1) := q_o96 (by decide +kernel)
theorem dX9_device_145 : decode cX9_device 145 = .ok (.iaload, 1) := q_o46 (by decide +kernel)
theorem dX9_device_146 : decode cX9_device 146 = .ok (.ireturn, 1) := q_o172 (by decide +kernel)
theorem dX9_device_147 : decode cX9_device 147 = .ok (.aload_n 0, 1) := q_o42 (by decide +kernel)
theorem dX9_device_148 : decode cX9_device 148 = .ok (.getfield 47, 3) := q_o180 (a := 0) (b := 47) (by decide +kernel)
theorem dX9_device_151 : decode cX9_device 151 = .ok (.getfield 157, 3) := q_o180 (a := 0) (b := 157) (by decide +kernel)
theorem dX9_device_154 : decode cX9_device 154 = .ok (.bipush 32, 2) := q_o16 (a := 32) (by decide +kernel) rfl
theorem dX9_device_156 : decode cX9_device 156 = .ok (.iload_n 1, 1) := q_o27 (by decide +kernel)
theorem dX9_device_157 : decode cX9_device 157 = .ok (.iadd, 1) := q_o96 (by decide +kernel)
theorem dX9_device_158 : decode cX9_device 158 = .ok (.iaload, 1) := q_o46 (by decide +kernel)
theorem dX9_device_159 : decode cX9_device 159 = .ok (.ireturn, 1) := q_o172 (by decide +kernel)
theorem dX9_device_160 : decode cX9_device 160 = .ok (.aload_n 0, 1) := q_o42 (by decide +kernel)
theorem dX9_device_161 : decode cX9_device 161 = .ok (.getfield 47, 3) := q_o180 (a := 0) (b := 47) (by decide +kernel)
theorem dX9_device_164 : decode cX9_device 164 = .ok (.getfield 157, 3) := q_o180 (a := 0) (b := 157) (by decide +kernel)
theorem dX9_device_167 : decode cX9_device 167 = .ok (.bipush 40, 2) := q_o16 (a := 40) (by decide +kernel) rfl
theorem dX9_device_169 : decode cX9_device 169 = .ok (.iload_n 1, 1) := q_o27 (by decide +kernel)
theorem dX9_device_170 : decode cX9_device 170 = .ok (.iadd, 1) := q_o96 (by decide +kernel)
theorem dX9_device_171 : decode cX9_device 171 = .ok (.iaload, 1) := q_o46 (by decide +kernel)
theorem dX9_device_172 : decode cX9_device 172 = .ok (.ireturn, 1) := q_o172 (by decide +kernel)
theorem dX9_device_173 : decode cX9_device 173 = .ok (.aload_n 0, 1) := q_o42 (by decide +kernel)
theorem dX9_device_174 : decode cX9_device 174 = .ok (.getfield 47, 3) := q_o180 (a := 0) (b := 47) (by decide +kernel)
theorem dX9_device_177 : decode cX9_device 177 = .ok (.getfield 157, 3) := q_o180 (a := 0) (b := 157) (by decide +kernel)
theorem dX9_device_180 : decode cX9_device 180 = .ok (.bipush 48, 2) := q_o16 (a := 48) (by decide +kernel) rfl
theorem dX9_device_182 : decode cX9_device 182 = .ok (.iload_n 1, 1) := q_o27 (by decide +kernel)
theorem dX9_device_183 : decode cX9_device 183 = .ok (.iadd, 1) := q_o96 (by decide +kernel)
theorem dX9_device_184 : decode cX9_device 184 = .ok (.iaload, 1) := q_o46 (by decide +kernel)
theorem dX9_device_185 : decode cX9_device 185 = .ok (.ireturn, 1) := q_o172 (by decide +kernel)
theorem dX9_device_186 : decode cX9_device 186 = .ok (.aload_n 0, 1) := q_o42 (by decide +kernel)
theorem dX9_device_187 : decode cX9_device 187 = .ok (.getfield 47, 3) := q_o180 (a := 0) (b := 47) (by decide +kernel)
theorem dX9_device_190 : decode cX9_device 190 = .ok (.getfield 157, 3) := q_o180 (a := 0) (b := 157) (by decide +kernel)
theorem dX9_device_193 : decode cX9_device 193 = .ok (.bipush 56, 2) := q_o16 (a := 56) (by decide +kernel) rfl
theorem dX9_device_195 : decode cX9_device 195 = .ok (.iload_n 1, 1) := q_o27 (by decide +kernel)
theorem dX9_device_196 : decode cX9_device 196 = .ok (.iadd, 1) := q_o96 (by decide +kernel)
theorem dX9_device_197 : decode cX9_device 197 = .ok (.iaload, 1) := q_o46 (by decide +kernel)
theorem dX9_device_198 : decode cX9_device 198 = .ok (.ireturn, 1) := q_o172 (by decide +kernel)
theorem dX9_device_199 : decode cX9_device 199 = .ok (.aload_n 0, 1) := q_o42 (by decide +kernel)
theorem dX9_device_200 : decode cX9_device 200 = .ok (.getfield 47, 3) := q_o180 (a := 0) (b := 47) (by decide +kernel)
theorem dX9_device_203 : decode cX9_device 203 = .ok (.getfield 157, 3) := q_o180 (a := 0) (b := 157) (by decide +kernel)
theorem dX9_device_206 : decode cX9_device 206 = .ok (.bipush 64, 2) := q_o16 (a := 64) (by decide +kernel) rfl
theorem dX9_device_208 : decode cX9_device 208 = .ok (.iload_n 1, 1) := q_o27 (by decide +kernel)
theorem dX9_device_209 : decode cX9_device 209 = .ok (.iadd, 1) := q_o96 (by decide +kernel)
theorem dX9_device_210 : decode cX9_device 210 = .ok (.iaload, 1) := q_o46 (by decide +kernel)
theorem dX9_device_211 : decode cX9_device 211 = .ok (.ireturn, 1) := q_o172 (by decide +kernel)
theorem dX9_device_212 : decode cX9_device 212 = .ok (.aload_n 0, 1) := q_o42 (by decide +kernel)
theorem dX9_device_213 : decode cX9_device 213 = .ok (.getfield 47, 3) := q_o180 (a := 0) (b := 47) (by decide +kernel)
theorem dX9_device_216 : decode cX9_device 216 = .ok (.getfield 157, 3) := q_o180 (a := 0) (b := 157) (by decide +kernel)
theorem dX9_device_219 : decode cX9_device 219 = .ok (.bipush 72, 2) := q_o16 (a := 72) (by decide +kernel) rfl
theorem dX9_device_221 : decode cX9_device 221 = .ok (.iload_n 1, 1) := q_o27 (by decide +kernel)
theorem dX9_device_222 : decode cX9_device 222 = .ok (.iadd, 1) := q_o96 (by decide +kernel)
theorem dX9_device_223 : decode cX9_device 223 = .ok (.iaload, 1) := q_o46 (by decide +kernel)
theorem dX9_device_224 : decode cX9_device 224 = .ok (.ireturn, 1) := q_o172 (by decide +kernel)
theorem dX9_device_225 : decode cX9_device 225 = .ok (.aload_n 0, 1) := q_o42 (by decide +kernel)
theorem dX9_device_226 : decode cX9_device 226 = .ok (.getfield 47, 3) := q_o180 (a := 0) (b := 47) (by decide +kernel)
theorem dX9_device_229 : decode cX9_device 229 = .ok (.iload_n 1, 1) := q_o27 (by decide +kernel)
theorem dX9_device_230 : decode cX9_device 230 = .ok (.invokevirtual 168, 3) := q_o182 (a := 0) (b := 168) (by decide +kernel)
theorem dX9_device_233 : decode cX9_device 233 = .ok (.ireturn, 1) := q_o172 (by decide +kernel)
theorem dX9_device_234 : decode cX9_device 234 = .ok (.aload_n 0, 1) := q_o42 (by decide +kernel)
theorem dX9_device_235 : decode cX9_device 235 = .ok (.getfield 47, 3) := q_o180 (a := 0) (b := 47) (by decide +kernel)
theorem dX9_device_238 : decode cX9_device 238 = .ok (.iload_n 1, 1) := q_o27 (by decide +kernel)
theorem dX9_device_239 : decode cX9_device 239 = .ok (.invokevirtual 171, 3) := q_o182 (a := 0) (b := 171) (by decide +kernel)
theorem dX9_device_242 : decode cX9_device 242 = .ok (.ireturn, 1) := q_o172 (by decide +kernel)
theorem dX9_device_243 : decode cX9_device 243 = .ok (.aload_n 0, 1) := q_o42 (by decide +kernel)
theorem dX9_device_244 : decode cX9_device 244 = .ok (.getfield 47, 3) := q_o180 (a := 0) (b := 47) (by decide +kernel)
theorem dX9_device_247 : decode cX9_device 247 = .ok (.getfield 157, 3) := q_o180 (a := 0) (b := 157) (by decide +kernel)
theorem dX9_device_250 : decode cX9_device 250 = .ok (.bipush 88, 2) := q_o16 (a := 88) (by decide +kernel) rfl
theorem dX9_device_252 : decode cX9_device 252 = .ok (.iload_n 1, 1) := q_o27 (by decide +kernel)
theorem dX9_device_253 : decode cX9_device 253 = .ok (.iadd, 1) := q_o96 (by decide +kernel)
theorem dX9_device_254 : decode cX9_device 254 = .ok (.iaload, 1) := q_o46 (by decide +kernel)
theorem dX9_device_255 : decode cX9_device 255 = .ok (.ireturn, 1) := q_o172 (by decide +kernel)

/-! 'throw new X("text")' where X's constructor links its superclass's at number ix, by the code rx: the kit's row vx_throwS and the library's ctorThrowS know ix = 7 alone; the proofs follow theirs -/
def q_at (own : String) (ic : Nat) (X : String) (ix : Nat) (rx : ByteArray) (Y : String) (r : List String) : List Cond :=
  Bundle.throwableAtoms ++ Bundle.throwableSAtoms ++ (Bundle.passSAtoms X Y ix rx ++ Bundle.chainSAtoms Y r) ++
  [.methodLink own ic (Bundle.initS X), .instantiable X 6, .castable X X, .selects X Bundle.tFill0 Bundle.tFill0, .selects X Bundle.tFill Bundle.tFill,
   .lays X Bundle.tN "cause" "Ljava/lang/Throwable;", .lays X Bundle.tN "stackTrace" Bundle.steD, .lays X Bundle.tN "suppressedExceptions" Bundle.listD, .lays X Bundle.tN "detailMessage" "Ljava/lang/String;",
   .isRef (.static Bundle.tN "UNASSIGNED_STACK" Bundle.steD), .isRef (.static Bundle.tN "SUPPRESSED_SENTINEL" Bundle.listD),
   .fieldLink Bundle.tN 198 Bundle.tN "backtrace" "Ljava/lang/Object;", .lays Bundle.tN Bundle.tN "backtrace" "Ljava/lang/Object;", .lays X Bundle.tN "backtrace" "Ljava/lang/Object;"]
section QT
variable {p : Program} {l : Launch} {e : Env} {R : Room} {s : State} {m₀ : MethodId} {args : Array Value} {below : List Frame} {meth : Method} {c : Code} {W : State} {locs : List Loc} {cells slots : Nat}
set_option maxHeartbeats 4000000 in
theorem q_ctor (X : Stand p l e R s m₀ args below meth c W locs cells slots) (hexec : p.tables.exec = Jvm.exec) (htr : e.platform.stackTraces = false) {own cls Y9 : String} {r9 : List String} {ic ix : Nat} {rx : ByteArray}
    (x0 : decode rx 0 = .ok (.aload_n 0, 1)) (x1 : decode rx 1 = .ok (.aload_n 1, 1)) (x2 : decode rx 2 = .ok (.invokespecial ix, 3)) (x5 : decode rx 5 = .ok (.return_, 1))
    (hown : s.vm.findClass own = some m₀.cls) (hcls : Bundle.fit cls = true) (hY9 : Bundle.fit Y9 = true) (hnames : ∀ n ∈ r9, Bundle.fit n = true)
    (h : ∀ a ∈ q_at own ic cls ix rx Y9 r9, a.before args s = true)
    (hlocs : ∀ x ∈ locs, ∀ cell, s.heap[x.base]? = some cell → cell.vm.isStatics = false)
    {a : Addr} {cX : ClassId} {kX : Class} (hfoundX : s.vm.findClass cls = some cX) (hkX : s.vm.classes[cX]? = some kX) (hcell : W.heap[a]? = some (freshCell cX kX)) (hnew : s.heap.size ≤ a)
    {msg : Value} (hmsg : msg.isRef = true)
    {g : JFrame} (hg : g.method = m₀) (hsize : g.locals.size = c.maxLocals) (hlocked : g.locked = none) (hentered : g.entered = []) {rest : List Value} (hstack : g.stack = msg :: .ref a :: .ref a :: rest)
    (hd6 : decode c.code g.pc = .ok (.invokespecial ic, 3)) (hd9 : decode c.code (g.pc + 3) = .ok (.athrow, 1)) (hout : ∀ x ∈ c.exceptionTable.toList, covers x (g.pc + 3) = false)
    (hRframes : r9.length + 4 < R.frames) (hRlocals : 2 * g.monitorRoom + ((Value.ref a :: rest).map fun v => v.category).sum + (13 * (r9.length + 2) + 42) ≤ R.locals) (hlocks : meth.locks = false) :
    ∃ U : State, Steps p.tables e below (W.setTop g) U ∧ U.status = .running ∧ Ended U below (.threw a) ∧ s.WarmedH U.vm ∧ s.sameButNew ({ U with vm := s.vm } : State) locs cells slots ∧
      ∃ ce : Cell, U.heap[a]? = some ce ∧ ce.vm = .none ∧ s.vm.findClass cls = some ce.cls := by
  have howns : e.platform.frameOwnsMonitors = true := by rw [X.admits.platform]
  have hfin : e.platform.finalization = false := by rw [X.admits.platform]
  have hpl : e.platform.magicAccessors = ({} : Platform).magicAccessors := by rw [X.admits.platform]
  have a' : ∀ x, x ∈ q_at own ic cls ix rx Y9 r9 → x.holds args s none s [] = true := fun x hx => h x hx
  obtain ⟨T, Z0, L, -, Y⟩ := ThrowableC.of_atoms (args := args) howns hfin hpl (fun x hx => h x (by simp [q_at, hx]))
  obtain ⟨Z, M, LZ, LM, hnZ⟩ := Init0T.ofS_atoms (args := args) hpl L Y (fun x hx => h x (by simp [q_at, hx]))
  obtain ⟨P1, L1, hP1m, hs1⟩ := PassC.ofS_atoms (args := args) (s := s) hpl (X := cls) (Y := Y9) (Bundle.fit_spec hcls).1 (Bundle.fit_spec hY9).2 x0 x1 x2 x5 (fun x hx => h x (by simp only [q_at, List.mem_append]; exact Or.inl (Or.inr (Or.inl hx))))
  obtain ⟨P2, Ps, hlen, L2, hL2, hP2m, hlink2, hlink⟩ := Bundle.chainS (args := args) hpl hnZ r9 Y9 hY9 hnames (fun x hx => h x (by simp only [q_at, List.mem_append]; exact Or.inl (Or.inr (Or.inr hx))))
  have hlink1 : P1.sup = P2.m := Option.some.inj (hs1.symm.trans hP2m)
  have hfound : s.vm.findClass cls = some P1.m.cls := findClass_of_methodNamed hP1m
  cases Option.some.inj (hfoundX.symm.trans hfound)
  obtain ⟨c1, kX', hc1, hk, hord, -, -, hn6⟩ := Cond.instantiable_spec (a' (.instantiable cls 6) (by simp [q_at]))
  cases Option.some.inj (hc1.symm.trans hfound)
  cases Option.some.inj (hkX.symm.trans hk)
  have hsel0 : selectMethod e.platform s.vm P1.m.cls T.fill0 = .method T.fill0 := by
    obtain ⟨c2, r2, m2, q1, q2, q3, q4, -⟩ := Cond.selects_spec (a' (.selects cls Bundle.tFill0 Bundle.tFill0) (by simp [q_at]))
    cases Option.some.inj (q1.symm.trans hfound)
    cases Option.some.inj (q2.symm.trans (State.methodFound?_of_named Y.fill0 (by decide)))
    cases Option.some.inj (q3.symm.trans Y.fill0)
    rw [Launch.admits_selectMethod X.admits]; exact q4
  have hselF : selectMethod e.platform s.vm P1.m.cls T.fill = .method T.fill := by
    obtain ⟨c2, r2, m2, q1, q2, q3, q4, -⟩ := Cond.selects_spec (a' (.selects cls Bundle.tFill Bundle.tFill) (by simp [q_at]))
    cases Option.some.inj (q1.symm.trans hfound)
    cases Option.some.inj (q2.symm.trans (State.methodFound?_of_named Y.fill (by decide)))
    cases Option.some.inj (q3.symm.trans Y.fill)
    rw [Launch.admits_selectMethod X.admits]; exact q4
  obtain ⟨cellS0, hcS0, hiss⟩ := Y.statics
  obtain ⟨u0, hu0⟩ := Cond.staticRefV Y.unassigned L.unassignedStatic L.statics hcS0 hiss (a' (.isRef (.static Bundle.tN "UNASSIGNED_STACK" Bundle.steD)) (by simp [q_at]))
  obtain ⟨sen, hsen⟩ := Cond.staticRefV Y.sentinel L.sentinelStatic L.statics hcS0 hiss (a' (.isRef (.static Bundle.tN "SUPPRESSED_SENTINEL" Bundle.listD)) (by simp [q_at]))
  obtain ⟨ci198, i198, fB, hk198, hg198, ha198, hsB, -, hnB, htB, hffB⟩ := Cond.ownField (t := .object "java/lang/Object") Y.found L.cls (by decide +kernel) (a' (.fieldLink Bundle.tN 198 Bundle.tN "backtrace" "Ljava/lang/Object;") (by simp [q_at])) (a' (.lays Bundle.tN Bundle.tN "backtrace" "Ljava/lang/Object;") (by simp [q_at])) e.platform hpl
  obtain ⟨cellS, hcS', heS, -, hkeep⟩ := X.same.2.2.2.2.2 T.aS cellS0 hcS0
  have hcellS : W.heap[T.aS]? = some cellS := hcS'
  have hout' : ∀ i, (⟨T.aS, i⟩ : Loc) ∉ locs := fun i hmem => by
    have := hlocs _ hmem cellS0 hcS0
    rw [hiss] at this; cases this
  have hknownS : cellS.vm ≠ .unknown := by
    rw [heS]; intro hu
    rw [show cellS0.vm = .unknown from hu] at hiss
    cases hiss
  have hneS : T.aS ≠ a := Nat.ne_of_lt (Nat.lt_of_lt_of_le (Array.getElem?_eq_some_iff.mp hcS0).1 hnew)
  obtain ⟨iM, hffM⟩ := Y.msg
  obtain ⟨tyC, dC, hdC, hdnC⟩ := Cond.laysAt hfound hk Y.cause (a' (.lays cls Bundle.tN "cause" "Ljava/lang/Throwable;") (by simp [q_at]))
  obtain ⟨tyS, dS, hdS, hdnS⟩ := Cond.laysAt hfound hk Y.stack (a' (.lays cls Bundle.tN "stackTrace" Bundle.steD) (by simp [q_at]))
  obtain ⟨tyP, dP, hdP, hdnP⟩ := Cond.laysAt hfound hk Y.supp (a' (.lays cls Bundle.tN "suppressedExceptions" Bundle.listD) (by simp [q_at]))
  obtain ⟨tyM, dM, hdM, hdnM⟩ := Cond.laysAt hfound hk hffM (a' (.lays cls Bundle.tN "detailMessage" "Ljava/lang/String;") (by simp [q_at]))
  obtain ⟨tyB, dB, hdB, hdnB⟩ := Cond.laysAt hfound hk hffB (a' (.lays cls Bundle.tN "backtrace" "Ljava/lang/Object;") (by simp [q_at]))
  have bC := Cond.laysApart hdB hdC hdnB hdnC (by rw [hnB, Y.causeName]; decide)
  have bS := Cond.laysApart hdB hdS hdnB hdnS (by rw [hnB, Y.stackName]; decide)
  have bP := Cond.laysApart hdB hdP hdnB hdnP (by rw [hnB, Y.suppName]; decide)
  have hskip : SkipFacts T e.platform s (fun u => u) u0 ((preparedCellV T.toThrowableT (freshCell P1.m.cls kX) a u0 sen).withEntry W.cur) :=
    ⟨{ ci198 := ci198, i198 := i198, fBack := fB }, ⟨hk198, hg198, ha198, hsB⟩, by
      have := fresh_default (c := P1.m.cls) tyB
      rw [htB] at this
      simpa [preparedCellV, Cell.setSlot, Cell.withEntry, Array.getElem?_setIfInBounds, bC, bS, bP, bC.symm, bS.symm, bP.symm, defaultValue] using this, fun _ _ => rfl⟩
  obtain ⟨tm, methC, cdC, kC, vm₁, hnC, -, -, -, -, -, -, -, hW₁, st1⟩ := Steps.initColdS (tb := p.tables) (e := e) (below := below) (s := s) (U := W) X.here hexec X.warmed hpl hown (t := Bundle.initS cls) rfl rfl (Bundle.fit_spec hcls).2
    (a' (.methodLink own ic (Bundle.initS cls)) (by simp [q_at])) (h (.instanceMethod (Bundle.initS cls)) (by simp [q_at, Bundle.passSAtoms])) (bytes := rx) (maxL := 2) (h (.code (Bundle.initS cls) rx 2 none) (by simp [q_at, Bundle.passSAtoms]))
    (f := g) hg (a := a) (msg := msg) (rest := .ref a :: rest) hstack hd6
  cases Option.some.inj (hnC.symm.trans hP1m)
  have X₁ := X.noted hW₁
  obtain ⟨vm₂, X₂, st2⟩ := X₁.ctorMessageOffV hexec (g := { g with stack := .ref a :: rest }) hg hsize T L Z LZ M LM (P1 :: P2 :: Ps)
    (fun P hP => by rcases List.mem_cons.mp hP with rfl | hP; exact L1; rcases List.mem_cons.mp hP with rfl | hP; exact L2; exact hL2 P hP) ⟨hlink1, hlink2, hlink⟩ (u0 := u0) (sen := sen) (self := a) hmsg (cell := freshCell P1.m.cls kX) (cellS := cellS)
    hcell (fun _ => by simp) (by simp) rfl rfl hsel0 hselF hcellS hneS hknownS (by rw [hkeep _ (hout' _)]; exact hu0) (by rw [hkeep _ (hout' _)]; exact hsen)
    (Takes.of_laid hk hord tyC (by rw [Y.causeType]; rfl)) (Takes.of_laid hk hord tyS (by rw [Y.stackType]; exact fits_refV_array _ u0)) (Takes.of_laid hk hord tyP (by rw [Y.suppType]; exact fits_refV_object _ sen))
    (Takes.of_laid hk hord tyM (by rw [Y.msgType]; exact fits_refV_object _ ⟨msg, hmsg⟩)) Y.objLocals hskip htr [] hd6
    (by simp only [List.length_cons, hlen]; omega) (by simp only [List.length_cons, hlen]; exact hRlocals)
  obtain ⟨hwalk, hrun, hended, hWU, hsame⟩ := X₂.athrowLeaves hexec (g := { g with stack := .ref a :: rest, pc := g.pc + 3 }) hg hlocked hentered hout (a := a) (rest := rest) rfl hd9
  have hlt : a < ((W.setVm vm₁).setVm vm₂).heap.size := (Array.getElem?_eq_some_iff.mp hcell).1
  have hU := heapAt_setCell_self (s := (W.setVm vm₁).setVm vm₂) (plainBareV T.toThrowableT (freshCell P1.m.cls kX) a u0 sen msg) hlt
  refine ⟨_, st1 _ (fun acts => ?_), hrun, hended, hWU, hsame.weaken (fun y hy hlt' => ?_) (Nat.le_refl _) (Nat.le_refl _), _, hU, rfl, hfound⟩
  · rw [doInvoke_state]
    exact st2 _ hwalk
  · rcases List.mem_append.mp hy with h1 | h1
    · exact h1
    · exfalso
      have hb : y.base = a := by
        simp only [List.mem_cons, List.not_mem_nil, or_false] at h1
        rcases h1 with rfl | rfl | rfl | rfl | rfl <;> rfl
      rw [hb] at hlt'
      exact Nat.not_lt.mpr hnew hlt'
end QT
section QT2
variable {p : Program} {l : Launch} {e : Env} {R : Room} {s : State} {m : MethodId} {args : Array Value} {below : List Frame} {meth : Method} {c : Code} {H : Heap} {locs : List Loc} {cells slots : Nat} {ls : Array Slot} {rest : List Value} {Qc : Array Value → State → Outcome → State → Prop} {XC : String → State → State → Prop} {free : Addr → Prop}
set_option maxHeartbeats 4000000 in
theorem q_throw {cc : ByteArray} {pc : Nat} (hexec : p.tables.exec = Jvm.exec) (hb : c.code = cc) (hl : l.stackTraces = false) {own cls text Y9 : String} {r9 : List String} {ik is ic ix mc ms sa : Nat} {rx : ByteArray} {A : Nat → Prop}
    (x0 : decode rx 0 = .ok (.aload_n 0, 1)) (x1 : decode rx 1 = .ok (.aload_n 1, 1)) (x2 : decode rx 2 = .ok (.invokespecial ix, 3)) (x5 : decode rx 5 = .ok (.return_, 1))
    (hown : s.vm.findClass own = some m.cls) (hcls : Bundle.fit cls = true) (hY9 : Bundle.fit Y9 = true) (hnames : ∀ n ∈ r9, Bundle.fit n = true)
    (hk : (Cond.classLink own ik cls).before args s = true) (hini : (Cond.initialized cls).before args s = true) (hstr : vk_R own is text sa s) (hat : ∀ w ∈ (q_at own ic cls ix rx Y9 r9).filter vx_no, w.before args s = true)
    (hgood : ∀ w ∈ Cond.classLink own ik cls :: Cond.initialized cls :: (q_at own ic cls ix rx Y9 r9).filter vx_no, vx_ot w = true)
    (hU : vx_Zq Bundle.tN "UNASSIGNED_STACK" Bundle.steD A s s.heap) (hN : vx_Zq Bundle.tN "SUPPRESSED_SENTINEL" Bundle.listD A s s.heap) (hS : va_S A s.heap H locs) (hsize : ls.size = c.maxLocals)
    (d0 : decode cc pc = .ok (.new ik, 3)) (d3 : decode cc (pc + 3) = .ok (.dup, 1)) (d4 : decode cc (pc + 4) = .ok (.ldc is, 2)) (d6 : decode cc (pc + 6) = .ok (.invokespecial ic, 3)) (d9 : decode cc (pc + 9) = .ok (.athrow, 1))
    (hout : ∀ x ∈ c.exceptionTable.toList, covers x (pc + 9) = false)
    (hRframes : r9.length + 4 < R.frames) (hRlocals : (rest.map fun v => v.category).sum + (13 * (r9.length + 2) + 43) ≤ R.locals) (hRcells : cells + 1 ≤ R.cells) (hRslots : slots + 6 ≤ R.slots) (hlocks : meth.locks = false)
    (hx : ∀ t : State, s.vm.Alike t.vm → H.size ≤ t.heap.size → (∀ q : Nat, q < H.size → t.heap[q]? = H[q]?) → XC cls s t)
    (hf : ∀ z ∈ locs, free z.base) (hc : cells + 1 ≤ mc) (hs : slots + 6 ≤ ms) :
    W p l e R s m args below meth c H locs cells slots (vx_MQ below Qc XC args s mc ms free) (F0 m pc ls rest) := by
  intro T hT X
  have htr : e.platform.stackTraces = false := (show e.platform.stackTraces = l.stackTraces by rw [X.admits.platform]).trans hl
  have Y := vx_rebase X (R' := { frames := R.frames, locals := R.locals, cells := 1, slots := 6 }) (Nat.le_refl _) (Nat.le_refl _) hRcells hRslots
  obtain ⟨s', hA⟩ : ∃ z, z = (T.setVm s.vm).setFrames (.invoking m args :: below) := ⟨_, rfl⟩
  rw [← hA] at Y
  have hvm : s'.vm = s.vm := by rw [hA]; rfl
  have hhp : s'.heap = H := by rw [hA]; exact hT
  have hW0 : s.WarmedH s'.vm := by rw [hvm]; exact State.WarmedH.refl s
  have hat' : ∀ w ∈ (q_at own ic cls ix rx Y9 r9).filter vx_no, w.before args s' = true := fun w hw => vx_ot_at hW0 hvm.symm (hgood w (List.mem_cons_of_mem _ (List.mem_cons_of_mem _ hw))) (hat w hw)
  have hk' : (Cond.classLink own ik cls).before args s' = true := vx_ot_at hW0 hvm.symm (hgood _ List.mem_cons_self) hk
  have hini' : (Cond.initialized cls).before args s' = true := vx_ot_at hW0 hvm.symm (hgood _ (List.mem_cons_of_mem _ List.mem_cons_self)) hini
  have hU' : vx_Zq Bundle.tN "UNASSIGNED_STACK" Bundle.steD A s' s'.heap := by rw [hhp]; exact vx_Zq.moved hW0.alike (hU.kept hS.2.1)
  have hN' : vx_Zq Bundle.tN "SUPPRESSED_SENTINEL" Bundle.listD A s' s'.heap := by rw [hhp]; exact vx_Zq.moved hW0.alike (hN.kept hS.2.1)
  have h : ∀ w ∈ q_at own ic cls ix rx Y9 r9, w.before args s' = true := vx_own hat' (vx_isRefq hU'.1) (vx_isRefq hN'.1) hU'.2.word hN'.2.word
  have hown' : s'.vm.findClass own = some m.cls := by rw [hvm]; exact hown
  have hins : (Cond.instantiable cls 6).before args s' = true := h _ (by simp [q_at])
  obtain ⟨vm₁, cX, kX, hfX, hkX, -, -, X₁, st1⟩ := Y.newCold hexec (own := own) (C := cls) (index := ik) (n := 6) hown' hk' hins hini'
    (g := F0 m pc ls rest) rfl (by rw [hb]; exact d0) (Nat.le_refl _) (Nat.le_refl _)
  generalize hT1 : (T.setVm vm₁).pushCell { cls := cX, slots := kX.instanceTypes.map defaultValue, vm := .none } = T1 at X₁ st1
  have hcat : (Value.ref T.heap.size).category = 1 := rfl
  have hcellA : T1.heap[T.heap.size]? = some (freshCell cX kX) := by rw [← hT1]; exact State.heap_pushCell_size _ _
  have d3' : decode c.code (pc + 3) = .ok (.dup, 1) := by rw [hb]; exact d3
  have d4' : decode c.code (pc + 4) = .ok (.ldc is, 2) := by rw [hb]; exact d4
  have hstr' : vk_R own is text sa s' := vk_R.warm hW0 hstr
  obtain ⟨U, hsteps, hrun, hend, hW, hsame, ce, hce, hcv, hO⟩ := q_ctor X₁ hexec htr (own := own) (cls := cls) (Y9 := Y9) (r9 := r9) (ic := ic) x0 x1 x2 x5 hown' hcls hY9 hnames h (fun x hx => nomatch hx) hfX hkX hcellA (by rw [hhp, hT]; exact Nat.le_refl _) (msg := .ref sa) rfl
    (g := { method := m, pc := pc + 6, locals := ls, stack := .ref sa :: .ref T.heap.size :: .ref T.heap.size :: rest, locked := none }) rfl hsize rfl rfl (rest := rest) rfl
    (by rw [hb]; exact d6) (by rw [hb]; exact d9) hout hRframes (by simp only [List.map_cons, List.sum_cons, hcat]; show 2 * 0 + _ + _ ≤ R.locals; omega) hlocks
  obtain ⟨f1, f2⟩ := vx_frame hsame
  rw [hhp] at f1 f2
  have hWs : s.WarmedH U.vm := State.WarmedH.trans hW0 hW
  have hcl : s.vm.findClass cls = some ce.cls := by
    rw [hvm] at hO
    exact hO
  have hall : s.sameButNew ({ U with vm := s.vm } : State) locs mc ms := by
    subst hA
    obtain ⟨e1, e2⟩ := hsame
    rw [State.setFrames_setFrames] at e1
    have h2 : (T.setVm s.vm).sameButNew ({ U with vm := s.vm } : State) [] (0 + 1) (0 + 6) := ⟨e1, e2⟩
    have h3 := X.same.trans h2
    rw [List.append_nil] at h3
    exact h3.mono hc hs
  refine ⟨U, ?_, .threw T.heap.size, hrun, hend, Or.inr ⟨T.heap.size, rfl, cls, ce, locs, hx U hWs.alike f1 (fun q hq => f2 q hq (fun z hz => nomatch hz)), hce, hcv, hcl, hWs, hall, hf⟩⟩
  refine st1 _ ?_
  show Steps p.tables e below (T1.setTop { method := m, pc := pc + 3, locals := ls, stack := .ref T.heap.size :: rest, locked := none }) _
  jvm_step X₁.here [X₁.here.top, hexec, d3', Value.category]
  exact X₁.ldcString hexec (own := own) (text := text) (index := is) (a := sa) hown' hstr'.1 hstr'.2
    (g := { method := m, pc := pc + 4, locals := ls, stack := .ref T.heap.size :: .ref T.heap.size :: rest, locked := none }) rfl d4' _ hsteps
end QT2


def q_wx : List Cond := ((q_at RX9 165 "java/util/NoSuchElementException" 13 prog_29_method_4_code "java/lang/RuntimeException" ["java/lang/Exception"]).filter vx_no).filter goodWord
def q_nb : List Cond := [.declares (Bundle.initS "java/lang/RuntimeException"), .declares (Bundle.initS "java/lang/Exception"), .declares (Bundle.initS "java/lang/Throwable"), .castable "java/util/NoSuchElementException" "java/util/NoSuchElementException"]
theorem q_nb_all : ∀ w ∈ ((q_at RX9 165 "java/util/NoSuchElementException" 13 prog_29_method_4_code "java/lang/RuntimeException" ["java/lang/Exception"]).filter vx_no).filter (fun w => !goodWord w), w ∈ q_nb := by decide +kernel
theorem q_wx_good : q_wx.all goodWord = true := by decide +kernel
set_option maxRecDepth 20000 in
theorem q_wx_in : ∀ w ∈ q_wx, w ∈ lw_tbl := fun w h => (goodIn_r (big := lw_tbl) q_wx [148, 1134, 1143, 1145, 1148, 1150, 1135, 1136, 159, 160, 1137, 1142, 1146, 1166, 1124, 1167, 1126, 1168, 1128, 1138, 1140, 1130, 1162, 1163, 1165, 1130, 1153, 1154, 1155, 1156, 1156, 1157, 1158, 1159, 1159, 1160, 1161, 1162, 1152, 1113, 1121, 1122, 1123, 1125, 1127, 1129, 1133, 1132, 1131] (by decide +kernel) (by decide +kernel) w h).1
theorem q_x0 : decode prog_29_method_4_code 0 = .ok (.aload_n 0, 1) := by decide +kernel
theorem q_x1 : decode prog_29_method_4_code 1 = .ok (.aload_n 1, 1) := by decide +kernel
theorem q_x2 : decode prog_29_method_4_code 2 = .ok (.invokespecial 13, 3) := by decide +kernel
theorem q_x5 : decode prog_29_method_4_code 5 = .ok (.return_, 1) := by decide +kernel
theorem q_ot : ∀ w ∈ Cond.classLink RX9 161 "java/util/NoSuchElementException" :: Cond.initialized "java/util/NoSuchElementException" :: (q_at RX9 165 "java/util/NoSuchElementException" 13 prog_29_method_4_code "java/lang/RuntimeException" ["java/lang/Exception"]).filter vx_no, vx_ot w = true := by decide +kernel
/-- what a throw stands on beside the good words -/
def q_X (sa : Nat) (U : State) : Prop := vx_Zq Bundle.tN "UNASSIGNED_STACK" Bundle.steD (fun _ => False) U U.heap ∧ vx_Zq Bundle.tN "SUPPRESSED_SENTINEL" Bundle.listD (fun _ => False) U U.heap ∧ vk_R RX9 163 "no such device, or nothing such is told of it" sa U ∧ va_Nw (.declares (Bundle.initS "java/lang/RuntimeException")) U ∧ va_Nw (.declares (Bundle.initS "java/lang/Exception")) U ∧ va_Nw (.declares (Bundle.initS "java/lang/Throwable")) U ∧ va_Nw (.castable "java/util/NoSuchElementException" "java/util/NoSuchElementException") U
theorem q_X_bl {sa : Nat} (U : State) (g : JFrame) (mk : MethodId) (a : Array Value) (h : q_X sa U) : q_X sa (U.calling g mk a) :=
  ⟨vx_Zq.moved (U := U.calling g mk a) (Vm.Alike.refl U.vm) h.1, vx_Zq.moved (U := U.calling g mk a) (Vm.Alike.refl U.vm) h.2.1, vk_R.same (U := U.calling g mk a) rfl h.2.2.1, va_Nw.same rfl (U := U.calling g mk a) rfl h.2.2.2.1, va_Nw.same rfl (U := U.calling g mk a) rfl h.2.2.2.2.1, va_Nw.same rfl (U := U.calling g mk a) rfl h.2.2.2.2.2.1, va_Nw.same rfl (U := U.calling g mk a) rfl h.2.2.2.2.2.2⟩
theorem q_X_give {sa : Nat} {s : State} {H : Heap} (h : q_X sa s) (hk : ∀ q : Nat, q < s.heap.size → H[q]? = s.heap[q]?) (U : State) (hU : U.heap = H) (hW : s.WarmedH U.vm) : q_X sa U := by
  refine ⟨?_, ?_, vk_R.warm hW h.2.2.1, va_Nw.warmD hW h.2.2.2.1, va_Nw.warmD hW h.2.2.2.2.1, va_Nw.warmD hW h.2.2.2.2.2.1, va_Nw.warmC hW h.2.2.2.2.2.2⟩
  · rw [hU]; exact vx_Zq.moved hW.alike (h.1.kept (fun a h1 _ => hk a h1))
  · rw [hU]; exact vx_Zq.moved hW.alike (h.2.1.kept (fun a h1 _ => hk a h1))
def q_RX (D : va_G) (wc : va_W) (tys : List (ClassId × FieldType)) (sa : Nat) (U : State) : Prop := va_P D vwCl wc U.heap ∧ va_K D vwCl tys U ∧ q_X sa U
section QX
variable {p : Program} {l : Launch} {e : Env} {R : Room} {s : State} {m : MethodId} {args : Array Value} {below : List Frame} {meth : Method} {c : Code} {H : Heap} {locs : List Loc} {cells slots : Nat} {Q : State → Prop}
variable {pc : Nat} {ls : Array Slot} {rest st0 : List Value} {a : Array Value} {A0 : Nat → Prop} {H0 : Heap} {D : va_G} {ws wc : va_W} {tys tyc : List (ClassId × FieldType)} {mc ms sa : Nat}
theorem q_blRX {av : List Value} : FrameBlind (va_Pc av (q_RX D wc tyc sa)) := fun a U g mk q => ⟨q.1, q.2.1, va_K.moved (u := U) (U := U.calling g mk a) (Vm.Alike.refl U.vm) q.2.2.1, q_X_bl U g mk a q.2.2.2⟩
theorem q_preXS {av : List Value} (hK : va_K D vwCl tys s) (hP : va_P D vwCl ws H) (hEU : ∀ U : State, U.heap = H → s.WarmedH U.vm → q_X sa U) (isC : List Nat) (hs : isC.filterMap (fun i => ws[i]?) = wc) (it : List Nat) (ht : it.filterMap (fun i => tys[i]?) = tyc) : PreS s H (va_Pc av (q_RX D wc tyc sa)) av :=
  ⟨q_blRX, fun U hU hW => ⟨rfl, by rw [hU]; exact hP.sub isC hs, va_K.moved hW.alike (hK.sub it ht), hEU U hU hW⟩⟩
theorem q_preXV {b : Addr} {As : List Value} {ci q0 : Nat} {q : vw_C} {fs : List Value} (hK : va_K D vwCl tys s) (hP : va_P D vwCl ws H) (hEU : ∀ U : State, U.heap = H → s.WarmedH U.vm → q_X sa U) (hc : vwCl[ci]? = some q) (he : ws[q0]? = some (b, .inr (ci, fs))) (isC : List Nat) (hs : isC.filterMap (fun i => ws[i]?) = wc) (it : List Nat) (ht : it.filterMap (fun i => tys[i]?) = tyc) : PreV s H q.1 b (va_Pc (.ref b :: As) (q_RX D wc tyc sa)) As :=
  ⟨q_blRX, va_recv hK hP hc he, (q_preXS hK hP hEU isC hs it ht).2⟩
/-- a reader that makes cells -/
theorem q_goiN {v : Int32} (hr : va_Run p l e R s m args below meth c H locs cells slots mc ms (F0 m pc ls st0) rest (q_i v a) (fun _ => False)) (hP : va_P D vwCl ws H) (hS : va_S A0 H0 H locs)
    (kk : ∀ (H1 : Heap) (locs1 : List Loc), va_P D vwCl ws H1 → va_S A0 H0 H1 locs1 → W p l e R s m args below meth c H1 locs1 (cells + mc) (slots + ms) Q (F0 m (pc + 3) ls (.int v :: rest))) : W p l e R s m args below meth c H locs cells slots Q (F0 m pc ls st0) :=
  va_calli hr hS (fun _ _ h => h.elim) (fun _ h => h.elim) (fun r u t H1 locs1 ht hvm hw _ hz hk hS1 => by rw [hw]; exact kk H1 locs1 (q_keep hP hk) hS1)
end QX

theorem q_iAx {a : Cond} {X : List Cond} (h : ∀ w ∈ X, w ∈ a :: wA) : ∀ w ∈ X, w ∈ a :: (wA ++ q_wx) := fun w hw => (List.mem_cons.mp (h w hw)).elim (fun e => List.mem_cons.mpr (Or.inl e)) (fun h => List.mem_cons_of_mem _ (List.mem_append_left _ h))
theorem q_gVx {a : Cond} {X : List Cond} (h : GoodIn (a :: wA) X) (hX : ∀ w ∈ X, w ∈ wA) : GoodIn (a :: (wA ++ q_wx)) X := fun w hw => ⟨List.mem_cons_of_mem _ (List.mem_append_left _ (hX w hw)), (h w hw).2⟩
theorem q_inV {own C : String} {idx maxL : Nat} {y : MethodName} {b : ByteArray} {ret : Option FieldType} (h1 : Cond.methodLink own idx y ∈ wA) (h2 : Cond.instanceMethod y ∈ wA) (h3 : Cond.selects C y y ∈ wA) (h4 : Cond.initialized C ∈ wA) (h5 : Cond.code y b maxL ret ∈ wA) : ∀ w ∈ wsV own idx C y (Cond.code y b maxL ret :: wA), w ∈ wA := by
  intro w hw
  simp only [wsV, List.mem_append, List.mem_cons, List.not_mem_nil, or_false] at hw
  rcases hw with (rfl | rfl | rfl | rfl) | (rfl | hw)
  · exact h1
  · exact h2
  · exact h3
  · exact h4
  · exact h5
  · exact hw

def F_X9_device (dv : Int32) (fr : Nat → Int32) (fu : Nat → Int32) (fp : Nat → Int32) (z1 : Int32) (z2 : Int32) : Option (Int32 × Int32) := ((F_X5_has dv z1).bind fun o_1 => (if o_1 = 0 then some (1, 0) else (if z2 < 0 then some (1, 0) else (if z2 ≤ 12 then (if z2 = 0 then (if (0 + z1) < 0 ∨ 98 ≤ ((0 + z1)).toNatClampNeg then none else some (0, (fr (0 + z1).toNatClampNeg))) else (if z2 = 1 then (if (8 + z1) < 0 ∨ 98 ≤ ((8 + z1)).toNatClampNeg then none else some (0, (fr (8 + z1).toNatClampNeg))) else (if z2 = 2 then (if (16 + z1) < 0 ∨ 98 ≤ ((16 + z1)).toNatClampNeg then none else some (0, (fr (16 + z1).toNatClampNeg))) else (if z2 = 3 then (if (24 + z1) < 0 ∨ 98 ≤ ((24 + z1)).toNatClampNeg then none else some (0, (fr (24 + z1).toNatClampNeg))) else (if z2 = 4 then (if (32 + z1) < 0 ∨ 98 ≤ ((32 + z1)).toNatClampNeg then none else some (0, (fr (32 + z1).toNatClampNeg))) else (if z2 = 5 then (if (40 + z1) < 0 ∨ 98 ≤ ((40 + z1)).toNatClampNeg then none else some (0, (fr (40 + z1).toNatClampNeg))) else (if z2 = 6 then (if (48 + z1) < 0 ∨ 98 ≤ ((48 + z1)).toNatClampNeg then none else some (0, (fr (48 + z1).toNatClampNeg))) else (if z2 = 7 then (if (56 + z1) < 0 ∨ 98 ≤ ((56 + z1)).toNatClampNeg then none else some (0, (fr (56 + z1).toNatClampNeg))) else (if z2 = 8 then (if (64 + z1) < 0 ∨ 98 ≤ ((64 + z1)).toNatClampNeg then none else some (0, (fr (64 + z1).toNatClampNeg))) else (if z2 = 9 then (if (72 + z1) < 0 ∨ 98 ≤ ((72 + z1)).toNatClampNeg then none else some (0, (fr (72 + z1).toNatClampNeg))) else (if z2 = 10 then ((F_X0_depthOf fr dv fu fp z1).bind fun o_27 => some (0, o_27)) else (if z2 = 11 then ((F_X0_takesOf fr dv fu fp z1).bind fun o_30 => some (0, o_30)) else (if (88 + z1) < 0 ∨ 98 ≤ ((88 + z1)).toNatClampNeg then none else some (0, (fr (88 + z1).toNatClampNeg))))))))))))))) else some (1, 0)))))
set_option maxHeartbeats 4000000 in
set_option maxRecDepth 100000 in
theorem c_X9_device (l : Launch) (hlt : l.stackTraces = false) (dC : Nat → ClassId) (dI : Nat → Nat → Nat) (sa : Nat) (a : Nat → Nat) (k : Nat → ClassId) (hi : Int32) (dv : Int32) (fr : Nat → Int32) (fu : Nat → Int32) (fp : Nat → Int32) (z1 : Int32) (z2 : Int32) (o : Int32 × Int32) (hG : F_X9_device dv fr fu fp z1 z2 = some o) : vx_Met l yX9_device (.code yX9_device cX9_device 3 (some .int) :: (wA ++ q_wx)) ({ frames := 7, cells := 1, slots := 6, locals := 90 }) (va_Pc [.ref (a 0), .int z1, .int z2] (q_RX (dC, dI) [((a 0), .inr (9, [.ref (a 1), .ref (a 3), .ref (a 4), .ref (a 7), .ref (a 10), .ref (a 14), .ref (a 16), .ref (a 18), .ref (a 19), .ref (a 21), .ref (a 23), .ref (a 25), .ref (a 27), .ref (a 28), .int hi])), ((a 14), .inr (0, [.ref (a 15), .ref (a 7)])), ((a 15), .inl ((k 15), 98, .inl fr)), ((a 7), .inr (5, [.ref (a 8), .ref (a 9), .int dv])), ((a 8), .inl ((k 8), 8, .inl fu)), ((a 9), .inl ((k 9), 48, .inl fp))] [((k 15), .int), ((k 8), .int), ((k 9), .int)] sa)) (va_Qi (fun (r : Int32) (_ : Unit) => o.1 = 0 ∧ r = o.2) (fun _ _ => True) (fun _ => False)) (vx_X (fun _ : Unit => o.1 = 1) (fun E _ _ => E = "java/util/NoSuchElementException") (fun _ => False)) 1 6 (fun _ => False) := by
  refine vx_ofW (cc := cX9_device) (maxL := 3) (ret := (some .int)) (by decide) rfl ?_
  intro p e s m args below meth c s₁ B hml hnt hv
  obtain ⟨rfl, hP, hK, hE⟩ := hv
  have hx := B.exec
  have hb := B.bytes
  have hr := B.returns
  have hts := atoms_spec (ws := .code yX9_device cX9_device 3 (some .int) :: (wA ++ q_wx)) B.pre
  have hown : s.vm.findClass RX9 = some m.cls := findClass_of_methodNamed B.named
  have hlocks := B.notSynchronized
  have hS : va_S (fun _ => False) s.heap s.heap [] := va_S.rf
  have hl := lv_entry ([.ref (a 0), .int z1, .int z2]) (n := 3) (Nat.le_of_ble_eq_true rfl)
  rw [lg_entry_eq]
  generalize (lg_sl ([.ref (a 0), .int z1, .int z2]) ++ List.replicate (3 - (lg_sl ([.ref (a 0), .int z1, .int z2])).length) Slot.unset).toArray = ls at hl ⊢
  have hl : lv_has ls 3 [(0, .ref (a 0)), (1, .int z1), (2, .int z2)] := hl
  unfold F_X9_device at hG
  refine lv_aload_n hx hb dX9_device_0 rfl (lv_at hl 0 rfl) ?_
  refine va_get (D := (dC, dI)) (ci := 9) (v := .ref (a 7)) (C := RX9) (T := TX9) (N := 15) hx hb hts (q_iAx iA_9) hown hK hP 0 rfl rfl 3 (by decide) (hts (.fieldLink RX9 32 "HubTree" "plan" "LHubTree$Plan;") (List.mem_cons_of_mem _ (List.mem_append_left _ m_26))) (fun _ h9 => h9) rfl dX9_device_1 ?_
  refine lv_iload_n hx hb dX9_device_4 rfl (lv_at hl 1 rfl) ?_
  obtain ⟨o_1, r_2, hG⟩ := q_bi hG
  refine q_goi (v := o_1) (va_runV (As := [.int z1]) (rest := []) ⟨hx, hb, hml, hown, hts⟩ (c_X5_has l dC dI (a 7) (a 8) (a 9) dv z1 o_1 r_2) (cwV 1 hts (q_gVx (q_gV m_464 m_465 m_466 m_24 m_467) (q_inV m_464 m_465 m_466 m_24 m_467)) rfl rfl rfl hdV_yX5_has_1 ⟨Nat.le_of_ble_eq_true rfl, Nat.le_of_ble_eq_true rfl⟩) (q_preV hK hP (q := (RX5, TX5, 3)) (ci := 5) (q0 := 3) rfl rfl [3] rfl [] rfl) rfl rfl hl.1 rfl (lv_room (Nat.le_of_ble_eq_true rfl)) dX9_device_5 ⟨Nat.le_of_ble_eq_true rfl, Nat.le_of_ble_eq_true rfl⟩) hP hS (fun H locs hP hS => ?_)
  refine lv_if_eq (tgt := 21) hx hb dX9_device_8 (by decide) (fun c_3 => ?_) (fun c_3 => ?_)
  · have hG := q_ifp c_3 hG
    obtain rfl := Option.some.inj hG
    exact q_throw (A := fun _ => False) (cls := "java/util/NoSuchElementException") (Y9 := "java/lang/RuntimeException") (r9 := ["java/lang/Exception"]) (ix := 13) (rx := prog_29_method_4_code) (text := "no such device, or nothing such is told of it") hx hb hlt q_x0 q_x1 q_x2 q_x5 hown (by decide +kernel) (by decide +kernel) (by decide +kernel) (hts (.classLink RX9 161 "java/util/NoSuchElementException") (List.mem_cons_of_mem _ (List.mem_append_left _ m_485))) (hts (.initialized "java/util/NoSuchElementException") (List.mem_cons_of_mem _ (List.mem_append_left _ m_486))) hE.2.2.1 (vx_hat (fun w h => hts w (List.mem_cons_of_mem _ (List.mem_append_right _ h))) q_nb_all (vx_c (va_Nw.use rfl hE.2.2.2.1) (vx_c (va_Nw.use rfl hE.2.2.2.2.1) (vx_c (va_Nw.use rfl hE.2.2.2.2.2.1) (vx_c (va_Nw.use rfl hE.2.2.2.2.2.2) vx_n))))) q_ot hE.1 hE.2.1 hS (by rw [hml]; exact hl.1) dX9_device_21 dX9_device_24 dX9_device_25 dX9_device_27 dX9_device_30 (fun x hx9 => absurd (hnt x hx9) id) (Nat.le_of_ble_eq_true rfl) (Nat.le_of_ble_eq_true rfl) (Nat.le_of_ble_eq_true rfl) (Nat.le_of_ble_eq_true rfl) hlocks (fun t ht h1 h2 => ⟨(), rfl, rfl, Nat.le_trans hS.1 h1, fun q h3 _ => (h2 q (Nat.lt_of_lt_of_le h3 hS.1)).trans (hS.2.1 q h3 id)⟩) hS.2.2 (Nat.le_of_ble_eq_true rfl) (Nat.le_of_ble_eq_true rfl)
  · have hG := q_ifn c_3 hG
    refine lv_iload_n hx hb dX9_device_11 rfl (lv_at hl 2 rfl) ?_
    refine lv_if_lt (tgt := 21) hx hb dX9_device_12 (by decide) (fun c_4 => ?_) (fun c_4 => ?_)
    · have hG := q_ifp c_4 hG
      obtain rfl := Option.some.inj hG
      exact q_throw (A := fun _ => False) (cls := "java/util/NoSuchElementException") (Y9 := "java/lang/RuntimeException") (r9 := ["java/lang/Exception"]) (ix := 13) (rx := prog_29_method_4_code) (text := "no such device, or nothing such is told of it") hx hb hlt q_x0 q_x1 q_x2 q_x5 hown (by decide +kernel) (by decide +kernel) (by decide +kernel) (hts (.classLink RX9 161 "java/util/NoSuchElementException") (List.mem_cons_of_mem _ (List.mem_append_left _ m_485))) (hts (.initialized "java/util/NoSuchElementException") (List.mem_cons_of_mem _ (List.mem_append_left _ m_486))) hE.2.2.1 (vx_hat (fun w h => hts w (List.mem_cons_of_mem _ (List.mem_append_right _ h))) q_nb_all (vx_c (va_Nw.use rfl hE.2.2.2.1) (vx_c (va_Nw.use rfl hE.2.2.2.2.1) (vx_c (va_Nw.use rfl hE.2.2.2.2.2.1) (vx_c (va_Nw.use rfl hE.2.2.2.2.2.2) vx_n))))) q_ot hE.1 hE.2.1 hS (by rw [hml]; exact hl.1) dX9_device_21 dX9_device_24 dX9_device_25 dX9_device_27 dX9_device_30 (fun x hx9 => absurd (hnt x hx9) id) (Nat.le_of_ble_eq_true rfl) (Nat.le_of_ble_eq_true rfl) (Nat.le_of_ble_eq_true rfl) (Nat.le_of_ble_eq_true rfl) hlocks (fun t ht h1 h2 => ⟨(), rfl, rfl, Nat.le_trans hS.1 h1, fun q h3 _ => (h2 q (Nat.lt_of_lt_of_le h3 hS.1)).trans (hS.2.1 q h3 id)⟩) hS.2.2 (Nat.le_of_ble_eq_true rfl) (Nat.le_of_ble_eq_true rfl)
    · have hG := q_ifn c_4 hG
      refine lv_iload_n hx hb dX9_device_15 rfl (lv_at hl 2 rfl) ?_
      refine lv_bipush (v := 12) hx hb dX9_device_16 (by decide) ?_
      refine lv_icmp_le (tgt := 31) hx hb dX9_device_18 (by decide) (fun c_5 => ?_) (fun c_5 => ?_)
      · have hG := q_ifp c_5 hG
        refine lv_iload_n hx hb dX9_device_31 rfl (lv_at hl 2 rfl) ?_
        by_cases e_6 : z2 = 0
        · have hG := q_ifp e_6 hG
          refine lv_tableIn (off := 64) (tgt := 96) hx hb dX9_device_32 (by rw [e_6]; decide) (by rw [e_6]; decide) (by rw [e_6]; decide) (by decide) ?_
          refine lv_aload_n hx hb dX9_device_96 rfl (lv_at hl 0 rfl) ?_
          refine va_get (D := (dC, dI)) (ci := 9) (v := .ref (a 14)) (C := RX9) (T := TX9) (N := 15) hx hb hts (q_iAx iA_9) hown hK hP 0 rfl rfl 5 (by decide) (hts (.fieldLink RX9 47 "HubTree" "now" "LHubTree$Bus;") (List.mem_cons_of_mem _ (List.mem_append_left _ m_34))) (fun _ h9 => h9) rfl dX9_device_97 ?_
          refine va_get (D := (dC, dI)) (ci := 0) (v := .ref (a 15)) (C := RX0) (T := TX0) (N := 2) hx hb hts (q_iAx iA_0) hown hK hP 1 rfl rfl 0 (by decide) (hts (.fieldLink RX9 157 "HubTree$Bus" "row" "[I") (List.mem_cons_of_mem _ (List.mem_append_left _ m_462))) (fun _ h9 => h9) rfl dX9_device_100 ?_
          refine lv_iconst (v := 0) hx hb dX9_device_103 (by decide) ?_
          refine lv_iload_n hx hb dX9_device_104 rfl (lv_at hl 1 rfl) ?_
          refine lv_iadd hx hb dX9_device_105 ?_
          obtain ⟨h_7, hG⟩ := q_ix hG
          refine va_iald hx hb hK hP 2 0 rfl rfl (i := (0 + z1)) h_7 dX9_device_106 ?_
          refine q_top (y := (fr (0 + z1).toNatClampNeg)) rfl ?_
          obtain rfl := Option.some.inj hG
          refine vx_ret ?_
          refine W.widen (k := 1) (n := 6) (Nat.le_of_ble_eq_true rfl) (Nat.le_of_ble_eq_true rfl) ?_
          exact W.iret (v := (fr (0 + z1).toNatClampNeg)) hx hb hr (fun t ht hW => ⟨⟨(fr (0 + z1).toNatClampNeg), (), rfl, ⟨rfl, rfl⟩, trivial⟩, hS.F ht⟩) hS.2.2 dX9_device_107
        have hG := q_ifn e_6 hG
        by_cases e_8 : z2 = 1
        · have hG := q_ifp e_8 hG
          refine lv_tableIn (off := 76) (tgt := 108) hx hb dX9_device_32 (by rw [e_8]; decide) (by rw [e_8]; decide) (by rw [e_8]; decide) (by decide) ?_
          refine lv_aload_n hx hb dX9_device_108 rfl (lv_at hl 0 rfl) ?_
          refine va_get (D := (dC, dI)) (ci := 9) (v := .ref (a 14)) (C := RX9) (T := TX9) (N := 15) hx hb hts (q_iAx iA_9) hown hK hP 0 rfl rfl 5 (by decide) (hts (.fieldLink RX9 47 "HubTree" "now" "LHubTree$Bus;") (List.mem_cons_of_mem _ (List.mem_append_left _ m_34))) (fun _ h9 => h9) rfl dX9_device_109 ?_
          refine va_get (D := (dC, dI)) (ci := 0) (v := .ref (a 15)) (C := RX0) (T := TX0) (N := 2) hx hb hts (q_iAx iA_0) hown hK hP 1 rfl rfl 0 (by decide) (hts (.fieldLink RX9 157 "HubTree$Bus" "row" "[I") (List.mem_cons_of_mem _ (List.mem_append_left _ m_462))) (fun _ h9 => h9) rfl dX9_device_112 ?_
          refine lv_bipush (v := 8) hx hb dX9_device_115 (by decide) ?_
          refine lv_iload_n hx hb dX9_device_117 rfl (lv_at hl 1 rfl) ?_
          refine lv_iadd hx hb dX9_device_118 ?_
          obtain ⟨h_9, hG⟩ := q_ix hG
          refine va_iald hx hb hK hP 2 0 rfl rfl (i := (8 + z1)) h_9 dX9_device_119 ?_
          refine q_top (y := (fr (8 + z1).toNatClampNeg)) rfl ?_
          obtain rfl := Option.some.inj hG
          refine vx_ret ?_
          refine W.widen (k := 1) (n := 6) (Nat.le_of_ble_eq_true rfl) (Nat.le_of_ble_eq_true rfl) ?_
          exact W.iret (v := (fr (8 + z1).toNatClampNeg)) hx hb hr (fun t ht hW => ⟨⟨(fr (8 + z1).toNatClampNeg), (), rfl, ⟨rfl, rfl⟩, trivial⟩, hS.F ht⟩) hS.2.2 dX9_device_120
        have hG := q_ifn e_8 hG
        by_cases e_10 : z2 = 2
        · have hG := q_ifp e_10 hG
          refine lv_tableIn (off := 89) (tgt := 121) hx hb dX9_device_32 (by rw [e_10]; decide) (by rw [e_10]; decide) (by rw [e_10]; decide) (by decide) ?_
          refine lv_aload_n hx hb dX9_device_121 rfl (lv_at hl 0 rfl) ?_
          refine va_get (D := (dC, dI)) (ci := 9) (v := .ref (a 14)) (C := RX9) (T := TX9) (N := 15) hx hb hts (q_iAx iA_9) hown hK hP 0 rfl rfl 5 (by decide) (hts (.fieldLink RX9 47 "HubTree" "now" "LHubTree$Bus;") (List.mem_cons_of_mem _ (List.mem_append_left _ m_34))) (fun _ h9 => h9) rfl dX9_device_122 ?_
          refine va_get (D := (dC, dI)) (ci := 0) (v := .ref (a 15)) (C := RX0) (T := TX0) (N := 2) hx hb hts (q_iAx iA_0) hown hK hP 1 rfl rfl 0 (by decide) (hts (.fieldLink RX9 157 "HubTree$Bus" "row" "[I") (List.mem_cons_of_mem _ (List.mem_append_left _ m_462))) (fun _ h9 => h9) rfl dX9_device_125 ?_
          refine lv_bipush (v := 16) hx hb dX9_device_128 (by decide) ?_
          refine lv_iload_n hx hb dX9_device_130 rfl (lv_at hl 1 rfl) ?_
          refine lv_iadd hx hb dX9_device_131 ?_
          obtain ⟨h_11, hG⟩ := q_ix hG
          refine va_iald hx hb hK hP 2 0 rfl rfl (i := (16 + z1)) h_11 dX9_device_132 ?_
          refine q_top (y := (fr (16 + z1).toNatClampNeg)) rfl ?_
          obtain rfl := Option.some.inj hG
          refine vx_ret ?_
          refine W.widen (k := 1) (n := 6) (Nat.le_of_ble_eq_true rfl) (Nat.le_of_ble_eq_true rfl) ?_
          exact W.iret (v := (fr (16 + z1).toNatClampNeg)) hx hb hr (fun t ht hW => ⟨⟨(fr (16 + z1).toNatClampNeg), (), rfl, ⟨rfl, rfl⟩, trivial⟩, hS.F ht⟩) hS.2.2 dX9_device_133
        have hG := q_ifn e_10 hG
        by_cases e_12 : z2 = 3
        · have hG := q_ifp e_12 hG
          refine lv_tableIn (off := 102) (tgt := 134) hx hb dX9_device_32 (by rw [e_12]; decide) (by rw [e_12]; decide) (by rw [e_12]; decide) (by decide) ?_
          refine lv_aload_n hx hb dX9_device_134 rfl (lv_at hl 0 rfl) ?_
          refine va_get (D := (dC, dI)) (ci := 9) (v := .ref (a 14)) (C := RX9) (T := TX9) (N := 15) hx hb hts (q_iAx iA_9) hown hK hP 0 rfl rfl 5 (by decide) (hts (.fieldLink RX9 47 "HubTree" "now" "LHubTree$Bus;") (List.mem_cons_of_mem _ (List.mem_append_left _ m_34))) (fun _ h9 => h9) rfl dX9_device_135 ?_
          refine va_get (D := (dC, dI)) (ci := 0) (v := .ref (a 15)) (C := RX0) (T := TX0) (N := 2) hx hb hts (q_iAx iA_0) hown hK hP 1 rfl rfl 0 (by decide) (hts (.fieldLink RX9 157 "HubTree$Bus" "row" "[I") (List.mem_cons_of_mem _ (List.mem_append_left _ m_462))) (fun _ h9 => h9) rfl dX9_device_138 ?_
          refine lv_bipush (v := 24) hx hb dX9_device_141 (by decide) ?_
          refine lv_iload_n hx hb dX9_device_143 rfl (lv_at hl 1 rfl) ?_
          refine lv_iadd hx hb dX9_device_144 ?_
          obtain ⟨h_13, hG⟩ := q_ix hG
          refine va_iald hx hb hK hP 2 0 rfl rfl (i := (24 + z1)) h_13 dX9_device_145 ?_
          refine q_top (y := (fr (24 + z1).toNatClampNeg)) rfl ?_
          obtain rfl := Option.some.inj hG
          refine vx_ret ?_
          refine W.widen (k := 1) (n := 6) (Nat.le_of_ble_eq_true rfl) (Nat.le_of_ble_eq_true rfl) ?_
          exact W.iret (v := (fr (24 + z1).toNatClampNeg)) hx hb hr (fun t ht hW => ⟨⟨(fr (24 + z1).toNatClampNeg), (), rfl, ⟨rfl, rfl⟩, trivial⟩, hS.F ht⟩) hS.2.2 dX9_device_146
        have hG := q_ifn e_12 hG
        by_cases e_14 : z2 = 4
        · have hG := q_ifp e_14 hG
          refine lv_tableIn (off := 115) (tgt := 147) hx hb dX9_device_32 (by rw [e_14]; decide) (by rw [e_14]; decide) (by rw [e_14]; decide) (by decide) ?_
          refine lv_aload_n hx hb dX9_device_147 rfl (lv_at hl 0 rfl) ?_
          refine va_get (D := (dC, dI)) (ci := 9) (v := .ref (a 14)) (C := RX9) (T := TX9) (N := 15) hx hb hts (q_iAx iA_9) hown hK hP 0 rfl rfl 5 (by decide) (hts (.fieldLink RX9 47 "HubTree" "now" "LHubTree$Bus;") (List.mem_cons_of_mem _ (List.mem_append_left _ m_34))) (fun _ h9 => h9) rfl dX9_device_148 ?_
          refine va_get (D := (dC, dI)) (ci := 0) (v := .ref (a 15)) (C := RX0) (T := TX0) (N := 2) hx hb hts (q_iAx iA_0) hown hK hP 1 rfl rfl 0 (by decide) (hts (.fieldLink RX9 157 "HubTree$Bus" "row" "[I") (List.mem_cons_of_mem _ (List.mem_append_left _ m_462))) (fun _ h9 => h9) rfl dX9_device_151 ?_
          refine lv_bipush (v := 32) hx hb dX9_device_154 (by decide) ?_
          refine lv_iload_n hx hb dX9_device_156 rfl (lv_at hl 1 rfl) ?_
          refine lv_iadd hx hb dX9_device_157 ?_
          obtain ⟨h_15, hG⟩ := q_ix hG
          refine va_iald hx hb hK hP 2 0 rfl rfl (i := (32 + z1)) h_15 dX9_device_158 ?_
          refine q_top (y := (fr (32 + z1).toNatClampNeg)) rfl ?_
          obtain rfl := Option.some.inj hG
          refine vx_ret ?_
          refine W.widen (k := 1) (n := 6) (Nat.le_of_ble_eq_true rfl) (Nat.le_of_ble_eq_true rfl) ?_
          exact W.iret (v := (fr (32 + z1).toNatClampNeg)) hx hb hr (fun t ht hW => ⟨⟨(fr (32 + z1).toNatClampNeg), (), rfl, ⟨rfl, rfl⟩, trivial⟩, hS.F ht⟩) hS.2.2 dX9_device_159
        have hG := q_ifn e_14 hG
        by_cases e_16 : z2 = 5
        · have hG := q_ifp e_16 hG
          refine lv_tableIn (off := 128) (tgt := 160) hx hb dX9_device_32 (by rw [e_16]; decide) (by rw [e_16]; decide) (by rw [e_16]; decide) (by decide) ?_
          refine lv_aload_n hx hb dX9_device_160 rfl (lv_at hl 0 rfl) ?_
          refine va_get (D := (dC, dI)) (ci := 9) (v := .ref (a 14)) (C := RX9) (T := TX9) (N := 15) hx hb hts (q_iAx iA_9) hown hK hP 0 rfl rfl 5 (by decide) (hts (.fieldLink RX9 47 "HubTree" "now" "LHubTree$Bus;") (List.mem_cons_of_mem _ (List.mem_append_left _ m_34))) (fun _ h9 => h9) rfl dX9_device_161 ?_
          refine va_get (D := (dC, dI)) (ci := 0) (v := .ref (a 15)) (C := RX0) (T := TX0) (N := 2) hx hb hts (q_iAx iA_0) hown hK hP 1 rfl rfl 0 (by decide) (hts (.fieldLink RX9 157 "HubTree$Bus" "row" "[I") (List.mem_cons_of_mem _ (List.mem_append_left _ m_462))) (fun _ h9 => h9) rfl dX9_device_164 ?_
          refine lv_bipush (v := 40) hx hb dX9_device_167 (by decide) ?_
          refine lv_iload_n hx hb dX9_device_169 rfl (lv_at hl 1 rfl) ?_
          refine lv_iadd hx hb dX9_device_170 ?_
          obtain ⟨h_17, hG⟩ := q_ix hG
          refine va_iald hx hb hK hP 2 0 rfl rfl (i := (40 + z1)) h_17 dX9_device_171 ?_
          refine q_top (y := (fr (40 + z1).toNatClampNeg)) rfl ?_
          obtain rfl := Option.some.inj hG
          refine vx_ret ?_
          refine W.widen (k := 1) (n := 6) (Nat.le_of_ble_eq_true rfl) (Nat.le_of_ble_eq_true rfl) ?_
          exact W.iret (v := (fr (40 + z1).toNatClampNeg)) hx hb hr (fun t ht hW => ⟨⟨(fr (40 + z1).toNatClampNeg), (), rfl, ⟨rfl, rfl⟩, trivial⟩, hS.F ht⟩) hS.2.2 dX9_device_172
        have hG := q_ifn e_16 hG
        by_cases e_18 : z2 = 6
        · have hG := q_ifp e_18 hG
          refine lv_tableIn (off := 141) (tgt := 173) hx hb dX9_device_32 (by rw [e_18]; decide) (by rw [e_18]; decide) (by rw [e_18]; decide) (by decide) ?_
          refine lv_aload_n hx hb dX9_device_173 rfl (lv_at hl 0 rfl) ?_
          refine va_get (D := (dC, dI)) (ci := 9) (v := .ref (a 14)) (C := RX9) (T := TX9) (N := 15) hx hb hts (q_iAx iA_9) hown hK hP 0 rfl rfl 5 (by decide) (hts (.fieldLink RX9 47 "HubTree" "now" "LHubTree$Bus;") (List.mem_cons_of_mem _ (List.mem_append_left _ m_34))) (fun _ h9 => h9) rfl dX9_device_174 ?_
          refine va_get (D := (dC, dI)) (ci := 0) (v := .ref (a 15)) (C := RX0) (T := TX0) (N := 2) hx hb hts (q_iAx iA_0) hown hK hP 1 rfl rfl 0 (by decide) (hts (.fieldLink RX9 157 "HubTree$Bus" "row" "[I") (List.mem_cons_of_mem _ (List.mem_append_left _ m_462))) (fun _ h9 => h9) rfl dX9_device_177 ?_
          refine lv_bipush (v := 48) hx hb dX9_device_180 (by decide) ?_
          refine lv_iload_n hx hb dX9_device_182 rfl (lv_at hl 1 rfl) ?_
          refine lv_iadd hx hb dX9_device_183 ?_
          obtain ⟨h_19, hG⟩ := q_ix hG
          refine va_iald hx hb hK hP 2 0 rfl rfl (i := (48 + z1)) h_19 dX9_device_184 ?_
          refine q_top (y := (fr (48 + z1).toNatClampNeg)) rfl ?_
          obtain rfl := Option.some.inj hG
          refine vx_ret ?_
          refine W.widen (k := 1) (n := 6) (Nat.le_of_ble_eq_true rfl) (Nat.le_of_ble_eq_true rfl) ?_
          exact W.iret (v := (fr (48 + z1).toNatClampNeg)) hx hb hr (fun t ht hW => ⟨⟨(fr (48 + z1).toNatClampNeg), (), rfl, ⟨rfl, rfl⟩, trivial⟩, hS.F ht⟩) hS.2.2 dX9_device_185
        have hG := q_ifn e_18 hG
        by_cases e_20 : z2 = 7
        · have hG := q_ifp e_20 hG
          refine lv_tableIn (off := 154) (tgt := 186) hx hb dX9_device_32 (by rw [e_20]; decide) (by rw [e_20]; decide) (by rw [e_20]; decide) (by decide) ?_
          refine lv_aload_n hx hb dX9_device_186 rfl (lv_at hl 0 rfl) ?_
          refine va_get (D := (dC, dI)) (ci := 9) (v := .ref (a 14)) (C := RX9) (T := TX9) (N := 15) hx hb hts (q_iAx iA_9) hown hK hP 0 rfl rfl 5 (by decide) (hts (.fieldLink RX9 47 "HubTree" "now" "LHubTree$Bus;") (List.mem_cons_of_mem _ (List.mem_append_left _ m_34))) (fun _ h9 => h9) rfl dX9_device_187 ?_
          refine va_get (D := (dC, dI)) (ci := 0) (v := .ref (a 15)) (C := RX0) (T := TX0) (N := 2) hx hb hts (q_iAx iA_0) hown hK hP 1 rfl rfl 0 (by decide) (hts (.fieldLink RX9 157 "HubTree$Bus" "row" "[I") (List.mem_cons_of_mem _ (List.mem_append_left _ m_462))) (fun _ h9 => h9) rfl dX9_device_190 ?_
          refine lv_bipush (v := 56) hx hb dX9_device_193 (by decide) ?_
          refine lv_iload_n hx hb dX9_device_195 rfl (lv_at hl 1 rfl) ?_
          refine lv_iadd hx hb dX9_device_196 ?_
          obtain ⟨h_21, hG⟩ := q_ix hG
          refine va_iald hx hb hK hP 2 0 rfl rfl (i := (56 + z1)) h_21 dX9_device_197 ?_
          refine q_top (y := (fr (56 + z1).toNatClampNeg)) rfl ?_
          obtain rfl := Option.some.inj hG
          refine vx_ret ?_
          refine W.widen (k := 1) (n := 6) (Nat.le_of_ble_eq_true rfl) (Nat.le_of_ble_eq_true rfl) ?_
          exact W.iret (v := (fr (56 + z1).toNatClampNeg)) hx hb hr (fun t ht hW => ⟨⟨(fr (56 + z1).toNatClampNeg), (), rfl, ⟨rfl, rfl⟩, trivial⟩, hS.F ht⟩) hS.2.2 dX9_device_198
        have hG := q_ifn e_20 hG
        by_cases e_22 : z2 = 8
        · have hG := q_ifp e_22 hG
          refine lv_tableIn (off := 167) (tgt := 199) hx hb dX9_device_32 (by rw [e_22]; decide) (by rw [e_22]; decide) (by rw [e_22]; decide) (by decide) ?_
          refine lv_aload_n hx hb dX9_device_199 rfl (lv_at hl 0 rfl) ?_
          refine va_get (D := (dC, dI)) (ci := 9) (v := .ref (a 14)) (C := RX9) (T := TX9) (N := 15) hx hb hts (q_iAx iA_9) hown hK hP 0 rfl rfl 5 (by decide) (hts (.fieldLink RX9 47 "HubTree" "now" "LHubTree$Bus;") (List.mem_cons_of_mem _ (List.mem_append_left _ m_34))) (fun _ h9 => h9) rfl dX9_device_200 ?_
          refine va_get (D := (dC, dI)) (ci := 0) (v := .ref (a 15)) (C := RX0) (T := TX0) (N := 2) hx hb hts (q_iAx iA_0) hown hK hP 1 rfl rfl 0 (by decide) (hts (.fieldLink RX9 157 "HubTree$Bus" "row" "[I") (List.mem_cons_of_mem _ (List.mem_append_left _ m_462))) (fun _ h9 => h9) rfl dX9_device_203 ?_
          refine lv_bipush (v := 64) hx hb dX9_device_206 (by decide) ?_
          refine lv_iload_n hx hb dX9_device_208 rfl (lv_at hl 1 rfl) ?_
          refine lv_iadd hx hb dX9_device_209 ?_
          obtain ⟨h_23, hG⟩ := q_ix hG
          refine va_iald hx hb hK hP 2 0 rfl rfl (i := (64 + z1)) h_23 dX9_device_210 ?_
          refine q_top (y := (fr (64 + z1).toNatClampNeg)) rfl ?_
          obtain rfl := Option.some.inj hG
          refine vx_ret ?_
          refine W.widen (k := 1) (n := 6) (Nat.le_of_ble_eq_true rfl) (Nat.le_of_ble_eq_true rfl) ?_
          exact W.iret (v := (fr (64 + z1).toNatClampNeg)) hx hb hr (fun t ht hW => ⟨⟨(fr (64 + z1).toNatClampNeg), (), rfl, ⟨rfl, rfl⟩, trivial⟩, hS.F ht⟩) hS.2.2 dX9_device_211
        have hG := q_ifn e_22 hG
        by_cases e_24 : z2 = 9
        · have hG := q_ifp e_24 hG
          refine lv_tableIn (off := 180) (tgt := 212) hx hb dX9_device_32 (by rw [e_24]; decide) (by rw [e_24]; decide) (by rw [e_24]; decide) (by decide) ?_
          refine lv_aload_n hx hb dX9_device_212 rfl (lv_at hl 0 rfl) ?_
          refine va_get (D := (dC, dI)) (ci := 9) (v := .ref (a 14)) (C := RX9) (T := TX9) (N := 15) hx hb hts (q_iAx iA_9) hown hK hP 0 rfl rfl 5 (by decide) (hts (.fieldLink RX9 47 "HubTree" "now" "LHubTree$Bus;") (List.mem_cons_of_mem _ (List.mem_append_left _ m_34))) (fun _ h9 => h9) rfl dX9_device_213 ?_
          refine va_get (D := (dC, dI)) (ci := 0) (v := .ref (a 15)) (C := RX0) (T := TX0) (N := 2) hx hb hts (q_iAx iA_0) hown hK hP 1 rfl rfl 0 (by decide) (hts (.fieldLink RX9 157 "HubTree$Bus" "row" "[I") (List.mem_cons_of_mem _ (List.mem_append_left _ m_462))) (fun _ h9 => h9) rfl dX9_device_216 ?_
          refine lv_bipush (v := 72) hx hb dX9_device_219 (by decide) ?_
          refine lv_iload_n hx hb dX9_device_221 rfl (lv_at hl 1 rfl) ?_
          refine lv_iadd hx hb dX9_device_222 ?_
          obtain ⟨h_25, hG⟩ := q_ix hG
          refine va_iald hx hb hK hP 2 0 rfl rfl (i := (72 + z1)) h_25 dX9_device_223 ?_
          refine q_top (y := (fr (72 + z1).toNatClampNeg)) rfl ?_
          obtain rfl := Option.some.inj hG
          refine vx_ret ?_
          refine W.widen (k := 1) (n := 6) (Nat.le_of_ble_eq_true rfl) (Nat.le_of_ble_eq_true rfl) ?_
          exact W.iret (v := (fr (72 + z1).toNatClampNeg)) hx hb hr (fun t ht hW => ⟨⟨(fr (72 + z1).toNatClampNeg), (), rfl, ⟨rfl, rfl⟩, trivial⟩, hS.F ht⟩) hS.2.2 dX9_device_224
        have hG := q_ifn e_24 hG
        by_cases e_26 : z2 = 10
        · have hG := q_ifp e_26 hG
          refine lv_tableIn (off := 193) (tgt := 225) hx hb dX9_device_32 (by rw [e_26]; decide) (by rw [e_26]; decide) (by rw [e_26]; decide) (by decide) ?_
          refine lv_aload_n hx hb dX9_device_225 rfl (lv_at hl 0 rfl) ?_
          refine va_get (D := (dC, dI)) (ci := 9) (v := .ref (a 14)) (C := RX9) (T := TX9) (N := 15) hx hb hts (q_iAx iA_9) hown hK hP 0 rfl rfl 5 (by decide) (hts (.fieldLink RX9 47 "HubTree" "now" "LHubTree$Bus;") (List.mem_cons_of_mem _ (List.mem_append_left _ m_34))) (fun _ h9 => h9) rfl dX9_device_226 ?_
          refine lv_iload_n hx hb dX9_device_229 rfl (lv_at hl 1 rfl) ?_
          obtain ⟨o_27, r_28, hG⟩ := q_bi hG
          refine q_goi (v := o_27) (va_runV (As := [.int z1]) (rest := []) ⟨hx, hb, hml, hown, hts⟩ (c_X0_depthOf l dC dI (a 14) (a 15) (a 7) (a 8) (a 9) dv (k 15) fr (k 8) (k 9) fu fp z1 o_27 r_28) (cwV 1 hts (q_gVx (q_gV m_487 m_488 m_489 m_33 m_490) (q_inV m_487 m_488 m_489 m_33 m_490)) rfl rfl rfl hdV_yX0_depthOf_1 ⟨Nat.le_of_ble_eq_true rfl, Nat.le_of_ble_eq_true rfl⟩) (q_preV hK hP (q := (RX0, TX0, 2)) (ci := 0) (q0 := 1) rfl rfl [1, 2, 3, 4, 5] rfl [0, 1, 2] rfl) rfl rfl hl.1 rfl (lv_room (Nat.le_of_ble_eq_true rfl)) dX9_device_230 ⟨Nat.le_of_ble_eq_true rfl, Nat.le_of_ble_eq_true rfl⟩) hP hS (fun H locs hP hS => ?_)
          obtain rfl := Option.some.inj hG
          refine vx_ret ?_
          refine W.widen (k := 1) (n := 6) (Nat.le_of_ble_eq_true rfl) (Nat.le_of_ble_eq_true rfl) ?_
          exact W.iret (v := o_27) hx hb hr (fun t ht hW => ⟨⟨o_27, (), rfl, ⟨rfl, rfl⟩, trivial⟩, hS.F ht⟩) hS.2.2 dX9_device_233
        have hG := q_ifn e_26 hG
        by_cases e_29 : z2 = 11
        · have hG := q_ifp e_29 hG
          refine lv_tableIn (off := 202) (tgt := 234) hx hb dX9_device_32 (by rw [e_29]; decide) (by rw [e_29]; decide) (by rw [e_29]; decide) (by decide) ?_
          refine lv_aload_n hx hb dX9_device_234 rfl (lv_at hl 0 rfl) ?_
          refine va_get (D := (dC, dI)) (ci := 9) (v := .ref (a 14)) (C := RX9) (T := TX9) (N := 15) hx hb hts (q_iAx iA_9) hown hK hP 0 rfl rfl 5 (by decide) (hts (.fieldLink RX9 47 "HubTree" "now" "LHubTree$Bus;") (List.mem_cons_of_mem _ (List.mem_append_left _ m_34))) (fun _ h9 => h9) rfl dX9_device_235 ?_
          refine lv_iload_n hx hb dX9_device_238 rfl (lv_at hl 1 rfl) ?_
          obtain ⟨o_30, r_31, hG⟩ := q_bi hG
          refine q_goi (v := o_30) (va_runV (As := [.int z1]) (rest := []) ⟨hx, hb, hml, hown, hts⟩ (c_X0_takesOf l dC dI (a 14) (a 15) (a 7) (a 8) (a 9) dv (k 15) fr (k 8) (k 9) fu fp z1 o_30 r_31) (cwV 1 hts (q_gVx (q_gV m_491 m_492 m_493 m_33 m_494) (q_inV m_491 m_492 m_493 m_33 m_494)) rfl rfl rfl hdV_yX0_takesOf_1 ⟨Nat.le_of_ble_eq_true rfl, Nat.le_of_ble_eq_true rfl⟩) (q_preV hK hP (q := (RX0, TX0, 2)) (ci := 0) (q0 := 1) rfl rfl [1, 2, 3, 4, 5] rfl [0, 1, 2] rfl) rfl rfl hl.1 rfl (lv_room (Nat.le_of_ble_eq_true rfl)) dX9_device_239 ⟨Nat.le_of_ble_eq_true rfl, Nat.le_of_ble_eq_true rfl⟩) hP hS (fun H locs hP hS => ?_)
          obtain rfl := Option.some.inj hG
          refine vx_ret ?_
          refine W.widen (k := 1) (n := 6) (Nat.le_of_ble_eq_true rfl) (Nat.le_of_ble_eq_true rfl) ?_
          exact W.iret (v := o_30) hx hb hr (fun t ht hW => ⟨⟨o_30, (), rfl, ⟨rfl, rfl⟩, trivial⟩, hS.F ht⟩) hS.2.2 dX9_device_242
        have hG := q_ifn e_29 hG
        have hsw : (z2).toInt < 0 ∨ 11 < (z2).toInt := by
          have := lv_neT (a := 0) e_6 (by decide)
          have := lv_neT (a := 1) e_8 (by decide)
          have := lv_neT (a := 2) e_10 (by decide)
          have := lv_neT (a := 3) e_12 (by decide)
          have := lv_neT (a := 4) e_14 (by decide)
          have := lv_neT (a := 5) e_16 (by decide)
          have := lv_neT (a := 6) e_18 (by decide)
          have := lv_neT (a := 7) e_20 (by decide)
          have := lv_neT (a := 8) e_22 (by decide)
          have := lv_neT (a := 9) e_24 (by decide)
          have := lv_neT (a := 10) e_26 (by decide)
          have := lv_neT (a := 11) e_29 (by decide)
          omega
        refine lv_tableOut (tgt := 243) hx hb dX9_device_32 hsw (by decide) ?_
        refine lv_aload_n hx hb dX9_device_243 rfl (lv_at hl 0 rfl) ?_
        refine va_get (D := (dC, dI)) (ci := 9) (v := .ref (a 14)) (C := RX9) (T := TX9) (N := 15) hx hb hts (q_iAx iA_9) hown hK hP 0 rfl rfl 5 (by decide) (hts (.fieldLink RX9 47 "HubTree" "now" "LHubTree$Bus;") (List.mem_cons_of_mem _ (List.mem_append_left _ m_34))) (fun _ h9 => h9) rfl dX9_device_244 ?_
        refine va_get (D := (dC, dI)) (ci := 0) (v := .ref (a 15)) (C := RX0) (T := TX0) (N := 2) hx hb hts (q_iAx iA_0) hown hK hP 1 rfl rfl 0 (by decide) (hts (.fieldLink RX9 157 "HubTree$Bus" "row" "[I") (List.mem_cons_of_mem _ (List.mem_append_left _ m_462))) (fun _ h9 => h9) rfl dX9_device_247 ?_
        refine lv_bipush (v := 88) hx hb dX9_device_250 (by decide) ?_
        refine lv_iload_n hx hb dX9_device_252 rfl (lv_at hl 1 rfl) ?_
        refine lv_iadd hx hb dX9_device_253 ?_
        obtain ⟨h_32, hG⟩ := q_ix hG
        refine va_iald hx hb hK hP 2 0 rfl rfl (i := (88 + z1)) h_32 dX9_device_254 ?_
        refine q_top (y := (fr (88 + z1).toNatClampNeg)) rfl ?_
        obtain rfl := Option.some.inj hG
        refine vx_ret ?_
        refine W.widen (k := 1) (n := 6) (Nat.le_of_ble_eq_true rfl) (Nat.le_of_ble_eq_true rfl) ?_
        exact W.iret (v := (fr (88 + z1).toNatClampNeg)) hx hb hr (fun t ht hW => ⟨⟨(fr (88 + z1).toNatClampNeg), (), rfl, ⟨rfl, rfl⟩, trivial⟩, hS.F ht⟩) hS.2.2 dX9_device_255
      · have hG := q_ifn c_5 hG
        obtain rfl := Option.some.inj hG
        exact q_throw (A := fun _ => False) (cls := "java/util/NoSuchElementException") (Y9 := "java/lang/RuntimeException") (r9 := ["java/lang/Exception"]) (ix := 13) (rx := prog_29_method_4_code) (text := "no such device, or nothing such is told of it") hx hb hlt q_x0 q_x1 q_x2 q_x5 hown (by decide +kernel) (by decide +kernel) (by decide +kernel) (hts (.classLink RX9 161 "java/util/NoSuchElementException") (List.mem_cons_of_mem _ (List.mem_append_left _ m_485))) (hts (.initialized "java/util/NoSuchElementException") (List.mem_cons_of_mem _ (List.mem_append_left _ m_486))) hE.2.2.1 (vx_hat (fun w h => hts w (List.mem_cons_of_mem _ (List.mem_append_right _ h))) q_nb_all (vx_c (va_Nw.use rfl hE.2.2.2.1) (vx_c (va_Nw.use rfl hE.2.2.2.2.1) (vx_c (va_Nw.use rfl hE.2.2.2.2.2.1) (vx_c (va_Nw.use rfl hE.2.2.2.2.2.2) vx_n))))) q_ot hE.1 hE.2.1 hS (by rw [hml]; exact hl.1) dX9_device_21 dX9_device_24 dX9_device_25 dX9_device_27 dX9_device_30 (fun x hx9 => absurd (hnt x hx9) id) (Nat.le_of_ble_eq_true rfl) (Nat.le_of_ble_eq_true rfl) (Nat.le_of_ble_eq_true rfl) (Nat.le_of_ble_eq_true rfl) hlocks (fun t ht h1 h2 => ⟨(), rfl, rfl, Nat.le_trans hS.1 h1, fun q h3 _ => (h2 q (Nat.lt_of_lt_of_le h3 hS.1)).trans (hS.2.1 q h3 id)⟩) hS.2.2 (Nat.le_of_ble_eq_true rfl) (Nat.le_of_ble_eq_true rfl)

theorem q_gDx {a : Cond} {own C : String} {idx maxL : Nat} {y : MethodName} {b : ByteArray} {ret : Option FieldType} (h1 : Cond.methodLink own idx y ∈ wA) (h2 : Cond.instanceMethod y ∈ wA) (h3 : Cond.selects C y y ∈ wA) (h4 : Cond.initialized C ∈ wA) (h5 : Cond.code y b maxL ret ∈ wA) : GoodIn (a :: (wA ++ q_wx)) (wsV own idx C y (Cond.code y b maxL ret :: (wA ++ q_wx))) := by
  intro w hw
  simp only [wsV, List.mem_append, List.mem_cons, List.not_mem_nil, or_false] at hw
  have hg : w ∈ wA ∨ w ∈ q_wx := by
    rcases hw with (rfl | rfl | rfl | rfl) | (rfl | hw)
    · exact Or.inl h1
    · exact Or.inl h2
    · exact Or.inl h3
    · exact Or.inl h4
    · exact Or.inl h5
    · exact hw
  rcases hg with hg | hg
  · exact ⟨List.mem_cons_of_mem _ (List.mem_append_left _ hg), good_of_word (gd_all w hg)⟩
  · exact ⟨List.mem_cons_of_mem _ (List.mem_append_right _ hg), good_of_word (List.all_eq_true.mp q_wx_good w hg)⟩
set_option maxHeartbeats 4000000 in
set_option maxRecDepth 100000 in
theorem c_L_device (l : Launch) (hlt : l.stackTraces = false) (dC : Nat → ClassId) (dI : Nat → Nat → Nat) (sa : Nat) (a : Nat → Nat) (k : Nat → ClassId) (hi : Int32) (dv : Int32) (fr : Nat → Int32) (fu : Nat → Int32) (fp : Nat → Int32) (z1 : Int32) (z2 : Int32) (o9 : Nat) (k9 : ClassId) (fo : Nat → Int64) (A : Nat → Prop) (o : Int32 × Int32) (hG : F_X9_device dv fr fu fp z1 z2 = some o) : Met l yL_device (.codeWith yL_device cL_device 5 (some .int) [(0, 10, 13, 13)] :: (wA ++ q_wx)) ({ frames := 8, cells := 1, slots := 6, locals := 112 }) (va_Pc [.ref (a 0), .int z1, .int z2, .ref o9] (q_WE (dC, dI) A [((a 0), .inr (9, [.ref (a 1), .ref (a 3), .ref (a 4), .ref (a 7), .ref (a 10), .ref (a 14), .ref (a 16), .ref (a 18), .ref (a 19), .ref (a 21), .ref (a 23), .ref (a 25), .ref (a 27), .ref (a 28), .int hi])), ((a 14), .inr (0, [.ref (a 15), .ref (a 7)])), ((a 15), .inl ((k 15), 98, .inl fr)), ((a 7), .inr (5, [.ref (a 8), .ref (a 9), .int dv])), ((a 8), .inl ((k 8), 8, .inl fu)), ((a 9), .inl ((k 9), 48, .inl fp)), (o9, .inl (k9, 1, .inr (.inl fo)))] [((k 15), .int), ((k 8), .int), ((k 9), .int), (k9, .long)] (q_X sa))) (va_Qi (fun (r : Int32) (_ : Unit) => r = o.1 ∧ True) (fun (_ : Unit) t => q_B (dC, dI) A [((a 0), .inr (9, [.ref (a 1), .ref (a 3), .ref (a 4), .ref (a 7), .ref (a 10), .ref (a 14), .ref (a 16), .ref (a 18), .ref (a 19), .ref (a 21), .ref (a 23), .ref (a 25), .ref (a 27), .ref (a 28), .int hi])), ((a 14), .inr (0, [.ref (a 15), .ref (a 7)])), ((a 15), .inl ((k 15), 98, .inl fr)), ((a 7), .inr (5, [.ref (a 8), .ref (a 9), .int dv])), ((a 8), .inl ((k 8), 8, .inl fu)), ((a 9), .inl ((k 9), 48, .inl fp)), (o9, .inl (k9, 1, .inr (.inl (if o.1 = 0 then vp_updL fo 0 (o.2).toInt64 else fo))))] [((k 15), .int), ((k 8), .int), ((k 9), .int), (k9, .long)] t) A) 1 6 A := by
  refine va_MetW (cc := cL_device) (maxL := 5) (ret := (some .int)) (hh := [(0, 10, 13, 13)]) (by decide) rfl ?_
  intro p e s m args below meth c s₁ B hml hv
  obtain ⟨rfl, hP, hK, hD, hA, hE⟩ := hv
  have hx := B.exec
  have hb := B.bytes
  have hr := B.returns
  have hts := atoms_spec (ws := .codeWith yL_device cL_device 5 (some .int) [(0, 10, 13, 13)] :: (wA ++ q_wx)) B.pre
  have hown : s.vm.findClass RL = some m.cls := findClass_of_methodNamed B.named
  have hlocks := B.notSynchronized
  have htab := vx_table (x := yL_device) B (hts (.codeWith yL_device cL_device 5 (some .int) [(0, 10, 13, 13)]) List.mem_cons_self)
  have hS : va_S A s.heap s.heap [] := va_S.rf
  have hl := lv_entry ([.ref (a 0), .int z1, .int z2, .ref o9]) (n := 5) (Nat.le_of_ble_eq_true rfl)
  rw [lg_entry_eq]
  generalize (lg_sl ([.ref (a 0), .int z1, .int z2, .ref o9]) ++ List.replicate (5 - (lg_sl ([.ref (a 0), .int z1, .int z2, .ref o9])).length) Slot.unset).toArray = ls at hl ⊢
  have hl : lv_has ls 5 [(0, .ref (a 0)), (1, .int z1), (2, .int z2), (3, .ref o9)] := hl
  refine lv_aload_n hx hb dL_device_0 rfl (lv_at hl 3 rfl) ?_
  refine lv_iconst (v := 0) hx hb dL_device_1 (by decide) ?_
  refine lv_aload_n hx hb dL_device_2 rfl (lv_at hl 0 rfl) ?_
  refine lv_iload_n hx hb dL_device_3 rfl (lv_at hl 1 rfl) ?_
  refine lv_iload_n hx hb dL_device_4 rfl (lv_at hl 2 rfl) ?_
  refine vx_calli (vx_runV (As := [.int z1, .int z2]) (rest := [.int 0, .ref o9]) ⟨hx, hb, hml, hown, hts⟩ (c_X9_device l hlt dC dI sa a k hi dv fr fu fp z1 z2 o hG) (cwV 2 hts (q_gDx m_481 m_482 m_483 m_2 m_484) rfl rfl rfl (by decide +kernel) ⟨Nat.le_of_ble_eq_true rfl, Nat.le_of_ble_eq_true rfl⟩) (q_preXV hK hP (q_X_give hE (fun _ _ => rfl)) (ci := 9) (q0 := 0) rfl rfl [0, 1, 2, 3, 4, 5] rfl [0, 1, 2] rfl) rfl rfl hl.1 rfl (lv_room (Nat.le_of_ble_eq_true rfl)) dL_device_5 ⟨Nat.le_of_ble_eq_true rfl, Nat.le_of_ble_eq_true rfl⟩) hS (fun _ _ h => h.elim) (fun _ h => h.elim) (fun _ _ h => h.elim) (fun E ce q9 u t H1 locs1 ht hvm hw hB hz hk hS hce hcv hcl => ?_) (fun r u t H1 locs1 ht hvm hw hB hz hk hS => ?_)
  · obtain rfl : E = "java/util/NoSuchElementException" := hB
    have hP : va_P (dC, dI) vwCl [((a 0), .inr (9, [.ref (a 1), .ref (a 3), .ref (a 4), .ref (a 7), .ref (a 10), .ref (a 14), .ref (a 16), .ref (a 18), .ref (a 19), .ref (a 21), .ref (a 23), .ref (a 25), .ref (a 27), .ref (a 28), .int hi])), ((a 14), .inr (0, [.ref (a 15), .ref (a 7)])), ((a 15), .inl ((k 15), 98, .inl fr)), ((a 7), .inr (5, [.ref (a 8), .ref (a 9), .int dv])), ((a 8), .inl ((k 8), 8, .inl fu)), ((a 9), .inl ((k 9), 48, .inl fp)), (o9, .inl (k9, 1, .inr (.inl fo)))] H1 := q_keep hP hk
    refine vx_catch (name := "java/util/NoSuchElementException") hown [] ⟨0, 10, 13, 13⟩ [] (by rw [htab]; rfl) (fun z hz => nomatch hz) rfl (by decide) (hts (.classLink RL 13 "java/util/NoSuchElementException") (List.mem_cons_of_mem _ (List.mem_append_left _ m_480))) (va_Nw.use rfl hE.2.2.2.2.2.2) hce hcv hcl ?_
    refine lv_astore (lv' := [(4, .ref q9), (0, .ref (a 0)), (1, .int z1), (2, .int z2), (3, .ref o9)]) hx hb dL_device_13 hl (by decide) rfl (fun ls hl => ?_)
    refine lv_iconst (v := 1) hx hb dL_device_15 (by decide) ?_
    have hw1 : o.1 = 1 := hw
    have hn : ¬ o.1 = 0 := by rw [hw1]; decide
    rw [if_neg hn]
    exact W.iret (v := 1) hx hb hr (fun t ht hW => ⟨⟨1, (), rfl, ⟨hw1.symm, trivial⟩, by rw [ht]; exact hP, va_K.moved hW.alike hK, hD⟩, hS.F ht⟩) hS.2.2 dL_device_16
  · have hP : va_P (dC, dI) vwCl [((a 0), .inr (9, [.ref (a 1), .ref (a 3), .ref (a 4), .ref (a 7), .ref (a 10), .ref (a 14), .ref (a 16), .ref (a 18), .ref (a 19), .ref (a 21), .ref (a 23), .ref (a 25), .ref (a 27), .ref (a 28), .int hi])), ((a 14), .inr (0, [.ref (a 15), .ref (a 7)])), ((a 15), .inl ((k 15), 98, .inl fr)), ((a 7), .inr (5, [.ref (a 8), .ref (a 9), .int dv])), ((a 8), .inl ((k 8), 8, .inl fu)), ((a 9), .inl ((k 9), 48, .inl fp)), (o9, .inl (k9, 1, .inr (.inl fo)))] H1 := q_keep hP hk
    obtain ⟨h0, rfl⟩ := hw
    refine lv_i2l hx hb dL_device_8 rfl ?_
    refine va_last hx hb hK hP hD hS 6 3 rfl rfl (i := 0) (x := (o.2).toInt64) (vp_in_iff.mpr (by decide)) dL_device_9 (fun H locs hP hD hS => ?_)
    refine lv_goto (tgt := 17) hx hb dL_device_10 (by decide) ?_
    refine lv_iconst (v := 0) hx hb dL_device_17 (by decide) ?_
    rw [if_pos h0]
    exact W.iret (v := 0) hx hb hr (fun t ht hW => ⟨⟨0, (), rfl, ⟨h0.symm, trivial⟩, by rw [ht]; exact hP, va_K.moved hW.alike hK, hD⟩, hS.F ht⟩) hS.2.2 dL_device_18
