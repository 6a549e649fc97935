section GD
variable {κ : KX} {own : String} {cc : ByteArray} {nL : Nat} {rt : Option FieldType} {δ : EX} {rm : Room} {A0 : Nat → Prop} {hh : List (Nat × Nat × Nat × Nat)} {K : Heap → List Loc → Prop} {Q : State → Prop} {cs sl : Nat} {ws : va_W} {lv : List (Nat × Value)} {st : List Value} {pc : Nat} {P P' : OC → va_W → Prop}
variable {y : MethodName} {cw : Cond} {rm2 : Room} {av : List Value} {cc2 : ByteArray} {nL2 : Nat} {rt2 : Option FieldType} {hh2 : List (Nat × Nat × Nat × Nat)} {rest stk : List Value}
/-- no old cell may be written -/
def NoA : Nat → Prop := fun _ => False
/-- at every point of a walk the instruction at pc invokes y with av -/
def InvAt (κ : KX) (δ : EX) (nL : Nat) (ws : va_W) (pc : Nat) (stk rest : List Value) (y : MethodName) (av : List Value) : Prop :=
  ∀ (T : State) (H : Heap) (locs : List Loc) (ls : Array Slot) (cs sl : Nat), T.heap = H → va_P δ.1 vwCl ws H → Stand (xp κ) (xl κ) (xe κ) (xR κ) (xs κ) (xm κ) (xa κ) (xb κ) (xM κ) (xc κ) T locs cs sl → Inv κ T locs cs sl (F0 (xm κ) pc ls stk) rest y av.toArray
theorem code_got {args : Array Value} {s : State} (hcw : cw = .code y cc2 nL2 rt2 ∨ cw = .codeWith y cc2 nL2 rt2 hh2) (h : cw.before args s = true) : ∃ mk meth, s.methodNamed? y = some mk ∧ s.vm.method? mk = some meth ∧ parseMethodDescriptor y.desc = some meth.sig := by
  rcases hcw with rfl | rfl
  · obtain ⟨mk, hn⟩ := Cond.code_named h
    obtain ⟨meth, c, h1, -, -, -, -, -, -, h2⟩ := Cond.code_spec hn h
    exact ⟨mk, meth, hn, h1, h2⟩
  · obtain ⟨mk, meth, c, hn, h1, -, -, -, -, -, -, h2⟩ := Cond.codeWith_spec h
    exact ⟨mk, meth, hn, h1, h2⟩
theorem inv_S (X : XO κ own cc nL rt δ rm A0 hh) {idx : Nat} (hcw : cw = .code y cc2 nL2 rt2 ∨ cw = .codeWith y cc2 nL2 rt2 hh2) (hw : cw ∈ gl) (hl : Cond.methodLink own idx y ∈ gl) (hs : Cond.static y ∈ gl) (hi : Cond.initialized y.cls ∈ gl)
    (hy : y.cls ≠ "java/lang/invoke/MethodHandle" ∧ y.cls ≠ "java/lang/invoke/VarHandle") (hn : (parseMethodDescriptor y.desc).map (fun d => d.parameters.length) = some av.length) (hd : decode cc pc = .ok (.invokestatic idx, 3)) (hst : stk = av.reverse ++ rest) : InvAt κ δ nL ws pc stk rest y av := by
  intro T H locs ls cs sl hT hP S
  obtain ⟨mk, meth, hnm, hm, hsig⟩ := code_got hcw (X.wd hw)
  obtain ⟨kP, hkP, -⟩ := className_of_methodNamed hnm
  have hlen : av.length = meth.sig.parameters.length := by
    rw [hsig] at hn
    exact (Option.some.inj hn).symm
  obtain ⟨vm₁, X₁, hstep⟩ := S.invokestatic X.1 X.ow (X.wd hl) hnm hm (Cond.static_spec hnm hm (X.wd hs)) hkP (Cond.initialized_spec (findClass_of_methodNamed hnm) hkP (X.wd hi)) hy (g := F0 (xm κ) pc ls stk) rfl (argsL := av) (rest := rest) hlen hst (by rw [X.2.1]; exact hd)
  exact ⟨vm₁, mk, X₁, hnm, hstep⟩
theorem inv_V (X : XO κ own cc nL rt δ rm A0 hh) {idx ci q0 : Nat} {b : Nat} {fs : List Value} {T0 : u_T} {N : Nat} (hcw : cw = .code y cc2 nL2 rt2 ∨ cw = .codeWith y cc2 nL2 rt2 hh2) (hw : cw ∈ gl) (hl : Cond.methodLink own idx y ∈ gl) (hin : Cond.instanceMethod y ∈ gl) (hse : Cond.selects y.cls y y ∈ gl)
    (hy : y.cls ≠ "java/lang/invoke/MethodHandle" ∧ y.cls ≠ "java/lang/invoke/VarHandle") (hn : (parseMethodDescriptor y.desc).map (fun d => d.parameters.length) = some av.length) (hd : decode cc pc = .ok (.invokevirtual idx, 3)) (hst : stk = av.reverse ++ .ref b :: rest)
    (he : ws[q0]? = some (b, .inr (ci, fs))) (hc : vwCl[ci]? = some (y.cls, T0, N)) : InvAt κ δ nL ws pc stk rest y (.ref b :: av) := by
  intro T H locs ls cs sl hT hP S
  obtain ⟨mk, meth, hnm, hm, hsig⟩ := code_got hcw (X.wd hw)
  have hlen : av.length = meth.sig.parameters.length := by
    rw [hsig] at hn
    exact (Option.some.inj hn).symm
  obtain ⟨mk', methM, hnamed, hmethM, hstM, habM⟩ := Cond.instanceMethod_spec (X.wd hin)
  cases hnm.symm.trans hnamed
  cases hm.symm.trans hmethM
  obtain ⟨r, hr, cell, hcell, hcls, hvm, -⟩ := hP q0 _ he
  cases hc.symm.trans hr
  have hK := (X.kk.1 ci _ hc).2.1
  obtain ⟨c2, r2, m2, q1, q2, q3, q4, kP, hkP, hkPi⟩ := Cond.selects_spec (X.wd hse)
  cases hK.symm.trans q1
  cases (State.methodFound?_of_named hnamed hy).symm.trans q2
  cases hnamed.symm.trans q3
  subst hT
  have hselP : selectMethod (xe κ).platform (xs κ).vm cell.cls mk = .method mk := by rw [Launch.admits_selectMethod S.admits, hcls]; exact q4
  obtain ⟨vm₁, X₁, hstep⟩ := S.invokevirtual X.1 X.ow (X.wd hl) hnamed hmethM hstM hkP hkPi hy (a := b) (cell := cell) hcell
    (fun z h => by rw [hvm] at h; cases h) hselP hmethM habM hkP hkPi (g := F0 (xm κ) pc ls stk) rfl (argsL := av) (rest := rest) hlen hst (by rw [X.2.1]; exact hd)
  exact ⟨vm₁, mk, X₁, hnm, hstep⟩
theorem noCovers (X : XO κ own cc nL rt δ rm A0 []) (pc : Nat) : ∀ x ∈ (xc κ).exceptionTable.toList, covers x pc = false := by
  intro x hx
  have h := X.hand
  rw [List.map_eq_nil_iff] at h
  rw [h] at hx
  cases hx
/-- a method without handlers leaves by what its callee threw -/
theorem Qe_thrown (X : XO κ own cc nL rt δ rm A0 []) {T' : State} {H : Heap} {locs L : List Loc} {ls : Array Slot} {z x : Nat} {w : va_W} (hK : Kn κ A0 H locs) (S : Stand (xp κ) (xl κ) (xe κ) (xR κ) (xs κ) (xm κ) (xa κ) (xb κ) (xM κ) (xc κ) T' (locs ++ L) (0 + 1) (0 + 6))
    (hp : P (.inl z) w) (hP : va_P δ.1 vwCl w T'.heap) (hk : ∀ q : Nat, q < H.size → ¬ A0 q → T'.heap[q]? = H[q]?) (hL : ∀ q ∈ L, A0 q.base ∨ H.size ≤ q.base) (hx : H.size ≤ x ∧ ∃ cell : Cell, T'.heap[x]? = some cell ∧ cell.vm = .none ∧ T'.vm.findClass (xcN z) = some cell.cls) :
    ∃ t, Steps (xp κ).tables (xe κ) (xb κ) ((T'.setTop (F0 (xm κ) pc ls rest)).pushFrame (.throwing x)) t ∧ Qe κ δ A0 P t := by
  obtain ⟨h1, h2, h3, h4, h5⟩ := S.leaveThrown x (g := F0 (xm κ) pc ls rest) rfl rfl rfl (noCovers X pc) X.locks
  refine ⟨_, h1, _, h2, h3, .inl z, w, locs ++ L, 1, 6, hp, hP, fun q q1 q2 => ?_, h4, h5, fun q hq => ?_, rfl, rfl, x, rfl, Nat.le_trans hK.1 hx.1, hx.2⟩
  · exact (hk q (Nat.lt_of_lt_of_le q1 hK.1) q2).trans (hK.keep q q1 q2)
  · rcases List.mem_append.mp hq with h | h
    · exact hK.2.2 q h
    · rcases hL q h with h | h
      · exact Or.inl h
      · exact Or.inr (Nat.le_trans hK.1 h)
/-- a call, by its contract: no handlers here -/
theorem g_call (X : XO κ own cc nL rt δ rm A0 []) (hI : InvAt κ δ nL ws pc stk rest y av) (hC : CT (xl κ) y cw rm2 δ A0 ws av P) (hcw : cw = .code y cc2 nL2 rt2 ∨ cw = .codeWith y cc2 nL2 rt2 hh2) (hw : cw ∈ gl) (hini : Cond.initialized y.cls ∈ gl) {ig : Instr} (hd : decode cc pc = .ok (ig, 3))
    (hrm : rm2.frames + 1 ≤ rm.frames ∧ (rest.map fun v => v.category).sum + (nL2 + 11) + rm2.locals ≤ rm.locals ∧ 0 + rm2.cells ≤ rm.cells ∧ 0 + rm2.slots ≤ rm.slots)
    (n : ∀ v w, P (.inr v) w → G κ nL δ (Kn κ A0) (Qe κ δ A0 P') 0 0 w lv (v.toList ++ rest) (pc + 3)) (kt : ∀ z w, P (.inl z) w → P' (.inl z) w) : G κ nL δ (Kn κ A0) (Qe κ δ A0 P') 0 0 ws lv stk pc := by
  intro H locs ls h hP hK T hT S
  rcases w_run X (fun _ q => q) hC hcw hw hini (hI T H locs ls 0 0 hT hP S) hT hP hK h.1 hd hrm.1 hrm.2.1 hrm.2.2.1 hrm.2.2.2 with ⟨v, w, L, T', S', hp, hP', hk, hz, hL, hs⟩ | ⟨z, x, w, L, T', S', hp, hP', hk, hz, hL, hx, hs⟩
  · obtain ⟨t, a1, b1⟩ := n v w hp T'.heap (locs ++ L) ls h hP' ⟨by rw [hz]; exact hK.1, fun q h1 h2 => (hk q (Nat.lt_of_lt_of_le h1 hK.1) (fun z => h2 (Or.inl z))).trans (hK.2.1 q h1 h2), fun q hq => by
      rcases List.mem_append.mp hq with h | h
      · exact hK.2.2 q h
      · rcases hL q h with h | h
        · exact Or.inl h
        · exact Or.inr (Nat.le_trans hK.1 h)⟩ T' rfl S'
    exact ⟨t, hs t a1, b1⟩
  · obtain ⟨t, a1, b1⟩ := Qe_thrown (P := P') (rest := rest) (ls := ls) (pc := pc) X hK S' (kt z w hp) hP' hk hL hx
    exact ⟨t, hs t a1, b1⟩
/-- a contract that changes nothing: one end -/
abbrev CTP (l : Launch) (y : MethodName) (cw : Cond) (rm : Room) (δ : EX) (ws : va_W) (av : List Value) (r : OC) : Prop := CT l y cw rm δ NoA ws av (fun r' w => r' = r ∧ w = ws)
theorem g_callP (X : XO κ own cc nL rt δ rm A0 hh) (hKO : KOk κ A0 K) (hI : InvAt κ δ nL ws pc stk rest y av) {v : Option Value} (hC : CTP (xl κ) y cw rm2 δ ws av (.inr v)) (hcw : cw = .code y cc2 nL2 rt2 ∨ cw = .codeWith y cc2 nL2 rt2 hh2) (hw : cw ∈ gl) (hini : Cond.initialized y.cls ∈ gl) {ig : Instr} (hd : decode cc pc = .ok (ig, 3))
    (hrm : rm2.frames + 1 ≤ rm.frames ∧ (rest.map fun v => v.category).sum + (nL2 + 11) + rm2.locals ≤ rm.locals ∧ cs + rm2.cells ≤ rm.cells ∧ sl + rm2.slots ≤ rm.slots)
    (n : G κ nL δ K Q cs sl ws lv (v.toList ++ rest) (pc + 3)) : G κ nL δ K Q cs sl ws lv stk pc := by
  intro H locs ls h hP hk0 T hT S
  have hK := hKO H locs hk0
  rcases w_run X (fun _ q => q.elim) hC hcw hw hini (hI T H locs ls cs sl hT hP S) hT hP hK h.1 hd hrm.1 hrm.2.1 hrm.2.2.1 hrm.2.2.2 with ⟨v', w, L, T', S', ⟨hp, -⟩, hP', hk, hz, hL, hs⟩ | ⟨z, x, w, L, T', S', ⟨hp, -⟩, -⟩
  · cases hp
    have hH : T'.heap = H := by
      apply Array.ext
      · exact hz
      · intro i h1 h2
        have := hk i h2 (fun q => q)
        rw [Array.getElem?_eq_getElem h1, Array.getElem?_eq_getElem h2] at this
        exact Option.some.inj this
    have S2 := Stand.forget (extra := L) S' (fun q hq => by
      rcases hL q hq with h | h
      · exact h.elim
      · exact Nat.le_trans hK.1 h)
    obtain ⟨t, a1, b1⟩ := n H locs ls h hP hk0 T' hH S2
    exact ⟨t, hs t a1, b1⟩
  · cases hp
theorem g_callPT (X : XO κ own cc nL rt δ rm A0 []) (hKO : KOk κ A0 K) (hI : InvAt κ δ nL ws pc stk rest y av) {z : Nat} (hC : CTP (xl κ) y cw rm2 δ ws av (.inl z)) (hcw : cw = .code y cc2 nL2 rt2 ∨ cw = .codeWith y cc2 nL2 rt2 hh2) (hw : cw ∈ gl) (hini : Cond.initialized y.cls ∈ gl) {ig : Instr} (hd : decode cc pc = .ok (ig, 3))
    (hrm : rm2.frames + 1 ≤ rm.frames ∧ (rest.map fun v => v.category).sum + (nL2 + 11) + rm2.locals ≤ rm.locals ∧ 0 + rm2.cells ≤ rm.cells ∧ 0 + rm2.slots ≤ rm.slots)
    (hp : P' (.inl z) ws) : G κ nL δ K (Qe κ δ A0 P') 0 0 ws lv stk pc := by
  intro H locs ls h hP hk0 T hT S
  have hK := hKO H locs hk0
  rcases w_run X (fun _ q => q.elim) hC hcw hw hini (hI T H locs ls 0 0 hT hP S) hT hP hK h.1 hd hrm.1 hrm.2.1 hrm.2.2.1 hrm.2.2.2 with ⟨v', w, L, T', S', ⟨hp', -⟩, -⟩ | ⟨z', x, w, L, T', S', ⟨hp', hw'⟩, hP', hk, hz, hL, hx, hs⟩
  · cases hp'
  · cases hp'
    subst hw'
    obtain ⟨t, a1, b1⟩ := Qe_thrown (P := P') (rest := rest) (ls := ls) (pc := pc) X hK S' hp hP' (fun q h1 _ => hk q h1 (fun z => z)) (fun q hq => Or.inr ((hL q hq).elim (fun z => z.elim) (fun z => z))) hx
    exact ⟨t, hs t a1, b1⟩
end GD
