/-! returns, contracts, calls -/
section GC
variable {κ : KX} {own : String} {cc : ByteArray} {nL : Nat} {rt : Option FieldType} {δ : EX} {rm : Room} {A0 : Nat → Prop} {hh : List (Nat × Nat × Nat × Nat)} {K : Heap → List Loc → Prop} {Q : State → Prop} {cs sl : Nat} {ws : va_W} {lv : List (Nat × Value)} {st : List Value} {pc : Nat} {P : OC → va_W → Prop}
theorem W_mono {p : Program} {l : Launch} {e : Env} {R : Room} {s : State} {m : MethodId} {args : Array Value} {below : List Frame} {meth : Method} {c : Code} {H : Heap} {locs : List Loc} {Q Q' : State → Prop} {g : JFrame} (hQ : ∀ t, Q t → Q' t) (h : W p l e R s m args below meth c H locs cs sl Q g) : W p l e R s m args below meth c H locs cs sl Q' g := fun T hT X => by
  obtain ⟨t, a, b⟩ := h T hT X
  exact ⟨t, a, hQ t b⟩
/-- K lets the heap move only where A0 says -/
def KOk (κ : KX) (A0 : Nat → Prop) (K : Heap → List Loc → Prop) : Prop := ∀ H locs, K H locs → Kn κ A0 H locs
theorem KOk.n : KOk κ A0 (Kn κ A0) := fun _ _ h => h
theorem KOk.p : KOk κ A0 (Kp κ) := fun _ _ h => by
  obtain ⟨rfl, rfl⟩ := h
  exact va_S.rf
theorem Kn.keep {H : Heap} {locs : List Loc} (h : Kn κ A0 H locs) : ∀ q : Nat, q < (xs κ).heap.size → ¬ A0 q → H[q]? = (xs κ).heap[q]? := fun q h1 h2 => h.2.1 q h1 (fun z => by
  rcases z with z | z
  · exact h2 z
  · omega)
theorem Qe_ret {H : Heap} {locs : List Loc} {v : Option Value} {t : State} (hKn : Kn κ A0 H locs) (hp : P (.inr v) ws) (hP : va_P δ.1 vwCl ws H)
    (h : MQ (xb κ) (fun _ _ o t => o = .returned v ∧ t.heap = H) (xa κ) (xs κ) 0 0 (fun q => A0 q ∨ (xs κ).heap.size ≤ q) t) : Qe κ δ A0 P t := by
  obtain ⟨o, h1, h2, ⟨rfl, rfl⟩, L, ⟨h3, h4, h5⟩, h6⟩ := h
  exact ⟨_, h1, h2, .inr v, ws, L, 0, 0, hp, hP, hKn.keep, h4, h5, h6, rfl, rfl, rfl⟩
theorem g_iret (X : XO κ own cc nL (some .int) δ rm A0 hh) (hK : KOk κ A0 K) {x : Int32} (hd : decode cc pc = .ok (.ireturn, 1)) (hp : P (.inr (some (.int x))) ws) : G κ nL δ K (Qe κ δ A0 P) 0 0 ws lv [.int x] pc :=
  fun H locs ls _ hP hk => W_mono (fun _ => Qe_ret (hK H locs hk) hp hP) (W.iret X.1 X.2.1 X.ret (fun t ht _ => ⟨rfl, ht⟩) (hK H locs hk).2.2 hd X.locks)
theorem g_lret (X : XO κ own cc nL (some .long) δ rm A0 hh) (hK : KOk κ A0 K) {x : Int64} (hd : decode cc pc = .ok (.lreturn, 1)) (hp : P (.inr (some (.long x))) ws) : G κ nL δ K (Qe κ δ A0 P) 0 0 ws lv [.long x] pc :=
  fun H locs ls _ hP hk => W_mono (fun _ => Qe_ret (hK H locs hk) hp hP) (W.lret X.1 X.2.1 X.ret (fun t ht _ => ⟨rfl, ht⟩) (hK H locs hk).2.2 hd X.locks)
theorem g_zret (X : XO κ own cc nL (some .boolean) δ rm A0 hh) (hK : KOk κ A0 K) {x : Int32} (hx : narrow .boolean (.int x) = .int x) (hd : decode cc pc = .ok (.ireturn, 1)) (hp : P (.inr (some (.int x))) ws) : G κ nL δ K (Qe κ δ A0 P) 0 0 ws lv [.int x] pc :=
  fun H locs ls _ hP hk => W_mono (fun _ => Qe_ret (hK H locs hk) hp hP) (W.zret X.1 X.2.1 X.ret hx (fun t ht _ => ⟨rfl, ht⟩) (hK H locs hk).2.2 hd X.locks)
theorem g_vret (X : XO κ own cc nL none δ rm A0 hh) (hK : KOk κ A0 K) (hd : decode cc pc = .ok (.return_, 1)) (hp : P (.inr none) ws) : G κ nL δ K (Qe κ δ A0 P) 0 0 ws lv [] pc :=
  fun H locs ls _ hP hk => W_mono (fun _ => Qe_ret (hK H locs hk) hp hP) (W.vret X.1 X.2.1 X.ret (fun t ht _ => ⟨rfl, ht⟩) (hK H locs hk).2.2 hd X.locks)
theorem g_aret {C : String} (X : XO κ own cc nL (some (.object C)) δ rm A0 hh) (hK : KOk κ A0 K) {a : Nat} (hd : decode cc pc = .ok (.areturn, 1)) (hp : P (.inr (some (.ref a))) ws) : G κ nL δ K (Qe κ δ A0 P) 0 0 ws lv [.ref a] pc :=
  fun H locs ls _ hP hk => W_mono (fun _ => Qe_ret (hK H locs hk) hp hP) (W.aret X.1 X.2.1 X.ret (Or.inl ⟨C, rfl⟩) (Or.inr ⟨a, rfl⟩) (fun t ht _ => ⟨rfl, ht⟩) (hK H locs hk).2.2 hd X.locks)
/-- a contract out of a walk -/
theorem CT.of {l : Launch} {y : MethodName} {cw : Cond} {av : List Value} (hcw : (cw = .code y cc nL rt ∧ hh = []) ∨ cw = .codeWith y cc nL rt hh) (hy : plainName y.cls = true) (htr : l.stackTraces = false) (hlv : lv_args 0 av = lv) (hlen : (lg_sl av).length ≤ nL)
    (body : ∀ κ : KX, xl κ = l → XO κ y.cls cc nL rt δ rm A0 hh → va_P δ.1 vwCl ws (xs κ).heap → ∀ ls, lv_has ls nL lv → kW κ (xs κ).heap [] 0 0 (Qe κ δ A0 P) (F0 (xm κ) 0 ls [])) : CT l y cw rm δ A0 ws av P := by
  refine MetFree.of_bodyS (code := cc) (maxLocals := nL) (ret := rt) hy ?_ ?_
  · intro args s m h hn
    have h1 : cw.before args s = true := atoms_spec (ws := [cw]) h cw List.mem_cons_self
    rcases hcw with ⟨rfl, -⟩ | rfl
    · obtain ⟨meth, c, h1, h2, h3, h4, h5, h6, -, -⟩ := Cond.code_spec hn h1
      exact ⟨meth, c, h1, h2, h3, h4, h5, h6⟩
    · obtain ⟨m', meth, c, hn', hm, hc, h3, h4, -, h5, h6, -⟩ := Cond.codeWith_spec h1
      cases hn.symm.trans hn'
      exact ⟨meth, c, hm, hc, h3, h4, h5, h6⟩
  · intro p e s m args below meth c s₁ B hml hPc _
    obtain ⟨rfl, hF, hP⟩ := hPc
    have h1 : cw.before av.toArray s = true := atoms_spec (ws := [cw]) B.pre cw List.mem_cons_self
    have X₀ : Stand p l e rm s m av.toArray below meth c s₁ [] 0 0 := Stand.of_body B
    have hand : c.exceptionTable.toList.map (fun h => (h.startPc, h.endPc, h.handlerPc, h.catchType)) = hh := by
      rcases hcw with ⟨rfl, rfl⟩ | rfl
      · obtain ⟨meth', c', h1, h2, -, -, -, -, h7, -⟩ := Cond.code_spec B.named h1
        cases B.method.symm.trans h1
        cases X₀.code.symm.trans h2
        have h0 : c.exceptionTable.size = 0 := by simpa [Array.isEmpty] using h7
        have h8 : c.exceptionTable.toList = [] := List.eq_nil_of_length_eq_zero (by simpa using h0)
        rw [h8]
        rfl
      · obtain ⟨m', meth', c', hn', hm, hc, -, -, h7, -⟩ := Cond.codeWith_spec h1
        cases B.named.symm.trans hn'
        cases B.method.symm.trans hm
        cases X₀.code.symm.trans hc
        exact h7
    have hh0 : s₁.heap = s.heap := by rw [B.state]; rfl
    have hW : W p l e rm s m av.toArray below meth c s.heap [] 0 0 (Qe (p, l, e, rm, s, m, av.toArray, below, meth, c) δ A0 P) (entryFrame m av.toArray nL) := by
      rw [lg_entry_eq]
      exact body (p, l, e, rm, s, m, av.toArray, below, meth, c) rfl
        ⟨B.exec, B.bytes, hml, findClass_of_methodNamed B.named, fun w hw => gl_moves hw (State.WarmedH.refl s) (hF.1 w hw), B.notSynchronized, B.returns, rfl, hF.2.1, hF.2.2, hand, htr⟩ hP _ (hlv ▸ lv_entry av hlen)
    obtain ⟨t, a1, o, b1, b2, b3⟩ := hW s₁ hh0 X₀
    exact ⟨t, o, a1, b1, b2, b3⟩
theorem CT.ofN {l : Launch} {y : MethodName} {cw : Cond} {av : List Value} (hcw : (cw = .code y cc nL rt ∧ hh = []) ∨ cw = .codeWith y cc nL rt hh) (hy : plainName y.cls = true) (htr : l.stackTraces = false) (hlv : lv_args 0 av = lv) (hlen : (lg_sl av).length ≤ nL)
    (body : ∀ κ : KX, xl κ = l → XO κ y.cls cc nL rt δ rm A0 hh → G κ nL δ (Kn κ A0) (Qe κ δ A0 P) 0 0 ws lv [] 0) : CT l y cw rm δ A0 ws av P :=
  CT.of hcw hy htr hlv hlen (fun κ h1 X hP ls hl => body κ h1 X _ _ ls hl hP va_S.rf)
theorem CT.ofP {l : Launch} {y : MethodName} {cw : Cond} {av : List Value} (hcw : (cw = .code y cc nL rt ∧ hh = []) ∨ cw = .codeWith y cc nL rt hh) (hy : plainName y.cls = true) (htr : l.stackTraces = false) (hlv : lv_args 0 av = lv) (hlen : (lg_sl av).length ≤ nL)
    (body : ∀ κ : KX, xl κ = l → XO κ y.cls cc nL rt δ rm A0 hh → G κ nL δ (Kp κ) (Qe κ δ A0 P) 0 0 ws lv [] 0) : CT l y cw rm δ A0 ws av P :=
  CT.of hcw hy htr hlv hlen (fun κ h1 X hP ls hl => body κ h1 X _ _ ls hl hP ⟨rfl, rfl⟩)
/-- what the invoking instruction itself does -/
def Inv (κ : KX) (T : State) (locs : List Loc) (cs sl : Nat) (g : JFrame) (rest : List Value) (y : MethodName) (a : Array Value) : Prop :=
  ∃ (vm' : Vm) (mk : MethodId), Stand (xp κ) (xl κ) (xe κ) (xR κ) (xs κ) (xm κ) (xa κ) (xb κ) (xM κ) (xc κ) (T.setVm vm') locs cs sl ∧ (xs κ).methodNamed? y = some mk ∧
    ∀ target, (∀ acts, Steps (xp κ).tables (xe κ) (xb κ) (doInvoke (xe κ) ((T.setVm vm').setTop { g with stack := rest }) acts mk a).1 target) → Steps (xp κ).tables (xe κ) (xb κ) (T.setTop g) target
/-- the callee's start, out of the caller's -/
theorem Fc_of (X : XO κ own cc nL rt δ rm A0 hh) {B0 : Nat → Prop} (hB : ∀ q, B0 q → A0 q) {H : Heap} {locs : List Loc} (hK : Kn κ A0 H locs) {U : State} (hU : U.heap = H) (hW : (xs κ).WarmedH U.vm) : Fc δ B0 U := by
  subst hU
  have k : ∀ a : Nat, a < (xs κ).heap.size → ¬ A0 a → U.heap[a]? = (xs κ).heap[a]? := hK.keep
  exact ⟨fun w hw => gl_moves hw hW (X.wd hw), va_K.moved hW.alike X.kk, ((X.Z.1.kept k).narrow hB).moved hW.alike, ((X.Z.2.kept k).narrow hB).moved hW.alike⟩
theorem w_run (X : XO κ own cc nL rt δ rm A0 hh) {y : MethodName} {cw : Cond} {rm2 : Room} {B0 : Nat → Prop} (hB : ∀ q, B0 q → A0 q) {av : List Value} {cc2 : ByteArray} {nL2 : Nat} {rt2 : Option FieldType} {hh2 : List (Nat × Nat × Nat × Nat)} (hC : CT (xl κ) y cw rm2 δ B0 ws av P)
    (hcw : cw = .code y cc2 nL2 rt2 ∨ cw = .codeWith y cc2 nL2 rt2 hh2) (hw : cw ∈ gl) (hini : Cond.initialized y.cls ∈ gl)
    {T : State} {H : Heap} {locs : List Loc} {ls : Array Slot} {rest stk : List Value} (hI : Inv κ T locs cs sl (F0 (xm κ) pc ls stk) rest y av.toArray) (hT : T.heap = H) (hP : va_P δ.1 vwCl ws H) (hK : Kn κ A0 H locs) (hls : ls.size = nL) {ig : Instr} (hd : decode cc pc = .ok (ig, 3))
    (hfr : rm2.frames + 1 ≤ rm.frames) (hlo : (rest.map fun v => v.category).sum + (nL2 + 11) + rm2.locals ≤ rm.locals) (hcs : cs + rm2.cells ≤ rm.cells) (hsl : sl + rm2.slots ≤ rm.slots) :
    (∃ (v : Option Value) (w : va_W) (L : List Loc) (T' : State), Stand (xp κ) (xl κ) (xe κ) (xR κ) (xs κ) (xm κ) (xa κ) (xb κ) (xM κ) (xc κ) T' (locs ++ L) cs sl ∧ P (.inr v) w ∧ va_P δ.1 vwCl w T'.heap ∧ (∀ q : Nat, q < H.size → ¬ B0 q → T'.heap[q]? = H[q]?) ∧ T'.heap.size = H.size ∧ (∀ q ∈ L, B0 q.base ∨ H.size ≤ q.base) ∧
      ∀ tg, Steps (xp κ).tables (xe κ) (xb κ) (T'.setTop (F0 (xm κ) (pc + 3) ls (v.toList ++ rest))) tg → Steps (xp κ).tables (xe κ) (xb κ) (T.setTop (F0 (xm κ) pc ls stk)) tg) ∨
    (∃ (z x : Nat) (w : va_W) (L : List Loc) (T' : State), Stand (xp κ) (xl κ) (xe κ) (xR κ) (xs κ) (xm κ) (xa κ) (xb κ) (xM κ) (xc κ) T' (locs ++ L) (cs + 1) (sl + 6) ∧ P (.inl z) w ∧ va_P δ.1 vwCl w T'.heap ∧ (∀ q : Nat, q < H.size → ¬ B0 q → T'.heap[q]? = H[q]?) ∧ H.size ≤ T'.heap.size ∧ (∀ q ∈ L, B0 q.base ∨ H.size ≤ q.base) ∧
      (H.size ≤ x ∧ ∃ cell : Cell, T'.heap[x]? = some cell ∧ cell.vm = .none ∧ T'.vm.findClass (xcN z) = some cell.cls) ∧
      ∀ tg, Steps (xp κ).tables (xe κ) (xb κ) ((T'.setTop (F0 (xm κ) pc ls rest)).pushFrame (.throwing x)) tg → Steps (xp κ).tables (xe κ) (xb κ) (T.setTop (F0 (xm κ) pc ls stk)) tg) := by
  obtain ⟨vm', mk, X1, hnm, hst⟩ := hI
  subst hT
  have hn : (T.setVm vm').methodNamed? y = some mk := X1.named hnm
  have hcw1 : cw.before av.toArray (T.setVm vm') = true := gl_moves hw X1.warmed (X.wd hw)
  obtain ⟨mY, cY, hm, hc, hl⟩ : ∃ mY cY, (T.setVm vm').vm.method? mk = some mY ∧ mY.code = some cY ∧ cY.maxLocals = nL2 := by
    rcases hcw with rfl | rfl
    · obtain ⟨mY, cY, h1, h2, -, h4, -⟩ := Cond.code_spec hn hcw1
      exact ⟨mY, cY, h1, h2, h4⟩
    · obtain ⟨m', mY, cY, hn', h1, h2, -, h4, -⟩ := Cond.codeWith_spec hcw1
      cases hn.symm.trans hn'
      exact ⟨mY, cY, h1, h2, h4⟩
  obtain ⟨kY, hkY, -⟩ := className_of_methodNamed hn
  have hinit : kY.init = .initialized := Cond.initialized_spec (findClass_of_methodNamed hn) hkY (gl_moves (a' := #[]) hini X1.warmed (X.wd hini))
  have hgs : (F0 (xm κ) pc ls rest).locals.size = (xc κ).maxLocals := by rw [X.ml]; exact hls
  have hdc : decode (xc κ).code (F0 (xm κ) pc ls rest).pc = .ok (ig, 3) := by rw [X.2.1]; exact hd
  have h : At (T.setVm vm') (F0 (xm κ) pc ls rest).method (xc κ) (xb κ) := X1.here
  have hroom := X.room
  have happ : (headSpec [cw] rm2).appliesLoose y (xe κ).platform ((T.setVm vm').calling (F0 (xm κ) pc ls rest) mk av.toArray) = true :=
    Spec.appliesLoose_calling (g := F0 (xm κ) pc ls rest) h hdc hn hkY hinit
      (X1.room_calling (g := F0 (xm κ) pc ls rest) (R' := rm2) hgs hm hc (by rw [hroom]; exact hfr) (by rw [hl, hroom]; show 2 * 0 + (rest.map fun v => v.category).sum + _ + _ ≤ _; omega) (by rw [hroom]; exact hcs) (by rw [hroom]; exact hsl))
      (atoms_intro (fun c hc' => by rw [List.mem_singleton] at hc'; subst hc'; exact hcw1))
  obtain ⟨mid, hmid⟩ := h.above
  have hfr' : ((T.setVm vm').setTop (F0 (xm κ) pc ls rest)).frames = (.java (F0 (xm κ) pc ls rest) :: mid) ++ xb κ := by rw [State.frames_setTop' _ h.top, hmid]; rfl
  have hFc : Fc δ B0 ((T.setVm vm').calling (F0 (xm κ) pc ls rest) mk av.toArray) := Fc_of X hB (H := T.heap) hK rfl X1.warmed
  obtain ⟨o, t, hsteps, -, hend, hq⟩ := Steps.callFree hC (xp κ) X1.admits X1.cas X1.clock (acts := []) hfr' happ ⟨rfl, hFc, hP⟩ trivial
  rw [State.frames_setTop' _ h.top, X1.tail] at hend
  obtain ⟨r, w, L, k, n, hPr, hPw, hkeep, hW, hsame, hL, hr⟩ := hq
  have hsz : ((T.setVm vm').calling (F0 (xm κ) pc ls rest) mk av.toArray).heap = T.heap := rfl
  have hge := hsame.2.1
  have hle := hsame.2.2.1
  cases r with
  | inr v =>
    obtain ⟨rfl, rfl, rfl⟩ := hr
    obtain ⟨T', X', hW', hB', ht⟩ := X1.outOf (g := F0 (xm κ) pc ls rest) rfl hdc hend hW hsame
    have hth : t.heap = T'.heap := by rw [ht]; rfl
    refine Or.inl ⟨v, w, L, T', X', hPr, by rw [← hth]; exact hPw, fun q h1 h2 => by rw [← hth]; exact hkeep q h1 h2, ?_, hL, fun tg htg => hst tg (fun acts => by rw [doInvoke_state]; exact hsteps.trans (by rw [ht]; exact htg))⟩
    have e1 : T.heap.size ≤ t.heap.size := hge
    have e2 : t.heap.size ≤ T.heap.size + 0 := hle
    rw [← hth]
    omega
  | inl z =>
    obtain ⟨rfl, rfl, x, rfl, hx1, cell, hx2, hx3, hx4⟩ := hr
    obtain ⟨T', X', hW', hB', ht⟩ := X1.outOfThrown (g := F0 (xm κ) pc ls rest) rfl hend hW hsame
    have hth : t.heap = T'.heap := by rw [ht, Stand.throwing_heap]
    have htv : t.vm = T'.vm := by rw [ht, Stand.throwing_vm]
    have e1 : T.heap.size ≤ t.heap.size := hge
    exact Or.inr ⟨z, x, w, L, T', X', hPr, by rw [← hth]; exact hPw, fun q h1 h2 => by rw [← hth]; exact hkeep q h1 h2, by rw [← hth]; exact e1, hL, ⟨hx1, cell, by rw [← hth]; exact hx2, hx3, by rw [← htv]; exact hx4⟩,
      fun tg htg => hst tg (fun acts => by rw [doInvoke_state]; exact hsteps.trans (by rw [ht]; exact htg))⟩
end GC
