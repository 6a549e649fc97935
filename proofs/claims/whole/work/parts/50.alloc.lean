/-! Making cells: contracts that make some, calls of them, and calls into a part of the world. -/
section AL
variable {κ : KX} {own : String} {cc : ByteArray} {nL : Nat} {rt : Option FieldType} {δ : EX} {rm : Room} {A0 : Nat → Prop} {hh : List (Nat × Nat × Nat × Nat)} {K : Heap → List Loc → Prop} {Q : State → Prop} {cs sl : Nat} {ws : va_W} {lv : List (Nat × Value)} {st : List Value} {pc : Nat} {P : Option Value → va_W → Prop}
theorem va_Zq.wide {C n d : String} {A : Nat → Prop} {U : State} {H : Heap} (h : va_Zq C n d A U H) : va_Zq C n d (fun q => A q ∨ H.size ≤ q) U H := by
  rcases h with ⟨cf, kf, fi, f, a, cell, h1, h2, h3, h4, h5, h6, h7, h8⟩ | ⟨t, cf, kf, fi, f, a, cell, h1, h2, h3, h4, h5, h6, h7, h8⟩
  · exact Or.inl ⟨cf, kf, fi, f, a, cell, h1, h2, h3, h4, h5, h6, h7, fun z => z.elim h8 (fun z => absurd (Array.getElem?_eq_some_iff.mp h5).1 (by omega))⟩
  · exact Or.inr ⟨t, cf, kf, fi, f, a, cell, h1, h2, h3, h4, h5, h6, h7, fun z => z.elim h8 (fun z => absurd (Array.getElem?_eq_some_iff.mp h5).1 (by omega))⟩
theorem vx_Zq.wide {C n d : String} {A : Nat → Prop} {U : State} {H : Heap} (h : vx_Zq C n d A U H) : vx_Zq C n d (fun q => A q ∨ H.size ≤ q) U H := by
  refine ⟨va_Zq.wide h.1, ?_⟩
  obtain ⟨c, k, i, f, a, cell, h1, h2, h3, h4, h5, h6, h7, h8, h9, h10⟩ := h.2
  exact ⟨c, k, i, f, a, cell, h1, h2, h3, h4, h5, h6, h7, h8, h9, fun z => z.elim h10 (fun z => absurd (Array.getElem?_eq_some_iff.mp h5).1 (by omega))⟩
theorem Fc_ofW (X : XO κ own cc nL rt δ rm A0 hh) {B0 : Nat → Prop} (hB : ∀ q, B0 q → A0 q ∨ (xs κ).heap.size ≤ q) {H : Heap} {locs : List Loc} (hK : Kn κ A0 H locs) {U : State} (hU : U.heap = H) (hW : (xs κ).WarmedH U.vm) : Fc δ B0 U := by
  subst hU
  have k : ∀ a : Nat, a < (xs κ).heap.size → ¬ (A0 a ∨ (xs κ).heap.size ≤ a) → U.heap[a]? = (xs κ).heap[a]? := fun a h1 h2 => hK.2.1 a h1 h2
  exact ⟨fun w hw => gl_moves hw hW (X.wd hw), va_K.moved hW.alike X.kk, ((X.Z.1.wide.kept k).narrow hB).moved hW.alike, ((X.Z.2.wide.kept k).narrow hB).moved hW.alike⟩
/-- a call of any method of which a contract is known -/
theorem w_runG (X : XO κ own cc nL rt δ rm A0 hh) {y : MethodName} {cw : Cond} {rm2 : Room} {Fx : State → Prop} {av : List Value} {cc2 : ByteArray} {nL2 : Nat} {rt2 : Option FieldType} {hh2 : List (Nat × Nat × Nat × Nat)} {Qc : State → Outcome → State → Prop}
    (hC : MetFree (xl κ) y (headSpec [cw] rm2) (fun a U => a = av.toArray ∧ Fx U ∧ va_P δ.1 vwCl ws U.heap) (fun _ _ _ _ _ => True) (fun _ st o t => Qc st o t))
    (hcw : cw = .code y cc2 nL2 rt2 ∨ cw = .codeWith y cc2 nL2 rt2 hh2) (hw : cw ∈ gl) (hini : Cond.initialized y.cls ∈ gl)
    {T : State} {H : Heap} {locs : List Loc} {ls : Array Slot} {rest stk : List Value} (hI : Inv κ T locs cs sl (F0 (xm κ) pc ls stk) rest y av.toArray) (hT : T.heap = H) (hP : va_P δ.1 vwCl ws H) (hF : ∀ U : State, U.heap = H → (xs κ).WarmedH U.vm → Fx U) (hls : ls.size = nL) {ig : Instr} (hd : decode cc pc = .ok (ig, 3))
    (hfr : rm2.frames + 1 ≤ rm.frames) (hlo : (rest.map fun v => v.category).sum + (nL2 + 11) + rm2.locals ≤ rm.locals) (hcs : cs + rm2.cells ≤ rm.cells) (hsl : sl + rm2.slots ≤ rm.slots) :
    ∃ (st t : State) (o : Outcome), st.heap = H ∧ Qc st o t ∧
      (∀ v L k n, o = .returned v → st.WarmedH t.vm → st.sameButNew ({ t with vm := st.vm } : State) L k n → ∃ T' : State, Stand (xp κ) (xl κ) (xe κ) (xR κ) (xs κ) (xm κ) (xa κ) (xb κ) (xM κ) (xc κ) T' (locs ++ L) (cs + k) (sl + n) ∧ T'.heap = t.heap ∧
        ∀ tg, Steps (xp κ).tables (xe κ) (xb κ) (T'.setTop (F0 (xm κ) (pc + 3) ls (v.toList ++ rest))) tg → Steps (xp κ).tables (xe κ) (xb κ) (T.setTop (F0 (xm κ) pc ls stk)) tg) ∧
      (∀ x L k n, o = .threw x → st.WarmedH t.vm → st.sameButNew ({ t with vm := st.vm } : State) L k n → ∃ T' : State, Stand (xp κ) (xl κ) (xe κ) (xR κ) (xs κ) (xm κ) (xa κ) (xb κ) (xM κ) (xc κ) T' (locs ++ L) (cs + k) (sl + n) ∧ T'.heap = t.heap ∧ T'.vm = t.vm ∧
        ∀ tg, Steps (xp κ).tables (xe κ) (xb κ) ((T'.setTop (F0 (xm κ) pc ls rest)).pushFrame (.throwing x)) tg → Steps (xp κ).tables (xe κ) (xb κ) (T.setTop (F0 (xm κ) pc ls stk)) tg) := by
  obtain ⟨vm', mk, X1, hnm, hst⟩ := hI
  subst hT
  have hn : (T.setVm vm').methodNamed? y = some mk := X1.named hnm
  have hcw1 : cw.before av.toArray (T.setVm vm') = true := gl_moves hw X1.warmed (X.wd hw)
  obtain ⟨mY, cY, hm, hc, hl⟩ : ∃ mY cY, (T.setVm vm').vm.method? mk = some mY ∧ mY.code = some cY ∧ cY.maxLocals = nL2 := by
    rcases hcw with rfl | rfl
    · obtain ⟨mY, cY, h1, h2, -, h4, -⟩ := Cond.code_spec hn hcw1
      exact ⟨mY, cY, h1, h2, h4⟩
    · obtain ⟨m', mY, cY, hn', h1, h2, -, h4, -⟩ := Cond.codeWith_spec hcw1
      cases hn.symm.trans hn'
      exact ⟨mY, cY, h1, h2, h4⟩
  obtain ⟨kY, hkY, -⟩ := className_of_methodNamed hn
  have hinit : kY.init = .initialized := Cond.initialized_spec (findClass_of_methodNamed hn) hkY (gl_moves (a' := #[]) hini X1.warmed (X.wd hini))
  have hgs : (F0 (xm κ) pc ls rest).locals.size = (xc κ).maxLocals := by rw [X.ml]; exact hls
  have hdc : decode (xc κ).code (F0 (xm κ) pc ls rest).pc = .ok (ig, 3) := by rw [X.2.1]; exact hd
  have h : At (T.setVm vm') (F0 (xm κ) pc ls rest).method (xc κ) (xb κ) := X1.here
  have hroom := X.room
  have happ : (headSpec [cw] rm2).appliesLoose y (xe κ).platform ((T.setVm vm').calling (F0 (xm κ) pc ls rest) mk av.toArray) = true :=
    Spec.appliesLoose_calling (g := F0 (xm κ) pc ls rest) h hdc hn hkY hinit
      (X1.room_calling (g := F0 (xm κ) pc ls rest) (R' := rm2) hgs hm hc (by rw [hroom]; exact hfr) (by rw [hl, hroom]; show 2 * 0 + (rest.map fun v => v.category).sum + _ + _ ≤ _; omega) (by rw [hroom]; exact hcs) (by rw [hroom]; exact hsl))
      (atoms_intro (fun c hc' => by rw [List.mem_singleton] at hc'; subst hc'; exact hcw1))
  obtain ⟨mid, hmid⟩ := h.above
  have hfr' : ((T.setVm vm').setTop (F0 (xm κ) pc ls rest)).frames = (.java (F0 (xm κ) pc ls rest) :: mid) ++ xb κ := by rw [State.frames_setTop' _ h.top, hmid]; rfl
  have hFc : Fx ((T.setVm vm').calling (F0 (xm κ) pc ls rest) mk av.toArray) := hF _ rfl X1.warmed
  obtain ⟨o, t, hsteps, -, hend, hq⟩ := Steps.callFree hC (xp κ) X1.admits X1.cas X1.clock (acts := []) hfr' happ ⟨rfl, hFc, hP⟩ trivial
  rw [State.frames_setTop' _ h.top, X1.tail] at hend
  refine ⟨(T.setVm vm').calling (F0 (xm κ) pc ls rest) mk av.toArray, t, o, rfl, hq, fun v L k n ho hW hsame => ?_, fun x L k n ho hW hsame => ?_⟩
  · subst ho
    obtain ⟨T', X', hW', hB', ht⟩ := X1.outOf (g := F0 (xm κ) pc ls rest) rfl hdc hend hW hsame
    exact ⟨T', X', by rw [ht]; rfl, fun tg htg => hst tg (fun acts => by rw [doInvoke_state]; exact hsteps.trans (by rw [ht]; exact htg))⟩
  · subst ho
    obtain ⟨T', X', hW', hB', ht⟩ := X1.outOfThrown (g := F0 (xm κ) pc ls rest) rfl hend hW hsame
    exact ⟨T', X', by rw [ht, Stand.throwing_heap], by rw [ht, Stand.throwing_vm], fun tg htg => hst tg (fun acts => by rw [doInvoke_state]; exact hsteps.trans (by rw [ht]; exact htg))⟩
/-- what a method leaves that makes at most mc cells of ms slots, and returns -/
def QxI (δ : EX) (A0 : Nat → Prop) (mc ms : Nat) (P : Option Value → va_W → Prop) (st : State) (o : Outcome) (t : State) : Prop :=
  ∃ (v : Option Value) (w : va_W) (L : List Loc), P v w ∧ va_D (fun q => A0 q ∨ st.heap.size ≤ q) w ∧ va_P δ.1 vwCl w t.heap ∧ (∀ q : Nat, q < st.heap.size → ¬ A0 q → t.heap[q]? = st.heap[q]?) ∧ st.WarmedH t.vm ∧ st.sameButNew ({ t with vm := st.vm } : State) L mc ms ∧ (∀ q ∈ L, A0 q.base ∨ st.heap.size ≤ q.base) ∧ o = .returned v ∧ st.heap.size ≤ t.heap.size
abbrev QeI (κ : KX) (δ : EX) (A0 : Nat → Prop) (mc ms : Nat) (P : Option Value → va_W → Prop) : State → Prop := fun t => ∃ o, t.status = .running ∧ Ended t (xb κ) o ∧ QxI δ A0 mc ms P (xs κ) o t
def CI (E : State → Prop) (l : Launch) (y : MethodName) (cw : Cond) (rm : Room) (δ : EX) (A0 : Nat → Prop) (ws : va_W) (av : List Value) (mc ms : Nat) (P : Option Value → va_W → Prop) : Prop :=
  MetFree l y (headSpec [cw] rm) (fun a U => a = av.toArray ∧ (Fc δ A0 U ∧ E U) ∧ va_P δ.1 vwCl ws U.heap) (fun _ _ _ _ _ => True) (fun _ st o t => QxI δ A0 mc ms P st o t)
theorem CI.of {E : State → Prop} {l : Launch} {y : MethodName} {cw : Cond} {av : List Value} {mc ms : Nat} (hcw : (cw = .code y cc nL rt ∧ hh = []) ∨ cw = .codeWith y cc nL rt hh) (hy : plainName y.cls = true) (htr : l.stackTraces = false) (hlv : lv_args 0 av = lv) (hlen : (lg_sl av).length ≤ nL)
    (body : ∀ κ : KX, xl κ = l → XO κ y.cls cc nL rt δ rm A0 hh → (xM κ).name = y.name → E (xs κ) → G κ nL δ (Kn κ A0) (QeI κ δ A0 mc ms P) 0 0 ws lv [] 0) : CI E l y cw rm δ A0 ws av mc ms P := by
  refine MetFree.of_bodyS (code := cc) (maxLocals := nL) (ret := rt) hy ?_ ?_
  · intro args s m h hn
    have h1 : cw.before args s = true := atoms_spec (ws := [cw]) h cw List.mem_cons_self
    rcases hcw with ⟨rfl, -⟩ | rfl
    · obtain ⟨meth, c, h1, h2, h3, h4, h5, h6, -, -⟩ := Cond.code_spec hn h1
      exact ⟨meth, c, h1, h2, h3, h4, h5, h6⟩
    · obtain ⟨m', meth, c, hn', hm, hc, h3, h4, -, h5, h6, -⟩ := Cond.codeWith_spec h1
      cases hn.symm.trans hn'
      exact ⟨meth, c, hm, hc, h3, h4, h5, h6⟩
  · intro p e s m args below meth c s₁ B hml hPc _
    obtain ⟨rfl, ⟨hF, hE⟩, hP⟩ := hPc
    have h1 : cw.before av.toArray s = true := atoms_spec (ws := [cw]) B.pre cw List.mem_cons_self
    have X₀ : Stand p l e rm s m av.toArray below meth c s₁ [] 0 0 := Stand.of_body B
    have hand : c.exceptionTable.toList.map (fun h => (h.startPc, h.endPc, h.handlerPc, h.catchType)) = hh := by
      rcases hcw with ⟨rfl, rfl⟩ | rfl
      · obtain ⟨meth', c', h1, h2, -, -, -, -, h7, -⟩ := Cond.code_spec B.named h1
        cases B.method.symm.trans h1
        cases X₀.code.symm.trans h2
        have h0 : c.exceptionTable.size = 0 := by simpa [Array.isEmpty] using h7
        have h8 : c.exceptionTable.toList = [] := List.eq_nil_of_length_eq_zero (by simpa using h0)
        rw [h8]
        rfl
      · obtain ⟨m', meth', c', hn', hm, hc, -, -, h7, -⟩ := Cond.codeWith_spec h1
        cases B.named.symm.trans hn'
        cases B.method.symm.trans hm
        cases X₀.code.symm.trans hc
        exact h7
    have hh0 : s₁.heap = s.heap := by rw [B.state]; rfl
    have hW : W p l e rm s m av.toArray below meth c s.heap [] 0 0 (QeI (p, l, e, rm, s, m, av.toArray, below, meth, c) δ A0 mc ms P) (entryFrame m av.toArray nL) := by
      rw [lg_entry_eq]
      exact body (p, l, e, rm, s, m, av.toArray, below, meth, c) rfl
        ⟨B.exec, B.bytes, hml, findClass_of_methodNamed B.named, fun w hw => gl_moves hw (State.WarmedH.refl s) (hF.1 w hw), B.notSynchronized, B.returns, rfl, hF.2.1, hF.2.2, hand, htr⟩ (name_of_methodNamed B.named B.method).1 hE _ _ _ (hlv ▸ lv_entry av hlen) hP va_S.rf
    obtain ⟨t, a1, o, b1, b2, b3⟩ := hW s₁ hh0 X₀
    exact ⟨t, o, a1, b1, b2, b3⟩
theorem QeI_ret {H : Heap} {locs : List Loc} {v : Option Value} {t : State} (hKn : Kn κ A0 H locs) (hD : va_D (fun q => A0 q ∨ (xs κ).heap.size ≤ q) ws) (hp : P v ws) (hP : va_P δ.1 vwCl ws H)
    (h : MQ (xb κ) (fun _ _ o t => o = .returned v ∧ t.heap = H) (xa κ) (xs κ) cs sl (fun q => A0 q ∨ (xs κ).heap.size ≤ q) t) : QeI κ δ A0 cs sl P t := by
  obtain ⟨o, h1, h2, ⟨rfl, rfl⟩, L, ⟨h3, h4, h5⟩, h6⟩ := h
  exact ⟨_, h1, h2, v, ws, L, hp, hD, hP, hKn.keep, h4, h5, h6, rfl, hKn.1⟩
theorem i_vret (X : XO κ own cc nL none δ rm A0 hh) (hD : va_D (fun q => A0 q ∨ (xs κ).heap.size ≤ q) ws) (hd : decode cc pc = .ok (.return_, 1)) (hp : P none ws) : G κ nL δ (Kn κ A0) (QeI κ δ A0 cs sl P) cs sl ws lv [] pc :=
  fun H locs ls _ hP hk => W_mono (fun _ => QeI_ret hk hD hp hP) (W.vret X.1 X.2.1 X.ret (fun t ht _ => ⟨rfl, ht⟩) hk.2.2 hd X.locks)
theorem i_iret (X : XO κ own cc nL (some .int) δ rm A0 hh) (hD : va_D (fun q => A0 q ∨ (xs κ).heap.size ≤ q) ws) {x : Int32} (hd : decode cc pc = .ok (.ireturn, 1)) (hp : P (some (.int x)) ws) : G κ nL δ (Kn κ A0) (QeI κ δ A0 cs sl P) cs sl ws lv [.int x] pc :=
  fun H locs ls _ hP hk => W_mono (fun _ => QeI_ret hk hD hp hP) (W.iret X.1 X.2.1 X.ret (fun t ht _ => ⟨rfl, ht⟩) hk.2.2 hd X.locks)
theorem g_widen {k n : Nat} (h1 : cs ≤ k) (h2 : sl ≤ n) (kk : G κ nL δ K Q k n ws lv st pc) : G κ nL δ K Q cs sl ws lv st pc := fun H locs ls h hP hK => W.widen h1 h2 (kk H locs ls h hP hK)
/-! making -/
theorem g_new (X : XO κ own cc nL rt δ rm A0 hh) (hD : va_D (fun q => A0 q ∨ (xs κ).heap.size ≤ q) ws) {idx ci N : Nat} {C : String} {T : u_T} {ty0 : Nat → FieldType} {fs : List Value} (hin : ∀ w ∈ u_ws C T N, w ∈ gl) (hty : ∀ k, k < N → parseFieldDescriptor (T k).2.2.1 = some (ty0 k)) (hc : vwCl[ci]? = some (C, T, N)) (hcl : Cond.classLink own idx C ∈ gl) (hinst : Cond.instantiable C N ∈ gl) (hini : Cond.initialized C ∈ gl)
    (hfs : ∀ j, j < N → defaultValue (ty0 j) = vp_V fs j) (hcells : cs + 1 ≤ rm.cells) (hslots : sl + N ≤ rm.slots) (hd : decode cc pc = .ok (.new idx, 3))
    (n : ∀ q, va_D (fun q => A0 q ∨ (xs κ).heap.size ≤ q) (ws ++ [(q, .inr (ci, fs))]) → G κ nL δ (Kn κ A0) Q (cs + 1) (sl + N) (ws ++ [(q, .inr (ci, fs))]) lv (.ref q :: st) (pc + 3)) : G κ nL δ (Kn κ A0) Q cs sl ws lv st pc :=
  fun H locs ls h hP hK => va_new X.1 X.2.1 (fun w hw => X.wd hw) hin ty0 hty X.ow (X.wd hcl) (X.wd hinst) (X.wd hini) X.kk hP hD hK (fun q hq => Or.inr hq) hc hfs (by rw [X.room]; exact hcells) (by rw [X.room]; exact hslots) hd (fun q H1 h1 h2 h3 => n q h2 H1 locs ls h h1 h3)
theorem RA_eq {U : State} {a b : ClassId} {ty : FieldType} (h1 : va_RA U a ty) (h2 : va_RA U b ty) : a = b := by
  cases ty with
  | object C =>
    obtain ⟨-, -, -, -, -, e1⟩ := h1
    obtain ⟨-, -, -, -, -, e2⟩ := h2
    exact Option.some.inj (e1.symm.trans e2)
  | _ => exact Option.some.inj (Eq.trans (Eq.symm h1) h2)
theorem g_newa (X : XO κ own cc nL rt δ rm A0 hh) (hD : va_D (fun q => A0 q ∨ (xs κ).heap.size ≤ q) ws) {atype : ArrayType} {N t0 : Nat} {ty : FieldType} (harr : Cond.arrayClass (newarray.typeOf atype) ∈ gl) (hty : newarray.typeOf atype = ty) (ht : (tyl δ.2)[t0]? = some (δ.2 t0, ty)) {a0 : vp_A} (ha : ∀ cA : ClassId, vp_cell cA a0 = arrV cA N (fun _ => defaultValue ty)) (h31 : N < 2 ^ 31) (hbytes : N * componentBytes ty ≤ 536870912) (hcells : cs + 1 ≤ rm.cells) (hslots : sl + N ≤ rm.slots) (hd : decode cc pc = .ok (.newarray atype, 2))
    (n : ∀ q, va_D (fun q => A0 q ∨ (xs κ).heap.size ≤ q) (ws ++ [(q, .inl (δ.2 t0, a0))]) → G κ nL δ (Kn κ A0) Q (cs + 1) (sl + N) (ws ++ [(q, .inl (δ.2 t0, a0))]) lv (.ref q :: st) (pc + 2)) : G κ nL δ (Kn κ A0) Q cs sl ws lv (.int (nI N) :: st) pc :=
  fun H locs ls h hP hK => va_newa X.1 X.2.1 (X.wd harr) hty X.kk hP hD hK (fun q hq => Or.inr hq) ha (nI_pos h31) (nI_clamp h31) hbytes (by rw [X.room]; exact hcells) (by rw [X.room]; exact hslots) hd (fun q cA H1 k1 h1 h2 h3 => by
    have e1 := (k1.2 4 (cA, ty) rfl).2
    have e2 := (X.kk.2 t0 _ ht).2
    have e := RA_eq e1 e2
    subst e
    exact n q h2 H1 locs ls h h1 h3)
theorem g_newq (X : XO κ own cc nL rt δ rm A0 hh) (hD : va_D (fun q => A0 q ∨ (xs κ).heap.size ≤ q) ws) {idx N : Nat} (hcl : Cond.classLink own idx R_M ∈ gl) (hov : va_AO R_M (xs κ)) (h31 : N < 2 ^ 31) (hbytes : N * 4 ≤ 536870912) (hcells : cs + 1 ≤ rm.cells) (hslots : sl + N ≤ rm.slots) (hd : decode cc pc = .ok (.anewarray idx, 3))
    (n : ∀ q, va_D (fun q => A0 q ∨ (xs κ).heap.size ≤ q) (ws ++ [(q, .inl (δ.2 3, N, .inr (.inr (.inr (.inr (fun _ => none))))))]) → G κ nL δ (Kn κ A0) Q (cs + 1) (sl + N) (ws ++ [(q, .inl (δ.2 3, N, .inr (.inr (.inr (.inr (fun _ => none))))))]) lv (.ref q :: st) (pc + 3)) : G κ nL δ (Kn κ A0) Q cs sl ws lv (.int (nI N) :: st) pc :=
  fun H locs ls h hP hK => va_newq X.1 X.2.1 X.ow (X.wd hcl) hov X.kk hP hD hK (fun q hq => Or.inr hq) (nI_pos h31) (nI_clamp h31) hbytes (by rw [X.room]; exact hcells) (by rw [X.room]; exact hslots) hd (fun q cA H1 k1 h1 h2 h3 => by
    have e1 := (k1.2 4 (cA, .object R_M) rfl).2
    have e2 := (X.kk.2 3 (δ.2 3, .object R_M) rfl).2
    have e := RA_eq e1 e2
    subst e
    exact n q h2 H1 locs ls h h1 h3)
theorem g_objI (X : XO κ own cc nL rt δ rm A0 hh) {idx a : Nat} (hl : Cond.methodLink own idx Lib.objectInit ∈ gl) (hi : Cond.instanceMethod Lib.objectInit ∈ gl) (hc : Cond.code Lib.objectInit ⟨#[0xb1]⟩ 1 none ∈ gl) (hd : decode cc pc = .ok (.invokespecial idx, 3)) (hrm : 1 ≤ rm.frames ∧ (st.map fun v => v.category).sum + 12 ≤ rm.locals)
    (n : G κ nL δ K Q cs sl ws lv st (pc + 3)) : G κ nL δ K Q cs sl ws lv (.ref a :: st) pc :=
  fun H locs ls h hP hK => W.objInit X.1 X.2.1 X.ow (X.wd hl) (X.wd hi) (X.wd hc) (g := F0 (xm κ) pc ls (.ref a :: st)) rfl (by rw [X.ml]; exact h.1) rfl hd (by rw [X.room]; exact hrm.1) (by rw [X.room]; show 2 * 0 + _ + _ ≤ _; have := hrm.2; omega) (n H locs ls h hP hK)
theorem g_putF (X : XO κ own cc nL rt δ rm A0 hh) (hin2 : (xM κ).name = "<init>") {idx ci q0 k a : Nat} {fs : List Value} {T : u_T} {N : Nat} {v : Value} {ty0 : Nat → FieldType} {ty : FieldType} (hin : ∀ w ∈ u_ws own T N, w ∈ gl) (hc : vwCl[ci]? = some (own, T, N)) (hty : ∀ k, k < N → parseFieldDescriptor (T k).2.2.1 = some (ty0 k)) (hnm : ∀ a, a < N → ∀ b, b < N → a ≠ b → (T a).2.1 ≠ (T b).2.1)
    (hD : va_D (fun q => A0 q ∨ (xs κ).heap.size ≤ q) ws) (he : ws[q0]? = some (a, .inr (ci, fs))) (hk : k < N) (ho : (T k).1 = own) (hf : Cond.fieldLink own idx own (T k).2.1 (T k).2.2.1 ∈ gl) (hfin : (T k).2.2.2 = true) (hpt : parseFieldDescriptor (T k).2.2.1 = some ty) (hn : narrow ty v = v) (hfit : fits ty v = true) (hl : k < fs.length) (hd : decode cc pc = .ok (.putfield idx, 3))
    (n : va_D (fun q => A0 q ∨ (xs κ).heap.size ≤ q) (ws.set q0 (a, .inr (ci, fs.set k v))) → G κ nL δ (Kn κ A0) Q cs sl (ws.set q0 (a, .inr (ci, fs.set k v))) lv st (pc + 3)) : G κ nL δ (Kn κ A0) Q cs sl ws lv (v :: .ref a :: st) pc :=
  fun H locs ls h hP hK => va_putF X.1 X.2.1 (fun w hw => X.wd hw) hin ty0 hty hnm X.ow X.kk hP hD hK q0 he hc k hk (X.wd hf) (fun x hx => by rw [ho] at hx; exact hx) hfin hin2 ho hpt hn hfit hl hd (fun H1 locs1 h1 h2 h3 => n h2 H1 locs1 ls h h1 h3)
/-- a constructor's call -/
theorem inv_I (X : XO κ own cc nL rt δ rm A0 hh) {y : MethodName} {idx b : Nat} {av : List Value} {cc2 : ByteArray} {nL2 : Nat} {rest stk : List Value} (hw : Cond.code y cc2 nL2 none ∈ gl) (hl : Cond.methodLink own idx y ∈ gl) (hin : Cond.instanceMethod y ∈ gl) (hy1 : y.name = "<init>")
    (hy : y.cls ≠ "java/lang/invoke/MethodHandle" ∧ y.cls ≠ "java/lang/invoke/VarHandle") (hn : (parseMethodDescriptor y.desc).map (fun d => d.parameters.length) = some av.length) (hd : decode cc pc = .ok (.invokespecial idx, 3)) (hst : stk = av.reverse ++ .ref b :: rest) : InvAt κ δ nL ws pc stk rest y (.ref b :: av) := by
  intro T H locs ls cs sl hT hP S
  have hpl : (xe κ).platform.magicAccessors = ({} : Platform).magicAccessors := by rw [S.admits.platform]
  obtain ⟨mk, methM, cM, kP, vm₁, hnamed, hmethM, hcodeM, -, hlocalsM, -, hkP, -, hW₁, hstep₁⟩ := Steps.initColdArgs (e := xe κ) S.here X.1 S.warmed hpl X.ow hy1 hy (X.wd hl) (X.wd hin) (X.wd hw) (f := F0 (xm κ) pc ls stk) rfl (argsL := av) (rest := rest) (fun sig h => by rw [h] at hn; exact (Option.some.inj hn).symm) hst (by rw [X.2.1]; exact hd)
  exact ⟨vm₁, mk, S.noted hW₁, hnamed, hstep₁⟩
theorem va_D_app {A B : Nat → Prop} {wr w : va_W} {H : Heap} (hr : va_D A wr) (hw : va_D B w) (hlt : ∀ (k : Nat) (q : Nat × va_E), wr[k]? = some q → ¬ B q.1) (hBA : ∀ q, B q → A q) : va_D A (wr ++ w) := by
  refine ⟨fun i j p q hi hj e => ?_, fun k q hk => ?_⟩
  · by_cases h1 : i < wr.length
    · rw [List.getElem?_append_left h1] at hi
      by_cases h2 : j < wr.length
      · rw [List.getElem?_append_left h2] at hj
        exact hr.1 i j p q hi hj e
      · rw [List.getElem?_append_right (by omega)] at hj
        exact absurd (e ▸ hw.2 _ _ hj) (hlt i p hi)
    · rw [List.getElem?_append_right (by omega)] at hi
      by_cases h2 : j < wr.length
      · rw [List.getElem?_append_left h2] at hj
        exact absurd (e.symm ▸ hw.2 _ _ hi) (hlt j q hj)
      · rw [List.getElem?_append_right (by omega)] at hj
        have := hw.1 _ _ p q hi hj e
        omega
  · by_cases h1 : k < wr.length
    · rw [List.getElem?_append_left h1] at hk
      exact hr.2 k q hk
    · rw [List.getElem?_append_right (by omega)] at hk
      exact hBA _ (hw.2 _ _ hk)
theorem g_callI {E : State → Prop} (hE : ∀ U : State, (xs κ).WarmedH U.vm → E U) (X : XO κ own cc nL rt δ rm A0 hh) {wr : va_W} {e0 : va_E} {y : MethodName} {idx b mc ms : Nat} {rm2 : Room} {cc2 : ByteArray} {nL2 : Nat} (hD : va_D (fun q => A0 q ∨ (xs κ).heap.size ≤ q) (wr ++ [(b, e0)])) (hC : CI E (xl κ) y (.code y cc2 nL2 none) rm2 δ (fun q => q = b) [(b, e0)] [.ref b] mc ms P) (hv : ∀ v w, P v w → v = none)
    (hw : Cond.code y cc2 nL2 none ∈ gl) (hl : Cond.methodLink own idx y ∈ gl) (hin : Cond.instanceMethod y ∈ gl) (hini : Cond.initialized y.cls ∈ gl) (hy1 : y.name = "<init>") (hy : y.cls ≠ "java/lang/invoke/MethodHandle" ∧ y.cls ≠ "java/lang/invoke/VarHandle") (hn : (parseMethodDescriptor y.desc).map (fun d => d.parameters.length) = some 0) (hd : decode cc pc = .ok (.invokespecial idx, 3))
    (hrm : RmOk rm rm2 nL2 cs sl st)
    (n : ∀ w, P none w → va_D (fun q => A0 q ∨ (xs κ).heap.size ≤ q) (wr ++ w) → G κ nL δ (Kn κ A0) Q (cs + mc) (sl + ms) (wr ++ w) lv st (pc + 3)) : G κ nL δ (Kn κ A0) Q cs sl (wr ++ [(b, e0)]) lv (.ref b :: st) pc := by
  intro H locs ls h hP hK T hT S
  have hb : (wr ++ [(b, e0)])[wr.length]? = some (b, e0) := by simp
  have hbA := hD.2 _ _ hb
  have hP1 : va_P δ.1 vwCl [(b, e0)] H := fun k q hq => by
    have hz : k < 1 := (List.getElem?_eq_some_iff.mp hq).1
    have h0 : k = 0 := by omega
    subst h0
    cases hq
    exact hP _ _ hb
  obtain ⟨st0, t, o, e1, hq, hret, -⟩ := w_runG X (hh2 := []) hC (Or.inl rfl) hw hini (inv_I X (av := []) (stk := .ref b :: st) hw hl hin hy1 hy hn hd rfl T H locs ls cs sl hT hP1 S) hT hP1 (fun U hU hWU => ⟨Fc_ofW X (fun q e => by subst e; exact hbA) hK hU hWU, hE U hWU⟩) h.1 hd hrm.1 hrm.2.1 hrm.2.2.1 hrm.2.2.2
  obtain ⟨v, w, L, hp, hDw, hPw, hkeep, hW, hsame, hL, ho, hsz⟩ := hq
  have ev := hv v w hp
  subst ev
  obtain ⟨T', S', ht, hs⟩ := hret none L mc ms ho hW hsame
  rw [e1] at hDw hkeep hL hsz
  have hlt : ∀ (k : Nat) (q : Nat × va_E), wr[k]? = some q → q.1 < H.size ∧ ¬ q.1 = b := fun k q hk => by
    have hk' : k < wr.length := (List.getElem?_eq_some_iff.mp hk).1
    have hk2 : (wr ++ [(b, e0)])[k]? = some q := by rw [List.getElem?_append_left hk']; exact hk
    refine ⟨(hP k q hk2).lt, fun e => ?_⟩
    have := hD.1 _ _ _ _ hk2 hb e
    omega
  have hDr : va_D (fun q => A0 q ∨ (xs κ).heap.size ≤ q) wr := ⟨fun i j p q hi hj e => hD.1 i j p q (by rw [List.getElem?_append_left (List.getElem?_eq_some_iff.mp hi).1]; exact hi) (by rw [List.getElem?_append_left (List.getElem?_eq_some_iff.mp hj).1]; exact hj) e, fun k q hk => hD.2 k q (by rw [List.getElem?_append_left (List.getElem?_eq_some_iff.mp hk).1]; exact hk)⟩
  have hD2 : va_D (fun q => A0 q ∨ (xs κ).heap.size ≤ q) (wr ++ w) := va_D_app (H := H) hDr hDw (fun k q hk z => by
    have := hlt k q hk
    rcases z with z | z
    · exact this.2 z
    · omega) (fun q z => by
    rcases z with rfl | z
    · exact hbA
    · exact Or.inr (Nat.le_trans hK.1 z))
  have hP2 : va_P δ.1 vwCl (wr ++ w) T'.heap := by
    refine va_P.app (va_P.kept (fun k q hk => hP k q (by rw [List.getElem?_append_left (List.getElem?_eq_some_iff.mp hk).1]; exact hk)) (fun k q hk => ?_)) (by rw [ht]; exact hPw)
    rw [ht]
    exact hkeep _ (hlt k q hk).1 (hlt k q hk).2
  obtain ⟨t', a1, b1⟩ := n w hp hD2 T'.heap (locs ++ L) ls h hP2 ⟨by rw [ht]; exact Nat.le_trans hK.1 hsz, fun q h1 h2 => by
      rw [ht]
      have hqb : ¬ q = b := fun e => h2 (e ▸ hbA)
      exact (hkeep q (Nat.lt_of_lt_of_le h1 hK.1) hqb).trans (hK.2.1 q h1 h2), fun q hq => by
      rcases List.mem_append.mp hq with h | h
      · exact hK.2.2 q h
      · rcases hL q h with h | h
        · rw [h]; exact hbA
        · exact Or.inr (Nat.le_trans hK.1 h)⟩ T' rfl S'
  exact ⟨t', hs t' a1, b1⟩
end AL
