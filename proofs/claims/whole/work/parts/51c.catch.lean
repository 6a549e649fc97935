/-! A thrown exception that one of the method's own rows takes, the rows ahead naming other kinds: the search links each name on its way. -/
section KC
/-- one row that names a kind: it takes the exception, or the search goes on; the name is linked now -/
theorem kc_row {e : Env} {S : State} {f : JFrame} {a : Addr} {x : ExceptionTableEntry} {t : List ExceptionTableEntry} {cx : ClassId} {cell : Cell} {Q : Handler → Pre} {E : CtlPost} {d : Bool} {acts : List Action} {k1 k2 : Class} (hx : covers x f.pc = true) (h0 : ¬ x.catchType = 0) (hl : S.vm.ClassLinks e.platform f.method.cls x.catchType cx) (hcell : S.heap[a]? = some cell) (hobj : cell.vm = .none) (hk1 : S.vm.classes[cell.cls]? = some k1) (hk2 : S.vm.classes[cx]? = some k2) :
    wp (findHandler.go f a (x :: t)) Q E e d acts S ↔ if S.vm.assignable cell.cls cx = true then Q (.found x.handlerPc) d acts (S.setVm (S.vm.noted f.method.cls x.catchType (.cls cx))) else wp (findHandler.go f a t) Q E e d acts (S.setVm (S.vm.noted f.method.cls x.catchType (.cls cx))) := by
  have al : S.vm.Alike (S.vm.noted f.method.cls x.catchType (.cls cx)) := (Vm.Alike.refl S.vm).noted _ _ _
  have gv := (resolveClass_links e.toSetting hl).op (op := VmOp.resolveClass f.method.cls x.catchType) rfl
  obtain ⟨j1, e1, -⟩ := al.2.2 _ _ hk1
  obtain ⟨j2, e2, -⟩ := al.2.2 _ _ hk2
  have hs : ∀ k, cell.vm ≠ .statics k := fun k q => by rw [hobj] at q; cases q
  unfold covers at hx
  have af : (S.vm.noted f.method.cls x.catchType (.cls cx)).assignable cell.cls cx = S.vm.assignable cell.cls cx := by rw [al.assignable]
  cases hf : S.vm.assignable cell.cls cx with
  | false =>
    rw [hf] at af
    simp [findHandler.go, hx, h0, gv.1, gv.2, hcell, hs, e1, e2, af, VmOp.dirties, VmOp.acts]
  | true =>
    rw [hf] at af
    simp [findHandler.go, hx, h0, gv.1, gv.2, hcell, hs, e1, e2, af, VmOp.dirties, VmOp.acts]
/-- what the search through a table comes to -/
def KF (e : Env) (S : State) (f : JFrame) (a : Addr) (t : List ExceptionTableEntry) (pc : Nat) (vm' : Vm) : Prop := ∀ (Q : Handler → Pre) (E : CtlPost) (d : Bool) (acts : List Action), wp (findHandler.go f a t) Q E e d acts S ↔ Q (.found pc) d acts (S.setVm vm')
/-- a row of another kind -/
def KO (e : Env) (s : State) (own : ClassId) (pc : Nat) (k : ClassId) (y : ExceptionTableEntry) : Prop := covers y pc = true → ¬ y.catchType = 0 ∧ ∃ c, s.vm.ClassLinks e.platform own y.catchType c ∧ s.vm.assignable k c = false
theorem kc_find {e : Env} {s : State} {f : JFrame} {a : Addr} {cell : Cell} {k0 : Class} (hobj : cell.vm = .none) (hk0 : s.vm.classes[cell.cls]? = some k0) {x : ExceptionTableEntry} {rest : List ExceptionTableEntry} {cx : ClassId} (hx : covers x f.pc = true) (h0 : ¬ x.catchType = 0) (hl : s.vm.ClassLinks e.platform f.method.cls x.catchType cx) (hfit : s.vm.assignable cell.cls cx = true) :
    ∀ (pre : List ExceptionTableEntry) (S : State), s.WarmedH S.vm → S.heap[a]? = some cell → (∀ y ∈ pre, KO e s f.method.cls f.pc cell.cls y) → ∃ vm', s.WarmedH vm' ∧ KF e S f a (pre ++ x :: rest) x.handlerPc vm' := by
  have one : ∀ (y : ExceptionTableEntry) (cy : ClassId) (S : State), s.vm.ClassLinks e.platform f.method.cls y.catchType cy → s.WarmedH S.vm → s.WarmedH (S.vm.noted f.method.cls y.catchType (.cls cy)) ∧ (∃ k, S.vm.classes[cell.cls]? = some k) ∧ ∃ k, S.vm.classes[cy]? = some k := by
    intro y cy S hy hW
    obtain ⟨dk, _, _, kt, hd, _, _, _, _, hkt, _, hopen⟩ := hy.here
    obtain ⟨k1, e1, -⟩ := hW.alike.2.2 _ _ hk0
    obtain ⟨k2, e2, -⟩ := hW.alike.2.2 _ _ hkt
    exact ⟨hW.noted hd hopen (State.rightAt_cls hy), ⟨k1, e1⟩, k2, e2⟩
  intro pre
  induction pre with
  | nil =>
    intro S hW hc _
    obtain ⟨w1, ⟨k1, e1⟩, k2, e2⟩ := one x cx S hl hW
    refine ⟨_, w1, fun Q E d acts => ?_⟩
    rw [List.nil_append, kc_row hx h0 (hW.classLinks hl) hc hobj e1 e2, hW.alike.assignable, if_pos hfit]
  | cons y ys ih =>
    intro S hW hc hy
    cases hcov : covers y f.pc with
    | false =>
      obtain ⟨vm', w1, q⟩ := ih S hW hc (fun z hz => hy z (List.mem_cons_of_mem _ hz))
      refine ⟨vm', w1, fun Q E d acts => ?_⟩
      rw [List.cons_append, W.findHandler_go_skip hcov]
      exact q Q E d acts
    | true =>
      obtain ⟨n0, cy, ly, no⟩ := hy y List.mem_cons_self hcov
      obtain ⟨w1, ⟨k1, e1⟩, k2, e2⟩ := one y cy S ly hW
      obtain ⟨vm', w2, q⟩ := ih (S.setVm (S.vm.noted f.method.cls y.catchType (.cls cy))) w1 hc (fun z hz => hy z (List.mem_cons_of_mem _ hz))
      refine ⟨vm', w2, fun Q E d acts => ?_⟩
      rw [List.cons_append, kc_row hcov n0 (hW.classLinks ly) hc hobj e1 e2, hW.alike.assignable, if_neg (by rw [no]; decide)]
      exact q Q E d acts
/-- the exception is taken in the method that is walked -/
theorem kc_catch {p : Program} {l : Launch} {e : Env} {R : Room} {s : State} {m : MethodId} {args : Array Value} {below : List Frame} {meth : Method} {c : Code} {T : State} {locs : List Loc} {cells slots : Nat} (X : Stand p l e R s m args below meth c T locs cells slots) (a : Addr) {g : JFrame} (hg : g.method = m) {cell : Cell} (hcell : T.heap[a]? = some cell) (hobj : cell.vm = .none) {k0 : Class} (hk0 : s.vm.classes[cell.cls]? = some k0) (pre : List ExceptionTableEntry) (x : ExceptionTableEntry) (rest : List ExceptionTableEntry) (hsplit : c.exceptionTable.toList = pre ++ x :: rest) (hpre : ∀ y ∈ pre, KO e s m.cls g.pc cell.cls y) (hx : covers x g.pc = true) (h0 : ¬ x.catchType = 0) {cx : ClassId} (hl : s.vm.ClassLinks e.platform m.cls x.catchType cx) (hfit : s.vm.assignable cell.cls cx = true) :
    ∃ vm', Stand p l e R s m args below meth c (T.setVm vm') locs cells slots ∧ Steps p.tables e below ((T.setTop g).pushFrame (.throwing a)) ((T.setVm vm').setTop { g with pc := x.handlerPc, stack := [.ref a] }) := by
  subst hg
  have hvm : ((T.setTop g).pushFrame (.throwing a)).vm = T.vm := Stand.throwing_vm T g a
  obtain ⟨vm', hW, hf⟩ := kc_find (e := e) (f := g) (a := a) (rest := rest) hobj hk0 hx h0 hl hfit pre ((T.setTop g).pushFrame (.throwing a)) (by rw [hvm]; exact X.warmed) (by rw [Stand.throwing_heap]; exact hcell) hpre
  refine ⟨vm', X.noted hW, ?_⟩
  have hA : At T g.method c below := X.here
  obtain ⟨hgo, hin⟩ := hA.throwing a
  refine Steps.head hgo hin ?_
  have hm : ((T.setTop g).pushFrame (.throwing a)).vm.method? g.method = some meth := by rw [hvm]; exact X.method'
  have hstep : (stepThrowing e ((T.setTop g).pushFrame (.throwing a)) a (.java g :: T.frames.tail)).Is ((((T.setTop g).pushFrame (.throwing a)).setVm vm').setFrames (.java { g with pc := x.handlerPc, stack := [.ref a] } :: T.frames.tail)) [] := by
    simp only [stepThrowing, searchFrame, vmDo]
    generalize hr : Sem.go _ e false [] ((T.setTop g).pushFrame (.throwing a)) = res
    have q : ∀ (Q : Handler → Pre) (E : CtlPost) (d : Bool) (acts : List Action), wp (findHandler g a) Q E e d acts ((T.setTop g).pushFrame (.throwing a)) ↔ Q (.found x.handlerPc) d acts (((T.setTop g).pushFrame (.throwing a)).setVm vm') := fun Q E d acts => by
      rw [W.findHandler_eq hm X.code, hsplit]
      exact hf Q E d acts
    obtain ⟨as, rfl, ha⟩ := Sem.eq_ok_of hr (a := Handler.found x.handlerPc) (s' := ((T.setTop g).pushFrame (.throwing a)).setVm vm') (acts' := []) (by simp [q])
    exact ⟨rfl, ha⟩
  rw [stepThread_throwing (frames_entered hA.top _), hstep.1]
  obtain ⟨g0, h1⟩ := Option.isSome_iff_exists.mp hA.top
  obtain ⟨r, h2⟩ := State.topJava?_eq_some.mp h1
  have h3 : (T.setVm vm').frames = .java g0 :: r := h2
  have e1 : ∀ (u : State) (A B : List Frame), ((u.setFrames A).setVm vm').setFrames B = (u.setVm vm').setFrames B := fun u A B => State.setFrames_setFrames (u.setVm vm') A B
  rw [State.setTop_of_frames _ h3, h2, List.tail_cons, State.pushFrame, e1, State.setTop_of_frames _ h2, e1]
  exact Steps.refl _
end KC
