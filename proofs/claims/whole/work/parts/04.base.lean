/-- where a static field lies, its class's statics cell in H -/
def vx_L (C n d : String) (A : Nat → Prop) (U : State) (H : Heap) : Prop := ∃ (c : ClassId) (k : Class) (i : Nat) (f : Field) (a : Nat) (cell : Cell), U.vm.findClass C = some c ∧ U.fieldFound? C n d = some (c, k, i, f) ∧ f.isStatic = true ∧ k.statics = some a ∧ H[a]? = some cell ∧ cell.vm.isStatics = true ∧ cell.cls = c ∧ f.slot < cell.slots.size ∧ k.staticTypes[f.slot]? = some f.type ∧ ¬ A a
theorem vx_L.moved {C n d : String} {A : Nat → Prop} {u U : State} {H : Heap} (hvm : u.vm.Alike U.vm) (h : vx_L C n d A u H) : vx_L C n d A U H := by
  obtain ⟨c, k, i, f, a, cell, h1, h2, h3, h4, h5, h6, h7, h8, h9, h10⟩ := h
  obtain ⟨k', hi', he⟩ := State.fieldFound?_setVm hvm h2
  exact ⟨c, k', i, f, a, cell, by rw [hvm.findClass]; exact h1, hi', h3, by rw [he]; exact h4, h5, h6, h7, h8, by rw [he]; exact h9, h10⟩
theorem vx_L.kept {C n d : String} {A : Nat → Prop} {U : State} {H H1 : Heap} (h : vx_L C n d A U H) (hq : ∀ a : Nat, a < H.size → ¬ A a → H1[a]? = H[a]?) : vx_L C n d A U H1 := by
  obtain ⟨c, k, i, f, a, cell, h1, h2, h3, h4, h5, h6, h7, h8, h9, h10⟩ := h
  exact ⟨c, k, i, f, a, cell, h1, h2, h3, h4, by rw [hq a (Array.getElem?_eq_some_iff.mp h5).1 h10]; exact h5, h6, h7, h8, h9, h10⟩
theorem vx_L.narrow {C n d : String} {A B : Nat → Prop} {U : State} {H : Heap} (h : vx_L C n d A U H) (hAB : ∀ q, B q → A q) : vx_L C n d B U H := by
  obtain ⟨c, k, i, f, a, cell, h1, h2, h3, h4, h5, h6, h7, h8, h9, h10⟩ := h
  exact ⟨c, k, i, f, a, cell, h1, h2, h3, h4, h5, h6, h7, h8, h9, fun z => h10 (hAB _ z)⟩
theorem vx_L.word {C n d : String} {A : Nat → Prop} {s : State} {args : Array Value} (h : vx_L C n d A s s.heap) : (Cond.laysStatic C n d).before args s = true := by
  obtain ⟨c, k, i, f, a, cell, h1, h2, h3, h4, h5, h6, h7, h8, h9, -⟩ := h
  show (Cond.laysStatic C n d).holds args s none s [] = true
  exact Cond.laysStatic_of h1 h2 h3 h4 h5 h6 h7 h8 h9
/-- .. and what it holds: null or some reference -/
def vx_Zq (C n d : String) (A : Nat → Prop) (U : State) (H : Heap) : Prop := va_Zq C n d A U H ∧ vx_L C n d A U H
theorem vx_Zq.moved {C n d : String} {A : Nat → Prop} {u U : State} {H : Heap} (hvm : u.vm.Alike U.vm) (h : vx_Zq C n d A u H) : vx_Zq C n d A U H := ⟨va_Zq.moved hvm h.1, vx_L.moved hvm h.2⟩
theorem vx_Zq.kept {C n d : String} {A : Nat → Prop} {U : State} {H H1 : Heap} (h : vx_Zq C n d A U H) (hq : ∀ a : Nat, a < H.size → ¬ A a → H1[a]? = H[a]?) : vx_Zq C n d A U H1 := ⟨va_Zq.kept h.1 hq, vx_L.kept h.2 hq⟩
theorem vx_Zq.narrow {C n d : String} {A B : Nat → Prop} {U : State} {H : Heap} (h : vx_Zq C n d A U H) (hAB : ∀ q, B q → A q) : vx_Zq C n d B U H := ⟨va_Zq.narrow h.1 hAB, vx_L.narrow h.2 hAB⟩
theorem vx_Zqof {args : Array Value} {s : State} {C n d : String} {A : Nat → Prop} (hl : (Cond.laysStatic C n d).before args s = true) (hini : (Cond.initialized C).before args s = true) (h : (Cond.isRef (.static C n d)).before args s = true) (hA : ∀ a : Nat, a < s.heap.size → ¬ A a) : vx_Zq C n d A s s.heap := by
  refine ⟨va_Zqof hl hini h hA, ?_⟩
  obtain ⟨c, k, i, f, a, cell, h1, h2, h3, h4, h5, h6, h7, h8, h9⟩ := Cond.laysStatic_spec hl
  exact ⟨c, k, i, f, a, cell, h1, h2, h3, h4, h5, h6, h7, h8, h9, hA a (Array.getElem?_eq_some_iff.mp h5).1⟩
theorem vx_isRef {C n d : String} {v : Value} {A : Nat → Prop} {s : State} {args : Array Value} (h : va_Z C n d v A s s.heap) (hv : v.isRef = true) : (Cond.isRef (.static C n d)).before args s = true := by
  obtain ⟨cf, kf, fi, f, a, cell, h1, h2, h3, h4, h5, h6, h7, -⟩ := h
  have he : (Term.static C n d).eval args s none [] s = some v := by
    simp [Term.eval, State.fieldNamed?, h1, h2, h4, h5, h6, h7]
  simp only [Cond.before, Cond.holds, Cond.value, he]
  cases v <;> simp_all [Value.isRef]
theorem vx_isRefq {C n d : String} {A : Nat → Prop} {s : State} {args : Array Value} (h : va_Zq C n d A s s.heap) : (Cond.isRef (.static C n d)).before args s = true := by
  rcases h with h | ⟨t, h⟩
  · exact vx_isRef h rfl
  · exact vx_isRef h rfl
/-! The base: one judgement G for a walk (machine, locals, stack, world), contracts CT for methods that return or throw. -/
section GB
/-- the constants of one invocation -/
abbrev KX : Type := Program × Launch × Env × Room × State × MethodId × Array Value × List Frame × Method × Code
abbrev xp (κ : KX) : Program := κ.1
abbrev xl (κ : KX) : Launch := κ.2.1
abbrev xe (κ : KX) : Env := κ.2.2.1
abbrev xR (κ : KX) : Room := κ.2.2.2.1
abbrev xs (κ : KX) : State := κ.2.2.2.2.1
abbrev xm (κ : KX) : MethodId := κ.2.2.2.2.2.1
abbrev xa (κ : KX) : Array Value := κ.2.2.2.2.2.2.1
abbrev xb (κ : KX) : List Frame := κ.2.2.2.2.2.2.2.1
abbrev xM (κ : KX) : Method := κ.2.2.2.2.2.2.2.2.1
abbrev xc (κ : KX) : Code := κ.2.2.2.2.2.2.2.2.2
abbrev kW (κ : KX) (H : Heap) (locs : List Loc) (cs sl : Nat) (Q : State → Prop) (g : JFrame) : Prop :=
  W (xp κ) (xl κ) (xe κ) (xR κ) (xs κ) (xm κ) (xa κ) (xb κ) (xM κ) (xc κ) H locs cs sl Q g
/-- the classes' numbers and slots, and the array classes' numbers -/
abbrev EX : Type := va_G × (Nat → ClassId)
/-- what ends a method: an exception's kind, or what it returns -/
abbrev OC : Type := Nat ⊕ Option Value
def xcN (z : Nat) : String := if z = 1 then "java/lang/IllegalArgumentException" else if z = 2 then "java/lang/IllegalStateException" else if z = 3 then "java/util/NoSuchElementException" else "java/lang/UnsupportedOperationException"
def Fs (A0 : Nat → Prop) (U : State) (H : Heap) : Prop := vx_Zq "java/lang/Throwable" "UNASSIGNED_STACK" "[Ljava/lang/StackTraceElement;" A0 U H ∧ vx_Zq "java/lang/Throwable" "SUPPRESSED_SENTINEL" "Ljava/util/List;" A0 U H
/-- what every method's start needs of the tables and of the statics -/
def Fc (δ : EX) (A0 : Nat → Prop) (U : State) : Prop := (∀ w ∈ gl, w.before #[] U = true) ∧ va_K δ.1 vwCl (tyl δ.2) U ∧ Fs A0 U U.heap
def XcAt (z x : Nat) (st t : State) : Prop := st.heap.size ≤ x ∧ ∃ cell : Cell, t.heap[x]? = some cell ∧ cell.vm = .none ∧ t.vm.findClass (xcN z) = some cell.cls
def Qx (δ : EX) (A0 : Nat → Prop) (P : OC → va_W → Prop) (st : State) (o : Outcome) (t : State) : Prop :=
  ∃ (r : OC) (w : va_W) (L : List Loc) (k n : Nat), P r w ∧ va_P δ.1 vwCl w t.heap ∧ (∀ q : Nat, q < st.heap.size → ¬ A0 q → t.heap[q]? = st.heap[q]?) ∧ st.WarmedH t.vm ∧ st.sameButNew ({ t with vm := st.vm } : State) L k n ∧ (∀ q ∈ L, A0 q.base ∨ st.heap.size ≤ q.base) ∧
    match r with
    | .inr v => o = .returned v ∧ k = 0 ∧ n = 0
    | .inl z => k = 1 ∧ n = 6 ∧ ∃ x : Nat, o = .threw x ∧ XcAt z x st t
/-- the locals that a store leaves -/
def lvR1 (i : Nat) (lv : List (Nat × Value)) : List (Nat × Value) := lv.filter (fun q => !(q.1 == i) && !(q.1 + 1 == i && q.2.category == 2))
def lvR2 (i : Nat) (lv : List (Nat × Value)) : List (Nat × Value) := lv.filter (fun q => !(q.1 == i) && (!(q.1 == i + 1) && !(q.1 + 1 == i && q.2.category == 2)))
theorem lv_lookm {lv : List (Nat × Value)} {i : Nat} {v : Value} (h : lv.lookup i = some v) : (i, v) ∈ lv := by
  induction lv with
  | nil => cases h
  | cons q r ih =>
    obtain ⟨j, u⟩ := q
    rw [List.lookup_cons] at h
    by_cases hij : i = j
    · subst hij
      simp at h
      subst h
      exact List.mem_cons_self
    · have hb : (i == j) = false := by simpa using hij
      rw [hb] at h
      exact List.mem_cons_of_mem _ (ih h)
theorem lv_look {ls : Array Slot} {nL : Nat} {lv : List (Nat × Value)} {i : Nat} {v : Value} (h : lv_has ls nL lv) (hl : lv.lookup i = some v) : ls[i]? = some (.val v) := h.2.2 (i, v) (lv_lookm hl)
/-- fewer locals -/
def lvSub : List (Nat × Value) → List (Nat × Value) → Prop
  | [], _ => True
  | q :: r, lv => lv.lookup q.1 = some q.2 ∧ lvSub r lv
theorem lvSub.has {ls : Array Slot} {nL : Nat} {lv : List (Nat × Value)} (h : lv_has ls nL lv) : ∀ lv' : List (Nat × Value), lvSub lv' lv → lv_has ls nL lv'
  | [], _ => ⟨h.1, h.2.1, fun _ hq => by cases hq⟩
  | q :: r, hs => ⟨h.1, h.2.1, fun z hz => by
      rcases List.mem_cons.mp hz with rfl | hz
      · exact lv_look h hs.1
      · exact (lvSub.has h r hs.2).2.2 z hz⟩
abbrev Qe (κ : KX) (δ : EX) (A0 : Nat → Prop) (P : OC → va_W → Prop) : State → Prop := fun t => ∃ o, t.status = .running ∧ Ended t (xb κ) o ∧ Qx δ A0 P (xs κ) o t
/-- the contract of a method -/
def CT (l : Launch) (y : MethodName) (cw : Cond) (rm : Room) (δ : EX) (A0 : Nat → Prop) (ws : va_W) (av : List Value) (P : OC → va_W → Prop) : Prop :=
  MetFree l y (headSpec [cw] rm) (fun a U => a = av.toArray ∧ Fc δ A0 U ∧ va_P δ.1 vwCl ws U.heap) (fun _ _ _ _ _ => True) (fun _ st o t => Qx δ A0 P st o t)
/-- how the heap may have moved since the entry: by writing to A0 and to new cells; or not at all -/
def Kn (κ : KX) (A0 : Nat → Prop) : Heap → List Loc → Prop := fun H locs => va_S (fun q => A0 q ∨ (xs κ).heap.size ≤ q) (xs κ).heap H locs
def Kp (κ : KX) : Heap → List Loc → Prop := fun H locs => H = (xs κ).heap ∧ locs = []
/-- the walk -/
def G (κ : KX) (nL : Nat) (δ : EX) (K : Heap → List Loc → Prop) (Q : State → Prop) (cs sl : Nat) (ws : va_W) (lv : List (Nat × Value)) (st : List Value) (pc : Nat) : Prop :=
  ∀ (H : Heap) (locs : List Loc) (ls : Array Slot), lv_has ls nL lv → va_P δ.1 vwCl ws H → K H locs → kW κ H locs cs sl Q (F0 (xm κ) pc ls st)
/-- what holds of the invocation -/
def XO (κ : KX) (own : String) (cc : ByteArray) (nL : Nat) (rt : Option FieldType) (δ : EX) (rm : Room) (A0 : Nat → Prop) (hh : List (Nat × Nat × Nat × Nat)) : Prop :=
  (xp κ).tables.exec = Jvm.exec ∧ (xc κ).code = cc ∧ (xc κ).maxLocals = nL ∧ (xs κ).vm.findClass own = some (xm κ).cls ∧ (∀ w ∈ gl, w.before (xa κ) (xs κ) = true) ∧ (xM κ).locks = false ∧ (xM κ).sig.returnType = rt ∧ xR κ = rm ∧ va_K δ.1 vwCl (tyl δ.2) (xs κ) ∧ Fs A0 (xs κ) (xs κ).heap ∧ (xc κ).exceptionTable.toList.map (fun h => (h.startPc, h.endPc, h.handlerPc, h.catchType)) = hh ∧ (xl κ).stackTraces = false
variable {κ : KX} {own : String} {cc : ByteArray} {nL : Nat} {rt : Option FieldType} {δ : EX} {rm : Room} {A0 : Nat → Prop} {hh : List (Nat × Nat × Nat × Nat)} {K : Heap → List Loc → Prop} {Q : State → Prop} {cs sl : Nat} {ws : va_W} {lv : List (Nat × Value)} {st : List Value} {pc : Nat}
theorem XO.ml (X : XO κ own cc nL rt δ rm A0 hh) : (xc κ).maxLocals = nL := X.2.2.1
theorem XO.ow (X : XO κ own cc nL rt δ rm A0 hh) : (xs κ).vm.findClass own = some (xm κ).cls := X.2.2.2.1
theorem XO.wd (X : XO κ own cc nL rt δ rm A0 hh) {w : Cond} (h : w ∈ gl) : w.before (xa κ) (xs κ) = true := X.2.2.2.2.1 w h
theorem XO.locks (X : XO κ own cc nL rt δ rm A0 hh) : (xM κ).locks = false := X.2.2.2.2.2.1
theorem XO.ret (X : XO κ own cc nL rt δ rm A0 hh) : (xM κ).sig.returnType = rt := X.2.2.2.2.2.2.1
theorem XO.room (X : XO κ own cc nL rt δ rm A0 hh) : xR κ = rm := X.2.2.2.2.2.2.2.1
theorem XO.kk (X : XO κ own cc nL rt δ rm A0 hh) : va_K δ.1 vwCl (tyl δ.2) (xs κ) := X.2.2.2.2.2.2.2.2.1
theorem XO.Z (X : XO κ own cc nL rt δ rm A0 hh) : Fs A0 (xs κ) (xs κ).heap := X.2.2.2.2.2.2.2.2.2.1
theorem XO.hand (X : XO κ own cc nL rt δ rm A0 hh) : (xc κ).exceptionTable.toList.map (fun h => (h.startPc, h.endPc, h.handlerPc, h.catchType)) = hh := X.2.2.2.2.2.2.2.2.2.2.1
theorem XO.tr (X : XO κ own cc nL rt δ rm A0 hh) : (xl κ).stackTraces = false := X.2.2.2.2.2.2.2.2.2.2.2
/-- fewer locals; another name for the top -/
theorem g_sub {lv' : List (Nat × Value)} (hs : lvSub lv' lv) (n : G κ nL δ K Q cs sl ws lv' st pc) : G κ nL δ K Q cs sl ws lv st pc :=
  fun H locs ls h hP hK => n H locs ls (lvSub.has h lv' hs) hP hK
theorem g_ei {x y : Int32} (he : x = y) (n : G κ nL δ K Q cs sl ws lv (.int y :: st) pc) : G κ nL δ K Q cs sl ws lv (.int x :: st) pc := he ▸ n
theorem g_el {x y : Int64} (he : x = y) (n : G κ nL δ K Q cs sl ws lv (.long y :: st) pc) : G κ nL δ K Q cs sl ws lv (.long x :: st) pc := he ▸ n
theorem g_es {st' : List Value} (he : st = st') (n : G κ nL δ K Q cs sl ws lv st' pc) : G κ nL δ K Q cs sl ws lv st pc := he ▸ n
theorem g_ew {ws' : va_W} (he : ws = ws') (n : G κ nL δ K Q cs sl ws' lv st pc) : G κ nL δ K Q cs sl ws lv st pc := he ▸ n
end GB
