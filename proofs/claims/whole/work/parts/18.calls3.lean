/-! calls by their bundles of words; rooms by levels -/
section GE
def RM (d : Nat) : Room := { frames := 6 + d, cells := 1, slots := 6, locals := 90 + 40 * d }
variable {κ : KX} {own : String} {cc : ByteArray} {nL : Nat} {rt : Option FieldType} {δ : EX} {rm : Room} {A0 : Nat → Prop} {hh : List (Nat × Nat × Nat × Nat)} {K : Heap → List Loc → Prop} {Q : State → Prop} {cs sl : Nat} {ws : va_W} {lv : List (Nat × Value)} {st : List Value} {pc idx : Nat} {P P' : OC → va_W → Prop}
variable {y : MethodName} {rm2 : Room} {av : List Value} {cc2 : ByteArray} {nL2 : Nat} {rt2 : Option FieldType} {rest stk : List Value} {b : Nat}
def RmOk (rm rm2 : Room) (nL2 cs sl : Nat) (rest : List Value) : Prop := rm2.frames + 1 ≤ rm.frames ∧ (rest.map fun v => v.category).sum + (nL2 + 11) + rm2.locals ≤ rm.locals ∧ cs + rm2.cells ≤ rm.cells ∧ sl + rm2.slots ≤ rm.slots
/-- a call that changes nothing and returns: static -/
theorem g_SP (X : XO κ own cc nL rt δ rm A0 hh) (hKO : KOk κ A0 K) (w : SW own idx y (.code y cc2 nL2 rt2) av.length) {v : Option Value} (hC : CTP (xl κ) y (.code y cc2 nL2 rt2) rm2 δ ws av (.inr v)) (hd : decode cc pc = .ok (.invokestatic idx, 3)) (hst : stk = av.reverse ++ rest) (hrm : RmOk rm rm2 nL2 cs sl rest)
    (n : G κ nL δ K Q cs sl ws lv (v.toList ++ rest) (pc + 3)) : G κ nL δ K Q cs sl ws lv stk pc :=
  g_callP X hKO (inv_S X (hh2 := []) (Or.inl rfl) w.2.2.2.1 w.1 w.2.1 w.2.2.1 w.2.2.2.2.1 w.2.2.2.2.2 hd hst) hC (hh2 := []) (Or.inl rfl) w.2.2.2.1 w.2.2.1 hd hrm n
/-- .. and throws -/
theorem g_ST (X : XO κ own cc nL rt δ rm A0 []) (hKO : KOk κ A0 K) (w : SW own idx y (.code y cc2 nL2 rt2) av.length) {z : Nat} (hC : CTP (xl κ) y (.code y cc2 nL2 rt2) rm2 δ ws av (.inl z)) (hd : decode cc pc = .ok (.invokestatic idx, 3)) (hst : stk = av.reverse ++ rest) (hrm : RmOk rm rm2 nL2 0 0 rest)
    (hp : P' (.inl z) ws) : G κ nL δ K (Qe κ δ A0 P') 0 0 ws lv stk pc :=
  g_callPT X hKO (inv_S X (hh2 := []) (Or.inl rfl) w.2.2.2.1 w.1 w.2.1 w.2.2.1 w.2.2.2.2.1 w.2.2.2.2.2 hd hst) hC (hh2 := []) (Or.inl rfl) w.2.2.2.1 w.2.2.1 hd hrm hp
/-- a static call by its contract -/
theorem g_SN (X : XO κ own cc nL rt δ rm A0 []) (w : SW own idx y (.code y cc2 nL2 rt2) av.length) (hC : CT (xl κ) y (.code y cc2 nL2 rt2) rm2 δ A0 ws av P) (hd : decode cc pc = .ok (.invokestatic idx, 3)) (hst : stk = av.reverse ++ rest) (hrm : RmOk rm rm2 nL2 0 0 rest)
    (n : ∀ v w, P (.inr v) w → G κ nL δ (Kn κ A0) (Qe κ δ A0 P') 0 0 w lv (v.toList ++ rest) (pc + 3)) (kt : ∀ z w, P (.inl z) w → P' (.inl z) w) : G κ nL δ (Kn κ A0) (Qe κ δ A0 P') 0 0 ws lv stk pc :=
  g_call X (inv_S X (hh2 := []) (Or.inl rfl) w.2.2.2.1 w.1 w.2.1 w.2.2.1 w.2.2.2.2.1 w.2.2.2.2.2 hd hst) hC (hh2 := []) (Or.inl rfl) w.2.2.2.1 w.2.2.1 hd hrm n kt
/-- virtual ones: the receiver is the cell q0 of the world -/
theorem g_VP (X : XO κ own cc nL rt δ rm A0 hh) (hKO : KOk κ A0 K) (w : VW own idx y (.code y cc2 nL2 rt2) av.length) {q0 ci N : Nat} {fs : List Value} {T0 : u_T} (he : ws[q0]? = some (b, .inr (ci, fs))) (hc : vwCl[ci]? = some (y.cls, T0, N)) {v : Option Value} (hC : CTP (xl κ) y (.code y cc2 nL2 rt2) rm2 δ ws (.ref b :: av) (.inr v)) (hd : decode cc pc = .ok (.invokevirtual idx, 3)) (hst : stk = av.reverse ++ .ref b :: rest) (hrm : RmOk rm rm2 nL2 cs sl rest)
    (n : G κ nL δ K Q cs sl ws lv (v.toList ++ rest) (pc + 3)) : G κ nL δ K Q cs sl ws lv stk pc :=
  g_callP X hKO (inv_V X (hh2 := []) (Or.inl rfl) w.2.2.2.1 w.1 w.2.1.1 w.2.1.2 w.2.2.2.2.1 w.2.2.2.2.2 hd hst he hc) hC (hh2 := []) (Or.inl rfl) w.2.2.2.1 w.2.2.1 hd hrm n
theorem g_VT (X : XO κ own cc nL rt δ rm A0 []) (hKO : KOk κ A0 K) (w : VW own idx y (.code y cc2 nL2 rt2) av.length) {q0 ci N : Nat} {fs : List Value} {T0 : u_T} (he : ws[q0]? = some (b, .inr (ci, fs))) (hc : vwCl[ci]? = some (y.cls, T0, N)) {z : Nat} (hC : CTP (xl κ) y (.code y cc2 nL2 rt2) rm2 δ ws (.ref b :: av) (.inl z)) (hd : decode cc pc = .ok (.invokevirtual idx, 3)) (hst : stk = av.reverse ++ .ref b :: rest) (hrm : RmOk rm rm2 nL2 0 0 rest)
    (hp : P' (.inl z) ws) : G κ nL δ K (Qe κ δ A0 P') 0 0 ws lv stk pc :=
  g_callPT X hKO (inv_V X (hh2 := []) (Or.inl rfl) w.2.2.2.1 w.1 w.2.1.1 w.2.1.2 w.2.2.2.2.1 w.2.2.2.2.2 hd hst he hc) hC (hh2 := []) (Or.inl rfl) w.2.2.2.1 w.2.2.1 hd hrm hp
theorem g_VN (X : XO κ own cc nL rt δ rm A0 []) (w : VW own idx y (.code y cc2 nL2 rt2) av.length) {q0 ci N : Nat} {fs : List Value} {T0 : u_T} (he : ws[q0]? = some (b, .inr (ci, fs))) (hc : vwCl[ci]? = some (y.cls, T0, N)) (hC : CT (xl κ) y (.code y cc2 nL2 rt2) rm2 δ A0 ws (.ref b :: av) P) (hd : decode cc pc = .ok (.invokevirtual idx, 3)) (hst : stk = av.reverse ++ .ref b :: rest) (hrm : RmOk rm rm2 nL2 0 0 rest)
    (n : ∀ v w, P (.inr v) w → G κ nL δ (Kn κ A0) (Qe κ δ A0 P') 0 0 w lv (v.toList ++ rest) (pc + 3)) (kt : ∀ z w, P (.inl z) w → P' (.inl z) w) : G κ nL δ (Kn κ A0) (Qe κ δ A0 P') 0 0 ws lv stk pc :=
  g_call X (inv_V X (hh2 := []) (Or.inl rfl) w.2.2.2.1 w.1 w.2.1.1 w.2.1.2 w.2.2.2.2.1 w.2.2.2.2.2 hd hst he hc) hC (hh2 := []) (Or.inl rfl) w.2.2.2.1 w.2.2.1 hd hrm n kt
theorem g_sb {lv' : List (Nat × Value)} (n : G κ nL δ K Q cs sl ws lv' st pc) (hs : lvSub lv' lv) : G κ nL δ K Q cs sl ws lv st pc := g_sub hs n
/-- a contract with one end and no throw -/
abbrev CTN (l : Launch) (y : MethodName) (cw : Cond) (rm : Room) (δ : EX) (A0 : Nat → Prop) (ws : va_W) (av : List Value) (v : Option Value) (ws' : va_W) : Prop := CT l y cw rm δ A0 ws av (fun r w => r = .inr v ∧ w = ws')
theorem b2_nar (b : Bool) : narrow .boolean (.int (b2 b)) = .int (b2 b) := by cases b <;> rfl
theorem b2_0 {b : Bool} : b2 b = 0 ↔ b = false := by cases b <;> decide
end GE
