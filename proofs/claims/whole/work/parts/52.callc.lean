/-! Calls into a part of the world, and what catches. -/
section CC
variable {κ : KX} {own : String} {cc : ByteArray} {nL : Nat} {rt : Option FieldType} {δ : EX} {rm : Room} {A0 B0 : Nat → Prop} {hh : List (Nat × Nat × Nat × Nat)} {K : Heap → List Loc → Prop} {Q : State → Prop} {cs sl : Nat} {ws ws1 wr : va_W} {mk : va_W → va_W} {lv : List (Nat × Value)} {rest stk : List Value} {pc : Nat}
variable {y : MethodName} {cw : Cond} {rm2 : Room} {av : List Value} {cc2 : ByteArray} {nL2 : Nat} {rt2 : Option FieldType} {hh2 : List (Nat × Nat × Nat × Nat)}
/-- the kinds that aren't each other -/
def ncL : List (Nat × Nat) := [(2, 1), (3, 1), (4, 1), (3, 2), (4, 2), (4, 3), (3, 4)]
def Ncs (U : State) : Prop := ∀ p ∈ ncL, va_Nc (xcN p.1) (xcN p.2) U
theorem Ncs.moved {u U : State} (hvm : u.vm.Alike U.vm) (h : Ncs u) : Ncs U := fun p hp => (h p hp).moved hvm
/-- the row of the table that catches kind z at pc -/
def CaOk (own : String) (hh : List (Nat × Nat × Nat × Nat)) (pc z hp : Nat) : Prop :=
  ∃ (pre : List (Nat × Nat × Nat × Nat)) (x : Nat × Nat × Nat × Nat) (suf : List (Nat × Nat × Nat × Nat)), hh = pre ++ x :: suf ∧ (∀ y ∈ pre, y.2.2.2 ≠ 0 ∧ ∃ z', Cond.classLink own y.2.2.2 (xcN z') ∈ gl ∧ (z, z') ∈ ncL) ∧ x.1 ≤ pc ∧ pc < x.2.1 ∧ x.2.2.1 = hp ∧ x.2.2.2 ≠ 0 ∧ Cond.classLink own x.2.2.2 (xcN z) ∈ gl ∧ Cond.castable (xcN z) (xcN z) ∈ gl
/-- how a world falls into a part that the callee knows and the rest -/
def Spl (δ : EX) (ws ws1 wr : va_W) (mk : va_W → va_W) (B0 : Nat → Prop) : Prop := (∀ H, va_P δ.1 vwCl ws H → va_P δ.1 vwCl ws1 H ∧ va_P δ.1 vwCl wr H) ∧ (∀ w H, va_P δ.1 vwCl w H → va_P δ.1 vwCl wr H → va_P δ.1 vwCl (mk w) H) ∧ ∀ (k : Nat) (q : Nat × va_E), wr[k]? = some q → ¬ B0 q.1
theorem Spl.back (h : Spl δ ws ws1 wr mk B0) {H H1 : Heap} (hP : va_P δ.1 vwCl ws H) (hk : ∀ q : Nat, q < H.size → ¬ B0 q → H1[q]? = H[q]?) {w : va_W} (hw : va_P δ.1 vwCl w H1) : va_P δ.1 vwCl (mk w) H1 :=
  h.2.1 w H1 hw (va_P.kept (h.1 H hP).2 (fun k q hq => hk q.1 ((h.1 H hP).2 k q hq).lt (h.2.2 k q hq)))
theorem Kn_step {H H1 : Heap} {locs L : List Loc} (hB : ∀ q, B0 q → A0 q ∨ (xs κ).heap.size ≤ q) (hK : Kn κ A0 H locs) (hz : H.size ≤ H1.size) (hk : ∀ q : Nat, q < H.size → ¬ B0 q → H1[q]? = H[q]?) (hL : ∀ q ∈ L, B0 q.base ∨ H.size ≤ q.base) : Kn κ A0 H1 (locs ++ L) :=
  ⟨Nat.le_trans hK.1 hz, fun q h1 h2 => (hk q (Nat.lt_of_lt_of_le h1 hK.1) (fun z => h2 (hB q z))).trans (hK.2.1 q h1 h2), fun q hq => by
    rcases List.mem_append.mp hq with h | h
    · exact hK.2.2 q h
    · rcases hL q h with h | h
      · exact hB _ h
      · exact Or.inr (Nat.le_trans hK.1 h)⟩
/-- a call in a method that catches -/
theorem g_callC {P : OC → va_W → Prop} (hE : Ncs (xs κ)) (X : XO κ own cc nL rt δ rm A0 hh) (hI : InvAt κ δ nL ws1 pc stk rest y av) (hC : CT (xl κ) y cw rm2 δ B0 ws1 av P) (hB : ∀ q, B0 q → A0 q ∨ (xs κ).heap.size ≤ q) (hs : Spl δ ws ws1 wr mk B0)
    (hcw : cw = .code y cc2 nL2 rt2 ∨ cw = .codeWith y cc2 nL2 rt2 hh2) (hw : cw ∈ gl) (hini : Cond.initialized y.cls ∈ gl) {ig : Instr} (hd : decode cc pc = .ok (ig, 3)) (hrm : RmOk rm rm2 nL2 cs sl rest) (hp : Nat → Nat) (hca : ∀ z w, P (.inl z) w → CaOk own hh pc z (hp z))
    (n : ∀ v w, P (.inr v) w → G κ nL δ (Kn κ A0) Q cs sl (mk w) lv (v.toList ++ rest) (pc + 3)) (kt : ∀ z w x, P (.inl z) w → G κ nL δ (Kn κ A0) Q (cs + 1) (sl + 6) (mk w) lv [.ref x] (hp z)) : G κ nL δ (Kn κ A0) Q cs sl ws lv stk pc := by
  intro H locs ls h hP hK T hT S
  have hP1 := (hs.1 H hP).1
  obtain ⟨st0, t, o, e1, hq, hret, hthr⟩ := w_runG X hC hcw hw hini (hI T H locs ls cs sl hT hP1 S) hT hP1 (fun U hU hWU => Fc_ofW X hB hK hU hWU) h.1 hd hrm.1 hrm.2.1 hrm.2.2.1 hrm.2.2.2
  obtain ⟨r, w, L, k, nn, hPr, hPw, hkeep, hW, hsame, hL, hr⟩ := hq
  have hge : st0.heap.size ≤ t.heap.size := hsame.2.1
  rw [e1] at hkeep hL hge
  cases r with
  | inr v =>
    obtain ⟨rfl, rfl, rfl⟩ := hr
    obtain ⟨T', S', ht, hst⟩ := hret v L 0 0 rfl hW hsame
    obtain ⟨t', a1, b1⟩ := n v w hPr T'.heap (locs ++ L) ls h (by rw [ht]; exact hs.back hP hkeep hPw) (by rw [ht]; exact Kn_step hB hK hge hkeep hL) T' rfl S'
    exact ⟨t', hst t' a1, b1⟩
  | inl z =>
    obtain ⟨rfl, rfl, x, rfl, hx1, cell, hx2, hx3, hx4⟩ := hr
    obtain ⟨T', S', ht, htv, hst⟩ := hthr x L 1 6 rfl hW hsame
    obtain ⟨pre, xx, suf, hspl, hpass, hc1, hc2, hc3, hc4, hc5, hc6⟩ := hca z w hPr
    have hx4' : (xs κ).vm.findClass (xcN z) = some cell.cls := by
      rw [← S'.warmed.alike.findClass, htv]
      exact hx4
    obtain ⟨l1, l2, q1, q2, q3⟩ := List.map_eq_append_iff.mp (X.hand.trans hspl)
    obtain ⟨ex, l3, q4, q5, q6⟩ := List.map_eq_cons_iff.mp q3
    subst q4
    have hpl : (xe κ).platform.magicAccessors = ({} : Platform).magicAccessors := by rw [S'.admits.platform]
    have f1 : ex.startPc = xx.1 := by rw [← q5]
    have f2 : ex.endPc = xx.2.1 := by rw [← q5]
    have f3 : ex.handlerPc = xx.2.2.1 := by rw [← q5]
    have f4 : ex.catchType = xx.2.2.2 := by rw [← q5]
    obtain ⟨c3, c4, hc3', hc4', hasg⟩ := Cond.castable_spec (X.wd hc6)
    cases Option.some.inj (hc3'.symm.trans hx4')
    obtain ⟨c5, hc5', hcl5⟩ := Cond.classLink_spec X.ow (X.wd hc5) (xe κ).platform hpl
    cases Option.some.inj (hc4'.symm.trans hc5')
    obtain ⟨k9, hk9, -⟩ := Vm.findClass_spec hx4'
    obtain ⟨vm', S2, st2⟩ := kc_catch S' x (g := F0 (xm κ) pc ls rest) rfl (by rw [ht]; exact hx2) hx3 hk9 l1 ex l3 q1
      (fun r hr _ => by
        have hr2 : (r.startPc, r.endPc, r.handlerPc, r.catchType) ∈ pre := by
          rw [← q2]
          exact List.mem_map_of_mem (f := fun h : ExceptionTableEntry => (h.startPc, h.endPc, h.handlerPc, h.catchType)) hr
        obtain ⟨hz0, z', hl1, hn1⟩ := hpass _ hr2
        obtain ⟨c6, hc6', hcl6⟩ := Cond.classLink_spec X.ow (X.wd hl1) (xe κ).platform hpl
        obtain ⟨a8, b8, h1, h2, h3⟩ := hE _ hn1
        cases Option.some.inj (h1.symm.trans hx4')
        cases Option.some.inj (h2.symm.trans hc6')
        exact ⟨hz0, _, hcl6, h3⟩) (by
        show covers ex pc = true
        simp only [covers, f1, f2]
        simp [hc1, hc2]) (by rw [f4]; exact hc4) (by rw [f4]; exact hcl5) hasg
    rw [f3, hc3] at st2
    obtain ⟨t', a1, b1⟩ := kt z w x hPr T'.heap (locs ++ L) ls h (by rw [ht]; exact hs.back hP hkeep hPw) (by rw [ht]; exact Kn_step hB hK hge hkeep hL) (T'.setVm vm') rfl S2
    exact ⟨t', hst t' (st2.trans a1), b1⟩
/-- a call of a method that may make cells and returns -/
theorem g_callL {E : State → Prop} {P : Option Value → va_W → Prop} {mc ms : Nat} (hE : ∀ U : State, (xs κ).WarmedH U.vm → E U) (X : XO κ own cc nL rt δ rm A0 hh) (hI : InvAt κ δ nL ws1 pc stk rest y av) (hC : CI E (xl κ) y cw rm2 δ B0 ws1 av mc ms P) (hB : ∀ q, B0 q → A0 q ∨ (xs κ).heap.size ≤ q) (hs : Spl δ ws ws1 wr mk B0)
    (hcw : cw = .code y cc2 nL2 rt2 ∨ cw = .codeWith y cc2 nL2 rt2 hh2) (hw : cw ∈ gl) (hini : Cond.initialized y.cls ∈ gl) {ig : Instr} (hd : decode cc pc = .ok (ig, 3)) (hrm : RmOk rm rm2 nL2 cs sl rest)
    (n : ∀ v w, P v w → G κ nL δ (Kn κ A0) Q (cs + mc) (sl + ms) (mk w) lv (v.toList ++ rest) (pc + 3)) : G κ nL δ (Kn κ A0) Q cs sl ws lv stk pc := by
  intro H locs ls h hP hK T hT S
  have hP1 := (hs.1 H hP).1
  obtain ⟨st0, t, o, e1, hq, hret, -⟩ := w_runG X hC hcw hw hini (hI T H locs ls cs sl hT hP1 S) hT hP1 (fun U hU hWU => ⟨Fc_ofW X hB hK hU hWU, hE U hWU⟩) h.1 hd hrm.1 hrm.2.1 hrm.2.2.1 hrm.2.2.2
  obtain ⟨v, w, L, hPr, -, hPw, hkeep, hW, hsame, hL, ho, hge⟩ := hq
  rw [e1] at hkeep hL hge
  obtain ⟨T', S', ht, hst⟩ := hret v L mc ms ho hW hsame
  obtain ⟨t', a1, b1⟩ := n v w hPr T'.heap (locs ++ L) ls h (by rw [ht]; exact hs.back hP hkeep hPw) (by rw [ht]; exact Kn_step hB hK hge hkeep hL) T' rfl S'
  exact ⟨t', hst t' a1, b1⟩
/-- a call of a method that never throws -/
theorem g_callT {P : OC → va_W → Prop} (X : XO κ own cc nL rt δ rm A0 hh) (hI : InvAt κ δ nL ws1 pc stk rest y av) (hC : CT (xl κ) y cw rm2 δ B0 ws1 av P) (hB : ∀ q, B0 q → A0 q ∨ (xs κ).heap.size ≤ q) (hs : Spl δ ws ws1 wr mk B0)
    (hcw : cw = .code y cc2 nL2 rt2 ∨ cw = .codeWith y cc2 nL2 rt2 hh2) (hw : cw ∈ gl) (hini : Cond.initialized y.cls ∈ gl) {ig : Instr} (hd : decode cc pc = .ok (ig, 3)) (hrm : RmOk rm rm2 nL2 cs sl rest) (hnt : ∀ z w, ¬ P (.inl z) w)
    (n : ∀ v w, P (.inr v) w → G κ nL δ (Kn κ A0) Q cs sl (mk w) lv (v.toList ++ rest) (pc + 3)) : G κ nL δ (Kn κ A0) Q cs sl ws lv stk pc := by
  intro H locs ls h hP hK T hT S
  have hP1 := (hs.1 H hP).1
  obtain ⟨st0, t, o, e1, hq, hret, hthr⟩ := w_runG X hC hcw hw hini (hI T H locs ls cs sl hT hP1 S) hT hP1 (fun U hU hWU => Fc_ofW X hB hK hU hWU) h.1 hd hrm.1 hrm.2.1 hrm.2.2.1 hrm.2.2.2
  obtain ⟨r, w, L, k, nn, hPr, hPw, hkeep, hW, hsame, hL, hr⟩ := hq
  have hge : st0.heap.size ≤ t.heap.size := hsame.2.1
  rw [e1] at hkeep hL hge
  cases r with
  | inr v =>
    obtain ⟨rfl, rfl, rfl⟩ := hr
    obtain ⟨T', S', ht, hst⟩ := hret v L 0 0 rfl hW hsame
    obtain ⟨t', a1, b1⟩ := n v w hPr T'.heap (locs ++ L) ls h (by rw [ht]; exact hs.back hP hkeep hPw) (by rw [ht]; exact Kn_step hB hK hge hkeep hL) T' rfl S'
    exact ⟨t', hst t' a1, b1⟩
  | inl z => exact absurd hPr (hnt z w)
theorem va_P_app {H : Heap} {a b : va_W} : va_P δ.1 vwCl (a ++ b) H ↔ va_P δ.1 vwCl a H ∧ va_P δ.1 vwCl b H := by
  refine ⟨fun h => ⟨fun k q hk => h k q (by rw [List.getElem?_append_left (List.getElem?_eq_some_iff.mp hk).1]; exact hk), fun k q hk => h (a.length + k) q (by rw [List.getElem?_append_right (by omega), Nat.add_sub_cancel_left]; exact hk)⟩, fun h => va_P.app h.1 h.2⟩
/-- the part first -/
theorem Spl.l {a b : va_W} (h : ∀ (k : Nat) (q : Nat × va_E), b[k]? = some q → ¬ B0 q.1) : Spl δ (a ++ b) a b (fun w => w ++ b) B0 := ⟨fun _ h => va_P_app.mp h, fun _ _ h1 h2 => va_P_app.mpr ⟨h1, h2⟩, h⟩
/-- the part last -/
theorem Spl.r {a b : va_W} (h : ∀ (k : Nat) (q : Nat × va_E), a[k]? = some q → ¬ B0 q.1) : Spl δ (a ++ b) b a (fun w => a ++ w) B0 := ⟨fun _ h => (va_P_app.mp h).symm, fun _ _ h1 h2 => va_P_app.mpr ⟨h2, h1⟩, h⟩
end CC
