/-! Math of longs, switches -/
section GM
variable {κ : KX} {own : String} {cc : ByteArray} {nL : Nat} {rt : Option FieldType} {δ : EX} {rm : Room} {A0 : Nat → Prop} {hh : List (Nat × Nat × Nat × Nat)} {K : Heap → List Loc → Prop} {Q : State → Prop} {cs sl : Nat} {ws : va_W} {lv : List (Nat × Value)} {st : List Value} {pc idx : Nat}
set_option maxRecDepth 100000 in
theorem kc_abs : Cond.code Lib.MathLoose.abs_long.x Lib.MathLoose.abs_long.code 2 (some .long) ∈ gl := gl_of (List.mem_append_right _ (List.mem_append_right _ (List.mem_append_left _ (List.mem_of_getElem? (i := 42) rfl)))) rfl
set_option maxRecDepth 100000 in
theorem kc_min : Cond.code Lib.MathLoose.min_long.x Lib.MathLoose.min_long.code 4 (some .long) ∈ gl := gl_of (List.mem_append_right _ (List.mem_append_right _ (List.mem_append_left _ (List.mem_of_getElem? (i := 65) rfl)))) rfl
set_option maxRecDepth 100000 in
theorem kc_max : Cond.code Lib.MathLoose.max_long.x Lib.MathLoose.max_long.code 4 (some .long) ∈ gl := gl_of (List.mem_append_right _ (List.mem_append_right _ (List.mem_append_left _ (List.mem_of_getElem? (i := 74) rfl)))) rfl
theorem g_labs (X : XO κ own cc nL rt δ rm A0 hh) (hl : Cond.methodLink own idx ⟨"java/lang/Math", "abs", "(J)J"⟩ ∈ gl) {x : Int64} (hd : decode cc pc = .ok (.invokestatic idx, 3)) (hrm : 1 ≤ rm.frames ∧ (st.map fun v => v.category).sum + 13 ≤ rm.locals ∧ cs ≤ rm.cells ∧ sl ≤ rm.slots) (n : G κ nL δ K Q cs sl ws lv (.long (abL x) :: st) (pc + 3)) : G κ nL δ K Q cs sl ws lv (.long x :: st) pc :=
  fun H locs ls h hP hK => va_mabs_long X.1 X.2.1 (by rw [X.ml]; exact h.1.symm) X.ow (X.wd hl) (X.wd kst_java_lang_Math_abs) (X.wd ki_Math) (X.wd kc_abs) (by rw [X.room]; exact hrm.1) (by rw [X.room]; exact hrm.2.1) (by rw [X.room]; exact hrm.2.2.1) (by rw [X.room]; exact hrm.2.2.2) hd (n H locs ls h hP hK)
theorem g_lmin (X : XO κ own cc nL rt δ rm A0 hh) (hl : Cond.methodLink own idx ⟨"java/lang/Math", "min", "(JJ)J"⟩ ∈ gl) {x y : Int64} (hd : decode cc pc = .ok (.invokestatic idx, 3)) (hrm : 1 ≤ rm.frames ∧ (st.map fun v => v.category).sum + 15 ≤ rm.locals ∧ cs ≤ rm.cells ∧ sl ≤ rm.slots) (n : G κ nL δ K Q cs sl ws lv (.long (miL x y) :: st) (pc + 3)) : G κ nL δ K Q cs sl ws lv (.long y :: .long x :: st) pc :=
  fun H locs ls h hP hK => va_mmin_long X.1 X.2.1 (by rw [X.ml]; exact h.1.symm) X.ow (X.wd hl) (X.wd kst_java_lang_Math_min) (X.wd ki_Math) (X.wd kc_min) (by rw [X.room]; exact hrm.1) (by rw [X.room]; exact hrm.2.1) (by rw [X.room]; exact hrm.2.2.1) (by rw [X.room]; exact hrm.2.2.2) hd (n H locs ls h hP hK)
theorem g_lmax (X : XO κ own cc nL rt δ rm A0 hh) (hl : Cond.methodLink own idx ⟨"java/lang/Math", "max", "(JJ)J"⟩ ∈ gl) {x y : Int64} (hd : decode cc pc = .ok (.invokestatic idx, 3)) (hrm : 1 ≤ rm.frames ∧ (st.map fun v => v.category).sum + 15 ≤ rm.locals ∧ cs ≤ rm.cells ∧ sl ≤ rm.slots) (n : G κ nL δ K Q cs sl ws lv (.long (maL x y) :: st) (pc + 3)) : G κ nL δ K Q cs sl ws lv (.long y :: .long x :: st) pc :=
  fun H locs ls h hP hK => va_mmax_long X.1 X.2.1 (by rw [X.ml]; exact h.1.symm) X.ow (X.wd hl) (X.wd kst_java_lang_Math_max) (X.wd ki_Math) (X.wd kc_max) (by rw [X.room]; exact hrm.1) (by rw [X.room]; exact hrm.2.1) (by rw [X.room]; exact hrm.2.2.1) (by rw [X.room]; exact hrm.2.2.2) hd (n H locs ls h hP hK)
theorem g_tin (X : XO κ own cc nL rt δ rm A0 hh) {dflt lo hi : Int} {offs : Array Int} {len : Nat} {x : Int32} {off : Int} (tgt : Nat) (hd : decode cc pc = .ok (.tableswitch dflt lo hi offs, len)) (h1 : ¬ x.toInt < lo) (h2 : ¬ hi < x.toInt) (ho : offs[(x.toInt - lo).toNat]? = some off) (ht : (pc : Int) + off = (tgt : Int)) (n : G κ nL δ K Q cs sl ws lv st tgt) : G κ nL δ K Q cs sl ws lv (.int x :: st) pc :=
  fun H locs ls h hP hK => lv_tableIn X.1 X.2.1 hd h1 h2 ho ht (n H locs ls h hP hK)
theorem g_tout (X : XO κ own cc nL rt δ rm A0 hh) {dflt lo hi : Int} {offs : Array Int} {len : Nat} {x : Int32} (tgt : Nat) (hd : decode cc pc = .ok (.tableswitch dflt lo hi offs, len)) (h : x.toInt < lo ∨ hi < x.toInt) (ht : (pc : Int) + dflt = (tgt : Int)) (n : G κ nL δ K Q cs sl ws lv st tgt) : G κ nL δ K Q cs sl ws lv (.int x :: st) pc :=
  fun H locs ls hl hP hK => lv_tableOut X.1 X.2.1 hd h ht (n H locs ls hl hP hK)
/-- numbers out of range, or in it -/
def bR (x : Int32) : Prop := x < 0 ∨ nI 6 ≤ x
def bH (n : Nat) (x : Int32) : Prop := x < 0 ∨ nI n < x
def bD (x : Int32) : Prop := x < nI 1 ∨ nI 8 < x
theorem bR_or (x : Int32) : bR x ∨ ∃ r, r < 6 ∧ x = nI r := by
  rcases pk_ix x (n := 6) (by decide) with h | h | h
  · exact Or.inl (Or.inl h)
  · exact Or.inl (Or.inr h)
  · exact Or.inr h
theorem bR_no {r : Nat} (h : r < 6) : ¬ bR (nI r) := by
  rintro (q | q)
  · exact nI_pos (by omega) q
  · exact nI_ge h (by decide) q
theorem bH_or {n : Nat} (hn : n < 100) (x : Int32) : bH n x ∨ ∃ h, h ≤ n ∧ x = nI h := by
  rcases pk_ix x (n := n + 1) (by omega) with h | h | ⟨j, h1, h2⟩
  · exact Or.inl (Or.inl h)
  · refine Or.inl (Or.inr ?_)
    rw [Int32.lt_iff_toInt_lt, nI_toInt (by omega)]
    rw [Int32.le_iff_toInt_le, nI_toInt (by omega)] at h
    omega
  · exact Or.inr ⟨j, by omega, h2⟩
theorem bH_no {n h : Nat} (hn : n < 100) (hh : h ≤ n) : ¬ bH n (nI h) := by
  rintro (q | q)
  · exact nI_pos (by omega) q
  · exact nI_nlt hh (by omega) q
theorem bD_or (x : Int32) : bD x ∨ ∃ m, 1 ≤ m ∧ m ≤ 8 ∧ x = nI m := by
  rcases bH_or (n := 8) (by decide) x with (h | h) | ⟨m, h1, h2⟩
  · refine Or.inl (Or.inl ?_)
    rw [Int32.lt_iff_toInt_lt, nI_toInt (by omega)]
    rw [Int32.lt_iff_toInt_lt, Int32.toInt_zero] at h
    omega
  · exact Or.inl (Or.inr h)
  · by_cases h0 : m = 0
    · subst h0
      exact Or.inl (Or.inl (by rw [h2]; decide))
    · exact Or.inr ⟨m, by omega, h1, h2⟩
theorem bD_no {m : Nat} (h1 : 1 ≤ m) (h2 : m ≤ 8) : ¬ bD (nI m) := by
  rintro (q | q)
  · exact nI_nlt h1 (by omega) q
  · exact nI_nlt h2 (by omega) q
end GM
