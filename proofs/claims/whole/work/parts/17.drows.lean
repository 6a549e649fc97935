/-! the desk's fields and arrays, by its matrices -/
section DR
variable {κ : KX} {own : String} {cc : ByteArray} {nL : Nat} {rt : Option FieldType} {δ : EX} {rm : Room} {A0 : Nat → Prop} {hh : List (Nat × Nat × Nat × Nat)} {K : Heap → List Loc → Prop} {Q : State → Prop} {cs sl : Nat} {lv : List (Nat × Value)} {st : List Value} {pc idx : Nat} {ad : Nat → Nat} {M : DS} {r : Nat}
theorem r_regs (X : XO κ R_D cc nL rt δ rm A0 hh) (hd : decode cc pc = .ok (.getfield 11, 3)) (n : G κ nL δ K Q cs sl (dl δ ad M) lv (.ref (ad 1) :: st) (pc + 3)) : G κ nL δ K Q cs sl (dl δ ad M) lv (.ref (ad 0) :: st) pc :=
  g_get X in_D rfl dl_0 (k := 0) (by decide) rfl kf_D_11 rfl hd n
theorem r_spare (X : XO κ R_D cc nL rt δ rm A0 hh) (hd : decode cc pc = .ok (.getfield 16, 3)) (n : G κ nL δ K Q cs sl (dl δ ad M) lv (.ref (mq ad 6) :: st) (pc + 3)) : G κ nL δ K Q cs sl (dl δ ad M) lv (.ref (ad 0) :: st) pc :=
  g_get X in_D rfl dl_0 (k := 1) (by decide) rfl kf_D_16 rfl hd n
theorem r_aald (X : XO κ own cc nL rt δ rm A0 hh) {i : Int32} (hi : i = nI r) (hr : r < 6) (hd : decode cc pc = .ok (.aaload, 1)) (n : G κ nL δ K Q cs sl (dl δ ad M) lv (.ref (mq ad r) :: st) (pc + 1)) : G κ nL δ K Q cs sl (dl δ ad M) lv (.int i :: .ref (ad 1) :: st) pc :=
  g_aald X dl_1 hi hr (if_pos hr) (by decide) hd n
theorem r_rows (X : XO κ own cc nL rt δ rm A0 hh) (hf : Cond.fieldLink own idx R_M "rows" "I" ∈ gl) (hd : decode cc pc = .ok (.getfield idx, 3)) (hr : r < 7) (n : G κ nL δ K Q cs sl (dl δ ad M) lv (.int (nI (M r).1) :: st) (pc + 3)) : G κ nL δ K Q cs sl (dl δ ad M) lv (.ref (mq ad r) :: st) pc :=
  g_get X in_M rfl (dl_m hr) (k := 0) (by decide) rfl hf rfl hd n
theorem r_cols (X : XO κ own cc nL rt δ rm A0 hh) (hf : Cond.fieldLink own idx R_M "columns" "I" ∈ gl) (hd : decode cc pc = .ok (.getfield idx, 3)) (hr : r < 7) (n : G κ nL δ K Q cs sl (dl δ ad M) lv (.int (nI (M r).2.1) :: st) (pc + 3)) : G κ nL δ K Q cs sl (dl δ ad M) lv (.ref (mq ad r) :: st) pc :=
  g_get X in_M rfl (dl_m hr) (k := 1) (by decide) rfl hf rfl hd n
theorem r_vals (X : XO κ own cc nL rt δ rm A0 hh) (hf : Cond.fieldLink own idx R_M "values" "[J" ∈ gl) (hd : decode cc pc = .ok (.getfield idx, 3)) (hr : r < 7) (n : G κ nL δ K Q cs sl (dl δ ad M) lv (.ref (vq ad r) :: st) (pc + 3)) : G κ nL δ K Q cs sl (dl δ ad M) lv (.ref (mq ad r) :: st) pc :=
  g_get X in_M rfl (dl_m hr) (k := 2) (by decide) rfl hf rfl hd n
theorem r_fils (X : XO κ own cc nL rt δ rm A0 hh) (hf : Cond.fieldLink own idx R_M "filled" "[Z" ∈ gl) (hd : decode cc pc = .ok (.getfield idx, 3)) (hr : r < 7) (n : G κ nL δ K Q cs sl (dl δ ad M) lv (.ref (fq ad r) :: st) (pc + 3)) : G κ nL δ K Q cs sl (dl δ ad M) lv (.ref (mq ad r) :: st) pc :=
  g_get X in_M rfl (dl_m hr) (k := 3) (by decide) rfl hf rfl hd n
theorem r_lald (X : XO κ own cc nL rt δ rm A0 hh) {i : Int32} {j : Nat} (hi : i = nI j) (hj : j < 64) (hr : r < 7) (hd : decode cc pc = .ok (.laload, 1)) (n : G κ nL δ K Q cs sl (dl δ ad M) lv (.long (mVal (M r) j) :: st) (pc + 1)) : G κ nL δ K Q cs sl (dl δ ad M) lv (.int i :: .ref (vq ad r) :: st) pc :=
  g_lald X (dl_v hr) hi hj (by decide) hd n
theorem r_zald (X : XO κ own cc nL rt δ rm A0 hh) {i : Int32} {j : Nat} (hi : i = nI j) (hj : j < 64) (hr : r < 7) (hd : decode cc pc = .ok (.baload, 1)) (n : G κ nL δ K Q cs sl (dl δ ad M) lv (.int (b2 (mHas (M r) j)) :: st) (pc + 1)) : G κ nL δ K Q cs sl (dl δ ad M) lv (.int i :: .ref (fq ad r) :: st) pc :=
  g_zald X (dl_f hr) hi hj (by decide) hd n
theorem r_flen (X : XO κ own cc nL rt δ rm A0 hh) (hr : r < 7) (hd : decode cc pc = .ok (.arraylength, 1)) (n : G κ nL δ K Q cs sl (dl δ ad M) lv (.int (nI 64) :: st) (pc + 1)) : G κ nL δ K Q cs sl (dl δ ad M) lv (.ref (fq ad r) :: st) pc :=
  g_alen X (dl_f hr) (t0 := 2) rfl hd n
theorem Ar_D (hi : Inj ad) {n : Nat} {M : DS} : va_D (fun q => Ar ad q ∨ n ≤ q) (dl δ ad M) := dl_D hi (fun _ h => Or.inl h)
theorem r_putr (X : XO κ own cc nL rt δ rm (Ar ad) hh) (hinj : Inj ad) (hf : Cond.fieldLink own idx R_M "rows" "I" ∈ gl) {x : Nat} (hd : decode cc pc = .ok (.putfield idx, 3)) (hr : r < 7) (n : G κ nL δ (Kn κ (Ar ad)) Q cs sl (dl δ ad (va_up M r (x, (M r).2.1, (M r).2.2))) lv st (pc + 3)) : G κ nL δ (Kn κ (Ar ad)) Q cs sl (dl δ ad M) lv (.int (nI x) :: .ref (mq ad r) :: st) pc := by
  rw [← dl_um] at n
  exact g_put X in_M rfl t_M_ok n_M (Ar_D hinj) (dl_m hr) (k := 0) (ty := .int) (by decide) rfl hf rfl (by decide +kernel) rfl rfl (Nat.lt_of_lt_of_eq (by decide : _ < 4) rfl) hd n
theorem r_putc (X : XO κ own cc nL rt δ rm (Ar ad) hh) (hinj : Inj ad) (hf : Cond.fieldLink own idx R_M "columns" "I" ∈ gl) {x : Nat} (hd : decode cc pc = .ok (.putfield idx, 3)) (hr : r < 7) (n : G κ nL δ (Kn κ (Ar ad)) Q cs sl (dl δ ad (va_up M r ((M r).1, x, (M r).2.2))) lv st (pc + 3)) : G κ nL δ (Kn κ (Ar ad)) Q cs sl (dl δ ad M) lv (.int (nI x) :: .ref (mq ad r) :: st) pc := by
  rw [← dl_um] at n
  exact g_put X in_M rfl t_M_ok n_M (Ar_D hinj) (dl_m hr) (k := 1) (ty := .int) (by decide) rfl hf rfl (by decide +kernel) rfl rfl (Nat.lt_of_lt_of_eq (by decide : _ < 4) rfl) hd n
theorem r_last (X : XO κ own cc nL rt δ rm (Ar ad) hh) (hinj : Inj ad) {i : Int32} {j : Nat} {v : Int64} (hi : i = nI j) (hj : j < 64) (hr : r < 7) (hd : decode cc pc = .ok (.lastore, 1)) (n : G κ nL δ (Kn κ (Ar ad)) Q cs sl (dl δ ad (va_up M r ((M r).1, (M r).2.1, vp_updL (M r).2.2.1 j v, (M r).2.2.2))) lv st (pc + 1)) : G κ nL δ (Kn κ (Ar ad)) Q cs sl (dl δ ad M) lv (.long v :: .int i :: .ref (vq ad r) :: st) pc := by
  rw [← dl_uv] at n
  exact g_last X (Ar_D hinj) (dl_v hr) hi hj (by decide) hd n
theorem upd_b2 (f : Nat → Bool) (j : Nat) (b : Bool) : upd (fun p => b2 (f p)) j (b2 b) = fun p => b2 (va_up f j b p) := by
  funext p
  unfold upd va_up
  split <;> rfl
theorem r_zast (X : XO κ own cc nL rt δ rm (Ar ad) hh) (hinj : Inj ad) {i x : Int32} {j : Nat} (b : Bool) (hi : i = nI j) (hj : j < 64) (hr : r < 7) (hx : vp_nar .boolean x = b2 b) (hd : decode cc pc = .ok (.bastore, 1)) (n : G κ nL δ (Kn κ (Ar ad)) Q cs sl (dl δ ad (va_up M r ((M r).1, (M r).2.1, (M r).2.2.1, va_up (M r).2.2.2 j b))) lv st (pc + 1)) : G κ nL δ (Kn κ (Ar ad)) Q cs sl (dl δ ad M) lv (.int x :: .int i :: .ref (fq ad r) :: st) pc := by
  rw [← dl_uf, ← upd_b2] at n
  exact g_zast X (Ar_D hinj) (dl_f hr) hi hj (by decide) hx hd n
theorem ix8 {i j : Nat} : nI i * 8 + nI j = nI (8 * i + j) := by
  have h : (8 : Int32) = nI 8 := by decide
  rw [h, pk_mul, nI_add, Nat.mul_comm]
end DR
