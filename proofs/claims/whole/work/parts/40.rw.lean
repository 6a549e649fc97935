/-! The reference's world, and rows that know which numbers are natural ones. -/
section RW
abbrev SS : Type := (Nat → Nat) × (Nat → Nat) × (Nat → Bool) × (Nat → Int64)
abbrev WS : Type := Bool × (Nat → Bool) × (Nat → Int64)
def ro (b : Nat → Nat) (th wd hg : Nat) (w : WS) : va_E := .inr (2, [.int (nI th), .ref (b 1), .ref (b 2), .ref (b 3), .ref (b 4), .int (nI wd), .int (nI hg), .ref (b 5), .ref (b 6), .int (b2 w.1)])
def rl (δ : EX) (b : Nat → Nat) (th wd hg : Nat) (s : SS) (w : WS) : va_W := [(b 0, ro b th wd hg w), (b 1, .inl (δ.2 0, 6, .inl (fun i => nI (s.1 i)))), (b 2, .inl (δ.2 0, 6, .inl (fun i => nI (s.2.1 i)))), (b 3, .inl (δ.2 2, 384, .inl (fun i => b2 (s.2.2.1 i)))), (b 4, .inl (δ.2 1, 384, .inr (.inl s.2.2.2))), (b 5, .inl (δ.2 2, 64, .inl (fun i => b2 (w.2.1 i)))), (b 6, .inl (δ.2 1, 64, .inr (.inl w.2.2)))]
def Br (b : Nat → Nat) : Nat → Prop := fun q => ∃ i, i < 7 ∧ q = b i
def In7 (b : Nat → Nat) : Prop := ∀ i j, i < 7 → j < 7 → b i = b j → i = j
variable {κ : KX} {own : String} {cc : ByteArray} {nL : Nat} {rt : Option FieldType} {δ : EX} {rm : Room} {A0 : Nat → Prop} {hh : List (Nat × Nat × Nat × Nat)} {K : Heap → List Loc → Prop} {Q : State → Prop} {cs sl : Nat} {lv : List (Nat × Value)} {st : List Value} {pc idx : Nat} {b : Nat → Nat} {th wd hg : Nat} {s : SS} {w : WS} {ws : va_W}
theorem Br_D (hi : In7 b) {n : Nat} : va_D (fun q => Br b q ∨ n ≤ q) (rl δ b th wd hg s w) := by
  have e : rl δ b th wd hg s w = wl b 7 (fun i => match i with
    | 0 => ro b th wd hg w
    | 1 => .inl (δ.2 0, 6, .inl (fun i => nI (s.1 i)))
    | 2 => .inl (δ.2 0, 6, .inl (fun i => nI (s.2.1 i)))
    | 3 => .inl (δ.2 2, 384, .inl (fun i => b2 (s.2.2.1 i)))
    | 4 => .inl (δ.2 1, 384, .inr (.inl s.2.2.2))
    | 5 => .inl (δ.2 2, 64, .inl (fun i => b2 (w.2.1 i)))
    | _ => .inl (δ.2 1, 64, .inr (.inl w.2.2))) := rfl
  rw [e]
  exact wl_D hi (fun i h => Or.inl ⟨i, h, rfl⟩)
theorem q_thrown (X : XO κ R_R cc nL rt δ rm A0 hh) (hd : decode cc pc = .ok (.getfield 30, 3)) (n : G κ nL δ K Q cs sl (rl δ b th wd hg s w) lv (.int (nI th) :: st) (pc + 3)) : G κ nL δ K Q cs sl (rl δ b th wd hg s w) lv (.ref (b 0) :: st) pc :=
  g_get X in_R (ci := 2) rfl (q0 := 0) rfl (k := 0) (by decide) rfl kf_R_30 rfl hd n
theorem q_rows (X : XO κ R_R cc nL rt δ rm A0 hh) (hd : decode cc pc = .ok (.getfield 7, 3)) (n : G κ nL δ K Q cs sl (rl δ b th wd hg s w) lv (.ref (b 1) :: st) (pc + 3)) : G κ nL δ K Q cs sl (rl δ b th wd hg s w) lv (.ref (b 0) :: st) pc :=
  g_get X in_R (ci := 2) rfl (q0 := 0) rfl (k := 1) (by decide) rfl kf_R_7 rfl hd n
theorem q_columns (X : XO κ R_R cc nL rt δ rm A0 hh) (hd : decode cc pc = .ok (.getfield 13, 3)) (n : G κ nL δ K Q cs sl (rl δ b th wd hg s w) lv (.ref (b 2) :: st) (pc + 3)) : G κ nL δ K Q cs sl (rl δ b th wd hg s w) lv (.ref (b 0) :: st) pc :=
  g_get X in_R (ci := 2) rfl (q0 := 0) rfl (k := 2) (by decide) rfl kf_R_13 rfl hd n
theorem q_has (X : XO κ R_R cc nL rt δ rm A0 hh) (hd : decode cc pc = .ok (.getfield 16, 3)) (n : G κ nL δ K Q cs sl (rl δ b th wd hg s w) lv (.ref (b 3) :: st) (pc + 3)) : G κ nL δ K Q cs sl (rl δ b th wd hg s w) lv (.ref (b 0) :: st) pc :=
  g_get X in_R (ci := 2) rfl (q0 := 0) rfl (k := 3) (by decide) rfl kf_R_16 rfl hd n
theorem q_value (X : XO κ R_R cc nL rt δ rm A0 hh) (hd : decode cc pc = .ok (.getfield 20, 3)) (n : G κ nL δ K Q cs sl (rl δ b th wd hg s w) lv (.ref (b 4) :: st) (pc + 3)) : G κ nL δ K Q cs sl (rl δ b th wd hg s w) lv (.ref (b 0) :: st) pc :=
  g_get X in_R (ci := 2) rfl (q0 := 0) rfl (k := 4) (by decide) rfl kf_R_20 rfl hd n
theorem q_wide (X : XO κ R_R cc nL rt δ rm A0 hh) (hd : decode cc pc = .ok (.getfield 65, 3)) (n : G κ nL δ K Q cs sl (rl δ b th wd hg s w) lv (.int (nI wd) :: st) (pc + 3)) : G κ nL δ K Q cs sl (rl δ b th wd hg s w) lv (.ref (b 0) :: st) pc :=
  g_get X in_R (ci := 2) rfl (q0 := 0) rfl (k := 5) (by decide) rfl kf_R_65 rfl hd n
theorem q_high (X : XO κ R_R cc nL rt δ rm A0 hh) (hd : decode cc pc = .ok (.getfield 62, 3)) (n : G κ nL δ K Q cs sl (rl δ b th wd hg s w) lv (.int (nI hg) :: st) (pc + 3)) : G κ nL δ K Q cs sl (rl δ b th wd hg s w) lv (.ref (b 0) :: st) pc :=
  g_get X in_R (ci := 2) rfl (q0 := 0) rfl (k := 6) (by decide) rfl kf_R_62 rfl hd n
theorem q_there (X : XO κ R_R cc nL rt δ rm A0 hh) (hd : decode cc pc = .ok (.getfield 24, 3)) (n : G κ nL δ K Q cs sl (rl δ b th wd hg s w) lv (.ref (b 5) :: st) (pc + 3)) : G κ nL δ K Q cs sl (rl δ b th wd hg s w) lv (.ref (b 0) :: st) pc :=
  g_get X in_R (ci := 2) rfl (q0 := 0) rfl (k := 7) (by decide) rfl kf_R_24 rfl hd n
theorem q_made (X : XO κ R_R cc nL rt δ rm A0 hh) (hd : decode cc pc = .ok (.getfield 27, 3)) (n : G κ nL δ K Q cs sl (rl δ b th wd hg s w) lv (.ref (b 6) :: st) (pc + 3)) : G κ nL δ K Q cs sl (rl δ b th wd hg s w) lv (.ref (b 0) :: st) pc :=
  g_get X in_R (ci := 2) rfl (q0 := 0) rfl (k := 8) (by decide) rfl kf_R_27 rfl hd n
theorem q_far (X : XO κ R_R cc nL rt δ rm A0 hh) (hd : decode cc pc = .ok (.getfield 54, 3)) (n : G κ nL δ K Q cs sl (rl δ b th wd hg s w) lv (.int (b2 w.1) :: st) (pc + 3)) : G κ nL δ K Q cs sl (rl δ b th wd hg s w) lv (.ref (b 0) :: st) pc :=
  g_get X in_R (ci := 2) rfl (q0 := 0) rfl (k := 9) (by decide) rfl kf_R_54 rfl hd n
theorem p_thrown (X : XO κ R_R cc nL rt δ rm (Br b) hh) (hi : In7 b) {x : Nat} (hd : decode cc pc = .ok (.putfield 30, 3)) (n : G κ nL δ (Kn κ (Br b)) Q cs sl (rl δ b x wd hg s w) lv st (pc + 3)) : G κ nL δ (Kn κ (Br b)) Q cs sl (rl δ b th wd hg s w) lv (.int (nI x) :: .ref (b 0) :: st) pc :=
  g_put X in_R (ci := 2) rfl t_R_ok n_R (Br_D hi) (q0 := 0) rfl (k := 0) (ty := .int) (by decide) rfl kf_R_30 rfl (by decide +kernel) rfl rfl (Nat.lt_of_lt_of_eq (by decide : _ < 10) rfl) hd n
theorem p_wide (X : XO κ R_R cc nL rt δ rm (Br b) hh) (hi : In7 b) {x : Nat} (hd : decode cc pc = .ok (.putfield 65, 3)) (n : G κ nL δ (Kn κ (Br b)) Q cs sl (rl δ b th x hg s w) lv st (pc + 3)) : G κ nL δ (Kn κ (Br b)) Q cs sl (rl δ b th wd hg s w) lv (.int (nI x) :: .ref (b 0) :: st) pc :=
  g_put X in_R (ci := 2) rfl t_R_ok n_R (Br_D hi) (q0 := 0) rfl (k := 5) (ty := .int) (by decide) rfl kf_R_65 rfl (by decide +kernel) rfl rfl (Nat.lt_of_lt_of_eq (by decide : _ < 10) rfl) hd n
theorem p_high (X : XO κ R_R cc nL rt δ rm (Br b) hh) (hi : In7 b) {x : Nat} (hd : decode cc pc = .ok (.putfield 62, 3)) (n : G κ nL δ (Kn κ (Br b)) Q cs sl (rl δ b th wd x s w) lv st (pc + 3)) : G κ nL δ (Kn κ (Br b)) Q cs sl (rl δ b th wd hg s w) lv (.int (nI x) :: .ref (b 0) :: st) pc :=
  g_put X in_R (ci := 2) rfl t_R_ok n_R (Br_D hi) (q0 := 0) rfl (k := 6) (ty := .int) (by decide) rfl kf_R_62 rfl (by decide +kernel) rfl rfl (Nat.lt_of_lt_of_eq (by decide : _ < 10) rfl) hd n
theorem p_far (X : XO κ R_R cc nL rt δ rm (Br b) hh) (hi : In7 b) (f : Bool) {x : Int32} (hx : x = b2 f) (hd : decode cc pc = .ok (.putfield 54, 3)) (n : G κ nL δ (Kn κ (Br b)) Q cs sl (rl δ b th wd hg s (f, w.2)) lv st (pc + 3)) : G κ nL δ (Kn κ (Br b)) Q cs sl (rl δ b th wd hg s w) lv (.int x :: .ref (b 0) :: st) pc := by
  subst hx
  exact g_put X in_R (ci := 2) rfl t_R_ok n_R (Br_D hi) (q0 := 0) rfl (k := 9) (ty := .boolean) (by decide) rfl kf_R_54 rfl (by decide +kernel) (b2_nar f) (by cases f <;> rfl) (Nat.lt_of_lt_of_eq (by decide : _ < 10) rfl) hd n
/-! arrays -/
theorem a_rows (X : XO κ own cc nL rt δ rm A0 hh) {r : Nat} (hr : r < 6) (hd : decode cc pc = .ok (.iaload, 1)) (n : G κ nL δ K Q cs sl (rl δ b th wd hg s w) lv (.int (nI (s.1 r)) :: st) (pc + 1)) : G κ nL δ K Q cs sl (rl δ b th wd hg s w) lv (.int (nI r) :: .ref (b 1) :: st) pc :=
  g_iald X (q0 := 1) rfl rfl hr (by decide) hd n
theorem a_columns (X : XO κ own cc nL rt δ rm A0 hh) {r : Nat} (hr : r < 6) (hd : decode cc pc = .ok (.iaload, 1)) (n : G κ nL δ K Q cs sl (rl δ b th wd hg s w) lv (.int (nI (s.2.1 r)) :: st) (pc + 1)) : G κ nL δ K Q cs sl (rl δ b th wd hg s w) lv (.int (nI r) :: .ref (b 2) :: st) pc :=
  g_iald X (q0 := 2) rfl rfl hr (by decide) hd n
theorem a_has (X : XO κ own cc nL rt δ rm A0 hh) {p : Nat} (hp : p < 384) (hd : decode cc pc = .ok (.baload, 1)) (n : G κ nL δ K Q cs sl (rl δ b th wd hg s w) lv (.int (b2 (s.2.2.1 p)) :: st) (pc + 1)) : G κ nL δ K Q cs sl (rl δ b th wd hg s w) lv (.int (nI p) :: .ref (b 3) :: st) pc :=
  g_zald X (q0 := 3) rfl rfl hp (by decide) hd n
theorem a_value (X : XO κ own cc nL rt δ rm A0 hh) {p : Nat} (hp : p < 384) (hd : decode cc pc = .ok (.laload, 1)) (n : G κ nL δ K Q cs sl (rl δ b th wd hg s w) lv (.long (s.2.2.2 p) :: st) (pc + 1)) : G κ nL δ K Q cs sl (rl δ b th wd hg s w) lv (.int (nI p) :: .ref (b 4) :: st) pc :=
  g_lald X (q0 := 4) rfl rfl hp (by decide) hd n
theorem a_there (X : XO κ own cc nL rt δ rm A0 hh) {p : Nat} (hp : p < 64) (hd : decode cc pc = .ok (.baload, 1)) (n : G κ nL δ K Q cs sl (rl δ b th wd hg s w) lv (.int (b2 (w.2.1 p)) :: st) (pc + 1)) : G κ nL δ K Q cs sl (rl δ b th wd hg s w) lv (.int (nI p) :: .ref (b 5) :: st) pc :=
  g_zald X (q0 := 5) rfl rfl hp (by decide) hd n
theorem a_made (X : XO κ own cc nL rt δ rm A0 hh) {p : Nat} (hp : p < 64) (hd : decode cc pc = .ok (.laload, 1)) (n : G κ nL δ K Q cs sl (rl δ b th wd hg s w) lv (.long (w.2.2 p) :: st) (pc + 1)) : G κ nL δ K Q cs sl (rl δ b th wd hg s w) lv (.int (nI p) :: .ref (b 6) :: st) pc :=
  g_lald X (q0 := 6) rfl rfl hp (by decide) hd n
theorem upd_nI (f : Nat → Nat) (j x : Nat) : upd (fun p => nI (f p)) j (nI x) = fun p => nI (va_up f j x p) := by
  funext p
  unfold upd va_up
  split <;> rfl
theorem e_rows (X : XO κ own cc nL rt δ rm (Br b) hh) (hi : In7 b) {r x : Nat} (hr : r < 6) (hd : decode cc pc = .ok (.iastore, 1)) (n : G κ nL δ (Kn κ (Br b)) Q cs sl (rl δ b th wd hg (va_up s.1 r x, s.2) w) lv st (pc + 1)) : G κ nL δ (Kn κ (Br b)) Q cs sl (rl δ b th wd hg s w) lv (.int (nI x) :: .int (nI r) :: .ref (b 1) :: st) pc := by
  refine g_iast X (Br_D hi) (q0 := 1) rfl rfl hr (by decide) hd ?_
  rw [upd_nI]
  exact n
theorem e_columns (X : XO κ own cc nL rt δ rm (Br b) hh) (hi : In7 b) {r x : Nat} (hr : r < 6) (hd : decode cc pc = .ok (.iastore, 1)) (n : G κ nL δ (Kn κ (Br b)) Q cs sl (rl δ b th wd hg (s.1, va_up s.2.1 r x, s.2.2) w) lv st (pc + 1)) : G κ nL δ (Kn κ (Br b)) Q cs sl (rl δ b th wd hg s w) lv (.int (nI x) :: .int (nI r) :: .ref (b 2) :: st) pc := by
  refine g_iast X (Br_D hi) (q0 := 2) rfl rfl hr (by decide) hd ?_
  rw [upd_nI]
  exact n
theorem e_has (X : XO κ own cc nL rt δ rm (Br b) hh) (hi : In7 b) {p : Nat} {x : Int32} (f : Bool) (hx : vp_nar .boolean x = b2 f) (hp : p < 384) (hd : decode cc pc = .ok (.bastore, 1)) (n : G κ nL δ (Kn κ (Br b)) Q cs sl (rl δ b th wd hg (s.1, s.2.1, va_up s.2.2.1 p f, s.2.2.2) w) lv st (pc + 1)) : G κ nL δ (Kn κ (Br b)) Q cs sl (rl δ b th wd hg s w) lv (.int x :: .int (nI p) :: .ref (b 3) :: st) pc := by
  refine g_zast X (Br_D hi) (q0 := 3) rfl rfl hp (by decide) hx hd ?_
  rw [upd_b2]
  exact n
theorem e_value (X : XO κ own cc nL rt δ rm (Br b) hh) (hi : In7 b) {p : Nat} {x : Int64} (hp : p < 384) (hd : decode cc pc = .ok (.lastore, 1)) (n : G κ nL δ (Kn κ (Br b)) Q cs sl (rl δ b th wd hg (s.1, s.2.1, s.2.2.1, vp_updL s.2.2.2 p x) w) lv st (pc + 1)) : G κ nL δ (Kn κ (Br b)) Q cs sl (rl δ b th wd hg s w) lv (.long x :: .int (nI p) :: .ref (b 4) :: st) pc :=
  g_last X (Br_D hi) (q0 := 4) rfl rfl hp (by decide) hd n
theorem e_there (X : XO κ own cc nL rt δ rm (Br b) hh) (hi : In7 b) {p : Nat} {x : Int32} (f : Bool) (hx : vp_nar .boolean x = b2 f) (hp : p < 64) (hd : decode cc pc = .ok (.bastore, 1)) (n : G κ nL δ (Kn κ (Br b)) Q cs sl (rl δ b th wd hg s (w.1, va_up w.2.1 p f, w.2.2)) lv st (pc + 1)) : G κ nL δ (Kn κ (Br b)) Q cs sl (rl δ b th wd hg s w) lv (.int x :: .int (nI p) :: .ref (b 5) :: st) pc := by
  refine g_zast X (Br_D hi) (q0 := 5) rfl rfl hp (by decide) hx hd ?_
  rw [upd_b2]
  exact n
theorem e_made (X : XO κ own cc nL rt δ rm (Br b) hh) (hi : In7 b) {p : Nat} {x : Int64} (hp : p < 64) (hd : decode cc pc = .ok (.lastore, 1)) (n : G κ nL δ (Kn κ (Br b)) Q cs sl (rl δ b th wd hg s (w.1, w.2.1, vp_updL w.2.2 p x)) lv st (pc + 1)) : G κ nL δ (Kn κ (Br b)) Q cs sl (rl δ b th wd hg s w) lv (.long x :: .int (nI p) :: .ref (b 6) :: st) pc :=
  g_last X (Br_D hi) (q0 := 6) rfl rfl hp (by decide) hd n
/-! natural numbers -/
theorem n_add (X : XO κ own cc nL rt δ rm A0 hh) {x y : Nat} (hd : decode cc pc = .ok (.iadd, 1)) (n : G κ nL δ K Q cs sl ws lv (.int (nI (x + y)) :: st) (pc + 1)) : G κ nL δ K Q cs sl ws lv (.int (nI y) :: .int (nI x) :: st) pc :=
  g_iadd X hd (by rw [nI_add]; exact n)
theorem n_mul (X : XO κ own cc nL rt δ rm A0 hh) {x y : Nat} (hd : decode cc pc = .ok (.imul, 1)) (n : G κ nL δ K Q cs sl ws lv (.int (nI (x * y)) :: st) (pc + 1)) : G κ nL δ K Q cs sl ws lv (.int (nI y) :: .int (nI x) :: st) pc :=
  g_imul X hd (by rw [pk_mul]; exact n)
theorem nI_div {x y : Nat} (hx : x < 2 ^ 31) (hy : y < 2 ^ 31) : nI x / nI y = nI (x / y) := by
  have h : x / y < 2 ^ 31 := Nat.lt_of_le_of_lt (Nat.div_le_self x y) hx
  apply Int32.toInt_inj.mp
  rw [Int32.toInt_div, nI_toInt hx, nI_toInt hy, nI_toInt h]
  have e : (x : Int).tdiv (y : Int) = ((x / y : Nat) : Int) := by
    rw [Int.tdiv_eq_ediv_of_nonneg (by omega)]
    rfl
  rw [e]
  generalize x / y = z at h
  refine Int.bmod_eq_of_le ?_ ?_ <;> omega
theorem n_div (X : XO κ own cc nL rt δ rm A0 hh) {x y : Nat} (hx : x < 2 ^ 31) (hy : y < 2 ^ 31) (h0 : 0 < y) (hd : decode cc pc = .ok (.idiv, 1)) (n : G κ nL δ K Q cs sl ws lv (.int (nI (x / y)) :: st) (pc + 1)) : G κ nL δ K Q cs sl ws lv (.int (nI y) :: .int (nI x) :: st) pc :=
  g_idiv X hd (nI_ne0 h0 hy) (by rw [nI_div hx hy]; exact n)
theorem n_rem (X : XO κ own cc nL rt δ rm A0 hh) {x y : Nat} (hx : x < 2 ^ 31) (hy : y < 2 ^ 31) (h0 : 0 < y) (hd : decode cc pc = .ok (.irem, 1)) (n : G κ nL δ K Q cs sl ws lv (.int (nI (x % y)) :: st) (pc + 1)) : G κ nL δ K Q cs sl ws lv (.int (nI y) :: .int (nI x) :: st) pc :=
  g_irem X hd (nI_ne0 h0 hy) (by
    have e : nI x - nI x / nI y * nI y = nI (x % y) := by
      rw [nI_div hx hy, pk_mul]
      have h1 : x = x % y + x / y * y := by
        have := Nat.mod_add_div x y
        rw [Nat.mul_comm] at this
        exact this.symm
      have h2 : nI x = nI (x % y) + nI (x / y * y) := by rw [nI_add, ← h1]
      rw [h2]
      exact Int32.add_sub_cancel _ _
    rw [e]
    exact n)
theorem n_i2l (X : XO κ own cc nL rt δ rm A0 hh) {x : Nat} (hx : x < 2 ^ 31) (hd : decode cc pc = .ok (.i2l, 1)) (n : G κ nL δ K Q cs sl ws lv (.long (lN x) :: st) (pc + 1)) : G κ nL δ K Q cs sl ws lv (.int (nI x) :: st) pc :=
  g_i2l X hd (by rw [nI_l hx]; exact n)
/-! branches over natural numbers and truth values -/
theorem n_ge (X : XO κ own cc nL rt δ rm A0 hh) {x y : Nat} {off : Int} (tgt : Nat) (hd : decode cc pc = .ok (.if_icmp .ge off, 3)) (ht : (pc : Int) + off = (tgt : Int)) (hx : x < 2 ^ 31) (hy : y < 2 ^ 31) (kt : y ≤ x → G κ nL δ K Q cs sl ws lv st tgt) (kf : x < y → G κ nL δ K Q cs sl ws lv st (pc + 3)) : G κ nL δ K Q cs sl ws lv (.int (nI y) :: .int (nI x) :: st) pc :=
  g_icmp_ge X tgt hd ht (fun h => kt ((nI_leI hy hx).mp h)) (fun h => kf (Nat.not_le.mp (fun q => h ((nI_leI hy hx).mpr q))))
theorem n_le (X : XO κ own cc nL rt δ rm A0 hh) {x y : Nat} {off : Int} (tgt : Nat) (hd : decode cc pc = .ok (.if_icmp .le off, 3)) (ht : (pc : Int) + off = (tgt : Int)) (hx : x < 2 ^ 31) (hy : y < 2 ^ 31) (kt : x ≤ y → G κ nL δ K Q cs sl ws lv st tgt) (kf : y < x → G κ nL δ K Q cs sl ws lv st (pc + 3)) : G κ nL δ K Q cs sl ws lv (.int (nI y) :: .int (nI x) :: st) pc :=
  g_icmp_le X tgt hd ht (fun h => kt ((nI_leI hx hy).mp h)) (fun h => kf (Nat.not_le.mp (fun q => h ((nI_leI hx hy).mpr q))))
theorem n_lt (X : XO κ own cc nL rt δ rm A0 hh) {x y : Nat} {off : Int} (tgt : Nat) (hd : decode cc pc = .ok (.if_icmp .lt off, 3)) (ht : (pc : Int) + off = (tgt : Int)) (hx : x < 2 ^ 31) (hy : y < 2 ^ 31) (kt : x < y → G κ nL δ K Q cs sl ws lv st tgt) (kf : y ≤ x → G κ nL δ K Q cs sl ws lv st (pc + 3)) : G κ nL δ K Q cs sl ws lv (.int (nI y) :: .int (nI x) :: st) pc :=
  g_icmp_lt X tgt hd ht (fun h => kt ((nI_ltI hx hy).mp h)) (fun h => kf (Nat.not_lt.mp (fun q => h ((nI_ltI hx hy).mpr q))))
theorem n_gt (X : XO κ own cc nL rt δ rm A0 hh) {x y : Nat} {off : Int} (tgt : Nat) (hd : decode cc pc = .ok (.if_icmp .gt off, 3)) (ht : (pc : Int) + off = (tgt : Int)) (hx : x < 2 ^ 31) (hy : y < 2 ^ 31) (kt : y < x → G κ nL δ K Q cs sl ws lv st tgt) (kf : x ≤ y → G κ nL δ K Q cs sl ws lv st (pc + 3)) : G κ nL δ K Q cs sl ws lv (.int (nI y) :: .int (nI x) :: st) pc :=
  g_icmp_gt X tgt hd ht (fun h => kt ((nI_ltI hy hx).mp h)) (fun h => kf (Nat.not_lt.mp (fun q => h ((nI_ltI hy hx).mpr q))))
theorem n_eq (X : XO κ own cc nL rt δ rm A0 hh) {x y : Nat} {off : Int} (tgt : Nat) (hd : decode cc pc = .ok (.if_icmp .eq off, 3)) (ht : (pc : Int) + off = (tgt : Int)) (hx : x < 2 ^ 31) (hy : y < 2 ^ 31) (kt : x = y → G κ nL δ K Q cs sl ws lv st tgt) (kf : ¬ x = y → G κ nL δ K Q cs sl ws lv st (pc + 3)) : G κ nL δ K Q cs sl ws lv (.int (nI y) :: .int (nI x) :: st) pc :=
  g_icmp_eq X tgt hd ht (fun h => kt ((nI_eq hx hy).mp h)) (fun h => kf (fun q => h ((nI_eq hx hy).mpr q)))
theorem n_ne (X : XO κ own cc nL rt δ rm A0 hh) {x y : Nat} {off : Int} (tgt : Nat) (hd : decode cc pc = .ok (.if_icmp .ne off, 3)) (ht : (pc : Int) + off = (tgt : Int)) (hx : x < 2 ^ 31) (hy : y < 2 ^ 31) (kt : ¬ x = y → G κ nL δ K Q cs sl ws lv st tgt) (kf : x = y → G κ nL δ K Q cs sl ws lv st (pc + 3)) : G κ nL δ K Q cs sl ws lv (.int (nI y) :: .int (nI x) :: st) pc :=
  g_icmp_ne X tgt hd ht (fun h => kt (fun q => h ((nI_eq hx hy).mpr q))) (fun h => kf ((nI_eq hx hy).mp h))
theorem n_z0 {x : Nat} (hx : x < 2 ^ 31) : nI x = 0 ↔ x = 0 := nI_eq (b := 0) hx (by decide)
theorem n_ze (X : XO κ own cc nL rt δ rm A0 hh) {x : Nat} {off : Int} (tgt : Nat) (hd : decode cc pc = .ok (.ifCond .eq off, 3)) (ht : (pc : Int) + off = (tgt : Int)) (hx : x < 2 ^ 31) (kt : x = 0 → G κ nL δ K Q cs sl ws lv st tgt) (kf : ¬ x = 0 → G κ nL δ K Q cs sl ws lv st (pc + 3)) : G κ nL δ K Q cs sl ws lv (.int (nI x) :: st) pc :=
  g_if_eq X tgt hd ht (fun h => kt ((n_z0 hx).mp h)) (fun h => kf (fun q => h ((n_z0 hx).mpr q)))
theorem n_zn (X : XO κ own cc nL rt δ rm A0 hh) {x : Nat} {off : Int} (tgt : Nat) (hd : decode cc pc = .ok (.ifCond .ne off, 3)) (ht : (pc : Int) + off = (tgt : Int)) (hx : x < 2 ^ 31) (kt : ¬ x = 0 → G κ nL δ K Q cs sl ws lv st tgt) (kf : x = 0 → G κ nL δ K Q cs sl ws lv st (pc + 3)) : G κ nL δ K Q cs sl ws lv (.int (nI x) :: st) pc :=
  g_if_ne X tgt hd ht (fun h => kt (fun q => h ((n_z0 hx).mpr q))) (fun h => kf ((n_z0 hx).mp h))
theorem n_zl (X : XO κ own cc nL rt δ rm A0 hh) {x : Nat} {off : Int} (tgt : Nat) (hd : decode cc pc = .ok (.ifCond .lt off, 3)) (ht : (pc : Int) + off = (tgt : Int)) (hx : x < 2 ^ 31) (kf : G κ nL δ K Q cs sl ws lv st (pc + 3)) : G κ nL δ K Q cs sl ws lv (.int (nI x) :: st) pc :=
  g_if_lt X tgt hd ht (fun h => absurd h (nI_pos hx)) (fun _ => kf)
theorem z_eq (X : XO κ own cc nL rt δ rm A0 hh) {x : Bool} {off : Int} (tgt : Nat) (hd : decode cc pc = .ok (.ifCond .eq off, 3)) (ht : (pc : Int) + off = (tgt : Int)) (kt : x = false → G κ nL δ K Q cs sl ws lv st tgt) (kf : x = true → G κ nL δ K Q cs sl ws lv st (pc + 3)) : G κ nL δ K Q cs sl ws lv (.int (b2 x) :: st) pc :=
  g_if_eq X tgt hd ht (fun h => kt (b2_0.mp h)) (fun h => kf (b2_t h))
theorem z_ne (X : XO κ own cc nL rt δ rm A0 hh) {x : Bool} {off : Int} (tgt : Nat) (hd : decode cc pc = .ok (.ifCond .ne off, 3)) (ht : (pc : Int) + off = (tgt : Int)) (kt : x = true → G κ nL δ K Q cs sl ws lv st tgt) (kf : x = false → G κ nL δ K Q cs sl ws lv st (pc + 3)) : G κ nL δ K Q cs sl ws lv (.int (b2 x) :: st) pc :=
  g_if_ne X tgt hd ht (fun h => kt (b2_t h)) (fun h => kf (b2_0.mp h))
/-! two long numbers compared, then a branch -/
theorem l_eq (X : XO κ own cc nL rt δ rm A0 hh) {x y : Int64} {off : Int} (tgt : Nat) (h0 : decode cc pc = .ok (.lcmp, 1)) (hd : decode cc (pc + 1) = .ok (.ifCond .eq off, 3)) (ht : ((pc + 1 : Nat) : Int) + off = (tgt : Int)) (kt : x = y → G κ nL δ K Q cs sl ws lv st tgt) (kf : ¬ x = y → G κ nL δ K Q cs sl ws lv st (pc + 1 + 3)) : G κ nL δ K Q cs sl ws lv (.long y :: .long x :: st) pc :=
  g_lcmp X h0 (g_if_eq X tgt hd ht (fun h => kt ((lg_cmp_eq _ _).mp h)) (fun h => kf (fun q => h ((lg_cmp_eq _ _).mpr q))))
theorem l_ne (X : XO κ own cc nL rt δ rm A0 hh) {x y : Int64} {off : Int} (tgt : Nat) (h0 : decode cc pc = .ok (.lcmp, 1)) (hd : decode cc (pc + 1) = .ok (.ifCond .ne off, 3)) (ht : ((pc + 1 : Nat) : Int) + off = (tgt : Int)) (kt : ¬ x = y → G κ nL δ K Q cs sl ws lv st tgt) (kf : x = y → G κ nL δ K Q cs sl ws lv st (pc + 1 + 3)) : G κ nL δ K Q cs sl ws lv (.long y :: .long x :: st) pc :=
  g_lcmp X h0 (g_if_ne X tgt hd ht (fun h => kt (fun q => h ((lg_cmp_eq _ _).mpr q))) (fun h => kf ((lg_cmp_eq _ _).mp h)))
theorem l_lt (X : XO κ own cc nL rt δ rm A0 hh) {x y : Int64} {off : Int} (tgt : Nat) (h0 : decode cc pc = .ok (.lcmp, 1)) (hd : decode cc (pc + 1) = .ok (.ifCond .lt off, 3)) (ht : ((pc + 1 : Nat) : Int) + off = (tgt : Int)) (kt : x < y → G κ nL δ K Q cs sl ws lv st tgt) (kf : ¬ x < y → G κ nL δ K Q cs sl ws lv st (pc + 1 + 3)) : G κ nL δ K Q cs sl ws lv (.long y :: .long x :: st) pc :=
  g_lcmp X h0 (g_if_lt X tgt hd ht (fun h => kt ((lg_cmp_lt _ _).mp h)) (fun h => kf (fun q => h ((lg_cmp_lt _ _).mpr q))))
theorem l_ge (X : XO κ own cc nL rt δ rm A0 hh) {x y : Int64} {off : Int} (tgt : Nat) (h0 : decode cc pc = .ok (.lcmp, 1)) (hd : decode cc (pc + 1) = .ok (.ifCond .ge off, 3)) (ht : ((pc + 1 : Nat) : Int) + off = (tgt : Int)) (kt : ¬ x < y → G κ nL δ K Q cs sl ws lv st tgt) (kf : x < y → G κ nL δ K Q cs sl ws lv st (pc + 1 + 3)) : G κ nL δ K Q cs sl ws lv (.long y :: .long x :: st) pc :=
  g_lcmp X h0 (g_if_ge X tgt hd ht (fun h => kt (Int64.not_lt.mpr ((lg_cmp_ge _ _).mp h))) (fun h => kf (Int64.not_le.mp (fun q => h ((lg_cmp_ge _ _).mpr q)))))
theorem l_gt (X : XO κ own cc nL rt δ rm A0 hh) {x y : Int64} {off : Int} (tgt : Nat) (h0 : decode cc pc = .ok (.lcmp, 1)) (hd : decode cc (pc + 1) = .ok (.ifCond .gt off, 3)) (ht : ((pc + 1 : Nat) : Int) + off = (tgt : Int)) (kt : y < x → G κ nL δ K Q cs sl ws lv st tgt) (kf : ¬ y < x → G κ nL δ K Q cs sl ws lv st (pc + 1 + 3)) : G κ nL δ K Q cs sl ws lv (.long y :: .long x :: st) pc :=
  g_lcmp X h0 (g_if_gt X tgt hd ht (fun h => kt ((lg_cmp_gt _ _).mp h)) (fun h => kf (fun q => h ((lg_cmp_gt _ _).mpr q))))
theorem l_le (X : XO κ own cc nL rt δ rm A0 hh) {x y : Int64} {off : Int} (tgt : Nat) (h0 : decode cc pc = .ok (.lcmp, 1)) (hd : decode cc (pc + 1) = .ok (.ifCond .le off, 3)) (ht : ((pc + 1 : Nat) : Int) + off = (tgt : Int)) (kt : ¬ y < x → G κ nL δ K Q cs sl ws lv st tgt) (kf : y < x → G κ nL δ K Q cs sl ws lv st (pc + 1 + 3)) : G κ nL δ K Q cs sl ws lv (.long y :: .long x :: st) pc :=
  g_lcmp X h0 (g_if_le X tgt hd ht (fun h => kt (Int64.not_lt.mpr ((lg_cmp_le _ _).mp h))) (fun h => kf (Int64.not_le.mp (fun q => h ((lg_cmp_le _ _).mpr q)))))
end RW
