section GU
variable {κ : KX} {cc : ByteArray} {nL : Nat} {rt : Option FieldType} {δ : EX} {rm : Room} {A0 : Nat → Prop} {ws : va_W} {lv : List (Nat × Value)} {pc is : Nat} {tx : String} {P : OC → va_W → Prop}
theorem e1_0 : decode prog_6_method_2_code 0 = .ok (.aload_n 0, 1) := by decide +kernel
theorem e1_1 : decode prog_6_method_2_code 1 = .ok (.aload_n 1, 1) := by decide +kernel
theorem e1_2 : decode prog_6_method_2_code 2 = .ok (.invokespecial 7, 3) := by decide +kernel
theorem e1_5 : decode prog_6_method_2_code 5 = .ok (.return_, 1) := by decide +kernel
theorem e2_0 : decode prog_7_method_2_code 0 = .ok (.aload_n 0, 1) := by decide +kernel
theorem e2_1 : decode prog_7_method_2_code 1 = .ok (.aload_n 1, 1) := by decide +kernel
theorem e2_2 : decode prog_7_method_2_code 2 = .ok (.invokespecial 7, 3) := by decide +kernel
theorem e2_5 : decode prog_7_method_2_code 5 = .ok (.return_, 1) := by decide +kernel
theorem e3_0 : decode prog_13_method_4_code 0 = .ok (.aload_n 0, 1) := by decide +kernel
theorem e3_1 : decode prog_13_method_4_code 1 = .ok (.aload_n 1, 1) := by decide +kernel
theorem e3_2 : decode prog_13_method_4_code 2 = .ok (.invokespecial 13, 3) := by decide +kernel
theorem e3_5 : decode prog_13_method_4_code 5 = .ok (.return_, 1) := by decide +kernel
theorem e4_0 : decode prog_12_method_2_code 0 = .ok (.aload_n 0, 1) := by decide +kernel
theorem e4_1 : decode prog_12_method_2_code 1 = .ok (.aload_n 1, 1) := by decide +kernel
theorem e4_2 : decode prog_12_method_2_code 2 = .ok (.invokespecial 7, 3) := by decide +kernel
theorem e4_5 : decode prog_12_method_2_code 5 = .ok (.return_, 1) := by decide +kernel
theorem x_1 (X : XO κ R_D cc nL rt δ rm A0 []) (hs : Cond.stringRef R_D is tx ∈ gl) (hd0 : decode cc pc = .ok (.new 189, 3)) (hd1 : decode cc (pc + 3) = .ok (.dup, 1)) (hd2 : decode cc (pc + 3 + 1) = .ok (.ldc is, 2)) (hd3 : decode cc (pc + 3 + 1 + 2) = .ok (.invokespecial 193, 3)) (hd4 : decode cc (pc + 3 + 1 + 2 + 3) = .ok (.athrow, 1))
    (hrm : 5 < rm.frames ∧ 82 ≤ rm.locals ∧ 1 ≤ rm.cells ∧ 6 ≤ rm.slots) (hp : P (.inl 1) ws) : G κ nL δ (Kp κ) (Qe κ δ A0 P) 0 0 ws lv [] pc :=
  g_throw X 1 e1_0 e1_1 e1_2 e1_5 at_1 (by decide) kk_D_189 kn_IllegalArgumentException ki_IllegalArgumentException hs hd0 hd1 hd2 hd3 hd4 hrm hp
theorem x_2 (X : XO κ R_D cc nL rt δ rm A0 []) (hs : Cond.stringRef R_D is tx ∈ gl) (hd0 : decode cc pc = .ok (.new 209, 3)) (hd1 : decode cc (pc + 3) = .ok (.dup, 1)) (hd2 : decode cc (pc + 3 + 1) = .ok (.ldc is, 2)) (hd3 : decode cc (pc + 3 + 1 + 2) = .ok (.invokespecial 213, 3)) (hd4 : decode cc (pc + 3 + 1 + 2 + 3) = .ok (.athrow, 1))
    (hrm : 5 < rm.frames ∧ 82 ≤ rm.locals ∧ 1 ≤ rm.cells ∧ 6 ≤ rm.slots) (hp : P (.inl 2) ws) : G κ nL δ (Kp κ) (Qe κ δ A0 P) 0 0 ws lv [] pc :=
  g_throw X 2 e2_0 e2_1 e2_2 e2_5 at_2 (by decide) kk_D_209 kn_IllegalStateException ki_IllegalStateException hs hd0 hd1 hd2 hd3 hd4 hrm hp
theorem x_3 (X : XO κ R_D cc nL rt δ rm A0 []) (hs : Cond.stringRef R_D is tx ∈ gl) (hd0 : decode cc pc = .ok (.new 204, 3)) (hd1 : decode cc (pc + 3) = .ok (.dup, 1)) (hd2 : decode cc (pc + 3 + 1) = .ok (.ldc is, 2)) (hd3 : decode cc (pc + 3 + 1 + 2) = .ok (.invokespecial 208, 3)) (hd4 : decode cc (pc + 3 + 1 + 2 + 3) = .ok (.athrow, 1))
    (hrm : 5 < rm.frames ∧ 82 ≤ rm.locals ∧ 1 ≤ rm.cells ∧ 6 ≤ rm.slots) (hp : P (.inl 3) ws) : G κ nL δ (Kp κ) (Qe κ δ A0 P) 0 0 ws lv [] pc :=
  g_throw X 3 e3_0 e3_1 e3_2 e3_5 at_3 (by decide) kk_D_204 kn_NoSuchElementException ki_NoSuchElementException hs hd0 hd1 hd2 hd3 hd4 hrm hp
theorem x_4 (X : XO κ R_D cc nL rt δ rm A0 []) (hs : Cond.stringRef R_D is tx ∈ gl) (hd0 : decode cc pc = .ok (.new 168, 3)) (hd1 : decode cc (pc + 3) = .ok (.dup, 1)) (hd2 : decode cc (pc + 3 + 1) = .ok (.ldc is, 2)) (hd3 : decode cc (pc + 3 + 1 + 2) = .ok (.invokespecial 172, 3)) (hd4 : decode cc (pc + 3 + 1 + 2 + 3) = .ok (.athrow, 1))
    (hrm : 5 < rm.frames ∧ 82 ≤ rm.locals ∧ 1 ≤ rm.cells ∧ 6 ≤ rm.slots) (hp : P (.inl 4) ws) : G κ nL δ (Kp κ) (Qe κ δ A0 P) 0 0 ws lv [] pc :=
  g_throw X 4 e4_0 e4_1 e4_2 e4_5 at_4 (by decide) kk_D_168 kn_UnsupportedOperationException ki_UnsupportedOperationException hs hd0 hd1 hd2 hd3 hd4 hrm hp
end GU
