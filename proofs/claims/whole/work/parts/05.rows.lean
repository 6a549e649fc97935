section GR
variable {κ : KX} {own : String} {cc : ByteArray} {nL : Nat} {rt : Option FieldType} {δ : EX} {rm : Room} {A0 : Nat → Prop} {hh : List (Nat × Nat × Nat × Nat)} {K : Heap → List Loc → Prop} {Q : State → Prop} {cs sl : Nat} {ws : va_W} {lv : List (Nat × Value)} {st : List Value} {pc : Nat}
theorem g_iconst (X : XO κ own cc nL rt δ rm A0 hh) {i : Int} {v : Int32} (hd : decode cc pc = .ok (.iconst i, 1)) (hv : Int32.ofInt i = v) (n : G κ nL δ K Q cs sl ws lv (.int v :: st) (pc + 1)) : G κ nL δ K Q cs sl ws lv (st) pc :=
  fun H locs ls h hP hK => lv_iconst X.1 X.2.1 hd hv (n H locs ls h hP hK)
theorem g_bipush (X : XO κ own cc nL rt δ rm A0 hh) {i : Int} {v : Int32} (hd : decode cc pc = .ok (.bipush i, 2)) (hv : (Int8.ofInt i).toInt32 = v) (n : G κ nL δ K Q cs sl ws lv (.int v :: st) (pc + 2)) : G κ nL δ K Q cs sl ws lv (st) pc :=
  fun H locs ls h hP hK => lv_bipush X.1 X.2.1 hd hv (n H locs ls h hP hK)
theorem g_sipush (X : XO κ own cc nL rt δ rm A0 hh) {i : Int} {v : Int32} (hd : decode cc pc = .ok (.sipush i, 3)) (hv : (Int16.ofInt i).toInt32 = v) (n : G κ nL δ K Q cs sl ws lv (.int v :: st) (pc + 3)) : G κ nL δ K Q cs sl ws lv (st) pc :=
  fun H locs ls h hP hK => lv_sipush X.1 X.2.1 hd hv (n H locs ls h hP hK)
theorem g_lconst (X : XO κ own cc nL rt δ rm A0 hh) {i : Fin 2} {v : Int64} (hd : decode cc pc = .ok (.lconst i, 1)) (hv : Int64.ofNat (i : Nat) = v) (n : G κ nL δ K Q cs sl ws lv (.long v :: st) (pc + 1)) : G κ nL δ K Q cs sl ws lv (st) pc :=
  fun H locs ls h hP hK => lv_lconst X.1 X.2.1 hd hv (n H locs ls h hP hK)
theorem g_iload_n (X : XO κ own cc nL rt δ rm A0 hh) (i : Nat) {k : Fin 4} {x : Int32} (hd : decode cc pc = .ok (.iload_n k, 1)) (hi : (k : Nat) = i) (hl : lv.lookup i = some (.int x)) (n : G κ nL δ K Q cs sl ws lv (.int x :: st) (pc + 1)) : G κ nL δ K Q cs sl ws lv (st) pc :=
  fun H locs ls h hP hK => lv_iload_n X.1 X.2.1 hd hi (lv_look h hl) (n H locs ls h hP hK)
theorem g_iload (X : XO κ own cc nL rt δ rm A0 hh) {k : Nat} {x : Int32} (hd : decode cc pc = .ok (.iload k, 2)) (hl : lv.lookup k = some (.int x)) (n : G κ nL δ K Q cs sl ws lv (.int x :: st) (pc + 2)) : G κ nL δ K Q cs sl ws lv (st) pc :=
  fun H locs ls h hP hK => lv_iload X.1 X.2.1 hd (lv_look h hl) (n H locs ls h hP hK)
theorem g_istore_n (X : XO κ own cc nL rt δ rm A0 hh) (i : Nat) {k : Fin 4} {x : Int32} (hd : decode cc pc = .ok (.istore_n k, 1)) (hi : (k : Nat) = i) (hn : i < nL) (n : G κ nL δ K Q cs sl ws ((i, Value.int x) :: lvR1 i lv) st (pc + 1)) : G κ nL δ K Q cs sl ws lv (.int x :: st) pc :=
  fun H locs ls h hP hK => lv_istore_n X.1 X.2.1 hd hi h hn rfl (fun ls' h' => n H locs ls' h' hP hK)
theorem g_istore (X : XO κ own cc nL rt δ rm A0 hh) {k : Nat} {x : Int32} (hd : decode cc pc = .ok (.istore k, 2)) (hn : k < nL) (n : G κ nL δ K Q cs sl ws ((k, Value.int x) :: lvR1 k lv) st (pc + 2)) : G κ nL δ K Q cs sl ws lv (.int x :: st) pc :=
  fun H locs ls h hP hK => lv_istore X.1 X.2.1 hd h hn rfl (fun ls' h' => n H locs ls' h' hP hK)
theorem g_lload_n (X : XO κ own cc nL rt δ rm A0 hh) (i : Nat) {k : Fin 4} {x : Int64} (hd : decode cc pc = .ok (.lload_n k, 1)) (hi : (k : Nat) = i) (hl : lv.lookup i = some (.long x)) (n : G κ nL δ K Q cs sl ws lv (.long x :: st) (pc + 1)) : G κ nL δ K Q cs sl ws lv (st) pc :=
  fun H locs ls h hP hK => lv_lload_n X.1 X.2.1 hd hi (lv_look h hl) (n H locs ls h hP hK)
theorem g_lload (X : XO κ own cc nL rt δ rm A0 hh) {k : Nat} {x : Int64} (hd : decode cc pc = .ok (.lload k, 2)) (hl : lv.lookup k = some (.long x)) (n : G κ nL δ K Q cs sl ws lv (.long x :: st) (pc + 2)) : G κ nL δ K Q cs sl ws lv (st) pc :=
  fun H locs ls h hP hK => lv_lload X.1 X.2.1 hd (lv_look h hl) (n H locs ls h hP hK)
theorem g_lstore_n (X : XO κ own cc nL rt δ rm A0 hh) (i : Nat) {k : Fin 4} {x : Int64} (hd : decode cc pc = .ok (.lstore_n k, 1)) (hi : (k : Nat) = i) (hn : i + 1 < nL) (n : G κ nL δ K Q cs sl ws ((i, Value.long x) :: lvR2 i lv) st (pc + 1)) : G κ nL δ K Q cs sl ws lv (.long x :: st) pc :=
  fun H locs ls h hP hK => lv_lstore_n X.1 X.2.1 hd hi h hn rfl (fun ls' h' => n H locs ls' h' hP hK)
theorem g_lstore (X : XO κ own cc nL rt δ rm A0 hh) {k : Nat} {x : Int64} (hd : decode cc pc = .ok (.lstore k, 2)) (hn : k + 1 < nL) (n : G κ nL δ K Q cs sl ws ((k, Value.long x) :: lvR2 k lv) st (pc + 2)) : G κ nL δ K Q cs sl ws lv (.long x :: st) pc :=
  fun H locs ls h hP hK => lv_lstore X.1 X.2.1 hd h hn rfl (fun ls' h' => n H locs ls' h' hP hK)
theorem g_aload_n (X : XO κ own cc nL rt δ rm A0 hh) (i : Nat) {k : Fin 4} {x : Nat} (hd : decode cc pc = .ok (.aload_n k, 1)) (hi : (k : Nat) = i) (hl : lv.lookup i = some (.ref x)) (n : G κ nL δ K Q cs sl ws lv (.ref x :: st) (pc + 1)) : G κ nL δ K Q cs sl ws lv (st) pc :=
  fun H locs ls h hP hK => lv_aload_n X.1 X.2.1 hd hi (lv_look h hl) (n H locs ls h hP hK)
theorem g_aload (X : XO κ own cc nL rt δ rm A0 hh) {k : Nat} {x : Nat} (hd : decode cc pc = .ok (.aload k, 2)) (hl : lv.lookup k = some (.ref x)) (n : G κ nL δ K Q cs sl ws lv (.ref x :: st) (pc + 2)) : G κ nL δ K Q cs sl ws lv (st) pc :=
  fun H locs ls h hP hK => lv_aload X.1 X.2.1 hd (lv_look h hl) (n H locs ls h hP hK)
theorem g_astore_n (X : XO κ own cc nL rt δ rm A0 hh) (i : Nat) {k : Fin 4} {x : Nat} (hd : decode cc pc = .ok (.astore_n k, 1)) (hi : (k : Nat) = i) (hn : i < nL) (n : G κ nL δ K Q cs sl ws ((i, Value.ref x) :: lvR1 i lv) st (pc + 1)) : G κ nL δ K Q cs sl ws lv (.ref x :: st) pc :=
  fun H locs ls h hP hK => lv_astore_n X.1 X.2.1 hd hi h hn rfl (fun ls' h' => n H locs ls' h' hP hK)
theorem g_astore (X : XO κ own cc nL rt δ rm A0 hh) {k : Nat} {x : Nat} (hd : decode cc pc = .ok (.astore k, 2)) (hn : k < nL) (n : G κ nL δ K Q cs sl ws ((k, Value.ref x) :: lvR1 k lv) st (pc + 2)) : G κ nL δ K Q cs sl ws lv (.ref x :: st) pc :=
  fun H locs ls h hP hK => lv_astore X.1 X.2.1 hd h hn rfl (fun ls' h' => n H locs ls' h' hP hK)
theorem g_iadd (X : XO κ own cc nL rt δ rm A0 hh) {x y : Int32} (hd : decode cc pc = .ok (.iadd, 1)) (n : G κ nL δ K Q cs sl ws lv (.int (x + y) :: st) (pc + 1)) : G κ nL δ K Q cs sl ws lv (.int y :: .int x :: st) pc :=
  fun H locs ls h hP hK => lv_iadd X.1 X.2.1 hd (n H locs ls h hP hK)
theorem g_isub (X : XO κ own cc nL rt δ rm A0 hh) {x y : Int32} (hd : decode cc pc = .ok (.isub, 1)) (n : G κ nL δ K Q cs sl ws lv (.int (x - y) :: st) (pc + 1)) : G κ nL δ K Q cs sl ws lv (.int y :: .int x :: st) pc :=
  fun H locs ls h hP hK => lv_isub X.1 X.2.1 hd (n H locs ls h hP hK)
theorem g_imul (X : XO κ own cc nL rt δ rm A0 hh) {x y : Int32} (hd : decode cc pc = .ok (.imul, 1)) (n : G κ nL δ K Q cs sl ws lv (.int (x * y) :: st) (pc + 1)) : G κ nL δ K Q cs sl ws lv (.int y :: .int x :: st) pc :=
  fun H locs ls h hP hK => lv_imul X.1 X.2.1 hd (n H locs ls h hP hK)
theorem g_iand (X : XO κ own cc nL rt δ rm A0 hh) {x y : Int32} (hd : decode cc pc = .ok (.iand, 1)) (n : G κ nL δ K Q cs sl ws lv (.int (x &&& y) :: st) (pc + 1)) : G κ nL δ K Q cs sl ws lv (.int y :: .int x :: st) pc :=
  fun H locs ls h hP hK => lv_iand X.1 X.2.1 hd (n H locs ls h hP hK)
theorem g_ior (X : XO κ own cc nL rt δ rm A0 hh) {x y : Int32} (hd : decode cc pc = .ok (.ior, 1)) (n : G κ nL δ K Q cs sl ws lv (.int (x ||| y) :: st) (pc + 1)) : G κ nL δ K Q cs sl ws lv (.int y :: .int x :: st) pc :=
  fun H locs ls h hP hK => lv_ior X.1 X.2.1 hd (n H locs ls h hP hK)
theorem g_idiv (X : XO κ own cc nL rt δ rm A0 hh) {x y : Int32} (hd : decode cc pc = .ok (.idiv, 1)) (hne : ¬ y = 0) (n : G κ nL δ K Q cs sl ws lv (.int (x / y) :: st) (pc + 1)) : G κ nL δ K Q cs sl ws lv (.int y :: .int x :: st) pc :=
  fun H locs ls h hP hK => lv_idiv X.1 X.2.1 hd hne (n H locs ls h hP hK)
theorem g_irem (X : XO κ own cc nL rt δ rm A0 hh) {x y : Int32} (hd : decode cc pc = .ok (.irem, 1)) (hne : ¬ y = 0) (n : G κ nL δ K Q cs sl ws lv (.int (x - x / y * y) :: st) (pc + 1)) : G κ nL δ K Q cs sl ws lv (.int y :: .int x :: st) pc :=
  fun H locs ls h hP hK => lv_irem X.1 X.2.1 hd hne (n H locs ls h hP hK)
theorem g_ineg (X : XO κ own cc nL rt δ rm A0 hh) {x : Int32} (hd : decode cc pc = .ok (.ineg, 1)) (n : G κ nL δ K Q cs sl ws lv (.int (-x) :: st) (pc + 1)) : G κ nL δ K Q cs sl ws lv (.int x :: st) pc :=
  fun H locs ls h hP hK => lv_ineg X.1 X.2.1 hd (n H locs ls h hP hK)
theorem g_ladd (X : XO κ own cc nL rt δ rm A0 hh) {x y : Int64} (hd : decode cc pc = .ok (.ladd, 1)) (n : G κ nL δ K Q cs sl ws lv (.long (x + y) :: st) (pc + 1)) : G κ nL δ K Q cs sl ws lv (.long y :: .long x :: st) pc :=
  fun H locs ls h hP hK => lv_ladd X.1 X.2.1 hd (n H locs ls h hP hK)
theorem g_lsub (X : XO κ own cc nL rt δ rm A0 hh) {x y : Int64} (hd : decode cc pc = .ok (.lsub, 1)) (n : G κ nL δ K Q cs sl ws lv (.long (x - y) :: st) (pc + 1)) : G κ nL δ K Q cs sl ws lv (.long y :: .long x :: st) pc :=
  fun H locs ls h hP hK => lv_lsub X.1 X.2.1 hd (n H locs ls h hP hK)
theorem g_lmul (X : XO κ own cc nL rt δ rm A0 hh) {x y : Int64} (hd : decode cc pc = .ok (.lmul, 1)) (n : G κ nL δ K Q cs sl ws lv (.long (x * y) :: st) (pc + 1)) : G κ nL δ K Q cs sl ws lv (.long y :: .long x :: st) pc :=
  fun H locs ls h hP hK => lv_lmul X.1 X.2.1 hd (n H locs ls h hP hK)
theorem g_land (X : XO κ own cc nL rt δ rm A0 hh) {x y : Int64} (hd : decode cc pc = .ok (.land, 1)) (n : G κ nL δ K Q cs sl ws lv (.long (x &&& y) :: st) (pc + 1)) : G κ nL δ K Q cs sl ws lv (.long y :: .long x :: st) pc :=
  fun H locs ls h hP hK => lv_land X.1 X.2.1 hd (n H locs ls h hP hK)
theorem g_lor (X : XO κ own cc nL rt δ rm A0 hh) {x y : Int64} (hd : decode cc pc = .ok (.lor, 1)) (n : G κ nL δ K Q cs sl ws lv (.long (x ||| y) :: st) (pc + 1)) : G κ nL δ K Q cs sl ws lv (.long y :: .long x :: st) pc :=
  fun H locs ls h hP hK => lv_lor X.1 X.2.1 hd (n H locs ls h hP hK)
theorem g_ldiv (X : XO κ own cc nL rt δ rm A0 hh) {x y : Int64} (hd : decode cc pc = .ok (.ldiv, 1)) (hne : ¬ y = 0) (n : G κ nL δ K Q cs sl ws lv (.long (x / y) :: st) (pc + 1)) : G κ nL δ K Q cs sl ws lv (.long y :: .long x :: st) pc :=
  fun H locs ls h hP hK => lv_ldiv X.1 X.2.1 hd hne (n H locs ls h hP hK)
theorem g_lneg (X : XO κ own cc nL rt δ rm A0 hh) {x : Int64} (hd : decode cc pc = .ok (.lneg, 1)) (n : G κ nL δ K Q cs sl ws lv (.long (-x) :: st) (pc + 1)) : G κ nL δ K Q cs sl ws lv (.long x :: st) pc :=
  fun H locs ls h hP hK => lv_lneg X.1 X.2.1 hd (n H locs ls h hP hK)
theorem g_i2l (X : XO κ own cc nL rt δ rm A0 hh) {x : Int32} (hd : decode cc pc = .ok (.i2l, 1)) (n : G κ nL δ K Q cs sl ws lv (.long x.toInt64 :: st) (pc + 1)) : G κ nL δ K Q cs sl ws lv (.int x :: st) pc :=
  fun H locs ls h hP hK => lv_i2l X.1 X.2.1 hd rfl (n H locs ls h hP hK)
theorem g_l2i (X : XO κ own cc nL rt δ rm A0 hh) {x : Int64} (hd : decode cc pc = .ok (.l2i, 1)) (n : G κ nL δ K Q cs sl ws lv (.int x.toInt32 :: st) (pc + 1)) : G κ nL δ K Q cs sl ws lv (.long x :: st) pc :=
  fun H locs ls h hP hK => lv_l2i X.1 X.2.1 hd rfl (n H locs ls h hP hK)
theorem g_lshl (X : XO κ own cc nL rt δ rm A0 hh) {x : Int64} {y : Int32} (hd : decode cc pc = .ok (.lshl, 1)) (n : G κ nL δ K Q cs sl ws lv (.long (x <<< (y.toInt64 &&& 63)) :: st) (pc + 1)) : G κ nL δ K Q cs sl ws lv (.int y :: .long x :: st) pc :=
  fun H locs ls h hP hK => lv_lshl X.1 X.2.1 hd rfl (n H locs ls h hP hK)
theorem g_lcmp (X : XO κ own cc nL rt δ rm A0 hh) {x y : Int64} (hd : decode cc pc = .ok (.lcmp, 1)) (n : G κ nL δ K Q cs sl ws lv (.int (lg_cmp x y) :: st) (pc + 1)) : G κ nL δ K Q cs sl ws lv (.long y :: .long x :: st) pc :=
  fun H locs ls h hP hK => W.lcmp X.1 X.2.1 hd (n H locs ls h hP hK)
theorem g_dup (X : XO κ own cc nL rt δ rm A0 hh) {v : Value} (hd : decode cc pc = .ok (.dup, 1)) (hv : v.category = 1) (n : G κ nL δ K Q cs sl ws lv (v :: v :: st) (pc + 1)) : G κ nL δ K Q cs sl ws lv (v :: st) pc :=
  fun H locs ls h hP hK => lv_dup X.1 X.2.1 hd hv (n H locs ls h hP hK)
theorem g_pop (X : XO κ own cc nL rt δ rm A0 hh) {v : Value} (hd : decode cc pc = .ok (.pop, 1)) (hv : v.category = 1) (n : G κ nL δ K Q cs sl ws lv (st) (pc + 1)) : G κ nL δ K Q cs sl ws lv (v :: st) pc :=
  fun H locs ls h hP hK => lv_pop X.1 X.2.1 hd hv (n H locs ls h hP hK)
theorem g_dup_x1 (X : XO κ own cc nL rt δ rm A0 hh) {v u : Value} (hd : decode cc pc = .ok (.dup_x1, 1)) (hv : v.category = 1) (hu : u.category = 1) (n : G κ nL δ K Q cs sl ws lv (v :: u :: v :: st) (pc + 1)) : G κ nL δ K Q cs sl ws lv (v :: u :: st) pc :=
  fun H locs ls h hP hK => lv_dup_x1 X.1 X.2.1 hd hv hu (n H locs ls h hP hK)
theorem g_dup2_11 (X : XO κ own cc nL rt δ rm A0 hh) {v u : Value} (hd : decode cc pc = .ok (.dup2, 1)) (hv : v.category = 1) (hu : u.category = 1) (n : G κ nL δ K Q cs sl ws lv (v :: u :: v :: u :: st) (pc + 1)) : G κ nL δ K Q cs sl ws lv (v :: u :: st) pc :=
  fun H locs ls h hP hK => lv_dup2_11 X.1 X.2.1 hd hv hu (n H locs ls h hP hK)
theorem g_dup2_2 (X : XO κ own cc nL rt δ rm A0 hh) {v : Value} (hd : decode cc pc = .ok (.dup2, 1)) (hv : v.category = 2) (n : G κ nL δ K Q cs sl ws lv (v :: v :: st) (pc + 1)) : G κ nL δ K Q cs sl ws lv (v :: st) pc :=
  fun H locs ls h hP hK => lv_dup2_2 X.1 X.2.1 hd hv (n H locs ls h hP hK)
theorem g_pop2_2 (X : XO κ own cc nL rt δ rm A0 hh) {v : Value} (hd : decode cc pc = .ok (.pop2, 1)) (hv : v.category = 2) (n : G κ nL δ K Q cs sl ws lv (st) (pc + 1)) : G κ nL δ K Q cs sl ws lv (v :: st) pc :=
  fun H locs ls h hP hK => lv_pop2_2 X.1 X.2.1 hd hv (n H locs ls h hP hK)
theorem g_if_eq (X : XO κ own cc nL rt δ rm A0 hh) {x : Int32} {off : Int} (tgt : Nat) (hd : decode cc pc = .ok (.ifCond .eq off, 3)) (ht : (pc : Int) + off = (tgt : Int)) (kt : x = 0 → G κ nL δ K Q cs sl ws lv st tgt) (kf : ¬ x = 0 → G κ nL δ K Q cs sl ws lv st (pc + 3)) : G κ nL δ K Q cs sl ws lv (.int x :: st) pc :=
  fun H locs ls h hP hK => lv_if_eq X.1 X.2.1 hd ht (fun q => kt q H locs ls h hP hK) (fun q => kf q H locs ls h hP hK)
theorem g_icmp_eq (X : XO κ own cc nL rt δ rm A0 hh) {x y : Int32} {off : Int} (tgt : Nat) (hd : decode cc pc = .ok (.if_icmp .eq off, 3)) (ht : (pc : Int) + off = (tgt : Int)) (kt : x = y → G κ nL δ K Q cs sl ws lv st tgt) (kf : ¬ x = y → G κ nL δ K Q cs sl ws lv st (pc + 3)) : G κ nL δ K Q cs sl ws lv (.int y :: .int x :: st) pc :=
  fun H locs ls h hP hK => lv_icmp_eq X.1 X.2.1 hd ht (fun q => kt q H locs ls h hP hK) (fun q => kf q H locs ls h hP hK)
theorem g_if_ne (X : XO κ own cc nL rt δ rm A0 hh) {x : Int32} {off : Int} (tgt : Nat) (hd : decode cc pc = .ok (.ifCond .ne off, 3)) (ht : (pc : Int) + off = (tgt : Int)) (kt : ¬ x = 0 → G κ nL δ K Q cs sl ws lv st tgt) (kf : x = 0 → G κ nL δ K Q cs sl ws lv st (pc + 3)) : G κ nL δ K Q cs sl ws lv (.int x :: st) pc :=
  fun H locs ls h hP hK => lv_if_ne X.1 X.2.1 hd ht (fun q => kt q H locs ls h hP hK) (fun q => kf q H locs ls h hP hK)
theorem g_icmp_ne (X : XO κ own cc nL rt δ rm A0 hh) {x y : Int32} {off : Int} (tgt : Nat) (hd : decode cc pc = .ok (.if_icmp .ne off, 3)) (ht : (pc : Int) + off = (tgt : Int)) (kt : ¬ x = y → G κ nL δ K Q cs sl ws lv st tgt) (kf : x = y → G κ nL δ K Q cs sl ws lv st (pc + 3)) : G κ nL δ K Q cs sl ws lv (.int y :: .int x :: st) pc :=
  fun H locs ls h hP hK => lv_icmp_ne X.1 X.2.1 hd ht (fun q => kt q H locs ls h hP hK) (fun q => kf q H locs ls h hP hK)
theorem g_if_lt (X : XO κ own cc nL rt δ rm A0 hh) {x : Int32} {off : Int} (tgt : Nat) (hd : decode cc pc = .ok (.ifCond .lt off, 3)) (ht : (pc : Int) + off = (tgt : Int)) (kt : x < 0 → G κ nL δ K Q cs sl ws lv st tgt) (kf : ¬ x < 0 → G κ nL δ K Q cs sl ws lv st (pc + 3)) : G κ nL δ K Q cs sl ws lv (.int x :: st) pc :=
  fun H locs ls h hP hK => lv_if_lt X.1 X.2.1 hd ht (fun q => kt q H locs ls h hP hK) (fun q => kf q H locs ls h hP hK)
theorem g_icmp_lt (X : XO κ own cc nL rt δ rm A0 hh) {x y : Int32} {off : Int} (tgt : Nat) (hd : decode cc pc = .ok (.if_icmp .lt off, 3)) (ht : (pc : Int) + off = (tgt : Int)) (kt : x < y → G κ nL δ K Q cs sl ws lv st tgt) (kf : ¬ x < y → G κ nL δ K Q cs sl ws lv st (pc + 3)) : G κ nL δ K Q cs sl ws lv (.int y :: .int x :: st) pc :=
  fun H locs ls h hP hK => lv_icmp_lt X.1 X.2.1 hd ht (fun q => kt q H locs ls h hP hK) (fun q => kf q H locs ls h hP hK)
theorem g_if_ge (X : XO κ own cc nL rt δ rm A0 hh) {x : Int32} {off : Int} (tgt : Nat) (hd : decode cc pc = .ok (.ifCond .ge off, 3)) (ht : (pc : Int) + off = (tgt : Int)) (kt : 0 ≤ x → G κ nL δ K Q cs sl ws lv st tgt) (kf : ¬ 0 ≤ x → G κ nL δ K Q cs sl ws lv st (pc + 3)) : G κ nL δ K Q cs sl ws lv (.int x :: st) pc :=
  fun H locs ls h hP hK => lv_if_ge X.1 X.2.1 hd ht (fun q => kt q H locs ls h hP hK) (fun q => kf q H locs ls h hP hK)
theorem g_icmp_ge (X : XO κ own cc nL rt δ rm A0 hh) {x y : Int32} {off : Int} (tgt : Nat) (hd : decode cc pc = .ok (.if_icmp .ge off, 3)) (ht : (pc : Int) + off = (tgt : Int)) (kt : y ≤ x → G κ nL δ K Q cs sl ws lv st tgt) (kf : ¬ y ≤ x → G κ nL δ K Q cs sl ws lv st (pc + 3)) : G κ nL δ K Q cs sl ws lv (.int y :: .int x :: st) pc :=
  fun H locs ls h hP hK => lv_icmp_ge X.1 X.2.1 hd ht (fun q => kt q H locs ls h hP hK) (fun q => kf q H locs ls h hP hK)
theorem g_if_gt (X : XO κ own cc nL rt δ rm A0 hh) {x : Int32} {off : Int} (tgt : Nat) (hd : decode cc pc = .ok (.ifCond .gt off, 3)) (ht : (pc : Int) + off = (tgt : Int)) (kt : 0 < x → G κ nL δ K Q cs sl ws lv st tgt) (kf : ¬ 0 < x → G κ nL δ K Q cs sl ws lv st (pc + 3)) : G κ nL δ K Q cs sl ws lv (.int x :: st) pc :=
  fun H locs ls h hP hK => lv_if_gt X.1 X.2.1 hd ht (fun q => kt q H locs ls h hP hK) (fun q => kf q H locs ls h hP hK)
theorem g_icmp_gt (X : XO κ own cc nL rt δ rm A0 hh) {x y : Int32} {off : Int} (tgt : Nat) (hd : decode cc pc = .ok (.if_icmp .gt off, 3)) (ht : (pc : Int) + off = (tgt : Int)) (kt : y < x → G κ nL δ K Q cs sl ws lv st tgt) (kf : ¬ y < x → G κ nL δ K Q cs sl ws lv st (pc + 3)) : G κ nL δ K Q cs sl ws lv (.int y :: .int x :: st) pc :=
  fun H locs ls h hP hK => lv_icmp_gt X.1 X.2.1 hd ht (fun q => kt q H locs ls h hP hK) (fun q => kf q H locs ls h hP hK)
theorem g_if_le (X : XO κ own cc nL rt δ rm A0 hh) {x : Int32} {off : Int} (tgt : Nat) (hd : decode cc pc = .ok (.ifCond .le off, 3)) (ht : (pc : Int) + off = (tgt : Int)) (kt : x ≤ 0 → G κ nL δ K Q cs sl ws lv st tgt) (kf : ¬ x ≤ 0 → G κ nL δ K Q cs sl ws lv st (pc + 3)) : G κ nL δ K Q cs sl ws lv (.int x :: st) pc :=
  fun H locs ls h hP hK => lv_if_le X.1 X.2.1 hd ht (fun q => kt q H locs ls h hP hK) (fun q => kf q H locs ls h hP hK)
theorem g_icmp_le (X : XO κ own cc nL rt δ rm A0 hh) {x y : Int32} {off : Int} (tgt : Nat) (hd : decode cc pc = .ok (.if_icmp .le off, 3)) (ht : (pc : Int) + off = (tgt : Int)) (kt : x ≤ y → G κ nL δ K Q cs sl ws lv st tgt) (kf : ¬ x ≤ y → G κ nL δ K Q cs sl ws lv st (pc + 3)) : G κ nL δ K Q cs sl ws lv (.int y :: .int x :: st) pc :=
  fun H locs ls h hP hK => lv_icmp_le X.1 X.2.1 hd ht (fun q => kt q H locs ls h hP hK) (fun q => kf q H locs ls h hP hK)
theorem g_goto (X : XO κ own cc nL rt δ rm A0 hh) {off : Int} (tgt : Nat) (hd : decode cc pc = .ok (.goto off, 3)) (ht : (pc : Int) + off = (tgt : Int)) (n : G κ nL δ K Q cs sl ws lv st tgt) : G κ nL δ K Q cs sl ws lv st pc :=
  fun H locs ls h hP hK => lv_goto X.1 X.2.1 hd ht (n H locs ls h hP hK)
theorem g_iinc (X : XO κ own cc nL rt δ rm A0 hh) {i : Nat} {a : Int} {x v : Int32} (hd : decode cc pc = .ok (.iinc i a, 3)) (hl : lv.lookup i = some (.int x)) (hv : x + Int32.ofInt a = v) (hn : i < nL) (n : G κ nL δ K Q cs sl ws ((i, Value.int v) :: lvR1 i lv) st (pc + 3)) : G κ nL δ K Q cs sl ws lv st pc :=
  fun H locs ls h hP hK => by
    obtain ⟨j, hj⟩ := List.getElem?_of_mem (lv_lookm hl)
    exact lv_iinc X.1 X.2.1 hd h hj hv hn rfl (fun ls' h' => n H locs ls' h' hP hK)
theorem g_ldc2 (X : XO κ own cc nL rt δ rm A0 hh) {i : Nat} {v : Int64} (hd : decode cc pc = .ok (.ldc2_w i, 3)) (hw : Cond.constantLong own i v ∈ gl) (n : G κ nL δ K Q cs sl ws lv (.long v :: st) (pc + 3)) : G κ nL δ K Q cs sl ws lv st pc :=
  fun H locs ls h hP hK => lv_ldc2 X.1 X.2.1 X.ow (X.wd hw) hd (n H locs ls h hP hK)
end GR
